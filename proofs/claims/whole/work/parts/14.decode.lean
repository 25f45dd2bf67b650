theorem dX8_hand_27 : decode cX8_hand 27 = .ok (.aload_n 0, 1) := by decide +kernel
theorem dX8_hand_28 : decode cX8_hand 28 = .ok (.dup, 1) := by decide +kernel
theorem dX8_hand_29 : decode cX8_hand 29 = .ok (.getfield 60, 3) := by decide +kernel
theorem dX8_hand_32 : decode cX8_hand 32 = .ok (.iconst 1, 1) := by decide +kernel
theorem dX8_hand_33 : decode cX8_hand 33 = .ok (.iadd, 1) := by decide +kernel
theorem dX8_hand_34 : decode cX8_hand 34 = .ok (.putfield 60, 3) := by decide +kernel
theorem dX8_hand_37 : decode cX8_hand 37 = .ok (.aload_n 0, 1) := by decide +kernel
theorem dX8_hand_38 : decode cX8_hand 38 = .ok (.getfield 60, 3) := by decide +kernel
theorem dX8_hand_41 : decode cX8_hand 41 = .ok (.iconst 1, 1) := by decide +kernel
theorem dX8_hand_42 : decode cX8_hand 42 = .ok (.isub, 1) := by decide +kernel
theorem dX8_hand_43 : decode cX8_hand 43 = .ok (.ireturn, 1) := by decide +kernel
theorem dX8_sitter_0 : decode cX8_sitter 0 = .ok (.iload_n 1, 1) := by decide +kernel
theorem dX8_sitter_1 : decode cX8_sitter 1 = .ok (.iload_n 2, 1) := by decide +kernel
theorem dX8_sitter_2 : decode cX8_sitter 2 = .ok (.invokestatic 67, 3) := by decide +kernel
theorem dX8_sitter_5 : decode cX8_sitter 5 = .ok (.ifCond .eq 20, 3) := by decide +kernel
theorem dX8_sitter_8 : decode cX8_sitter 8 = .ok (.iload_n 2, 1) := by decide +kernel
theorem dX8_sitter_9 : decode cX8_sitter 9 = .ok (.iconst 5, 1) := by decide +kernel
theorem dX8_sitter_10 : decode cX8_sitter 10 = .ok (.invokestatic 67, 3) := by decide +kernel
theorem dX8_sitter_13 : decode cX8_sitter 13 = .ok (.ifCond .eq 12, 3) := by decide +kernel
theorem dX8_sitter_16 : decode cX8_sitter 16 = .ok (.aload_n 0, 1) := by decide +kernel
theorem dX8_sitter_17 : decode cX8_sitter 17 = .ok (.getfield 75, 3) := by decide +kernel
theorem dX8_sitter_20 : decode cX8_sitter 20 = .ok (.bipush 20, 2) := by decide +kernel
theorem dX8_sitter_22 : decode cX8_sitter 22 = .ok (.if_icmp .lt 5, 3) := by decide +kernel
theorem dX8_sitter_25 : decode cX8_sitter 25 = .ok (.iconst (-1), 1) := by decide +kernel
theorem dX8_sitter_26 : decode cX8_sitter 26 = .ok (.ireturn, 1) := by decide +kernel
theorem dX8_sitter_27 : decode cX8_sitter 27 = .ok (.aload_n 0, 1) := by decide +kernel
theorem dX8_sitter_28 : decode cX8_sitter 28 = .ok (.getfield 28, 3) := by decide +kernel
theorem dX8_sitter_31 : decode cX8_sitter 31 = .ok (.aload_n 0, 1) := by decide +kernel
theorem dX8_sitter_32 : decode cX8_sitter 32 = .ok (.getfield 75, 3) := by decide +kernel
theorem dX8_sitter_35 : decode cX8_sitter 35 = .ok (.new 26, 3) := by decide +kernel
theorem dX8_sitter_38 : decode cX8_sitter 38 = .ok (.dup, 1) := by decide +kernel
theorem dX8_sitter_39 : decode cX8_sitter 39 = .ok (.iload_n 1, 1) := by decide +kernel
theorem dX8_sitter_40 : decode cX8_sitter 40 = .ok (.iload_n 2, 1) := by decide +kernel
theorem dX8_sitter_41 : decode cX8_sitter 41 = .ok (.invokespecial 78, 3) := by decide +kernel
theorem dX8_sitter_44 : decode cX8_sitter 44 = .ok (.aastore, 1) := by decide +kernel
theorem dX8_sitter_45 : decode cX8_sitter 45 = .ok (.aload_n 0, 1) := by decide +kernel
theorem dX8_sitter_46 : decode cX8_sitter 46 = .ok (.dup, 1) := by decide +kernel
theorem dX8_sitter_47 : decode cX8_sitter 47 = .ok (.getfield 75, 3) := by decide +kernel
theorem dX8_sitter_50 : decode cX8_sitter 50 = .ok (.iconst 1, 1) := by decide +kernel
theorem dX8_sitter_51 : decode cX8_sitter 51 = .ok (.iadd, 1) := by decide +kernel
theorem dX8_sitter_52 : decode cX8_sitter 52 = .ok (.putfield 75, 3) := by decide +kernel
theorem dX8_sitter_55 : decode cX8_sitter 55 = .ok (.aload_n 0, 1) := by decide +kernel
theorem dX8_sitter_56 : decode cX8_sitter 56 = .ok (.getfield 75, 3) := by decide +kernel
theorem dX8_sitter_59 : decode cX8_sitter 59 = .ok (.iconst 1, 1) := by decide +kernel
theorem dX8_sitter_60 : decode cX8_sitter 60 = .ok (.isub, 1) := by decide +kernel
theorem dX8_sitter_61 : decode cX8_sitter 61 = .ok (.ireturn, 1) := by decide +kernel
theorem dX8_picture_0 : decode cX8_picture 0 = .ok (.aload_n 0, 1) := by decide +kernel
theorem dX8_picture_1 : decode cX8_picture 1 = .ok (.iload_n 1, 1) := by decide +kernel
theorem dX8_picture_2 : decode cX8_picture 2 = .ok (.invokevirtual 81, 3) := by decide +kernel
theorem dX8_picture_5 : decode cX8_picture 5 = .ok (.astore 5, 2) := by decide +kernel
theorem dX8_picture_7 : decode cX8_picture 7 = .ok (.iload 4, 2) := by decide +kernel
theorem dX8_picture_9 : decode cX8_picture 9 = .ok (.iconst (-1), 1) := by decide +kernel
theorem dX8_picture_10 : decode cX8_picture 10 = .ok (.if_icmp .eq 12, 3) := by decide +kernel
theorem dX8_picture_13 : decode cX8_picture 13 = .ok (.iload 4, 2) := by decide +kernel
theorem dX8_picture_15 : decode cX8_picture 15 = .ok (.iconst 4, 1) := by decide +kernel
theorem dX8_picture_16 : decode cX8_picture 16 = .ok (.invokestatic 67, 3) := by decide +kernel
theorem dX8_picture_19 : decode cX8_picture 19 = .ok (.ifCond .eq 7, 3) := by decide +kernel
theorem dX8_picture_22 : decode cX8_picture 22 = .ok (.iconst 1, 1) := by decide +kernel
theorem dX8_picture_23 : decode cX8_picture 23 = .ok (.goto 4, 3) := by decide +kernel
theorem dX8_picture_26 : decode cX8_picture 26 = .ok (.iconst 0, 1) := by decide +kernel
theorem dX8_picture_27 : decode cX8_picture 27 = .ok (.istore 6, 2) := by decide +kernel
theorem dX8_picture_29 : decode cX8_picture 29 = .ok (.aload 5, 2) := by decide +kernel
theorem dX8_picture_31 : decode cX8_picture 31 = .ok (.ifnull 32, 3) := by decide +kernel
theorem dX8_picture_34 : decode cX8_picture 34 = .ok (.iload_n 2, 1) := by decide +kernel
theorem dX8_picture_35 : decode cX8_picture 35 = .ok (.iconst 3, 1) := by decide +kernel
theorem dX8_picture_36 : decode cX8_picture 36 = .ok (.invokestatic 67, 3) := by decide +kernel
theorem dX8_picture_39 : decode cX8_picture 39 = .ok (.ifCond .eq 24, 3) := by decide +kernel
theorem dX8_picture_42 : decode cX8_picture 42 = .ok (.iload_n 3, 1) := by decide +kernel
theorem dX8_picture_43 : decode cX8_picture 43 = .ok (.invokestatic 85, 3) := by decide +kernel
theorem dX8_picture_46 : decode cX8_picture 46 = .ok (.ifCond .eq 17, 3) := by decide +kernel
theorem dX8_picture_49 : decode cX8_picture 49 = .ok (.iload 6, 2) := by decide +kernel
theorem dX8_picture_51 : decode cX8_picture 51 = .ok (.ifCond .eq 12, 3) := by decide +kernel
theorem dX8_picture_54 : decode cX8_picture 54 = .ok (.aload_n 0, 1) := by decide +kernel
theorem dX8_picture_55 : decode cX8_picture 55 = .ok (.getfield 89, 3) := by decide +kernel
theorem dX8_picture_58 : decode cX8_picture 58 = .ok (.bipush 40, 2) := by decide +kernel
theorem dX8_picture_60 : decode cX8_picture 60 = .ok (.if_icmp .lt 5, 3) := by decide +kernel
theorem dX8_picture_63 : decode cX8_picture 63 = .ok (.iconst (-1), 1) := by decide +kernel
theorem dX8_picture_64 : decode cX8_picture 64 = .ok (.ireturn, 1) := by decide +kernel
theorem dX8_picture_65 : decode cX8_picture 65 = .ok (.aload_n 0, 1) := by decide +kernel
theorem dX8_picture_66 : decode cX8_picture 66 = .ok (.getfield 12, 3) := by decide +kernel
theorem dX8_picture_69 : decode cX8_picture 69 = .ok (.aload_n 0, 1) := by decide +kernel
theorem dX8_picture_70 : decode cX8_picture 70 = .ok (.getfield 92, 3) := by decide +kernel
theorem dX8_picture_73 : decode cX8_picture 73 = .ok (.sipush 365, 3) := by decide +kernel
theorem dX8_picture_76 : decode cX8_picture 76 = .ok (.idiv, 1) := by decide +kernel
theorem dX8_picture_77 : decode cX8_picture 77 = .ok (.iload_n 2, 1) := by decide +kernel
theorem dX8_picture_78 : decode cX8_picture 78 = .ok (.invokevirtual 95, 3) := by decide +kernel
theorem dX8_picture_81 : decode cX8_picture 81 = .ok (.istore 7, 2) := by decide +kernel
theorem dX8_picture_83 : decode cX8_picture 83 = .ok (.aload_n 0, 1) := by decide +kernel
theorem dX8_picture_84 : decode cX8_picture 84 = .ok (.getfield 34, 3) := by decide +kernel
theorem dX8_picture_87 : decode cX8_picture 87 = .ok (.aload_n 0, 1) := by decide +kernel
theorem dX8_picture_88 : decode cX8_picture 88 = .ok (.getfield 89, 3) := by decide +kernel
theorem dX8_picture_91 : decode cX8_picture 91 = .ok (.new 32, 3) := by decide +kernel
theorem dX8_picture_94 : decode cX8_picture 94 = .ok (.dup, 1) := by decide +kernel
theorem dX8_picture_95 : decode cX8_picture 95 = .ok (.iload_n 1, 1) := by decide +kernel
theorem dX8_picture_96 : decode cX8_picture 96 = .ok (.iload_n 3, 1) := by decide +kernel
theorem dX8_picture_97 : decode cX8_picture 97 = .ok (.iload 4, 2) := by decide +kernel
theorem dX8_picture_99 : decode cX8_picture 99 = .ok (.iload 7, 2) := by decide +kernel
theorem dX8_picture_101 : decode cX8_picture 101 = .ok (.aload_n 0, 1) := by decide +kernel
theorem dX8_picture_102 : decode cX8_picture 102 = .ok (.getfield 92, 3) := by decide +kernel
theorem dX8_picture_105 : decode cX8_picture 105 = .ok (.invokespecial 99, 3) := by decide +kernel
theorem dX8_picture_108 : decode cX8_picture 108 = .ok (.aastore, 1) := by decide +kernel
theorem dX8_picture_109 : decode cX8_picture 109 = .ok (.aload_n 0, 1) := by decide +kernel
theorem dX8_picture_110 : decode cX8_picture 110 = .ok (.dup, 1) := by decide +kernel
theorem dX8_picture_111 : decode cX8_picture 111 = .ok (.getfield 89, 3) := by decide +kernel
theorem dX8_picture_114 : decode cX8_picture 114 = .ok (.iconst 1, 1) := by decide +kernel
theorem dX8_picture_115 : decode cX8_picture 115 = .ok (.iadd, 1) := by decide +kernel
theorem dX8_picture_116 : decode cX8_picture 116 = .ok (.putfield 89, 3) := by decide +kernel
theorem dX8_picture_119 : decode cX8_picture 119 = .ok (.aload_n 0, 1) := by decide +kernel
theorem dX8_picture_120 : decode cX8_picture 120 = .ok (.dup, 1) := by decide +kernel
theorem dX8_picture_121 : decode cX8_picture 121 = .ok (.getfield 102, 3) := by decide +kernel
theorem dX8_picture_124 : decode cX8_picture 124 = .ok (.iload 7, 2) := by decide +kernel
theorem dX8_picture_126 : decode cX8_picture 126 = .ok (.iadd, 1) := by decide +kernel
theorem dX8_picture_127 : decode cX8_picture 127 = .ok (.putfield 102, 3) := by decide +kernel
theorem dX8_picture_130 : decode cX8_picture 130 = .ok (.aload 5, 2) := by decide +kernel
theorem dX8_picture_132 : decode cX8_picture 132 = .ok (.dup, 1) := by decide +kernel
theorem dX8_picture_133 : decode cX8_picture 133 = .ok (.getfield 105, 3) := by decide +kernel
theorem dX8_picture_136 : decode cX8_picture 136 = .ok (.iload 7, 2) := by decide +kernel
theorem dX8_picture_138 : decode cX8_picture 138 = .ok (.iconst 2, 1) := by decide +kernel
theorem dX8_picture_139 : decode cX8_picture 139 = .ok (.idiv, 1) := by decide +kernel
theorem dX8_picture_140 : decode cX8_picture 140 = .ok (.iadd, 1) := by decide +kernel
theorem dX8_picture_141 : decode cX8_picture 141 = .ok (.putfield 105, 3) := by decide +kernel
theorem dX8_picture_144 : decode cX8_picture 144 = .ok (.aload_n 0, 1) := by decide +kernel
theorem dX8_picture_145 : decode cX8_picture 145 = .ok (.getfield 89, 3) := by decide +kernel
theorem dX8_picture_148 : decode cX8_picture 148 = .ok (.iconst 1, 1) := by decide +kernel
theorem dX8_picture_149 : decode cX8_picture 149 = .ok (.isub, 1) := by decide +kernel
theorem dX8_picture_150 : decode cX8_picture 150 = .ok (.ireturn, 1) := by decide +kernel
theorem dX8_go_0 : decode cX8_go 0 = .ok (.iload_n 1, 1) := by decide +kernel
theorem dX8_go_1 : decode cX8_go 1 = .ok (.sipush 1000, 3) := by decide +kernel
theorem dX8_go_4 : decode cX8_go 4 = .ok (.invokestatic 67, 3) := by decide +kernel
theorem dX8_go_7 : decode cX8_go 7 = .ok (.ifCond .ne 5, 3) := by decide +kernel
theorem dX8_go_10 : decode cX8_go 10 = .ok (.iconst (-1), 1) := by decide +kernel
theorem dX8_go_11 : decode cX8_go 11 = .ok (.ireturn, 1) := by decide +kernel
theorem dX8_go_12 : decode cX8_go 12 = .ok (.aload_n 0, 1) := by decide +kernel
theorem dX8_go_13 : decode cX8_go 13 = .ok (.aload_n 0, 1) := by decide +kernel
theorem dX8_go_14 : decode cX8_go 14 = .ok (.getfield 92, 3) := by decide +kernel
theorem dX8_go_17 : decode cX8_go 17 = .ok (.iload_n 1, 1) := by decide +kernel
theorem dX8_go_18 : decode cX8_go 18 = .ok (.iadd, 1) := by decide +kernel
theorem dX8_go_19 : decode cX8_go 19 = .ok (.sipush 20000, 3) := by decide +kernel
theorem dX8_go_22 : decode cX8_go 22 = .ok (.invokestatic 108, 3) := by decide +kernel
theorem dX8_go_25 : decode cX8_go 25 = .ok (.putfield 92, 3) := by decide +kernel
theorem dX8_go_28 : decode cX8_go 28 = .ok (.aload_n 0, 1) := by decide +kernel
theorem dX8_go_29 : decode cX8_go 29 = .ok (.getfield 92, 3) := by decide +kernel
theorem dX8_go_32 : decode cX8_go 32 = .ok (.ireturn, 1) := by decide +kernel
theorem dX8_light_0 : decode cX8_light 0 = .ok (.iload_n 1, 1) := by decide +kernel
theorem dX8_light_1 : decode cX8_light 1 = .ok (.sipush 20000, 3) := by decide +kernel
theorem dX8_light_4 : decode cX8_light 4 = .ok (.invokestatic 67, 3) := by decide +kernel
theorem dX8_light_7 : decode cX8_light 7 = .ok (.ifCond .eq 10, 3) := by decide +kernel
theorem dX8_light_10 : decode cX8_light 10 = .ok (.iload_n 1, 1) := by decide +kernel
theorem dX8_light_11 : decode cX8_light 11 = .ok (.invokestatic 113, 3) := by decide +kernel
theorem dX8_light_14 : decode cX8_light 14 = .ok (.goto 4, 3) := by decide +kernel
theorem dX8_light_17 : decode cX8_light 17 = .ok (.iconst (-1), 1) := by decide +kernel
theorem dX8_light_18 : decode cX8_light 18 = .ok (.ireturn, 1) := by decide +kernel
theorem dX8_book_0 : decode cX8_book 0 = .ok (.aload_n 0, 1) := by decide +kernel
theorem dX8_book_1 : decode cX8_book 1 = .ok (.iload_n 1, 1) := by decide +kernel
theorem dX8_book_2 : decode cX8_book 2 = .ok (.invokevirtual 117, 3) := by decide +kernel
theorem dX8_book_5 : decode cX8_book 5 = .ok (.astore 4, 2) := by decide +kernel
theorem dX8_book_7 : decode cX8_book 7 = .ok (.aload 4, 2) := by decide +kernel
theorem dX8_book_9 : decode cX8_book 9 = .ok (.ifnull 19, 3) := by decide +kernel
theorem dX8_book_12 : decode cX8_book 12 = .ok (.aload 4, 2) := by decide +kernel
theorem dX8_book_14 : decode cX8_book 14 = .ok (.invokevirtual 121, 3) := by decide +kernel
theorem dX8_book_17 : decode cX8_book 17 = .ok (.ifCond .ne 11, 3) := by decide +kernel
theorem dX8_book_20 : decode cX8_book 20 = .ok (.aload_n 0, 1) := by decide +kernel
theorem dX8_book_21 : decode cX8_book 21 = .ok (.iload_n 2, 1) := by decide +kernel
theorem dX8_book_22 : decode cX8_book 22 = .ok (.invokevirtual 125, 3) := by decide +kernel
theorem dX8_book_25 : decode cX8_book 25 = .ok (.ifCond .ne 5, 3) := by decide +kernel
theorem dX8_book_28 : decode cX8_book 28 = .ok (.iconst 0, 1) := by decide +kernel
theorem dX8_book_29 : decode cX8_book 29 = .ok (.ireturn, 1) := by decide +kernel
theorem dX8_book_30 : decode cX8_book 30 = .ok (.aload_n 0, 1) := by decide +kernel
theorem dX8_book_31 : decode cX8_book 31 = .ok (.aload 4, 2) := by decide +kernel
theorem dX8_book_33 : decode cX8_book 33 = .ok (.getfield 128, 3) := by decide +kernel
theorem dX8_book_36 : decode cX8_book 36 = .ok (.invokevirtual 81, 3) := by decide +kernel
theorem dX8_book_39 : decode cX8_book 39 = .ok (.astore 5, 2) := by decide +kernel
theorem dX8_book_41 : decode cX8_book 41 = .ok (.aload 5, 2) := by decide +kernel
theorem dX8_book_43 : decode cX8_book 43 = .ok (.ifnull 71, 3) := by decide +kernel
theorem dX8_book_46 : decode cX8_book 46 = .ok (.iload_n 3, 1) := by decide +kernel
theorem dX8_book_47 : decode cX8_book 47 = .ok (.iload_n 2, 1) := by decide +kernel
theorem dX8_book_48 : decode cX8_book 48 = .ok (.invokestatic 113, 3) := by decide +kernel
theorem dX8_book_51 : decode cX8_book 51 = .ok (.iconst 1, 1) := by decide +kernel
theorem dX8_book_52 : decode cX8_book 52 = .ok (.isub, 1) := by decide +kernel
theorem dX8_book_53 : decode cX8_book 53 = .ok (.invokestatic 67, 3) := by decide +kernel
theorem dX8_book_56 : decode cX8_book 56 = .ok (.ifCond .eq 58, 3) := by decide +kernel
theorem dX8_book_59 : decode cX8_book 59 = .ok (.aload 5, 2) := by decide +kernel
theorem dX8_book_61 : decode cX8_book 61 = .ok (.iload_n 3, 1) := by decide +kernel
theorem dX8_book_62 : decode cX8_book 62 = .ok (.invokevirtual 131, 3) := by decide +kernel
theorem dX8_book_65 : decode cX8_book 65 = .ok (.ifCond .eq 49, 3) := by decide +kernel
theorem dX8_book_68 : decode cX8_book 68 = .ok (.aload_n 0, 1) := by decide +kernel
theorem dX8_book_69 : decode cX8_book 69 = .ok (.getfield 41, 3) := by decide +kernel
theorem dX8_book_72 : decode cX8_book 72 = .ok (.iload_n 2, 1) := by decide +kernel
theorem dX8_book_73 : decode cX8_book 73 = .ok (.iload_n 3, 1) := by decide +kernel
theorem dX8_book_74 : decode cX8_book 74 = .ok (.invokevirtual 134, 3) := by decide +kernel
theorem dX8_book_77 : decode cX8_book 77 = .ok (.ifCond .ne 37, 3) := by decide +kernel
theorem dX8_book_80 : decode cX8_book 80 = .ok (.aload_n 0, 1) := by decide +kernel
theorem dX8_book_81 : decode cX8_book 81 = .ok (.getfield 41, 3) := by decide +kernel
theorem dX8_book_84 : decode cX8_book 84 = .ok (.iload_n 2, 1) := by decide +kernel
theorem dX8_book_85 : decode cX8_book 85 = .ok (.aload 4, 2) := by decide +kernel
theorem dX8_book_87 : decode cX8_book 87 = .ok (.getfield 128, 3) := by decide +kernel
theorem dX8_book_90 : decode cX8_book 90 = .ok (.invokevirtual 137, 3) := by decide +kernel
theorem dX8_book_93 : decode cX8_book 93 = .ok (.ifCond .ne 21, 3) := by decide +kernel
theorem dX8_book_96 : decode cX8_book 96 = .ok (.aload_n 0, 1) := by decide +kernel
theorem dX8_book_97 : decode cX8_book 97 = .ok (.getfield 41, 3) := by decide +kernel
theorem dX8_book_100 : decode cX8_book 100 = .ok (.iload_n 1, 1) := by decide +kernel
theorem dX8_book_101 : decode cX8_book 101 = .ok (.aload 4, 2) := by decide +kernel
theorem dX8_book_103 : decode cX8_book 103 = .ok (.getfield 128, 3) := by decide +kernel
theorem dX8_book_106 : decode cX8_book 106 = .ok (.iload_n 2, 1) := by decide +kernel
theorem dX8_book_107 : decode cX8_book 107 = .ok (.iload_n 3, 1) := by decide +kernel
theorem dX8_book_108 : decode cX8_book 108 = .ok (.invokevirtual 140, 3) := by decide +kernel
theorem dX8_book_111 : decode cX8_book 111 = .ok (.ifCond .ne 5, 3) := by decide +kernel
theorem dX8_book_114 : decode cX8_book 114 = .ok (.iconst 0, 1) := by decide +kernel
theorem dX8_book_115 : decode cX8_book 115 = .ok (.ireturn, 1) := by decide +kernel
theorem dX8_book_116 : decode cX8_book 116 = .ok (.aload 4, 2) := by decide +kernel
theorem dX8_book_118 : decode cX8_book 118 = .ok (.dup, 1) := by decide +kernel
theorem dX8_book_119 : decode cX8_book 119 = .ok (.getfield 143, 3) := by decide +kernel
theorem dX8_book_122 : decode cX8_book 122 = .ok (.iconst 1, 1) := by decide +kernel
theorem dX8_book_123 : decode cX8_book 123 = .ok (.iadd, 1) := by decide +kernel
theorem dX8_book_124 : decode cX8_book 124 = .ok (.putfield 143, 3) := by decide +kernel
theorem dX8_book_127 : decode cX8_book 127 = .ok (.iconst 1, 1) := by decide +kernel
theorem dX8_book_128 : decode cX8_book 128 = .ok (.ireturn, 1) := by decide +kernel
theorem dX8_unbook_0 : decode cX8_unbook 0 = .ok (.aload_n 0, 1) := by decide +kernel
theorem dX8_unbook_1 : decode cX8_unbook 1 = .ok (.iload_n 1, 1) := by decide +kernel
theorem dX8_unbook_2 : decode cX8_unbook 2 = .ok (.invokevirtual 117, 3) := by decide +kernel
theorem dX8_unbook_5 : decode cX8_unbook 5 = .ok (.astore_n 3, 1) := by decide +kernel
theorem dX8_unbook_6 : decode cX8_unbook 6 = .ok (.aload_n 3, 1) := by decide +kernel
theorem dX8_unbook_7 : decode cX8_unbook 7 = .ok (.ifnull 11, 3) := by decide +kernel
theorem dX8_unbook_10 : decode cX8_unbook 10 = .ok (.aload_n 0, 1) := by decide +kernel
theorem dX8_unbook_11 : decode cX8_unbook 11 = .ok (.iload_n 2, 1) := by decide +kernel
theorem dX8_unbook_12 : decode cX8_unbook 12 = .ok (.invokevirtual 125, 3) := by decide +kernel
theorem dX8_unbook_15 : decode cX8_unbook 15 = .ok (.ifCond .ne 5, 3) := by decide +kernel
theorem dX8_unbook_18 : decode cX8_unbook 18 = .ok (.iconst 0, 1) := by decide +kernel
theorem dX8_unbook_19 : decode cX8_unbook 19 = .ok (.ireturn, 1) := by decide +kernel
theorem dX8_unbook_20 : decode cX8_unbook 20 = .ok (.aload_n 0, 1) := by decide +kernel
theorem dX8_unbook_21 : decode cX8_unbook 21 = .ok (.getfield 41, 3) := by decide +kernel
theorem dX8_unbook_24 : decode cX8_unbook 24 = .ok (.iload_n 1, 1) := by decide +kernel
theorem dX8_unbook_25 : decode cX8_unbook 25 = .ok (.iload_n 2, 1) := by decide +kernel
theorem dX8_unbook_26 : decode cX8_unbook 26 = .ok (.invokevirtual 146, 3) := by decide +kernel
theorem dX8_unbook_29 : decode cX8_unbook 29 = .ok (.istore 4, 2) := by decide +kernel
theorem dX8_unbook_31 : decode cX8_unbook 31 = .ok (.iload 4, 2) := by decide +kernel
theorem dX8_unbook_33 : decode cX8_unbook 33 = .ok (.iconst (-1), 1) := by decide +kernel
theorem dX8_unbook_34 : decode cX8_unbook 34 = .ok (.if_icmp .ne 5, 3) := by decide +kernel
theorem dX8_unbook_37 : decode cX8_unbook 37 = .ok (.iconst 0, 1) := by decide +kernel
theorem dX8_unbook_38 : decode cX8_unbook 38 = .ok (.ireturn, 1) := by decide +kernel
theorem dX8_unbook_39 : decode cX8_unbook 39 = .ok (.aload_n 0, 1) := by decide +kernel
theorem dX8_unbook_40 : decode cX8_unbook 40 = .ok (.getfield 41, 3) := by decide +kernel
theorem dX8_unbook_43 : decode cX8_unbook 43 = .ok (.iload 4, 2) := by decide +kernel
theorem dX8_unbook_45 : decode cX8_unbook 45 = .ok (.invokevirtual 149, 3) := by decide +kernel
theorem dX8_unbook_48 : decode cX8_unbook 48 = .ok (.aload_n 3, 1) := by decide +kernel
theorem dX8_unbook_49 : decode cX8_unbook 49 = .ok (.dup, 1) := by decide +kernel
theorem dX8_unbook_50 : decode cX8_unbook 50 = .ok (.getfield 143, 3) := by decide +kernel
theorem dX8_unbook_53 : decode cX8_unbook 53 = .ok (.iconst 1, 1) := by decide +kernel
theorem dX8_unbook_54 : decode cX8_unbook 54 = .ok (.isub, 1) := by decide +kernel
theorem dX8_unbook_55 : decode cX8_unbook 55 = .ok (.putfield 143, 3) := by decide +kernel
theorem dX8_unbook_58 : decode cX8_unbook 58 = .ok (.iconst 1, 1) := by decide +kernel
theorem dX8_unbook_59 : decode cX8_unbook 59 = .ok (.ireturn, 1) := by decide +kernel
theorem dX8_paint_0 : decode cX8_paint 0 = .ok (.aload_n 0, 1) := by decide +kernel
theorem dX8_paint_1 : decode cX8_paint 1 = .ok (.iload_n 1, 1) := by decide +kernel
theorem dX8_paint_2 : decode cX8_paint 2 = .ok (.iload_n 2, 1) := by decide +kernel
theorem dX8_paint_3 : decode cX8_paint 3 = .ok (.iload_n 3, 1) := by decide +kernel
theorem dX8_paint_4 : decode cX8_paint 4 = .ok (.invokevirtual 153, 3) := by decide +kernel
theorem dX8_paint_7 : decode cX8_paint 7 = .ok (.istore 4, 2) := by decide +kernel
theorem dX8_paint_9 : decode cX8_paint 9 = .ok (.iload 4, 2) := by decide +kernel
theorem dX8_paint_11 : decode cX8_paint 11 = .ok (.ifCond .ne 10, 3) := by decide +kernel
theorem dX8_paint_14 : decode cX8_paint 14 = .ok (.aload_n 0, 1) := by decide +kernel
theorem dX8_paint_15 : decode cX8_paint 15 = .ok (.iload_n 1, 1) := by decide +kernel
theorem dX8_paint_16 : decode cX8_paint 16 = .ok (.iload_n 2, 1) := by decide +kernel
theorem dX8_paint_17 : decode cX8_paint 17 = .ok (.iload_n 3, 1) := by decide +kernel
theorem dX8_paint_18 : decode cX8_paint 18 = .ok (.invokevirtual 157, 3) := by decide +kernel
theorem dX8_paint_21 : decode cX8_paint 21 = .ok (.iload 4, 2) := by decide +kernel
theorem dX8_paint_23 : decode cX8_paint 23 = .ok (.ireturn, 1) := by decide +kernel
theorem dX8_pay_0 : decode cX8_pay 0 = .ok (.aload_n 0, 1) := by decide +kernel
theorem dX8_pay_1 : decode cX8_pay 1 = .ok (.iload_n 1, 1) := by decide +kernel
theorem dX8_pay_2 : decode cX8_pay 2 = .ok (.invokevirtual 81, 3) := by decide +kernel
theorem dX8_pay_5 : decode cX8_pay 5 = .ok (.astore_n 3, 1) := by decide +kernel
theorem dX8_pay_6 : decode cX8_pay 6 = .ok (.aload_n 3, 1) := by decide +kernel
theorem dX8_pay_7 : decode cX8_pay 7 = .ok (.ifnull 16, 3) := by decide +kernel
theorem dX8_pay_10 : decode cX8_pay 10 = .ok (.iload_n 2, 1) := by decide +kernel
theorem dX8_pay_11 : decode cX8_pay 11 = .ok (.iconst 1, 1) := by decide +kernel
theorem dX8_pay_12 : decode cX8_pay 12 = .ok (.if_icmp .lt 11, 3) := by decide +kernel
theorem dX8_pay_15 : decode cX8_pay 15 = .ok (.iload_n 2, 1) := by decide +kernel
theorem dX8_pay_16 : decode cX8_pay 16 = .ok (.aload_n 3, 1) := by decide +kernel
theorem dX8_pay_17 : decode cX8_pay 17 = .ok (.getfield 105, 3) := by decide +kernel
theorem dX8_pay_20 : decode cX8_pay 20 = .ok (.if_icmp .le 5, 3) := by decide +kernel
theorem dX8_pay_23 : decode cX8_pay 23 = .ok (.iconst (-1), 1) := by decide +kernel
theorem dX8_pay_24 : decode cX8_pay 24 = .ok (.ireturn, 1) := by decide +kernel
theorem dX8_pay_25 : decode cX8_pay 25 = .ok (.aload_n 3, 1) := by decide +kernel
theorem dX8_pay_26 : decode cX8_pay 26 = .ok (.dup, 1) := by decide +kernel
theorem dX8_pay_27 : decode cX8_pay 27 = .ok (.getfield 105, 3) := by decide +kernel
theorem dX8_pay_30 : decode cX8_pay 30 = .ok (.iload_n 2, 1) := by decide +kernel
theorem dX8_pay_31 : decode cX8_pay 31 = .ok (.isub, 1) := by decide +kernel
theorem dX8_pay_32 : decode cX8_pay 32 = .ok (.putfield 105, 3) := by decide +kernel
theorem dX8_pay_35 : decode cX8_pay 35 = .ok (.aload_n 0, 1) := by decide +kernel
theorem dX8_pay_36 : decode cX8_pay 36 = .ok (.dup, 1) := by decide +kernel
theorem dX8_pay_37 : decode cX8_pay 37 = .ok (.getfield 161, 3) := by decide +kernel
theorem dX8_pay_40 : decode cX8_pay 40 = .ok (.iload_n 2, 1) := by decide +kernel
theorem dX8_pay_41 : decode cX8_pay 41 = .ok (.iadd, 1) := by decide +kernel
theorem dX8_pay_42 : decode cX8_pay 42 = .ok (.putfield 161, 3) := by decide +kernel
theorem dX8_pay_45 : decode cX8_pay 45 = .ok (.aload_n 3, 1) := by decide +kernel
theorem dX8_pay_46 : decode cX8_pay 46 = .ok (.getfield 105, 3) := by decide +kernel
theorem dX8_pay_49 : decode cX8_pay 49 = .ok (.ireturn, 1) := by decide +kernel
theorem dX8_planned_0 : decode cX8_planned 0 = .ok (.aload_n 0, 1) := by decide +kernel
theorem dX8_planned_1 : decode cX8_planned 1 = .ok (.iload_n 1, 1) := by decide +kernel
theorem dX8_planned_2 : decode cX8_planned 2 = .ok (.invokevirtual 164, 3) := by decide +kernel
theorem dX8_planned_5 : decode cX8_planned 5 = .ok (.ifCond .eq 14, 3) := by decide +kernel
theorem dX8_planned_8 : decode cX8_planned 8 = .ok (.aload_n 0, 1) := by decide +kernel
theorem dX8_planned_9 : decode cX8_planned 9 = .ok (.getfield 55, 3) := by decide +kernel
theorem dX8_planned_12 : decode cX8_planned 12 = .ok (.iload_n 2, 1) := by decide +kernel
theorem dX8_planned_13 : decode cX8_planned 13 = .ok (.invokevirtual 167, 3) := by decide +kernel
theorem dX8_planned_16 : decode cX8_planned 16 = .ok (.goto 4, 3) := by decide +kernel
theorem dX8_planned_19 : decode cX8_planned 19 = .ok (.iconst (-1), 1) := by decide +kernel
theorem dX8_planned_20 : decode cX8_planned 20 = .ok (.ireturn, 1) := by decide +kernel
theorem dX8_worth_0 : decode cX8_worth 0 = .ok (.aload_n 0, 1) := by decide +kernel
theorem dX8_worth_1 : decode cX8_worth 1 = .ok (.iload_n 1, 1) := by decide +kernel
theorem dX8_worth_2 : decode cX8_worth 2 = .ok (.invokevirtual 164, 3) := by decide +kernel
theorem dX8_worth_5 : decode cX8_worth 5 = .ok (.ifCond .eq 13, 3) := by decide +kernel
theorem dX8_worth_8 : decode cX8_worth 8 = .ok (.aload_n 0, 1) := by decide +kernel
theorem dX8_worth_9 : decode cX8_worth 9 = .ok (.getfield 55, 3) := by decide +kernel
theorem dX8_worth_12 : decode cX8_worth 12 = .ok (.getfield 170, 3) := by decide +kernel
theorem dX8_worth_15 : decode cX8_worth 15 = .ok (.goto 4, 3) := by decide +kernel
theorem dX8_worth_18 : decode cX8_worth 18 = .ok (.iconst (-1), 1) := by decide +kernel
theorem dX8_worth_19 : decode cX8_worth 19 = .ok (.ireturn, 1) := by decide +kernel
theorem dX8_trace_0 : decode cX8_trace 0 = .ok (.aload_n 0, 1) := by decide +kernel
theorem dX8_trace_1 : decode cX8_trace 1 = .ok (.iload_n 1, 1) := by decide +kernel
theorem dX8_trace_2 : decode cX8_trace 2 = .ok (.invokevirtual 117, 3) := by decide +kernel
theorem dX8_trace_5 : decode cX8_trace 5 = .ok (.astore_n 3, 1) := by decide +kernel
theorem dX8_trace_6 : decode cX8_trace 6 = .ok (.aload_n 3, 1) := by decide +kernel
theorem dX8_trace_7 : decode cX8_trace 7 = .ok (.ifnull 12, 3) := by decide +kernel
theorem dX8_trace_10 : decode cX8_trace 10 = .ok (.iload_n 2, 1) := by decide +kernel
theorem dX8_trace_11 : decode cX8_trace 11 = .ok (.ldc 173, 2) := by decide +kernel
theorem dX8_trace_13 : decode cX8_trace 13 = .ok (.invokestatic 67, 3) := by decide +kernel
theorem dX8_trace_16 : decode cX8_trace 16 = .ok (.ifCond .ne 5, 3) := by decide +kernel
theorem dX8_trace_19 : decode cX8_trace 19 = .ok (.iconst 0, 1) := by decide +kernel
theorem dX8_trace_20 : decode cX8_trace 20 = .ok (.ireturn, 1) := by decide +kernel
theorem dX8_trace_21 : decode cX8_trace 21 = .ok (.aload_n 3, 1) := by decide +kernel
theorem dX8_trace_22 : decode cX8_trace 22 = .ok (.iload_n 2, 1) := by decide +kernel
theorem dX8_trace_23 : decode cX8_trace 23 = .ok (.putfield 174, 3) := by decide +kernel
theorem dX8_trace_26 : decode cX8_trace 26 = .ok (.iconst 1, 1) := by decide +kernel
theorem dX8_trace_27 : decode cX8_trace 27 = .ok (.ireturn, 1) := by decide +kernel
theorem dX8_from_0 : decode cX8_from 0 = .ok (.aload_n 0, 1) := by decide +kernel
theorem dX8_from_1 : decode cX8_from 1 = .ok (.iload_n 1, 1) := by decide +kernel
theorem dX8_from_2 : decode cX8_from 2 = .ok (.iconst (-1), 1) := by decide +kernel
theorem dX8_from_3 : decode cX8_from 3 = .ok (.invokevirtual 177, 3) := by decide +kernel
theorem dX8_from_6 : decode cX8_from 6 = .ok (.ireturn, 1) := by decide +kernel
theorem dX8_doubt_0 : decode cX8_doubt 0 = .ok (.aload_n 0, 1) := by decide +kernel
theorem dX8_doubt_1 : decode cX8_doubt 1 = .ok (.iload_n 1, 1) := by decide +kernel
theorem dX8_doubt_2 : decode cX8_doubt 2 = .ok (.iconst (-1), 1) := by decide +kernel
theorem dX8_doubt_3 : decode cX8_doubt 3 = .ok (.invokevirtual 177, 3) := by decide +kernel
theorem dX8_doubt_6 : decode cX8_doubt 6 = .ok (.istore_n 2, 1) := by decide +kernel
theorem dX8_doubt_7 : decode cX8_doubt 7 = .ok (.aload_n 0, 1) := by decide +kernel
theorem dX8_doubt_8 : decode cX8_doubt 8 = .ok (.iload_n 1, 1) := by decide +kernel
theorem dX8_doubt_9 : decode cX8_doubt 9 = .ok (.iload_n 2, 1) := by decide +kernel
theorem dX8_doubt_10 : decode cX8_doubt 10 = .ok (.invokevirtual 177, 3) := by decide +kernel
theorem dX8_doubt_13 : decode cX8_doubt 13 = .ok (.istore_n 3, 1) := by decide +kernel
theorem dX8_doubt_14 : decode cX8_doubt 14 = .ok (.iload_n 2, 1) := by decide +kernel
theorem dX8_doubt_15 : decode cX8_doubt 15 = .ok (.iconst (-1), 1) := by decide +kernel
theorem dX8_doubt_16 : decode cX8_doubt 16 = .ok (.if_icmp .eq 27, 3) := by decide +kernel
theorem dX8_doubt_19 : decode cX8_doubt 19 = .ok (.iload_n 3, 1) := by decide +kernel
theorem dX8_doubt_20 : decode cX8_doubt 20 = .ok (.iconst (-1), 1) := by decide +kernel
theorem dX8_doubt_21 : decode cX8_doubt 21 = .ok (.if_icmp .eq 22, 3) := by decide +kernel
theorem dX8_doubt_24 : decode cX8_doubt 24 = .ok (.aload_n 0, 1) := by decide +kernel
theorem dX8_doubt_25 : decode cX8_doubt 25 = .ok (.iload_n 1, 1) := by decide +kernel
theorem dX8_doubt_26 : decode cX8_doubt 26 = .ok (.iload_n 2, 1) := by decide +kernel
theorem dX8_doubt_27 : decode cX8_doubt 27 = .ok (.invokevirtual 180, 3) := by decide +kernel
theorem dX8_doubt_30 : decode cX8_doubt 30 = .ok (.aload_n 0, 1) := by decide +kernel
theorem dX8_doubt_31 : decode cX8_doubt 31 = .ok (.iload_n 1, 1) := by decide +kernel
theorem dX8_doubt_32 : decode cX8_doubt 32 = .ok (.iload_n 3, 1) := by decide +kernel
theorem dX8_doubt_33 : decode cX8_doubt 33 = .ok (.invokevirtual 180, 3) := by decide +kernel
theorem dX8_doubt_36 : decode cX8_doubt 36 = .ok (.if_icmp .ne 7, 3) := by decide +kernel
theorem dX8_doubt_39 : decode cX8_doubt 39 = .ok (.iconst 1, 1) := by decide +kernel
theorem dX8_doubt_40 : decode cX8_doubt 40 = .ok (.goto 4, 3) := by decide +kernel
theorem dX8_doubt_43 : decode cX8_doubt 43 = .ok (.iconst 0, 1) := by decide +kernel
theorem dX8_doubt_44 : decode cX8_doubt 44 = .ok (.ireturn, 1) := by decide +kernel
theorem dX8_habit_0 : decode cX8_habit 0 = .ok (.aload_n 0, 1) := by decide +kernel
theorem dX8_habit_1 : decode cX8_habit 1 = .ok (.iload_n 1, 1) := by decide +kernel
theorem dX8_habit_2 : decode cX8_habit 2 = .ok (.invokevirtual 183, 3) := by decide +kernel
theorem dX8_habit_5 : decode cX8_habit 5 = .ok (.astore_n 3, 1) := by decide +kernel
theorem dX8_habit_6 : decode cX8_habit 6 = .ok (.aload_n 3, 1) := by decide +kernel
theorem dX8_habit_7 : decode cX8_habit 7 = .ok (.ifnull 13, 3) := by decide +kernel
theorem dX8_habit_10 : decode cX8_habit 10 = .ok (.iload_n 2, 1) := by decide +kernel
theorem dX8_habit_11 : decode cX8_habit 11 = .ok (.sipush 9999, 3) := by decide +kernel
theorem dX8_habit_14 : decode cX8_habit 14 = .ok (.invokestatic 67, 3) := by decide +kernel
theorem dX8_habit_17 : decode cX8_habit 17 = .ok (.ifCond .ne 5, 3) := by decide +kernel
theorem dX8_habit_20 : decode cX8_habit 20 = .ok (.iconst 0, 1) := by decide +kernel
theorem dX8_habit_21 : decode cX8_habit 21 = .ok (.ireturn, 1) := by decide +kernel
theorem dX8_habit_22 : decode cX8_habit 22 = .ok (.aload_n 3, 1) := by decide +kernel
theorem dX8_habit_23 : decode cX8_habit 23 = .ok (.iload_n 2, 1) := by decide +kernel
theorem dX8_habit_24 : decode cX8_habit 24 = .ok (.putfield 187, 3) := by decide +kernel
theorem dX8_habit_27 : decode cX8_habit 27 = .ok (.iconst 1, 1) := by decide +kernel
theorem dX8_habit_28 : decode cX8_habit 28 = .ok (.ireturn, 1) := by decide +kernel
theorem dX8_margin_0 : decode cX8_margin 0 = .ok (.iload_n 1, 1) := by decide +kernel
theorem dX8_margin_1 : decode cX8_margin 1 = .ok (.bipush 99, 2) := by decide +kernel
theorem dX8_margin_3 : decode cX8_margin 3 = .ok (.invokestatic 67, 3) := by decide +kernel
theorem dX8_margin_6 : decode cX8_margin 6 = .ok (.ifCond .ne 5, 3) := by decide +kernel
theorem dX8_margin_9 : decode cX8_margin 9 = .ok (.iconst 0, 1) := by decide +kernel
theorem dX8_margin_10 : decode cX8_margin 10 = .ok (.ireturn, 1) := by decide +kernel
theorem dX8_margin_11 : decode cX8_margin 11 = .ok (.aload_n 0, 1) := by decide +kernel
theorem dX8_margin_12 : decode cX8_margin 12 = .ok (.iload_n 1, 1) := by decide +kernel
theorem dX8_margin_13 : decode cX8_margin 13 = .ok (.putfield 64, 3) := by decide +kernel
theorem dX8_margin_16 : decode cX8_margin 16 = .ok (.iconst 1, 1) := by decide +kernel
theorem dX8_margin_17 : decode cX8_margin 17 = .ok (.ireturn, 1) := by decide +kernel
theorem dX8_strokes_0 : decode cX8_strokes 0 = .ok (.aload_n 0, 1) := by decide +kernel
theorem dX8_strokes_1 : decode cX8_strokes 1 = .ok (.iload_n 1, 1) := by decide +kernel
theorem dX8_strokes_2 : decode cX8_strokes 2 = .ok (.iload_n 2, 1) := by decide +kernel
theorem dX8_strokes_3 : decode cX8_strokes 3 = .ok (.invokevirtual 190, 3) := by decide +kernel
theorem dX8_strokes_6 : decode cX8_strokes 6 = .ok (.astore 4, 2) := by decide +kernel
theorem dX8_strokes_8 : decode cX8_strokes 8 = .ok (.aload 4, 2) := by decide +kernel
theorem dX8_strokes_10 : decode cX8_strokes 10 = .ok (.ifnull 13, 3) := by decide +kernel
theorem dX8_strokes_13 : decode cX8_strokes 13 = .ok (.iload_n 3, 1) := by decide +kernel
theorem dX8_strokes_14 : decode cX8_strokes 14 = .ok (.sipush 9999, 3) := by decide +kernel
theorem dX8_strokes_17 : decode cX8_strokes 17 = .ok (.invokestatic 67, 3) := by decide +kernel
theorem dX8_strokes_20 : decode cX8_strokes 20 = .ok (.ifCond .ne 5, 3) := by decide +kernel
theorem dX8_strokes_23 : decode cX8_strokes 23 = .ok (.iconst 0, 1) := by decide +kernel
theorem dX8_strokes_24 : decode cX8_strokes 24 = .ok (.ireturn, 1) := by decide +kernel
theorem dX8_strokes_25 : decode cX8_strokes 25 = .ok (.aload 4, 2) := by decide +kernel
theorem dX8_strokes_27 : decode cX8_strokes 27 = .ok (.iload_n 3, 1) := by decide +kernel
theorem dX8_strokes_28 : decode cX8_strokes 28 = .ok (.putfield 194, 3) := by decide +kernel
theorem dX8_strokes_31 : decode cX8_strokes 31 = .ok (.iconst 1, 1) := by decide +kernel
theorem dX8_strokes_32 : decode cX8_strokes 32 = .ok (.ireturn, 1) := by decide +kernel
theorem dX8_whose_0 : decode cX8_whose 0 = .ok (.aload_n 0, 1) := by decide +kernel
theorem dX8_whose_1 : decode cX8_whose 1 = .ok (.iload_n 1, 1) := by decide +kernel
theorem dX8_whose_2 : decode cX8_whose 2 = .ok (.iload_n 2, 1) := by decide +kernel
theorem dX8_whose_3 : decode cX8_whose 3 = .ok (.invokevirtual 190, 3) := by decide +kernel
theorem dX8_whose_6 : decode cX8_whose 6 = .ok (.astore_n 3, 1) := by decide +kernel
theorem dX8_whose_7 : decode cX8_whose 7 = .ok (.aload_n 3, 1) := by decide +kernel
theorem dX8_whose_8 : decode cX8_whose 8 = .ok (.ifnull 11, 3) := by decide +kernel
theorem dX8_whose_11 : decode cX8_whose 11 = .ok (.aload_n 3, 1) := by decide +kernel
theorem dX8_whose_12 : decode cX8_whose 12 = .ok (.getfield 194, 3) := by decide +kernel
theorem dX8_whose_15 : decode cX8_whose 15 = .ok (.iconst (-1), 1) := by decide +kernel
theorem dX8_whose_16 : decode cX8_whose 16 = .ok (.if_icmp .ne 5, 3) := by decide +kernel
theorem dX8_whose_19 : decode cX8_whose 19 = .ok (.iconst (-1), 1) := by decide +kernel
theorem dX8_whose_20 : decode cX8_whose 20 = .ok (.ireturn, 1) := by decide +kernel
theorem dX8_whose_21 : decode cX8_whose 21 = .ok (.aload_n 0, 1) := by decide +kernel
theorem dX8_whose_22 : decode cX8_whose 22 = .ok (.aload_n 3, 1) := by decide +kernel
theorem dX8_whose_23 : decode cX8_whose 23 = .ok (.getfield 194, 3) := by decide +kernel
theorem dX8_whose_26 : decode cX8_whose 26 = .ok (.iconst (-1), 1) := by decide +kernel
theorem dX8_whose_27 : decode cX8_whose 27 = .ok (.invokevirtual 199, 3) := by decide +kernel
theorem dX8_whose_30 : decode cX8_whose 30 = .ok (.istore 4, 2) := by decide +kernel
theorem dX8_whose_32 : decode cX8_whose 32 = .ok (.aload_n 0, 1) := by decide +kernel
theorem dX8_whose_33 : decode cX8_whose 33 = .ok (.aload_n 3, 1) := by decide +kernel
theorem dX8_whose_34 : decode cX8_whose 34 = .ok (.getfield 194, 3) := by decide +kernel
theorem dX8_whose_37 : decode cX8_whose 37 = .ok (.iload 4, 2) := by decide +kernel
theorem dX8_whose_39 : decode cX8_whose 39 = .ok (.invokevirtual 199, 3) := by decide +kernel
theorem dX8_whose_42 : decode cX8_whose 42 = .ok (.istore 5, 2) := by decide +kernel
theorem dX8_whose_44 : decode cX8_whose 44 = .ok (.iload 4, 2) := by decide +kernel
theorem dX8_whose_46 : decode cX8_whose 46 = .ok (.iconst (-1), 1) := by decide +kernel
theorem dX8_whose_47 : decode cX8_whose 47 = .ok (.if_icmp .eq 9, 3) := by decide +kernel
theorem dX8_whose_50 : decode cX8_whose 50 = .ok (.iload 5, 2) := by decide +kernel
theorem dX8_whose_52 : decode cX8_whose 52 = .ok (.iconst (-1), 1) := by decide +kernel
theorem dX8_whose_53 : decode cX8_whose 53 = .ok (.if_icmp .ne 6, 3) := by decide +kernel
theorem dX8_whose_56 : decode cX8_whose 56 = .ok (.iload 4, 2) := by decide +kernel
theorem dX8_whose_58 : decode cX8_whose 58 = .ok (.ireturn, 1) := by decide +kernel
theorem dX8_whose_59 : decode cX8_whose 59 = .ok (.aload_n 0, 1) := by decide +kernel
theorem dX8_whose_60 : decode cX8_whose 60 = .ok (.iload 5, 2) := by decide +kernel
theorem dX8_whose_62 : decode cX8_whose 62 = .ok (.aload_n 3, 1) := by decide +kernel
theorem dX8_whose_63 : decode cX8_whose 63 = .ok (.getfield 194, 3) := by decide +kernel
theorem dX8_whose_66 : decode cX8_whose 66 = .ok (.invokevirtual 202, 3) := by decide +kernel
theorem dX8_whose_69 : decode cX8_whose 69 = .ok (.aload_n 0, 1) := by decide +kernel
theorem dX8_whose_70 : decode cX8_whose 70 = .ok (.iload 4, 2) := by decide +kernel
theorem dX8_whose_72 : decode cX8_whose 72 = .ok (.aload_n 3, 1) := by decide +kernel
theorem dX8_whose_73 : decode cX8_whose 73 = .ok (.getfield 194, 3) := by decide +kernel
theorem dX8_whose_76 : decode cX8_whose 76 = .ok (.invokevirtual 202, 3) := by decide +kernel
theorem dX8_whose_79 : decode cX8_whose 79 = .ok (.isub, 1) := by decide +kernel
theorem dX8_whose_80 : decode cX8_whose 80 = .ok (.istore 6, 2) := by decide +kernel
theorem dX8_whose_82 : decode cX8_whose 82 = .ok (.iload 6, 2) := by decide +kernel
theorem dX8_whose_84 : decode cX8_whose 84 = .ok (.aload_n 0, 1) := by decide +kernel
theorem dX8_whose_85 : decode cX8_whose 85 = .ok (.getfield 64, 3) := by decide +kernel
theorem dX8_whose_88 : decode cX8_whose 88 = .ok (.if_icmp .ge 8, 3) := by decide +kernel
theorem dX8_whose_91 : decode cX8_whose 91 = .ok (.bipush (-2), 2) := by decide +kernel
theorem dX8_whose_93 : decode cX8_whose 93 = .ok (.goto 5, 3) := by decide +kernel
theorem dX8_whose_96 : decode cX8_whose 96 = .ok (.iload 4, 2) := by decide +kernel
theorem dX8_whose_98 : decode cX8_whose 98 = .ok (.ireturn, 1) := by decide +kernel
theorem dX8_told_0 : decode cX8_told 0 = .ok (.aload_n 0, 1) := by decide +kernel
theorem dX8_told_1 : decode cX8_told 1 = .ok (.iload_n 1, 1) := by decide +kernel
theorem dX8_told_2 : decode cX8_told 2 = .ok (.invokevirtual 117, 3) := by decide +kernel
theorem dX8_told_5 : decode cX8_told 5 = .ok (.astore_n 3, 1) := by decide +kernel
theorem dX8_told_6 : decode cX8_told 6 = .ok (.aload_n 3, 1) := by decide +kernel
theorem dX8_told_7 : decode cX8_told 7 = .ok (.ifnonnull 5, 3) := by decide +kernel
theorem dX8_told_10 : decode cX8_told 10 = .ok (.iconst (-1), 1) := by decide +kernel
theorem dX8_told_11 : decode cX8_told 11 = .ok (.ireturn, 1) := by decide +kernel
theorem dX8_told_12 : decode cX8_told 12 = .ok (.iload_n 2, 1) := by decide +kernel
theorem dX8_told_13 : decode cX8_told 13 = .ok (.tableswitch 77 0 5 #[39, 52, 57, 62, 67, 72], 39) := by decide +kernel
theorem dX8_told_52 : decode cX8_told 52 = .ok (.aload_n 3, 1) := by decide +kernel
theorem dX8_told_53 : decode cX8_told 53 = .ok (.invokevirtual 121, 3) := by decide +kernel
theorem dX8_told_56 : decode cX8_told 56 = .ok (.ifCond .eq 7, 3) := by decide +kernel
theorem dX8_told_59 : decode cX8_told 59 = .ok (.iconst 1, 1) := by decide +kernel
theorem dX8_told_60 : decode cX8_told 60 = .ok (.goto 4, 3) := by decide +kernel
theorem dX8_told_63 : decode cX8_told 63 = .ok (.iconst 0, 1) := by decide +kernel
theorem dX8_told_64 : decode cX8_told 64 = .ok (.ireturn, 1) := by decide +kernel
theorem dX8_told_65 : decode cX8_told 65 = .ok (.aload_n 3, 1) := by decide +kernel
theorem dX8_told_66 : decode cX8_told 66 = .ok (.getfield 205, 3) := by decide +kernel
theorem dX8_told_69 : decode cX8_told 69 = .ok (.ireturn, 1) := by decide +kernel
theorem dX8_told_70 : decode cX8_told 70 = .ok (.aload_n 3, 1) := by decide +kernel
theorem dX8_told_71 : decode cX8_told 71 = .ok (.getfield 208, 3) := by decide +kernel
theorem dX8_told_74 : decode cX8_told 74 = .ok (.ireturn, 1) := by decide +kernel
theorem dX8_told_75 : decode cX8_told 75 = .ok (.aload_n 3, 1) := by decide +kernel
theorem dX8_told_76 : decode cX8_told 76 = .ok (.getfield 211, 3) := by decide +kernel
theorem dX8_told_79 : decode cX8_told 79 = .ok (.ireturn, 1) := by decide +kernel
theorem dX8_told_80 : decode cX8_told 80 = .ok (.aload_n 3, 1) := by decide +kernel
theorem dX8_told_81 : decode cX8_told 81 = .ok (.getfield 143, 3) := by decide +kernel
theorem dX8_told_84 : decode cX8_told 84 = .ok (.ireturn, 1) := by decide +kernel
theorem dX8_told_85 : decode cX8_told 85 = .ok (.aload_n 3, 1) := by decide +kernel
theorem dX8_told_86 : decode cX8_told 86 = .ok (.getfield 214, 3) := by decide +kernel
theorem dX8_told_89 : decode cX8_told 89 = .ok (.ireturn, 1) := by decide +kernel
theorem dX8_told_90 : decode cX8_told 90 = .ok (.iconst (-1), 1) := by decide +kernel
theorem dX8_told_91 : decode cX8_told 91 = .ok (.ireturn, 1) := by decide +kernel
theorem dX8_part_0 : decode cX8_part 0 = .ok (.aload_n 0, 1) := by decide +kernel
theorem dX8_part_1 : decode cX8_part 1 = .ok (.iload_n 1, 1) := by decide +kernel
theorem dX8_part_2 : decode cX8_part 2 = .ok (.iload_n 2, 1) := by decide +kernel
theorem dX8_part_3 : decode cX8_part 3 = .ok (.invokevirtual 190, 3) := by decide +kernel
theorem dX8_part_6 : decode cX8_part 6 = .ok (.astore 4, 2) := by decide +kernel
theorem dX8_part_8 : decode cX8_part 8 = .ok (.aload 4, 2) := by decide +kernel
theorem dX8_part_10 : decode cX8_part 10 = .ok (.ifnonnull 5, 3) := by decide +kernel
theorem dX8_part_13 : decode cX8_part 13 = .ok (.iconst (-1), 1) := by decide +kernel
theorem dX8_part_14 : decode cX8_part 14 = .ok (.ireturn, 1) := by decide +kernel
theorem dX8_part_15 : decode cX8_part 15 = .ok (.iload_n 3, 1) := by decide +kernel
theorem dX8_part_16 : decode cX8_part 16 = .ok (.tableswitch 90 0 4 #[36, 42, 54, 60, 66], 36) := by decide +kernel
theorem dX8_part_52 : decode cX8_part 52 = .ok (.aload 4, 2) := by decide +kernel
theorem dX8_part_54 : decode cX8_part 54 = .ok (.getfield 217, 3) := by decide +kernel
theorem dX8_part_57 : decode cX8_part 57 = .ok (.ireturn, 1) := by decide +kernel
theorem dX8_part_58 : decode cX8_part 58 = .ok (.aload 4, 2) := by decide +kernel
theorem dX8_part_60 : decode cX8_part 60 = .ok (.getfield 220, 3) := by decide +kernel
theorem dX8_part_63 : decode cX8_part 63 = .ok (.aload 4, 2) := by decide +kernel
theorem dX8_part_65 : decode cX8_part 65 = .ok (.getfield 217, 3) := by decide +kernel
theorem dX8_part_68 : decode cX8_part 68 = .ok (.isub, 1) := by decide +kernel
theorem dX8_part_69 : decode cX8_part 69 = .ok (.ireturn, 1) := by decide +kernel
theorem dX8_part_70 : decode cX8_part 70 = .ok (.aload 4, 2) := by decide +kernel
theorem dX8_part_72 : decode cX8_part 72 = .ok (.getfield 223, 3) := by decide +kernel
theorem dX8_part_75 : decode cX8_part 75 = .ok (.ireturn, 1) := by decide +kernel
theorem dX8_part_76 : decode cX8_part 76 = .ok (.aload 4, 2) := by decide +kernel
theorem dX8_part_78 : decode cX8_part 78 = .ok (.getfield 226, 3) := by decide +kernel
theorem dX8_part_81 : decode cX8_part 81 = .ok (.ireturn, 1) := by decide +kernel
theorem dX8_part_82 : decode cX8_part 82 = .ok (.aload 4, 2) := by decide +kernel
theorem dX8_part_84 : decode cX8_part 84 = .ok (.aload_n 0, 1) := by decide +kernel
theorem dX8_part_85 : decode cX8_part 85 = .ok (.getfield 92, 3) := by decide +kernel
theorem dX8_part_88 : decode cX8_part 88 = .ok (.aload_n 0, 1) := by decide +kernel
theorem dX8_part_89 : decode cX8_part 89 = .ok (.getfield 16, 3) := by decide +kernel
theorem dX8_part_92 : decode cX8_part 92 = .ok (.iload_n 2, 1) := by decide +kernel
theorem dX8_part_93 : decode cX8_part 93 = .ok (.iaload, 1) := by decide +kernel
theorem dX8_part_94 : decode cX8_part 94 = .ok (.invokevirtual 229, 3) := by decide +kernel
theorem dX8_part_97 : decode cX8_part 97 = .ok (.ifCond .eq 7, 3) := by decide +kernel
theorem dX8_part_100 : decode cX8_part 100 = .ok (.iconst 1, 1) := by decide +kernel
theorem dX8_part_101 : decode cX8_part 101 = .ok (.goto 4, 3) := by decide +kernel
theorem dX8_part_104 : decode cX8_part 104 = .ok (.iconst 0, 1) := by decide +kernel
theorem dX8_part_105 : decode cX8_part 105 = .ok (.ireturn, 1) := by decide +kernel
theorem dX8_part_106 : decode cX8_part 106 = .ok (.iconst (-1), 1) := by decide +kernel
theorem dX8_part_107 : decode cX8_part 107 = .ok (.ireturn, 1) := by decide +kernel
theorem dX8_due_0 : decode cX8_due 0 = .ok (.aload_n 0, 1) := by decide +kernel
theorem dX8_due_1 : decode cX8_due 1 = .ok (.iload_n 1, 1) := by decide +kernel
theorem dX8_due_2 : decode cX8_due 2 = .ok (.invokevirtual 81, 3) := by decide +kernel
theorem dX8_due_5 : decode cX8_due 5 = .ok (.astore_n 2, 1) := by decide +kernel
theorem dX8_due_6 : decode cX8_due 6 = .ok (.aload_n 2, 1) := by decide +kernel
theorem dX8_due_7 : decode cX8_due 7 = .ok (.ifnonnull 7, 3) := by decide +kernel
theorem dX8_due_10 : decode cX8_due 10 = .ok (.iconst (-1), 1) := by decide +kernel
theorem dX8_due_11 : decode cX8_due 11 = .ok (.goto 7, 3) := by decide +kernel
theorem dX8_due_14 : decode cX8_due 14 = .ok (.aload_n 2, 1) := by decide +kernel
theorem dX8_due_15 : decode cX8_due 15 = .ok (.getfield 105, 3) := by decide +kernel
theorem dX8_due_18 : decode cX8_due 18 = .ok (.ireturn, 1) := by decide +kernel
theorem dX8_count_0 : decode cX8_count 0 = .ok (.iload_n 1, 1) := by decide +kernel
theorem dX8_count_1 : decode cX8_count 1 = .ok (.tableswitch 99 0 8 #[51, 56, 61, 66, 71, 76, 84, 89, 94], 51) := by decide +kernel
theorem dX8_count_52 : decode cX8_count 52 = .ok (.aload_n 0, 1) := by decide +kernel
theorem dX8_count_53 : decode cX8_count 53 = .ok (.getfield 92, 3) := by decide +kernel
theorem dX8_count_56 : decode cX8_count 56 = .ok (.ireturn, 1) := by decide +kernel
theorem dX8_count_57 : decode cX8_count 57 = .ok (.aload_n 0, 1) := by decide +kernel
theorem dX8_count_58 : decode cX8_count 58 = .ok (.getfield 60, 3) := by decide +kernel
theorem dX8_count_61 : decode cX8_count 61 = .ok (.ireturn, 1) := by decide +kernel
theorem dX8_count_62 : decode cX8_count 62 = .ok (.aload_n 0, 1) := by decide +kernel
theorem dX8_count_63 : decode cX8_count 63 = .ok (.getfield 75, 3) := by decide +kernel
theorem dX8_count_66 : decode cX8_count 66 = .ok (.ireturn, 1) := by decide +kernel
theorem dX8_count_67 : decode cX8_count 67 = .ok (.aload_n 0, 1) := by decide +kernel
theorem dX8_count_68 : decode cX8_count 68 = .ok (.getfield 89, 3) := by decide +kernel
theorem dX8_count_71 : decode cX8_count 71 = .ok (.ireturn, 1) := by decide +kernel
theorem dX8_count_72 : decode cX8_count 72 = .ok (.aload_n 0, 1) := by decide +kernel
theorem dX8_count_73 : decode cX8_count 73 = .ok (.getfield 232, 3) := by decide +kernel
theorem dX8_count_76 : decode cX8_count 76 = .ok (.ireturn, 1) := by decide +kernel
theorem dX8_count_77 : decode cX8_count 77 = .ok (.aload_n 0, 1) := by decide +kernel
theorem dX8_count_78 : decode cX8_count 78 = .ok (.getfield 41, 3) := by decide +kernel
theorem dX8_count_81 : decode cX8_count 81 = .ok (.getfield 235, 3) := by decide +kernel
theorem dX8_count_84 : decode cX8_count 84 = .ok (.ireturn, 1) := by decide +kernel
theorem dX8_count_85 : decode cX8_count 85 = .ok (.aload_n 0, 1) := by decide +kernel
theorem dX8_count_86 : decode cX8_count 86 = .ok (.getfield 238, 3) := by decide +kernel
theorem dX8_count_89 : decode cX8_count 89 = .ok (.ireturn, 1) := by decide +kernel
theorem dX8_count_90 : decode cX8_count 90 = .ok (.aload_n 0, 1) := by decide +kernel
theorem dX8_count_91 : decode cX8_count 91 = .ok (.getfield 161, 3) := by decide +kernel
theorem dX8_count_94 : decode cX8_count 94 = .ok (.ireturn, 1) := by decide +kernel
theorem dX8_count_95 : decode cX8_count 95 = .ok (.aload_n 0, 1) := by decide +kernel
theorem dX8_count_96 : decode cX8_count 96 = .ok (.getfield 102, 3) := by decide +kernel
theorem dX8_count_99 : decode cX8_count 99 = .ok (.ireturn, 1) := by decide +kernel
theorem dX8_count_100 : decode cX8_count 100 = .ok (.iconst (-1), 1) := by decide +kernel
theorem dX8_count_101 : decode cX8_count 101 = .ok (.ireturn, 1) := by decide +kernel
theorem dX8_within_0 : decode cX8_within 0 = .ok (.iload_n 0, 1) := by decide +kernel
theorem dX8_within_1 : decode cX8_within 1 = .ok (.ifCond .lt 12, 3) := by decide +kernel
theorem dX8_within_4 : decode cX8_within 4 = .ok (.iload_n 0, 1) := by decide +kernel
theorem dX8_within_5 : decode cX8_within 5 = .ok (.iload_n 1, 1) := by decide +kernel
theorem dX8_within_6 : decode cX8_within 6 = .ok (.if_icmp .gt 7, 3) := by decide +kernel
theorem dX8_within_9 : decode cX8_within 9 = .ok (.iconst 1, 1) := by decide +kernel
theorem dX8_within_10 : decode cX8_within 10 = .ok (.goto 4, 3) := by decide +kernel
theorem dX8_within_13 : decode cX8_within 13 = .ok (.iconst 0, 1) := by decide +kernel
theorem dX8_within_14 : decode cX8_within 14 = .ok (.ireturn, 1) := by decide +kernel
theorem dX8_lightHours_0 : decode cX8_lightHours 0 = .ok (.bipush 6, 2) := by decide +kernel
theorem dX8_lightHours_2 : decode cX8_lightHours 2 = .ok (.iload_n 0, 1) := by decide +kernel
theorem dX8_lightHours_3 : decode cX8_lightHours 3 = .ok (.sipush 365, 3) := by decide +kernel
theorem dX8_lightHours_6 : decode cX8_lightHours 6 = .ok (.irem, 1) := by decide +kernel
theorem dX8_lightHours_7 : decode cX8_lightHours 7 = .ok (.sipush 182, 3) := by decide +kernel
theorem dX8_lightHours_10 : decode cX8_lightHours 10 = .ok (.isub, 1) := by decide +kernel
theorem dX8_lightHours_11 : decode cX8_lightHours 11 = .ok (.invokestatic 241, 3) := by decide +kernel
theorem dX8_lightHours_14 : decode cX8_lightHours 14 = .ok (.bipush 46, 2) := by decide +kernel
theorem dX8_lightHours_16 : decode cX8_lightHours 16 = .ok (.idiv, 1) := by decide +kernel
theorem dX8_lightHours_17 : decode cX8_lightHours 17 = .ok (.isub, 1) := by decide +kernel
theorem dX8_lightHours_18 : decode cX8_lightHours 18 = .ok (.ireturn, 1) := by decide +kernel
theorem dX8_layersCanBe_0 : decode cX8_layersCanBe 0 = .ok (.iload_n 0, 1) := by decide +kernel
theorem dX8_layersCanBe_1 : decode cX8_layersCanBe 1 = .ok (.sipush 10000, 3) := by decide +kernel
theorem dX8_layersCanBe_4 : decode cX8_layersCanBe 4 = .ok (.if_icmp .ge 5, 3) := by decide +kernel
theorem dX8_layersCanBe_7 : decode cX8_layersCanBe 7 = .ok (.iconst 0, 1) := by decide +kernel
theorem dX8_layersCanBe_8 : decode cX8_layersCanBe 8 = .ok (.ireturn, 1) := by decide +kernel
theorem dX8_layersCanBe_9 : decode cX8_layersCanBe 9 = .ok (.iload_n 0, 1) := by decide +kernel
theorem dX8_layersCanBe_10 : decode cX8_layersCanBe 10 = .ok (.istore_n 1, 1) := by decide +kernel
theorem dX8_layersCanBe_11 : decode cX8_layersCanBe 11 = .ok (.iconst 0, 1) := by decide +kernel
theorem dX8_layersCanBe_12 : decode cX8_layersCanBe 12 = .ok (.istore_n 2, 1) := by decide +kernel
theorem dX8_layersCanBe_13 : decode cX8_layersCanBe 13 = .ok (.iload_n 2, 1) := by decide +kernel
theorem dX8_layersCanBe_14 : decode cX8_layersCanBe 14 = .ok (.iconst 5, 1) := by decide +kernel
theorem dX8_layersCanBe_15 : decode cX8_layersCanBe 15 = .ok (.if_icmp .ge 24, 3) := by decide +kernel
theorem dX8_layersCanBe_18 : decode cX8_layersCanBe 18 = .ok (.iload_n 1, 1) := by decide +kernel
theorem dX8_layersCanBe_19 : decode cX8_layersCanBe 19 = .ok (.bipush 10, 2) := by decide +kernel
theorem dX8_layersCanBe_21 : decode cX8_layersCanBe 21 = .ok (.irem, 1) := by decide +kernel
theorem dX8_layersCanBe_22 : decode cX8_layersCanBe 22 = .ok (.iconst 3, 1) := by decide +kernel
theorem dX8_layersCanBe_23 : decode cX8_layersCanBe 23 = .ok (.if_icmp .le 5, 3) := by decide +kernel
theorem dX8_layersCanBe_26 : decode cX8_layersCanBe 26 = .ok (.iconst 0, 1) := by decide +kernel
theorem dX8_layersCanBe_27 : decode cX8_layersCanBe 27 = .ok (.ireturn, 1) := by decide +kernel
theorem dX8_layersCanBe_28 : decode cX8_layersCanBe 28 = .ok (.iload_n 1, 1) := by decide +kernel
theorem dX8_layersCanBe_29 : decode cX8_layersCanBe 29 = .ok (.bipush 10, 2) := by decide +kernel
theorem dX8_layersCanBe_31 : decode cX8_layersCanBe 31 = .ok (.idiv, 1) := by decide +kernel
theorem dX8_layersCanBe_32 : decode cX8_layersCanBe 32 = .ok (.istore_n 1, 1) := by decide +kernel
theorem dX8_layersCanBe_33 : decode cX8_layersCanBe 33 = .ok (.iinc 2 1, 3) := by decide +kernel
theorem dX8_layersCanBe_36 : decode cX8_layersCanBe 36 = .ok (.goto (-23), 3) := by decide +kernel
theorem dX8_layersCanBe_39 : decode cX8_layersCanBe 39 = .ok (.iload_n 1, 1) := by decide +kernel
theorem dX8_layersCanBe_40 : decode cX8_layersCanBe 40 = .ok (.ifCond .ne 7, 3) := by decide +kernel
theorem dX8_layersCanBe_43 : decode cX8_layersCanBe 43 = .ok (.iconst 1, 1) := by decide +kernel
theorem dX8_layersCanBe_44 : decode cX8_layersCanBe 44 = .ok (.goto 4, 3) := by decide +kernel
theorem dX8_layersCanBe_47 : decode cX8_layersCanBe 47 = .ok (.iconst 0, 1) := by decide +kernel
theorem dX8_layersCanBe_48 : decode cX8_layersCanBe 48 = .ok (.ireturn, 1) := by decide +kernel
theorem dX8_isNowOrLater_0 : decode cX8_isNowOrLater 0 = .ok (.iload_n 1, 1) := by decide +kernel
theorem dX8_isNowOrLater_1 : decode cX8_isNowOrLater 1 = .ok (.aload_n 0, 1) := by decide +kernel
theorem dX8_isNowOrLater_2 : decode cX8_isNowOrLater 2 = .ok (.getfield 92, 3) := by decide +kernel
theorem dX8_isNowOrLater_5 : decode cX8_isNowOrLater 5 = .ok (.if_icmp .lt 14, 3) := by decide +kernel
theorem dX8_isNowOrLater_8 : decode cX8_isNowOrLater 8 = .ok (.iload_n 1, 1) := by decide +kernel
theorem dX8_isNowOrLater_9 : decode cX8_isNowOrLater 9 = .ok (.sipush 20000, 3) := by decide +kernel
theorem dX8_isNowOrLater_12 : decode cX8_isNowOrLater 12 = .ok (.if_icmp .gt 7, 3) := by decide +kernel
theorem dX8_isNowOrLater_15 : decode cX8_isNowOrLater 15 = .ok (.iconst 1, 1) := by decide +kernel
theorem dX8_isNowOrLater_16 : decode cX8_isNowOrLater 16 = .ok (.goto 4, 3) := by decide +kernel
theorem dX8_isNowOrLater_19 : decode cX8_isNowOrLater 19 = .ok (.iconst 0, 1) := by decide +kernel
theorem dX8_isNowOrLater_20 : decode cX8_isNowOrLater 20 = .ok (.ireturn, 1) := by decide +kernel
theorem dX8_handAt_0 : decode cX8_handAt 0 = .ok (.iload_n 1, 1) := by decide +kernel
theorem dX8_handAt_1 : decode cX8_handAt 1 = .ok (.ifCond .lt 20, 3) := by decide +kernel
theorem dX8_handAt_4 : decode cX8_handAt 4 = .ok (.iload_n 1, 1) := by decide +kernel
theorem dX8_handAt_5 : decode cX8_handAt 5 = .ok (.aload_n 0, 1) := by decide +kernel
theorem dX8_handAt_6 : decode cX8_handAt 6 = .ok (.getfield 60, 3) := by decide +kernel
theorem dX8_handAt_9 : decode cX8_handAt 9 = .ok (.if_icmp .ge 12, 3) := by decide +kernel
theorem dX8_handAt_12 : decode cX8_handAt 12 = .ok (.aload_n 0, 1) := by decide +kernel
theorem dX8_handAt_13 : decode cX8_handAt 13 = .ok (.getfield 22, 3) := by decide +kernel
theorem dX8_handAt_16 : decode cX8_handAt 16 = .ok (.iload_n 1, 1) := by decide +kernel
theorem dX8_handAt_17 : decode cX8_handAt 17 = .ok (.aaload, 1) := by decide +kernel
theorem dX8_handAt_18 : decode cX8_handAt 18 = .ok (.goto 4, 3) := by decide +kernel
theorem dX8_handAt_21 : decode cX8_handAt 21 = .ok (.aconst_null, 1) := by decide +kernel
theorem dX8_handAt_22 : decode cX8_handAt 22 = .ok (.areturn, 1) := by decide +kernel
theorem dX8_sitterAt_0 : decode cX8_sitterAt 0 = .ok (.iload_n 1, 1) := by decide +kernel
theorem dX8_sitterAt_1 : decode cX8_sitterAt 1 = .ok (.ifCond .lt 20, 3) := by decide +kernel
theorem dX8_sitterAt_4 : decode cX8_sitterAt 4 = .ok (.iload_n 1, 1) := by decide +kernel
theorem dX8_sitterAt_5 : decode cX8_sitterAt 5 = .ok (.aload_n 0, 1) := by decide +kernel
theorem dX8_sitterAt_6 : decode cX8_sitterAt 6 = .ok (.getfield 75, 3) := by decide +kernel
theorem dX8_sitterAt_9 : decode cX8_sitterAt 9 = .ok (.if_icmp .ge 12, 3) := by decide +kernel
theorem dX8_sitterAt_12 : decode cX8_sitterAt 12 = .ok (.aload_n 0, 1) := by decide +kernel
theorem dX8_sitterAt_13 : decode cX8_sitterAt 13 = .ok (.getfield 28, 3) := by decide +kernel
theorem dX8_sitterAt_16 : decode cX8_sitterAt 16 = .ok (.iload_n 1, 1) := by decide +kernel
theorem dX8_sitterAt_17 : decode cX8_sitterAt 17 = .ok (.aaload, 1) := by decide +kernel
theorem dX8_sitterAt_18 : decode cX8_sitterAt 18 = .ok (.goto 4, 3) := by decide +kernel
theorem dX8_sitterAt_21 : decode cX8_sitterAt 21 = .ok (.aconst_null, 1) := by decide +kernel
theorem dX8_sitterAt_22 : decode cX8_sitterAt 22 = .ok (.areturn, 1) := by decide +kernel
theorem dX8_pictureAt_0 : decode cX8_pictureAt 0 = .ok (.iload_n 1, 1) := by decide +kernel
theorem dX8_pictureAt_1 : decode cX8_pictureAt 1 = .ok (.ifCond .lt 20, 3) := by decide +kernel
theorem dX8_pictureAt_4 : decode cX8_pictureAt 4 = .ok (.iload_n 1, 1) := by decide +kernel
theorem dX8_pictureAt_5 : decode cX8_pictureAt 5 = .ok (.aload_n 0, 1) := by decide +kernel
theorem dX8_pictureAt_6 : decode cX8_pictureAt 6 = .ok (.getfield 89, 3) := by decide +kernel
theorem dX8_pictureAt_9 : decode cX8_pictureAt 9 = .ok (.if_icmp .ge 12, 3) := by decide +kernel
theorem dX8_pictureAt_12 : decode cX8_pictureAt 12 = .ok (.aload_n 0, 1) := by decide +kernel
theorem dX8_pictureAt_13 : decode cX8_pictureAt 13 = .ok (.getfield 34, 3) := by decide +kernel
theorem dX8_pictureAt_16 : decode cX8_pictureAt 16 = .ok (.iload_n 1, 1) := by decide +kernel
theorem dX8_pictureAt_17 : decode cX8_pictureAt 17 = .ok (.aaload, 1) := by decide +kernel
theorem dX8_pictureAt_18 : decode cX8_pictureAt 18 = .ok (.goto 4, 3) := by decide +kernel
theorem dX8_pictureAt_21 : decode cX8_pictureAt 21 = .ok (.aconst_null, 1) := by decide +kernel
theorem dX8_pictureAt_22 : decode cX8_pictureAt 22 = .ok (.areturn, 1) := by decide +kernel
theorem dX8_partAt_0 : decode cX8_partAt 0 = .ok (.aload_n 0, 1) := by decide +kernel
theorem dX8_partAt_1 : decode cX8_partAt 1 = .ok (.iload_n 1, 1) := by decide +kernel
theorem dX8_partAt_2 : decode cX8_partAt 2 = .ok (.invokevirtual 117, 3) := by decide +kernel
theorem dX8_partAt_5 : decode cX8_partAt 5 = .ok (.astore_n 3, 1) := by decide +kernel
theorem dX8_partAt_6 : decode cX8_partAt 6 = .ok (.aload_n 3, 1) := by decide +kernel
theorem dX8_partAt_7 : decode cX8_partAt 7 = .ok (.ifnull 20, 3) := by decide +kernel
theorem dX8_partAt_10 : decode cX8_partAt 10 = .ok (.iload_n 2, 1) := by decide +kernel
theorem dX8_partAt_11 : decode cX8_partAt 11 = .ok (.iconst 4, 1) := by decide +kernel
theorem dX8_partAt_12 : decode cX8_partAt 12 = .ok (.invokestatic 67, 3) := by decide +kernel
theorem dX8_partAt_15 : decode cX8_partAt 15 = .ok (.ifCond .eq 12, 3) := by decide +kernel
theorem dX8_partAt_18 : decode cX8_partAt 18 = .ok (.aload_n 3, 1) := by decide +kernel
theorem dX8_partAt_19 : decode cX8_partAt 19 = .ok (.getfield 244, 3) := by decide +kernel
theorem dX8_partAt_22 : decode cX8_partAt 22 = .ok (.iload_n 2, 1) := by decide +kernel
theorem dX8_partAt_23 : decode cX8_partAt 23 = .ok (.aaload, 1) := by decide +kernel
theorem dX8_partAt_24 : decode cX8_partAt 24 = .ok (.goto 4, 3) := by decide +kernel
theorem dX8_partAt_27 : decode cX8_partAt 27 = .ok (.aconst_null, 1) := by decide +kernel
theorem dX8_partAt_28 : decode cX8_partAt 28 = .ok (.areturn, 1) := by decide +kernel
theorem dX8_standsAgainst_0 : decode cX8_standsAgainst 0 = .ok (.aload_n 0, 1) := by decide +kernel
theorem dX8_standsAgainst_1 : decode cX8_standsAgainst 1 = .ok (.iload_n 1, 1) := by decide +kernel
theorem dX8_standsAgainst_2 : decode cX8_standsAgainst 2 = .ok (.invokevirtual 117, 3) := by decide +kernel
theorem dX8_standsAgainst_5 : decode cX8_standsAgainst 5 = .ok (.astore 4, 2) := by decide +kernel
theorem dX8_standsAgainst_7 : decode cX8_standsAgainst 7 = .ok (.aload_n 0, 1) := by decide +kernel
theorem dX8_standsAgainst_8 : decode cX8_standsAgainst 8 = .ok (.iload_n 1, 1) := by decide +kernel
theorem dX8_standsAgainst_9 : decode cX8_standsAgainst 9 = .ok (.iload_n 2, 1) := by decide +kernel
theorem dX8_standsAgainst_10 : decode cX8_standsAgainst 10 = .ok (.invokevirtual 190, 3) := by decide +kernel
theorem dX8_standsAgainst_13 : decode cX8_standsAgainst 13 = .ok (.astore 5, 2) := by decide +kernel
theorem dX8_standsAgainst_15 : decode cX8_standsAgainst 15 = .ok (.aload_n 0, 1) := by decide +kernel
theorem dX8_standsAgainst_16 : decode cX8_standsAgainst 16 = .ok (.iload_n 3, 1) := by decide +kernel
theorem dX8_standsAgainst_17 : decode cX8_standsAgainst 17 = .ok (.invokevirtual 183, 3) := by decide +kernel
theorem dX8_standsAgainst_20 : decode cX8_standsAgainst 20 = .ok (.astore 6, 2) := by decide +kernel
theorem dX8_standsAgainst_22 : decode cX8_standsAgainst 22 = .ok (.aload 4, 2) := by decide +kernel
theorem dX8_standsAgainst_24 : decode cX8_standsAgainst 24 = .ok (.ifnull 13, 3) := by decide +kernel
theorem dX8_standsAgainst_27 : decode cX8_standsAgainst 27 = .ok (.aload 5, 2) := by decide +kernel
theorem dX8_standsAgainst_29 : decode cX8_standsAgainst 29 = .ok (.ifnull 8, 3) := by decide +kernel
theorem dX8_standsAgainst_32 : decode cX8_standsAgainst 32 = .ok (.aload 6, 2) := by decide +kernel
theorem dX8_standsAgainst_34 : decode cX8_standsAgainst 34 = .ok (.ifnonnull 5, 3) := by decide +kernel
theorem dX8_standsAgainst_37 : decode cX8_standsAgainst 37 = .ok (.iconst (-1), 1) := by decide +kernel
theorem dX8_standsAgainst_38 : decode cX8_standsAgainst 38 = .ok (.ireturn, 1) := by decide +kernel
theorem dX8_standsAgainst_39 : decode cX8_standsAgainst 39 = .ok (.aload 5, 2) := by decide +kernel
theorem dX8_standsAgainst_41 : decode cX8_standsAgainst 41 = .ok (.invokevirtual 248, 3) := by decide +kernel
theorem dX8_standsAgainst_44 : decode cX8_standsAgainst 44 = .ok (.ifCond .ne 5, 3) := by decide +kernel
theorem dX8_standsAgainst_47 : decode cX8_standsAgainst 47 = .ok (.iconst 1, 1) := by decide +kernel
theorem dX8_standsAgainst_48 : decode cX8_standsAgainst 48 = .ok (.ireturn, 1) := by decide +kernel
theorem dX8_standsAgainst_49 : decode cX8_standsAgainst 49 = .ok (.aload 5, 2) := by decide +kernel
theorem dX8_standsAgainst_51 : decode cX8_standsAgainst 51 = .ok (.aload_n 0, 1) := by decide +kernel
theorem dX8_standsAgainst_52 : decode cX8_standsAgainst 52 = .ok (.getfield 92, 3) := by decide +kernel
theorem dX8_standsAgainst_55 : decode cX8_standsAgainst 55 = .ok (.aload_n 0, 1) := by decide +kernel
theorem dX8_standsAgainst_56 : decode cX8_standsAgainst 56 = .ok (.getfield 16, 3) := by decide +kernel
theorem dX8_standsAgainst_59 : decode cX8_standsAgainst 59 = .ok (.iload_n 2, 1) := by decide +kernel
theorem dX8_standsAgainst_60 : decode cX8_standsAgainst 60 = .ok (.iaload, 1) := by decide +kernel
theorem dX8_standsAgainst_61 : decode cX8_standsAgainst 61 = .ok (.invokevirtual 229, 3) := by decide +kernel
theorem dX8_standsAgainst_64 : decode cX8_standsAgainst 64 = .ok (.ifCond .eq 5, 3) := by decide +kernel
theorem dX8_standsAgainst_67 : decode cX8_standsAgainst 67 = .ok (.iconst 2, 1) := by decide +kernel
theorem dX8_standsAgainst_68 : decode cX8_standsAgainst 68 = .ok (.ireturn, 1) := by decide +kernel
theorem dX8_standsAgainst_69 : decode cX8_standsAgainst 69 = .ok (.iload_n 2, 1) := by decide +kernel
theorem dX8_standsAgainst_70 : decode cX8_standsAgainst 70 = .ok (.ifCond .ne 9, 3) := by decide +kernel
theorem dX8_standsAgainst_73 : decode cX8_standsAgainst 73 = .ok (.iload_n 3, 1) := by decide +kernel
theorem dX8_standsAgainst_74 : decode cX8_standsAgainst 74 = .ok (.ifCond .eq 5, 3) := by decide +kernel
theorem dX8_standsAgainst_77 : decode cX8_standsAgainst 77 = .ok (.iconst 3, 1) := by decide +kernel
theorem dX8_standsAgainst_78 : decode cX8_standsAgainst 78 = .ok (.ireturn, 1) := by decide +kernel
theorem dX8_standsAgainst_79 : decode cX8_standsAgainst 79 = .ok (.aload 6, 2) := by decide +kernel
theorem dX8_standsAgainst_81 : decode cX8_standsAgainst 81 = .ok (.aload_n 0, 1) := by decide +kernel
theorem dX8_standsAgainst_82 : decode cX8_standsAgainst 82 = .ok (.getfield 92, 3) := by decide +kernel
theorem dX8_standsAgainst_85 : decode cX8_standsAgainst 85 = .ok (.invokevirtual 251, 3) := by decide +kernel
theorem dX8_standsAgainst_88 : decode cX8_standsAgainst 88 = .ok (.iconst 3, 1) := by decide +kernel
theorem dX8_standsAgainst_89 : decode cX8_standsAgainst 89 = .ok (.if_icmp .lt 5, 3) := by decide +kernel
theorem dX8_standsAgainst_92 : decode cX8_standsAgainst 92 = .ok (.iconst 4, 1) := by decide +kernel
theorem dX8_standsAgainst_93 : decode cX8_standsAgainst 93 = .ok (.ireturn, 1) := by decide +kernel
theorem dX8_standsAgainst_94 : decode cX8_standsAgainst 94 = .ok (.iload_n 2, 1) := by decide +kernel
theorem dX8_standsAgainst_95 : decode cX8_standsAgainst 95 = .ok (.ifCond .ne 21, 3) := by decide +kernel
theorem dX8_standsAgainst_98 : decode cX8_standsAgainst 98 = .ok (.aload_n 0, 1) := by decide +kernel
theorem dX8_standsAgainst_99 : decode cX8_standsAgainst 99 = .ok (.getfield 41, 3) := by decide +kernel
theorem dX8_standsAgainst_102 : decode cX8_standsAgainst 102 = .ok (.iload_n 1, 1) := by decide +kernel
theorem dX8_standsAgainst_103 : decode cX8_standsAgainst 103 = .ok (.aload_n 0, 1) := by decide +kernel
theorem dX8_standsAgainst_104 : decode cX8_standsAgainst 104 = .ok (.getfield 92, 3) := by decide +kernel
theorem dX8_standsAgainst_107 : decode cX8_standsAgainst 107 = .ok (.invokevirtual 146, 3) := by decide +kernel
theorem dX8_standsAgainst_110 : decode cX8_standsAgainst 110 = .ok (.iconst (-1), 1) := by decide +kernel
theorem dX8_standsAgainst_111 : decode cX8_standsAgainst 111 = .ok (.if_icmp .ne 5, 3) := by decide +kernel
theorem dX8_standsAgainst_114 : decode cX8_standsAgainst 114 = .ok (.iconst 5, 1) := by decide +kernel
theorem dX8_standsAgainst_115 : decode cX8_standsAgainst 115 = .ok (.ireturn, 1) := by decide +kernel
theorem dX8_standsAgainst_116 : decode cX8_standsAgainst 116 = .ok (.iload_n 2, 1) := by decide +kernel
theorem dX8_standsAgainst_117 : decode cX8_standsAgainst 117 = .ok (.iconst 2, 1) := by decide +kernel
theorem dX8_standsAgainst_118 : decode cX8_standsAgainst 118 = .ok (.if_icmp .ne 26, 3) := by decide +kernel
theorem dX8_standsAgainst_121 : decode cX8_standsAgainst 121 = .ok (.aload_n 0, 1) := by decide +kernel
theorem dX8_standsAgainst_122 : decode cX8_standsAgainst 122 = .ok (.getfield 48, 3) := by decide +kernel
theorem dX8_standsAgainst_125 : decode cX8_standsAgainst 125 = .ok (.aload 4, 2) := by decide +kernel
theorem dX8_standsAgainst_127 : decode cX8_standsAgainst 127 = .ok (.getfield 254, 3) := by decide +kernel
theorem dX8_standsAgainst_130 : decode cX8_standsAgainst 130 = .ok (.iload_n 1, 1) := by decide +kernel
theorem dX8_standsAgainst_131 : decode cX8_standsAgainst 131 = .ok (.aload_n 0, 1) := by decide +kernel
theorem dX8_standsAgainst_132 : decode cX8_standsAgainst 132 = .ok (.getfield 92, 3) := by decide +kernel
theorem dX8_standsAgainst_135 : decode cX8_standsAgainst 135 = .ok (.invokevirtual 257, 3) := by decide +kernel
theorem dX8_standsAgainst_138 : decode cX8_standsAgainst 138 = .ok (.ifCond .eq 6, 3) := by decide +kernel
theorem dX8_standsAgainst_141 : decode cX8_standsAgainst 141 = .ok (.bipush 6, 2) := by decide +kernel
theorem dX8_standsAgainst_143 : decode cX8_standsAgainst 143 = .ok (.ireturn, 1) := by decide +kernel
theorem dX8_standsAgainst_144 : decode cX8_standsAgainst 144 = .ok (.iconst 0, 1) := by decide +kernel
theorem dX8_standsAgainst_145 : decode cX8_standsAgainst 145 = .ok (.ireturn, 1) := by decide +kernel
theorem dX8_addLayer_0 : decode cX8_addLayer 0 = .ok (.aload_n 0, 1) := by decide +kernel
theorem dX8_addLayer_1 : decode cX8_addLayer 1 = .ok (.iload_n 1, 1) := by decide +kernel
theorem dX8_addLayer_2 : decode cX8_addLayer 2 = .ok (.invokevirtual 117, 3) := by decide +kernel
theorem dX8_addLayer_5 : decode cX8_addLayer 5 = .ok (.astore 4, 2) := by decide +kernel
theorem dX8_addLayer_7 : decode cX8_addLayer 7 = .ok (.aload_n 0, 1) := by decide +kernel
theorem dX8_addLayer_8 : decode cX8_addLayer 8 = .ok (.iload_n 1, 1) := by decide +kernel
