theorem dX8_addLayer_9 : decode cX8_addLayer 9 = .ok (.iload_n 2, 1) := by decide +kernel
theorem dX8_addLayer_10 : decode cX8_addLayer 10 = .ok (.invokevirtual 190, 3) := by decide +kernel
theorem dX8_addLayer_13 : decode cX8_addLayer 13 = .ok (.astore 5, 2) := by decide +kernel
theorem dX8_addLayer_15 : decode cX8_addLayer 15 = .ok (.aload_n 0, 1) := by decide +kernel
theorem dX8_addLayer_16 : decode cX8_addLayer 16 = .ok (.iload_n 3, 1) := by decide +kernel
theorem dX8_addLayer_17 : decode cX8_addLayer 17 = .ok (.invokevirtual 183, 3) := by decide +kernel
theorem dX8_addLayer_20 : decode cX8_addLayer 20 = .ok (.astore 6, 2) := by decide +kernel
theorem dX8_addLayer_22 : decode cX8_addLayer 22 = .ok (.aload 4, 2) := by decide +kernel
theorem dX8_addLayer_24 : decode cX8_addLayer 24 = .ok (.ifnull 13, 3) := by decide +kernel
theorem dX8_addLayer_27 : decode cX8_addLayer 27 = .ok (.aload 5, 2) := by decide +kernel
theorem dX8_addLayer_29 : decode cX8_addLayer 29 = .ok (.ifnull 8, 3) := by decide +kernel
theorem dX8_addLayer_32 : decode cX8_addLayer 32 = .ok (.aload 6, 2) := by decide +kernel
theorem dX8_addLayer_34 : decode cX8_addLayer 34 = .ok (.ifnonnull 4, 3) := by decide +kernel
theorem dX8_addLayer_37 : decode cX8_addLayer 37 = .ok (.return_, 1) := by decide +kernel
theorem dX8_addLayer_38 : decode cX8_addLayer 38 = .ok (.aload 5, 2) := by decide +kernel
theorem dX8_addLayer_40 : decode cX8_addLayer 40 = .ok (.dup, 1) := by decide +kernel
theorem dX8_addLayer_41 : decode cX8_addLayer 41 = .ok (.getfield 217, 3) := by decide +kernel
theorem dX8_addLayer_44 : decode cX8_addLayer 44 = .ok (.iconst 1, 1) := by decide +kernel
theorem dX8_addLayer_45 : decode cX8_addLayer 45 = .ok (.iadd, 1) := by decide +kernel
theorem dX8_addLayer_46 : decode cX8_addLayer 46 = .ok (.putfield 217, 3) := by decide +kernel
theorem dX8_addLayer_49 : decode cX8_addLayer 49 = .ok (.aload 5, 2) := by decide +kernel
theorem dX8_addLayer_51 : decode cX8_addLayer 51 = .ok (.aload_n 0, 1) := by decide +kernel
theorem dX8_addLayer_52 : decode cX8_addLayer 52 = .ok (.getfield 92, 3) := by decide +kernel
theorem dX8_addLayer_55 : decode cX8_addLayer 55 = .ok (.putfield 223, 3) := by decide +kernel
theorem dX8_addLayer_58 : decode cX8_addLayer 58 = .ok (.aload 5, 2) := by decide +kernel
theorem dX8_addLayer_60 : decode cX8_addLayer 60 = .ok (.iload_n 3, 1) := by decide +kernel
theorem dX8_addLayer_61 : decode cX8_addLayer 61 = .ok (.putfield 226, 3) := by decide +kernel
theorem dX8_addLayer_64 : decode cX8_addLayer 64 = .ok (.aload 6, 2) := by decide +kernel
theorem dX8_addLayer_66 : decode cX8_addLayer 66 = .ok (.aload_n 0, 1) := by decide +kernel
theorem dX8_addLayer_67 : decode cX8_addLayer 67 = .ok (.getfield 92, 3) := by decide +kernel
theorem dX8_addLayer_70 : decode cX8_addLayer 70 = .ok (.invokevirtual 260, 3) := by decide +kernel
theorem dX8_addLayer_73 : decode cX8_addLayer 73 = .ok (.aload_n 0, 1) := by decide +kernel
theorem dX8_addLayer_74 : decode cX8_addLayer 74 = .ok (.dup, 1) := by decide +kernel
theorem dX8_addLayer_75 : decode cX8_addLayer 75 = .ok (.getfield 238, 3) := by decide +kernel
theorem dX8_addLayer_78 : decode cX8_addLayer 78 = .ok (.iconst 1, 1) := by decide +kernel
theorem dX8_addLayer_79 : decode cX8_addLayer 79 = .ok (.iadd, 1) := by decide +kernel
theorem dX8_addLayer_80 : decode cX8_addLayer 80 = .ok (.putfield 238, 3) := by decide +kernel
theorem dX8_addLayer_83 : decode cX8_addLayer 83 = .ok (.iload_n 2, 1) := by decide +kernel
theorem dX8_addLayer_84 : decode cX8_addLayer 84 = .ok (.ifCond .ne 33, 3) := by decide +kernel
theorem dX8_addLayer_87 : decode cX8_addLayer 87 = .ok (.aload_n 0, 1) := by decide +kernel
theorem dX8_addLayer_88 : decode cX8_addLayer 88 = .ok (.getfield 41, 3) := by decide +kernel
theorem dX8_addLayer_91 : decode cX8_addLayer 91 = .ok (.aload_n 0, 1) := by decide +kernel
theorem dX8_addLayer_92 : decode cX8_addLayer 92 = .ok (.getfield 41, 3) := by decide +kernel
theorem dX8_addLayer_95 : decode cX8_addLayer 95 = .ok (.iload_n 1, 1) := by decide +kernel
theorem dX8_addLayer_96 : decode cX8_addLayer 96 = .ok (.aload_n 0, 1) := by decide +kernel
theorem dX8_addLayer_97 : decode cX8_addLayer 97 = .ok (.getfield 92, 3) := by decide +kernel
theorem dX8_addLayer_100 : decode cX8_addLayer 100 = .ok (.invokevirtual 146, 3) := by decide +kernel
theorem dX8_addLayer_103 : decode cX8_addLayer 103 = .ok (.invokevirtual 263, 3) := by decide +kernel
theorem dX8_addLayer_106 : decode cX8_addLayer 106 = .ok (.aload 4, 2) := by decide +kernel
theorem dX8_addLayer_108 : decode cX8_addLayer 108 = .ok (.dup, 1) := by decide +kernel
theorem dX8_addLayer_109 : decode cX8_addLayer 109 = .ok (.getfield 214, 3) := by decide +kernel
theorem dX8_addLayer_112 : decode cX8_addLayer 112 = .ok (.iconst 1, 1) := by decide +kernel
theorem dX8_addLayer_113 : decode cX8_addLayer 113 = .ok (.iadd, 1) := by decide +kernel
theorem dX8_addLayer_114 : decode cX8_addLayer 114 = .ok (.putfield 214, 3) := by decide +kernel
theorem dX8_addLayer_117 : decode cX8_addLayer 117 = .ok (.iload_n 2, 1) := by decide +kernel
theorem dX8_addLayer_118 : decode cX8_addLayer 118 = .ok (.iconst 2, 1) := by decide +kernel
theorem dX8_addLayer_119 : decode cX8_addLayer 119 = .ok (.if_icmp .ne 20, 3) := by decide +kernel
theorem dX8_addLayer_122 : decode cX8_addLayer 122 = .ok (.aload_n 0, 1) := by decide +kernel
theorem dX8_addLayer_123 : decode cX8_addLayer 123 = .ok (.getfield 48, 3) := by decide +kernel
theorem dX8_addLayer_126 : decode cX8_addLayer 126 = .ok (.aload 4, 2) := by decide +kernel
theorem dX8_addLayer_128 : decode cX8_addLayer 128 = .ok (.getfield 254, 3) := by decide +kernel
theorem dX8_addLayer_131 : decode cX8_addLayer 131 = .ok (.iload_n 1, 1) := by decide +kernel
theorem dX8_addLayer_132 : decode cX8_addLayer 132 = .ok (.aload_n 0, 1) := by decide +kernel
theorem dX8_addLayer_133 : decode cX8_addLayer 133 = .ok (.getfield 92, 3) := by decide +kernel
theorem dX8_addLayer_136 : decode cX8_addLayer 136 = .ok (.invokevirtual 266, 3) := by decide +kernel
theorem dX8_addLayer_139 : decode cX8_addLayer 139 = .ok (.aload 4, 2) := by decide +kernel
theorem dX8_addLayer_141 : decode cX8_addLayer 141 = .ok (.dup, 1) := by decide +kernel
theorem dX8_addLayer_142 : decode cX8_addLayer 142 = .ok (.getfield 269, 3) := by decide +kernel
theorem dX8_addLayer_145 : decode cX8_addLayer 145 = .ok (.iconst 1, 1) := by decide +kernel
theorem dX8_addLayer_146 : decode cX8_addLayer 146 = .ok (.isub, 1) := by decide +kernel
theorem dX8_addLayer_147 : decode cX8_addLayer 147 = .ok (.putfield 269, 3) := by decide +kernel
theorem dX8_addLayer_150 : decode cX8_addLayer 150 = .ok (.aload 4, 2) := by decide +kernel
theorem dX8_addLayer_152 : decode cX8_addLayer 152 = .ok (.getfield 269, 3) := by decide +kernel
theorem dX8_addLayer_155 : decode cX8_addLayer 155 = .ok (.ifCond .ne 9, 3) := by decide +kernel
theorem dX8_addLayer_158 : decode cX8_addLayer 158 = .ok (.aload_n 0, 1) := by decide +kernel
theorem dX8_addLayer_159 : decode cX8_addLayer 159 = .ok (.aload 4, 2) := by decide +kernel
theorem dX8_addLayer_161 : decode cX8_addLayer 161 = .ok (.invokevirtual 272, 3) := by decide +kernel
theorem dX8_addLayer_164 : decode cX8_addLayer 164 = .ok (.return_, 1) := by decide +kernel
theorem dX8_finish_0 : decode cX8_finish 0 = .ok (.aload_n 1, 1) := by decide +kernel
theorem dX8_finish_1 : decode cX8_finish 1 = .ok (.aload_n 0, 1) := by decide +kernel
theorem dX8_finish_2 : decode cX8_finish 2 = .ok (.getfield 92, 3) := by decide +kernel
theorem dX8_finish_5 : decode cX8_finish 5 = .ok (.putfield 211, 3) := by decide +kernel
theorem dX8_finish_8 : decode cX8_finish 8 = .ok (.aload_n 0, 1) := by decide +kernel
theorem dX8_finish_9 : decode cX8_finish 9 = .ok (.dup, 1) := by decide +kernel
theorem dX8_finish_10 : decode cX8_finish 10 = .ok (.getfield 232, 3) := by decide +kernel
theorem dX8_finish_13 : decode cX8_finish 13 = .ok (.iconst 1, 1) := by decide +kernel
theorem dX8_finish_14 : decode cX8_finish 14 = .ok (.iadd, 1) := by decide +kernel
theorem dX8_finish_15 : decode cX8_finish 15 = .ok (.putfield 232, 3) := by decide +kernel
theorem dX8_finish_18 : decode cX8_finish 18 = .ok (.aload_n 0, 1) := by decide +kernel
theorem dX8_finish_19 : decode cX8_finish 19 = .ok (.aload_n 1, 1) := by decide +kernel
theorem dX8_finish_20 : decode cX8_finish 20 = .ok (.getfield 128, 3) := by decide +kernel
theorem dX8_finish_23 : decode cX8_finish 23 = .ok (.invokevirtual 81, 3) := by decide +kernel
theorem dX8_finish_26 : decode cX8_finish 26 = .ok (.astore_n 2, 1) := by decide +kernel
theorem dX8_finish_27 : decode cX8_finish 27 = .ok (.aload_n 2, 1) := by decide +kernel
theorem dX8_finish_28 : decode cX8_finish 28 = .ok (.ifnull 23, 3) := by decide +kernel
theorem dX8_finish_31 : decode cX8_finish 31 = .ok (.aload_n 2, 1) := by decide +kernel
theorem dX8_finish_32 : decode cX8_finish 32 = .ok (.dup, 1) := by decide +kernel
theorem dX8_finish_33 : decode cX8_finish 33 = .ok (.getfield 105, 3) := by decide +kernel
theorem dX8_finish_36 : decode cX8_finish 36 = .ok (.aload_n 1, 1) := by decide +kernel
theorem dX8_finish_37 : decode cX8_finish 37 = .ok (.getfield 205, 3) := by decide +kernel
theorem dX8_finish_40 : decode cX8_finish 40 = .ok (.aload_n 1, 1) := by decide +kernel
theorem dX8_finish_41 : decode cX8_finish 41 = .ok (.getfield 205, 3) := by decide +kernel
theorem dX8_finish_44 : decode cX8_finish 44 = .ok (.iconst 2, 1) := by decide +kernel
theorem dX8_finish_45 : decode cX8_finish 45 = .ok (.idiv, 1) := by decide +kernel
theorem dX8_finish_46 : decode cX8_finish 46 = .ok (.isub, 1) := by decide +kernel
theorem dX8_finish_47 : decode cX8_finish 47 = .ok (.iadd, 1) := by decide +kernel
theorem dX8_finish_48 : decode cX8_finish 48 = .ok (.putfield 105, 3) := by decide +kernel
theorem dX8_finish_51 : decode cX8_finish 51 = .ok (.return_, 1) := by decide +kernel
theorem dX8_makePlan_0 : decode cX8_makePlan 0 = .ok (.aload_n 0, 1) := by decide +kernel
theorem dX8_makePlan_1 : decode cX8_makePlan 1 = .ok (.iload_n 1, 1) := by decide +kernel
theorem dX8_makePlan_2 : decode cX8_makePlan 2 = .ok (.invokevirtual 125, 3) := by decide +kernel
theorem dX8_makePlan_5 : decode cX8_makePlan 5 = .ok (.ifCond .ne 5, 3) := by decide +kernel
theorem dX8_makePlan_8 : decode cX8_makePlan 8 = .ok (.iconst 0, 1) := by decide +kernel
theorem dX8_makePlan_9 : decode cX8_makePlan 9 = .ok (.ireturn, 1) := by decide +kernel
theorem dX8_makePlan_10 : decode cX8_makePlan 10 = .ok (.aload_n 0, 1) := by decide +kernel
theorem dX8_makePlan_11 : decode cX8_makePlan 11 = .ok (.getfield 55, 3) := by decide +kernel
theorem dX8_makePlan_14 : decode cX8_makePlan 14 = .ok (.invokevirtual 276, 3) := by decide +kernel
theorem dX8_makePlan_17 : decode cX8_makePlan 17 = .ok (.iconst 0, 1) := by decide +kernel
theorem dX8_makePlan_18 : decode cX8_makePlan 18 = .ok (.istore_n 2, 1) := by decide +kernel
theorem dX8_makePlan_19 : decode cX8_makePlan 19 = .ok (.iload_n 2, 1) := by decide +kernel
theorem dX8_makePlan_20 : decode cX8_makePlan 20 = .ok (.aload_n 0, 1) := by decide +kernel
theorem dX8_makePlan_21 : decode cX8_makePlan 21 = .ok (.getfield 89, 3) := by decide +kernel
theorem dX8_makePlan_24 : decode cX8_makePlan 24 = .ok (.if_icmp .ge 82, 3) := by decide +kernel
theorem dX8_makePlan_27 : decode cX8_makePlan 27 = .ok (.aload_n 0, 1) := by decide +kernel
theorem dX8_makePlan_28 : decode cX8_makePlan 28 = .ok (.iload_n 2, 1) := by decide +kernel
theorem dX8_makePlan_29 : decode cX8_makePlan 29 = .ok (.invokevirtual 117, 3) := by decide +kernel
theorem dX8_makePlan_32 : decode cX8_makePlan 32 = .ok (.astore_n 3, 1) := by decide +kernel
theorem dX8_makePlan_33 : decode cX8_makePlan 33 = .ok (.aload_n 3, 1) := by decide +kernel
theorem dX8_makePlan_34 : decode cX8_makePlan 34 = .ok (.ifnull 66, 3) := by decide +kernel
theorem dX8_makePlan_37 : decode cX8_makePlan 37 = .ok (.aload_n 3, 1) := by decide +kernel
theorem dX8_makePlan_38 : decode cX8_makePlan 38 = .ok (.invokevirtual 279, 3) := by decide +kernel
theorem dX8_makePlan_41 : decode cX8_makePlan 41 = .ok (.ifCond .eq 59, 3) := by decide +kernel
theorem dX8_makePlan_44 : decode cX8_makePlan 44 = .ok (.aload_n 0, 1) := by decide +kernel
theorem dX8_makePlan_45 : decode cX8_makePlan 45 = .ok (.getfield 41, 3) := by decide +kernel
theorem dX8_makePlan_48 : decode cX8_makePlan 48 = .ok (.iload_n 1, 1) := by decide +kernel
theorem dX8_makePlan_49 : decode cX8_makePlan 49 = .ok (.aload_n 3, 1) := by decide +kernel
theorem dX8_makePlan_50 : decode cX8_makePlan 50 = .ok (.getfield 128, 3) := by decide +kernel
theorem dX8_makePlan_53 : decode cX8_makePlan 53 = .ok (.invokevirtual 137, 3) := by decide +kernel
theorem dX8_makePlan_56 : decode cX8_makePlan 56 = .ok (.ifCond .ne 44, 3) := by decide +kernel
theorem dX8_makePlan_59 : decode cX8_makePlan 59 = .ok (.iconst 1, 1) := by decide +kernel
theorem dX8_makePlan_60 : decode cX8_makePlan 60 = .ok (.aload_n 0, 1) := by decide +kernel
theorem dX8_makePlan_61 : decode cX8_makePlan 61 = .ok (.getfield 92, 3) := by decide +kernel
theorem dX8_makePlan_64 : decode cX8_makePlan 64 = .ok (.iadd, 1) := by decide +kernel
theorem dX8_makePlan_65 : decode cX8_makePlan 65 = .ok (.aload_n 3, 1) := by decide +kernel
theorem dX8_makePlan_66 : decode cX8_makePlan 66 = .ok (.getfield 208, 3) := by decide +kernel
theorem dX8_makePlan_69 : decode cX8_makePlan 69 = .ok (.isub, 1) := by decide +kernel
theorem dX8_makePlan_70 : decode cX8_makePlan 70 = .ok (.istore 4, 2) := by decide +kernel
theorem dX8_makePlan_72 : decode cX8_makePlan 72 = .ok (.aload_n 0, 1) := by decide +kernel
theorem dX8_makePlan_73 : decode cX8_makePlan 73 = .ok (.getfield 55, 3) := by decide +kernel
theorem dX8_makePlan_76 : decode cX8_makePlan 76 = .ok (.iload_n 2, 1) := by decide +kernel
theorem dX8_makePlan_77 : decode cX8_makePlan 77 = .ok (.aload_n 3, 1) := by decide +kernel
theorem dX8_makePlan_78 : decode cX8_makePlan 78 = .ok (.getfield 128, 3) := by decide +kernel
theorem dX8_makePlan_81 : decode cX8_makePlan 81 = .ok (.aload_n 0, 1) := by decide +kernel
theorem dX8_makePlan_82 : decode cX8_makePlan 82 = .ok (.aload_n 3, 1) := by decide +kernel
theorem dX8_makePlan_83 : decode cX8_makePlan 83 = .ok (.getfield 128, 3) := by decide +kernel
theorem dX8_makePlan_86 : decode cX8_makePlan 86 = .ok (.iload_n 1, 1) := by decide +kernel
theorem dX8_makePlan_87 : decode cX8_makePlan 87 = .ok (.invokevirtual 282, 3) := by decide +kernel
theorem dX8_makePlan_90 : decode cX8_makePlan 90 = .ok (.iload 4, 2) := by decide +kernel
theorem dX8_makePlan_92 : decode cX8_makePlan 92 = .ok (.invokevirtual 285, 3) := by decide +kernel
theorem dX8_makePlan_95 : decode cX8_makePlan 95 = .ok (.ifCond .ne 5, 3) := by decide +kernel
theorem dX8_makePlan_98 : decode cX8_makePlan 98 = .ok (.iconst 0, 1) := by decide +kernel
theorem dX8_makePlan_99 : decode cX8_makePlan 99 = .ok (.ireturn, 1) := by decide +kernel
theorem dX8_makePlan_100 : decode cX8_makePlan 100 = .ok (.iinc 2 1, 3) := by decide +kernel
theorem dX8_makePlan_103 : decode cX8_makePlan 103 = .ok (.goto (-84), 3) := by decide +kernel
theorem dX8_makePlan_106 : decode cX8_makePlan 106 = .ok (.aload_n 0, 1) := by decide +kernel
theorem dX8_makePlan_107 : decode cX8_makePlan 107 = .ok (.getfield 55, 3) := by decide +kernel
theorem dX8_makePlan_110 : decode cX8_makePlan 110 = .ok (.getfield 286, 3) := by decide +kernel
theorem dX8_makePlan_113 : decode cX8_makePlan 113 = .ok (.ifCond .ne 5, 3) := by decide +kernel
theorem dX8_makePlan_116 : decode cX8_makePlan 116 = .ok (.iconst 0, 1) := by decide +kernel
theorem dX8_makePlan_117 : decode cX8_makePlan 117 = .ok (.ireturn, 1) := by decide +kernel
theorem dX8_makePlan_118 : decode cX8_makePlan 118 = .ok (.aload_n 0, 1) := by decide +kernel
theorem dX8_makePlan_119 : decode cX8_makePlan 119 = .ok (.getfield 55, 3) := by decide +kernel
theorem dX8_makePlan_122 : decode cX8_makePlan 122 = .ok (.iconst 0, 1) := by decide +kernel
theorem dX8_makePlan_123 : decode cX8_makePlan 123 = .ok (.iconst 0, 1) := by decide +kernel
theorem dX8_makePlan_124 : decode cX8_makePlan 124 = .ok (.iconst 0, 1) := by decide +kernel
theorem dX8_makePlan_125 : decode cX8_makePlan 125 = .ok (.aload_n 0, 1) := by decide +kernel
theorem dX8_makePlan_126 : decode cX8_makePlan 126 = .ok (.getfield 55, 3) := by decide +kernel
theorem dX8_makePlan_129 : decode cX8_makePlan 129 = .ok (.getfield 289, 3) := by decide +kernel
theorem dX8_makePlan_132 : decode cX8_makePlan 132 = .ok (.invokestatic 292, 3) := by decide +kernel
theorem dX8_makePlan_135 : decode cX8_makePlan 135 = .ok (.iconst 1, 1) := by decide +kernel
theorem dX8_makePlan_136 : decode cX8_makePlan 136 = .ok (.ireturn, 1) := by decide +kernel
theorem dX8_hoursFor_0 : decode cX8_hoursFor 0 = .ok (.aload_n 0, 1) := by decide +kernel
theorem dX8_hoursFor_1 : decode cX8_hoursFor 1 = .ok (.iload_n 1, 1) := by decide +kernel
theorem dX8_hoursFor_2 : decode cX8_hoursFor 2 = .ok (.invokevirtual 81, 3) := by decide +kernel
theorem dX8_hoursFor_5 : decode cX8_hoursFor 5 = .ok (.astore_n 3, 1) := by decide +kernel
theorem dX8_hoursFor_6 : decode cX8_hoursFor 6 = .ok (.iconst 0, 1) := by decide +kernel
theorem dX8_hoursFor_7 : decode cX8_hoursFor 7 = .ok (.istore 4, 2) := by decide +kernel
theorem dX8_hoursFor_9 : decode cX8_hoursFor 9 = .ok (.iload_n 2, 1) := by decide +kernel
theorem dX8_hoursFor_10 : decode cX8_hoursFor 10 = .ok (.invokestatic 113, 3) := by decide +kernel
theorem dX8_hoursFor_13 : decode cX8_hoursFor 13 = .ok (.istore 5, 2) := by decide +kernel
theorem dX8_hoursFor_15 : decode cX8_hoursFor 15 = .ok (.iconst 0, 1) := by decide +kernel
theorem dX8_hoursFor_16 : decode cX8_hoursFor 16 = .ok (.istore 6, 2) := by decide +kernel
theorem dX8_hoursFor_18 : decode cX8_hoursFor 18 = .ok (.iload 6, 2) := by decide +kernel
theorem dX8_hoursFor_20 : decode cX8_hoursFor 20 = .ok (.iload 5, 2) := by decide +kernel
theorem dX8_hoursFor_22 : decode cX8_hoursFor 22 = .ok (.if_icmp .ge 44, 3) := by decide +kernel
theorem dX8_hoursFor_25 : decode cX8_hoursFor 25 = .ok (.aload_n 3, 1) := by decide +kernel
theorem dX8_hoursFor_26 : decode cX8_hoursFor 26 = .ok (.ifnull 34, 3) := by decide +kernel
theorem dX8_hoursFor_29 : decode cX8_hoursFor 29 = .ok (.aload_n 3, 1) := by decide +kernel
theorem dX8_hoursFor_30 : decode cX8_hoursFor 30 = .ok (.iload 6, 2) := by decide +kernel
theorem dX8_hoursFor_32 : decode cX8_hoursFor 32 = .ok (.invokevirtual 131, 3) := by decide +kernel
theorem dX8_hoursFor_35 : decode cX8_hoursFor 35 = .ok (.ifCond .eq 25, 3) := by decide +kernel
theorem dX8_hoursFor_38 : decode cX8_hoursFor 38 = .ok (.aload_n 0, 1) := by decide +kernel
theorem dX8_hoursFor_39 : decode cX8_hoursFor 39 = .ok (.getfield 41, 3) := by decide +kernel
theorem dX8_hoursFor_42 : decode cX8_hoursFor 42 = .ok (.iload_n 2, 1) := by decide +kernel
theorem dX8_hoursFor_43 : decode cX8_hoursFor 43 = .ok (.iload 6, 2) := by decide +kernel
theorem dX8_hoursFor_45 : decode cX8_hoursFor 45 = .ok (.invokevirtual 134, 3) := by decide +kernel
theorem dX8_hoursFor_48 : decode cX8_hoursFor 48 = .ok (.ifCond .ne 12, 3) := by decide +kernel
theorem dX8_hoursFor_51 : decode cX8_hoursFor 51 = .ok (.iload 4, 2) := by decide +kernel
theorem dX8_hoursFor_53 : decode cX8_hoursFor 53 = .ok (.iconst 1, 1) := by decide +kernel
theorem dX8_hoursFor_54 : decode cX8_hoursFor 54 = .ok (.iload 6, 2) := by decide +kernel
theorem dX8_hoursFor_56 : decode cX8_hoursFor 56 = .ok (.ishl, 1) := by decide +kernel
theorem dX8_hoursFor_57 : decode cX8_hoursFor 57 = .ok (.ior, 1) := by decide +kernel
theorem dX8_hoursFor_58 : decode cX8_hoursFor 58 = .ok (.istore 4, 2) := by decide +kernel
theorem dX8_hoursFor_60 : decode cX8_hoursFor 60 = .ok (.iinc 6 1, 3) := by decide +kernel
theorem dX8_hoursFor_63 : decode cX8_hoursFor 63 = .ok (.goto (-45), 3) := by decide +kernel
theorem dX8_hoursFor_66 : decode cX8_hoursFor 66 = .ok (.iload 4, 2) := by decide +kernel
theorem dX8_hoursFor_68 : decode cX8_hoursFor 68 = .ok (.ireturn, 1) := by decide +kernel
theorem dX8_search_0 : decode cX8_search 0 = .ok (.iload_n 3, 1) := by decide +kernel
theorem dX8_search_1 : decode cX8_search 1 = .ok (.iload 4, 2) := by decide +kernel
theorem dX8_search_3 : decode cX8_search 3 = .ok (.iadd, 1) := by decide +kernel
theorem dX8_search_4 : decode cX8_search 4 = .ok (.aload_n 0, 1) := by decide +kernel
theorem dX8_search_5 : decode cX8_search 5 = .ok (.getfield 170, 3) := by decide +kernel
theorem dX8_search_8 : decode cX8_search 8 = .ok (.if_icmp .gt 4, 3) := by decide +kernel
theorem dX8_search_11 : decode cX8_search 11 = .ok (.return_, 1) := by decide +kernel
theorem dX8_search_12 : decode cX8_search 12 = .ok (.iload_n 1, 1) := by decide +kernel
theorem dX8_search_13 : decode cX8_search 13 = .ok (.aload_n 0, 1) := by decide +kernel
theorem dX8_search_14 : decode cX8_search 14 = .ok (.getfield 286, 3) := by decide +kernel
theorem dX8_search_17 : decode cX8_search 17 = .ok (.if_icmp .ge 8, 3) := by decide +kernel
theorem dX8_search_20 : decode cX8_search 20 = .ok (.iload_n 1, 1) := by decide +kernel
theorem dX8_search_21 : decode cX8_search 21 = .ok (.iconst 5, 1) := by decide +kernel
theorem dX8_search_22 : decode cX8_search 22 = .ok (.if_icmp .lt 9, 3) := by decide +kernel
theorem dX8_search_25 : decode cX8_search 25 = .ok (.aload_n 0, 1) := by decide +kernel
theorem dX8_search_26 : decode cX8_search 26 = .ok (.iload_n 3, 1) := by decide +kernel
theorem dX8_search_27 : decode cX8_search 27 = .ok (.invokevirtual 296, 3) := by decide +kernel
theorem dX8_search_30 : decode cX8_search 30 = .ok (.return_, 1) := by decide +kernel
theorem dX8_search_31 : decode cX8_search 31 = .ok (.aload_n 0, 1) := by decide +kernel
theorem dX8_search_32 : decode cX8_search 32 = .ok (.getfield 299, 3) := by decide +kernel
theorem dX8_search_35 : decode cX8_search 35 = .ok (.iload_n 1, 1) := by decide +kernel
theorem dX8_search_36 : decode cX8_search 36 = .ok (.iaload, 1) := by decide +kernel
theorem dX8_search_37 : decode cX8_search 37 = .ok (.istore 5, 2) := by decide +kernel
theorem dX8_search_39 : decode cX8_search 39 = .ok (.aload_n 0, 1) := by decide +kernel
theorem dX8_search_40 : decode cX8_search 40 = .ok (.iload_n 1, 1) := by decide +kernel
theorem dX8_search_41 : decode cX8_search 41 = .ok (.invokevirtual 302, 3) := by decide +kernel
theorem dX8_search_44 : decode cX8_search 44 = .ok (.ifCond .eq 7, 3) := by decide +kernel
theorem dX8_search_47 : decode cX8_search 47 = .ok (.iconst 0, 1) := by decide +kernel
theorem dX8_search_48 : decode cX8_search 48 = .ok (.goto 13, 3) := by decide +kernel
theorem dX8_search_51 : decode cX8_search 51 = .ok (.aload_n 0, 1) := by decide +kernel
theorem dX8_search_52 : decode cX8_search 52 = .ok (.getfield 305, 3) := by decide +kernel
theorem dX8_search_55 : decode cX8_search 55 = .ok (.iload_n 1, 1) := by decide +kernel
theorem dX8_search_56 : decode cX8_search 56 = .ok (.iaload, 1) := by decide +kernel
theorem dX8_search_57 : decode cX8_search 57 = .ok (.iload_n 2, 1) := by decide +kernel
theorem dX8_search_58 : decode cX8_search 58 = .ok (.iconst (-1), 1) := by decide +kernel
theorem dX8_search_59 : decode cX8_search 59 = .ok (.ixor, 1) := by decide +kernel
theorem dX8_search_60 : decode cX8_search 60 = .ok (.iand, 1) := by decide +kernel
theorem dX8_search_61 : decode cX8_search 61 = .ok (.istore 6, 2) := by decide +kernel
theorem dX8_search_63 : decode cX8_search 63 = .ok (.iconst 0, 1) := by decide +kernel
theorem dX8_search_64 : decode cX8_search 64 = .ok (.istore 7, 2) := by decide +kernel
theorem dX8_search_66 : decode cX8_search 66 = .ok (.iload 7, 2) := by decide +kernel
theorem dX8_search_68 : decode cX8_search 68 = .ok (.bipush 6, 2) := by decide +kernel
theorem dX8_search_70 : decode cX8_search 70 = .ok (.if_icmp .ge 51, 3) := by decide +kernel
theorem dX8_search_73 : decode cX8_search 73 = .ok (.iconst 1, 1) := by decide +kernel
theorem dX8_search_74 : decode cX8_search 74 = .ok (.iload 7, 2) := by decide +kernel
theorem dX8_search_76 : decode cX8_search 76 = .ok (.ishl, 1) := by decide +kernel
theorem dX8_search_77 : decode cX8_search 77 = .ok (.istore 8, 2) := by decide +kernel
theorem dX8_search_79 : decode cX8_search 79 = .ok (.iload 6, 2) := by decide +kernel
theorem dX8_search_81 : decode cX8_search 81 = .ok (.iload 8, 2) := by decide +kernel
theorem dX8_search_83 : decode cX8_search 83 = .ok (.iand, 1) := by decide +kernel
theorem dX8_search_84 : decode cX8_search 84 = .ok (.ifCond .eq 31, 3) := by decide +kernel
theorem dX8_search_87 : decode cX8_search 87 = .ok (.aload_n 0, 1) := by decide +kernel
theorem dX8_search_88 : decode cX8_search 88 = .ok (.getfield 308, 3) := by decide +kernel
theorem dX8_search_91 : decode cX8_search 91 = .ok (.iload_n 1, 1) := by decide +kernel
theorem dX8_search_92 : decode cX8_search 92 = .ok (.iload 7, 2) := by decide +kernel
theorem dX8_search_94 : decode cX8_search 94 = .ok (.iastore, 1) := by decide +kernel
theorem dX8_search_95 : decode cX8_search 95 = .ok (.aload_n 0, 1) := by decide +kernel
theorem dX8_search_96 : decode cX8_search 96 = .ok (.iload_n 1, 1) := by decide +kernel
theorem dX8_search_97 : decode cX8_search 97 = .ok (.iconst 1, 1) := by decide +kernel
theorem dX8_search_98 : decode cX8_search 98 = .ok (.iadd, 1) := by decide +kernel
theorem dX8_search_99 : decode cX8_search 99 = .ok (.iload_n 2, 1) := by decide +kernel
theorem dX8_search_100 : decode cX8_search 100 = .ok (.iload 8, 2) := by decide +kernel
theorem dX8_search_102 : decode cX8_search 102 = .ok (.ior, 1) := by decide +kernel
theorem dX8_search_103 : decode cX8_search 103 = .ok (.iload_n 3, 1) := by decide +kernel
theorem dX8_search_104 : decode cX8_search 104 = .ok (.iload 5, 2) := by decide +kernel
theorem dX8_search_106 : decode cX8_search 106 = .ok (.iadd, 1) := by decide +kernel
theorem dX8_search_107 : decode cX8_search 107 = .ok (.iload 4, 2) := by decide +kernel
theorem dX8_search_109 : decode cX8_search 109 = .ok (.iload 5, 2) := by decide +kernel
theorem dX8_search_111 : decode cX8_search 111 = .ok (.isub, 1) := by decide +kernel
theorem dX8_search_112 : decode cX8_search 112 = .ok (.invokestatic 292, 3) := by decide +kernel
theorem dX8_search_115 : decode cX8_search 115 = .ok (.iinc 7 1, 3) := by decide +kernel
theorem dX8_search_118 : decode cX8_search 118 = .ok (.goto (-52), 3) := by decide +kernel
theorem dX8_search_121 : decode cX8_search 121 = .ok (.aload_n 0, 1) := by decide +kernel
theorem dX8_search_122 : decode cX8_search 122 = .ok (.getfield 308, 3) := by decide +kernel
theorem dX8_search_125 : decode cX8_search 125 = .ok (.iload_n 1, 1) := by decide +kernel
theorem dX8_search_126 : decode cX8_search 126 = .ok (.iconst (-1), 1) := by decide +kernel
theorem dX8_search_127 : decode cX8_search 127 = .ok (.iastore, 1) := by decide +kernel
theorem dX8_search_128 : decode cX8_search 128 = .ok (.aload_n 0, 1) := by decide +kernel
theorem dX8_search_129 : decode cX8_search 129 = .ok (.iload_n 1, 1) := by decide +kernel
theorem dX8_search_130 : decode cX8_search 130 = .ok (.iconst 1, 1) := by decide +kernel
theorem dX8_search_131 : decode cX8_search 131 = .ok (.iadd, 1) := by decide +kernel
theorem dX8_search_132 : decode cX8_search 132 = .ok (.iload_n 2, 1) := by decide +kernel
theorem dX8_search_133 : decode cX8_search 133 = .ok (.iload_n 3, 1) := by decide +kernel
theorem dX8_search_134 : decode cX8_search 134 = .ok (.iload 4, 2) := by decide +kernel
theorem dX8_search_136 : decode cX8_search 136 = .ok (.iload 5, 2) := by decide +kernel
theorem dX8_search_138 : decode cX8_search 138 = .ok (.isub, 1) := by decide +kernel
theorem dX8_search_139 : decode cX8_search 139 = .ok (.invokestatic 292, 3) := by decide +kernel
theorem dX8_search_142 : decode cX8_search 142 = .ok (.return_, 1) := by decide +kernel
theorem dX8_nearestTraced_0 : decode cX8_nearestTraced 0 = .ok (.aload_n 0, 1) := by decide +kernel
theorem dX8_nearestTraced_1 : decode cX8_nearestTraced 1 = .ok (.iload_n 1, 1) := by decide +kernel
theorem dX8_nearestTraced_2 : decode cX8_nearestTraced 2 = .ok (.invokevirtual 117, 3) := by decide +kernel
theorem dX8_nearestTraced_5 : decode cX8_nearestTraced 5 = .ok (.astore_n 3, 1) := by decide +kernel
theorem dX8_nearestTraced_6 : decode cX8_nearestTraced 6 = .ok (.aload_n 3, 1) := by decide +kernel
theorem dX8_nearestTraced_7 : decode cX8_nearestTraced 7 = .ok (.ifnull 11, 3) := by decide +kernel
theorem dX8_nearestTraced_10 : decode cX8_nearestTraced 10 = .ok (.aload_n 3, 1) := by decide +kernel
theorem dX8_nearestTraced_11 : decode cX8_nearestTraced 11 = .ok (.getfield 174, 3) := by decide +kernel
theorem dX8_nearestTraced_14 : decode cX8_nearestTraced 14 = .ok (.iconst (-1), 1) := by decide +kernel
theorem dX8_nearestTraced_15 : decode cX8_nearestTraced 15 = .ok (.if_icmp .ne 5, 3) := by decide +kernel
theorem dX8_nearestTraced_18 : decode cX8_nearestTraced 18 = .ok (.iconst (-1), 1) := by decide +kernel
theorem dX8_nearestTraced_19 : decode cX8_nearestTraced 19 = .ok (.ireturn, 1) := by decide +kernel
theorem dX8_nearestTraced_20 : decode cX8_nearestTraced 20 = .ok (.iconst (-1), 1) := by decide +kernel
theorem dX8_nearestTraced_21 : decode cX8_nearestTraced 21 = .ok (.istore 4, 2) := by decide +kernel
theorem dX8_nearestTraced_23 : decode cX8_nearestTraced 23 = .ok (.iconst 0, 1) := by decide +kernel
theorem dX8_nearestTraced_24 : decode cX8_nearestTraced 24 = .ok (.istore 5, 2) := by decide +kernel
theorem dX8_nearestTraced_26 : decode cX8_nearestTraced 26 = .ok (.iconst 0, 1) := by decide +kernel
theorem dX8_nearestTraced_27 : decode cX8_nearestTraced 27 = .ok (.istore 6, 2) := by decide +kernel
theorem dX8_nearestTraced_29 : decode cX8_nearestTraced 29 = .ok (.iload 6, 2) := by decide +kernel
theorem dX8_nearestTraced_31 : decode cX8_nearestTraced 31 = .ok (.iload_n 1, 1) := by decide +kernel
theorem dX8_nearestTraced_32 : decode cX8_nearestTraced 32 = .ok (.if_icmp .ge 51, 3) := by decide +kernel
theorem dX8_nearestTraced_35 : decode cX8_nearestTraced 35 = .ok (.aload_n 0, 1) := by decide +kernel
theorem dX8_nearestTraced_36 : decode cX8_nearestTraced 36 = .ok (.iload_n 1, 1) := by decide +kernel
theorem dX8_nearestTraced_37 : decode cX8_nearestTraced 37 = .ok (.iload 6, 2) := by decide +kernel
theorem dX8_nearestTraced_39 : decode cX8_nearestTraced 39 = .ok (.invokevirtual 180, 3) := by decide +kernel
theorem dX8_nearestTraced_42 : decode cX8_nearestTraced 42 = .ok (.istore 7, 2) := by decide +kernel
theorem dX8_nearestTraced_44 : decode cX8_nearestTraced 44 = .ok (.iload 6, 2) := by decide +kernel
theorem dX8_nearestTraced_46 : decode cX8_nearestTraced 46 = .ok (.iload_n 2, 1) := by decide +kernel
theorem dX8_nearestTraced_47 : decode cX8_nearestTraced 47 = .ok (.if_icmp .eq 30, 3) := by decide +kernel
theorem dX8_nearestTraced_50 : decode cX8_nearestTraced 50 = .ok (.iload 7, 2) := by decide +kernel
theorem dX8_nearestTraced_52 : decode cX8_nearestTraced 52 = .ok (.iconst (-1), 1) := by decide +kernel
theorem dX8_nearestTraced_53 : decode cX8_nearestTraced 53 = .ok (.if_icmp .eq 24, 3) := by decide +kernel
theorem dX8_nearestTraced_56 : decode cX8_nearestTraced 56 = .ok (.iload 4, 2) := by decide +kernel
theorem dX8_nearestTraced_58 : decode cX8_nearestTraced 58 = .ok (.iconst (-1), 1) := by decide +kernel
theorem dX8_nearestTraced_59 : decode cX8_nearestTraced 59 = .ok (.if_icmp .eq 10, 3) := by decide +kernel
theorem dX8_nearestTraced_62 : decode cX8_nearestTraced 62 = .ok (.iload 7, 2) := by decide +kernel
theorem dX8_nearestTraced_64 : decode cX8_nearestTraced 64 = .ok (.iload 5, 2) := by decide +kernel
theorem dX8_nearestTraced_66 : decode cX8_nearestTraced 66 = .ok (.if_icmp .ge 11, 3) := by decide +kernel
theorem dX8_nearestTraced_69 : decode cX8_nearestTraced 69 = .ok (.iload 6, 2) := by decide +kernel
theorem dX8_nearestTraced_71 : decode cX8_nearestTraced 71 = .ok (.istore 4, 2) := by decide +kernel
theorem dX8_nearestTraced_73 : decode cX8_nearestTraced 73 = .ok (.iload 7, 2) := by decide +kernel
theorem dX8_nearestTraced_75 : decode cX8_nearestTraced 75 = .ok (.istore 5, 2) := by decide +kernel
theorem dX8_nearestTraced_77 : decode cX8_nearestTraced 77 = .ok (.iinc 6 1, 3) := by decide +kernel
theorem dX8_nearestTraced_80 : decode cX8_nearestTraced 80 = .ok (.goto (-51), 3) := by decide +kernel
theorem dX8_nearestTraced_83 : decode cX8_nearestTraced 83 = .ok (.iload 4, 2) := by decide +kernel
theorem dX8_nearestTraced_85 : decode cX8_nearestTraced 85 = .ok (.ireturn, 1) := by decide +kernel
theorem dX8_traceDistance_0 : decode cX8_traceDistance 0 = .ok (.aload_n 0, 1) := by decide +kernel
theorem dX8_traceDistance_1 : decode cX8_traceDistance 1 = .ok (.iload_n 1, 1) := by decide +kernel
theorem dX8_traceDistance_2 : decode cX8_traceDistance 2 = .ok (.invokevirtual 117, 3) := by decide +kernel
theorem dX8_traceDistance_5 : decode cX8_traceDistance 5 = .ok (.astore_n 3, 1) := by decide +kernel
theorem dX8_traceDistance_6 : decode cX8_traceDistance 6 = .ok (.aload_n 0, 1) := by decide +kernel
theorem dX8_traceDistance_7 : decode cX8_traceDistance 7 = .ok (.iload_n 2, 1) := by decide +kernel
theorem dX8_traceDistance_8 : decode cX8_traceDistance 8 = .ok (.invokevirtual 117, 3) := by decide +kernel
theorem dX8_traceDistance_11 : decode cX8_traceDistance 11 = .ok (.astore 4, 2) := by decide +kernel
theorem dX8_traceDistance_13 : decode cX8_traceDistance 13 = .ok (.aload_n 3, 1) := by decide +kernel
theorem dX8_traceDistance_14 : decode cX8_traceDistance 14 = .ok (.ifnull 25, 3) := by decide +kernel
theorem dX8_traceDistance_17 : decode cX8_traceDistance 17 = .ok (.aload 4, 2) := by decide +kernel
theorem dX8_traceDistance_19 : decode cX8_traceDistance 19 = .ok (.ifnull 20, 3) := by decide +kernel
theorem dX8_traceDistance_22 : decode cX8_traceDistance 22 = .ok (.aload_n 3, 1) := by decide +kernel
theorem dX8_traceDistance_23 : decode cX8_traceDistance 23 = .ok (.getfield 174, 3) := by decide +kernel
theorem dX8_traceDistance_26 : decode cX8_traceDistance 26 = .ok (.iconst (-1), 1) := by decide +kernel
theorem dX8_traceDistance_27 : decode cX8_traceDistance 27 = .ok (.if_icmp .eq 12, 3) := by decide +kernel
theorem dX8_traceDistance_30 : decode cX8_traceDistance 30 = .ok (.aload 4, 2) := by decide +kernel
theorem dX8_traceDistance_32 : decode cX8_traceDistance 32 = .ok (.getfield 174, 3) := by decide +kernel
theorem dX8_traceDistance_35 : decode cX8_traceDistance 35 = .ok (.iconst (-1), 1) := by decide +kernel
theorem dX8_traceDistance_36 : decode cX8_traceDistance 36 = .ok (.if_icmp .ne 5, 3) := by decide +kernel
theorem dX8_traceDistance_39 : decode cX8_traceDistance 39 = .ok (.iconst (-1), 1) := by decide +kernel
theorem dX8_traceDistance_40 : decode cX8_traceDistance 40 = .ok (.ireturn, 1) := by decide +kernel
theorem dX8_traceDistance_41 : decode cX8_traceDistance 41 = .ok (.aload_n 3, 1) := by decide +kernel
theorem dX8_traceDistance_42 : decode cX8_traceDistance 42 = .ok (.getfield 174, 3) := by decide +kernel
theorem dX8_traceDistance_45 : decode cX8_traceDistance 45 = .ok (.aload 4, 2) := by decide +kernel
theorem dX8_traceDistance_47 : decode cX8_traceDistance 47 = .ok (.getfield 174, 3) := by decide +kernel
theorem dX8_traceDistance_50 : decode cX8_traceDistance 50 = .ok (.ixor, 1) := by decide +kernel
theorem dX8_traceDistance_51 : decode cX8_traceDistance 51 = .ok (.invokestatic 311, 3) := by decide +kernel
theorem dX8_traceDistance_54 : decode cX8_traceDistance 54 = .ok (.ireturn, 1) := by decide +kernel
theorem dX8_nearestHand_0 : decode cX8_nearestHand 0 = .ok (.iconst (-1), 1) := by decide +kernel
theorem dX8_nearestHand_1 : decode cX8_nearestHand 1 = .ok (.istore_n 3, 1) := by decide +kernel
theorem dX8_nearestHand_2 : decode cX8_nearestHand 2 = .ok (.iconst 0, 1) := by decide +kernel
theorem dX8_nearestHand_3 : decode cX8_nearestHand 3 = .ok (.istore 4, 2) := by decide +kernel
theorem dX8_nearestHand_5 : decode cX8_nearestHand 5 = .ok (.iconst 0, 1) := by decide +kernel
theorem dX8_nearestHand_6 : decode cX8_nearestHand 6 = .ok (.istore 5, 2) := by decide +kernel
theorem dX8_nearestHand_8 : decode cX8_nearestHand 8 = .ok (.iload 5, 2) := by decide +kernel
theorem dX8_nearestHand_10 : decode cX8_nearestHand 10 = .ok (.aload_n 0, 1) := by decide +kernel
theorem dX8_nearestHand_11 : decode cX8_nearestHand 11 = .ok (.getfield 60, 3) := by decide +kernel
theorem dX8_nearestHand_14 : decode cX8_nearestHand 14 = .ok (.if_icmp .ge 49, 3) := by decide +kernel
theorem dX8_nearestHand_17 : decode cX8_nearestHand 17 = .ok (.aload_n 0, 1) := by decide +kernel
theorem dX8_nearestHand_18 : decode cX8_nearestHand 18 = .ok (.iload 5, 2) := by decide +kernel
theorem dX8_nearestHand_20 : decode cX8_nearestHand 20 = .ok (.iload_n 1, 1) := by decide +kernel
theorem dX8_nearestHand_21 : decode cX8_nearestHand 21 = .ok (.invokevirtual 202, 3) := by decide +kernel
theorem dX8_nearestHand_24 : decode cX8_nearestHand 24 = .ok (.istore 6, 2) := by decide +kernel
theorem dX8_nearestHand_26 : decode cX8_nearestHand 26 = .ok (.iload 5, 2) := by decide +kernel
theorem dX8_nearestHand_28 : decode cX8_nearestHand 28 = .ok (.iload_n 2, 1) := by decide +kernel
theorem dX8_nearestHand_29 : decode cX8_nearestHand 29 = .ok (.if_icmp .eq 28, 3) := by decide +kernel
theorem dX8_nearestHand_32 : decode cX8_nearestHand 32 = .ok (.iload 6, 2) := by decide +kernel
theorem dX8_nearestHand_34 : decode cX8_nearestHand 34 = .ok (.iconst (-1), 1) := by decide +kernel
theorem dX8_nearestHand_35 : decode cX8_nearestHand 35 = .ok (.if_icmp .eq 22, 3) := by decide +kernel
theorem dX8_nearestHand_38 : decode cX8_nearestHand 38 = .ok (.iload_n 3, 1) := by decide +kernel
theorem dX8_nearestHand_39 : decode cX8_nearestHand 39 = .ok (.iconst (-1), 1) := by decide +kernel
theorem dX8_nearestHand_40 : decode cX8_nearestHand 40 = .ok (.if_icmp .eq 10, 3) := by decide +kernel
theorem dX8_nearestHand_43 : decode cX8_nearestHand 43 = .ok (.iload 6, 2) := by decide +kernel
theorem dX8_nearestHand_45 : decode cX8_nearestHand 45 = .ok (.iload 4, 2) := by decide +kernel
theorem dX8_nearestHand_47 : decode cX8_nearestHand 47 = .ok (.if_icmp .ge 10, 3) := by decide +kernel
theorem dX8_nearestHand_50 : decode cX8_nearestHand 50 = .ok (.iload 5, 2) := by decide +kernel
theorem dX8_nearestHand_52 : decode cX8_nearestHand 52 = .ok (.istore_n 3, 1) := by decide +kernel
theorem dX8_nearestHand_53 : decode cX8_nearestHand 53 = .ok (.iload 6, 2) := by decide +kernel
theorem dX8_nearestHand_55 : decode cX8_nearestHand 55 = .ok (.istore 4, 2) := by decide +kernel
theorem dX8_nearestHand_57 : decode cX8_nearestHand 57 = .ok (.iinc 5 1, 3) := by decide +kernel
theorem dX8_nearestHand_60 : decode cX8_nearestHand 60 = .ok (.goto (-52), 3) := by decide +kernel
theorem dX8_nearestHand_63 : decode cX8_nearestHand 63 = .ok (.iload_n 3, 1) := by decide +kernel
theorem dX8_nearestHand_64 : decode cX8_nearestHand 64 = .ok (.ireturn, 1) := by decide +kernel
theorem dX8_habitDistance_0 : decode cX8_habitDistance 0 = .ok (.aload_n 0, 1) := by decide +kernel
theorem dX8_habitDistance_1 : decode cX8_habitDistance 1 = .ok (.iload_n 1, 1) := by decide +kernel
theorem dX8_habitDistance_2 : decode cX8_habitDistance 2 = .ok (.invokevirtual 183, 3) := by decide +kernel
theorem dX8_habitDistance_5 : decode cX8_habitDistance 5 = .ok (.astore_n 3, 1) := by decide +kernel
theorem dX8_habitDistance_6 : decode cX8_habitDistance 6 = .ok (.aload_n 3, 1) := by decide +kernel
theorem dX8_habitDistance_7 : decode cX8_habitDistance 7 = .ok (.ifnull 11, 3) := by decide +kernel
theorem dX8_habitDistance_10 : decode cX8_habitDistance 10 = .ok (.aload_n 3, 1) := by decide +kernel
theorem dX8_habitDistance_11 : decode cX8_habitDistance 11 = .ok (.getfield 187, 3) := by decide +kernel
theorem dX8_habitDistance_14 : decode cX8_habitDistance 14 = .ok (.iconst (-1), 1) := by decide +kernel
theorem dX8_habitDistance_15 : decode cX8_habitDistance 15 = .ok (.if_icmp .ne 5, 3) := by decide +kernel
theorem dX8_habitDistance_18 : decode cX8_habitDistance 18 = .ok (.iconst (-1), 1) := by decide +kernel
theorem dX8_habitDistance_19 : decode cX8_habitDistance 19 = .ok (.ireturn, 1) := by decide +kernel
theorem dX8_habitDistance_20 : decode cX8_habitDistance 20 = .ok (.iconst 0, 1) := by decide +kernel
theorem dX8_habitDistance_21 : decode cX8_habitDistance 21 = .ok (.istore 4, 2) := by decide +kernel
theorem dX8_habitDistance_23 : decode cX8_habitDistance 23 = .ok (.aload_n 3, 1) := by decide +kernel
theorem dX8_habitDistance_24 : decode cX8_habitDistance 24 = .ok (.getfield 187, 3) := by decide +kernel
theorem dX8_habitDistance_27 : decode cX8_habitDistance 27 = .ok (.istore 5, 2) := by decide +kernel
theorem dX8_habitDistance_29 : decode cX8_habitDistance 29 = .ok (.iload_n 2, 1) := by decide +kernel
theorem dX8_habitDistance_30 : decode cX8_habitDistance 30 = .ok (.istore 6, 2) := by decide +kernel
theorem dX8_habitDistance_32 : decode cX8_habitDistance 32 = .ok (.iconst 0, 1) := by decide +kernel
theorem dX8_habitDistance_33 : decode cX8_habitDistance 33 = .ok (.istore 7, 2) := by decide +kernel
theorem dX8_habitDistance_35 : decode cX8_habitDistance 35 = .ok (.iload 7, 2) := by decide +kernel
theorem dX8_habitDistance_37 : decode cX8_habitDistance 37 = .ok (.iconst 4, 1) := by decide +kernel
theorem dX8_habitDistance_38 : decode cX8_habitDistance 38 = .ok (.if_icmp .ge 46, 3) := by decide +kernel
theorem dX8_habitDistance_41 : decode cX8_habitDistance 41 = .ok (.iload 5, 2) := by decide +kernel
theorem dX8_habitDistance_43 : decode cX8_habitDistance 43 = .ok (.bipush 10, 2) := by decide +kernel
theorem dX8_habitDistance_45 : decode cX8_habitDistance 45 = .ok (.irem, 1) := by decide +kernel
theorem dX8_habitDistance_46 : decode cX8_habitDistance 46 = .ok (.iload 6, 2) := by decide +kernel
theorem dX8_habitDistance_48 : decode cX8_habitDistance 48 = .ok (.bipush 10, 2) := by decide +kernel
theorem dX8_habitDistance_50 : decode cX8_habitDistance 50 = .ok (.irem, 1) := by decide +kernel
theorem dX8_habitDistance_51 : decode cX8_habitDistance 51 = .ok (.isub, 1) := by decide +kernel
theorem dX8_habitDistance_52 : decode cX8_habitDistance 52 = .ok (.istore 8, 2) := by decide +kernel
theorem dX8_habitDistance_54 : decode cX8_habitDistance 54 = .ok (.iload 4, 2) := by decide +kernel
theorem dX8_habitDistance_56 : decode cX8_habitDistance 56 = .ok (.iload 8, 2) := by decide +kernel
theorem dX8_habitDistance_58 : decode cX8_habitDistance 58 = .ok (.iload 8, 2) := by decide +kernel
theorem dX8_habitDistance_60 : decode cX8_habitDistance 60 = .ok (.imul, 1) := by decide +kernel
theorem dX8_habitDistance_61 : decode cX8_habitDistance 61 = .ok (.iadd, 1) := by decide +kernel
theorem dX8_habitDistance_62 : decode cX8_habitDistance 62 = .ok (.istore 4, 2) := by decide +kernel
theorem dX8_habitDistance_64 : decode cX8_habitDistance 64 = .ok (.iload 5, 2) := by decide +kernel
theorem dX8_habitDistance_66 : decode cX8_habitDistance 66 = .ok (.bipush 10, 2) := by decide +kernel
theorem dX8_habitDistance_68 : decode cX8_habitDistance 68 = .ok (.idiv, 1) := by decide +kernel
theorem dX8_habitDistance_69 : decode cX8_habitDistance 69 = .ok (.istore 5, 2) := by decide +kernel
theorem dX8_habitDistance_71 : decode cX8_habitDistance 71 = .ok (.iload 6, 2) := by decide +kernel
theorem dX8_habitDistance_73 : decode cX8_habitDistance 73 = .ok (.bipush 10, 2) := by decide +kernel
theorem dX8_habitDistance_75 : decode cX8_habitDistance 75 = .ok (.idiv, 1) := by decide +kernel
theorem dX8_habitDistance_76 : decode cX8_habitDistance 76 = .ok (.istore 6, 2) := by decide +kernel
theorem dX8_habitDistance_78 : decode cX8_habitDistance 78 = .ok (.iinc 7 1, 3) := by decide +kernel
theorem dX8_habitDistance_81 : decode cX8_habitDistance 81 = .ok (.goto (-46), 3) := by decide +kernel
theorem dX8_habitDistance_84 : decode cX8_habitDistance 84 = .ok (.iload 4, 2) := by decide +kernel
theorem dX8_habitDistance_86 : decode cX8_habitDistance 86 = .ok (.ireturn, 1) := by decide +kernel
theorem dX9_init_0 : decode cX9_init 0 = .ok (.aload_n 0, 1) := by decide +kernel
theorem dX9_init_1 : decode cX9_init 1 = .ok (.invokespecial 1, 3) := by decide +kernel
theorem dX9_init_4 : decode cX9_init 4 = .ok (.aload_n 0, 1) := by decide +kernel
theorem dX9_init_5 : decode cX9_init 5 = .ok (.bipush 60, 2) := by decide +kernel
theorem dX9_init_7 : decode cX9_init 7 = .ok (.newarray .int, 2) := by decide +kernel
theorem dX9_init_9 : decode cX9_init 9 = .ok (.putfield 9, 3) := by decide +kernel
theorem dX9_init_12 : decode cX9_init 12 = .ok (.aload_n 0, 1) := by decide +kernel
theorem dX9_init_13 : decode cX9_init 13 = .ok (.bipush 60, 2) := by decide +kernel
theorem dX9_init_15 : decode cX9_init 15 = .ok (.newarray .int, 2) := by decide +kernel
theorem dX9_init_17 : decode cX9_init 17 = .ok (.putfield 13, 3) := by decide +kernel
theorem dX9_init_20 : decode cX9_init 20 = .ok (.aload_n 0, 1) := by decide +kernel
theorem dX9_init_21 : decode cX9_init 21 = .ok (.bipush 60, 2) := by decide +kernel
theorem dX9_init_23 : decode cX9_init 23 = .ok (.newarray .int, 2) := by decide +kernel
theorem dX9_init_25 : decode cX9_init 25 = .ok (.putfield 16, 3) := by decide +kernel
theorem dX9_init_28 : decode cX9_init 28 = .ok (.aload_n 0, 1) := by decide +kernel
theorem dX9_init_29 : decode cX9_init 29 = .ok (.iconst 5, 1) := by decide +kernel
theorem dX9_init_30 : decode cX9_init 30 = .ok (.newarray .int, 2) := by decide +kernel
theorem dX9_init_32 : decode cX9_init 32 = .ok (.putfield 19, 3) := by decide +kernel
theorem dX9_init_35 : decode cX9_init 35 = .ok (.aload_n 0, 1) := by decide +kernel
theorem dX9_init_36 : decode cX9_init 36 = .ok (.bipush 7, 2) := by decide +kernel
theorem dX9_init_38 : decode cX9_init 38 = .ok (.newarray .int, 2) := by decide +kernel
theorem dX9_init_40 : decode cX9_init 40 = .ok (.putfield 22, 3) := by decide +kernel
theorem dX9_init_43 : decode cX9_init 43 = .ok (.aload_n 0, 1) := by decide +kernel
theorem dX9_init_44 : decode cX9_init 44 = .ok (.bipush 7, 2) := by decide +kernel
theorem dX9_init_46 : decode cX9_init 46 = .ok (.newarray .int, 2) := by decide +kernel
theorem dX9_init_48 : decode cX9_init 48 = .ok (.putfield 25, 3) := by decide +kernel
theorem dX9_init_51 : decode cX9_init 51 = .ok (.aload_n 0, 1) := by decide +kernel
theorem dX9_init_52 : decode cX9_init 52 = .ok (.bipush 7, 2) := by decide +kernel
theorem dX9_init_54 : decode cX9_init 54 = .ok (.newarray .int, 2) := by decide +kernel
theorem dX9_init_56 : decode cX9_init 56 = .ok (.putfield 28, 3) := by decide +kernel
theorem dX9_init_59 : decode cX9_init 59 = .ok (.aload_n 0, 1) := by decide +kernel
theorem dX9_init_60 : decode cX9_init 60 = .ok (.iconst 1, 1) := by decide +kernel
theorem dX9_init_61 : decode cX9_init 61 = .ok (.putfield 31, 3) := by decide +kernel
theorem dX9_init_64 : decode cX9_init 64 = .ok (.aload_n 0, 1) := by decide +kernel
theorem dX9_init_65 : decode cX9_init 65 = .ok (.bipush 20, 2) := by decide +kernel
theorem dX9_init_67 : decode cX9_init 67 = .ok (.newarray .int, 2) := by decide +kernel
theorem dX9_init_69 : decode cX9_init 69 = .ok (.putfield 35, 3) := by decide +kernel
theorem dX9_init_72 : decode cX9_init 72 = .ok (.aload_n 0, 1) := by decide +kernel
theorem dX9_init_73 : decode cX9_init 73 = .ok (.bipush 20, 2) := by decide +kernel
theorem dX9_init_75 : decode cX9_init 75 = .ok (.newarray .int, 2) := by decide +kernel
theorem dX9_init_77 : decode cX9_init 77 = .ok (.putfield 38, 3) := by decide +kernel
theorem dX9_init_80 : decode cX9_init 80 = .ok (.aload_n 0, 1) := by decide +kernel
theorem dX9_init_81 : decode cX9_init 81 = .ok (.bipush 20, 2) := by decide +kernel
theorem dX9_init_83 : decode cX9_init 83 = .ok (.newarray .int, 2) := by decide +kernel
theorem dX9_init_85 : decode cX9_init 85 = .ok (.putfield 41, 3) := by decide +kernel
theorem dX9_init_88 : decode cX9_init 88 = .ok (.aload_n 0, 1) := by decide +kernel
theorem dX9_init_89 : decode cX9_init 89 = .ok (.bipush 40, 2) := by decide +kernel
theorem dX9_init_91 : decode cX9_init 91 = .ok (.newarray .int, 2) := by decide +kernel
theorem dX9_init_93 : decode cX9_init 93 = .ok (.putfield 44, 3) := by decide +kernel
theorem dX9_init_96 : decode cX9_init 96 = .ok (.aload_n 0, 1) := by decide +kernel
theorem dX9_init_97 : decode cX9_init 97 = .ok (.bipush 40, 2) := by decide +kernel
theorem dX9_init_99 : decode cX9_init 99 = .ok (.newarray .int, 2) := by decide +kernel
theorem dX9_init_101 : decode cX9_init 101 = .ok (.putfield 47, 3) := by decide +kernel
theorem dX9_init_104 : decode cX9_init 104 = .ok (.aload_n 0, 1) := by decide +kernel
theorem dX9_init_105 : decode cX9_init 105 = .ok (.bipush 40, 2) := by decide +kernel
theorem dX9_init_107 : decode cX9_init 107 = .ok (.newarray .int, 2) := by decide +kernel
theorem dX9_init_109 : decode cX9_init 109 = .ok (.putfield 50, 3) := by decide +kernel
theorem dX9_init_112 : decode cX9_init 112 = .ok (.aload_n 0, 1) := by decide +kernel
theorem dX9_init_113 : decode cX9_init 113 = .ok (.bipush 40, 2) := by decide +kernel
theorem dX9_init_115 : decode cX9_init 115 = .ok (.newarray .int, 2) := by decide +kernel
theorem dX9_init_117 : decode cX9_init 117 = .ok (.putfield 53, 3) := by decide +kernel
theorem dX9_init_120 : decode cX9_init 120 = .ok (.aload_n 0, 1) := by decide +kernel
theorem dX9_init_121 : decode cX9_init 121 = .ok (.bipush 40, 2) := by decide +kernel
theorem dX9_init_123 : decode cX9_init 123 = .ok (.newarray .int, 2) := by decide +kernel
theorem dX9_init_125 : decode cX9_init 125 = .ok (.putfield 56, 3) := by decide +kernel
theorem dX9_init_128 : decode cX9_init 128 = .ok (.aload_n 0, 1) := by decide +kernel
theorem dX9_init_129 : decode cX9_init 129 = .ok (.bipush 40, 2) := by decide +kernel
theorem dX9_init_131 : decode cX9_init 131 = .ok (.newarray .int, 2) := by decide +kernel
theorem dX9_init_133 : decode cX9_init 133 = .ok (.putfield 59, 3) := by decide +kernel
theorem dX9_init_136 : decode cX9_init 136 = .ok (.aload_n 0, 1) := by decide +kernel
theorem dX9_init_137 : decode cX9_init 137 = .ok (.bipush 40, 2) := by decide +kernel
theorem dX9_init_139 : decode cX9_init 139 = .ok (.iconst 5, 1) := by decide +kernel
theorem dX9_init_140 : decode cX9_init 140 = .ok (.multianewarray 62 2, 4) := by decide +kernel
theorem dX9_init_144 : decode cX9_init 144 = .ok (.putfield 64, 3) := by decide +kernel
theorem dX9_init_147 : decode cX9_init 147 = .ok (.aload_n 0, 1) := by decide +kernel
theorem dX9_init_148 : decode cX9_init 148 = .ok (.bipush 40, 2) := by decide +kernel
theorem dX9_init_150 : decode cX9_init 150 = .ok (.iconst 5, 1) := by decide +kernel
theorem dX9_init_151 : decode cX9_init 151 = .ok (.multianewarray 62 2, 4) := by decide +kernel
theorem dX9_init_155 : decode cX9_init 155 = .ok (.putfield 67, 3) := by decide +kernel
theorem dX9_init_158 : decode cX9_init 158 = .ok (.aload_n 0, 1) := by decide +kernel
theorem dX9_init_159 : decode cX9_init 159 = .ok (.bipush 40, 2) := by decide +kernel
theorem dX9_init_161 : decode cX9_init 161 = .ok (.iconst 5, 1) := by decide +kernel
theorem dX9_init_162 : decode cX9_init 162 = .ok (.multianewarray 62 2, 4) := by decide +kernel
theorem dX9_init_166 : decode cX9_init 166 = .ok (.putfield 70, 3) := by decide +kernel
theorem dX9_init_169 : decode cX9_init 169 = .ok (.aload_n 0, 1) := by decide +kernel
theorem dX9_init_170 : decode cX9_init 170 = .ok (.bipush 40, 2) := by decide +kernel
theorem dX9_init_172 : decode cX9_init 172 = .ok (.iconst 5, 1) := by decide +kernel
theorem dX9_init_173 : decode cX9_init 173 = .ok (.multianewarray 62 2, 4) := by decide +kernel
theorem dX9_init_177 : decode cX9_init 177 = .ok (.putfield 73, 3) := by decide +kernel
theorem dX9_init_180 : decode cX9_init 180 = .ok (.aload_n 0, 1) := by decide +kernel
theorem dX9_init_181 : decode cX9_init 181 = .ok (.bipush 40, 2) := by decide +kernel
theorem dX9_init_183 : decode cX9_init 183 = .ok (.iconst 5, 1) := by decide +kernel
theorem dX9_init_184 : decode cX9_init 184 = .ok (.multianewarray 62 2, 4) := by decide +kernel
theorem dX9_init_188 : decode cX9_init 188 = .ok (.putfield 76, 3) := by decide +kernel
theorem dX9_init_191 : decode cX9_init 191 = .ok (.aload_n 0, 1) := by decide +kernel
theorem dX9_init_192 : decode cX9_init 192 = .ok (.iconst 5, 1) := by decide +kernel
theorem dX9_init_193 : decode cX9_init 193 = .ok (.newarray .int, 2) := by decide +kernel
theorem dX9_init_195 : decode cX9_init 195 = .ok (.putfield 79, 3) := by decide +kernel
theorem dX9_init_198 : decode cX9_init 198 = .ok (.aload_n 0, 1) := by decide +kernel
theorem dX9_init_199 : decode cX9_init 199 = .ok (.iconst 5, 1) := by decide +kernel
theorem dX9_init_200 : decode cX9_init 200 = .ok (.newarray .int, 2) := by decide +kernel
theorem dX9_init_202 : decode cX9_init 202 = .ok (.putfield 82, 3) := by decide +kernel
theorem dX9_init_205 : decode cX9_init 205 = .ok (.aload_n 0, 1) := by decide +kernel
theorem dX9_init_206 : decode cX9_init 206 = .ok (.sipush 200, 3) := by decide +kernel
theorem dX9_init_209 : decode cX9_init 209 = .ok (.newarray .int, 2) := by decide +kernel
theorem dX9_init_211 : decode cX9_init 211 = .ok (.putfield 85, 3) := by decide +kernel
theorem dX9_init_214 : decode cX9_init 214 = .ok (.aload_n 0, 1) := by decide +kernel
theorem dX9_init_215 : decode cX9_init 215 = .ok (.sipush 200, 3) := by decide +kernel
theorem dX9_init_218 : decode cX9_init 218 = .ok (.newarray .int, 2) := by decide +kernel
theorem dX9_init_220 : decode cX9_init 220 = .ok (.putfield 88, 3) := by decide +kernel
theorem dX9_init_223 : decode cX9_init 223 = .ok (.aload_n 0, 1) := by decide +kernel
theorem dX9_init_224 : decode cX9_init 224 = .ok (.sipush 200, 3) := by decide +kernel
theorem dX9_init_227 : decode cX9_init 227 = .ok (.newarray .int, 2) := by decide +kernel
theorem dX9_init_229 : decode cX9_init 229 = .ok (.putfield 91, 3) := by decide +kernel
theorem dX9_init_232 : decode cX9_init 232 = .ok (.aload_n 0, 1) := by decide +kernel
theorem dX9_init_233 : decode cX9_init 233 = .ok (.sipush 200, 3) := by decide +kernel
theorem dX9_init_236 : decode cX9_init 236 = .ok (.newarray .boolean, 2) := by decide +kernel
theorem dX9_init_238 : decode cX9_init 238 = .ok (.putfield 94, 3) := by decide +kernel
theorem dX9_init_241 : decode cX9_init 241 = .ok (.aload_n 0, 1) := by decide +kernel
theorem dX9_init_242 : decode cX9_init 242 = .ok (.iconst 5, 1) := by decide +kernel
theorem dX9_init_243 : decode cX9_init 243 = .ok (.putfield 98, 3) := by decide +kernel
theorem dX9_init_246 : decode cX9_init 246 = .ok (.aload_n 0, 1) := by decide +kernel
theorem dX9_init_247 : decode cX9_init 247 = .ok (.iconst 5, 1) := by decide +kernel
theorem dX9_init_248 : decode cX9_init 248 = .ok (.newarray .int, 2) := by decide +kernel
theorem dX9_init_250 : decode cX9_init 250 = .ok (.putfield 101, 3) := by decide +kernel
theorem dX9_init_253 : decode cX9_init 253 = .ok (.aload_n 0, 1) := by decide +kernel
theorem dX9_init_254 : decode cX9_init 254 = .ok (.iconst 5, 1) := by decide +kernel
theorem dX9_init_255 : decode cX9_init 255 = .ok (.newarray .int, 2) := by decide +kernel
theorem dX9_init_257 : decode cX9_init 257 = .ok (.putfield 104, 3) := by decide +kernel
theorem dX9_init_260 : decode cX9_init 260 = .ok (.aload_n 0, 1) := by decide +kernel
theorem dX9_init_261 : decode cX9_init 261 = .ok (.iconst 5, 1) := by decide +kernel
theorem dX9_init_262 : decode cX9_init 262 = .ok (.newarray .int, 2) := by decide +kernel
theorem dX9_init_264 : decode cX9_init 264 = .ok (.putfield 107, 3) := by decide +kernel
theorem dX9_init_267 : decode cX9_init 267 = .ok (.iconst 0, 1) := by decide +kernel
theorem dX9_init_268 : decode cX9_init 268 = .ok (.istore_n 1, 1) := by decide +kernel
theorem dX9_init_269 : decode cX9_init 269 = .ok (.iload_n 1, 1) := by decide +kernel
theorem dX9_init_270 : decode cX9_init 270 = .ok (.bipush 7, 2) := by decide +kernel
theorem dX9_init_272 : decode cX9_init 272 = .ok (.if_icmp .ge 23, 3) := by decide +kernel
theorem dX9_init_275 : decode cX9_init 275 = .ok (.aload_n 0, 1) := by decide +kernel
theorem dX9_init_276 : decode cX9_init 276 = .ok (.getfield 22, 3) := by decide +kernel
theorem dX9_init_279 : decode cX9_init 279 = .ok (.iload_n 1, 1) := by decide +kernel
theorem dX9_init_280 : decode cX9_init 280 = .ok (.iconst (-1), 1) := by decide +kernel
theorem dX9_init_281 : decode cX9_init 281 = .ok (.iastore, 1) := by decide +kernel
theorem dX9_init_282 : decode cX9_init 282 = .ok (.aload_n 0, 1) := by decide +kernel
theorem dX9_init_283 : decode cX9_init 283 = .ok (.getfield 28, 3) := by decide +kernel
theorem dX9_init_286 : decode cX9_init 286 = .ok (.iload_n 1, 1) := by decide +kernel
theorem dX9_init_287 : decode cX9_init 287 = .ok (.iconst (-1), 1) := by decide +kernel
theorem dX9_init_288 : decode cX9_init 288 = .ok (.iastore, 1) := by decide +kernel
theorem dX9_init_289 : decode cX9_init 289 = .ok (.iinc 1 1, 3) := by decide +kernel
theorem dX9_init_292 : decode cX9_init 292 = .ok (.goto (-23), 3) := by decide +kernel
theorem dX9_init_295 : decode cX9_init 295 = .ok (.iconst 0, 1) := by decide +kernel
theorem dX9_init_296 : decode cX9_init 296 = .ok (.istore_n 1, 1) := by decide +kernel
theorem dX9_init_297 : decode cX9_init 297 = .ok (.iload_n 1, 1) := by decide +kernel
theorem dX9_init_298 : decode cX9_init 298 = .ok (.iconst 5, 1) := by decide +kernel
theorem dX9_init_299 : decode cX9_init 299 = .ok (.if_icmp .ge 16, 3) := by decide +kernel
theorem dX9_init_302 : decode cX9_init 302 = .ok (.aload_n 0, 1) := by decide +kernel
theorem dX9_init_303 : decode cX9_init 303 = .ok (.getfield 79, 3) := by decide +kernel
theorem dX9_init_306 : decode cX9_init 306 = .ok (.iload_n 1, 1) := by decide +kernel
theorem dX9_init_307 : decode cX9_init 307 = .ok (.iconst (-1), 1) := by decide +kernel
theorem dX9_init_308 : decode cX9_init 308 = .ok (.iastore, 1) := by decide +kernel
theorem dX9_init_309 : decode cX9_init 309 = .ok (.iinc 1 1, 3) := by decide +kernel
theorem dX9_init_312 : decode cX9_init 312 = .ok (.goto (-15), 3) := by decide +kernel
theorem dX9_init_315 : decode cX9_init 315 = .ok (.return_, 1) := by decide +kernel
theorem dX9_in_0 : decode cX9_in 0 = .ok (.iload_n 0, 1) := by decide +kernel
theorem dX9_in_1 : decode cX9_in 1 = .ok (.iload_n 1, 1) := by decide +kernel
theorem dX9_in_2 : decode cX9_in 2 = .ok (.if_icmp .lt 12, 3) := by decide +kernel
theorem dX9_in_5 : decode cX9_in 5 = .ok (.iload_n 0, 1) := by decide +kernel
theorem dX9_in_6 : decode cX9_in 6 = .ok (.iload_n 2, 1) := by decide +kernel
theorem dX9_in_7 : decode cX9_in 7 = .ok (.if_icmp .gt 7, 3) := by decide +kernel
theorem dX9_in_10 : decode cX9_in 10 = .ok (.iconst 1, 1) := by decide +kernel
theorem dX9_in_11 : decode cX9_in 11 = .ok (.goto 4, 3) := by decide +kernel
theorem dX9_in_14 : decode cX9_in 14 = .ok (.iconst 0, 1) := by decide +kernel
theorem dX9_in_15 : decode cX9_in 15 = .ok (.ireturn, 1) := by decide +kernel
theorem dX9_isPicture_0 : decode cX9_isPicture 0 = .ok (.iload_n 1, 1) := by decide +kernel
theorem dX9_isPicture_1 : decode cX9_isPicture 1 = .ok (.iconst 0, 1) := by decide +kernel
theorem dX9_isPicture_2 : decode cX9_isPicture 2 = .ok (.aload_n 0, 1) := by decide +kernel
theorem dX9_isPicture_3 : decode cX9_isPicture 3 = .ok (.getfield 110, 3) := by decide +kernel
theorem dX9_isPicture_6 : decode cX9_isPicture 6 = .ok (.iconst 1, 1) := by decide +kernel
theorem dX9_isPicture_7 : decode cX9_isPicture 7 = .ok (.isub, 1) := by decide +kernel
theorem dX9_isPicture_8 : decode cX9_isPicture 8 = .ok (.invokestatic 113, 3) := by decide +kernel
theorem dX9_isPicture_11 : decode cX9_isPicture 11 = .ok (.ireturn, 1) := by decide +kernel
theorem dX9_isSitter_0 : decode cX9_isSitter 0 = .ok (.iload_n 1, 1) := by decide +kernel
theorem dX9_isSitter_1 : decode cX9_isSitter 1 = .ok (.iconst 0, 1) := by decide +kernel
theorem dX9_isSitter_2 : decode cX9_isSitter 2 = .ok (.aload_n 0, 1) := by decide +kernel
theorem dX9_isSitter_3 : decode cX9_isSitter 3 = .ok (.getfield 117, 3) := by decide +kernel
theorem dX9_isSitter_6 : decode cX9_isSitter 6 = .ok (.iconst 1, 1) := by decide +kernel
theorem dX9_isSitter_7 : decode cX9_isSitter 7 = .ok (.isub, 1) := by decide +kernel
theorem dX9_isSitter_8 : decode cX9_isSitter 8 = .ok (.invokestatic 113, 3) := by decide +kernel
theorem dX9_isSitter_11 : decode cX9_isSitter 11 = .ok (.ireturn, 1) := by decide +kernel
theorem dX9_isHand_0 : decode cX9_isHand 0 = .ok (.iload_n 1, 1) := by decide +kernel
theorem dX9_isHand_1 : decode cX9_isHand 1 = .ok (.iconst 0, 1) := by decide +kernel
theorem dX9_isHand_2 : decode cX9_isHand 2 = .ok (.aload_n 0, 1) := by decide +kernel
theorem dX9_isHand_3 : decode cX9_isHand 3 = .ok (.getfield 31, 3) := by decide +kernel
theorem dX9_isHand_6 : decode cX9_isHand 6 = .ok (.iconst 1, 1) := by decide +kernel
theorem dX9_isHand_7 : decode cX9_isHand 7 = .ok (.isub, 1) := by decide +kernel
theorem dX9_isHand_8 : decode cX9_isHand 8 = .ok (.invokestatic 113, 3) := by decide +kernel
theorem dX9_isHand_11 : decode cX9_isHand 11 = .ok (.ireturn, 1) := by decide +kernel
theorem dX9_list_0 : decode cX9_list 0 = .ok (.iload_n 1, 1) := by decide +kernel
theorem dX9_list_1 : decode cX9_list 1 = .ok (.iconst 0, 1) := by decide +kernel
theorem dX9_list_2 : decode cX9_list 2 = .ok (.bipush 54, 2) := by decide +kernel
theorem dX9_list_4 : decode cX9_list 4 = .ok (.invokestatic 113, 3) := by decide +kernel
theorem dX9_list_7 : decode cX9_list 7 = .ok (.ifCond .eq 32, 3) := by decide +kernel
theorem dX9_list_10 : decode cX9_list 10 = .ok (.iload_n 2, 1) := by decide +kernel
theorem dX9_list_11 : decode cX9_list 11 = .ok (.iconst 0, 1) := by decide +kernel
theorem dX9_list_12 : decode cX9_list 12 = .ok (.iconst 3, 1) := by decide +kernel
theorem dX9_list_13 : decode cX9_list 13 = .ok (.invokestatic 113, 3) := by decide +kernel
theorem dX9_list_16 : decode cX9_list 16 = .ok (.ifCond .eq 23, 3) := by decide +kernel
theorem dX9_list_19 : decode cX9_list 19 = .ok (.iload_n 3, 1) := by decide +kernel
theorem dX9_list_20 : decode cX9_list 20 = .ok (.iconst 0, 1) := by decide +kernel
theorem dX9_list_21 : decode cX9_list 21 = .ok (.sipush 9999, 3) := by decide +kernel
theorem dX9_list_24 : decode cX9_list 24 = .ok (.invokestatic 113, 3) := by decide +kernel
theorem dX9_list_27 : decode cX9_list 27 = .ok (.ifCond .eq 12, 3) := by decide +kernel
theorem dX9_list_30 : decode cX9_list 30 = .ok (.aload_n 0, 1) := by decide +kernel
theorem dX9_list_31 : decode cX9_list 31 = .ok (.getfield 120, 3) := by decide +kernel
theorem dX9_list_34 : decode cX9_list 34 = .ok (.bipush 60, 2) := by decide +kernel
theorem dX9_list_36 : decode cX9_list 36 = .ok (.if_icmp .ne 5, 3) := by decide +kernel
theorem dX9_list_39 : decode cX9_list 39 = .ok (.iconst 0, 1) := by decide +kernel
theorem dX9_list_40 : decode cX9_list 40 = .ok (.ireturn, 1) := by decide +kernel
theorem dX9_list_41 : decode cX9_list 41 = .ok (.aload_n 0, 1) := by decide +kernel
theorem dX9_list_42 : decode cX9_list 42 = .ok (.getfield 9, 3) := by decide +kernel
theorem dX9_list_45 : decode cX9_list 45 = .ok (.aload_n 0, 1) := by decide +kernel
theorem dX9_list_46 : decode cX9_list 46 = .ok (.getfield 120, 3) := by decide +kernel
theorem dX9_list_49 : decode cX9_list 49 = .ok (.iload_n 1, 1) := by decide +kernel
theorem dX9_list_50 : decode cX9_list 50 = .ok (.iastore, 1) := by decide +kernel
theorem dX9_list_51 : decode cX9_list 51 = .ok (.aload_n 0, 1) := by decide +kernel
theorem dX9_list_52 : decode cX9_list 52 = .ok (.getfield 13, 3) := by decide +kernel
theorem dX9_list_55 : decode cX9_list 55 = .ok (.aload_n 0, 1) := by decide +kernel
theorem dX9_list_56 : decode cX9_list 56 = .ok (.getfield 120, 3) := by decide +kernel
theorem dX9_list_59 : decode cX9_list 59 = .ok (.iload_n 2, 1) := by decide +kernel
theorem dX9_list_60 : decode cX9_list 60 = .ok (.iastore, 1) := by decide +kernel
theorem dX9_list_61 : decode cX9_list 61 = .ok (.aload_n 0, 1) := by decide +kernel
theorem dX9_list_62 : decode cX9_list 62 = .ok (.getfield 16, 3) := by decide +kernel
theorem dX9_list_65 : decode cX9_list 65 = .ok (.aload_n 0, 1) := by decide +kernel
theorem dX9_list_66 : decode cX9_list 66 = .ok (.getfield 120, 3) := by decide +kernel
theorem dX9_list_69 : decode cX9_list 69 = .ok (.iload_n 3, 1) := by decide +kernel
theorem dX9_list_70 : decode cX9_list 70 = .ok (.iastore, 1) := by decide +kernel
theorem dX9_list_71 : decode cX9_list 71 = .ok (.aload_n 0, 1) := by decide +kernel
theorem dX9_list_72 : decode cX9_list 72 = .ok (.dup, 1) := by decide +kernel
theorem dX9_list_73 : decode cX9_list 73 = .ok (.getfield 120, 3) := by decide +kernel
theorem dX9_list_76 : decode cX9_list 76 = .ok (.iconst 1, 1) := by decide +kernel
theorem dX9_list_77 : decode cX9_list 77 = .ok (.iadd, 1) := by decide +kernel
theorem dX9_list_78 : decode cX9_list 78 = .ok (.putfield 120, 3) := by decide +kernel
theorem dX9_list_81 : decode cX9_list 81 = .ok (.iconst 1, 1) := by decide +kernel
theorem dX9_list_82 : decode cX9_list 82 = .ok (.ireturn, 1) := by decide +kernel
theorem dX9_listed_0 : decode cX9_listed 0 = .ok (.iconst (-1), 1) := by decide +kernel
theorem dX9_listed_1 : decode cX9_listed 1 = .ok (.istore_n 3, 1) := by decide +kernel
theorem dX9_listed_2 : decode cX9_listed 2 = .ok (.iconst 0, 1) := by decide +kernel
theorem dX9_listed_3 : decode cX9_listed 3 = .ok (.istore 4, 2) := by decide +kernel
theorem dX9_listed_5 : decode cX9_listed 5 = .ok (.iload 4, 2) := by decide +kernel
theorem dX9_listed_7 : decode cX9_listed 7 = .ok (.aload_n 0, 1) := by decide +kernel
theorem dX9_listed_8 : decode cX9_listed 8 = .ok (.getfield 120, 3) := by decide +kernel
theorem dX9_listed_11 : decode cX9_listed 11 = .ok (.if_icmp .ge 55, 3) := by decide +kernel
theorem dX9_listed_14 : decode cX9_listed 14 = .ok (.aload_n 0, 1) := by decide +kernel
theorem dX9_listed_15 : decode cX9_listed 15 = .ok (.getfield 13, 3) := by decide +kernel
theorem dX9_listed_18 : decode cX9_listed 18 = .ok (.iload 4, 2) := by decide +kernel
theorem dX9_listed_20 : decode cX9_listed 20 = .ok (.iaload, 1) := by decide +kernel
theorem dX9_listed_21 : decode cX9_listed 21 = .ok (.iload_n 1, 1) := by decide +kernel
theorem dX9_listed_22 : decode cX9_listed 22 = .ok (.if_icmp .ne 38, 3) := by decide +kernel
theorem dX9_listed_25 : decode cX9_listed 25 = .ok (.aload_n 0, 1) := by decide +kernel
theorem dX9_listed_26 : decode cX9_listed 26 = .ok (.getfield 9, 3) := by decide +kernel
theorem dX9_listed_29 : decode cX9_listed 29 = .ok (.iload 4, 2) := by decide +kernel
theorem dX9_listed_31 : decode cX9_listed 31 = .ok (.iaload, 1) := by decide +kernel
theorem dX9_listed_32 : decode cX9_listed 32 = .ok (.iload_n 2, 1) := by decide +kernel
theorem dX9_listed_33 : decode cX9_listed 33 = .ok (.if_icmp .gt 27, 3) := by decide +kernel
theorem dX9_listed_36 : decode cX9_listed 36 = .ok (.iload_n 3, 1) := by decide +kernel
theorem dX9_listed_37 : decode cX9_listed 37 = .ok (.iconst (-1), 1) := by decide +kernel
theorem dX9_listed_38 : decode cX9_listed 38 = .ok (.if_icmp .eq 19, 3) := by decide +kernel
theorem dX9_listed_41 : decode cX9_listed 41 = .ok (.aload_n 0, 1) := by decide +kernel
theorem dX9_listed_42 : decode cX9_listed 42 = .ok (.getfield 9, 3) := by decide +kernel
theorem dX9_listed_45 : decode cX9_listed 45 = .ok (.iload 4, 2) := by decide +kernel
theorem dX9_listed_47 : decode cX9_listed 47 = .ok (.iaload, 1) := by decide +kernel
theorem dX9_listed_48 : decode cX9_listed 48 = .ok (.aload_n 0, 1) := by decide +kernel
theorem dX9_listed_49 : decode cX9_listed 49 = .ok (.getfield 9, 3) := by decide +kernel
theorem dX9_listed_52 : decode cX9_listed 52 = .ok (.iload_n 3, 1) := by decide +kernel
theorem dX9_listed_53 : decode cX9_listed 53 = .ok (.iaload, 1) := by decide +kernel
theorem dX9_listed_54 : decode cX9_listed 54 = .ok (.if_icmp .lt 6, 3) := by decide +kernel
theorem dX9_listed_57 : decode cX9_listed 57 = .ok (.iload 4, 2) := by decide +kernel
theorem dX9_listed_59 : decode cX9_listed 59 = .ok (.istore_n 3, 1) := by decide +kernel
