theorem dX0_init_0 : decode cX0_init 0 = .ok (.aload_n 0, 1) := by decide +kernel
theorem dX0_init_1 : decode cX0_init 1 = .ok (.invokespecial 3, 3) := by decide +kernel
theorem dX0_init_4 : decode cX0_init 4 = .ok (.aload_n 0, 1) := by decide +kernel
theorem dX0_init_5 : decode cX0_init 5 = .ok (.iconst (-1), 1) := by decide +kernel
theorem dX0_init_6 : decode cX0_init 6 = .ok (.putfield 9, 3) := by decide +kernel
theorem dX0_init_9 : decode cX0_init 9 = .ok (.aload_n 0, 1) := by decide +kernel
theorem dX0_init_10 : decode cX0_init 10 = .ok (.iconst (-1), 1) := by decide +kernel
theorem dX0_init_11 : decode cX0_init 11 = .ok (.putfield 15, 3) := by decide +kernel
theorem dX0_init_14 : decode cX0_init 14 = .ok (.return_, 1) := by decide +kernel
theorem dX0_layersOn_0 : decode cX0_layersOn 0 = .ok (.aload_n 0, 1) := by decide +kernel
theorem dX0_layersOn_1 : decode cX0_layersOn 1 = .ok (.getfield 15, 3) := by decide +kernel
theorem dX0_layersOn_4 : decode cX0_layersOn 4 = .ok (.iload_n 1, 1) := by decide +kernel
theorem dX0_layersOn_5 : decode cX0_layersOn 5 = .ok (.if_icmp .ne 10, 3) := by decide +kernel
theorem dX0_layersOn_8 : decode cX0_layersOn 8 = .ok (.aload_n 0, 1) := by decide +kernel
theorem dX0_layersOn_9 : decode cX0_layersOn 9 = .ok (.getfield 18, 3) := by decide +kernel
theorem dX0_layersOn_12 : decode cX0_layersOn 12 = .ok (.goto 4, 3) := by decide +kernel
theorem dX0_layersOn_15 : decode cX0_layersOn 15 = .ok (.iconst 0, 1) := by decide +kernel
theorem dX0_layersOn_16 : decode cX0_layersOn 16 = .ok (.ireturn, 1) := by decide +kernel
theorem dX0_addLayerOn_0 : decode cX0_addLayerOn 0 = .ok (.aload_n 0, 1) := by decide +kernel
theorem dX0_addLayerOn_1 : decode cX0_addLayerOn 1 = .ok (.aload_n 0, 1) := by decide +kernel
theorem dX0_addLayerOn_2 : decode cX0_addLayerOn 2 = .ok (.iload_n 1, 1) := by decide +kernel
theorem dX0_addLayerOn_3 : decode cX0_addLayerOn 3 = .ok (.invokevirtual 21, 3) := by decide +kernel
theorem dX0_addLayerOn_6 : decode cX0_addLayerOn 6 = .ok (.iconst 1, 1) := by decide +kernel
theorem dX0_addLayerOn_7 : decode cX0_addLayerOn 7 = .ok (.iadd, 1) := by decide +kernel
theorem dX0_addLayerOn_8 : decode cX0_addLayerOn 8 = .ok (.putfield 18, 3) := by decide +kernel
theorem dX0_addLayerOn_11 : decode cX0_addLayerOn 11 = .ok (.aload_n 0, 1) := by decide +kernel
theorem dX0_addLayerOn_12 : decode cX0_addLayerOn 12 = .ok (.iload_n 1, 1) := by decide +kernel
theorem dX0_addLayerOn_13 : decode cX0_addLayerOn 13 = .ok (.putfield 15, 3) := by decide +kernel
theorem dX0_addLayerOn_16 : decode cX0_addLayerOn 16 = .ok (.return_, 1) := by decide +kernel
theorem dX1_init_0 : decode cX1_init 0 = .ok (.aload_n 0, 1) := by decide +kernel
theorem dX1_init_1 : decode cX1_init 1 = .ok (.invokespecial 3, 3) := by decide +kernel
theorem dX1_init_4 : decode cX1_init 4 = .ok (.aload_n 0, 1) := by decide +kernel
theorem dX1_init_5 : decode cX1_init 5 = .ok (.bipush 60, 2) := by decide +kernel
theorem dX1_init_7 : decode cX1_init 7 = .ok (.newarray .int, 2) := by decide +kernel
theorem dX1_init_9 : decode cX1_init 9 = .ok (.putfield 9, 3) := by decide +kernel
theorem dX1_init_12 : decode cX1_init 12 = .ok (.aload_n 0, 1) := by decide +kernel
theorem dX1_init_13 : decode cX1_init 13 = .ok (.bipush 60, 2) := by decide +kernel
theorem dX1_init_15 : decode cX1_init 15 = .ok (.newarray .int, 2) := by decide +kernel
theorem dX1_init_17 : decode cX1_init 17 = .ok (.putfield 15, 3) := by decide +kernel
theorem dX1_init_20 : decode cX1_init 20 = .ok (.aload_n 0, 1) := by decide +kernel
theorem dX1_init_21 : decode cX1_init 21 = .ok (.bipush 60, 2) := by decide +kernel
theorem dX1_init_23 : decode cX1_init 23 = .ok (.newarray .int, 2) := by decide +kernel
theorem dX1_init_25 : decode cX1_init 25 = .ok (.putfield 18, 3) := by decide +kernel
theorem dX1_init_28 : decode cX1_init 28 = .ok (.return_, 1) := by decide +kernel
theorem dX1_add_0 : decode cX1_add 0 = .ok (.aload_n 0, 1) := by decide +kernel
theorem dX1_add_1 : decode cX1_add 1 = .ok (.getfield 21, 3) := by decide +kernel
theorem dX1_add_4 : decode cX1_add 4 = .ok (.bipush 60, 2) := by decide +kernel
theorem dX1_add_6 : decode cX1_add 6 = .ok (.if_icmp .lt 5, 3) := by decide +kernel
theorem dX1_add_9 : decode cX1_add 9 = .ok (.iconst 0, 1) := by decide +kernel
theorem dX1_add_10 : decode cX1_add 10 = .ok (.ireturn, 1) := by decide +kernel
theorem dX1_add_11 : decode cX1_add 11 = .ok (.aload_n 0, 1) := by decide +kernel
theorem dX1_add_12 : decode cX1_add 12 = .ok (.getfield 9, 3) := by decide +kernel
theorem dX1_add_15 : decode cX1_add 15 = .ok (.aload_n 0, 1) := by decide +kernel
theorem dX1_add_16 : decode cX1_add 16 = .ok (.getfield 21, 3) := by decide +kernel
theorem dX1_add_19 : decode cX1_add 19 = .ok (.iload_n 1, 1) := by decide +kernel
theorem dX1_add_20 : decode cX1_add 20 = .ok (.iastore, 1) := by decide +kernel
theorem dX1_add_21 : decode cX1_add 21 = .ok (.aload_n 0, 1) := by decide +kernel
theorem dX1_add_22 : decode cX1_add 22 = .ok (.getfield 15, 3) := by decide +kernel
theorem dX1_add_25 : decode cX1_add 25 = .ok (.aload_n 0, 1) := by decide +kernel
theorem dX1_add_26 : decode cX1_add 26 = .ok (.getfield 21, 3) := by decide +kernel
theorem dX1_add_29 : decode cX1_add 29 = .ok (.iload_n 2, 1) := by decide +kernel
theorem dX1_add_30 : decode cX1_add 30 = .ok (.iastore, 1) := by decide +kernel
theorem dX1_add_31 : decode cX1_add 31 = .ok (.aload_n 0, 1) := by decide +kernel
theorem dX1_add_32 : decode cX1_add 32 = .ok (.getfield 18, 3) := by decide +kernel
theorem dX1_add_35 : decode cX1_add 35 = .ok (.aload_n 0, 1) := by decide +kernel
theorem dX1_add_36 : decode cX1_add 36 = .ok (.getfield 21, 3) := by decide +kernel
theorem dX1_add_39 : decode cX1_add 39 = .ok (.iload_n 3, 1) := by decide +kernel
theorem dX1_add_40 : decode cX1_add 40 = .ok (.iastore, 1) := by decide +kernel
theorem dX1_add_41 : decode cX1_add 41 = .ok (.aload_n 0, 1) := by decide +kernel
theorem dX1_add_42 : decode cX1_add 42 = .ok (.dup, 1) := by decide +kernel
theorem dX1_add_43 : decode cX1_add 43 = .ok (.getfield 21, 3) := by decide +kernel
theorem dX1_add_46 : decode cX1_add 46 = .ok (.iconst 1, 1) := by decide +kernel
theorem dX1_add_47 : decode cX1_add 47 = .ok (.iadd, 1) := by decide +kernel
theorem dX1_add_48 : decode cX1_add 48 = .ok (.putfield 21, 3) := by decide +kernel
theorem dX1_add_51 : decode cX1_add 51 = .ok (.iconst 1, 1) := by decide +kernel
theorem dX1_add_52 : decode cX1_add 52 = .ok (.ireturn, 1) := by decide +kernel
theorem dX1_priceIn_0 : decode cX1_priceIn 0 = .ok (.iconst 0, 1) := by decide +kernel
theorem dX1_priceIn_1 : decode cX1_priceIn 1 = .ok (.istore_n 3, 1) := by decide +kernel
theorem dX1_priceIn_2 : decode cX1_priceIn 2 = .ok (.iconst 0, 1) := by decide +kernel
theorem dX1_priceIn_3 : decode cX1_priceIn 3 = .ok (.istore 4, 2) := by decide +kernel
theorem dX1_priceIn_5 : decode cX1_priceIn 5 = .ok (.iconst 0, 1) := by decide +kernel
theorem dX1_priceIn_6 : decode cX1_priceIn 6 = .ok (.istore 5, 2) := by decide +kernel
theorem dX1_priceIn_8 : decode cX1_priceIn 8 = .ok (.iload 5, 2) := by decide +kernel
theorem dX1_priceIn_10 : decode cX1_priceIn 10 = .ok (.aload_n 0, 1) := by decide +kernel
theorem dX1_priceIn_11 : decode cX1_priceIn 11 = .ok (.getfield 21, 3) := by decide +kernel
theorem dX1_priceIn_14 : decode cX1_priceIn 14 = .ok (.if_icmp .ge 60, 3) := by decide +kernel
theorem dX1_priceIn_17 : decode cX1_priceIn 17 = .ok (.aload_n 0, 1) := by decide +kernel
theorem dX1_priceIn_18 : decode cX1_priceIn 18 = .ok (.getfield 15, 3) := by decide +kernel
theorem dX1_priceIn_21 : decode cX1_priceIn 21 = .ok (.iload 5, 2) := by decide +kernel
theorem dX1_priceIn_23 : decode cX1_priceIn 23 = .ok (.iaload, 1) := by decide +kernel
theorem dX1_priceIn_24 : decode cX1_priceIn 24 = .ok (.iload_n 2, 1) := by decide +kernel
theorem dX1_priceIn_25 : decode cX1_priceIn 25 = .ok (.if_icmp .ne 43, 3) := by decide +kernel
theorem dX1_priceIn_28 : decode cX1_priceIn 28 = .ok (.aload_n 0, 1) := by decide +kernel
theorem dX1_priceIn_29 : decode cX1_priceIn 29 = .ok (.getfield 9, 3) := by decide +kernel
theorem dX1_priceIn_32 : decode cX1_priceIn 32 = .ok (.iload 5, 2) := by decide +kernel
theorem dX1_priceIn_34 : decode cX1_priceIn 34 = .ok (.iaload, 1) := by decide +kernel
theorem dX1_priceIn_35 : decode cX1_priceIn 35 = .ok (.iload_n 1, 1) := by decide +kernel
theorem dX1_priceIn_36 : decode cX1_priceIn 36 = .ok (.if_icmp .gt 32, 3) := by decide +kernel
theorem dX1_priceIn_39 : decode cX1_priceIn 39 = .ok (.aload_n 0, 1) := by decide +kernel
theorem dX1_priceIn_40 : decode cX1_priceIn 40 = .ok (.getfield 9, 3) := by decide +kernel
theorem dX1_priceIn_43 : decode cX1_priceIn 43 = .ok (.iload 5, 2) := by decide +kernel
theorem dX1_priceIn_45 : decode cX1_priceIn 45 = .ok (.iaload, 1) := by decide +kernel
theorem dX1_priceIn_46 : decode cX1_priceIn 46 = .ok (.iload 4, 2) := by decide +kernel
theorem dX1_priceIn_48 : decode cX1_priceIn 48 = .ok (.if_icmp .lt 20, 3) := by decide +kernel
theorem dX1_priceIn_51 : decode cX1_priceIn 51 = .ok (.aload_n 0, 1) := by decide +kernel
theorem dX1_priceIn_52 : decode cX1_priceIn 52 = .ok (.getfield 9, 3) := by decide +kernel
theorem dX1_priceIn_55 : decode cX1_priceIn 55 = .ok (.iload 5, 2) := by decide +kernel
theorem dX1_priceIn_57 : decode cX1_priceIn 57 = .ok (.iaload, 1) := by decide +kernel
theorem dX1_priceIn_58 : decode cX1_priceIn 58 = .ok (.istore 4, 2) := by decide +kernel
theorem dX1_priceIn_60 : decode cX1_priceIn 60 = .ok (.aload_n 0, 1) := by decide +kernel
theorem dX1_priceIn_61 : decode cX1_priceIn 61 = .ok (.getfield 18, 3) := by decide +kernel
theorem dX1_priceIn_64 : decode cX1_priceIn 64 = .ok (.iload 5, 2) := by decide +kernel
theorem dX1_priceIn_66 : decode cX1_priceIn 66 = .ok (.iaload, 1) := by decide +kernel
theorem dX1_priceIn_67 : decode cX1_priceIn 67 = .ok (.istore_n 3, 1) := by decide +kernel
theorem dX1_priceIn_68 : decode cX1_priceIn 68 = .ok (.iinc 5 1, 3) := by decide +kernel
theorem dX1_priceIn_71 : decode cX1_priceIn 71 = .ok (.goto (-63), 3) := by decide +kernel
theorem dX1_priceIn_74 : decode cX1_priceIn 74 = .ok (.iload_n 3, 1) := by decide +kernel
theorem dX1_priceIn_75 : decode cX1_priceIn 75 = .ok (.ireturn, 1) := by decide +kernel
theorem dX2_init_0 : decode cX2_init 0 = .ok (.aload_n 0, 1) := by decide +kernel
theorem dX2_init_1 : decode cX2_init 1 = .ok (.invokespecial 3, 3) := by decide +kernel
theorem dX2_init_4 : decode cX2_init 4 = .ok (.aload_n 0, 1) := by decide +kernel
theorem dX2_init_5 : decode cX2_init 5 = .ok (.iload_n 1, 1) := by decide +kernel
theorem dX2_init_6 : decode cX2_init 6 = .ok (.putfield 9, 3) := by decide +kernel
theorem dX2_init_9 : decode cX2_init 9 = .ok (.aload_n 0, 1) := by decide +kernel
theorem dX2_init_10 : decode cX2_init 10 = .ok (.iconst (-1), 1) := by decide +kernel
theorem dX2_init_11 : decode cX2_init 11 = .ok (.putfield 15, 3) := by decide +kernel
theorem dX2_init_14 : decode cX2_init 14 = .ok (.aload_n 0, 1) := by decide +kernel
theorem dX2_init_15 : decode cX2_init 15 = .ok (.iconst (-1), 1) := by decide +kernel
theorem dX2_init_16 : decode cX2_init 16 = .ok (.putfield 18, 3) := by decide +kernel
theorem dX2_init_19 : decode cX2_init 19 = .ok (.aload_n 0, 1) := by decide +kernel
theorem dX2_init_20 : decode cX2_init 20 = .ok (.iconst (-1), 1) := by decide +kernel
theorem dX2_init_21 : decode cX2_init 21 = .ok (.putfield 21, 3) := by decide +kernel
theorem dX2_init_24 : decode cX2_init 24 = .ok (.return_, 1) := by decide +kernel
theorem dX2_wantsMore_0 : decode cX2_wantsMore 0 = .ok (.aload_n 0, 1) := by decide +kernel
theorem dX2_wantsMore_1 : decode cX2_wantsMore 1 = .ok (.getfield 24, 3) := by decide +kernel
theorem dX2_wantsMore_4 : decode cX2_wantsMore 4 = .ok (.aload_n 0, 1) := by decide +kernel
theorem dX2_wantsMore_5 : decode cX2_wantsMore 5 = .ok (.getfield 9, 3) := by decide +kernel
theorem dX2_wantsMore_8 : decode cX2_wantsMore 8 = .ok (.if_icmp .ge 7, 3) := by decide +kernel
theorem dX2_wantsMore_11 : decode cX2_wantsMore 11 = .ok (.iconst 1, 1) := by decide +kernel
theorem dX2_wantsMore_12 : decode cX2_wantsMore 12 = .ok (.goto 4, 3) := by decide +kernel
theorem dX2_wantsMore_15 : decode cX2_wantsMore 15 = .ok (.iconst 0, 1) := by decide +kernel
theorem dX2_wantsMore_16 : decode cX2_wantsMore 16 = .ok (.ireturn, 1) := by decide +kernel
theorem dX2_isWet_0 : decode cX2_isWet 0 = .ok (.aload_n 0, 1) := by decide +kernel
theorem dX2_isWet_1 : decode cX2_isWet 1 = .ok (.getfield 15, 3) := by decide +kernel
theorem dX2_isWet_4 : decode cX2_isWet 4 = .ok (.iconst (-1), 1) := by decide +kernel
theorem dX2_isWet_5 : decode cX2_isWet 5 = .ok (.if_icmp .eq 17, 3) := by decide +kernel
theorem dX2_isWet_8 : decode cX2_isWet 8 = .ok (.iload_n 1, 1) := by decide +kernel
theorem dX2_isWet_9 : decode cX2_isWet 9 = .ok (.aload_n 0, 1) := by decide +kernel
theorem dX2_isWet_10 : decode cX2_isWet 10 = .ok (.getfield 15, 3) := by decide +kernel
theorem dX2_isWet_13 : decode cX2_isWet 13 = .ok (.isub, 1) := by decide +kernel
theorem dX2_isWet_14 : decode cX2_isWet 14 = .ok (.iload_n 2, 1) := by decide +kernel
theorem dX2_isWet_15 : decode cX2_isWet 15 = .ok (.if_icmp .ge 7, 3) := by decide +kernel
theorem dX2_isWet_18 : decode cX2_isWet 18 = .ok (.iconst 1, 1) := by decide +kernel
theorem dX2_isWet_19 : decode cX2_isWet 19 = .ok (.goto 4, 3) := by decide +kernel
theorem dX2_isWet_22 : decode cX2_isWet 22 = .ok (.iconst 0, 1) := by decide +kernel
theorem dX2_isWet_23 : decode cX2_isWet 23 = .ok (.ireturn, 1) := by decide +kernel
theorem dX3_init_0 : decode cX3_init 0 = .ok (.aload_n 0, 1) := by decide +kernel
theorem dX3_init_1 : decode cX3_init 1 = .ok (.invokespecial 3, 3) := by decide +kernel
theorem dX3_init_4 : decode cX3_init 4 = .ok (.aload_n 0, 1) := by decide +kernel
theorem dX3_init_5 : decode cX3_init 5 = .ok (.iload_n 1, 1) := by decide +kernel
theorem dX3_init_6 : decode cX3_init 6 = .ok (.putfield 9, 3) := by decide +kernel
theorem dX3_init_9 : decode cX3_init 9 = .ok (.aload_n 0, 1) := by decide +kernel
theorem dX3_init_10 : decode cX3_init 10 = .ok (.iload_n 3, 1) := by decide +kernel
theorem dX3_init_11 : decode cX3_init 11 = .ok (.putfield 15, 3) := by decide +kernel
theorem dX3_init_14 : decode cX3_init 14 = .ok (.aload_n 0, 1) := by decide +kernel
theorem dX3_init_15 : decode cX3_init 15 = .ok (.iload 4, 2) := by decide +kernel
theorem dX3_init_17 : decode cX3_init 17 = .ok (.putfield 18, 3) := by decide +kernel
theorem dX3_init_20 : decode cX3_init 20 = .ok (.aload_n 0, 1) := by decide +kernel
theorem dX3_init_21 : decode cX3_init 21 = .ok (.iload 5, 2) := by decide +kernel
theorem dX3_init_23 : decode cX3_init 23 = .ok (.putfield 21, 3) := by decide +kernel
theorem dX3_init_26 : decode cX3_init 26 = .ok (.aload_n 0, 1) := by decide +kernel
theorem dX3_init_27 : decode cX3_init 27 = .ok (.iconst 5, 1) := by decide +kernel
theorem dX3_init_28 : decode cX3_init 28 = .ok (.anewarray 24, 3) := by decide +kernel
theorem dX3_init_31 : decode cX3_init 31 = .ok (.putfield 26, 3) := by decide +kernel
theorem dX3_init_34 : decode cX3_init 34 = .ok (.iload_n 2, 1) := by decide +kernel
theorem dX3_init_35 : decode cX3_init 35 = .ok (.istore 6, 2) := by decide +kernel
theorem dX3_init_37 : decode cX3_init 37 = .ok (.iconst 4, 1) := by decide +kernel
theorem dX3_init_38 : decode cX3_init 38 = .ok (.istore 7, 2) := by decide +kernel
theorem dX3_init_40 : decode cX3_init 40 = .ok (.iload 7, 2) := by decide +kernel
theorem dX3_init_42 : decode cX3_init 42 = .ok (.ifCond .lt 49, 3) := by decide +kernel
theorem dX3_init_45 : decode cX3_init 45 = .ok (.aload_n 0, 1) := by decide +kernel
theorem dX3_init_46 : decode cX3_init 46 = .ok (.getfield 26, 3) := by decide +kernel
theorem dX3_init_49 : decode cX3_init 49 = .ok (.iload 7, 2) := by decide +kernel
theorem dX3_init_51 : decode cX3_init 51 = .ok (.new 24, 3) := by decide +kernel
theorem dX3_init_54 : decode cX3_init 54 = .ok (.dup, 1) := by decide +kernel
theorem dX3_init_55 : decode cX3_init 55 = .ok (.iload 6, 2) := by decide +kernel
theorem dX3_init_57 : decode cX3_init 57 = .ok (.bipush 10, 2) := by decide +kernel
theorem dX3_init_59 : decode cX3_init 59 = .ok (.irem, 1) := by decide +kernel
theorem dX3_init_60 : decode cX3_init 60 = .ok (.invokespecial 30, 3) := by decide +kernel
theorem dX3_init_63 : decode cX3_init 63 = .ok (.aastore, 1) := by decide +kernel
theorem dX3_init_64 : decode cX3_init 64 = .ok (.aload_n 0, 1) := by decide +kernel
theorem dX3_init_65 : decode cX3_init 65 = .ok (.dup, 1) := by decide +kernel
theorem dX3_init_66 : decode cX3_init 66 = .ok (.getfield 33, 3) := by decide +kernel
theorem dX3_init_69 : decode cX3_init 69 = .ok (.iload 6, 2) := by decide +kernel
theorem dX3_init_71 : decode cX3_init 71 = .ok (.bipush 10, 2) := by decide +kernel
theorem dX3_init_73 : decode cX3_init 73 = .ok (.irem, 1) := by decide +kernel
theorem dX3_init_74 : decode cX3_init 74 = .ok (.iadd, 1) := by decide +kernel
theorem dX3_init_75 : decode cX3_init 75 = .ok (.putfield 33, 3) := by decide +kernel
theorem dX3_init_78 : decode cX3_init 78 = .ok (.iload 6, 2) := by decide +kernel
theorem dX3_init_80 : decode cX3_init 80 = .ok (.bipush 10, 2) := by decide +kernel
theorem dX3_init_82 : decode cX3_init 82 = .ok (.idiv, 1) := by decide +kernel
theorem dX3_init_83 : decode cX3_init 83 = .ok (.istore 6, 2) := by decide +kernel
theorem dX3_init_85 : decode cX3_init 85 = .ok (.iinc 7 (-1), 3) := by decide +kernel
theorem dX3_init_88 : decode cX3_init 88 = .ok (.goto (-48), 3) := by decide +kernel
theorem dX3_init_91 : decode cX3_init 91 = .ok (.aload_n 0, 1) := by decide +kernel
theorem dX3_init_92 : decode cX3_init 92 = .ok (.iconst (-1), 1) := by decide +kernel
theorem dX3_init_93 : decode cX3_init 93 = .ok (.putfield 36, 3) := by decide +kernel
theorem dX3_init_96 : decode cX3_init 96 = .ok (.aload_n 0, 1) := by decide +kernel
theorem dX3_init_97 : decode cX3_init 97 = .ok (.iconst (-1), 1) := by decide +kernel
theorem dX3_init_98 : decode cX3_init 98 = .ok (.putfield 39, 3) := by decide +kernel
theorem dX3_init_101 : decode cX3_init 101 = .ok (.return_, 1) := by decide +kernel
theorem dX3_isDone_0 : decode cX3_isDone 0 = .ok (.aload_n 0, 1) := by decide +kernel
theorem dX3_isDone_1 : decode cX3_isDone 1 = .ok (.getfield 36, 3) := by decide +kernel
theorem dX3_isDone_4 : decode cX3_isDone 4 = .ok (.iconst (-1), 1) := by decide +kernel
theorem dX3_isDone_5 : decode cX3_isDone 5 = .ok (.if_icmp .eq 7, 3) := by decide +kernel
theorem dX3_isDone_8 : decode cX3_isDone 8 = .ok (.iconst 1, 1) := by decide +kernel
theorem dX3_isDone_9 : decode cX3_isDone 9 = .ok (.goto 4, 3) := by decide +kernel
theorem dX3_isDone_12 : decode cX3_isDone 12 = .ok (.iconst 0, 1) := by decide +kernel
theorem dX3_isDone_13 : decode cX3_isDone 13 = .ok (.ireturn, 1) := by decide +kernel
theorem dX3_wantsHead_0 : decode cX3_wantsHead 0 = .ok (.aload_n 0, 1) := by decide +kernel
theorem dX3_wantsHead_1 : decode cX3_wantsHead 1 = .ok (.getfield 26, 3) := by decide +kernel
theorem dX3_wantsHead_4 : decode cX3_wantsHead 4 = .ok (.iconst 0, 1) := by decide +kernel
theorem dX3_wantsHead_5 : decode cX3_wantsHead 5 = .ok (.aaload, 1) := by decide +kernel
theorem dX3_wantsHead_6 : decode cX3_wantsHead 6 = .ok (.astore_n 1, 1) := by decide +kernel
theorem dX3_wantsHead_7 : decode cX3_wantsHead 7 = .ok (.aload_n 1, 1) := by decide +kernel
theorem dX3_wantsHead_8 : decode cX3_wantsHead 8 = .ok (.ifnull 14, 3) := by decide +kernel
theorem dX3_wantsHead_11 : decode cX3_wantsHead 11 = .ok (.aload_n 1, 1) := by decide +kernel
theorem dX3_wantsHead_12 : decode cX3_wantsHead 12 = .ok (.invokevirtual 42, 3) := by decide +kernel
theorem dX3_wantsHead_15 : decode cX3_wantsHead 15 = .ok (.ifCond .eq 7, 3) := by decide +kernel
theorem dX3_wantsHead_18 : decode cX3_wantsHead 18 = .ok (.iconst 1, 1) := by decide +kernel
theorem dX3_wantsHead_19 : decode cX3_wantsHead 19 = .ok (.goto 4, 3) := by decide +kernel
theorem dX3_wantsHead_22 : decode cX3_wantsHead 22 = .ok (.iconst 0, 1) := by decide +kernel
theorem dX3_wantsHead_23 : decode cX3_wantsHead 23 = .ok (.ireturn, 1) := by decide +kernel
theorem dX4_init_0 : decode cX4_init 0 = .ok (.aload_n 0, 1) := by decide +kernel
theorem dX4_init_1 : decode cX4_init 1 = .ok (.invokespecial 3, 3) := by decide +kernel
theorem dX4_init_4 : decode cX4_init 4 = .ok (.aload_n 0, 1) := by decide +kernel
theorem dX4_init_5 : decode cX4_init 5 = .ok (.iconst 5, 1) := by decide +kernel
theorem dX4_init_6 : decode cX4_init 6 = .ok (.newarray .int, 2) := by decide +kernel
theorem dX4_init_8 : decode cX4_init 8 = .ok (.putfield 9, 3) := by decide +kernel
theorem dX4_init_11 : decode cX4_init 11 = .ok (.aload_n 0, 1) := by decide +kernel
theorem dX4_init_12 : decode cX4_init 12 = .ok (.iconst 5, 1) := by decide +kernel
theorem dX4_init_13 : decode cX4_init 13 = .ok (.newarray .int, 2) := by decide +kernel
theorem dX4_init_15 : decode cX4_init 15 = .ok (.putfield 15, 3) := by decide +kernel
theorem dX4_init_18 : decode cX4_init 18 = .ok (.aload_n 0, 1) := by decide +kernel
theorem dX4_init_19 : decode cX4_init 19 = .ok (.iconst 5, 1) := by decide +kernel
theorem dX4_init_20 : decode cX4_init 20 = .ok (.newarray .int, 2) := by decide +kernel
theorem dX4_init_22 : decode cX4_init 22 = .ok (.putfield 18, 3) := by decide +kernel
theorem dX4_init_25 : decode cX4_init 25 = .ok (.aload_n 0, 1) := by decide +kernel
theorem dX4_init_26 : decode cX4_init 26 = .ok (.iconst 5, 1) := by decide +kernel
theorem dX4_init_27 : decode cX4_init 27 = .ok (.newarray .int, 2) := by decide +kernel
theorem dX4_init_29 : decode cX4_init 29 = .ok (.putfield 21, 3) := by decide +kernel
theorem dX4_init_32 : decode cX4_init 32 = .ok (.aload_n 0, 1) := by decide +kernel
theorem dX4_init_33 : decode cX4_init 33 = .ok (.iconst 5, 1) := by decide +kernel
theorem dX4_init_34 : decode cX4_init 34 = .ok (.newarray .int, 2) := by decide +kernel
theorem dX4_init_36 : decode cX4_init 36 = .ok (.putfield 24, 3) := by decide +kernel
theorem dX4_init_39 : decode cX4_init 39 = .ok (.aload_n 0, 1) := by decide +kernel
theorem dX4_init_40 : decode cX4_init 40 = .ok (.iconst 5, 1) := by decide +kernel
theorem dX4_init_41 : decode cX4_init 41 = .ok (.newarray .int, 2) := by decide +kernel
theorem dX4_init_43 : decode cX4_init 43 = .ok (.putfield 27, 3) := by decide +kernel
theorem dX4_init_46 : decode cX4_init 46 = .ok (.return_, 1) := by decide +kernel
theorem dX4_clear_0 : decode cX4_clear 0 = .ok (.aload_n 0, 1) := by decide +kernel
theorem dX4_clear_1 : decode cX4_clear 1 = .ok (.iconst 0, 1) := by decide +kernel
theorem dX4_clear_2 : decode cX4_clear 2 = .ok (.putfield 30, 3) := by decide +kernel
theorem dX4_clear_5 : decode cX4_clear 5 = .ok (.aload_n 0, 1) := by decide +kernel
theorem dX4_clear_6 : decode cX4_clear 6 = .ok (.iconst 0, 1) := by decide +kernel
theorem dX4_clear_7 : decode cX4_clear 7 = .ok (.putfield 34, 3) := by decide +kernel
theorem dX4_clear_10 : decode cX4_clear 10 = .ok (.aload_n 0, 1) := by decide +kernel
theorem dX4_clear_11 : decode cX4_clear 11 = .ok (.iconst (-1), 1) := by decide +kernel
theorem dX4_clear_12 : decode cX4_clear 12 = .ok (.putfield 37, 3) := by decide +kernel
theorem dX4_clear_15 : decode cX4_clear 15 = .ok (.return_, 1) := by decide +kernel
theorem dX4_add_0 : decode cX4_add 0 = .ok (.aload_n 0, 1) := by decide +kernel
theorem dX4_add_1 : decode cX4_add 1 = .ok (.getfield 30, 3) := by decide +kernel
theorem dX4_add_4 : decode cX4_add 4 = .ok (.iconst 5, 1) := by decide +kernel
theorem dX4_add_5 : decode cX4_add 5 = .ok (.if_icmp .lt 5, 3) := by decide +kernel
theorem dX4_add_8 : decode cX4_add 8 = .ok (.iconst 0, 1) := by decide +kernel
theorem dX4_add_9 : decode cX4_add 9 = .ok (.ireturn, 1) := by decide +kernel
theorem dX4_add_10 : decode cX4_add 10 = .ok (.aload_n 0, 1) := by decide +kernel
theorem dX4_add_11 : decode cX4_add 11 = .ok (.getfield 9, 3) := by decide +kernel
theorem dX4_add_14 : decode cX4_add 14 = .ok (.aload_n 0, 1) := by decide +kernel
theorem dX4_add_15 : decode cX4_add 15 = .ok (.getfield 30, 3) := by decide +kernel
theorem dX4_add_18 : decode cX4_add 18 = .ok (.iload_n 1, 1) := by decide +kernel
theorem dX4_add_19 : decode cX4_add 19 = .ok (.iastore, 1) := by decide +kernel
theorem dX4_add_20 : decode cX4_add 20 = .ok (.aload_n 0, 1) := by decide +kernel
theorem dX4_add_21 : decode cX4_add 21 = .ok (.getfield 15, 3) := by decide +kernel
theorem dX4_add_24 : decode cX4_add 24 = .ok (.aload_n 0, 1) := by decide +kernel
theorem dX4_add_25 : decode cX4_add 25 = .ok (.getfield 30, 3) := by decide +kernel
theorem dX4_add_28 : decode cX4_add 28 = .ok (.iload_n 2, 1) := by decide +kernel
theorem dX4_add_29 : decode cX4_add 29 = .ok (.iastore, 1) := by decide +kernel
theorem dX4_add_30 : decode cX4_add 30 = .ok (.aload_n 0, 1) := by decide +kernel
theorem dX4_add_31 : decode cX4_add 31 = .ok (.getfield 18, 3) := by decide +kernel
theorem dX4_add_34 : decode cX4_add 34 = .ok (.aload_n 0, 1) := by decide +kernel
theorem dX4_add_35 : decode cX4_add 35 = .ok (.getfield 30, 3) := by decide +kernel
theorem dX4_add_38 : decode cX4_add 38 = .ok (.iload_n 3, 1) := by decide +kernel
theorem dX4_add_39 : decode cX4_add 39 = .ok (.iastore, 1) := by decide +kernel
theorem dX4_add_40 : decode cX4_add 40 = .ok (.aload_n 0, 1) := by decide +kernel
theorem dX4_add_41 : decode cX4_add 41 = .ok (.getfield 21, 3) := by decide +kernel
theorem dX4_add_44 : decode cX4_add 44 = .ok (.aload_n 0, 1) := by decide +kernel
theorem dX4_add_45 : decode cX4_add 45 = .ok (.getfield 30, 3) := by decide +kernel
theorem dX4_add_48 : decode cX4_add 48 = .ok (.iload 4, 2) := by decide +kernel
theorem dX4_add_50 : decode cX4_add 50 = .ok (.iastore, 1) := by decide +kernel
theorem dX4_add_51 : decode cX4_add 51 = .ok (.aload_n 0, 1) := by decide +kernel
theorem dX4_add_52 : decode cX4_add 52 = .ok (.dup, 1) := by decide +kernel
theorem dX4_add_53 : decode cX4_add 53 = .ok (.getfield 34, 3) := by decide +kernel
theorem dX4_add_56 : decode cX4_add 56 = .ok (.iload 4, 2) := by decide +kernel
theorem dX4_add_58 : decode cX4_add 58 = .ok (.iadd, 1) := by decide +kernel
theorem dX4_add_59 : decode cX4_add 59 = .ok (.putfield 34, 3) := by decide +kernel
theorem dX4_add_62 : decode cX4_add 62 = .ok (.aload_n 0, 1) := by decide +kernel
theorem dX4_add_63 : decode cX4_add 63 = .ok (.dup, 1) := by decide +kernel
theorem dX4_add_64 : decode cX4_add 64 = .ok (.getfield 30, 3) := by decide +kernel
theorem dX4_add_67 : decode cX4_add 67 = .ok (.iconst 1, 1) := by decide +kernel
theorem dX4_add_68 : decode cX4_add 68 = .ok (.iadd, 1) := by decide +kernel
theorem dX4_add_69 : decode cX4_add 69 = .ok (.putfield 30, 3) := by decide +kernel
theorem dX4_add_72 : decode cX4_add 72 = .ok (.iconst 1, 1) := by decide +kernel
theorem dX4_add_73 : decode cX4_add 73 = .ok (.ireturn, 1) := by decide +kernel
theorem dX4_sitterIsPlaced_0 : decode cX4_sitterIsPlaced 0 = .ok (.iconst 0, 1) := by decide +kernel
theorem dX4_sitterIsPlaced_1 : decode cX4_sitterIsPlaced 1 = .ok (.istore_n 2, 1) := by decide +kernel
theorem dX4_sitterIsPlaced_2 : decode cX4_sitterIsPlaced 2 = .ok (.iload_n 2, 1) := by decide +kernel
theorem dX4_sitterIsPlaced_3 : decode cX4_sitterIsPlaced 3 = .ok (.iload_n 1, 1) := by decide +kernel
theorem dX4_sitterIsPlaced_4 : decode cX4_sitterIsPlaced 4 = .ok (.if_icmp .ge 41, 3) := by decide +kernel
theorem dX4_sitterIsPlaced_7 : decode cX4_sitterIsPlaced 7 = .ok (.iload_n 2, 1) := by decide +kernel
theorem dX4_sitterIsPlaced_8 : decode cX4_sitterIsPlaced 8 = .ok (.iconst 5, 1) := by decide +kernel
theorem dX4_sitterIsPlaced_9 : decode cX4_sitterIsPlaced 9 = .ok (.if_icmp .ge 36, 3) := by decide +kernel
theorem dX4_sitterIsPlaced_12 : decode cX4_sitterIsPlaced 12 = .ok (.aload_n 0, 1) := by decide +kernel
theorem dX4_sitterIsPlaced_13 : decode cX4_sitterIsPlaced 13 = .ok (.getfield 15, 3) := by decide +kernel
theorem dX4_sitterIsPlaced_16 : decode cX4_sitterIsPlaced 16 = .ok (.iload_n 2, 1) := by decide +kernel
theorem dX4_sitterIsPlaced_17 : decode cX4_sitterIsPlaced 17 = .ok (.iaload, 1) := by decide +kernel
theorem dX4_sitterIsPlaced_18 : decode cX4_sitterIsPlaced 18 = .ok (.aload_n 0, 1) := by decide +kernel
theorem dX4_sitterIsPlaced_19 : decode cX4_sitterIsPlaced 19 = .ok (.getfield 15, 3) := by decide +kernel
theorem dX4_sitterIsPlaced_22 : decode cX4_sitterIsPlaced 22 = .ok (.iload_n 1, 1) := by decide +kernel
theorem dX4_sitterIsPlaced_23 : decode cX4_sitterIsPlaced 23 = .ok (.iaload, 1) := by decide +kernel
theorem dX4_sitterIsPlaced_24 : decode cX4_sitterIsPlaced 24 = .ok (.if_icmp .ne 15, 3) := by decide +kernel
theorem dX4_sitterIsPlaced_27 : decode cX4_sitterIsPlaced 27 = .ok (.aload_n 0, 1) := by decide +kernel
theorem dX4_sitterIsPlaced_28 : decode cX4_sitterIsPlaced 28 = .ok (.getfield 24, 3) := by decide +kernel
theorem dX4_sitterIsPlaced_31 : decode cX4_sitterIsPlaced 31 = .ok (.iload_n 2, 1) := by decide +kernel
theorem dX4_sitterIsPlaced_32 : decode cX4_sitterIsPlaced 32 = .ok (.iaload, 1) := by decide +kernel
theorem dX4_sitterIsPlaced_33 : decode cX4_sitterIsPlaced 33 = .ok (.iconst (-1), 1) := by decide +kernel
theorem dX4_sitterIsPlaced_34 : decode cX4_sitterIsPlaced 34 = .ok (.if_icmp .eq 5, 3) := by decide +kernel
theorem dX4_sitterIsPlaced_37 : decode cX4_sitterIsPlaced 37 = .ok (.iconst 1, 1) := by decide +kernel
theorem dX4_sitterIsPlaced_38 : decode cX4_sitterIsPlaced 38 = .ok (.ireturn, 1) := by decide +kernel
theorem dX4_sitterIsPlaced_39 : decode cX4_sitterIsPlaced 39 = .ok (.iinc 2 1, 3) := by decide +kernel
theorem dX4_sitterIsPlaced_42 : decode cX4_sitterIsPlaced 42 = .ok (.goto (-40), 3) := by decide +kernel
theorem dX4_sitterIsPlaced_45 : decode cX4_sitterIsPlaced 45 = .ok (.iconst 0, 1) := by decide +kernel
theorem dX4_sitterIsPlaced_46 : decode cX4_sitterIsPlaced 46 = .ok (.ireturn, 1) := by decide +kernel
theorem dX4_keep_0 : decode cX4_keep 0 = .ok (.aload_n 0, 1) := by decide +kernel
theorem dX4_keep_1 : decode cX4_keep 1 = .ok (.iload_n 1, 1) := by decide +kernel
theorem dX4_keep_2 : decode cX4_keep 2 = .ok (.putfield 37, 3) := by decide +kernel
theorem dX4_keep_5 : decode cX4_keep 5 = .ok (.iconst 0, 1) := by decide +kernel
theorem dX4_keep_6 : decode cX4_keep 6 = .ok (.istore_n 2, 1) := by decide +kernel
theorem dX4_keep_7 : decode cX4_keep 7 = .ok (.iload_n 2, 1) := by decide +kernel
theorem dX4_keep_8 : decode cX4_keep 8 = .ok (.aload_n 0, 1) := by decide +kernel
theorem dX4_keep_9 : decode cX4_keep 9 = .ok (.getfield 30, 3) := by decide +kernel
theorem dX4_keep_12 : decode cX4_keep 12 = .ok (.if_icmp .ge 21, 3) := by decide +kernel
theorem dX4_keep_15 : decode cX4_keep 15 = .ok (.aload_n 0, 1) := by decide +kernel
theorem dX4_keep_16 : decode cX4_keep 16 = .ok (.getfield 27, 3) := by decide +kernel
theorem dX4_keep_19 : decode cX4_keep 19 = .ok (.iload_n 2, 1) := by decide +kernel
theorem dX4_keep_20 : decode cX4_keep 20 = .ok (.aload_n 0, 1) := by decide +kernel
theorem dX4_keep_21 : decode cX4_keep 21 = .ok (.getfield 24, 3) := by decide +kernel
theorem dX4_keep_24 : decode cX4_keep 24 = .ok (.iload_n 2, 1) := by decide +kernel
theorem dX4_keep_25 : decode cX4_keep 25 = .ok (.iaload, 1) := by decide +kernel
theorem dX4_keep_26 : decode cX4_keep 26 = .ok (.iastore, 1) := by decide +kernel
theorem dX4_keep_27 : decode cX4_keep 27 = .ok (.iinc 2 1, 3) := by decide +kernel
theorem dX4_keep_30 : decode cX4_keep 30 = .ok (.goto (-23), 3) := by decide +kernel
theorem dX4_keep_33 : decode cX4_keep 33 = .ok (.return_, 1) := by decide +kernel
theorem dX4_hourOf_0 : decode cX4_hourOf 0 = .ok (.iconst 0, 1) := by decide +kernel
theorem dX4_hourOf_1 : decode cX4_hourOf 1 = .ok (.istore_n 2, 1) := by decide +kernel
theorem dX4_hourOf_2 : decode cX4_hourOf 2 = .ok (.iload_n 2, 1) := by decide +kernel
theorem dX4_hourOf_3 : decode cX4_hourOf 3 = .ok (.aload_n 0, 1) := by decide +kernel
theorem dX4_hourOf_4 : decode cX4_hourOf 4 = .ok (.getfield 30, 3) := by decide +kernel
theorem dX4_hourOf_7 : decode cX4_hourOf 7 = .ok (.if_icmp .ge 26, 3) := by decide +kernel
theorem dX4_hourOf_10 : decode cX4_hourOf 10 = .ok (.aload_n 0, 1) := by decide +kernel
theorem dX4_hourOf_11 : decode cX4_hourOf 11 = .ok (.getfield 9, 3) := by decide +kernel
theorem dX4_hourOf_14 : decode cX4_hourOf 14 = .ok (.iload_n 2, 1) := by decide +kernel
theorem dX4_hourOf_15 : decode cX4_hourOf 15 = .ok (.iaload, 1) := by decide +kernel
theorem dX4_hourOf_16 : decode cX4_hourOf 16 = .ok (.iload_n 1, 1) := by decide +kernel
theorem dX4_hourOf_17 : decode cX4_hourOf 17 = .ok (.if_icmp .ne 10, 3) := by decide +kernel
theorem dX4_hourOf_20 : decode cX4_hourOf 20 = .ok (.aload_n 0, 1) := by decide +kernel
theorem dX4_hourOf_21 : decode cX4_hourOf 21 = .ok (.getfield 27, 3) := by decide +kernel
theorem dX4_hourOf_24 : decode cX4_hourOf 24 = .ok (.iload_n 2, 1) := by decide +kernel
theorem dX4_hourOf_25 : decode cX4_hourOf 25 = .ok (.iaload, 1) := by decide +kernel
theorem dX4_hourOf_26 : decode cX4_hourOf 26 = .ok (.ireturn, 1) := by decide +kernel
theorem dX4_hourOf_27 : decode cX4_hourOf 27 = .ok (.iinc 2 1, 3) := by decide +kernel
theorem dX4_hourOf_30 : decode cX4_hourOf 30 = .ok (.goto (-28), 3) := by decide +kernel
theorem dX4_hourOf_33 : decode cX4_hourOf 33 = .ok (.iconst (-1), 1) := by decide +kernel
theorem dX4_hourOf_34 : decode cX4_hourOf 34 = .ok (.ireturn, 1) := by decide +kernel
theorem dX5_init_0 : decode cX5_init 0 = .ok (.aload_n 0, 1) := by decide +kernel
theorem dX5_init_1 : decode cX5_init 1 = .ok (.invokespecial 3, 3) := by decide +kernel
theorem dX5_init_4 : decode cX5_init 4 = .ok (.aload_n 0, 1) := by decide +kernel
theorem dX5_init_5 : decode cX5_init 5 = .ok (.iconst 5, 1) := by decide +kernel
theorem dX5_init_6 : decode cX5_init 6 = .ok (.newarray .int, 2) := by decide +kernel
theorem dX5_init_8 : decode cX5_init 8 = .ok (.putfield 9, 3) := by decide +kernel
theorem dX5_init_11 : decode cX5_init 11 = .ok (.aload_n 0, 1) := by decide +kernel
theorem dX5_init_12 : decode cX5_init 12 = .ok (.iconst 5, 1) := by decide +kernel
theorem dX5_init_13 : decode cX5_init 13 = .ok (.newarray .int, 2) := by decide +kernel
theorem dX5_init_15 : decode cX5_init 15 = .ok (.putfield 15, 3) := by decide +kernel
theorem dX5_init_18 : decode cX5_init 18 = .ok (.iconst 0, 1) := by decide +kernel
theorem dX5_init_19 : decode cX5_init 19 = .ok (.istore_n 1, 1) := by decide +kernel
theorem dX5_init_20 : decode cX5_init 20 = .ok (.iload_n 1, 1) := by decide +kernel
theorem dX5_init_21 : decode cX5_init 21 = .ok (.iconst 5, 1) := by decide +kernel
theorem dX5_init_22 : decode cX5_init 22 = .ok (.if_icmp .ge 23, 3) := by decide +kernel
theorem dX5_init_25 : decode cX5_init 25 = .ok (.aload_n 0, 1) := by decide +kernel
theorem dX5_init_26 : decode cX5_init 26 = .ok (.getfield 9, 3) := by decide +kernel
theorem dX5_init_29 : decode cX5_init 29 = .ok (.iload_n 1, 1) := by decide +kernel
theorem dX5_init_30 : decode cX5_init 30 = .ok (.iconst (-1), 1) := by decide +kernel
theorem dX5_init_31 : decode cX5_init 31 = .ok (.iastore, 1) := by decide +kernel
theorem dX5_init_32 : decode cX5_init 32 = .ok (.aload_n 0, 1) := by decide +kernel
theorem dX5_init_33 : decode cX5_init 33 = .ok (.getfield 15, 3) := by decide +kernel
theorem dX5_init_36 : decode cX5_init 36 = .ok (.iload_n 1, 1) := by decide +kernel
theorem dX5_init_37 : decode cX5_init 37 = .ok (.iconst (-1), 1) := by decide +kernel
theorem dX5_init_38 : decode cX5_init 38 = .ok (.iastore, 1) := by decide +kernel
theorem dX5_init_39 : decode cX5_init 39 = .ok (.iinc 1 1, 3) := by decide +kernel
theorem dX5_init_42 : decode cX5_init 42 = .ok (.goto (-22), 3) := by decide +kernel
theorem dX5_init_45 : decode cX5_init 45 = .ok (.return_, 1) := by decide +kernel
theorem dX5_isAway_0 : decode cX5_isAway 0 = .ok (.iload_n 1, 1) := by decide +kernel
theorem dX5_isAway_1 : decode cX5_isAway 1 = .ok (.iconst 4, 1) := by decide +kernel
theorem dX5_isAway_2 : decode cX5_isAway 2 = .ok (.invokestatic 18, 3) := by decide +kernel
theorem dX5_isAway_5 : decode cX5_isAway 5 = .ok (.ifCond .eq 27, 3) := by decide +kernel
theorem dX5_isAway_8 : decode cX5_isAway 8 = .ok (.aload_n 0, 1) := by decide +kernel
theorem dX5_isAway_9 : decode cX5_isAway 9 = .ok (.getfield 15, 3) := by decide +kernel
theorem dX5_isAway_12 : decode cX5_isAway 12 = .ok (.iload_n 1, 1) := by decide +kernel
theorem dX5_isAway_13 : decode cX5_isAway 13 = .ok (.iaload, 1) := by decide +kernel
theorem dX5_isAway_14 : decode cX5_isAway 14 = .ok (.iload_n 3, 1) := by decide +kernel
theorem dX5_isAway_15 : decode cX5_isAway 15 = .ok (.if_icmp .ne 17, 3) := by decide +kernel
theorem dX5_isAway_18 : decode cX5_isAway 18 = .ok (.aload_n 0, 1) := by decide +kernel
theorem dX5_isAway_19 : decode cX5_isAway 19 = .ok (.getfield 9, 3) := by decide +kernel
theorem dX5_isAway_22 : decode cX5_isAway 22 = .ok (.iload_n 1, 1) := by decide +kernel
theorem dX5_isAway_23 : decode cX5_isAway 23 = .ok (.iaload, 1) := by decide +kernel
theorem dX5_isAway_24 : decode cX5_isAway 24 = .ok (.iload_n 2, 1) := by decide +kernel
theorem dX5_isAway_25 : decode cX5_isAway 25 = .ok (.if_icmp .eq 7, 3) := by decide +kernel
theorem dX5_isAway_28 : decode cX5_isAway 28 = .ok (.iconst 1, 1) := by decide +kernel
theorem dX5_isAway_29 : decode cX5_isAway 29 = .ok (.goto 4, 3) := by decide +kernel
theorem dX5_isAway_32 : decode cX5_isAway 32 = .ok (.iconst 0, 1) := by decide +kernel
theorem dX5_isAway_33 : decode cX5_isAway 33 = .ok (.ireturn, 1) := by decide +kernel
theorem dX5_take_0 : decode cX5_take 0 = .ok (.iload_n 1, 1) := by decide +kernel
theorem dX5_take_1 : decode cX5_take 1 = .ok (.iconst 4, 1) := by decide +kernel
theorem dX5_take_2 : decode cX5_take 2 = .ok (.invokestatic 18, 3) := by decide +kernel
theorem dX5_take_5 : decode cX5_take 5 = .ok (.ifCond .eq 17, 3) := by decide +kernel
theorem dX5_take_8 : decode cX5_take 8 = .ok (.aload_n 0, 1) := by decide +kernel
theorem dX5_take_9 : decode cX5_take 9 = .ok (.getfield 9, 3) := by decide +kernel
theorem dX5_take_12 : decode cX5_take 12 = .ok (.iload_n 1, 1) := by decide +kernel
theorem dX5_take_13 : decode cX5_take 13 = .ok (.iload_n 2, 1) := by decide +kernel
theorem dX5_take_14 : decode cX5_take 14 = .ok (.iastore, 1) := by decide +kernel
theorem dX5_take_15 : decode cX5_take 15 = .ok (.aload_n 0, 1) := by decide +kernel
theorem dX5_take_16 : decode cX5_take 16 = .ok (.getfield 15, 3) := by decide +kernel
theorem dX5_take_19 : decode cX5_take 19 = .ok (.iload_n 1, 1) := by decide +kernel
theorem dX5_take_20 : decode cX5_take 20 = .ok (.iload_n 3, 1) := by decide +kernel
theorem dX5_take_21 : decode cX5_take 21 = .ok (.iastore, 1) := by decide +kernel
theorem dX5_take_22 : decode cX5_take 22 = .ok (.return_, 1) := by decide +kernel
theorem dX6_init_0 : decode cX6_init 0 = .ok (.aload_n 0, 1) := by decide +kernel
theorem dX6_init_1 : decode cX6_init 1 = .ok (.invokespecial 1, 3) := by decide +kernel
theorem dX6_init_4 : decode cX6_init 4 = .ok (.aload_n 0, 1) := by decide +kernel
theorem dX6_init_5 : decode cX6_init 5 = .ok (.iload_n 1, 1) := by decide +kernel
theorem dX6_init_6 : decode cX6_init 6 = .ok (.putfield 7, 3) := by decide +kernel
theorem dX6_init_9 : decode cX6_init 9 = .ok (.aload_n 0, 1) := by decide +kernel
theorem dX6_init_10 : decode cX6_init 10 = .ok (.iload_n 2, 1) := by decide +kernel
theorem dX6_init_11 : decode cX6_init 11 = .ok (.putfield 13, 3) := by decide +kernel
theorem dX6_init_14 : decode cX6_init 14 = .ok (.return_, 1) := by decide +kernel
theorem dX6_canCome_0 : decode cX6_canCome 0 = .ok (.iload_n 1, 1) := by decide +kernel
theorem dX6_canCome_1 : decode cX6_canCome 1 = .ok (.aload_n 0, 1) := by decide +kernel
theorem dX6_canCome_2 : decode cX6_canCome 2 = .ok (.getfield 7, 3) := by decide +kernel
theorem dX6_canCome_5 : decode cX6_canCome 5 = .ok (.if_icmp .lt 15, 3) := by decide +kernel
theorem dX6_canCome_8 : decode cX6_canCome 8 = .ok (.iload_n 1, 1) := by decide +kernel
theorem dX6_canCome_9 : decode cX6_canCome 9 = .ok (.aload_n 0, 1) := by decide +kernel
theorem dX6_canCome_10 : decode cX6_canCome 10 = .ok (.getfield 13, 3) := by decide +kernel
theorem dX6_canCome_13 : decode cX6_canCome 13 = .ok (.if_icmp .gt 7, 3) := by decide +kernel
theorem dX6_canCome_16 : decode cX6_canCome 16 = .ok (.iconst 1, 1) := by decide +kernel
theorem dX6_canCome_17 : decode cX6_canCome 17 = .ok (.goto 4, 3) := by decide +kernel
theorem dX6_canCome_20 : decode cX6_canCome 20 = .ok (.iconst 0, 1) := by decide +kernel
theorem dX6_canCome_21 : decode cX6_canCome 21 = .ok (.ireturn, 1) := by decide +kernel
theorem dX7_init_0 : decode cX7_init 0 = .ok (.aload_n 0, 1) := by decide +kernel
theorem dX7_init_1 : decode cX7_init 1 = .ok (.invokespecial 3, 3) := by decide +kernel
theorem dX7_init_4 : decode cX7_init 4 = .ok (.aload_n 0, 1) := by decide +kernel
theorem dX7_init_5 : decode cX7_init 5 = .ok (.sipush 200, 3) := by decide +kernel
theorem dX7_init_8 : decode cX7_init 8 = .ok (.newarray .int, 2) := by decide +kernel
theorem dX7_init_10 : decode cX7_init 10 = .ok (.putfield 9, 3) := by decide +kernel
theorem dX7_init_13 : decode cX7_init 13 = .ok (.aload_n 0, 1) := by decide +kernel
theorem dX7_init_14 : decode cX7_init 14 = .ok (.sipush 200, 3) := by decide +kernel
theorem dX7_init_17 : decode cX7_init 17 = .ok (.newarray .int, 2) := by decide +kernel
theorem dX7_init_19 : decode cX7_init 19 = .ok (.putfield 15, 3) := by decide +kernel
theorem dX7_init_22 : decode cX7_init 22 = .ok (.aload_n 0, 1) := by decide +kernel
theorem dX7_init_23 : decode cX7_init 23 = .ok (.sipush 200, 3) := by decide +kernel
theorem dX7_init_26 : decode cX7_init 26 = .ok (.newarray .int, 2) := by decide +kernel
theorem dX7_init_28 : decode cX7_init 28 = .ok (.putfield 18, 3) := by decide +kernel
theorem dX7_init_31 : decode cX7_init 31 = .ok (.aload_n 0, 1) := by decide +kernel
theorem dX7_init_32 : decode cX7_init 32 = .ok (.sipush 200, 3) := by decide +kernel
theorem dX7_init_35 : decode cX7_init 35 = .ok (.newarray .int, 2) := by decide +kernel
theorem dX7_init_37 : decode cX7_init 37 = .ok (.putfield 21, 3) := by decide +kernel
theorem dX7_init_40 : decode cX7_init 40 = .ok (.aload_n 0, 1) := by decide +kernel
theorem dX7_init_41 : decode cX7_init 41 = .ok (.sipush 200, 3) := by decide +kernel
theorem dX7_init_44 : decode cX7_init 44 = .ok (.newarray .boolean, 2) := by decide +kernel
theorem dX7_init_46 : decode cX7_init 46 = .ok (.putfield 24, 3) := by decide +kernel
theorem dX7_init_49 : decode cX7_init 49 = .ok (.return_, 1) := by decide +kernel
theorem dX7_add_0 : decode cX7_add 0 = .ok (.aload_n 0, 1) := by decide +kernel
theorem dX7_add_1 : decode cX7_add 1 = .ok (.getfield 28, 3) := by decide +kernel
theorem dX7_add_4 : decode cX7_add 4 = .ok (.sipush 200, 3) := by decide +kernel
theorem dX7_add_7 : decode cX7_add 7 = .ok (.if_icmp .lt 5, 3) := by decide +kernel
theorem dX7_add_10 : decode cX7_add 10 = .ok (.iconst 0, 1) := by decide +kernel
theorem dX7_add_11 : decode cX7_add 11 = .ok (.ireturn, 1) := by decide +kernel
theorem dX7_add_12 : decode cX7_add 12 = .ok (.aload_n 0, 1) := by decide +kernel
theorem dX7_add_13 : decode cX7_add 13 = .ok (.getfield 9, 3) := by decide +kernel
theorem dX7_add_16 : decode cX7_add 16 = .ok (.aload_n 0, 1) := by decide +kernel
theorem dX7_add_17 : decode cX7_add 17 = .ok (.getfield 28, 3) := by decide +kernel
theorem dX7_add_20 : decode cX7_add 20 = .ok (.iload_n 1, 1) := by decide +kernel
theorem dX7_add_21 : decode cX7_add 21 = .ok (.iastore, 1) := by decide +kernel
theorem dX7_add_22 : decode cX7_add 22 = .ok (.aload_n 0, 1) := by decide +kernel
theorem dX7_add_23 : decode cX7_add 23 = .ok (.getfield 15, 3) := by decide +kernel
theorem dX7_add_26 : decode cX7_add 26 = .ok (.aload_n 0, 1) := by decide +kernel
theorem dX7_add_27 : decode cX7_add 27 = .ok (.getfield 28, 3) := by decide +kernel
theorem dX7_add_30 : decode cX7_add 30 = .ok (.iload_n 2, 1) := by decide +kernel
theorem dX7_add_31 : decode cX7_add 31 = .ok (.iastore, 1) := by decide +kernel
theorem dX7_add_32 : decode cX7_add 32 = .ok (.aload_n 0, 1) := by decide +kernel
theorem dX7_add_33 : decode cX7_add 33 = .ok (.getfield 18, 3) := by decide +kernel
theorem dX7_add_36 : decode cX7_add 36 = .ok (.aload_n 0, 1) := by decide +kernel
theorem dX7_add_37 : decode cX7_add 37 = .ok (.getfield 28, 3) := by decide +kernel
theorem dX7_add_40 : decode cX7_add 40 = .ok (.iload_n 3, 1) := by decide +kernel
theorem dX7_add_41 : decode cX7_add 41 = .ok (.iastore, 1) := by decide +kernel
theorem dX7_add_42 : decode cX7_add 42 = .ok (.aload_n 0, 1) := by decide +kernel
theorem dX7_add_43 : decode cX7_add 43 = .ok (.getfield 21, 3) := by decide +kernel
theorem dX7_add_46 : decode cX7_add 46 = .ok (.aload_n 0, 1) := by decide +kernel
theorem dX7_add_47 : decode cX7_add 47 = .ok (.getfield 28, 3) := by decide +kernel
theorem dX7_add_50 : decode cX7_add 50 = .ok (.iload 4, 2) := by decide +kernel
theorem dX7_add_52 : decode cX7_add 52 = .ok (.iastore, 1) := by decide +kernel
theorem dX7_add_53 : decode cX7_add 53 = .ok (.aload_n 0, 1) := by decide +kernel
theorem dX7_add_54 : decode cX7_add 54 = .ok (.getfield 24, 3) := by decide +kernel
theorem dX7_add_57 : decode cX7_add 57 = .ok (.aload_n 0, 1) := by decide +kernel
theorem dX7_add_58 : decode cX7_add 58 = .ok (.getfield 28, 3) := by decide +kernel
theorem dX7_add_61 : decode cX7_add 61 = .ok (.iconst 0, 1) := by decide +kernel
theorem dX7_add_62 : decode cX7_add 62 = .ok (.bastore, 1) := by decide +kernel
theorem dX7_add_63 : decode cX7_add 63 = .ok (.aload_n 0, 1) := by decide +kernel
theorem dX7_add_64 : decode cX7_add 64 = .ok (.dup, 1) := by decide +kernel
theorem dX7_add_65 : decode cX7_add 65 = .ok (.getfield 28, 3) := by decide +kernel
theorem dX7_add_68 : decode cX7_add 68 = .ok (.iconst 1, 1) := by decide +kernel
theorem dX7_add_69 : decode cX7_add 69 = .ok (.iadd, 1) := by decide +kernel
theorem dX7_add_70 : decode cX7_add 70 = .ok (.putfield 28, 3) := by decide +kernel
theorem dX7_add_73 : decode cX7_add 73 = .ok (.iconst 1, 1) := by decide +kernel
theorem dX7_add_74 : decode cX7_add 74 = .ok (.ireturn, 1) := by decide +kernel
theorem dX7_remove_0 : decode cX7_remove 0 = .ok (.iload_n 1, 1) := by decide +kernel
theorem dX7_remove_1 : decode cX7_remove 1 = .ok (.ifCond .lt 11, 3) := by decide +kernel
theorem dX7_remove_4 : decode cX7_remove 4 = .ok (.iload_n 1, 1) := by decide +kernel
theorem dX7_remove_5 : decode cX7_remove 5 = .ok (.aload_n 0, 1) := by decide +kernel
theorem dX7_remove_6 : decode cX7_remove 6 = .ok (.getfield 28, 3) := by decide +kernel
theorem dX7_remove_9 : decode cX7_remove 9 = .ok (.if_icmp .lt 4, 3) := by decide +kernel
theorem dX7_remove_12 : decode cX7_remove 12 = .ok (.return_, 1) := by decide +kernel
theorem dX7_remove_13 : decode cX7_remove 13 = .ok (.aload_n 0, 1) := by decide +kernel
theorem dX7_remove_14 : decode cX7_remove 14 = .ok (.dup, 1) := by decide +kernel
theorem dX7_remove_15 : decode cX7_remove 15 = .ok (.getfield 28, 3) := by decide +kernel
theorem dX7_remove_18 : decode cX7_remove 18 = .ok (.iconst 1, 1) := by decide +kernel
theorem dX7_remove_19 : decode cX7_remove 19 = .ok (.isub, 1) := by decide +kernel
theorem dX7_remove_20 : decode cX7_remove 20 = .ok (.putfield 28, 3) := by decide +kernel
theorem dX7_remove_23 : decode cX7_remove 23 = .ok (.aload_n 0, 1) := by decide +kernel
theorem dX7_remove_24 : decode cX7_remove 24 = .ok (.getfield 9, 3) := by decide +kernel
theorem dX7_remove_27 : decode cX7_remove 27 = .ok (.iload_n 1, 1) := by decide +kernel
theorem dX7_remove_28 : decode cX7_remove 28 = .ok (.aload_n 0, 1) := by decide +kernel
theorem dX7_remove_29 : decode cX7_remove 29 = .ok (.getfield 9, 3) := by decide +kernel
theorem dX7_remove_32 : decode cX7_remove 32 = .ok (.aload_n 0, 1) := by decide +kernel
theorem dX7_remove_33 : decode cX7_remove 33 = .ok (.getfield 28, 3) := by decide +kernel
theorem dX7_remove_36 : decode cX7_remove 36 = .ok (.iaload, 1) := by decide +kernel
theorem dX7_remove_37 : decode cX7_remove 37 = .ok (.iastore, 1) := by decide +kernel
theorem dX7_remove_38 : decode cX7_remove 38 = .ok (.aload_n 0, 1) := by decide +kernel
theorem dX7_remove_39 : decode cX7_remove 39 = .ok (.getfield 15, 3) := by decide +kernel
theorem dX7_remove_42 : decode cX7_remove 42 = .ok (.iload_n 1, 1) := by decide +kernel
theorem dX7_remove_43 : decode cX7_remove 43 = .ok (.aload_n 0, 1) := by decide +kernel
theorem dX7_remove_44 : decode cX7_remove 44 = .ok (.getfield 15, 3) := by decide +kernel
theorem dX7_remove_47 : decode cX7_remove 47 = .ok (.aload_n 0, 1) := by decide +kernel
theorem dX7_remove_48 : decode cX7_remove 48 = .ok (.getfield 28, 3) := by decide +kernel
theorem dX7_remove_51 : decode cX7_remove 51 = .ok (.iaload, 1) := by decide +kernel
theorem dX7_remove_52 : decode cX7_remove 52 = .ok (.iastore, 1) := by decide +kernel
theorem dX7_remove_53 : decode cX7_remove 53 = .ok (.aload_n 0, 1) := by decide +kernel
theorem dX7_remove_54 : decode cX7_remove 54 = .ok (.getfield 18, 3) := by decide +kernel
theorem dX7_remove_57 : decode cX7_remove 57 = .ok (.iload_n 1, 1) := by decide +kernel
theorem dX7_remove_58 : decode cX7_remove 58 = .ok (.aload_n 0, 1) := by decide +kernel
theorem dX7_remove_59 : decode cX7_remove 59 = .ok (.getfield 18, 3) := by decide +kernel
theorem dX7_remove_62 : decode cX7_remove 62 = .ok (.aload_n 0, 1) := by decide +kernel
theorem dX7_remove_63 : decode cX7_remove 63 = .ok (.getfield 28, 3) := by decide +kernel
theorem dX7_remove_66 : decode cX7_remove 66 = .ok (.iaload, 1) := by decide +kernel
theorem dX7_remove_67 : decode cX7_remove 67 = .ok (.iastore, 1) := by decide +kernel
theorem dX7_remove_68 : decode cX7_remove 68 = .ok (.aload_n 0, 1) := by decide +kernel
theorem dX7_remove_69 : decode cX7_remove 69 = .ok (.getfield 21, 3) := by decide +kernel
theorem dX7_remove_72 : decode cX7_remove 72 = .ok (.iload_n 1, 1) := by decide +kernel
theorem dX7_remove_73 : decode cX7_remove 73 = .ok (.aload_n 0, 1) := by decide +kernel
theorem dX7_remove_74 : decode cX7_remove 74 = .ok (.getfield 21, 3) := by decide +kernel
theorem dX7_remove_77 : decode cX7_remove 77 = .ok (.aload_n 0, 1) := by decide +kernel
theorem dX7_remove_78 : decode cX7_remove 78 = .ok (.getfield 28, 3) := by decide +kernel
theorem dX7_remove_81 : decode cX7_remove 81 = .ok (.iaload, 1) := by decide +kernel
theorem dX7_remove_82 : decode cX7_remove 82 = .ok (.iastore, 1) := by decide +kernel
theorem dX7_remove_83 : decode cX7_remove 83 = .ok (.aload_n 0, 1) := by decide +kernel
theorem dX7_remove_84 : decode cX7_remove 84 = .ok (.getfield 24, 3) := by decide +kernel
theorem dX7_remove_87 : decode cX7_remove 87 = .ok (.iload_n 1, 1) := by decide +kernel
theorem dX7_remove_88 : decode cX7_remove 88 = .ok (.aload_n 0, 1) := by decide +kernel
theorem dX7_remove_89 : decode cX7_remove 89 = .ok (.getfield 24, 3) := by decide +kernel
theorem dX7_remove_92 : decode cX7_remove 92 = .ok (.aload_n 0, 1) := by decide +kernel
theorem dX7_remove_93 : decode cX7_remove 93 = .ok (.getfield 28, 3) := by decide +kernel
theorem dX7_remove_96 : decode cX7_remove 96 = .ok (.baload, 1) := by decide +kernel
theorem dX7_remove_97 : decode cX7_remove 97 = .ok (.bastore, 1) := by decide +kernel
theorem dX7_remove_98 : decode cX7_remove 98 = .ok (.return_, 1) := by decide +kernel
theorem dX7_use_0 : decode cX7_use 0 = .ok (.iload_n 1, 1) := by decide +kernel
theorem dX7_use_1 : decode cX7_use 1 = .ok (.ifCond .lt 18, 3) := by decide +kernel
theorem dX7_use_4 : decode cX7_use 4 = .ok (.iload_n 1, 1) := by decide +kernel
theorem dX7_use_5 : decode cX7_use 5 = .ok (.aload_n 0, 1) := by decide +kernel
theorem dX7_use_6 : decode cX7_use 6 = .ok (.getfield 28, 3) := by decide +kernel
theorem dX7_use_9 : decode cX7_use 9 = .ok (.if_icmp .ge 10, 3) := by decide +kernel
theorem dX7_use_12 : decode cX7_use 12 = .ok (.aload_n 0, 1) := by decide +kernel
theorem dX7_use_13 : decode cX7_use 13 = .ok (.getfield 24, 3) := by decide +kernel
theorem dX7_use_16 : decode cX7_use 16 = .ok (.iload_n 1, 1) := by decide +kernel
theorem dX7_use_17 : decode cX7_use 17 = .ok (.iconst 1, 1) := by decide +kernel
theorem dX7_use_18 : decode cX7_use 18 = .ok (.bastore, 1) := by decide +kernel
theorem dX7_use_19 : decode cX7_use 19 = .ok (.return_, 1) := by decide +kernel
theorem dX7_unusedOf_0 : decode cX7_unusedOf 0 = .ok (.iconst 0, 1) := by decide +kernel
theorem dX7_unusedOf_1 : decode cX7_unusedOf 1 = .ok (.istore_n 3, 1) := by decide +kernel
theorem dX7_unusedOf_2 : decode cX7_unusedOf 2 = .ok (.iload_n 3, 1) := by decide +kernel
theorem dX7_unusedOf_3 : decode cX7_unusedOf 3 = .ok (.aload_n 0, 1) := by decide +kernel
theorem dX7_unusedOf_4 : decode cX7_unusedOf 4 = .ok (.getfield 28, 3) := by decide +kernel
theorem dX7_unusedOf_7 : decode cX7_unusedOf 7 = .ok (.if_icmp .ge 40, 3) := by decide +kernel
theorem dX7_unusedOf_10 : decode cX7_unusedOf 10 = .ok (.aload_n 0, 1) := by decide +kernel
theorem dX7_unusedOf_11 : decode cX7_unusedOf 11 = .ok (.getfield 9, 3) := by decide +kernel
theorem dX7_unusedOf_14 : decode cX7_unusedOf 14 = .ok (.iload_n 3, 1) := by decide +kernel
theorem dX7_unusedOf_15 : decode cX7_unusedOf 15 = .ok (.iaload, 1) := by decide +kernel
theorem dX7_unusedOf_16 : decode cX7_unusedOf 16 = .ok (.iload_n 1, 1) := by decide +kernel
theorem dX7_unusedOf_17 : decode cX7_unusedOf 17 = .ok (.if_icmp .ne 24, 3) := by decide +kernel
theorem dX7_unusedOf_20 : decode cX7_unusedOf 20 = .ok (.aload_n 0, 1) := by decide +kernel
theorem dX7_unusedOf_21 : decode cX7_unusedOf 21 = .ok (.getfield 18, 3) := by decide +kernel
theorem dX7_unusedOf_24 : decode cX7_unusedOf 24 = .ok (.iload_n 3, 1) := by decide +kernel
theorem dX7_unusedOf_25 : decode cX7_unusedOf 25 = .ok (.iaload, 1) := by decide +kernel
theorem dX7_unusedOf_26 : decode cX7_unusedOf 26 = .ok (.iload_n 2, 1) := by decide +kernel
theorem dX7_unusedOf_27 : decode cX7_unusedOf 27 = .ok (.if_icmp .ne 14, 3) := by decide +kernel
theorem dX7_unusedOf_30 : decode cX7_unusedOf 30 = .ok (.aload_n 0, 1) := by decide +kernel
theorem dX7_unusedOf_31 : decode cX7_unusedOf 31 = .ok (.getfield 24, 3) := by decide +kernel
theorem dX7_unusedOf_34 : decode cX7_unusedOf 34 = .ok (.iload_n 3, 1) := by decide +kernel
theorem dX7_unusedOf_35 : decode cX7_unusedOf 35 = .ok (.baload, 1) := by decide +kernel
theorem dX7_unusedOf_36 : decode cX7_unusedOf 36 = .ok (.ifCond .ne 5, 3) := by decide +kernel
theorem dX7_unusedOf_39 : decode cX7_unusedOf 39 = .ok (.iload_n 3, 1) := by decide +kernel
theorem dX7_unusedOf_40 : decode cX7_unusedOf 40 = .ok (.ireturn, 1) := by decide +kernel
theorem dX7_unusedOf_41 : decode cX7_unusedOf 41 = .ok (.iinc 3 1, 3) := by decide +kernel
theorem dX7_unusedOf_44 : decode cX7_unusedOf 44 = .ok (.goto (-42), 3) := by decide +kernel
theorem dX7_unusedOf_47 : decode cX7_unusedOf 47 = .ok (.iconst (-1), 1) := by decide +kernel
theorem dX7_unusedOf_48 : decode cX7_unusedOf 48 = .ok (.ireturn, 1) := by decide +kernel
theorem dX7_isTaken_0 : decode cX7_isTaken 0 = .ok (.iconst 0, 1) := by decide +kernel
theorem dX7_isTaken_1 : decode cX7_isTaken 1 = .ok (.istore_n 3, 1) := by decide +kernel
theorem dX7_isTaken_2 : decode cX7_isTaken 2 = .ok (.iload_n 3, 1) := by decide +kernel
theorem dX7_isTaken_3 : decode cX7_isTaken 3 = .ok (.aload_n 0, 1) := by decide +kernel
theorem dX7_isTaken_4 : decode cX7_isTaken 4 = .ok (.getfield 28, 3) := by decide +kernel
theorem dX7_isTaken_7 : decode cX7_isTaken 7 = .ok (.if_icmp .ge 31, 3) := by decide +kernel
theorem dX7_isTaken_10 : decode cX7_isTaken 10 = .ok (.aload_n 0, 1) := by decide +kernel
theorem dX7_isTaken_11 : decode cX7_isTaken 11 = .ok (.getfield 18, 3) := by decide +kernel
theorem dX7_isTaken_14 : decode cX7_isTaken 14 = .ok (.iload_n 3, 1) := by decide +kernel
theorem dX7_isTaken_15 : decode cX7_isTaken 15 = .ok (.iaload, 1) := by decide +kernel
theorem dX7_isTaken_16 : decode cX7_isTaken 16 = .ok (.iload_n 1, 1) := by decide +kernel
theorem dX7_isTaken_17 : decode cX7_isTaken 17 = .ok (.if_icmp .ne 15, 3) := by decide +kernel
theorem dX7_isTaken_20 : decode cX7_isTaken 20 = .ok (.aload_n 0, 1) := by decide +kernel
theorem dX7_isTaken_21 : decode cX7_isTaken 21 = .ok (.getfield 21, 3) := by decide +kernel
theorem dX7_isTaken_24 : decode cX7_isTaken 24 = .ok (.iload_n 3, 1) := by decide +kernel
theorem dX7_isTaken_25 : decode cX7_isTaken 25 = .ok (.iaload, 1) := by decide +kernel
theorem dX7_isTaken_26 : decode cX7_isTaken 26 = .ok (.iload_n 2, 1) := by decide +kernel
theorem dX7_isTaken_27 : decode cX7_isTaken 27 = .ok (.if_icmp .ne 5, 3) := by decide +kernel
theorem dX7_isTaken_30 : decode cX7_isTaken 30 = .ok (.iconst 1, 1) := by decide +kernel
theorem dX7_isTaken_31 : decode cX7_isTaken 31 = .ok (.ireturn, 1) := by decide +kernel
theorem dX7_isTaken_32 : decode cX7_isTaken 32 = .ok (.iinc 3 1, 3) := by decide +kernel
theorem dX7_isTaken_35 : decode cX7_isTaken 35 = .ok (.goto (-33), 3) := by decide +kernel
theorem dX7_isTaken_38 : decode cX7_isTaken 38 = .ok (.iconst 0, 1) := by decide +kernel
theorem dX7_isTaken_39 : decode cX7_isTaken 39 = .ok (.ireturn, 1) := by decide +kernel
theorem dX7_hasSitter_0 : decode cX7_hasSitter 0 = .ok (.iconst 0, 1) := by decide +kernel
theorem dX7_hasSitter_1 : decode cX7_hasSitter 1 = .ok (.istore_n 3, 1) := by decide +kernel
theorem dX7_hasSitter_2 : decode cX7_hasSitter 2 = .ok (.iload_n 3, 1) := by decide +kernel
theorem dX7_hasSitter_3 : decode cX7_hasSitter 3 = .ok (.aload_n 0, 1) := by decide +kernel
theorem dX7_hasSitter_4 : decode cX7_hasSitter 4 = .ok (.getfield 28, 3) := by decide +kernel
theorem dX7_hasSitter_7 : decode cX7_hasSitter 7 = .ok (.if_icmp .ge 31, 3) := by decide +kernel
theorem dX7_hasSitter_10 : decode cX7_hasSitter 10 = .ok (.aload_n 0, 1) := by decide +kernel
theorem dX7_hasSitter_11 : decode cX7_hasSitter 11 = .ok (.getfield 18, 3) := by decide +kernel
theorem dX7_hasSitter_14 : decode cX7_hasSitter 14 = .ok (.iload_n 3, 1) := by decide +kernel
theorem dX7_hasSitter_15 : decode cX7_hasSitter 15 = .ok (.iaload, 1) := by decide +kernel
theorem dX7_hasSitter_16 : decode cX7_hasSitter 16 = .ok (.iload_n 1, 1) := by decide +kernel
theorem dX7_hasSitter_17 : decode cX7_hasSitter 17 = .ok (.if_icmp .ne 15, 3) := by decide +kernel
theorem dX7_hasSitter_20 : decode cX7_hasSitter 20 = .ok (.aload_n 0, 1) := by decide +kernel
theorem dX7_hasSitter_21 : decode cX7_hasSitter 21 = .ok (.getfield 15, 3) := by decide +kernel
theorem dX7_hasSitter_24 : decode cX7_hasSitter 24 = .ok (.iload_n 3, 1) := by decide +kernel
theorem dX7_hasSitter_25 : decode cX7_hasSitter 25 = .ok (.iaload, 1) := by decide +kernel
theorem dX7_hasSitter_26 : decode cX7_hasSitter 26 = .ok (.iload_n 2, 1) := by decide +kernel
theorem dX7_hasSitter_27 : decode cX7_hasSitter 27 = .ok (.if_icmp .ne 5, 3) := by decide +kernel
theorem dX7_hasSitter_30 : decode cX7_hasSitter 30 = .ok (.iconst 1, 1) := by decide +kernel
theorem dX7_hasSitter_31 : decode cX7_hasSitter 31 = .ok (.ireturn, 1) := by decide +kernel
theorem dX7_hasSitter_32 : decode cX7_hasSitter 32 = .ok (.iinc 3 1, 3) := by decide +kernel
theorem dX7_hasSitter_35 : decode cX7_hasSitter 35 = .ok (.goto (-33), 3) := by decide +kernel
theorem dX7_hasSitter_38 : decode cX7_hasSitter 38 = .ok (.iconst 0, 1) := by decide +kernel
theorem dX7_hasSitter_39 : decode cX7_hasSitter 39 = .ok (.ireturn, 1) := by decide +kernel
theorem dX8_init_0 : decode cX8_init 0 = .ok (.aload_n 0, 1) := by decide +kernel
theorem dX8_init_1 : decode cX8_init 1 = .ok (.invokespecial 3, 3) := by decide +kernel
theorem dX8_init_4 : decode cX8_init 4 = .ok (.aload_n 0, 1) := by decide +kernel
theorem dX8_init_5 : decode cX8_init 5 = .ok (.new 9, 3) := by decide +kernel
theorem dX8_init_8 : decode cX8_init 8 = .ok (.dup, 1) := by decide +kernel
theorem dX8_init_9 : decode cX8_init 9 = .ok (.invokespecial 11, 3) := by decide +kernel
theorem dX8_init_12 : decode cX8_init 12 = .ok (.putfield 12, 3) := by decide +kernel
theorem dX8_init_15 : decode cX8_init 15 = .ok (.aload_n 0, 1) := by decide +kernel
theorem dX8_init_16 : decode cX8_init 16 = .ok (.iconst 5, 1) := by decide +kernel
theorem dX8_init_17 : decode cX8_init 17 = .ok (.newarray .int, 2) := by decide +kernel
theorem dX8_init_19 : decode cX8_init 19 = .ok (.putfield 16, 3) := by decide +kernel
theorem dX8_init_22 : decode cX8_init 22 = .ok (.aload_n 0, 1) := by decide +kernel
theorem dX8_init_23 : decode cX8_init 23 = .ok (.bipush 7, 2) := by decide +kernel
theorem dX8_init_25 : decode cX8_init 25 = .ok (.anewarray 20, 3) := by decide +kernel
theorem dX8_init_28 : decode cX8_init 28 = .ok (.putfield 22, 3) := by decide +kernel
theorem dX8_init_31 : decode cX8_init 31 = .ok (.aload_n 0, 1) := by decide +kernel
theorem dX8_init_32 : decode cX8_init 32 = .ok (.bipush 20, 2) := by decide +kernel
theorem dX8_init_34 : decode cX8_init 34 = .ok (.anewarray 26, 3) := by decide +kernel
theorem dX8_init_37 : decode cX8_init 37 = .ok (.putfield 28, 3) := by decide +kernel
theorem dX8_init_40 : decode cX8_init 40 = .ok (.aload_n 0, 1) := by decide +kernel
theorem dX8_init_41 : decode cX8_init 41 = .ok (.bipush 40, 2) := by decide +kernel
theorem dX8_init_43 : decode cX8_init 43 = .ok (.anewarray 32, 3) := by decide +kernel
theorem dX8_init_46 : decode cX8_init 46 = .ok (.putfield 34, 3) := by decide +kernel
theorem dX8_init_49 : decode cX8_init 49 = .ok (.aload_n 0, 1) := by decide +kernel
theorem dX8_init_50 : decode cX8_init 50 = .ok (.new 38, 3) := by decide +kernel
theorem dX8_init_53 : decode cX8_init 53 = .ok (.dup, 1) := by decide +kernel
theorem dX8_init_54 : decode cX8_init 54 = .ok (.invokespecial 40, 3) := by decide +kernel
theorem dX8_init_57 : decode cX8_init 57 = .ok (.putfield 41, 3) := by decide +kernel
theorem dX8_init_60 : decode cX8_init 60 = .ok (.aload_n 0, 1) := by decide +kernel
theorem dX8_init_61 : decode cX8_init 61 = .ok (.new 45, 3) := by decide +kernel
theorem dX8_init_64 : decode cX8_init 64 = .ok (.dup, 1) := by decide +kernel
theorem dX8_init_65 : decode cX8_init 65 = .ok (.invokespecial 47, 3) := by decide +kernel
theorem dX8_init_68 : decode cX8_init 68 = .ok (.putfield 48, 3) := by decide +kernel
theorem dX8_init_71 : decode cX8_init 71 = .ok (.aload_n 0, 1) := by decide +kernel
theorem dX8_init_72 : decode cX8_init 72 = .ok (.new 52, 3) := by decide +kernel
theorem dX8_init_75 : decode cX8_init 75 = .ok (.dup, 1) := by decide +kernel
theorem dX8_init_76 : decode cX8_init 76 = .ok (.invokespecial 54, 3) := by decide +kernel
theorem dX8_init_79 : decode cX8_init 79 = .ok (.putfield 55, 3) := by decide +kernel
theorem dX8_init_82 : decode cX8_init 82 = .ok (.aload_n 0, 1) := by decide +kernel
theorem dX8_init_83 : decode cX8_init 83 = .ok (.getfield 22, 3) := by decide +kernel
theorem dX8_init_86 : decode cX8_init 86 = .ok (.iconst 0, 1) := by decide +kernel
theorem dX8_init_87 : decode cX8_init 87 = .ok (.new 20, 3) := by decide +kernel
theorem dX8_init_90 : decode cX8_init 90 = .ok (.dup, 1) := by decide +kernel
theorem dX8_init_91 : decode cX8_init 91 = .ok (.invokespecial 59, 3) := by decide +kernel
theorem dX8_init_94 : decode cX8_init 94 = .ok (.aastore, 1) := by decide +kernel
theorem dX8_init_95 : decode cX8_init 95 = .ok (.aload_n 0, 1) := by decide +kernel
theorem dX8_init_96 : decode cX8_init 96 = .ok (.iconst 1, 1) := by decide +kernel
theorem dX8_init_97 : decode cX8_init 97 = .ok (.putfield 60, 3) := by decide +kernel
theorem dX8_init_100 : decode cX8_init 100 = .ok (.aload_n 0, 1) := by decide +kernel
theorem dX8_init_101 : decode cX8_init 101 = .ok (.iconst 5, 1) := by decide +kernel
theorem dX8_init_102 : decode cX8_init 102 = .ok (.putfield 64, 3) := by decide +kernel
theorem dX8_init_105 : decode cX8_init 105 = .ok (.return_, 1) := by decide +kernel
theorem dX8_list_0 : decode cX8_list 0 = .ok (.iload_n 1, 1) := by decide +kernel
theorem dX8_list_1 : decode cX8_list 1 = .ok (.bipush 54, 2) := by decide +kernel
theorem dX8_list_3 : decode cX8_list 3 = .ok (.invokestatic 67, 3) := by decide +kernel
theorem dX8_list_6 : decode cX8_list 6 = .ok (.ifCond .eq 38, 3) := by decide +kernel
theorem dX8_list_9 : decode cX8_list 9 = .ok (.iload_n 2, 1) := by decide +kernel
theorem dX8_list_10 : decode cX8_list 10 = .ok (.iconst 3, 1) := by decide +kernel
theorem dX8_list_11 : decode cX8_list 11 = .ok (.invokestatic 67, 3) := by decide +kernel
theorem dX8_list_14 : decode cX8_list 14 = .ok (.ifCond .eq 30, 3) := by decide +kernel
theorem dX8_list_17 : decode cX8_list 17 = .ok (.iload_n 3, 1) := by decide +kernel
theorem dX8_list_18 : decode cX8_list 18 = .ok (.sipush 9999, 3) := by decide +kernel
theorem dX8_list_21 : decode cX8_list 21 = .ok (.invokestatic 67, 3) := by decide +kernel
theorem dX8_list_24 : decode cX8_list 24 = .ok (.ifCond .eq 20, 3) := by decide +kernel
theorem dX8_list_27 : decode cX8_list 27 = .ok (.aload_n 0, 1) := by decide +kernel
theorem dX8_list_28 : decode cX8_list 28 = .ok (.getfield 12, 3) := by decide +kernel
theorem dX8_list_31 : decode cX8_list 31 = .ok (.iload_n 1, 1) := by decide +kernel
theorem dX8_list_32 : decode cX8_list 32 = .ok (.iload_n 2, 1) := by decide +kernel
theorem dX8_list_33 : decode cX8_list 33 = .ok (.iload_n 3, 1) := by decide +kernel
theorem dX8_list_34 : decode cX8_list 34 = .ok (.invokevirtual 71, 3) := by decide +kernel
theorem dX8_list_37 : decode cX8_list 37 = .ok (.ifCond .eq 7, 3) := by decide +kernel
theorem dX8_list_40 : decode cX8_list 40 = .ok (.iconst 1, 1) := by decide +kernel
theorem dX8_list_41 : decode cX8_list 41 = .ok (.goto 4, 3) := by decide +kernel
theorem dX8_list_44 : decode cX8_list 44 = .ok (.iconst 0, 1) := by decide +kernel
theorem dX8_list_45 : decode cX8_list 45 = .ok (.ireturn, 1) := by decide +kernel
theorem dX8_dry_0 : decode cX8_dry 0 = .ok (.iload_n 1, 1) := by decide +kernel
theorem dX8_dry_1 : decode cX8_dry 1 = .ok (.iconst 4, 1) := by decide +kernel
theorem dX8_dry_2 : decode cX8_dry 2 = .ok (.invokestatic 67, 3) := by decide +kernel
theorem dX8_dry_5 : decode cX8_dry 5 = .ok (.ifCond .eq 12, 3) := by decide +kernel
theorem dX8_dry_8 : decode cX8_dry 8 = .ok (.iload_n 2, 1) := by decide +kernel
theorem dX8_dry_9 : decode cX8_dry 9 = .ok (.bipush 60, 2) := by decide +kernel
theorem dX8_dry_11 : decode cX8_dry 11 = .ok (.invokestatic 67, 3) := by decide +kernel
theorem dX8_dry_14 : decode cX8_dry 14 = .ok (.ifCond .ne 5, 3) := by decide +kernel
theorem dX8_dry_17 : decode cX8_dry 17 = .ok (.iconst 0, 1) := by decide +kernel
theorem dX8_dry_18 : decode cX8_dry 18 = .ok (.ireturn, 1) := by decide +kernel
theorem dX8_dry_19 : decode cX8_dry 19 = .ok (.aload_n 0, 1) := by decide +kernel
theorem dX8_dry_20 : decode cX8_dry 20 = .ok (.getfield 16, 3) := by decide +kernel
theorem dX8_dry_23 : decode cX8_dry 23 = .ok (.iload_n 1, 1) := by decide +kernel
theorem dX8_dry_24 : decode cX8_dry 24 = .ok (.iload_n 2, 1) := by decide +kernel
theorem dX8_dry_25 : decode cX8_dry 25 = .ok (.iastore, 1) := by decide +kernel
theorem dX8_dry_26 : decode cX8_dry 26 = .ok (.iconst 1, 1) := by decide +kernel
theorem dX8_dry_27 : decode cX8_dry 27 = .ok (.ireturn, 1) := by decide +kernel
theorem dX8_hand_0 : decode cX8_hand 0 = .ok (.aload_n 0, 1) := by decide +kernel
theorem dX8_hand_1 : decode cX8_hand 1 = .ok (.getfield 60, 3) := by decide +kernel
theorem dX8_hand_4 : decode cX8_hand 4 = .ok (.bipush 7, 2) := by decide +kernel
theorem dX8_hand_6 : decode cX8_hand 6 = .ok (.if_icmp .lt 5, 3) := by decide +kernel
theorem dX8_hand_9 : decode cX8_hand 9 = .ok (.iconst (-1), 1) := by decide +kernel
theorem dX8_hand_10 : decode cX8_hand 10 = .ok (.ireturn, 1) := by decide +kernel
theorem dX8_hand_11 : decode cX8_hand 11 = .ok (.aload_n 0, 1) := by decide +kernel
theorem dX8_hand_12 : decode cX8_hand 12 = .ok (.getfield 22, 3) := by decide +kernel
theorem dX8_hand_15 : decode cX8_hand 15 = .ok (.aload_n 0, 1) := by decide +kernel
theorem dX8_hand_16 : decode cX8_hand 16 = .ok (.getfield 60, 3) := by decide +kernel
theorem dX8_hand_19 : decode cX8_hand 19 = .ok (.new 20, 3) := by decide +kernel
theorem dX8_hand_22 : decode cX8_hand 22 = .ok (.dup, 1) := by decide +kernel
theorem dX8_hand_23 : decode cX8_hand 23 = .ok (.invokespecial 59, 3) := by decide +kernel
theorem dX8_hand_26 : decode cX8_hand 26 = .ok (.aastore, 1) := by decide +kernel
