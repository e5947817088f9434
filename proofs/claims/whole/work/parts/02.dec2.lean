theorem dX8_count_103 : decode cX8_count 103 = .ok (.ireturn, 1) := by decide +kernel
theorem dX8_count_104 : decode cX8_count 104 = .ok (.aload_n 0, 1) := by decide +kernel
theorem dX8_count_105 : decode cX8_count 105 = .ok (.getfield 25, 3) := by decide +kernel
theorem dX8_count_108 : decode cX8_count 108 = .ok (.getfield 171, 3) := by decide +kernel
theorem dX8_count_111 : decode cX8_count 111 = .ok (.ireturn, 1) := by decide +kernel
theorem dX8_count_112 : decode cX8_count 112 = .ok (.aload_n 0, 1) := by decide +kernel
theorem dX8_count_113 : decode cX8_count 113 = .ok (.getfield 10, 3) := by decide +kernel
theorem dX8_count_116 : decode cX8_count 116 = .ok (.getfield 61, 3) := by decide +kernel
theorem dX8_count_119 : decode cX8_count 119 = .ok (.ireturn, 1) := by decide +kernel
theorem dX8_count_120 : decode cX8_count 120 = .ok (.aload_n 0, 1) := by decide +kernel
theorem dX8_count_121 : decode cX8_count 121 = .ok (.getfield 53, 3) := by decide +kernel
theorem dX8_count_124 : decode cX8_count 124 = .ok (.ireturn, 1) := by decide +kernel
theorem dX8_count_125 : decode cX8_count 125 = .ok (.bipush (-102), 2) := by decide +kernel
theorem dX8_count_127 : decode cX8_count 127 = .ok (.ireturn, 1) := by decide +kernel
theorem dX8_digest_0 : decode cX8_digest 0 = .ok (.ldc2_w 200, 3) := by decide +kernel
theorem dX8_digest_3 : decode cX8_digest 3 = .ok (.lstore_n 1, 1) := by decide +kernel
theorem dX8_digest_4 : decode cX8_digest 4 = .ok (.iconst 0, 1) := by decide +kernel
theorem dX8_digest_5 : decode cX8_digest 5 = .ok (.istore_n 3, 1) := by decide +kernel
theorem dX8_digest_6 : decode cX8_digest 6 = .ok (.iload_n 3, 1) := by decide +kernel
theorem dX8_digest_7 : decode cX8_digest 7 = .ok (.aload_n 0, 1) := by decide +kernel
theorem dX8_digest_8 : decode cX8_digest 8 = .ok (.getfield 49, 3) := by decide +kernel
theorem dX8_digest_11 : decode cX8_digest 11 = .ok (.if_icmp .ge 16, 3) := by decide +kernel
theorem dX8_digest_14 : decode cX8_digest 14 = .ok (.aload_n 0, 1) := by decide +kernel
theorem dX8_digest_15 : decode cX8_digest 15 = .ok (.lload_n 1, 1) := by decide +kernel
theorem dX8_digest_16 : decode cX8_digest 16 = .ok (.iload_n 3, 1) := by decide +kernel
theorem dX8_digest_17 : decode cX8_digest 17 = .ok (.invokevirtual 202, 3) := by decide +kernel
theorem dX8_digest_20 : decode cX8_digest 20 = .ok (.lstore_n 1, 1) := by decide +kernel
theorem dX8_digest_21 : decode cX8_digest 21 = .ok (.iinc 3 1, 3) := by decide +kernel
theorem dX8_digest_24 : decode cX8_digest 24 = .ok (.goto (-18), 3) := by decide +kernel
theorem dX8_digest_27 : decode cX8_digest 27 = .ok (.aload_n 0, 1) := by decide +kernel
theorem dX8_digest_28 : decode cX8_digest 28 = .ok (.invokevirtual 156, 3) := by decide +kernel
theorem dX8_digest_31 : decode cX8_digest 31 = .ok (.ifCond .eq 9, 3) := by decide +kernel
theorem dX8_digest_34 : decode cX8_digest 34 = .ok (.aload_n 0, 1) := by decide +kernel
theorem dX8_digest_35 : decode cX8_digest 35 = .ok (.lload_n 1, 1) := by decide +kernel
theorem dX8_digest_36 : decode cX8_digest 36 = .ok (.invokevirtual 206, 3) := by decide +kernel
theorem dX8_digest_39 : decode cX8_digest 39 = .ok (.lstore_n 1, 1) := by decide +kernel
theorem dX8_digest_40 : decode cX8_digest 40 = .ok (.iconst 0, 1) := by decide +kernel
theorem dX8_digest_41 : decode cX8_digest 41 = .ok (.istore_n 3, 1) := by decide +kernel
theorem dX8_digest_42 : decode cX8_digest 42 = .ok (.iload_n 3, 1) := by decide +kernel
theorem dX8_digest_43 : decode cX8_digest 43 = .ok (.aload_n 0, 1) := by decide +kernel
theorem dX8_digest_44 : decode cX8_digest 44 = .ok (.getfield 10, 3) := by decide +kernel
theorem dX8_digest_47 : decode cX8_digest 47 = .ok (.getfield 61, 3) := by decide +kernel
theorem dX8_digest_50 : decode cX8_digest 50 = .ok (.if_icmp .ge 24, 3) := by decide +kernel
theorem dX8_digest_53 : decode cX8_digest 53 = .ok (.lload_n 1, 1) := by decide +kernel
theorem dX8_digest_54 : decode cX8_digest 54 = .ok (.aload_n 0, 1) := by decide +kernel
theorem dX8_digest_55 : decode cX8_digest 55 = .ok (.getfield 10, 3) := by decide +kernel
theorem dX8_digest_58 : decode cX8_digest 58 = .ok (.getfield 210, 3) := by decide +kernel
theorem dX8_digest_61 : decode cX8_digest 61 = .ok (.iload_n 3, 1) := by decide +kernel
theorem dX8_digest_62 : decode cX8_digest 62 = .ok (.caload, 1) := by decide +kernel
theorem dX8_digest_63 : decode cX8_digest 63 = .ok (.i2l, 1) := by decide +kernel
theorem dX8_digest_64 : decode cX8_digest 64 = .ok (.invokestatic 214, 3) := by decide +kernel
theorem dX8_digest_67 : decode cX8_digest 67 = .ok (.lstore_n 1, 1) := by decide +kernel
theorem dX8_digest_68 : decode cX8_digest 68 = .ok (.iinc 3 1, 3) := by decide +kernel
theorem dX8_digest_71 : decode cX8_digest 71 = .ok (.goto (-29), 3) := by decide +kernel
theorem dX8_digest_74 : decode cX8_digest 74 = .ok (.iconst 0, 1) := by decide +kernel
theorem dX8_digest_75 : decode cX8_digest 75 = .ok (.istore_n 3, 1) := by decide +kernel
theorem dX8_digest_76 : decode cX8_digest 76 = .ok (.iload_n 3, 1) := by decide +kernel
theorem dX8_digest_77 : decode cX8_digest 77 = .ok (.bipush 8, 2) := by decide +kernel
theorem dX8_digest_79 : decode cX8_digest 79 = .ok (.if_icmp .gt 20, 3) := by decide +kernel
theorem dX8_digest_82 : decode cX8_digest 82 = .ok (.lload_n 1, 1) := by decide +kernel
theorem dX8_digest_83 : decode cX8_digest 83 = .ok (.aload_n 0, 1) := by decide +kernel
theorem dX8_digest_84 : decode cX8_digest 84 = .ok (.iload_n 3, 1) := by decide +kernel
theorem dX8_digest_85 : decode cX8_digest 85 = .ok (.invokevirtual 218, 3) := by decide +kernel
theorem dX8_digest_88 : decode cX8_digest 88 = .ok (.i2l, 1) := by decide +kernel
theorem dX8_digest_89 : decode cX8_digest 89 = .ok (.invokestatic 214, 3) := by decide +kernel
theorem dX8_digest_92 : decode cX8_digest 92 = .ok (.lstore_n 1, 1) := by decide +kernel
theorem dX8_digest_93 : decode cX8_digest 93 = .ok (.iinc 3 1, 3) := by decide +kernel
theorem dX8_digest_96 : decode cX8_digest 96 = .ok (.goto (-20), 3) := by decide +kernel
theorem dX8_digest_99 : decode cX8_digest 99 = .ok (.lload_n 1, 1) := by decide +kernel
theorem dX8_digest_100 : decode cX8_digest 100 = .ok (.lreturn, 1) := by decide +kernel
theorem dX8_with_0 : decode cX8_with 0 = .ok (.ldc2_w 221, 3) := by decide +kernel
theorem dX8_with_3 : decode cX8_with 3 = .ok (.lload_n 0, 1) := by decide +kernel
theorem dX8_with_4 : decode cX8_with 4 = .ok (.lmul, 1) := by decide +kernel
theorem dX8_with_5 : decode cX8_with 5 = .ok (.lload_n 2, 1) := by decide +kernel
theorem dX8_with_6 : decode cX8_with 6 = .ok (.ladd, 1) := by decide +kernel
theorem dX8_with_7 : decode cX8_with 7 = .ok (.lreturn, 1) := by decide +kernel
theorem dX8_withNeedle_0 : decode cX8_withNeedle 0 = .ok (.lload_n 1, 1) := by decide +kernel
theorem dX8_withNeedle_1 : decode cX8_withNeedle 1 = .ok (.lstore 4, 2) := by decide +kernel
theorem dX8_withNeedle_3 : decode cX8_withNeedle 3 = .ok (.iconst 0, 1) := by decide +kernel
theorem dX8_withNeedle_4 : decode cX8_withNeedle 4 = .ok (.istore 6, 2) := by decide +kernel
theorem dX8_withNeedle_6 : decode cX8_withNeedle 6 = .ok (.iload 6, 2) := by decide +kernel
theorem dX8_withNeedle_8 : decode cX8_withNeedle 8 = .ok (.bipush 7, 2) := by decide +kernel
theorem dX8_withNeedle_10 : decode cX8_withNeedle 10 = .ok (.if_icmp .gt 24, 3) := by decide +kernel
theorem dX8_withNeedle_13 : decode cX8_withNeedle 13 = .ok (.lload 4, 2) := by decide +kernel
theorem dX8_withNeedle_15 : decode cX8_withNeedle 15 = .ok (.aload_n 0, 1) := by decide +kernel
theorem dX8_withNeedle_16 : decode cX8_withNeedle 16 = .ok (.iload_n 3, 1) := by decide +kernel
theorem dX8_withNeedle_17 : decode cX8_withNeedle 17 = .ok (.iload 6, 2) := by decide +kernel
theorem dX8_withNeedle_19 : decode cX8_withNeedle 19 = .ok (.invokevirtual 223, 3) := by decide +kernel
theorem dX8_withNeedle_22 : decode cX8_withNeedle 22 = .ok (.i2l, 1) := by decide +kernel
theorem dX8_withNeedle_23 : decode cX8_withNeedle 23 = .ok (.invokestatic 214, 3) := by decide +kernel
theorem dX8_withNeedle_26 : decode cX8_withNeedle 26 = .ok (.lstore 4, 2) := by decide +kernel
theorem dX8_withNeedle_28 : decode cX8_withNeedle 28 = .ok (.iinc 6 1, 3) := by decide +kernel
theorem dX8_withNeedle_31 : decode cX8_withNeedle 31 = .ok (.goto (-25), 3) := by decide +kernel
theorem dX8_withNeedle_34 : decode cX8_withNeedle 34 = .ok (.lload 4, 2) := by decide +kernel
theorem dX8_withNeedle_36 : decode cX8_withNeedle 36 = .ok (.aload_n 0, 1) := by decide +kernel
theorem dX8_withNeedle_37 : decode cX8_withNeedle 37 = .ok (.iload_n 3, 1) := by decide +kernel
theorem dX8_withNeedle_38 : decode cX8_withNeedle 38 = .ok (.iconst 0, 1) := by decide +kernel
theorem dX8_withNeedle_39 : decode cX8_withNeedle 39 = .ok (.invokevirtual 116, 3) := by decide +kernel
theorem dX8_withNeedle_42 : decode cX8_withNeedle 42 = .ok (.i2l, 1) := by decide +kernel
theorem dX8_withNeedle_43 : decode cX8_withNeedle 43 = .ok (.invokestatic 214, 3) := by decide +kernel
theorem dX8_withNeedle_46 : decode cX8_withNeedle 46 = .ok (.lstore 4, 2) := by decide +kernel
theorem dX8_withNeedle_48 : decode cX8_withNeedle 48 = .ok (.lload 4, 2) := by decide +kernel
theorem dX8_withNeedle_50 : decode cX8_withNeedle 50 = .ok (.aload_n 0, 1) := by decide +kernel
theorem dX8_withNeedle_51 : decode cX8_withNeedle 51 = .ok (.iload_n 3, 1) := by decide +kernel
theorem dX8_withNeedle_52 : decode cX8_withNeedle 52 = .ok (.bipush 14, 2) := by decide +kernel
theorem dX8_withNeedle_54 : decode cX8_withNeedle 54 = .ok (.invokevirtual 116, 3) := by decide +kernel
theorem dX8_withNeedle_57 : decode cX8_withNeedle 57 = .ok (.i2l, 1) := by decide +kernel
theorem dX8_withNeedle_58 : decode cX8_withNeedle 58 = .ok (.invokestatic 214, 3) := by decide +kernel
theorem dX8_withNeedle_61 : decode cX8_withNeedle 61 = .ok (.lstore 4, 2) := by decide +kernel
theorem dX8_withNeedle_63 : decode cX8_withNeedle 63 = .ok (.lload 4, 2) := by decide +kernel
theorem dX8_withNeedle_65 : decode cX8_withNeedle 65 = .ok (.aload_n 0, 1) := by decide +kernel
theorem dX8_withNeedle_66 : decode cX8_withNeedle 66 = .ok (.iload_n 3, 1) := by decide +kernel
theorem dX8_withNeedle_67 : decode cX8_withNeedle 67 = .ok (.bipush 35, 2) := by decide +kernel
theorem dX8_withNeedle_69 : decode cX8_withNeedle 69 = .ok (.invokevirtual 116, 3) := by decide +kernel
theorem dX8_withNeedle_72 : decode cX8_withNeedle 72 = .ok (.i2l, 1) := by decide +kernel
theorem dX8_withNeedle_73 : decode cX8_withNeedle 73 = .ok (.invokestatic 214, 3) := by decide +kernel
theorem dX8_withNeedle_76 : decode cX8_withNeedle 76 = .ok (.lreturn, 1) := by decide +kernel
theorem dX8_withSea_0 : decode cX8_withSea 0 = .ok (.lload_n 1, 1) := by decide +kernel
theorem dX8_withSea_1 : decode cX8_withSea 1 = .ok (.aload_n 0, 1) := by decide +kernel
theorem dX8_withSea_2 : decode cX8_withSea 2 = .ok (.iconst 0, 1) := by decide +kernel
theorem dX8_withSea_3 : decode cX8_withSea 3 = .ok (.aload_n 0, 1) := by decide +kernel
theorem dX8_withSea_4 : decode cX8_withSea 4 = .ok (.iconst 0, 1) := by decide +kernel
theorem dX8_withSea_5 : decode cX8_withSea 5 = .ok (.invokevirtual 132, 3) := by decide +kernel
theorem dX8_withSea_8 : decode cX8_withSea 8 = .ok (.invokevirtual 145, 3) := by decide +kernel
theorem dX8_withSea_11 : decode cX8_withSea 11 = .ok (.i2l, 1) := by decide +kernel
theorem dX8_withSea_12 : decode cX8_withSea 12 = .ok (.invokestatic 214, 3) := by decide +kernel
theorem dX8_withSea_15 : decode cX8_withSea 15 = .ok (.lstore_n 3, 1) := by decide +kernel
theorem dX8_withSea_16 : decode cX8_withSea 16 = .ok (.iconst 0, 1) := by decide +kernel
theorem dX8_withSea_17 : decode cX8_withSea 17 = .ok (.istore 5, 2) := by decide +kernel
theorem dX8_withSea_19 : decode cX8_withSea 19 = .ok (.iload 5, 2) := by decide +kernel
theorem dX8_withSea_21 : decode cX8_withSea 21 = .ok (.bipush 36, 2) := by decide +kernel
theorem dX8_withSea_23 : decode cX8_withSea 23 = .ok (.if_icmp .ge 31, 3) := by decide +kernel
theorem dX8_withSea_26 : decode cX8_withSea 26 = .ok (.lload_n 3, 1) := by decide +kernel
theorem dX8_withSea_27 : decode cX8_withSea 27 = .ok (.aload_n 0, 1) := by decide +kernel
theorem dX8_withSea_28 : decode cX8_withSea 28 = .ok (.getfield 25, 3) := by decide +kernel
theorem dX8_withSea_31 : decode cX8_withSea 31 = .ok (.iload 5, 2) := by decide +kernel
theorem dX8_withSea_33 : decode cX8_withSea 33 = .ok (.invokevirtual 159, 3) := by decide +kernel
theorem dX8_withSea_36 : decode cX8_withSea 36 = .ok (.ifCond .eq 7, 3) := by decide +kernel
theorem dX8_withSea_39 : decode cX8_withSea 39 = .ok (.lconst 1, 1) := by decide +kernel
theorem dX8_withSea_40 : decode cX8_withSea 40 = .ok (.goto 4, 3) := by decide +kernel
theorem dX8_withSea_43 : decode cX8_withSea 43 = .ok (.lconst 0, 1) := by decide +kernel
theorem dX8_withSea_44 : decode cX8_withSea 44 = .ok (.invokestatic 214, 3) := by decide +kernel
theorem dX8_withSea_47 : decode cX8_withSea 47 = .ok (.lstore_n 3, 1) := by decide +kernel
theorem dX8_withSea_48 : decode cX8_withSea 48 = .ok (.iinc 5 1, 3) := by decide +kernel
theorem dX8_withSea_51 : decode cX8_withSea 51 = .ok (.goto (-32), 3) := by decide +kernel
theorem dX8_withSea_54 : decode cX8_withSea 54 = .ok (.lload_n 3, 1) := by decide +kernel
theorem dX8_withSea_55 : decode cX8_withSea 55 = .ok (.aload_n 0, 1) := by decide +kernel
theorem dX8_withSea_56 : decode cX8_withSea 56 = .ok (.invokevirtual 168, 3) := by decide +kernel
theorem dX8_withSea_59 : decode cX8_withSea 59 = .ok (.i2l, 1) := by decide +kernel
theorem dX8_withSea_60 : decode cX8_withSea 60 = .ok (.invokestatic 214, 3) := by decide +kernel
theorem dX8_withSea_63 : decode cX8_withSea 63 = .ok (.lreturn, 1) := by decide +kernel
theorem dX8_hasSea_0 : decode cX8_hasSea 0 = .ok (.aload_n 0, 1) := by decide +kernel
theorem dX8_hasSea_1 : decode cX8_hasSea 1 = .ok (.getfield 49, 3) := by decide +kernel
theorem dX8_hasSea_4 : decode cX8_hasSea 4 = .ok (.ifCond .le 7, 3) := by decide +kernel
theorem dX8_hasSea_7 : decode cX8_hasSea 7 = .ok (.iconst 1, 1) := by decide +kernel
theorem dX8_hasSea_8 : decode cX8_hasSea 8 = .ok (.goto 4, 3) := by decide +kernel
theorem dX8_hasSea_11 : decode cX8_hasSea 11 = .ok (.iconst 0, 1) := by decide +kernel
theorem dX8_hasSea_12 : decode cX8_hasSea 12 = .ok (.ireturn, 1) := by decide +kernel
theorem dX8_isNeedle_0 : decode cX8_isNeedle 0 = .ok (.iload_n 1, 1) := by decide +kernel
theorem dX8_isNeedle_1 : decode cX8_isNeedle 1 = .ok (.ifCond .lt 15, 3) := by decide +kernel
theorem dX8_isNeedle_4 : decode cX8_isNeedle 4 = .ok (.iload_n 1, 1) := by decide +kernel
theorem dX8_isNeedle_5 : decode cX8_isNeedle 5 = .ok (.aload_n 0, 1) := by decide +kernel
theorem dX8_isNeedle_6 : decode cX8_isNeedle 6 = .ok (.getfield 49, 3) := by decide +kernel
theorem dX8_isNeedle_9 : decode cX8_isNeedle 9 = .ok (.if_icmp .ge 7, 3) := by decide +kernel
theorem dX8_isNeedle_12 : decode cX8_isNeedle 12 = .ok (.iconst 1, 1) := by decide +kernel
theorem dX8_isNeedle_13 : decode cX8_isNeedle 13 = .ok (.goto 4, 3) := by decide +kernel
theorem dX8_isNeedle_16 : decode cX8_isNeedle 16 = .ok (.iconst 0, 1) := by decide +kernel
theorem dX8_isNeedle_17 : decode cX8_isNeedle 17 = .ok (.ireturn, 1) := by decide +kernel
theorem dX8_isPlace_0 : decode cX8_isPlace 0 = .ok (.iload_n 0, 1) := by decide +kernel
theorem dX8_isPlace_1 : decode cX8_isPlace 1 = .ok (.ifCond .lt 13, 3) := by decide +kernel
theorem dX8_isPlace_4 : decode cX8_isPlace 4 = .ok (.iload_n 0, 1) := by decide +kernel
theorem dX8_isPlace_5 : decode cX8_isPlace 5 = .ok (.bipush 36, 2) := by decide +kernel
theorem dX8_isPlace_7 : decode cX8_isPlace 7 = .ok (.if_icmp .ge 7, 3) := by decide +kernel
theorem dX8_isPlace_10 : decode cX8_isPlace 10 = .ok (.iconst 1, 1) := by decide +kernel
theorem dX8_isPlace_11 : decode cX8_isPlace 11 = .ok (.goto 4, 3) := by decide +kernel
theorem dX8_isPlace_14 : decode cX8_isPlace 14 = .ok (.iconst 0, 1) := by decide +kernel
theorem dX8_isPlace_15 : decode cX8_isPlace 15 = .ok (.ireturn, 1) := by decide +kernel
theorem dX8_isDirection_0 : decode cX8_isDirection 0 = .ok (.iload_n 0, 1) := by decide +kernel
theorem dX8_isDirection_1 : decode cX8_isDirection 1 = .ok (.ifCond .lt 13, 3) := by decide +kernel
theorem dX8_isDirection_4 : decode cX8_isDirection 4 = .ok (.iload_n 0, 1) := by decide +kernel
theorem dX8_isDirection_5 : decode cX8_isDirection 5 = .ok (.bipush 9, 2) := by decide +kernel
theorem dX8_isDirection_7 : decode cX8_isDirection 7 = .ok (.if_icmp .ge 7, 3) := by decide +kernel
theorem dX8_isDirection_10 : decode cX8_isDirection 10 = .ok (.iconst 1, 1) := by decide +kernel
theorem dX8_isDirection_11 : decode cX8_isDirection 11 = .ok (.goto 4, 3) := by decide +kernel
theorem dX8_isDirection_14 : decode cX8_isDirection 14 = .ok (.iconst 0, 1) := by decide +kernel
theorem dX8_isDirection_15 : decode cX8_isDirection 15 = .ok (.ireturn, 1) := by decide +kernel
theorem dX8_pointing_0 : decode cX8_pointing 0 = .ok (.aload_n 0, 1) := by decide +kernel
theorem dX8_pointing_1 : decode cX8_pointing 1 = .ok (.getfield 18, 3) := by decide +kernel
theorem dX8_pointing_4 : decode cX8_pointing 4 = .ok (.iload_n 1, 1) := by decide +kernel
theorem dX8_pointing_5 : decode cX8_pointing 5 = .ok (.aaload, 1) := by decide +kernel
theorem dX8_pointing_6 : decode cX8_pointing 6 = .ok (.aload_n 0, 1) := by decide +kernel
theorem dX8_pointing_7 : decode cX8_pointing 7 = .ok (.getfield 25, 3) := by decide +kernel
theorem dX8_pointing_10 : decode cX8_pointing 10 = .ok (.getfield 96, 3) := by decide +kernel
theorem dX8_pointing_13 : decode cX8_pointing 13 = .ok (.iload_n 1, 1) := by decide +kernel
theorem dX8_pointing_14 : decode cX8_pointing 14 = .ok (.iaload, 1) := by decide +kernel
theorem dX8_pointing_15 : decode cX8_pointing 15 = .ok (.iload_n 2, 1) := by decide +kernel
theorem dX8_pointing_16 : decode cX8_pointing 16 = .ok (.invokestatic 226, 3) := by decide +kernel
theorem dX8_pointing_19 : decode cX8_pointing 19 = .ok (.ireturn, 1) := by decide +kernel
theorem dX8_pointingHome_0 : decode cX8_pointingHome 0 = .ok (.iload_n 2, 1) := by decide +kernel
theorem dX8_pointingHome_1 : decode cX8_pointingHome 1 = .ok (.bipush 6, 2) := by decide +kernel
theorem dX8_pointingHome_3 : decode cX8_pointingHome 3 = .ok (.idiv, 1) := by decide +kernel
theorem dX8_pointingHome_4 : decode cX8_pointingHome 4 = .ok (.iload_n 1, 1) := by decide +kernel
theorem dX8_pointingHome_5 : decode cX8_pointingHome 5 = .ok (.bipush 6, 2) := by decide +kernel
theorem dX8_pointingHome_7 : decode cX8_pointingHome 7 = .ok (.idiv, 1) := by decide +kernel
theorem dX8_pointingHome_8 : decode cX8_pointingHome 8 = .ok (.invokestatic 230, 3) := by decide +kernel
theorem dX8_pointingHome_11 : decode cX8_pointingHome 11 = .ok (.istore_n 3, 1) := by decide +kernel
theorem dX8_pointingHome_12 : decode cX8_pointingHome 12 = .ok (.iload_n 2, 1) := by decide +kernel
theorem dX8_pointingHome_13 : decode cX8_pointingHome 13 = .ok (.bipush 6, 2) := by decide +kernel
theorem dX8_pointingHome_15 : decode cX8_pointingHome 15 = .ok (.irem, 1) := by decide +kernel
theorem dX8_pointingHome_16 : decode cX8_pointingHome 16 = .ok (.iload_n 1, 1) := by decide +kernel
theorem dX8_pointingHome_17 : decode cX8_pointingHome 17 = .ok (.bipush 6, 2) := by decide +kernel
theorem dX8_pointingHome_19 : decode cX8_pointingHome 19 = .ok (.irem, 1) := by decide +kernel
theorem dX8_pointingHome_20 : decode cX8_pointingHome 20 = .ok (.invokestatic 230, 3) := by decide +kernel
theorem dX8_pointingHome_23 : decode cX8_pointingHome 23 = .ok (.istore 4, 2) := by decide +kernel
theorem dX8_pointingHome_25 : decode cX8_pointingHome 25 = .ok (.aload_n 0, 1) := by decide +kernel
theorem dX8_pointingHome_26 : decode cX8_pointingHome 26 = .ok (.iload_n 3, 1) := by decide +kernel
theorem dX8_pointingHome_27 : decode cX8_pointingHome 27 = .ok (.iload 4, 2) := by decide +kernel
theorem dX8_pointingHome_29 : decode cX8_pointingHome 29 = .ok (.invokevirtual 233, 3) := by decide +kernel
theorem dX8_pointingHome_32 : decode cX8_pointingHome 32 = .ok (.ireturn, 1) := by decide +kernel
theorem dX8_nearer_0 : decode cX8_nearer 0 = .ok (.iload_n 1, 1) := by decide +kernel
theorem dX8_nearer_1 : decode cX8_nearer 1 = .ok (.iload_n 0, 1) := by decide +kernel
theorem dX8_nearer_2 : decode cX8_nearer 2 = .ok (.if_icmp .le 7, 3) := by decide +kernel
theorem dX8_nearer_5 : decode cX8_nearer 5 = .ok (.iconst 1, 1) := by decide +kernel
theorem dX8_nearer_6 : decode cX8_nearer 6 = .ok (.goto 13, 3) := by decide +kernel
theorem dX8_nearer_9 : decode cX8_nearer 9 = .ok (.iload_n 1, 1) := by decide +kernel
theorem dX8_nearer_10 : decode cX8_nearer 10 = .ok (.iload_n 0, 1) := by decide +kernel
theorem dX8_nearer_11 : decode cX8_nearer 11 = .ok (.if_icmp .ge 7, 3) := by decide +kernel
theorem dX8_nearer_14 : decode cX8_nearer 14 = .ok (.iconst (-1), 1) := by decide +kernel
theorem dX8_nearer_15 : decode cX8_nearer 15 = .ok (.goto 4, 3) := by decide +kernel
theorem dX8_nearer_18 : decode cX8_nearer 18 = .ok (.iconst 0, 1) := by decide +kernel
theorem dX8_nearer_19 : decode cX8_nearer 19 = .ok (.ireturn, 1) := by decide +kernel
theorem dX8_needlesDownAt_0 : decode cX8_needlesDownAt 0 = .ok (.iconst 0, 1) := by decide +kernel
theorem dX8_needlesDownAt_1 : decode cX8_needlesDownAt 1 = .ok (.istore_n 2, 1) := by decide +kernel
theorem dX8_needlesDownAt_2 : decode cX8_needlesDownAt 2 = .ok (.iconst 0, 1) := by decide +kernel
theorem dX8_needlesDownAt_3 : decode cX8_needlesDownAt 3 = .ok (.istore_n 3, 1) := by decide +kernel
theorem dX8_needlesDownAt_4 : decode cX8_needlesDownAt 4 = .ok (.iload_n 3, 1) := by decide +kernel
theorem dX8_needlesDownAt_5 : decode cX8_needlesDownAt 5 = .ok (.aload_n 0, 1) := by decide +kernel
theorem dX8_needlesDownAt_6 : decode cX8_needlesDownAt 6 = .ok (.getfield 49, 3) := by decide +kernel
theorem dX8_needlesDownAt_9 : decode cX8_needlesDownAt 9 = .ok (.if_icmp .ge 22, 3) := by decide +kernel
theorem dX8_needlesDownAt_12 : decode cX8_needlesDownAt 12 = .ok (.aload_n 0, 1) := by decide +kernel
theorem dX8_needlesDownAt_13 : decode cX8_needlesDownAt 13 = .ok (.iload_n 3, 1) := by decide +kernel
theorem dX8_needlesDownAt_14 : decode cX8_needlesDownAt 14 = .ok (.iload_n 1, 1) := by decide +kernel
theorem dX8_needlesDownAt_15 : decode cX8_needlesDownAt 15 = .ok (.invokevirtual 116, 3) := by decide +kernel
theorem dX8_needlesDownAt_18 : decode cX8_needlesDownAt 18 = .ok (.iconst 4, 1) := by decide +kernel
theorem dX8_needlesDownAt_19 : decode cX8_needlesDownAt 19 = .ok (.if_icmp .ne 6, 3) := by decide +kernel
theorem dX8_needlesDownAt_22 : decode cX8_needlesDownAt 22 = .ok (.iinc 2 1, 3) := by decide +kernel
theorem dX8_needlesDownAt_25 : decode cX8_needlesDownAt 25 = .ok (.iinc 3 1, 3) := by decide +kernel
theorem dX8_needlesDownAt_28 : decode cX8_needlesDownAt 28 = .ok (.goto (-24), 3) := by decide +kernel
theorem dX8_needlesDownAt_31 : decode cX8_needlesDownAt 31 = .ok (.iload_n 2, 1) := by decide +kernel
theorem dX8_needlesDownAt_32 : decode cX8_needlesDownAt 32 = .ok (.ireturn, 1) := by decide +kernel
theorem dX8_trailOf_0 : decode cX8_trailOf 0 = .ok (.aload_n 0, 1) := by decide +kernel
theorem dX8_trailOf_1 : decode cX8_trailOf 1 = .ok (.getfield 35, 3) := by decide +kernel
theorem dX8_trailOf_4 : decode cX8_trailOf 4 = .ok (.iconst 0, 1) := by decide +kernel
theorem dX8_trailOf_5 : decode cX8_trailOf 5 = .ok (.putfield 123, 3) := by decide +kernel
theorem dX8_trailOf_8 : decode cX8_trailOf 8 = .ok (.aload_n 0, 1) := by decide +kernel
theorem dX8_trailOf_9 : decode cX8_trailOf 9 = .ok (.getfield 35, 3) := by decide +kernel
theorem dX8_trailOf_12 : decode cX8_trailOf 12 = .ok (.aload_n 0, 1) := by decide +kernel
theorem dX8_trailOf_13 : decode cX8_trailOf 13 = .ok (.getfield 25, 3) := by decide +kernel
theorem dX8_trailOf_16 : decode cX8_trailOf 16 = .ok (.getfield 102, 3) := by decide +kernel
theorem dX8_trailOf_19 : decode cX8_trailOf 19 = .ok (.putfield 126, 3) := by decide +kernel
theorem dX8_trailOf_22 : decode cX8_trailOf 22 = .ok (.iconst 0, 1) := by decide +kernel
theorem dX8_trailOf_23 : decode cX8_trailOf 23 = .ok (.istore_n 2, 1) := by decide +kernel
theorem dX8_trailOf_24 : decode cX8_trailOf 24 = .ok (.iload_n 2, 1) := by decide +kernel
theorem dX8_trailOf_25 : decode cX8_trailOf 25 = .ok (.bipush 40, 2) := by decide +kernel
theorem dX8_trailOf_27 : decode cX8_trailOf 27 = .ok (.if_icmp .ge 71, 3) := by decide +kernel
theorem dX8_trailOf_30 : decode cX8_trailOf 30 = .ok (.aload_n 0, 1) := by decide +kernel
theorem dX8_trailOf_31 : decode cX8_trailOf 31 = .ok (.getfield 25, 3) := by decide +kernel
theorem dX8_trailOf_34 : decode cX8_trailOf 34 = .ok (.aload_n 0, 1) := by decide +kernel
theorem dX8_trailOf_35 : decode cX8_trailOf 35 = .ok (.getfield 35, 3) := by decide +kernel
theorem dX8_trailOf_38 : decode cX8_trailOf 38 = .ok (.getfield 126, 3) := by decide +kernel
theorem dX8_trailOf_41 : decode cX8_trailOf 41 = .ok (.aload_n 0, 1) := by decide +kernel
theorem dX8_trailOf_42 : decode cX8_trailOf 42 = .ok (.iload_n 1, 1) := by decide +kernel
theorem dX8_trailOf_43 : decode cX8_trailOf 43 = .ok (.aload_n 0, 1) := by decide +kernel
theorem dX8_trailOf_44 : decode cX8_trailOf 44 = .ok (.getfield 35, 3) := by decide +kernel
theorem dX8_trailOf_47 : decode cX8_trailOf 47 = .ok (.getfield 126, 3) := by decide +kernel
theorem dX8_trailOf_50 : decode cX8_trailOf 50 = .ok (.invokevirtual 116, 3) := by decide +kernel
theorem dX8_trailOf_53 : decode cX8_trailOf 53 = .ok (.invokevirtual 182, 3) := by decide +kernel
theorem dX8_trailOf_56 : decode cX8_trailOf 56 = .ok (.istore_n 3, 1) := by decide +kernel
theorem dX8_trailOf_57 : decode cX8_trailOf 57 = .ok (.iload_n 3, 1) := by decide +kernel
theorem dX8_trailOf_58 : decode cX8_trailOf 58 = .ok (.aload_n 0, 1) := by decide +kernel
theorem dX8_trailOf_59 : decode cX8_trailOf 59 = .ok (.getfield 35, 3) := by decide +kernel
theorem dX8_trailOf_62 : decode cX8_trailOf 62 = .ok (.getfield 126, 3) := by decide +kernel
theorem dX8_trailOf_65 : decode cX8_trailOf 65 = .ok (.if_icmp .ne 6, 3) := by decide +kernel
theorem dX8_trailOf_68 : decode cX8_trailOf 68 = .ok (.goto 30, 3) := by decide +kernel
theorem dX8_trailOf_71 : decode cX8_trailOf 71 = .ok (.aload_n 0, 1) := by decide +kernel
theorem dX8_trailOf_72 : decode cX8_trailOf 72 = .ok (.getfield 35, 3) := by decide +kernel
theorem dX8_trailOf_75 : decode cX8_trailOf 75 = .ok (.iload_n 3, 1) := by decide +kernel
theorem dX8_trailOf_76 : decode cX8_trailOf 76 = .ok (.putfield 126, 3) := by decide +kernel
theorem dX8_trailOf_79 : decode cX8_trailOf 79 = .ok (.aload_n 0, 1) := by decide +kernel
theorem dX8_trailOf_80 : decode cX8_trailOf 80 = .ok (.getfield 35, 3) := by decide +kernel
theorem dX8_trailOf_83 : decode cX8_trailOf 83 = .ok (.dup, 1) := by decide +kernel
theorem dX8_trailOf_84 : decode cX8_trailOf 84 = .ok (.getfield 123, 3) := by decide +kernel
theorem dX8_trailOf_87 : decode cX8_trailOf 87 = .ok (.iconst 1, 1) := by decide +kernel
theorem dX8_trailOf_88 : decode cX8_trailOf 88 = .ok (.iadd, 1) := by decide +kernel
theorem dX8_trailOf_89 : decode cX8_trailOf 89 = .ok (.putfield 123, 3) := by decide +kernel
theorem dX8_trailOf_92 : decode cX8_trailOf 92 = .ok (.iinc 2 1, 3) := by decide +kernel
theorem dX8_trailOf_95 : decode cX8_trailOf 95 = .ok (.goto (-71), 3) := by decide +kernel
theorem dX8_trailOf_98 : decode cX8_trailOf 98 = .ok (.aload_n 0, 1) := by decide +kernel
theorem dX8_trailOf_99 : decode cX8_trailOf 99 = .ok (.getfield 35, 3) := by decide +kernel
theorem dX8_trailOf_102 : decode cX8_trailOf 102 = .ok (.areturn, 1) := by decide +kernel
theorem dX8_homingBits_0 : decode cX8_homingBits 0 = .ok (.iconst 0, 1) := by decide +kernel
theorem dX8_homingBits_1 : decode cX8_homingBits 1 = .ok (.istore_n 1, 1) := by decide +kernel
theorem dX8_homingBits_2 : decode cX8_homingBits 2 = .ok (.iconst 0, 1) := by decide +kernel
theorem dX8_homingBits_3 : decode cX8_homingBits 3 = .ok (.istore_n 2, 1) := by decide +kernel
theorem dX8_homingBits_4 : decode cX8_homingBits 4 = .ok (.iload_n 2, 1) := by decide +kernel
theorem dX8_homingBits_5 : decode cX8_homingBits 5 = .ok (.aload_n 0, 1) := by decide +kernel
theorem dX8_homingBits_6 : decode cX8_homingBits 6 = .ok (.getfield 49, 3) := by decide +kernel
theorem dX8_homingBits_9 : decode cX8_homingBits 9 = .ok (.if_icmp .ge 35, 3) := by decide +kernel
theorem dX8_homingBits_12 : decode cX8_homingBits 12 = .ok (.aload_n 0, 1) := by decide +kernel
theorem dX8_homingBits_13 : decode cX8_homingBits 13 = .ok (.iload_n 2, 1) := by decide +kernel
theorem dX8_homingBits_14 : decode cX8_homingBits 14 = .ok (.invokevirtual 119, 3) := by decide +kernel
theorem dX8_homingBits_17 : decode cX8_homingBits 17 = .ok (.getfield 126, 3) := by decide +kernel
theorem dX8_homingBits_20 : decode cX8_homingBits 20 = .ok (.aload_n 0, 1) := by decide +kernel
theorem dX8_homingBits_21 : decode cX8_homingBits 21 = .ok (.getfield 25, 3) := by decide +kernel
theorem dX8_homingBits_24 : decode cX8_homingBits 24 = .ok (.getfield 96, 3) := by decide +kernel
theorem dX8_homingBits_27 : decode cX8_homingBits 27 = .ok (.iload_n 2, 1) := by decide +kernel
theorem dX8_homingBits_28 : decode cX8_homingBits 28 = .ok (.iaload, 1) := by decide +kernel
theorem dX8_homingBits_29 : decode cX8_homingBits 29 = .ok (.if_icmp .ne 9, 3) := by decide +kernel
theorem dX8_homingBits_32 : decode cX8_homingBits 32 = .ok (.iload_n 1, 1) := by decide +kernel
theorem dX8_homingBits_33 : decode cX8_homingBits 33 = .ok (.iconst 1, 1) := by decide +kernel
theorem dX8_homingBits_34 : decode cX8_homingBits 34 = .ok (.iload_n 2, 1) := by decide +kernel
theorem dX8_homingBits_35 : decode cX8_homingBits 35 = .ok (.ishl, 1) := by decide +kernel
theorem dX8_homingBits_36 : decode cX8_homingBits 36 = .ok (.ior, 1) := by decide +kernel
theorem dX8_homingBits_37 : decode cX8_homingBits 37 = .ok (.istore_n 1, 1) := by decide +kernel
theorem dX8_homingBits_38 : decode cX8_homingBits 38 = .ok (.iinc 2 1, 3) := by decide +kernel
theorem dX8_homingBits_41 : decode cX8_homingBits 41 = .ok (.goto (-37), 3) := by decide +kernel
theorem dX8_homingBits_44 : decode cX8_homingBits 44 = .ok (.iload_n 1, 1) := by decide +kernel
theorem dX8_homingBits_45 : decode cX8_homingBits 45 = .ok (.ireturn, 1) := by decide +kernel
theorem dX8_fewestSteps_0 : decode cX8_fewestSteps 0 = .ok (.aload_n 0, 1) := by decide +kernel
theorem dX8_fewestSteps_1 : decode cX8_fewestSteps 1 = .ok (.getfield 39, 3) := by decide +kernel
theorem dX8_fewestSteps_4 : decode cX8_fewestSteps 4 = .ok (.iconst (-1), 1) := by decide +kernel
theorem dX8_fewestSteps_5 : decode cX8_fewestSteps 5 = .ok (.invokestatic 236, 3) := by decide +kernel
theorem dX8_fewestSteps_8 : decode cX8_fewestSteps 8 = .ok (.aload_n 0, 1) := by decide +kernel
theorem dX8_fewestSteps_9 : decode cX8_fewestSteps 9 = .ok (.getfield 39, 3) := by decide +kernel
theorem dX8_fewestSteps_12 : decode cX8_fewestSteps 12 = .ok (.aload_n 0, 1) := by decide +kernel
theorem dX8_fewestSteps_13 : decode cX8_fewestSteps 13 = .ok (.getfield 25, 3) := by decide +kernel
theorem dX8_fewestSteps_16 : decode cX8_fewestSteps 16 = .ok (.getfield 102, 3) := by decide +kernel
theorem dX8_fewestSteps_19 : decode cX8_fewestSteps 19 = .ok (.iconst 0, 1) := by decide +kernel
theorem dX8_fewestSteps_20 : decode cX8_fewestSteps 20 = .ok (.iastore, 1) := by decide +kernel
theorem dX8_fewestSteps_21 : decode cX8_fewestSteps 21 = .ok (.aload_n 0, 1) := by decide +kernel
theorem dX8_fewestSteps_22 : decode cX8_fewestSteps 22 = .ok (.getfield 43, 3) := by decide +kernel
theorem dX8_fewestSteps_25 : decode cX8_fewestSteps 25 = .ok (.iconst 0, 1) := by decide +kernel
theorem dX8_fewestSteps_26 : decode cX8_fewestSteps 26 = .ok (.aload_n 0, 1) := by decide +kernel
theorem dX8_fewestSteps_27 : decode cX8_fewestSteps 27 = .ok (.getfield 25, 3) := by decide +kernel
theorem dX8_fewestSteps_30 : decode cX8_fewestSteps 30 = .ok (.getfield 102, 3) := by decide +kernel
theorem dX8_fewestSteps_33 : decode cX8_fewestSteps 33 = .ok (.iastore, 1) := by decide +kernel
theorem dX8_fewestSteps_34 : decode cX8_fewestSteps 34 = .ok (.iconst 1, 1) := by decide +kernel
theorem dX8_fewestSteps_35 : decode cX8_fewestSteps 35 = .ok (.istore_n 2, 1) := by decide +kernel
theorem dX8_fewestSteps_36 : decode cX8_fewestSteps 36 = .ok (.iconst 0, 1) := by decide +kernel
theorem dX8_fewestSteps_37 : decode cX8_fewestSteps 37 = .ok (.istore_n 3, 1) := by decide +kernel
theorem dX8_fewestSteps_38 : decode cX8_fewestSteps 38 = .ok (.iload_n 3, 1) := by decide +kernel
theorem dX8_fewestSteps_39 : decode cX8_fewestSteps 39 = .ok (.iload_n 2, 1) := by decide +kernel
theorem dX8_fewestSteps_40 : decode cX8_fewestSteps 40 = .ok (.if_icmp .ge 96, 3) := by decide +kernel
theorem dX8_fewestSteps_43 : decode cX8_fewestSteps 43 = .ok (.iload_n 3, 1) := by decide +kernel
theorem dX8_fewestSteps_44 : decode cX8_fewestSteps 44 = .ok (.bipush 36, 2) := by decide +kernel
theorem dX8_fewestSteps_46 : decode cX8_fewestSteps 46 = .ok (.if_icmp .ge 90, 3) := by decide +kernel
theorem dX8_fewestSteps_49 : decode cX8_fewestSteps 49 = .ok (.aload_n 0, 1) := by decide +kernel
theorem dX8_fewestSteps_50 : decode cX8_fewestSteps 50 = .ok (.getfield 43, 3) := by decide +kernel
theorem dX8_fewestSteps_53 : decode cX8_fewestSteps 53 = .ok (.iload_n 3, 1) := by decide +kernel
theorem dX8_fewestSteps_54 : decode cX8_fewestSteps 54 = .ok (.iaload, 1) := by decide +kernel
theorem dX8_fewestSteps_55 : decode cX8_fewestSteps 55 = .ok (.istore 4, 2) := by decide +kernel
theorem dX8_fewestSteps_57 : decode cX8_fewestSteps 57 = .ok (.iconst 0, 1) := by decide +kernel
theorem dX8_fewestSteps_58 : decode cX8_fewestSteps 58 = .ok (.istore 5, 2) := by decide +kernel
theorem dX8_fewestSteps_60 : decode cX8_fewestSteps 60 = .ok (.iload 5, 2) := by decide +kernel
theorem dX8_fewestSteps_62 : decode cX8_fewestSteps 62 = .ok (.bipush 9, 2) := by decide +kernel
theorem dX8_fewestSteps_64 : decode cX8_fewestSteps 64 = .ok (.if_icmp .ge 66, 3) := by decide +kernel
theorem dX8_fewestSteps_67 : decode cX8_fewestSteps 67 = .ok (.aload_n 0, 1) := by decide +kernel
theorem dX8_fewestSteps_68 : decode cX8_fewestSteps 68 = .ok (.getfield 25, 3) := by decide +kernel
theorem dX8_fewestSteps_71 : decode cX8_fewestSteps 71 = .ok (.iload 4, 2) := by decide +kernel
theorem dX8_fewestSteps_73 : decode cX8_fewestSteps 73 = .ok (.iload 5, 2) := by decide +kernel
theorem dX8_fewestSteps_75 : decode cX8_fewestSteps 75 = .ok (.invokevirtual 182, 3) := by decide +kernel
theorem dX8_fewestSteps_78 : decode cX8_fewestSteps 78 = .ok (.istore 6, 2) := by decide +kernel
theorem dX8_fewestSteps_80 : decode cX8_fewestSteps 80 = .ok (.aload_n 0, 1) := by decide +kernel
theorem dX8_fewestSteps_81 : decode cX8_fewestSteps 81 = .ok (.getfield 39, 3) := by decide +kernel
theorem dX8_fewestSteps_84 : decode cX8_fewestSteps 84 = .ok (.iload 6, 2) := by decide +kernel
theorem dX8_fewestSteps_86 : decode cX8_fewestSteps 86 = .ok (.iaload, 1) := by decide +kernel
theorem dX8_fewestSteps_87 : decode cX8_fewestSteps 87 = .ok (.iconst (-1), 1) := by decide +kernel
theorem dX8_fewestSteps_88 : decode cX8_fewestSteps 88 = .ok (.if_icmp .ne 36, 3) := by decide +kernel
theorem dX8_fewestSteps_91 : decode cX8_fewestSteps 91 = .ok (.iload_n 2, 1) := by decide +kernel
theorem dX8_fewestSteps_92 : decode cX8_fewestSteps 92 = .ok (.bipush 36, 2) := by decide +kernel
theorem dX8_fewestSteps_94 : decode cX8_fewestSteps 94 = .ok (.if_icmp .ge 30, 3) := by decide +kernel
theorem dX8_fewestSteps_97 : decode cX8_fewestSteps 97 = .ok (.aload_n 0, 1) := by decide +kernel
theorem dX8_fewestSteps_98 : decode cX8_fewestSteps 98 = .ok (.getfield 39, 3) := by decide +kernel
theorem dX8_fewestSteps_101 : decode cX8_fewestSteps 101 = .ok (.iload 6, 2) := by decide +kernel
theorem dX8_fewestSteps_103 : decode cX8_fewestSteps 103 = .ok (.aload_n 0, 1) := by decide +kernel
theorem dX8_fewestSteps_104 : decode cX8_fewestSteps 104 = .ok (.getfield 39, 3) := by decide +kernel
theorem dX8_fewestSteps_107 : decode cX8_fewestSteps 107 = .ok (.iload 4, 2) := by decide +kernel
theorem dX8_fewestSteps_109 : decode cX8_fewestSteps 109 = .ok (.iaload, 1) := by decide +kernel
theorem dX8_fewestSteps_110 : decode cX8_fewestSteps 110 = .ok (.iconst 1, 1) := by decide +kernel
theorem dX8_fewestSteps_111 : decode cX8_fewestSteps 111 = .ok (.iadd, 1) := by decide +kernel
theorem dX8_fewestSteps_112 : decode cX8_fewestSteps 112 = .ok (.iastore, 1) := by decide +kernel
theorem dX8_fewestSteps_113 : decode cX8_fewestSteps 113 = .ok (.aload_n 0, 1) := by decide +kernel
theorem dX8_fewestSteps_114 : decode cX8_fewestSteps 114 = .ok (.getfield 43, 3) := by decide +kernel
theorem dX8_fewestSteps_117 : decode cX8_fewestSteps 117 = .ok (.iload_n 2, 1) := by decide +kernel
theorem dX8_fewestSteps_118 : decode cX8_fewestSteps 118 = .ok (.iload 6, 2) := by decide +kernel
theorem dX8_fewestSteps_120 : decode cX8_fewestSteps 120 = .ok (.iastore, 1) := by decide +kernel
theorem dX8_fewestSteps_121 : decode cX8_fewestSteps 121 = .ok (.iinc 2 1, 3) := by decide +kernel
theorem dX8_fewestSteps_124 : decode cX8_fewestSteps 124 = .ok (.iinc 5 1, 3) := by decide +kernel
theorem dX8_fewestSteps_127 : decode cX8_fewestSteps 127 = .ok (.goto (-67), 3) := by decide +kernel
theorem dX8_fewestSteps_130 : decode cX8_fewestSteps 130 = .ok (.iinc 3 1, 3) := by decide +kernel
theorem dX8_fewestSteps_133 : decode cX8_fewestSteps 133 = .ok (.goto (-95), 3) := by decide +kernel
theorem dX8_fewestSteps_136 : decode cX8_fewestSteps 136 = .ok (.aload_n 0, 1) := by decide +kernel
theorem dX8_fewestSteps_137 : decode cX8_fewestSteps 137 = .ok (.getfield 39, 3) := by decide +kernel
theorem dX8_fewestSteps_140 : decode cX8_fewestSteps 140 = .ok (.iload_n 1, 1) := by decide +kernel
theorem dX8_fewestSteps_141 : decode cX8_fewestSteps 141 = .ok (.iaload, 1) := by decide +kernel
theorem dX8_fewestSteps_142 : decode cX8_fewestSteps 142 = .ok (.ireturn, 1) := by decide +kernel
theorem dX8_possibleHomes_0 : decode cX8_possibleHomes 0 = .ok (.lconst 0, 1) := by decide +kernel
theorem dX8_possibleHomes_1 : decode cX8_possibleHomes 1 = .ok (.lstore_n 2, 1) := by decide +kernel
theorem dX8_possibleHomes_2 : decode cX8_possibleHomes 2 = .ok (.iconst 0, 1) := by decide +kernel
theorem dX8_possibleHomes_3 : decode cX8_possibleHomes 3 = .ok (.istore 4, 2) := by decide +kernel
theorem dX8_possibleHomes_5 : decode cX8_possibleHomes 5 = .ok (.iload 4, 2) := by decide +kernel
theorem dX8_possibleHomes_7 : decode cX8_possibleHomes 7 = .ok (.bipush 36, 2) := by decide +kernel
theorem dX8_possibleHomes_9 : decode cX8_possibleHomes 9 = .ok (.if_icmp .ge 26, 3) := by decide +kernel
theorem dX8_possibleHomes_12 : decode cX8_possibleHomes 12 = .ok (.aload_n 0, 1) := by decide +kernel
theorem dX8_possibleHomes_13 : decode cX8_possibleHomes 13 = .ok (.iload_n 1, 1) := by decide +kernel
theorem dX8_possibleHomes_14 : decode cX8_possibleHomes 14 = .ok (.iload 4, 2) := by decide +kernel
theorem dX8_possibleHomes_16 : decode cX8_possibleHomes 16 = .ok (.invokevirtual 242, 3) := by decide +kernel
theorem dX8_possibleHomes_19 : decode cX8_possibleHomes 19 = .ok (.ifCond .eq 10, 3) := by decide +kernel
theorem dX8_possibleHomes_22 : decode cX8_possibleHomes 22 = .ok (.lload_n 2, 1) := by decide +kernel
theorem dX8_possibleHomes_23 : decode cX8_possibleHomes 23 = .ok (.lconst 1, 1) := by decide +kernel
theorem dX8_possibleHomes_24 : decode cX8_possibleHomes 24 = .ok (.iload 4, 2) := by decide +kernel
theorem dX8_possibleHomes_26 : decode cX8_possibleHomes 26 = .ok (.lshl, 1) := by decide +kernel
theorem dX8_possibleHomes_27 : decode cX8_possibleHomes 27 = .ok (.lor, 1) := by decide +kernel
theorem dX8_possibleHomes_28 : decode cX8_possibleHomes 28 = .ok (.lstore_n 2, 1) := by decide +kernel
theorem dX8_possibleHomes_29 : decode cX8_possibleHomes 29 = .ok (.iinc 4 1, 3) := by decide +kernel
theorem dX8_possibleHomes_32 : decode cX8_possibleHomes 32 = .ok (.goto (-27), 3) := by decide +kernel
theorem dX8_possibleHomes_35 : decode cX8_possibleHomes 35 = .ok (.lload_n 2, 1) := by decide +kernel
theorem dX8_possibleHomes_36 : decode cX8_possibleHomes 36 = .ok (.lreturn, 1) := by decide +kernel
theorem dX8_canBeHome_0 : decode cX8_canBeHome 0 = .ok (.iconst 0, 1) := by decide +kernel
theorem dX8_canBeHome_1 : decode cX8_canBeHome 1 = .ok (.istore_n 3, 1) := by decide +kernel
theorem dX8_canBeHome_2 : decode cX8_canBeHome 2 = .ok (.iload_n 3, 1) := by decide +kernel
theorem dX8_canBeHome_3 : decode cX8_canBeHome 3 = .ok (.aload_n 0, 1) := by decide +kernel
theorem dX8_canBeHome_4 : decode cX8_canBeHome 4 = .ok (.getfield 25, 3) := by decide +kernel
theorem dX8_canBeHome_7 : decode cX8_canBeHome 7 = .ok (.getfield 171, 3) := by decide +kernel
theorem dX8_canBeHome_10 : decode cX8_canBeHome 10 = .ok (.if_icmp .ge 55, 3) := by decide +kernel
theorem dX8_canBeHome_13 : decode cX8_canBeHome 13 = .ok (.aload_n 0, 1) := by decide +kernel
theorem dX8_canBeHome_14 : decode cX8_canBeHome 14 = .ok (.getfield 25, 3) := by decide +kernel
theorem dX8_canBeHome_17 : decode cX8_canBeHome 17 = .ok (.getfield 246, 3) := by decide +kernel
theorem dX8_canBeHome_20 : decode cX8_canBeHome 20 = .ok (.iload_n 3, 1) := by decide +kernel
theorem dX8_canBeHome_21 : decode cX8_canBeHome 21 = .ok (.iaload, 1) := by decide +kernel
theorem dX8_canBeHome_22 : decode cX8_canBeHome 22 = .ok (.iload_n 1, 1) := by decide +kernel
theorem dX8_canBeHome_23 : decode cX8_canBeHome 23 = .ok (.if_icmp .ne 36, 3) := by decide +kernel
theorem dX8_canBeHome_26 : decode cX8_canBeHome 26 = .ok (.aload_n 0, 1) := by decide +kernel
theorem dX8_canBeHome_27 : decode cX8_canBeHome 27 = .ok (.getfield 18, 3) := by decide +kernel
theorem dX8_canBeHome_30 : decode cX8_canBeHome 30 = .ok (.iload_n 1, 1) := by decide +kernel
theorem dX8_canBeHome_31 : decode cX8_canBeHome 31 = .ok (.aaload, 1) := by decide +kernel
theorem dX8_canBeHome_32 : decode cX8_canBeHome 32 = .ok (.iload_n 2, 1) := by decide +kernel
theorem dX8_canBeHome_33 : decode cX8_canBeHome 33 = .ok (.aload_n 0, 1) := by decide +kernel
theorem dX8_canBeHome_34 : decode cX8_canBeHome 34 = .ok (.getfield 25, 3) := by decide +kernel
theorem dX8_canBeHome_37 : decode cX8_canBeHome 37 = .ok (.getfield 249, 3) := by decide +kernel
theorem dX8_canBeHome_40 : decode cX8_canBeHome 40 = .ok (.iload_n 3, 1) := by decide +kernel
theorem dX8_canBeHome_41 : decode cX8_canBeHome 41 = .ok (.iaload, 1) := by decide +kernel
theorem dX8_canBeHome_42 : decode cX8_canBeHome 42 = .ok (.invokestatic 226, 3) := by decide +kernel
theorem dX8_canBeHome_45 : decode cX8_canBeHome 45 = .ok (.aload_n 0, 1) := by decide +kernel
theorem dX8_canBeHome_46 : decode cX8_canBeHome 46 = .ok (.getfield 25, 3) := by decide +kernel
theorem dX8_canBeHome_49 : decode cX8_canBeHome 49 = .ok (.getfield 252, 3) := by decide +kernel
theorem dX8_canBeHome_52 : decode cX8_canBeHome 52 = .ok (.iload_n 3, 1) := by decide +kernel
theorem dX8_canBeHome_53 : decode cX8_canBeHome 53 = .ok (.iaload, 1) := by decide +kernel
theorem dX8_canBeHome_54 : decode cX8_canBeHome 54 = .ok (.if_icmp .eq 5, 3) := by decide +kernel
theorem dX8_canBeHome_57 : decode cX8_canBeHome 57 = .ok (.iconst 0, 1) := by decide +kernel
theorem dX8_canBeHome_58 : decode cX8_canBeHome 58 = .ok (.ireturn, 1) := by decide +kernel
theorem dX8_canBeHome_59 : decode cX8_canBeHome 59 = .ok (.iinc 3 1, 3) := by decide +kernel
theorem dX8_canBeHome_62 : decode cX8_canBeHome 62 = .ok (.goto (-60), 3) := by decide +kernel
theorem dX8_canBeHome_65 : decode cX8_canBeHome 65 = .ok (.iconst 1, 1) := by decide +kernel
theorem dX8_canBeHome_66 : decode cX8_canBeHome 66 = .ok (.ireturn, 1) := by decide +kernel
theorem dX8_leastPlace_0 : decode cX8_leastPlace 0 = .ok (.iconst 0, 1) := by decide +kernel
theorem dX8_leastPlace_1 : decode cX8_leastPlace 1 = .ok (.istore_n 2, 1) := by decide +kernel
theorem dX8_leastPlace_2 : decode cX8_leastPlace 2 = .ok (.iload_n 2, 1) := by decide +kernel
theorem dX8_leastPlace_3 : decode cX8_leastPlace 3 = .ok (.bipush 36, 2) := by decide +kernel
theorem dX8_leastPlace_5 : decode cX8_leastPlace 5 = .ok (.if_icmp .ge 21, 3) := by decide +kernel
theorem dX8_leastPlace_8 : decode cX8_leastPlace 8 = .ok (.lload_n 0, 1) := by decide +kernel
theorem dX8_leastPlace_9 : decode cX8_leastPlace 9 = .ok (.iload_n 2, 1) := by decide +kernel
theorem dX8_leastPlace_10 : decode cX8_leastPlace 10 = .ok (.lshr, 1) := by decide +kernel
theorem dX8_leastPlace_11 : decode cX8_leastPlace 11 = .ok (.lconst 1, 1) := by decide +kernel
theorem dX8_leastPlace_12 : decode cX8_leastPlace 12 = .ok (.land, 1) := by decide +kernel
theorem dX8_leastPlace_13 : decode cX8_leastPlace 13 = .ok (.lconst 1, 1) := by decide +kernel
theorem dX8_leastPlace_14 : decode cX8_leastPlace 14 = .ok (.lcmp, 1) := by decide +kernel
theorem dX8_leastPlace_15 : decode cX8_leastPlace 15 = .ok (.ifCond .ne 5, 3) := by decide +kernel
theorem dX8_leastPlace_18 : decode cX8_leastPlace 18 = .ok (.iload_n 2, 1) := by decide +kernel
theorem dX8_leastPlace_19 : decode cX8_leastPlace 19 = .ok (.ireturn, 1) := by decide +kernel
theorem dX8_leastPlace_20 : decode cX8_leastPlace 20 = .ok (.iinc 2 1, 3) := by decide +kernel
theorem dX8_leastPlace_23 : decode cX8_leastPlace 23 = .ok (.goto (-21), 3) := by decide +kernel
theorem dX8_leastPlace_26 : decode cX8_leastPlace 26 = .ok (.iconst (-1), 1) := by decide +kernel
theorem dX8_leastPlace_27 : decode cX8_leastPlace 27 = .ok (.ireturn, 1) := by decide +kernel
theorem dX8_bestLook_0 : decode cX8_bestLook 0 = .ok (.lload_n 2, 1) := by decide +kernel
theorem dX8_bestLook_1 : decode cX8_bestLook 1 = .ok (.lconst 0, 1) := by decide +kernel
theorem dX8_bestLook_2 : decode cX8_bestLook 2 = .ok (.lcmp, 1) := by decide +kernel
theorem dX8_bestLook_3 : decode cX8_bestLook 3 = .ok (.ifCond .ne 5, 3) := by decide +kernel
theorem dX8_bestLook_6 : decode cX8_bestLook 6 = .ok (.iconst (-1), 1) := by decide +kernel
theorem dX8_bestLook_7 : decode cX8_bestLook 7 = .ok (.ireturn, 1) := by decide +kernel
theorem dX8_bestLook_8 : decode cX8_bestLook 8 = .ok (.iconst (-1), 1) := by decide +kernel
theorem dX8_bestLook_9 : decode cX8_bestLook 9 = .ok (.istore 4, 2) := by decide +kernel
theorem dX8_bestLook_11 : decode cX8_bestLook 11 = .ok (.bipush 37, 2) := by decide +kernel
theorem dX8_bestLook_13 : decode cX8_bestLook 13 = .ok (.istore 5, 2) := by decide +kernel
theorem dX8_bestLook_15 : decode cX8_bestLook 15 = .ok (.iconst 0, 1) := by decide +kernel
theorem dX8_bestLook_16 : decode cX8_bestLook 16 = .ok (.istore 6, 2) := by decide +kernel
theorem dX8_bestLook_18 : decode cX8_bestLook 18 = .ok (.iload 6, 2) := by decide +kernel
theorem dX8_bestLook_20 : decode cX8_bestLook 20 = .ok (.bipush 36, 2) := by decide +kernel
theorem dX8_bestLook_22 : decode cX8_bestLook 22 = .ok (.if_icmp .ge 39, 3) := by decide +kernel
theorem dX8_bestLook_25 : decode cX8_bestLook 25 = .ok (.aload_n 0, 1) := by decide +kernel
theorem dX8_bestLook_26 : decode cX8_bestLook 26 = .ok (.aload_n 0, 1) := by decide +kernel
theorem dX8_bestLook_27 : decode cX8_bestLook 27 = .ok (.getfield 18, 3) := by decide +kernel
theorem dX8_bestLook_30 : decode cX8_bestLook 30 = .ok (.iload_n 1, 1) := by decide +kernel
theorem dX8_bestLook_31 : decode cX8_bestLook 31 = .ok (.aaload, 1) := by decide +kernel
theorem dX8_bestLook_32 : decode cX8_bestLook 32 = .ok (.lload_n 2, 1) := by decide +kernel
theorem dX8_bestLook_33 : decode cX8_bestLook 33 = .ok (.iload 6, 2) := by decide +kernel
theorem dX8_bestLook_35 : decode cX8_bestLook 35 = .ok (.invokevirtual 255, 3) := by decide +kernel
theorem dX8_bestLook_38 : decode cX8_bestLook 38 = .ok (.istore 7, 2) := by decide +kernel
theorem dX8_bestLook_40 : decode cX8_bestLook 40 = .ok (.iload 7, 2) := by decide +kernel
theorem dX8_bestLook_42 : decode cX8_bestLook 42 = .ok (.iload 5, 2) := by decide +kernel
theorem dX8_bestLook_44 : decode cX8_bestLook 44 = .ok (.if_icmp .ge 11, 3) := by decide +kernel
theorem dX8_bestLook_47 : decode cX8_bestLook 47 = .ok (.iload 7, 2) := by decide +kernel
theorem dX8_bestLook_49 : decode cX8_bestLook 49 = .ok (.istore 5, 2) := by decide +kernel
theorem dX8_bestLook_51 : decode cX8_bestLook 51 = .ok (.iload 6, 2) := by decide +kernel
theorem dX8_bestLook_53 : decode cX8_bestLook 53 = .ok (.istore 4, 2) := by decide +kernel
theorem dX8_bestLook_55 : decode cX8_bestLook 55 = .ok (.iinc 6 1, 3) := by decide +kernel
theorem dX8_bestLook_58 : decode cX8_bestLook 58 = .ok (.goto (-40), 3) := by decide +kernel
theorem dX8_bestLook_61 : decode cX8_bestLook 61 = .ok (.iload 4, 2) := by decide +kernel
theorem dX8_bestLook_63 : decode cX8_bestLook 63 = .ok (.ireturn, 1) := by decide +kernel
theorem dX8_leftAtWorst_0 : decode cX8_leftAtWorst 0 = .ok (.aload_n 0, 1) := by decide +kernel
theorem dX8_leftAtWorst_1 : decode cX8_leftAtWorst 1 = .ok (.getfield 46, 3) := by decide +kernel
theorem dX8_leftAtWorst_4 : decode cX8_leftAtWorst 4 = .ok (.iconst 0, 1) := by decide +kernel
theorem dX8_leftAtWorst_5 : decode cX8_leftAtWorst 5 = .ok (.invokestatic 236, 3) := by decide +kernel
theorem dX8_leftAtWorst_8 : decode cX8_leftAtWorst 8 = .ok (.iconst 0, 1) := by decide +kernel
theorem dX8_leftAtWorst_9 : decode cX8_leftAtWorst 9 = .ok (.istore 5, 2) := by decide +kernel
theorem dX8_leftAtWorst_11 : decode cX8_leftAtWorst 11 = .ok (.iconst 0, 1) := by decide +kernel
theorem dX8_leftAtWorst_12 : decode cX8_leftAtWorst 12 = .ok (.istore 6, 2) := by decide +kernel
theorem dX8_leftAtWorst_14 : decode cX8_leftAtWorst 14 = .ok (.iload 6, 2) := by decide +kernel
theorem dX8_leftAtWorst_16 : decode cX8_leftAtWorst 16 = .ok (.bipush 36, 2) := by decide +kernel
theorem dX8_leftAtWorst_18 : decode cX8_leftAtWorst 18 = .ok (.if_icmp .ge 55, 3) := by decide +kernel
theorem dX8_leftAtWorst_21 : decode cX8_leftAtWorst 21 = .ok (.lload_n 2, 1) := by decide +kernel
theorem dX8_leftAtWorst_22 : decode cX8_leftAtWorst 22 = .ok (.iload 6, 2) := by decide +kernel
theorem dX8_leftAtWorst_24 : decode cX8_leftAtWorst 24 = .ok (.lshr, 1) := by decide +kernel
theorem dX8_leftAtWorst_25 : decode cX8_leftAtWorst 25 = .ok (.lconst 1, 1) := by decide +kernel
theorem dX8_leftAtWorst_26 : decode cX8_leftAtWorst 26 = .ok (.land, 1) := by decide +kernel
theorem dX8_leftAtWorst_27 : decode cX8_leftAtWorst 27 = .ok (.lconst 1, 1) := by decide +kernel
theorem dX8_leftAtWorst_28 : decode cX8_leftAtWorst 28 = .ok (.lcmp, 1) := by decide +kernel
theorem dX8_leftAtWorst_29 : decode cX8_leftAtWorst 29 = .ok (.ifCond .ne 38, 3) := by decide +kernel
theorem dX8_leftAtWorst_32 : decode cX8_leftAtWorst 32 = .ok (.aload_n 1, 1) := by decide +kernel
theorem dX8_leftAtWorst_33 : decode cX8_leftAtWorst 33 = .ok (.iload 6, 2) := by decide +kernel
theorem dX8_leftAtWorst_35 : decode cX8_leftAtWorst 35 = .ok (.iload 4, 2) := by decide +kernel
theorem dX8_leftAtWorst_37 : decode cX8_leftAtWorst 37 = .ok (.invokestatic 226, 3) := by decide +kernel
theorem dX8_leftAtWorst_40 : decode cX8_leftAtWorst 40 = .ok (.istore 7, 2) := by decide +kernel
theorem dX8_leftAtWorst_42 : decode cX8_leftAtWorst 42 = .ok (.aload_n 0, 1) := by decide +kernel
theorem dX8_leftAtWorst_43 : decode cX8_leftAtWorst 43 = .ok (.getfield 46, 3) := by decide +kernel
theorem dX8_leftAtWorst_46 : decode cX8_leftAtWorst 46 = .ok (.iload 7, 2) := by decide +kernel
theorem dX8_leftAtWorst_48 : decode cX8_leftAtWorst 48 = .ok (.dup2, 1) := by decide +kernel
theorem dX8_leftAtWorst_49 : decode cX8_leftAtWorst 49 = .ok (.iaload, 1) := by decide +kernel
theorem dX8_leftAtWorst_50 : decode cX8_leftAtWorst 50 = .ok (.iconst 1, 1) := by decide +kernel
theorem dX8_leftAtWorst_51 : decode cX8_leftAtWorst 51 = .ok (.iadd, 1) := by decide +kernel
theorem dX8_leftAtWorst_52 : decode cX8_leftAtWorst 52 = .ok (.iastore, 1) := by decide +kernel
theorem dX8_leftAtWorst_53 : decode cX8_leftAtWorst 53 = .ok (.iload 5, 2) := by decide +kernel
theorem dX8_leftAtWorst_55 : decode cX8_leftAtWorst 55 = .ok (.aload_n 0, 1) := by decide +kernel
theorem dX8_leftAtWorst_56 : decode cX8_leftAtWorst 56 = .ok (.getfield 46, 3) := by decide +kernel
theorem dX8_leftAtWorst_59 : decode cX8_leftAtWorst 59 = .ok (.iload 7, 2) := by decide +kernel
theorem dX8_leftAtWorst_61 : decode cX8_leftAtWorst 61 = .ok (.iaload, 1) := by decide +kernel
theorem dX8_leftAtWorst_62 : decode cX8_leftAtWorst 62 = .ok (.invokestatic 259, 3) := by decide +kernel
theorem dX8_leftAtWorst_65 : decode cX8_leftAtWorst 65 = .ok (.istore 5, 2) := by decide +kernel
theorem dX8_leftAtWorst_67 : decode cX8_leftAtWorst 67 = .ok (.iinc 6 1, 3) := by decide +kernel
theorem dX8_leftAtWorst_70 : decode cX8_leftAtWorst 70 = .ok (.goto (-56), 3) := by decide +kernel
theorem dX8_leftAtWorst_73 : decode cX8_leftAtWorst 73 = .ok (.iload 5, 2) := by decide +kernel
theorem dX8_leftAtWorst_75 : decode cX8_leftAtWorst 75 = .ok (.ireturn, 1) := by decide +kernel
theorem dX8_seedBehind_0 : decode cX8_seedBehind 0 = .ok (.ldc2_w 262, 3) := by decide +kernel
theorem dX8_seedBehind_3 : decode cX8_seedBehind 3 = .ok (.iload_n 0, 1) := by decide +kernel
theorem dX8_seedBehind_4 : decode cX8_seedBehind 4 = .ok (.i2l, 1) := by decide +kernel
theorem dX8_seedBehind_5 : decode cX8_seedBehind 5 = .ok (.lmul, 1) := by decide +kernel
theorem dX8_seedBehind_6 : decode cX8_seedBehind 6 = .ok (.ldc2_w 264, 3) := by decide +kernel
theorem dX8_seedBehind_9 : decode cX8_seedBehind 9 = .ok (.ladd, 1) := by decide +kernel
theorem dX8_seedBehind_10 : decode cX8_seedBehind 10 = .ok (.ldc2_w 266, 3) := by decide +kernel
theorem dX8_seedBehind_13 : decode cX8_seedBehind 13 = .ok (.lrem, 1) := by decide +kernel
theorem dX8_seedBehind_14 : decode cX8_seedBehind 14 = .ok (.l2i, 1) := by decide +kernel
theorem dX8_seedBehind_15 : decode cX8_seedBehind 15 = .ok (.ireturn, 1) := by decide +kernel
theorem dX8_newNeedle_0 : decode cX8_newNeedle 0 = .ok (.iload_n 0, 1) := by decide +kernel
theorem dX8_newNeedle_1 : decode cX8_newNeedle 1 = .ok (.tableswitch 63 1 4 #[31, 39, 47, 55], 31) := by decide +kernel
theorem dX8_newNeedle_32 : decode cX8_newNeedle 32 = .ok (.new 268, 3) := by decide +kernel
theorem dX8_newNeedle_35 : decode cX8_newNeedle 35 = .ok (.dup, 1) := by decide +kernel
theorem dX8_newNeedle_36 : decode cX8_newNeedle 36 = .ok (.invokespecial 270, 3) := by decide +kernel
theorem dX8_newNeedle_39 : decode cX8_newNeedle 39 = .ok (.areturn, 1) := by decide +kernel
theorem dX8_newNeedle_40 : decode cX8_newNeedle 40 = .ok (.new 271, 3) := by decide +kernel
theorem dX8_newNeedle_43 : decode cX8_newNeedle 43 = .ok (.dup, 1) := by decide +kernel
theorem dX8_newNeedle_44 : decode cX8_newNeedle 44 = .ok (.invokespecial 273, 3) := by decide +kernel
theorem dX8_newNeedle_47 : decode cX8_newNeedle 47 = .ok (.areturn, 1) := by decide +kernel
theorem dX8_newNeedle_48 : decode cX8_newNeedle 48 = .ok (.new 274, 3) := by decide +kernel
theorem dX8_newNeedle_51 : decode cX8_newNeedle 51 = .ok (.dup, 1) := by decide +kernel
theorem dX8_newNeedle_52 : decode cX8_newNeedle 52 = .ok (.invokespecial 276, 3) := by decide +kernel
theorem dX8_newNeedle_55 : decode cX8_newNeedle 55 = .ok (.areturn, 1) := by decide +kernel
theorem dX8_newNeedle_56 : decode cX8_newNeedle 56 = .ok (.new 277, 3) := by decide +kernel
theorem dX8_newNeedle_59 : decode cX8_newNeedle 59 = .ok (.dup, 1) := by decide +kernel
theorem dX8_newNeedle_60 : decode cX8_newNeedle 60 = .ok (.invokespecial 279, 3) := by decide +kernel
theorem dX8_newNeedle_63 : decode cX8_newNeedle 63 = .ok (.areturn, 1) := by decide +kernel
theorem dX8_newNeedle_64 : decode cX8_newNeedle 64 = .ok (.new 16, 3) := by decide +kernel
theorem dX8_newNeedle_67 : decode cX8_newNeedle 67 = .ok (.dup, 1) := by decide +kernel
theorem dX8_newNeedle_68 : decode cX8_newNeedle 68 = .ok (.invokespecial 60, 3) := by decide +kernel
theorem dX8_newNeedle_71 : decode cX8_newNeedle 71 = .ok (.areturn, 1) := by decide +kernel
theorem dX8_isOfKind_0 : decode cX8_isOfKind 0 = .ok (.iload_n 1, 1) := by decide +kernel
theorem dX8_isOfKind_1 : decode cX8_isOfKind 1 = .ok (.tableswitch 57 0 4 #[35, 37, 42, 47, 52], 35) := by decide +kernel
theorem dX8_isOfKind_36 : decode cX8_isOfKind 36 = .ok (.iconst 1, 1) := by decide +kernel
theorem dX8_isOfKind_37 : decode cX8_isOfKind 37 = .ok (.ireturn, 1) := by decide +kernel
theorem dX8_isOfKind_38 : decode cX8_isOfKind 38 = .ok (.aload_n 0, 1) := by decide +kernel
theorem dX8_isOfKind_39 : decode cX8_isOfKind 39 = .ok (.instanceof 268, 3) := by decide +kernel
theorem dX8_isOfKind_42 : decode cX8_isOfKind 42 = .ok (.ireturn, 1) := by decide +kernel
theorem dX8_isOfKind_43 : decode cX8_isOfKind 43 = .ok (.aload_n 0, 1) := by decide +kernel
theorem dX8_isOfKind_44 : decode cX8_isOfKind 44 = .ok (.instanceof 271, 3) := by decide +kernel
theorem dX8_isOfKind_47 : decode cX8_isOfKind 47 = .ok (.ireturn, 1) := by decide +kernel
theorem dX8_isOfKind_48 : decode cX8_isOfKind 48 = .ok (.aload_n 0, 1) := by decide +kernel
theorem dX8_isOfKind_49 : decode cX8_isOfKind 49 = .ok (.instanceof 274, 3) := by decide +kernel
theorem dX8_isOfKind_52 : decode cX8_isOfKind 52 = .ok (.ireturn, 1) := by decide +kernel
theorem dX8_isOfKind_53 : decode cX8_isOfKind 53 = .ok (.aload_n 0, 1) := by decide +kernel
theorem dX8_isOfKind_54 : decode cX8_isOfKind 54 = .ok (.instanceof 277, 3) := by decide +kernel
theorem dX8_isOfKind_57 : decode cX8_isOfKind 57 = .ok (.ireturn, 1) := by decide +kernel
theorem dX8_isOfKind_58 : decode cX8_isOfKind 58 = .ok (.iconst 0, 1) := by decide +kernel
theorem dX8_isOfKind_59 : decode cX8_isOfKind 59 = .ok (.ireturn, 1) := by decide +kernel
theorem dX9_init_0 : decode cX9_init 0 = .ok (.aload_n 0, 1) := by decide +kernel
theorem dX9_init_1 : decode cX9_init 1 = .ok (.invokespecial 1, 3) := by decide +kernel
theorem dX9_init_4 : decode cX9_init 4 = .ok (.aload_n 0, 1) := by decide +kernel
theorem dX9_init_5 : decode cX9_init 5 = .ok (.bipush 28, 2) := by decide +kernel
theorem dX9_init_7 : decode cX9_init 7 = .ok (.newarray .int, 2) := by decide +kernel
theorem dX9_init_9 : decode cX9_init 9 = .ok (.putfield 7, 3) := by decide +kernel
theorem dX9_init_12 : decode cX9_init 12 = .ok (.aload_n 0, 1) := by decide +kernel
theorem dX9_init_13 : decode cX9_init 13 = .ok (.bipush 8, 2) := by decide +kernel
theorem dX9_init_15 : decode cX9_init 15 = .ok (.newarray .int, 2) := by decide +kernel
theorem dX9_init_17 : decode cX9_init 17 = .ok (.putfield 13, 3) := by decide +kernel
theorem dX9_init_20 : decode cX9_init 20 = .ok (.aload_n 0, 1) := by decide +kernel
theorem dX9_init_21 : decode cX9_init 21 = .ok (.bipush 36, 2) := by decide +kernel
theorem dX9_init_23 : decode cX9_init 23 = .ok (.newarray .int, 2) := by decide +kernel
theorem dX9_init_25 : decode cX9_init 25 = .ok (.putfield 16, 3) := by decide +kernel
theorem dX9_init_28 : decode cX9_init 28 = .ok (.aload_n 0, 1) := by decide +kernel
theorem dX9_init_29 : decode cX9_init 29 = .ok (.bipush 36, 2) := by decide +kernel
theorem dX9_init_31 : decode cX9_init 31 = .ok (.newarray .int, 2) := by decide +kernel
theorem dX9_init_33 : decode cX9_init 33 = .ok (.putfield 19, 3) := by decide +kernel
theorem dX9_init_36 : decode cX9_init 36 = .ok (.aload_n 0, 1) := by decide +kernel
theorem dX9_init_37 : decode cX9_init 37 = .ok (.bipush 18, 2) := by decide +kernel
theorem dX9_init_39 : decode cX9_init 39 = .ok (.newarray .int, 2) := by decide +kernel
theorem dX9_init_41 : decode cX9_init 41 = .ok (.putfield 22, 3) := by decide +kernel
theorem dX9_init_44 : decode cX9_init 44 = .ok (.aload_n 0, 1) := by decide +kernel
theorem dX9_init_45 : decode cX9_init 45 = .ok (.bipush 9, 2) := by decide +kernel
theorem dX9_init_47 : decode cX9_init 47 = .ok (.newarray .int, 2) := by decide +kernel
theorem dX9_init_49 : decode cX9_init 49 = .ok (.putfield 25, 3) := by decide +kernel
theorem dX9_init_52 : decode cX9_init 52 = .ok (.aload_n 0, 1) := by decide +kernel
theorem dX9_init_53 : decode cX9_init 53 = .ok (.bipush 8, 2) := by decide +kernel
theorem dX9_init_55 : decode cX9_init 55 = .ok (.newarray .int, 2) := by decide +kernel
theorem dX9_init_57 : decode cX9_init 57 = .ok (.putfield 28, 3) := by decide +kernel
theorem dX9_init_60 : decode cX9_init 60 = .ok (.aload_n 0, 1) := by decide +kernel
theorem dX9_init_61 : decode cX9_init 61 = .ok (.bipush 36, 2) := by decide +kernel
theorem dX9_init_63 : decode cX9_init 63 = .ok (.newarray .int, 2) := by decide +kernel
theorem dX9_init_65 : decode cX9_init 65 = .ok (.putfield 31, 3) := by decide +kernel
theorem dX9_init_68 : decode cX9_init 68 = .ok (.aload_n 0, 1) := by decide +kernel
theorem dX9_init_69 : decode cX9_init 69 = .ok (.bipush 18, 2) := by decide +kernel
theorem dX9_init_71 : decode cX9_init 71 = .ok (.newarray .int, 2) := by decide +kernel
theorem dX9_init_73 : decode cX9_init 73 = .ok (.putfield 34, 3) := by decide +kernel
theorem dX9_init_76 : decode cX9_init 76 = .ok (.aload_n 0, 1) := by decide +kernel
theorem dX9_init_77 : decode cX9_init 77 = .ok (.iconst (-1), 1) := by decide +kernel
theorem dX9_init_78 : decode cX9_init 78 = .ok (.putfield 37, 3) := by decide +kernel
theorem dX9_init_81 : decode cX9_init 81 = .ok (.return_, 1) := by decide +kernel
theorem dX9_in_0 : decode cX9_in 0 = .ok (.lload_n 0, 1) := by decide +kernel
theorem dX9_in_1 : decode cX9_in 1 = .ok (.lload_n 2, 1) := by decide +kernel
theorem dX9_in_2 : decode cX9_in 2 = .ok (.lcmp, 1) := by decide +kernel
theorem dX9_in_3 : decode cX9_in 3 = .ok (.ifCond .lt 14, 3) := by decide +kernel
theorem dX9_in_6 : decode cX9_in 6 = .ok (.lload_n 0, 1) := by decide +kernel
theorem dX9_in_7 : decode cX9_in 7 = .ok (.lload 4, 2) := by decide +kernel
theorem dX9_in_9 : decode cX9_in 9 = .ok (.lcmp, 1) := by decide +kernel
theorem dX9_in_10 : decode cX9_in 10 = .ok (.ifCond .gt 7, 3) := by decide +kernel
theorem dX9_in_13 : decode cX9_in 13 = .ok (.iconst 1, 1) := by decide +kernel
theorem dX9_in_14 : decode cX9_in 14 = .ok (.goto 4, 3) := by decide +kernel
theorem dX9_in_17 : decode cX9_in 17 = .ok (.iconst 0, 1) := by decide +kernel
theorem dX9_in_18 : decode cX9_in 18 = .ok (.ireturn, 1) := by decide +kernel
theorem dX9_copy_0 : decode cX9_copy 0 = .ok (.iconst 0, 1) := by decide +kernel
theorem dX9_copy_1 : decode cX9_copy 1 = .ok (.istore_n 2, 1) := by decide +kernel
theorem dX9_copy_2 : decode cX9_copy 2 = .ok (.iload_n 2, 1) := by decide +kernel
theorem dX9_copy_3 : decode cX9_copy 3 = .ok (.aload_n 0, 1) := by decide +kernel
theorem dX9_copy_4 : decode cX9_copy 4 = .ok (.arraylength, 1) := by decide +kernel
theorem dX9_copy_5 : decode cX9_copy 5 = .ok (.if_icmp .ge 15, 3) := by decide +kernel
theorem dX9_copy_8 : decode cX9_copy 8 = .ok (.aload_n 1, 1) := by decide +kernel
theorem dX9_copy_9 : decode cX9_copy 9 = .ok (.iload_n 2, 1) := by decide +kernel
theorem dX9_copy_10 : decode cX9_copy 10 = .ok (.aload_n 0, 1) := by decide +kernel
theorem dX9_copy_11 : decode cX9_copy 11 = .ok (.iload_n 2, 1) := by decide +kernel
theorem dX9_copy_12 : decode cX9_copy 12 = .ok (.iaload, 1) := by decide +kernel
theorem dX9_copy_13 : decode cX9_copy 13 = .ok (.iastore, 1) := by decide +kernel
theorem dX9_copy_14 : decode cX9_copy 14 = .ok (.iinc 2 1, 3) := by decide +kernel
theorem dX9_copy_17 : decode cX9_copy 17 = .ok (.goto (-15), 3) := by decide +kernel
theorem dX9_copy_20 : decode cX9_copy 20 = .ok (.return_, 1) := by decide +kernel
theorem dX9_letter_0 : decode cX9_letter 0 = .ok (.iload_n 1, 1) := by decide +kernel
theorem dX9_letter_1 : decode cX9_letter 1 = .ok (.i2l, 1) := by decide +kernel
theorem dX9_letter_2 : decode cX9_letter 2 = .ok (.lconst 1, 1) := by decide +kernel
theorem dX9_letter_3 : decode cX9_letter 3 = .ok (.ldc2_w 41, 3) := by decide +kernel
theorem dX9_letter_6 : decode cX9_letter 6 = .ok (.invokestatic 43, 3) := by decide +kernel
theorem dX9_letter_9 : decode cX9_letter 9 = .ok (.ifCond .ne 6, 3) := by decide +kernel
theorem dX9_letter_12 : decode cX9_letter 12 = .ok (.bipush (-102), 2) := by decide +kernel
theorem dX9_letter_14 : decode cX9_letter 14 = .ok (.ireturn, 1) := by decide +kernel
theorem dX9_letter_15 : decode cX9_letter 15 = .ok (.aload_n 0, 1) := by decide +kernel
theorem dX9_letter_16 : decode cX9_letter 16 = .ok (.getfield 47, 3) := by decide +kernel
theorem dX9_letter_19 : decode cX9_letter 19 = .ok (.bipush 28, 2) := by decide +kernel
theorem dX9_letter_21 : decode cX9_letter 21 = .ok (.if_icmp .ne 6, 3) := by decide +kernel
theorem dX9_letter_24 : decode cX9_letter 24 = .ok (.bipush (-104), 2) := by decide +kernel
theorem dX9_letter_26 : decode cX9_letter 26 = .ok (.ireturn, 1) := by decide +kernel
theorem dX9_letter_27 : decode cX9_letter 27 = .ok (.aload_n 0, 1) := by decide +kernel
theorem dX9_letter_28 : decode cX9_letter 28 = .ok (.getfield 7, 3) := by decide +kernel
theorem dX9_letter_31 : decode cX9_letter 31 = .ok (.aload_n 0, 1) := by decide +kernel
theorem dX9_letter_32 : decode cX9_letter 32 = .ok (.getfield 47, 3) := by decide +kernel
theorem dX9_letter_35 : decode cX9_letter 35 = .ok (.iload_n 1, 1) := by decide +kernel
theorem dX9_letter_36 : decode cX9_letter 36 = .ok (.iastore, 1) := by decide +kernel
theorem dX9_letter_37 : decode cX9_letter 37 = .ok (.aload_n 0, 1) := by decide +kernel
theorem dX9_letter_38 : decode cX9_letter 38 = .ok (.dup, 1) := by decide +kernel
theorem dX9_letter_39 : decode cX9_letter 39 = .ok (.getfield 47, 3) := by decide +kernel
theorem dX9_letter_42 : decode cX9_letter 42 = .ok (.iconst 1, 1) := by decide +kernel
theorem dX9_letter_43 : decode cX9_letter 43 = .ok (.iadd, 1) := by decide +kernel
theorem dX9_letter_44 : decode cX9_letter 44 = .ok (.putfield 47, 3) := by decide +kernel
theorem dX9_letter_47 : decode cX9_letter 47 = .ok (.aload_n 0, 1) := by decide +kernel
theorem dX9_letter_48 : decode cX9_letter 48 = .ok (.getfield 47, 3) := by decide +kernel
theorem dX9_letter_51 : decode cX9_letter 51 = .ok (.ireturn, 1) := by decide +kernel
theorem dX9_blank_0 : decode cX9_blank 0 = .ok (.aload_n 0, 1) := by decide +kernel
theorem dX9_blank_1 : decode cX9_blank 1 = .ok (.getfield 47, 3) := by decide +kernel
theorem dX9_blank_4 : decode cX9_blank 4 = .ok (.istore_n 1, 1) := by decide +kernel
theorem dX9_blank_5 : decode cX9_blank 5 = .ok (.aload_n 0, 1) := by decide +kernel
theorem dX9_blank_6 : decode cX9_blank 6 = .ok (.iconst 0, 1) := by decide +kernel
theorem dX9_blank_7 : decode cX9_blank 7 = .ok (.putfield 47, 3) := by decide +kernel
theorem dX9_blank_10 : decode cX9_blank 10 = .ok (.iload_n 1, 1) := by decide +kernel
theorem dX9_blank_11 : decode cX9_blank 11 = .ok (.ireturn, 1) := by decide +kernel
theorem dX9_kindBy_0 : decode cX9_kindBy 0 = .ok (.iload_n 0, 1) := by decide +kernel
theorem dX9_kindBy_1 : decode cX9_kindBy 1 = .ok (.bipush 110, 2) := by decide +kernel
theorem dX9_kindBy_3 : decode cX9_kindBy 3 = .ok (.if_icmp .ne 7, 3) := by decide +kernel
theorem dX9_kindBy_6 : decode cX9_kindBy 6 = .ok (.iconst 0, 1) := by decide +kernel
theorem dX9_kindBy_7 : decode cX9_kindBy 7 = .ok (.goto 44, 3) := by decide +kernel
theorem dX9_kindBy_10 : decode cX9_kindBy 10 = .ok (.iload_n 0, 1) := by decide +kernel
theorem dX9_kindBy_11 : decode cX9_kindBy 11 = .ok (.bipush 115, 2) := by decide +kernel
theorem dX9_kindBy_13 : decode cX9_kindBy 13 = .ok (.if_icmp .ne 7, 3) := by decide +kernel
theorem dX9_kindBy_16 : decode cX9_kindBy 16 = .ok (.iconst 1, 1) := by decide +kernel
theorem dX9_kindBy_17 : decode cX9_kindBy 17 = .ok (.goto 34, 3) := by decide +kernel
theorem dX9_kindBy_20 : decode cX9_kindBy 20 = .ok (.iload_n 0, 1) := by decide +kernel
theorem dX9_kindBy_21 : decode cX9_kindBy 21 = .ok (.bipush 108, 2) := by decide +kernel
theorem dX9_kindBy_23 : decode cX9_kindBy 23 = .ok (.if_icmp .ne 7, 3) := by decide +kernel
theorem dX9_kindBy_26 : decode cX9_kindBy 26 = .ok (.iconst 2, 1) := by decide +kernel
theorem dX9_kindBy_27 : decode cX9_kindBy 27 = .ok (.goto 24, 3) := by decide +kernel
theorem dX9_kindBy_30 : decode cX9_kindBy 30 = .ok (.iload_n 0, 1) := by decide +kernel
theorem dX9_kindBy_31 : decode cX9_kindBy 31 = .ok (.bipush 116, 2) := by decide +kernel
theorem dX9_kindBy_33 : decode cX9_kindBy 33 = .ok (.if_icmp .ne 7, 3) := by decide +kernel
theorem dX9_kindBy_36 : decode cX9_kindBy 36 = .ok (.iconst 3, 1) := by decide +kernel
theorem dX9_kindBy_37 : decode cX9_kindBy 37 = .ok (.goto 14, 3) := by decide +kernel
theorem dX9_kindBy_40 : decode cX9_kindBy 40 = .ok (.iload_n 0, 1) := by decide +kernel
theorem dX9_kindBy_41 : decode cX9_kindBy 41 = .ok (.bipush 111, 2) := by decide +kernel
theorem dX9_kindBy_43 : decode cX9_kindBy 43 = .ok (.if_icmp .ne 7, 3) := by decide +kernel
theorem dX9_kindBy_46 : decode cX9_kindBy 46 = .ok (.iconst 4, 1) := by decide +kernel
theorem dX9_kindBy_47 : decode cX9_kindBy 47 = .ok (.goto 4, 3) := by decide +kernel
theorem dX9_kindBy_50 : decode cX9_kindBy 50 = .ok (.iconst (-1), 1) := by decide +kernel
theorem dX9_kindBy_51 : decode cX9_kindBy 51 = .ok (.ireturn, 1) := by decide +kernel
theorem dX9_isDigit_0 : decode cX9_isDigit 0 = .ok (.iload_n 0, 1) := by decide +kernel
theorem dX9_isDigit_1 : decode cX9_isDigit 1 = .ok (.i2l, 1) := by decide +kernel
theorem dX9_isDigit_2 : decode cX9_isDigit 2 = .ok (.ldc2_w 50, 3) := by decide +kernel
theorem dX9_isDigit_5 : decode cX9_isDigit 5 = .ok (.ldc2_w 52, 3) := by decide +kernel
theorem dX9_isDigit_8 : decode cX9_isDigit 8 = .ok (.invokestatic 43, 3) := by decide +kernel
theorem dX9_isDigit_11 : decode cX9_isDigit 11 = .ok (.ireturn, 1) := by decide +kernel
theorem dX9_isGood_0 : decode cX9_isGood 0 = .ok (.aload_n 0, 1) := by decide +kernel
theorem dX9_isGood_1 : decode cX9_isGood 1 = .ok (.getfield 7, 3) := by decide +kernel
theorem dX9_isGood_4 : decode cX9_isGood 4 = .ok (.iload_n 1, 1) := by decide +kernel
theorem dX9_isGood_5 : decode cX9_isGood 5 = .ok (.iaload, 1) := by decide +kernel
theorem dX9_isGood_6 : decode cX9_isGood 6 = .ok (.istore_n 2, 1) := by decide +kernel
theorem dX9_isGood_7 : decode cX9_isGood 7 = .ok (.aload_n 0, 1) := by decide +kernel
theorem dX9_isGood_8 : decode cX9_isGood 8 = .ok (.getfield 54, 3) := by decide +kernel
theorem dX9_isGood_11 : decode cX9_isGood 11 = .ok (.iconst (-1), 1) := by decide +kernel
theorem dX9_isGood_12 : decode cX9_isGood 12 = .ok (.if_icmp .eq 27, 3) := by decide +kernel
theorem dX9_isGood_15 : decode cX9_isGood 15 = .ok (.iload_n 1, 1) := by decide +kernel
theorem dX9_isGood_16 : decode cX9_isGood 16 = .ok (.aload_n 0, 1) := by decide +kernel
theorem dX9_isGood_17 : decode cX9_isGood 17 = .ok (.getfield 54, 3) := by decide +kernel
theorem dX9_isGood_20 : decode cX9_isGood 20 = .ok (.isub, 1) := by decide +kernel
theorem dX9_isGood_21 : decode cX9_isGood 21 = .ok (.bipush 11, 2) := by decide +kernel
theorem dX9_isGood_23 : decode cX9_isGood 23 = .ok (.if_icmp .ge 14, 3) := by decide +kernel
theorem dX9_isGood_26 : decode cX9_isGood 26 = .ok (.iload_n 2, 1) := by decide +kernel
theorem dX9_isGood_27 : decode cX9_isGood 27 = .ok (.invokestatic 57, 3) := by decide +kernel
theorem dX9_isGood_30 : decode cX9_isGood 30 = .ok (.ifCond .eq 7, 3) := by decide +kernel
theorem dX9_isGood_33 : decode cX9_isGood 33 = .ok (.iconst 1, 1) := by decide +kernel
theorem dX9_isGood_34 : decode cX9_isGood 34 = .ok (.goto 4, 3) := by decide +kernel
theorem dX9_isGood_37 : decode cX9_isGood 37 = .ok (.iconst 0, 1) := by decide +kernel
theorem dX9_isGood_38 : decode cX9_isGood 38 = .ok (.ireturn, 1) := by decide +kernel
theorem dX9_isGood_39 : decode cX9_isGood 39 = .ok (.iload_n 1, 1) := by decide +kernel
theorem dX9_isGood_40 : decode cX9_isGood 40 = .ok (.iconst 4, 1) := by decide +kernel
theorem dX9_isGood_41 : decode cX9_isGood 41 = .ok (.irem, 1) := by decide +kernel
theorem dX9_isGood_42 : decode cX9_isGood 42 = .ok (.tableswitch 45 0 2 #[26, 40, 40], 26) := by decide +kernel
theorem dX9_isGood_68 : decode cX9_isGood 68 = .ok (.iload_n 2, 1) := by decide +kernel
theorem dX9_isGood_69 : decode cX9_isGood 69 = .ok (.invokestatic 61, 3) := by decide +kernel
theorem dX9_isGood_72 : decode cX9_isGood 72 = .ok (.iconst (-1), 1) := by decide +kernel
theorem dX9_isGood_73 : decode cX9_isGood 73 = .ok (.if_icmp .eq 7, 3) := by decide +kernel
theorem dX9_isGood_76 : decode cX9_isGood 76 = .ok (.iconst 1, 1) := by decide +kernel
theorem dX9_isGood_77 : decode cX9_isGood 77 = .ok (.goto 4, 3) := by decide +kernel
theorem dX9_isGood_80 : decode cX9_isGood 80 = .ok (.iconst 0, 1) := by decide +kernel
theorem dX9_isGood_81 : decode cX9_isGood 81 = .ok (.ireturn, 1) := by decide +kernel
theorem dX9_isGood_82 : decode cX9_isGood 82 = .ok (.iload_n 2, 1) := by decide +kernel
theorem dX9_isGood_83 : decode cX9_isGood 83 = .ok (.invokestatic 57, 3) := by decide +kernel
theorem dX9_isGood_86 : decode cX9_isGood 86 = .ok (.ireturn, 1) := by decide +kernel
theorem dX9_isGood_87 : decode cX9_isGood 87 = .ok (.aload_n 0, 1) := by decide +kernel
theorem dX9_isGood_88 : decode cX9_isGood 88 = .ok (.iload_n 2, 1) := by decide +kernel
theorem dX9_isGood_89 : decode cX9_isGood 89 = .ok (.bipush 59, 2) := by decide +kernel
theorem dX9_isGood_91 : decode cX9_isGood 91 = .ok (.if_icmp .ne 7, 3) := by decide +kernel
theorem dX9_isGood_94 : decode cX9_isGood 94 = .ok (.iload_n 1, 1) := by decide +kernel
theorem dX9_isGood_95 : decode cX9_isGood 95 = .ok (.goto 4, 3) := by decide +kernel
theorem dX9_isGood_98 : decode cX9_isGood 98 = .ok (.iconst (-1), 1) := by decide +kernel
theorem dX9_isGood_99 : decode cX9_isGood 99 = .ok (.putfield 54, 3) := by decide +kernel
theorem dX9_isGood_102 : decode cX9_isGood 102 = .ok (.iload_n 2, 1) := by decide +kernel
theorem dX9_isGood_103 : decode cX9_isGood 103 = .ok (.bipush 59, 2) := by decide +kernel
theorem dX9_isGood_105 : decode cX9_isGood 105 = .ok (.if_icmp .eq 15, 3) := by decide +kernel
theorem dX9_isGood_108 : decode cX9_isGood 108 = .ok (.iload_n 2, 1) := by decide +kernel
theorem dX9_isGood_109 : decode cX9_isGood 109 = .ok (.bipush 44, 2) := by decide +kernel
theorem dX9_isGood_111 : decode cX9_isGood 111 = .ok (.if_icmp .ne 13, 3) := by decide +kernel
theorem dX9_isGood_114 : decode cX9_isGood 114 = .ok (.iload_n 1, 1) := by decide +kernel
theorem dX9_isGood_115 : decode cX9_isGood 115 = .ok (.bipush 15, 2) := by decide +kernel
theorem dX9_isGood_117 : decode cX9_isGood 117 = .ok (.if_icmp .ge 7, 3) := by decide +kernel
theorem dX9_isGood_120 : decode cX9_isGood 120 = .ok (.iconst 1, 1) := by decide +kernel
theorem dX9_isGood_121 : decode cX9_isGood 121 = .ok (.goto 4, 3) := by decide +kernel
theorem dX9_isGood_124 : decode cX9_isGood 124 = .ok (.iconst 0, 1) := by decide +kernel
theorem dX9_isGood_125 : decode cX9_isGood 125 = .ok (.ireturn, 1) := by decide +kernel
theorem dX9_faultOf_0 : decode cX9_faultOf 0 = .ok (.aload_n 0, 1) := by decide +kernel
theorem dX9_faultOf_1 : decode cX9_faultOf 1 = .ok (.iconst (-1), 1) := by decide +kernel
theorem dX9_faultOf_2 : decode cX9_faultOf 2 = .ok (.putfield 54, 3) := by decide +kernel
theorem dX9_faultOf_5 : decode cX9_faultOf 5 = .ok (.iconst 0, 1) := by decide +kernel
theorem dX9_faultOf_6 : decode cX9_faultOf 6 = .ok (.istore_n 1, 1) := by decide +kernel
theorem dX9_faultOf_7 : decode cX9_faultOf 7 = .ok (.iload_n 1, 1) := by decide +kernel
theorem dX9_faultOf_8 : decode cX9_faultOf 8 = .ok (.aload_n 0, 1) := by decide +kernel
theorem dX9_faultOf_9 : decode cX9_faultOf 9 = .ok (.getfield 47, 3) := by decide +kernel
theorem dX9_faultOf_12 : decode cX9_faultOf 12 = .ok (.if_icmp .ge 17, 3) := by decide +kernel
theorem dX9_faultOf_15 : decode cX9_faultOf 15 = .ok (.aload_n 0, 1) := by decide +kernel
theorem dX9_faultOf_16 : decode cX9_faultOf 16 = .ok (.iload_n 1, 1) := by decide +kernel
theorem dX9_faultOf_17 : decode cX9_faultOf 17 = .ok (.invokevirtual 65, 3) := by decide +kernel
theorem dX9_faultOf_20 : decode cX9_faultOf 20 = .ok (.ifCond .eq 9, 3) := by decide +kernel
theorem dX9_faultOf_23 : decode cX9_faultOf 23 = .ok (.iinc 1 1, 3) := by decide +kernel
theorem dX9_faultOf_26 : decode cX9_faultOf 26 = .ok (.goto (-19), 3) := by decide +kernel
theorem dX9_faultOf_29 : decode cX9_faultOf 29 = .ok (.iload_n 1, 1) := by decide +kernel
theorem dX9_faultOf_30 : decode cX9_faultOf 30 = .ok (.ireturn, 1) := by decide +kernel
theorem dX9_fault_0 : decode cX9_fault 0 = .ok (.aload_n 0, 1) := by decide +kernel
theorem dX9_fault_1 : decode cX9_fault 1 = .ok (.invokevirtual 68, 3) := by decide +kernel
theorem dX9_fault_4 : decode cX9_fault 4 = .ok (.ireturn, 1) := by decide +kernel
theorem dX9_placeAt_0 : decode cX9_placeAt 0 = .ok (.bipush 6, 2) := by decide +kernel
theorem dX9_placeAt_2 : decode cX9_placeAt 2 = .ok (.aload_n 0, 1) := by decide +kernel
theorem dX9_placeAt_3 : decode cX9_placeAt 3 = .ok (.getfield 7, 3) := by decide +kernel
theorem dX9_placeAt_6 : decode cX9_placeAt 6 = .ok (.iload_n 1, 1) := by decide +kernel
theorem dX9_placeAt_7 : decode cX9_placeAt 7 = .ok (.iaload, 1) := by decide +kernel
theorem dX9_placeAt_8 : decode cX9_placeAt 8 = .ok (.bipush 48, 2) := by decide +kernel
theorem dX9_placeAt_10 : decode cX9_placeAt 10 = .ok (.isub, 1) := by decide +kernel
theorem dX9_placeAt_11 : decode cX9_placeAt 11 = .ok (.imul, 1) := by decide +kernel
theorem dX9_placeAt_12 : decode cX9_placeAt 12 = .ok (.aload_n 0, 1) := by decide +kernel
theorem dX9_placeAt_13 : decode cX9_placeAt 13 = .ok (.getfield 7, 3) := by decide +kernel
theorem dX9_placeAt_16 : decode cX9_placeAt 16 = .ok (.iload_n 1, 1) := by decide +kernel
theorem dX9_placeAt_17 : decode cX9_placeAt 17 = .ok (.iconst 1, 1) := by decide +kernel
theorem dX9_placeAt_18 : decode cX9_placeAt 18 = .ok (.iadd, 1) := by decide +kernel
theorem dX9_placeAt_19 : decode cX9_placeAt 19 = .ok (.iaload, 1) := by decide +kernel
theorem dX9_placeAt_20 : decode cX9_placeAt 20 = .ok (.iadd, 1) := by decide +kernel
theorem dX9_placeAt_21 : decode cX9_placeAt 21 = .ok (.bipush 48, 2) := by decide +kernel
theorem dX9_placeAt_23 : decode cX9_placeAt 23 = .ok (.isub, 1) := by decide +kernel
theorem dX9_placeAt_24 : decode cX9_placeAt 24 = .ok (.ireturn, 1) := by decide +kernel
theorem dX9_sea_0 : decode cX9_sea 0 = .ok (.aload_n 0, 1) := by decide +kernel
theorem dX9_sea_1 : decode cX9_sea 1 = .ok (.invokevirtual 68, 3) := by decide +kernel
theorem dX9_sea_4 : decode cX9_sea 4 = .ok (.aload_n 0, 1) := by decide +kernel
theorem dX9_sea_5 : decode cX9_sea 5 = .ok (.getfield 47, 3) := by decide +kernel
theorem dX9_sea_8 : decode cX9_sea 8 = .ok (.if_icmp .lt 38, 3) := by decide +kernel
theorem dX9_sea_11 : decode cX9_sea 11 = .ok (.aload_n 0, 1) := by decide +kernel
theorem dX9_sea_12 : decode cX9_sea 12 = .ok (.getfield 54, 3) := by decide +kernel
theorem dX9_sea_15 : decode cX9_sea 15 = .ok (.iconst (-1), 1) := by decide +kernel
theorem dX9_sea_16 : decode cX9_sea 16 = .ok (.if_icmp .eq 30, 3) := by decide +kernel
theorem dX9_sea_19 : decode cX9_sea 19 = .ok (.aload_n 0, 1) := by decide +kernel
theorem dX9_sea_20 : decode cX9_sea 20 = .ok (.getfield 47, 3) := by decide +kernel
theorem dX9_sea_23 : decode cX9_sea 23 = .ok (.aload_n 0, 1) := by decide +kernel
theorem dX9_sea_24 : decode cX9_sea 24 = .ok (.getfield 54, 3) := by decide +kernel
theorem dX9_sea_27 : decode cX9_sea 27 = .ok (.isub, 1) := by decide +kernel
theorem dX9_sea_28 : decode cX9_sea 28 = .ok (.iconst 3, 1) := by decide +kernel
theorem dX9_sea_29 : decode cX9_sea 29 = .ok (.if_icmp .lt 17, 3) := by decide +kernel
theorem dX9_sea_32 : decode cX9_sea 32 = .ok (.aload_n 0, 1) := by decide +kernel
theorem dX9_sea_33 : decode cX9_sea 33 = .ok (.getfield 47, 3) := by decide +kernel
theorem dX9_sea_36 : decode cX9_sea 36 = .ok (.aload_n 0, 1) := by decide +kernel
theorem dX9_sea_37 : decode cX9_sea 37 = .ok (.getfield 54, 3) := by decide +kernel
theorem dX9_sea_40 : decode cX9_sea 40 = .ok (.isub, 1) := by decide +kernel
theorem dX9_sea_41 : decode cX9_sea 41 = .ok (.iconst 2, 1) := by decide +kernel
theorem dX9_sea_42 : decode cX9_sea 42 = .ok (.irem, 1) := by decide +kernel
theorem dX9_sea_43 : decode cX9_sea 43 = .ok (.ifCond .ne 6, 3) := by decide +kernel
theorem dX9_sea_46 : decode cX9_sea 46 = .ok (.bipush (-103), 2) := by decide +kernel
theorem dX9_sea_48 : decode cX9_sea 48 = .ok (.ireturn, 1) := by decide +kernel
theorem dX9_sea_49 : decode cX9_sea 49 = .ok (.aload_n 0, 1) := by decide +kernel
theorem dX9_sea_50 : decode cX9_sea 50 = .ok (.aload_n 0, 1) := by decide +kernel
theorem dX9_sea_51 : decode cX9_sea 51 = .ok (.getfield 54, 3) := by decide +kernel
theorem dX9_sea_54 : decode cX9_sea 54 = .ok (.iconst 1, 1) := by decide +kernel
theorem dX9_sea_55 : decode cX9_sea 55 = .ok (.iadd, 1) := by decide +kernel
theorem dX9_sea_56 : decode cX9_sea 56 = .ok (.iconst 4, 1) := by decide +kernel
theorem dX9_sea_57 : decode cX9_sea 57 = .ok (.idiv, 1) := by decide +kernel
theorem dX9_sea_58 : decode cX9_sea 58 = .ok (.putfield 72, 3) := by decide +kernel
theorem dX9_sea_61 : decode cX9_sea 61 = .ok (.iconst 0, 1) := by decide +kernel
theorem dX9_sea_62 : decode cX9_sea 62 = .ok (.istore_n 1, 1) := by decide +kernel
theorem dX9_sea_63 : decode cX9_sea 63 = .ok (.iload_n 1, 1) := by decide +kernel
theorem dX9_sea_64 : decode cX9_sea 64 = .ok (.aload_n 0, 1) := by decide +kernel
theorem dX9_sea_65 : decode cX9_sea 65 = .ok (.getfield 72, 3) := by decide +kernel
theorem dX9_sea_68 : decode cX9_sea 68 = .ok (.if_icmp .ge 47, 3) := by decide +kernel
theorem dX9_sea_71 : decode cX9_sea 71 = .ok (.aload_n 0, 1) := by decide +kernel
theorem dX9_sea_72 : decode cX9_sea 72 = .ok (.getfield 13, 3) := by decide +kernel
theorem dX9_sea_75 : decode cX9_sea 75 = .ok (.iconst 2, 1) := by decide +kernel
theorem dX9_sea_76 : decode cX9_sea 76 = .ok (.iload_n 1, 1) := by decide +kernel
theorem dX9_sea_77 : decode cX9_sea 77 = .ok (.imul, 1) := by decide +kernel
theorem dX9_sea_78 : decode cX9_sea 78 = .ok (.aload_n 0, 1) := by decide +kernel
theorem dX9_sea_79 : decode cX9_sea 79 = .ok (.getfield 7, 3) := by decide +kernel
theorem dX9_sea_82 : decode cX9_sea 82 = .ok (.iconst 4, 1) := by decide +kernel
theorem dX9_sea_83 : decode cX9_sea 83 = .ok (.iload_n 1, 1) := by decide +kernel
theorem dX9_sea_84 : decode cX9_sea 84 = .ok (.imul, 1) := by decide +kernel
theorem dX9_sea_85 : decode cX9_sea 85 = .ok (.iaload, 1) := by decide +kernel
theorem dX9_sea_86 : decode cX9_sea 86 = .ok (.invokestatic 61, 3) := by decide +kernel
theorem dX9_sea_89 : decode cX9_sea 89 = .ok (.iastore, 1) := by decide +kernel
theorem dX9_sea_90 : decode cX9_sea 90 = .ok (.aload_n 0, 1) := by decide +kernel
theorem dX9_sea_91 : decode cX9_sea 91 = .ok (.getfield 13, 3) := by decide +kernel
theorem dX9_sea_94 : decode cX9_sea 94 = .ok (.iconst 2, 1) := by decide +kernel
theorem dX9_sea_95 : decode cX9_sea 95 = .ok (.iload_n 1, 1) := by decide +kernel
theorem dX9_sea_96 : decode cX9_sea 96 = .ok (.imul, 1) := by decide +kernel
theorem dX9_sea_97 : decode cX9_sea 97 = .ok (.iconst 1, 1) := by decide +kernel
theorem dX9_sea_98 : decode cX9_sea 98 = .ok (.iadd, 1) := by decide +kernel
theorem dX9_sea_99 : decode cX9_sea 99 = .ok (.aload_n 0, 1) := by decide +kernel
theorem dX9_sea_100 : decode cX9_sea 100 = .ok (.iconst 4, 1) := by decide +kernel
theorem dX9_sea_101 : decode cX9_sea 101 = .ok (.iload_n 1, 1) := by decide +kernel
theorem dX9_sea_102 : decode cX9_sea 102 = .ok (.imul, 1) := by decide +kernel
theorem dX9_sea_103 : decode cX9_sea 103 = .ok (.iconst 1, 1) := by decide +kernel
theorem dX9_sea_104 : decode cX9_sea 104 = .ok (.iadd, 1) := by decide +kernel
theorem dX9_sea_105 : decode cX9_sea 105 = .ok (.invokevirtual 75, 3) := by decide +kernel
theorem dX9_sea_108 : decode cX9_sea 108 = .ok (.iastore, 1) := by decide +kernel
theorem dX9_sea_109 : decode cX9_sea 109 = .ok (.iinc 1 1, 3) := by decide +kernel
theorem dX9_sea_112 : decode cX9_sea 112 = .ok (.goto (-49), 3) := by decide +kernel
theorem dX9_sea_115 : decode cX9_sea 115 = .ok (.iconst 0, 1) := by decide +kernel
theorem dX9_sea_116 : decode cX9_sea 116 = .ok (.istore_n 1, 1) := by decide +kernel
theorem dX9_sea_117 : decode cX9_sea 117 = .ok (.iload_n 1, 1) := by decide +kernel
theorem dX9_sea_118 : decode cX9_sea 118 = .ok (.bipush 36, 2) := by decide +kernel
theorem dX9_sea_120 : decode cX9_sea 120 = .ok (.if_icmp .ge 16, 3) := by decide +kernel
theorem dX9_sea_123 : decode cX9_sea 123 = .ok (.aload_n 0, 1) := by decide +kernel
theorem dX9_sea_124 : decode cX9_sea 124 = .ok (.getfield 16, 3) := by decide +kernel
theorem dX9_sea_127 : decode cX9_sea 127 = .ok (.iload_n 1, 1) := by decide +kernel
theorem dX9_sea_128 : decode cX9_sea 128 = .ok (.iconst 0, 1) := by decide +kernel
theorem dX9_sea_129 : decode cX9_sea 129 = .ok (.iastore, 1) := by decide +kernel
theorem dX9_sea_130 : decode cX9_sea 130 = .ok (.iinc 1 1, 3) := by decide +kernel
theorem dX9_sea_133 : decode cX9_sea 133 = .ok (.goto (-16), 3) := by decide +kernel
theorem dX9_sea_136 : decode cX9_sea 136 = .ok (.aload_n 0, 1) := by decide +kernel
theorem dX9_sea_137 : decode cX9_sea 137 = .ok (.aload_n 0, 1) := by decide +kernel
theorem dX9_sea_138 : decode cX9_sea 138 = .ok (.aload_n 0, 1) := by decide +kernel
theorem dX9_sea_139 : decode cX9_sea 139 = .ok (.getfield 54, 3) := by decide +kernel
theorem dX9_sea_142 : decode cX9_sea 142 = .ok (.iconst 1, 1) := by decide +kernel
theorem dX9_sea_143 : decode cX9_sea 143 = .ok (.iadd, 1) := by decide +kernel
theorem dX9_sea_144 : decode cX9_sea 144 = .ok (.invokevirtual 75, 3) := by decide +kernel
theorem dX9_sea_147 : decode cX9_sea 147 = .ok (.putfield 78, 3) := by decide +kernel
theorem dX9_sea_150 : decode cX9_sea 150 = .ok (.aload_n 0, 1) := by decide +kernel
theorem dX9_sea_151 : decode cX9_sea 151 = .ok (.getfield 54, 3) := by decide +kernel
theorem dX9_sea_154 : decode cX9_sea 154 = .ok (.iconst 3, 1) := by decide +kernel
theorem dX9_sea_155 : decode cX9_sea 155 = .ok (.iadd, 1) := by decide +kernel
theorem dX9_sea_156 : decode cX9_sea 156 = .ok (.istore_n 1, 1) := by decide +kernel
theorem dX9_sea_157 : decode cX9_sea 157 = .ok (.iload_n 1, 1) := by decide +kernel
theorem dX9_sea_158 : decode cX9_sea 158 = .ok (.aload_n 0, 1) := by decide +kernel
theorem dX9_sea_159 : decode cX9_sea 159 = .ok (.getfield 47, 3) := by decide +kernel
theorem dX9_sea_162 : decode cX9_sea 162 = .ok (.if_icmp .ge 20, 3) := by decide +kernel
theorem dX9_sea_165 : decode cX9_sea 165 = .ok (.aload_n 0, 1) := by decide +kernel
theorem dX9_sea_166 : decode cX9_sea 166 = .ok (.getfield 16, 3) := by decide +kernel
theorem dX9_sea_169 : decode cX9_sea 169 = .ok (.aload_n 0, 1) := by decide +kernel
theorem dX9_sea_170 : decode cX9_sea 170 = .ok (.iload_n 1, 1) := by decide +kernel
theorem dX9_sea_171 : decode cX9_sea 171 = .ok (.invokevirtual 75, 3) := by decide +kernel
theorem dX9_sea_174 : decode cX9_sea 174 = .ok (.iconst 1, 1) := by decide +kernel
theorem dX9_sea_175 : decode cX9_sea 175 = .ok (.iastore, 1) := by decide +kernel
theorem dX9_sea_176 : decode cX9_sea 176 = .ok (.iinc 1 2, 3) := by decide +kernel
theorem dX9_sea_179 : decode cX9_sea 179 = .ok (.goto (-22), 3) := by decide +kernel
theorem dX9_sea_182 : decode cX9_sea 182 = .ok (.aload_n 0, 1) := by decide +kernel
theorem dX9_sea_183 : decode cX9_sea 183 = .ok (.iconst 0, 1) := by decide +kernel
theorem dX9_sea_184 : decode cX9_sea 184 = .ok (.putfield 81, 3) := by decide +kernel
theorem dX9_sea_187 : decode cX9_sea 187 = .ok (.aload_n 0, 1) := by decide +kernel
theorem dX9_sea_188 : decode cX9_sea 188 = .ok (.iconst 0, 1) := by decide +kernel
theorem dX9_sea_189 : decode cX9_sea 189 = .ok (.putfield 84, 3) := by decide +kernel
theorem dX9_sea_192 : decode cX9_sea 192 = .ok (.aload_n 0, 1) := by decide +kernel
theorem dX9_sea_193 : decode cX9_sea 193 = .ok (.iconst 0, 1) := by decide +kernel
theorem dX9_sea_194 : decode cX9_sea 194 = .ok (.putfield 87, 3) := by decide +kernel
theorem dX9_sea_197 : decode cX9_sea 197 = .ok (.aload_n 0, 1) := by decide +kernel
theorem dX9_sea_198 : decode cX9_sea 198 = .ok (.dup, 1) := by decide +kernel
theorem dX9_sea_199 : decode cX9_sea 199 = .ok (.getfield 90, 3) := by decide +kernel
theorem dX9_sea_202 : decode cX9_sea 202 = .ok (.iconst 1, 1) := by decide +kernel
theorem dX9_sea_203 : decode cX9_sea 203 = .ok (.iadd, 1) := by decide +kernel
theorem dX9_sea_204 : decode cX9_sea 204 = .ok (.putfield 90, 3) := by decide +kernel
theorem dX9_sea_207 : decode cX9_sea 207 = .ok (.aload_n 0, 1) := by decide +kernel
theorem dX9_sea_208 : decode cX9_sea 208 = .ok (.iconst 0, 1) := by decide +kernel
theorem dX9_sea_209 : decode cX9_sea 209 = .ok (.putfield 47, 3) := by decide +kernel
theorem dX9_sea_212 : decode cX9_sea 212 = .ok (.aload_n 0, 1) := by decide +kernel
theorem dX9_sea_213 : decode cX9_sea 213 = .ok (.getfield 72, 3) := by decide +kernel
theorem dX9_sea_216 : decode cX9_sea 216 = .ok (.ireturn, 1) := by decide +kernel
theorem dX9_lacks_0 : decode cX9_lacks 0 = .ok (.aload_n 0, 1) := by decide +kernel
theorem dX9_lacks_1 : decode cX9_lacks 1 = .ok (.getfield 72, 3) := by decide +kernel
theorem dX9_lacks_4 : decode cX9_lacks 4 = .ok (.ifCond .ne 7, 3) := by decide +kernel
theorem dX9_lacks_7 : decode cX9_lacks 7 = .ok (.iconst 1, 1) := by decide +kernel
theorem dX9_lacks_8 : decode cX9_lacks 8 = .ok (.goto 4, 3) := by decide +kernel
theorem dX9_lacks_11 : decode cX9_lacks 11 = .ok (.iconst 0, 1) := by decide +kernel
theorem dX9_lacks_12 : decode cX9_lacks 12 = .ok (.ireturn, 1) := by decide +kernel
theorem dX9_isNeedle_0 : decode cX9_isNeedle 0 = .ok (.iload_n 1, 1) := by decide +kernel
theorem dX9_isNeedle_1 : decode cX9_isNeedle 1 = .ok (.i2l, 1) := by decide +kernel
theorem dX9_isNeedle_2 : decode cX9_isNeedle 2 = .ok (.lconst 0, 1) := by decide +kernel
theorem dX9_isNeedle_3 : decode cX9_isNeedle 3 = .ok (.aload_n 0, 1) := by decide +kernel
theorem dX9_isNeedle_4 : decode cX9_isNeedle 4 = .ok (.getfield 72, 3) := by decide +kernel
theorem dX9_isNeedle_7 : decode cX9_isNeedle 7 = .ok (.iconst 1, 1) := by decide +kernel
theorem dX9_isNeedle_8 : decode cX9_isNeedle 8 = .ok (.isub, 1) := by decide +kernel
theorem dX9_isNeedle_9 : decode cX9_isNeedle 9 = .ok (.i2l, 1) := by decide +kernel
theorem dX9_isNeedle_10 : decode cX9_isNeedle 10 = .ok (.invokestatic 43, 3) := by decide +kernel
theorem dX9_isNeedle_13 : decode cX9_isNeedle 13 = .ok (.ireturn, 1) := by decide +kernel
theorem dX9_isPlace_0 : decode cX9_isPlace 0 = .ok (.aload_n 0, 1) := by decide +kernel
theorem dX9_isPlace_1 : decode cX9_isPlace 1 = .ok (.invokevirtual 93, 3) := by decide +kernel
theorem dX9_isPlace_4 : decode cX9_isPlace 4 = .ok (.ifCond .ne 19, 3) := by decide +kernel
theorem dX9_isPlace_7 : decode cX9_isPlace 7 = .ok (.iload_n 1, 1) := by decide +kernel
theorem dX9_isPlace_8 : decode cX9_isPlace 8 = .ok (.i2l, 1) := by decide +kernel
theorem dX9_isPlace_9 : decode cX9_isPlace 9 = .ok (.lconst 0, 1) := by decide +kernel
theorem dX9_isPlace_10 : decode cX9_isPlace 10 = .ok (.ldc2_w 97, 3) := by decide +kernel
theorem dX9_isPlace_13 : decode cX9_isPlace 13 = .ok (.invokestatic 43, 3) := by decide +kernel
theorem dX9_isPlace_16 : decode cX9_isPlace 16 = .ok (.ifCond .eq 7, 3) := by decide +kernel
theorem dX9_isPlace_19 : decode cX9_isPlace 19 = .ok (.iconst 1, 1) := by decide +kernel
theorem dX9_isPlace_20 : decode cX9_isPlace 20 = .ok (.goto 4, 3) := by decide +kernel
theorem dX9_isPlace_23 : decode cX9_isPlace 23 = .ok (.iconst 0, 1) := by decide +kernel
theorem dX9_isPlace_24 : decode cX9_isPlace 24 = .ok (.ireturn, 1) := by decide +kernel
theorem dX9_signOf_0 : decode cX9_signOf 0 = .ok (.iload_n 0, 1) := by decide +kernel
theorem dX9_signOf_1 : decode cX9_signOf 1 = .ok (.ifCond .le 7, 3) := by decide +kernel
theorem dX9_signOf_4 : decode cX9_signOf 4 = .ok (.iconst 1, 1) := by decide +kernel
theorem dX9_signOf_5 : decode cX9_signOf 5 = .ok (.goto 12, 3) := by decide +kernel
theorem dX9_signOf_8 : decode cX9_signOf 8 = .ok (.iload_n 0, 1) := by decide +kernel
theorem dX9_signOf_9 : decode cX9_signOf 9 = .ok (.ifCond .ge 7, 3) := by decide +kernel
theorem dX9_signOf_12 : decode cX9_signOf 12 = .ok (.iconst (-1), 1) := by decide +kernel
theorem dX9_signOf_13 : decode cX9_signOf 13 = .ok (.goto 4, 3) := by decide +kernel
theorem dX9_signOf_16 : decode cX9_signOf 16 = .ok (.iconst 0, 1) := by decide +kernel
theorem dX9_signOf_17 : decode cX9_signOf 17 = .ok (.ireturn, 1) := by decide +kernel
theorem dX9_directionBy_0 : decode cX9_directionBy 0 = .ok (.iconst 3, 1) := by decide +kernel
theorem dX9_directionBy_1 : decode cX9_directionBy 1 = .ok (.iconst 1, 1) := by decide +kernel
theorem dX9_directionBy_2 : decode cX9_directionBy 2 = .ok (.iload_n 0, 1) := by decide +kernel
theorem dX9_directionBy_3 : decode cX9_directionBy 3 = .ok (.iadd, 1) := by decide +kernel
theorem dX9_directionBy_4 : decode cX9_directionBy 4 = .ok (.imul, 1) := by decide +kernel
theorem dX9_directionBy_5 : decode cX9_directionBy 5 = .ok (.iconst 1, 1) := by decide +kernel
theorem dX9_directionBy_6 : decode cX9_directionBy 6 = .ok (.iadd, 1) := by decide +kernel
theorem dX9_directionBy_7 : decode cX9_directionBy 7 = .ok (.iload_n 1, 1) := by decide +kernel
theorem dX9_directionBy_8 : decode cX9_directionBy 8 = .ok (.iadd, 1) := by decide +kernel
theorem dX9_directionBy_9 : decode cX9_directionBy 9 = .ok (.ireturn, 1) := by decide +kernel
theorem dX9_pointsBy_0 : decode cX9_pointsBy 0 = .ok (.iload_n 1, 1) := by decide +kernel
theorem dX9_pointsBy_1 : decode cX9_pointsBy 1 = .ok (.bipush 6, 2) := by decide +kernel
theorem dX9_pointsBy_3 : decode cX9_pointsBy 3 = .ok (.idiv, 1) := by decide +kernel
theorem dX9_pointsBy_4 : decode cX9_pointsBy 4 = .ok (.iload_n 2, 1) := by decide +kernel
theorem dX9_pointsBy_5 : decode cX9_pointsBy 5 = .ok (.bipush 6, 2) := by decide +kernel
theorem dX9_pointsBy_7 : decode cX9_pointsBy 7 = .ok (.idiv, 1) := by decide +kernel
theorem dX9_pointsBy_8 : decode cX9_pointsBy 8 = .ok (.isub, 1) := by decide +kernel
theorem dX9_pointsBy_9 : decode cX9_pointsBy 9 = .ok (.invokestatic 99, 3) := by decide +kernel
theorem dX9_pointsBy_12 : decode cX9_pointsBy 12 = .ok (.istore_n 3, 1) := by decide +kernel
theorem dX9_pointsBy_13 : decode cX9_pointsBy 13 = .ok (.iload_n 1, 1) := by decide +kernel
theorem dX9_pointsBy_14 : decode cX9_pointsBy 14 = .ok (.bipush 6, 2) := by decide +kernel
theorem dX9_pointsBy_16 : decode cX9_pointsBy 16 = .ok (.irem, 1) := by decide +kernel
theorem dX9_pointsBy_17 : decode cX9_pointsBy 17 = .ok (.iload_n 2, 1) := by decide +kernel
theorem dX9_pointsBy_18 : decode cX9_pointsBy 18 = .ok (.bipush 6, 2) := by decide +kernel
theorem dX9_pointsBy_20 : decode cX9_pointsBy 20 = .ok (.irem, 1) := by decide +kernel
theorem dX9_pointsBy_21 : decode cX9_pointsBy 21 = .ok (.isub, 1) := by decide +kernel
theorem dX9_pointsBy_22 : decode cX9_pointsBy 22 = .ok (.invokestatic 99, 3) := by decide +kernel
theorem dX9_pointsBy_25 : decode cX9_pointsBy 25 = .ok (.istore 4, 2) := by decide +kernel
theorem dX9_pointsBy_27 : decode cX9_pointsBy 27 = .ok (.iload_n 0, 1) := by decide +kernel
theorem dX9_pointsBy_28 : decode cX9_pointsBy 28 = .ok (.tableswitch 88 1 4 #[32, 41, 80, 61], 32) := by decide +kernel
theorem dX9_pointsBy_60 : decode cX9_pointsBy 60 = .ok (.iload_n 3, 1) := by decide +kernel
theorem dX9_pointsBy_61 : decode cX9_pointsBy 61 = .ok (.ineg, 1) := by decide +kernel
theorem dX9_pointsBy_62 : decode cX9_pointsBy 62 = .ok (.iload 4, 2) := by decide +kernel
theorem dX9_pointsBy_64 : decode cX9_pointsBy 64 = .ok (.ineg, 1) := by decide +kernel
theorem dX9_pointsBy_65 : decode cX9_pointsBy 65 = .ok (.invokestatic 102, 3) := by decide +kernel
theorem dX9_pointsBy_68 : decode cX9_pointsBy 68 = .ok (.ireturn, 1) := by decide +kernel
theorem dX9_pointsBy_69 : decode cX9_pointsBy 69 = .ok (.iload 4, 2) := by decide +kernel
theorem dX9_pointsBy_71 : decode cX9_pointsBy 71 = .ok (.ifCond .eq 12, 3) := by decide +kernel
theorem dX9_pointsBy_74 : decode cX9_pointsBy 74 = .ok (.iconst 0, 1) := by decide +kernel
theorem dX9_pointsBy_75 : decode cX9_pointsBy 75 = .ok (.iload 4, 2) := by decide +kernel
theorem dX9_pointsBy_77 : decode cX9_pointsBy 77 = .ok (.invokestatic 102, 3) := by decide +kernel
theorem dX9_pointsBy_80 : decode cX9_pointsBy 80 = .ok (.goto 8, 3) := by decide +kernel
theorem dX9_pointsBy_83 : decode cX9_pointsBy 83 = .ok (.iload_n 3, 1) := by decide +kernel
theorem dX9_pointsBy_84 : decode cX9_pointsBy 84 = .ok (.iconst 0, 1) := by decide +kernel
theorem dX9_pointsBy_85 : decode cX9_pointsBy 85 = .ok (.invokestatic 102, 3) := by decide +kernel
theorem dX9_pointsBy_88 : decode cX9_pointsBy 88 = .ok (.ireturn, 1) := by decide +kernel
theorem dX9_pointsBy_89 : decode cX9_pointsBy 89 = .ok (.iload_n 3, 1) := by decide +kernel
theorem dX9_pointsBy_90 : decode cX9_pointsBy 90 = .ok (.ifCond .eq 11, 3) := by decide +kernel
theorem dX9_pointsBy_93 : decode cX9_pointsBy 93 = .ok (.iload_n 3, 1) := by decide +kernel
theorem dX9_pointsBy_94 : decode cX9_pointsBy 94 = .ok (.iconst 0, 1) := by decide +kernel
theorem dX9_pointsBy_95 : decode cX9_pointsBy 95 = .ok (.invokestatic 102, 3) := by decide +kernel
theorem dX9_pointsBy_98 : decode cX9_pointsBy 98 = .ok (.goto 9, 3) := by decide +kernel
theorem dX9_pointsBy_101 : decode cX9_pointsBy 101 = .ok (.iconst 0, 1) := by decide +kernel
theorem dX9_pointsBy_102 : decode cX9_pointsBy 102 = .ok (.iload 4, 2) := by decide +kernel
theorem dX9_pointsBy_104 : decode cX9_pointsBy 104 = .ok (.invokestatic 102, 3) := by decide +kernel
theorem dX9_pointsBy_107 : decode cX9_pointsBy 107 = .ok (.ireturn, 1) := by decide +kernel
theorem dX9_pointsBy_108 : decode cX9_pointsBy 108 = .ok (.iload 4, 2) := by decide +kernel
theorem dX9_pointsBy_110 : decode cX9_pointsBy 110 = .ok (.iload_n 3, 1) := by decide +kernel
theorem dX9_pointsBy_111 : decode cX9_pointsBy 111 = .ok (.ineg, 1) := by decide +kernel
theorem dX9_pointsBy_112 : decode cX9_pointsBy 112 = .ok (.invokestatic 102, 3) := by decide +kernel
theorem dX9_pointsBy_115 : decode cX9_pointsBy 115 = .ok (.ireturn, 1) := by decide +kernel
theorem dX9_pointsBy_116 : decode cX9_pointsBy 116 = .ok (.iload_n 3, 1) := by decide +kernel
