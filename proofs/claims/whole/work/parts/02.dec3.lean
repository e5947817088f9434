theorem dX9_pointsBy_117 : decode cX9_pointsBy 117 = .ok (.iload 4, 2) := by decide +kernel
theorem dX9_pointsBy_119 : decode cX9_pointsBy 119 = .ok (.invokestatic 102, 3) := by decide +kernel
theorem dX9_pointsBy_122 : decode cX9_pointsBy 122 = .ok (.ireturn, 1) := by decide +kernel
theorem dX9_pointsOf_0 : decode cX9_pointsOf 0 = .ok (.aload_n 0, 1) := by decide +kernel
theorem dX9_pointsOf_1 : decode cX9_pointsOf 1 = .ok (.getfield 13, 3) := by decide +kernel
theorem dX9_pointsOf_4 : decode cX9_pointsOf 4 = .ok (.iconst 2, 1) := by decide +kernel
theorem dX9_pointsOf_5 : decode cX9_pointsOf 5 = .ok (.iload_n 1, 1) := by decide +kernel
theorem dX9_pointsOf_6 : decode cX9_pointsOf 6 = .ok (.imul, 1) := by decide +kernel
theorem dX9_pointsOf_7 : decode cX9_pointsOf 7 = .ok (.iaload, 1) := by decide +kernel
theorem dX9_pointsOf_8 : decode cX9_pointsOf 8 = .ok (.aload_n 0, 1) := by decide +kernel
theorem dX9_pointsOf_9 : decode cX9_pointsOf 9 = .ok (.getfield 13, 3) := by decide +kernel
theorem dX9_pointsOf_12 : decode cX9_pointsOf 12 = .ok (.iconst 2, 1) := by decide +kernel
theorem dX9_pointsOf_13 : decode cX9_pointsOf 13 = .ok (.iload_n 1, 1) := by decide +kernel
theorem dX9_pointsOf_14 : decode cX9_pointsOf 14 = .ok (.imul, 1) := by decide +kernel
theorem dX9_pointsOf_15 : decode cX9_pointsOf 15 = .ok (.iconst 1, 1) := by decide +kernel
theorem dX9_pointsOf_16 : decode cX9_pointsOf 16 = .ok (.iadd, 1) := by decide +kernel
theorem dX9_pointsOf_17 : decode cX9_pointsOf 17 = .ok (.iaload, 1) := by decide +kernel
theorem dX9_pointsOf_18 : decode cX9_pointsOf 18 = .ok (.iload_n 2, 1) := by decide +kernel
theorem dX9_pointsOf_19 : decode cX9_pointsOf 19 = .ok (.invokestatic 106, 3) := by decide +kernel
theorem dX9_pointsOf_22 : decode cX9_pointsOf 22 = .ok (.ireturn, 1) := by decide +kernel
theorem dX9_stepped_0 : decode cX9_stepped 0 = .ok (.iload_n 1, 1) := by decide +kernel
theorem dX9_stepped_1 : decode cX9_stepped 1 = .ok (.bipush 6, 2) := by decide +kernel
theorem dX9_stepped_3 : decode cX9_stepped 3 = .ok (.idiv, 1) := by decide +kernel
theorem dX9_stepped_4 : decode cX9_stepped 4 = .ok (.iload_n 2, 1) := by decide +kernel
theorem dX9_stepped_5 : decode cX9_stepped 5 = .ok (.iconst 3, 1) := by decide +kernel
theorem dX9_stepped_6 : decode cX9_stepped 6 = .ok (.idiv, 1) := by decide +kernel
theorem dX9_stepped_7 : decode cX9_stepped 7 = .ok (.iadd, 1) := by decide +kernel
theorem dX9_stepped_8 : decode cX9_stepped 8 = .ok (.iconst 1, 1) := by decide +kernel
theorem dX9_stepped_9 : decode cX9_stepped 9 = .ok (.isub, 1) := by decide +kernel
theorem dX9_stepped_10 : decode cX9_stepped 10 = .ok (.istore_n 3, 1) := by decide +kernel
theorem dX9_stepped_11 : decode cX9_stepped 11 = .ok (.iload_n 1, 1) := by decide +kernel
theorem dX9_stepped_12 : decode cX9_stepped 12 = .ok (.bipush 6, 2) := by decide +kernel
theorem dX9_stepped_14 : decode cX9_stepped 14 = .ok (.irem, 1) := by decide +kernel
theorem dX9_stepped_15 : decode cX9_stepped 15 = .ok (.iload_n 2, 1) := by decide +kernel
theorem dX9_stepped_16 : decode cX9_stepped 16 = .ok (.iconst 3, 1) := by decide +kernel
theorem dX9_stepped_17 : decode cX9_stepped 17 = .ok (.irem, 1) := by decide +kernel
theorem dX9_stepped_18 : decode cX9_stepped 18 = .ok (.iadd, 1) := by decide +kernel
theorem dX9_stepped_19 : decode cX9_stepped 19 = .ok (.iconst 1, 1) := by decide +kernel
theorem dX9_stepped_20 : decode cX9_stepped 20 = .ok (.isub, 1) := by decide +kernel
theorem dX9_stepped_21 : decode cX9_stepped 21 = .ok (.istore 4, 2) := by decide +kernel
theorem dX9_stepped_23 : decode cX9_stepped 23 = .ok (.iload_n 3, 1) := by decide +kernel
theorem dX9_stepped_24 : decode cX9_stepped 24 = .ok (.i2l, 1) := by decide +kernel
theorem dX9_stepped_25 : decode cX9_stepped 25 = .ok (.lconst 0, 1) := by decide +kernel
theorem dX9_stepped_26 : decode cX9_stepped 26 = .ok (.ldc2_w 110, 3) := by decide +kernel
theorem dX9_stepped_29 : decode cX9_stepped 29 = .ok (.invokestatic 43, 3) := by decide +kernel
theorem dX9_stepped_32 : decode cX9_stepped 32 = .ok (.ifCond .eq 16, 3) := by decide +kernel
theorem dX9_stepped_35 : decode cX9_stepped 35 = .ok (.iload 4, 2) := by decide +kernel
theorem dX9_stepped_37 : decode cX9_stepped 37 = .ok (.i2l, 1) := by decide +kernel
theorem dX9_stepped_38 : decode cX9_stepped 38 = .ok (.lconst 0, 1) := by decide +kernel
theorem dX9_stepped_39 : decode cX9_stepped 39 = .ok (.ldc2_w 110, 3) := by decide +kernel
theorem dX9_stepped_42 : decode cX9_stepped 42 = .ok (.invokestatic 43, 3) := by decide +kernel
theorem dX9_stepped_45 : decode cX9_stepped 45 = .ok (.ifCond .ne 5, 3) := by decide +kernel
theorem dX9_stepped_48 : decode cX9_stepped 48 = .ok (.iload_n 1, 1) := by decide +kernel
theorem dX9_stepped_49 : decode cX9_stepped 49 = .ok (.ireturn, 1) := by decide +kernel
theorem dX9_stepped_50 : decode cX9_stepped 50 = .ok (.bipush 6, 2) := by decide +kernel
theorem dX9_stepped_52 : decode cX9_stepped 52 = .ok (.iload_n 3, 1) := by decide +kernel
theorem dX9_stepped_53 : decode cX9_stepped 53 = .ok (.imul, 1) := by decide +kernel
theorem dX9_stepped_54 : decode cX9_stepped 54 = .ok (.iload 4, 2) := by decide +kernel
theorem dX9_stepped_56 : decode cX9_stepped 56 = .ok (.iadd, 1) := by decide +kernel
theorem dX9_stepped_57 : decode cX9_stepped 57 = .ok (.istore 5, 2) := by decide +kernel
theorem dX9_stepped_59 : decode cX9_stepped 59 = .ok (.aload_n 0, 1) := by decide +kernel
theorem dX9_stepped_60 : decode cX9_stepped 60 = .ok (.getfield 16, 3) := by decide +kernel
theorem dX9_stepped_63 : decode cX9_stepped 63 = .ok (.iload 5, 2) := by decide +kernel
theorem dX9_stepped_65 : decode cX9_stepped 65 = .ok (.iaload, 1) := by decide +kernel
theorem dX9_stepped_66 : decode cX9_stepped 66 = .ok (.iconst 1, 1) := by decide +kernel
theorem dX9_stepped_67 : decode cX9_stepped 67 = .ok (.if_icmp .ne 7, 3) := by decide +kernel
theorem dX9_stepped_70 : decode cX9_stepped 70 = .ok (.iload_n 1, 1) := by decide +kernel
theorem dX9_stepped_71 : decode cX9_stepped 71 = .ok (.goto 5, 3) := by decide +kernel
theorem dX9_stepped_74 : decode cX9_stepped 74 = .ok (.iload 5, 2) := by decide +kernel
theorem dX9_stepped_76 : decode cX9_stepped 76 = .ok (.ireturn, 1) := by decide +kernel
theorem dX9_layFollow_0 : decode cX9_layFollow 0 = .ok (.aload_n 0, 1) := by decide +kernel
theorem dX9_layFollow_1 : decode cX9_layFollow 1 = .ok (.aload_n 0, 1) := by decide +kernel
theorem dX9_layFollow_2 : decode cX9_layFollow 2 = .ok (.getfield 78, 3) := by decide +kernel
theorem dX9_layFollow_5 : decode cX9_layFollow 5 = .ok (.putfield 112, 3) := by decide +kernel
theorem dX9_layFollow_8 : decode cX9_layFollow 8 = .ok (.aload_n 0, 1) := by decide +kernel
theorem dX9_layFollow_9 : decode cX9_layFollow 9 = .ok (.iconst 0, 1) := by decide +kernel
theorem dX9_layFollow_10 : decode cX9_layFollow 10 = .ok (.putfield 115, 3) := by decide +kernel
theorem dX9_layFollow_13 : decode cX9_layFollow 13 = .ok (.iconst 1, 1) := by decide +kernel
theorem dX9_layFollow_14 : decode cX9_layFollow 14 = .ok (.istore_n 2, 1) := by decide +kernel
theorem dX9_layFollow_15 : decode cX9_layFollow 15 = .ok (.iload_n 2, 1) := by decide +kernel
theorem dX9_layFollow_16 : decode cX9_layFollow 16 = .ok (.ifCond .eq 70, 3) := by decide +kernel
theorem dX9_layFollow_19 : decode cX9_layFollow 19 = .ok (.aload_n 0, 1) := by decide +kernel
theorem dX9_layFollow_20 : decode cX9_layFollow 20 = .ok (.getfield 115, 3) := by decide +kernel
theorem dX9_layFollow_23 : decode cX9_layFollow 23 = .ok (.bipush 40, 2) := by decide +kernel
theorem dX9_layFollow_25 : decode cX9_layFollow 25 = .ok (.if_icmp .ge 61, 3) := by decide +kernel
theorem dX9_layFollow_28 : decode cX9_layFollow 28 = .ok (.aload_n 0, 1) := by decide +kernel
theorem dX9_layFollow_29 : decode cX9_layFollow 29 = .ok (.aload_n 0, 1) := by decide +kernel
theorem dX9_layFollow_30 : decode cX9_layFollow 30 = .ok (.getfield 112, 3) := by decide +kernel
theorem dX9_layFollow_33 : decode cX9_layFollow 33 = .ok (.aload_n 0, 1) := by decide +kernel
theorem dX9_layFollow_34 : decode cX9_layFollow 34 = .ok (.iload_n 1, 1) := by decide +kernel
theorem dX9_layFollow_35 : decode cX9_layFollow 35 = .ok (.aload_n 0, 1) := by decide +kernel
theorem dX9_layFollow_36 : decode cX9_layFollow 36 = .ok (.getfield 112, 3) := by decide +kernel
theorem dX9_layFollow_39 : decode cX9_layFollow 39 = .ok (.invokevirtual 118, 3) := by decide +kernel
theorem dX9_layFollow_42 : decode cX9_layFollow 42 = .ok (.invokevirtual 121, 3) := by decide +kernel
theorem dX9_layFollow_45 : decode cX9_layFollow 45 = .ok (.istore_n 3, 1) := by decide +kernel
theorem dX9_layFollow_46 : decode cX9_layFollow 46 = .ok (.iload_n 3, 1) := by decide +kernel
theorem dX9_layFollow_47 : decode cX9_layFollow 47 = .ok (.aload_n 0, 1) := by decide +kernel
theorem dX9_layFollow_48 : decode cX9_layFollow 48 = .ok (.getfield 112, 3) := by decide +kernel
theorem dX9_layFollow_51 : decode cX9_layFollow 51 = .ok (.if_icmp .eq 7, 3) := by decide +kernel
theorem dX9_layFollow_54 : decode cX9_layFollow 54 = .ok (.iconst 1, 1) := by decide +kernel
theorem dX9_layFollow_55 : decode cX9_layFollow 55 = .ok (.goto 4, 3) := by decide +kernel
theorem dX9_layFollow_58 : decode cX9_layFollow 58 = .ok (.iconst 0, 1) := by decide +kernel
theorem dX9_layFollow_59 : decode cX9_layFollow 59 = .ok (.istore_n 2, 1) := by decide +kernel
theorem dX9_layFollow_60 : decode cX9_layFollow 60 = .ok (.aload_n 0, 1) := by decide +kernel
theorem dX9_layFollow_61 : decode cX9_layFollow 61 = .ok (.dup, 1) := by decide +kernel
theorem dX9_layFollow_62 : decode cX9_layFollow 62 = .ok (.getfield 115, 3) := by decide +kernel
theorem dX9_layFollow_65 : decode cX9_layFollow 65 = .ok (.iload_n 2, 1) := by decide +kernel
theorem dX9_layFollow_66 : decode cX9_layFollow 66 = .ok (.ifCond .eq 7, 3) := by decide +kernel
theorem dX9_layFollow_69 : decode cX9_layFollow 69 = .ok (.iconst 1, 1) := by decide +kernel
theorem dX9_layFollow_70 : decode cX9_layFollow 70 = .ok (.goto 4, 3) := by decide +kernel
theorem dX9_layFollow_73 : decode cX9_layFollow 73 = .ok (.iconst 0, 1) := by decide +kernel
theorem dX9_layFollow_74 : decode cX9_layFollow 74 = .ok (.iadd, 1) := by decide +kernel
theorem dX9_layFollow_75 : decode cX9_layFollow 75 = .ok (.putfield 115, 3) := by decide +kernel
theorem dX9_layFollow_78 : decode cX9_layFollow 78 = .ok (.aload_n 0, 1) := by decide +kernel
theorem dX9_layFollow_79 : decode cX9_layFollow 79 = .ok (.iload_n 3, 1) := by decide +kernel
theorem dX9_layFollow_80 : decode cX9_layFollow 80 = .ok (.putfield 112, 3) := by decide +kernel
theorem dX9_layFollow_83 : decode cX9_layFollow 83 = .ok (.goto (-68), 3) := by decide +kernel
theorem dX9_layFollow_86 : decode cX9_layFollow 86 = .ok (.return_, 1) := by decide +kernel
theorem dX9_followOf_0 : decode cX9_followOf 0 = .ok (.aload_n 0, 1) := by decide +kernel
theorem dX9_followOf_1 : decode cX9_followOf 1 = .ok (.iload_n 1, 1) := by decide +kernel
theorem dX9_followOf_2 : decode cX9_followOf 2 = .ok (.invokevirtual 124, 3) := by decide +kernel
theorem dX9_followOf_5 : decode cX9_followOf 5 = .ok (.iload_n 2, 1) := by decide +kernel
theorem dX9_followOf_6 : decode cX9_followOf 6 = .ok (.iconst 3, 1) := by decide +kernel
theorem dX9_followOf_7 : decode cX9_followOf 7 = .ok (.if_icmp .ne 10, 3) := by decide +kernel
theorem dX9_followOf_10 : decode cX9_followOf 10 = .ok (.aload_n 0, 1) := by decide +kernel
theorem dX9_followOf_11 : decode cX9_followOf 11 = .ok (.getfield 115, 3) := by decide +kernel
theorem dX9_followOf_14 : decode cX9_followOf 14 = .ok (.goto 7, 3) := by decide +kernel
theorem dX9_followOf_17 : decode cX9_followOf 17 = .ok (.aload_n 0, 1) := by decide +kernel
theorem dX9_followOf_18 : decode cX9_followOf 18 = .ok (.getfield 112, 3) := by decide +kernel
theorem dX9_followOf_21 : decode cX9_followOf 21 = .ok (.ireturn, 1) := by decide +kernel
theorem dX9_fewOf_0 : decode cX9_fewOf 0 = .ok (.iconst 0, 1) := by decide +kernel
theorem dX9_fewOf_1 : decode cX9_fewOf 1 = .ok (.istore_n 2, 1) := by decide +kernel
theorem dX9_fewOf_2 : decode cX9_fewOf 2 = .ok (.iload_n 2, 1) := by decide +kernel
theorem dX9_fewOf_3 : decode cX9_fewOf 3 = .ok (.bipush 36, 2) := by decide +kernel
theorem dX9_fewOf_5 : decode cX9_fewOf 5 = .ok (.if_icmp .ge 28, 3) := by decide +kernel
theorem dX9_fewOf_8 : decode cX9_fewOf 8 = .ok (.aload_n 0, 1) := by decide +kernel
theorem dX9_fewOf_9 : decode cX9_fewOf 9 = .ok (.getfield 19, 3) := by decide +kernel
theorem dX9_fewOf_12 : decode cX9_fewOf 12 = .ok (.iload_n 2, 1) := by decide +kernel
theorem dX9_fewOf_13 : decode cX9_fewOf 13 = .ok (.iload_n 2, 1) := by decide +kernel
theorem dX9_fewOf_14 : decode cX9_fewOf 14 = .ok (.aload_n 0, 1) := by decide +kernel
theorem dX9_fewOf_15 : decode cX9_fewOf 15 = .ok (.getfield 78, 3) := by decide +kernel
theorem dX9_fewOf_18 : decode cX9_fewOf 18 = .ok (.if_icmp .ne 7, 3) := by decide +kernel
theorem dX9_fewOf_21 : decode cX9_fewOf 21 = .ok (.iconst 0, 1) := by decide +kernel
theorem dX9_fewOf_22 : decode cX9_fewOf 22 = .ok (.goto 4, 3) := by decide +kernel
theorem dX9_fewOf_25 : decode cX9_fewOf 25 = .ok (.iconst (-1), 1) := by decide +kernel
theorem dX9_fewOf_26 : decode cX9_fewOf 26 = .ok (.iastore, 1) := by decide +kernel
theorem dX9_fewOf_27 : decode cX9_fewOf 27 = .ok (.iinc 2 1, 3) := by decide +kernel
theorem dX9_fewOf_30 : decode cX9_fewOf 30 = .ok (.goto (-28), 3) := by decide +kernel
theorem dX9_fewOf_33 : decode cX9_fewOf 33 = .ok (.iconst 0, 1) := by decide +kernel
theorem dX9_fewOf_34 : decode cX9_fewOf 34 = .ok (.istore_n 2, 1) := by decide +kernel
theorem dX9_fewOf_35 : decode cX9_fewOf 35 = .ok (.iload_n 2, 1) := by decide +kernel
theorem dX9_fewOf_36 : decode cX9_fewOf 36 = .ok (.bipush 36, 2) := by decide +kernel
theorem dX9_fewOf_38 : decode cX9_fewOf 38 = .ok (.if_icmp .ge 89, 3) := by decide +kernel
theorem dX9_fewOf_41 : decode cX9_fewOf 41 = .ok (.iconst 0, 1) := by decide +kernel
theorem dX9_fewOf_42 : decode cX9_fewOf 42 = .ok (.istore_n 3, 1) := by decide +kernel
theorem dX9_fewOf_43 : decode cX9_fewOf 43 = .ok (.iload_n 3, 1) := by decide +kernel
theorem dX9_fewOf_44 : decode cX9_fewOf 44 = .ok (.bipush 36, 2) := by decide +kernel
theorem dX9_fewOf_46 : decode cX9_fewOf 46 = .ok (.if_icmp .ge 75, 3) := by decide +kernel
theorem dX9_fewOf_49 : decode cX9_fewOf 49 = .ok (.iconst 0, 1) := by decide +kernel
theorem dX9_fewOf_50 : decode cX9_fewOf 50 = .ok (.istore 4, 2) := by decide +kernel
theorem dX9_fewOf_52 : decode cX9_fewOf 52 = .ok (.iload 4, 2) := by decide +kernel
theorem dX9_fewOf_54 : decode cX9_fewOf 54 = .ok (.bipush 9, 2) := by decide +kernel
theorem dX9_fewOf_56 : decode cX9_fewOf 56 = .ok (.if_icmp .ge 59, 3) := by decide +kernel
theorem dX9_fewOf_59 : decode cX9_fewOf 59 = .ok (.aload_n 0, 1) := by decide +kernel
theorem dX9_fewOf_60 : decode cX9_fewOf 60 = .ok (.getfield 19, 3) := by decide +kernel
theorem dX9_fewOf_63 : decode cX9_fewOf 63 = .ok (.iload_n 3, 1) := by decide +kernel
theorem dX9_fewOf_64 : decode cX9_fewOf 64 = .ok (.iaload, 1) := by decide +kernel
theorem dX9_fewOf_65 : decode cX9_fewOf 65 = .ok (.iload_n 2, 1) := by decide +kernel
theorem dX9_fewOf_66 : decode cX9_fewOf 66 = .ok (.if_icmp .ne 49, 3) := by decide +kernel
theorem dX9_fewOf_69 : decode cX9_fewOf 69 = .ok (.aload_n 0, 1) := by decide +kernel
theorem dX9_fewOf_70 : decode cX9_fewOf 70 = .ok (.iload_n 3, 1) := by decide +kernel
theorem dX9_fewOf_71 : decode cX9_fewOf 71 = .ok (.iload 4, 2) := by decide +kernel
theorem dX9_fewOf_73 : decode cX9_fewOf 73 = .ok (.invokevirtual 121, 3) := by decide +kernel
theorem dX9_fewOf_76 : decode cX9_fewOf 76 = .ok (.istore 5, 2) := by decide +kernel
theorem dX9_fewOf_78 : decode cX9_fewOf 78 = .ok (.aload_n 0, 1) := by decide +kernel
theorem dX9_fewOf_79 : decode cX9_fewOf 79 = .ok (.getfield 19, 3) := by decide +kernel
theorem dX9_fewOf_82 : decode cX9_fewOf 82 = .ok (.iload 5, 2) := by decide +kernel
theorem dX9_fewOf_84 : decode cX9_fewOf 84 = .ok (.aload_n 0, 1) := by decide +kernel
theorem dX9_fewOf_85 : decode cX9_fewOf 85 = .ok (.getfield 19, 3) := by decide +kernel
theorem dX9_fewOf_88 : decode cX9_fewOf 88 = .ok (.iload 5, 2) := by decide +kernel
theorem dX9_fewOf_90 : decode cX9_fewOf 90 = .ok (.iaload, 1) := by decide +kernel
theorem dX9_fewOf_91 : decode cX9_fewOf 91 = .ok (.iconst (-1), 1) := by decide +kernel
theorem dX9_fewOf_92 : decode cX9_fewOf 92 = .ok (.if_icmp .ne 9, 3) := by decide +kernel
theorem dX9_fewOf_95 : decode cX9_fewOf 95 = .ok (.iload_n 2, 1) := by decide +kernel
theorem dX9_fewOf_96 : decode cX9_fewOf 96 = .ok (.iconst 1, 1) := by decide +kernel
theorem dX9_fewOf_97 : decode cX9_fewOf 97 = .ok (.iadd, 1) := by decide +kernel
theorem dX9_fewOf_98 : decode cX9_fewOf 98 = .ok (.goto 10, 3) := by decide +kernel
theorem dX9_fewOf_101 : decode cX9_fewOf 101 = .ok (.aload_n 0, 1) := by decide +kernel
theorem dX9_fewOf_102 : decode cX9_fewOf 102 = .ok (.getfield 19, 3) := by decide +kernel
theorem dX9_fewOf_105 : decode cX9_fewOf 105 = .ok (.iload 5, 2) := by decide +kernel
theorem dX9_fewOf_107 : decode cX9_fewOf 107 = .ok (.iaload, 1) := by decide +kernel
theorem dX9_fewOf_108 : decode cX9_fewOf 108 = .ok (.iastore, 1) := by decide +kernel
theorem dX9_fewOf_109 : decode cX9_fewOf 109 = .ok (.iinc 4 1, 3) := by decide +kernel
theorem dX9_fewOf_112 : decode cX9_fewOf 112 = .ok (.goto (-60), 3) := by decide +kernel
theorem dX9_fewOf_115 : decode cX9_fewOf 115 = .ok (.iinc 3 1, 3) := by decide +kernel
theorem dX9_fewOf_118 : decode cX9_fewOf 118 = .ok (.goto (-75), 3) := by decide +kernel
theorem dX9_fewOf_121 : decode cX9_fewOf 121 = .ok (.iinc 2 1, 3) := by decide +kernel
theorem dX9_fewOf_124 : decode cX9_fewOf 124 = .ok (.goto (-89), 3) := by decide +kernel
theorem dX9_fewOf_127 : decode cX9_fewOf 127 = .ok (.aload_n 0, 1) := by decide +kernel
theorem dX9_fewOf_128 : decode cX9_fewOf 128 = .ok (.getfield 19, 3) := by decide +kernel
theorem dX9_fewOf_131 : decode cX9_fewOf 131 = .ok (.iload_n 1, 1) := by decide +kernel
theorem dX9_fewOf_132 : decode cX9_fewOf 132 = .ok (.iaload, 1) := by decide +kernel
theorem dX9_fewOf_133 : decode cX9_fewOf 133 = .ok (.ireturn, 1) := by decide +kernel
theorem dX9_tell_0 : decode cX9_tell 0 = .ok (.iload_n 2, 1) := by decide +kernel
theorem dX9_tell_1 : decode cX9_tell 1 = .ok (.tableswitch 110 0 8 #[51, 51, 62, 72, 72, 79, 94, 94, 104], 51) := by decide +kernel
theorem dX9_tell_52 : decode cX9_tell 52 = .ok (.aload_n 0, 1) := by decide +kernel
theorem dX9_tell_53 : decode cX9_tell 53 = .ok (.getfield 13, 3) := by decide +kernel
theorem dX9_tell_56 : decode cX9_tell 56 = .ok (.iconst 2, 1) := by decide +kernel
theorem dX9_tell_57 : decode cX9_tell 57 = .ok (.iload_n 1, 1) := by decide +kernel
theorem dX9_tell_58 : decode cX9_tell 58 = .ok (.imul, 1) := by decide +kernel
theorem dX9_tell_59 : decode cX9_tell 59 = .ok (.iload_n 2, 1) := by decide +kernel
theorem dX9_tell_60 : decode cX9_tell 60 = .ok (.iadd, 1) := by decide +kernel
theorem dX9_tell_61 : decode cX9_tell 61 = .ok (.iaload, 1) := by decide +kernel
theorem dX9_tell_62 : decode cX9_tell 62 = .ok (.ireturn, 1) := by decide +kernel
theorem dX9_tell_63 : decode cX9_tell 63 = .ok (.aload_n 0, 1) := by decide +kernel
theorem dX9_tell_64 : decode cX9_tell 64 = .ok (.iload_n 1, 1) := by decide +kernel
theorem dX9_tell_65 : decode cX9_tell 65 = .ok (.aload_n 0, 1) := by decide +kernel
theorem dX9_tell_66 : decode cX9_tell 66 = .ok (.getfield 78, 3) := by decide +kernel
theorem dX9_tell_69 : decode cX9_tell 69 = .ok (.invokevirtual 118, 3) := by decide +kernel
theorem dX9_tell_72 : decode cX9_tell 72 = .ok (.ireturn, 1) := by decide +kernel
theorem dX9_tell_73 : decode cX9_tell 73 = .ok (.aload_n 0, 1) := by decide +kernel
theorem dX9_tell_74 : decode cX9_tell 74 = .ok (.iload_n 1, 1) := by decide +kernel
theorem dX9_tell_75 : decode cX9_tell 75 = .ok (.iload_n 2, 1) := by decide +kernel
theorem dX9_tell_76 : decode cX9_tell 76 = .ok (.invokevirtual 128, 3) := by decide +kernel
theorem dX9_tell_79 : decode cX9_tell 79 = .ok (.ireturn, 1) := by decide +kernel
theorem dX9_tell_80 : decode cX9_tell 80 = .ok (.aload_n 0, 1) := by decide +kernel
theorem dX9_tell_81 : decode cX9_tell 81 = .ok (.aload_n 0, 1) := by decide +kernel
theorem dX9_tell_82 : decode cX9_tell 82 = .ok (.getfield 13, 3) := by decide +kernel
theorem dX9_tell_85 : decode cX9_tell 85 = .ok (.iconst 2, 1) := by decide +kernel
theorem dX9_tell_86 : decode cX9_tell 86 = .ok (.iload_n 1, 1) := by decide +kernel
theorem dX9_tell_87 : decode cX9_tell 87 = .ok (.imul, 1) := by decide +kernel
theorem dX9_tell_88 : decode cX9_tell 88 = .ok (.iconst 1, 1) := by decide +kernel
theorem dX9_tell_89 : decode cX9_tell 89 = .ok (.iadd, 1) := by decide +kernel
theorem dX9_tell_90 : decode cX9_tell 90 = .ok (.iaload, 1) := by decide +kernel
theorem dX9_tell_91 : decode cX9_tell 91 = .ok (.invokevirtual 131, 3) := by decide +kernel
theorem dX9_tell_94 : decode cX9_tell 94 = .ok (.ireturn, 1) := by decide +kernel
theorem dX9_tell_95 : decode cX9_tell 95 = .ok (.aload_n 0, 1) := by decide +kernel
theorem dX9_tell_96 : decode cX9_tell 96 = .ok (.iload_n 1, 1) := by decide +kernel
theorem dX9_tell_97 : decode cX9_tell 97 = .ok (.iload_n 2, 1) := by decide +kernel
theorem dX9_tell_98 : decode cX9_tell 98 = .ok (.bipush 6, 2) := by decide +kernel
theorem dX9_tell_100 : decode cX9_tell 100 = .ok (.isub, 1) := by decide +kernel
theorem dX9_tell_101 : decode cX9_tell 101 = .ok (.invokevirtual 134, 3) := by decide +kernel
theorem dX9_tell_104 : decode cX9_tell 104 = .ok (.ireturn, 1) := by decide +kernel
theorem dX9_tell_105 : decode cX9_tell 105 = .ok (.aload_n 0, 1) := by decide +kernel
theorem dX9_tell_106 : decode cX9_tell 106 = .ok (.iload_n 1, 1) := by decide +kernel
theorem dX9_tell_107 : decode cX9_tell 107 = .ok (.invokevirtual 137, 3) := by decide +kernel
theorem dX9_tell_110 : decode cX9_tell 110 = .ok (.ireturn, 1) := by decide +kernel
theorem dX9_tell_111 : decode cX9_tell 111 = .ok (.bipush (-102), 2) := by decide +kernel
theorem dX9_tell_113 : decode cX9_tell 113 = .ok (.ireturn, 1) := by decide +kernel
theorem dX9_needle_0 : decode cX9_needle 0 = .ok (.aload_n 0, 1) := by decide +kernel
theorem dX9_needle_1 : decode cX9_needle 1 = .ok (.iload_n 1, 1) := by decide +kernel
theorem dX9_needle_2 : decode cX9_needle 2 = .ok (.invokevirtual 140, 3) := by decide +kernel
theorem dX9_needle_5 : decode cX9_needle 5 = .ok (.ifCond .eq 12, 3) := by decide +kernel
theorem dX9_needle_8 : decode cX9_needle 8 = .ok (.aload_n 0, 1) := by decide +kernel
theorem dX9_needle_9 : decode cX9_needle 9 = .ok (.iload_n 1, 1) := by decide +kernel
theorem dX9_needle_10 : decode cX9_needle 10 = .ok (.iload_n 2, 1) := by decide +kernel
theorem dX9_needle_11 : decode cX9_needle 11 = .ok (.invokevirtual 143, 3) := by decide +kernel
theorem dX9_needle_14 : decode cX9_needle 14 = .ok (.goto 5, 3) := by decide +kernel
theorem dX9_needle_17 : decode cX9_needle 17 = .ok (.bipush (-101), 2) := by decide +kernel
theorem dX9_needle_19 : decode cX9_needle 19 = .ok (.ireturn, 1) := by decide +kernel
theorem dX9_as_0 : decode cX9_as 0 = .ok (.aload_n 0, 1) := by decide +kernel
theorem dX9_as_1 : decode cX9_as 1 = .ok (.iload_n 1, 1) := by decide +kernel
theorem dX9_as_2 : decode cX9_as 2 = .ok (.invokevirtual 140, 3) := by decide +kernel
theorem dX9_as_5 : decode cX9_as 5 = .ok (.ifCond .ne 6, 3) := by decide +kernel
theorem dX9_as_8 : decode cX9_as 8 = .ok (.bipush (-101), 2) := by decide +kernel
theorem dX9_as_10 : decode cX9_as 10 = .ok (.ireturn, 1) := by decide +kernel
theorem dX9_as_11 : decode cX9_as 11 = .ok (.iload_n 2, 1) := by decide +kernel
theorem dX9_as_12 : decode cX9_as 12 = .ok (.i2l, 1) := by decide +kernel
theorem dX9_as_13 : decode cX9_as 13 = .ok (.lconst 0, 1) := by decide +kernel
theorem dX9_as_14 : decode cX9_as 14 = .ok (.ldc2_w 146, 3) := by decide +kernel
theorem dX9_as_17 : decode cX9_as 17 = .ok (.invokestatic 43, 3) := by decide +kernel
theorem dX9_as_20 : decode cX9_as 20 = .ok (.ifCond .ne 6, 3) := by decide +kernel
theorem dX9_as_23 : decode cX9_as 23 = .ok (.bipush (-102), 2) := by decide +kernel
theorem dX9_as_25 : decode cX9_as 25 = .ok (.ireturn, 1) := by decide +kernel
theorem dX9_as_26 : decode cX9_as 26 = .ok (.aload_n 0, 1) := by decide +kernel
theorem dX9_as_27 : decode cX9_as 27 = .ok (.getfield 13, 3) := by decide +kernel
theorem dX9_as_30 : decode cX9_as 30 = .ok (.iconst 2, 1) := by decide +kernel
theorem dX9_as_31 : decode cX9_as 31 = .ok (.iload_n 1, 1) := by decide +kernel
theorem dX9_as_32 : decode cX9_as 32 = .ok (.imul, 1) := by decide +kernel
theorem dX9_as_33 : decode cX9_as 33 = .ok (.iaload, 1) := by decide +kernel
theorem dX9_as_34 : decode cX9_as 34 = .ok (.istore_n 3, 1) := by decide +kernel
theorem dX9_as_35 : decode cX9_as 35 = .ok (.iload_n 2, 1) := by decide +kernel
theorem dX9_as_36 : decode cX9_as 36 = .ok (.ifCond .eq 18, 3) := by decide +kernel
theorem dX9_as_39 : decode cX9_as 39 = .ok (.iload_n 2, 1) := by decide +kernel
theorem dX9_as_40 : decode cX9_as 40 = .ok (.iload_n 3, 1) := by decide +kernel
theorem dX9_as_41 : decode cX9_as 41 = .ok (.if_icmp .eq 13, 3) := by decide +kernel
theorem dX9_as_44 : decode cX9_as 44 = .ok (.iload_n 2, 1) := by decide +kernel
theorem dX9_as_45 : decode cX9_as 45 = .ok (.iconst 2, 1) := by decide +kernel
theorem dX9_as_46 : decode cX9_as 46 = .ok (.if_icmp .ne 12, 3) := by decide +kernel
theorem dX9_as_49 : decode cX9_as 49 = .ok (.iload_n 3, 1) := by decide +kernel
theorem dX9_as_50 : decode cX9_as 50 = .ok (.iconst 4, 1) := by decide +kernel
theorem dX9_as_51 : decode cX9_as 51 = .ok (.if_icmp .ne 7, 3) := by decide +kernel
theorem dX9_as_54 : decode cX9_as 54 = .ok (.iconst 1, 1) := by decide +kernel
theorem dX9_as_55 : decode cX9_as 55 = .ok (.goto 4, 3) := by decide +kernel
theorem dX9_as_58 : decode cX9_as 58 = .ok (.iconst 0, 1) := by decide +kernel
theorem dX9_as_59 : decode cX9_as 59 = .ok (.istore 4, 2) := by decide +kernel
theorem dX9_as_61 : decode cX9_as 61 = .ok (.iload 4, 2) := by decide +kernel
theorem dX9_as_63 : decode cX9_as 63 = .ok (.ifCond .eq 7, 3) := by decide +kernel
theorem dX9_as_66 : decode cX9_as 66 = .ok (.iload_n 1, 1) := by decide +kernel
theorem dX9_as_67 : decode cX9_as 67 = .ok (.goto 4, 3) := by decide +kernel
theorem dX9_as_70 : decode cX9_as 70 = .ok (.iconst (-1), 1) := by decide +kernel
theorem dX9_as_71 : decode cX9_as 71 = .ok (.ireturn, 1) := by decide +kernel
theorem dX9_points_0 : decode cX9_points 0 = .ok (.aload_n 0, 1) := by decide +kernel
theorem dX9_points_1 : decode cX9_points 1 = .ok (.iload_n 1, 1) := by decide +kernel
theorem dX9_points_2 : decode cX9_points 2 = .ok (.invokevirtual 140, 3) := by decide +kernel
theorem dX9_points_5 : decode cX9_points 5 = .ok (.ifCond .eq 20, 3) := by decide +kernel
theorem dX9_points_8 : decode cX9_points 8 = .ok (.aload_n 0, 1) := by decide +kernel
theorem dX9_points_9 : decode cX9_points 9 = .ok (.iload_n 2, 1) := by decide +kernel
theorem dX9_points_10 : decode cX9_points 10 = .ok (.invokevirtual 148, 3) := by decide +kernel
theorem dX9_points_13 : decode cX9_points 13 = .ok (.ifCond .eq 12, 3) := by decide +kernel
theorem dX9_points_16 : decode cX9_points 16 = .ok (.aload_n 0, 1) := by decide +kernel
theorem dX9_points_17 : decode cX9_points 17 = .ok (.iload_n 1, 1) := by decide +kernel
theorem dX9_points_18 : decode cX9_points 18 = .ok (.iload_n 2, 1) := by decide +kernel
theorem dX9_points_19 : decode cX9_points 19 = .ok (.invokevirtual 118, 3) := by decide +kernel
theorem dX9_points_22 : decode cX9_points 22 = .ok (.goto 5, 3) := by decide +kernel
theorem dX9_points_25 : decode cX9_points 25 = .ok (.bipush (-101), 2) := by decide +kernel
theorem dX9_points_27 : decode cX9_points 27 = .ok (.ireturn, 1) := by decide +kernel
theorem dX9_swing_0 : decode cX9_swing 0 = .ok (.aload_n 0, 1) := by decide +kernel
theorem dX9_swing_1 : decode cX9_swing 1 = .ok (.iload_n 1, 1) := by decide +kernel
theorem dX9_swing_2 : decode cX9_swing 2 = .ok (.invokevirtual 140, 3) := by decide +kernel
theorem dX9_swing_5 : decode cX9_swing 5 = .ok (.ifCond .eq 11, 3) := by decide +kernel
theorem dX9_swing_8 : decode cX9_swing 8 = .ok (.aload_n 0, 1) := by decide +kernel
theorem dX9_swing_9 : decode cX9_swing 9 = .ok (.iload_n 2, 1) := by decide +kernel
theorem dX9_swing_10 : decode cX9_swing 10 = .ok (.invokevirtual 148, 3) := by decide +kernel
theorem dX9_swing_13 : decode cX9_swing 13 = .ok (.ifCond .ne 6, 3) := by decide +kernel
theorem dX9_swing_16 : decode cX9_swing 16 = .ok (.bipush (-101), 2) := by decide +kernel
theorem dX9_swing_18 : decode cX9_swing 18 = .ok (.ireturn, 1) := by decide +kernel
theorem dX9_swing_19 : decode cX9_swing 19 = .ok (.aload_n 0, 1) := by decide +kernel
theorem dX9_swing_20 : decode cX9_swing 20 = .ok (.getfield 13, 3) := by decide +kernel
theorem dX9_swing_23 : decode cX9_swing 23 = .ok (.iconst 2, 1) := by decide +kernel
theorem dX9_swing_24 : decode cX9_swing 24 = .ok (.iload_n 1, 1) := by decide +kernel
theorem dX9_swing_25 : decode cX9_swing 25 = .ok (.imul, 1) := by decide +kernel
theorem dX9_swing_26 : decode cX9_swing 26 = .ok (.iconst 1, 1) := by decide +kernel
theorem dX9_swing_27 : decode cX9_swing 27 = .ok (.iadd, 1) := by decide +kernel
theorem dX9_swing_28 : decode cX9_swing 28 = .ok (.iaload, 1) := by decide +kernel
theorem dX9_swing_29 : decode cX9_swing 29 = .ok (.istore_n 3, 1) := by decide +kernel
theorem dX9_swing_30 : decode cX9_swing 30 = .ok (.aload_n 0, 1) := by decide +kernel
theorem dX9_swing_31 : decode cX9_swing 31 = .ok (.getfield 13, 3) := by decide +kernel
theorem dX9_swing_34 : decode cX9_swing 34 = .ok (.iconst 2, 1) := by decide +kernel
theorem dX9_swing_35 : decode cX9_swing 35 = .ok (.iload_n 1, 1) := by decide +kernel
theorem dX9_swing_36 : decode cX9_swing 36 = .ok (.imul, 1) := by decide +kernel
theorem dX9_swing_37 : decode cX9_swing 37 = .ok (.iconst 1, 1) := by decide +kernel
theorem dX9_swing_38 : decode cX9_swing 38 = .ok (.iadd, 1) := by decide +kernel
theorem dX9_swing_39 : decode cX9_swing 39 = .ok (.iload_n 2, 1) := by decide +kernel
theorem dX9_swing_40 : decode cX9_swing 40 = .ok (.iastore, 1) := by decide +kernel
theorem dX9_swing_41 : decode cX9_swing 41 = .ok (.iload_n 3, 1) := by decide +kernel
theorem dX9_swing_42 : decode cX9_swing 42 = .ok (.ireturn, 1) := by decide +kernel
theorem dX9_island_0 : decode cX9_island 0 = .ok (.aload_n 0, 1) := by decide +kernel
theorem dX9_island_1 : decode cX9_island 1 = .ok (.iload_n 1, 1) := by decide +kernel
theorem dX9_island_2 : decode cX9_island 2 = .ok (.invokevirtual 148, 3) := by decide +kernel
theorem dX9_island_5 : decode cX9_island 5 = .ok (.ifCond .eq 12, 3) := by decide +kernel
theorem dX9_island_8 : decode cX9_island 8 = .ok (.aload_n 0, 1) := by decide +kernel
theorem dX9_island_9 : decode cX9_island 9 = .ok (.getfield 16, 3) := by decide +kernel
theorem dX9_island_12 : decode cX9_island 12 = .ok (.iload_n 1, 1) := by decide +kernel
theorem dX9_island_13 : decode cX9_island 13 = .ok (.iaload, 1) := by decide +kernel
theorem dX9_island_14 : decode cX9_island 14 = .ok (.goto 5, 3) := by decide +kernel
theorem dX9_island_17 : decode cX9_island 17 = .ok (.bipush (-101), 2) := by decide +kernel
theorem dX9_island_19 : decode cX9_island 19 = .ok (.ireturn, 1) := by decide +kernel
theorem dX9_raise_0 : decode cX9_raise 0 = .ok (.aload_n 0, 1) := by decide +kernel
theorem dX9_raise_1 : decode cX9_raise 1 = .ok (.iload_n 1, 1) := by decide +kernel
theorem dX9_raise_2 : decode cX9_raise 2 = .ok (.invokevirtual 148, 3) := by decide +kernel
theorem dX9_raise_5 : decode cX9_raise 5 = .ok (.ifCond .ne 6, 3) := by decide +kernel
theorem dX9_raise_8 : decode cX9_raise 8 = .ok (.bipush (-101), 2) := by decide +kernel
theorem dX9_raise_10 : decode cX9_raise 10 = .ok (.ireturn, 1) := by decide +kernel
theorem dX9_raise_11 : decode cX9_raise 11 = .ok (.aload_n 0, 1) := by decide +kernel
theorem dX9_raise_12 : decode cX9_raise 12 = .ok (.getfield 16, 3) := by decide +kernel
theorem dX9_raise_15 : decode cX9_raise 15 = .ok (.iload_n 1, 1) := by decide +kernel
theorem dX9_raise_16 : decode cX9_raise 16 = .ok (.iaload, 1) := by decide +kernel
theorem dX9_raise_17 : decode cX9_raise 17 = .ok (.istore_n 3, 1) := by decide +kernel
theorem dX9_raise_18 : decode cX9_raise 18 = .ok (.aload_n 0, 1) := by decide +kernel
theorem dX9_raise_19 : decode cX9_raise 19 = .ok (.getfield 16, 3) := by decide +kernel
theorem dX9_raise_22 : decode cX9_raise 22 = .ok (.iload_n 1, 1) := by decide +kernel
theorem dX9_raise_23 : decode cX9_raise 23 = .ok (.iload_n 2, 1) := by decide +kernel
theorem dX9_raise_24 : decode cX9_raise 24 = .ok (.ifCond .eq 7, 3) := by decide +kernel
theorem dX9_raise_27 : decode cX9_raise 27 = .ok (.iconst 1, 1) := by decide +kernel
theorem dX9_raise_28 : decode cX9_raise 28 = .ok (.goto 4, 3) := by decide +kernel
theorem dX9_raise_31 : decode cX9_raise 31 = .ok (.iconst 0, 1) := by decide +kernel
theorem dX9_raise_32 : decode cX9_raise 32 = .ok (.iastore, 1) := by decide +kernel
theorem dX9_raise_33 : decode cX9_raise 33 = .ok (.iload_n 3, 1) := by decide +kernel
theorem dX9_raise_34 : decode cX9_raise 34 = .ok (.ireturn, 1) := by decide +kernel
theorem dX9_go_0 : decode cX9_go 0 = .ok (.aload_n 0, 1) := by decide +kernel
theorem dX9_go_1 : decode cX9_go 1 = .ok (.aload_n 0, 1) := by decide +kernel
theorem dX9_go_2 : decode cX9_go 2 = .ok (.getfield 78, 3) := by decide +kernel
theorem dX9_go_5 : decode cX9_go 5 = .ok (.iload_n 1, 1) := by decide +kernel
theorem dX9_go_6 : decode cX9_go 6 = .ok (.invokevirtual 121, 3) := by decide +kernel
theorem dX9_go_9 : decode cX9_go 9 = .ok (.istore_n 2, 1) := by decide +kernel
theorem dX9_go_10 : decode cX9_go 10 = .ok (.aload_n 0, 1) := by decide +kernel
theorem dX9_go_11 : decode cX9_go 11 = .ok (.dup, 1) := by decide +kernel
theorem dX9_go_12 : decode cX9_go 12 = .ok (.getfield 81, 3) := by decide +kernel
theorem dX9_go_15 : decode cX9_go 15 = .ok (.iconst 1, 1) := by decide +kernel
theorem dX9_go_16 : decode cX9_go 16 = .ok (.iadd, 1) := by decide +kernel
theorem dX9_go_17 : decode cX9_go 17 = .ok (.putfield 81, 3) := by decide +kernel
theorem dX9_go_20 : decode cX9_go 20 = .ok (.aload_n 0, 1) := by decide +kernel
theorem dX9_go_21 : decode cX9_go 21 = .ok (.dup, 1) := by decide +kernel
theorem dX9_go_22 : decode cX9_go 22 = .ok (.getfield 84, 3) := by decide +kernel
theorem dX9_go_25 : decode cX9_go 25 = .ok (.iload_n 2, 1) := by decide +kernel
theorem dX9_go_26 : decode cX9_go 26 = .ok (.aload_n 0, 1) := by decide +kernel
theorem dX9_go_27 : decode cX9_go 27 = .ok (.getfield 78, 3) := by decide +kernel
theorem dX9_go_30 : decode cX9_go 30 = .ok (.if_icmp .ne 7, 3) := by decide +kernel
theorem dX9_go_33 : decode cX9_go 33 = .ok (.iconst 0, 1) := by decide +kernel
theorem dX9_go_34 : decode cX9_go 34 = .ok (.goto 4, 3) := by decide +kernel
theorem dX9_go_37 : decode cX9_go 37 = .ok (.iconst 1, 1) := by decide +kernel
theorem dX9_go_38 : decode cX9_go 38 = .ok (.iadd, 1) := by decide +kernel
theorem dX9_go_39 : decode cX9_go 39 = .ok (.putfield 84, 3) := by decide +kernel
theorem dX9_go_42 : decode cX9_go 42 = .ok (.aload_n 0, 1) := by decide +kernel
theorem dX9_go_43 : decode cX9_go 43 = .ok (.iload_n 2, 1) := by decide +kernel
theorem dX9_go_44 : decode cX9_go 44 = .ok (.putfield 78, 3) := by decide +kernel
theorem dX9_go_47 : decode cX9_go 47 = .ok (.aload_n 0, 1) := by decide +kernel
theorem dX9_go_48 : decode cX9_go 48 = .ok (.getfield 78, 3) := by decide +kernel
theorem dX9_go_51 : decode cX9_go 51 = .ok (.ireturn, 1) := by decide +kernel
theorem dX9_step_0 : decode cX9_step 0 = .ok (.iload_n 1, 1) := by decide +kernel
theorem dX9_step_1 : decode cX9_step 1 = .ok (.i2l, 1) := by decide +kernel
theorem dX9_step_2 : decode cX9_step 2 = .ok (.lconst 0, 1) := by decide +kernel
theorem dX9_step_3 : decode cX9_step 3 = .ok (.ldc2_w 151, 3) := by decide +kernel
theorem dX9_step_6 : decode cX9_step 6 = .ok (.invokestatic 43, 3) := by decide +kernel
theorem dX9_step_9 : decode cX9_step 9 = .ok (.ifCond .ne 6, 3) := by decide +kernel
theorem dX9_step_12 : decode cX9_step 12 = .ok (.bipush (-102), 2) := by decide +kernel
theorem dX9_step_14 : decode cX9_step 14 = .ok (.ireturn, 1) := by decide +kernel
theorem dX9_step_15 : decode cX9_step 15 = .ok (.aload_n 0, 1) := by decide +kernel
theorem dX9_step_16 : decode cX9_step 16 = .ok (.invokevirtual 93, 3) := by decide +kernel
theorem dX9_step_19 : decode cX9_step 19 = .ok (.ifCond .eq 8, 3) := by decide +kernel
theorem dX9_step_22 : decode cX9_step 22 = .ok (.bipush (-103), 2) := by decide +kernel
theorem dX9_step_24 : decode cX9_step 24 = .ok (.goto 8, 3) := by decide +kernel
theorem dX9_step_27 : decode cX9_step 27 = .ok (.aload_n 0, 1) := by decide +kernel
theorem dX9_step_28 : decode cX9_step 28 = .ok (.iload_n 1, 1) := by decide +kernel
theorem dX9_step_29 : decode cX9_step 29 = .ok (.invokevirtual 153, 3) := by decide +kernel
theorem dX9_step_32 : decode cX9_step 32 = .ok (.ireturn, 1) := by decide +kernel
theorem dX9_follow_0 : decode cX9_follow 0 = .ok (.aload_n 0, 1) := by decide +kernel
theorem dX9_follow_1 : decode cX9_follow 1 = .ok (.iload_n 1, 1) := by decide +kernel
theorem dX9_follow_2 : decode cX9_follow 2 = .ok (.invokevirtual 140, 3) := by decide +kernel
theorem dX9_follow_5 : decode cX9_follow 5 = .ok (.ifCond .eq 19, 3) := by decide +kernel
theorem dX9_follow_8 : decode cX9_follow 8 = .ok (.aload_n 0, 1) := by decide +kernel
theorem dX9_follow_9 : decode cX9_follow 9 = .ok (.aload_n 0, 1) := by decide +kernel
theorem dX9_follow_10 : decode cX9_follow 10 = .ok (.iload_n 1, 1) := by decide +kernel
theorem dX9_follow_11 : decode cX9_follow 11 = .ok (.aload_n 0, 1) := by decide +kernel
theorem dX9_follow_12 : decode cX9_follow 12 = .ok (.getfield 78, 3) := by decide +kernel
theorem dX9_follow_15 : decode cX9_follow 15 = .ok (.invokevirtual 118, 3) := by decide +kernel
theorem dX9_follow_18 : decode cX9_follow 18 = .ok (.invokevirtual 153, 3) := by decide +kernel
theorem dX9_follow_21 : decode cX9_follow 21 = .ok (.goto 5, 3) := by decide +kernel
theorem dX9_follow_24 : decode cX9_follow 24 = .ok (.bipush (-101), 2) := by decide +kernel
theorem dX9_follow_26 : decode cX9_follow 26 = .ok (.ireturn, 1) := by decide +kernel
theorem dX9_homingOf_0 : decode cX9_homingOf 0 = .ok (.iconst 0, 1) := by decide +kernel
theorem dX9_homingOf_1 : decode cX9_homingOf 1 = .ok (.istore_n 1, 1) := by decide +kernel
theorem dX9_homingOf_2 : decode cX9_homingOf 2 = .ok (.iconst 0, 1) := by decide +kernel
theorem dX9_homingOf_3 : decode cX9_homingOf 3 = .ok (.istore_n 2, 1) := by decide +kernel
theorem dX9_homingOf_4 : decode cX9_homingOf 4 = .ok (.iload_n 2, 1) := by decide +kernel
theorem dX9_homingOf_5 : decode cX9_homingOf 5 = .ok (.aload_n 0, 1) := by decide +kernel
theorem dX9_homingOf_6 : decode cX9_homingOf 6 = .ok (.getfield 72, 3) := by decide +kernel
theorem dX9_homingOf_9 : decode cX9_homingOf 9 = .ok (.if_icmp .ge 41, 3) := by decide +kernel
theorem dX9_homingOf_12 : decode cX9_homingOf 12 = .ok (.aload_n 0, 1) := by decide +kernel
theorem dX9_homingOf_13 : decode cX9_homingOf 13 = .ok (.iload_n 2, 1) := by decide +kernel
theorem dX9_homingOf_14 : decode cX9_homingOf 14 = .ok (.invokevirtual 124, 3) := by decide +kernel
theorem dX9_homingOf_17 : decode cX9_homingOf 17 = .ok (.iload_n 1, 1) := by decide +kernel
theorem dX9_homingOf_18 : decode cX9_homingOf 18 = .ok (.aload_n 0, 1) := by decide +kernel
theorem dX9_homingOf_19 : decode cX9_homingOf 19 = .ok (.getfield 112, 3) := by decide +kernel
theorem dX9_homingOf_22 : decode cX9_homingOf 22 = .ok (.aload_n 0, 1) := by decide +kernel
theorem dX9_homingOf_23 : decode cX9_homingOf 23 = .ok (.getfield 13, 3) := by decide +kernel
theorem dX9_homingOf_26 : decode cX9_homingOf 26 = .ok (.iconst 2, 1) := by decide +kernel
theorem dX9_homingOf_27 : decode cX9_homingOf 27 = .ok (.iload_n 2, 1) := by decide +kernel
theorem dX9_homingOf_28 : decode cX9_homingOf 28 = .ok (.imul, 1) := by decide +kernel
theorem dX9_homingOf_29 : decode cX9_homingOf 29 = .ok (.iconst 1, 1) := by decide +kernel
theorem dX9_homingOf_30 : decode cX9_homingOf 30 = .ok (.iadd, 1) := by decide +kernel
theorem dX9_homingOf_31 : decode cX9_homingOf 31 = .ok (.iaload, 1) := by decide +kernel
theorem dX9_homingOf_32 : decode cX9_homingOf 32 = .ok (.if_icmp .ne 9, 3) := by decide +kernel
theorem dX9_homingOf_35 : decode cX9_homingOf 35 = .ok (.iconst 1, 1) := by decide +kernel
theorem dX9_homingOf_36 : decode cX9_homingOf 36 = .ok (.iload_n 2, 1) := by decide +kernel
theorem dX9_homingOf_37 : decode cX9_homingOf 37 = .ok (.ishl, 1) := by decide +kernel
theorem dX9_homingOf_38 : decode cX9_homingOf 38 = .ok (.goto 4, 3) := by decide +kernel
theorem dX9_homingOf_41 : decode cX9_homingOf 41 = .ok (.iconst 0, 1) := by decide +kernel
theorem dX9_homingOf_42 : decode cX9_homingOf 42 = .ok (.ior, 1) := by decide +kernel
theorem dX9_homingOf_43 : decode cX9_homingOf 43 = .ok (.istore_n 1, 1) := by decide +kernel
theorem dX9_homingOf_44 : decode cX9_homingOf 44 = .ok (.iinc 2 1, 3) := by decide +kernel
theorem dX9_homingOf_47 : decode cX9_homingOf 47 = .ok (.goto (-43), 3) := by decide +kernel
theorem dX9_homingOf_50 : decode cX9_homingOf 50 = .ok (.iload_n 1, 1) := by decide +kernel
theorem dX9_homingOf_51 : decode cX9_homingOf 51 = .ok (.ireturn, 1) := by decide +kernel
theorem dX9_homing_0 : decode cX9_homing 0 = .ok (.aload_n 0, 1) := by decide +kernel
theorem dX9_homing_1 : decode cX9_homing 1 = .ok (.invokevirtual 93, 3) := by decide +kernel
theorem dX9_homing_4 : decode cX9_homing 4 = .ok (.ifCond .eq 8, 3) := by decide +kernel
theorem dX9_homing_7 : decode cX9_homing 7 = .ok (.bipush (-103), 2) := by decide +kernel
theorem dX9_homing_9 : decode cX9_homing 9 = .ok (.goto 7, 3) := by decide +kernel
theorem dX9_homing_12 : decode cX9_homing 12 = .ok (.aload_n 0, 1) := by decide +kernel
theorem dX9_homing_13 : decode cX9_homing 13 = .ok (.invokevirtual 156, 3) := by decide +kernel
theorem dX9_homing_16 : decode cX9_homing 16 = .ok (.ireturn, 1) := by decide +kernel
theorem dX9_see_0 : decode cX9_see 0 = .ok (.aload_n 0, 1) := by decide +kernel
theorem dX9_see_1 : decode cX9_see 1 = .ok (.iload_n 1, 1) := by decide +kernel
theorem dX9_see_2 : decode cX9_see 2 = .ok (.invokevirtual 140, 3) := by decide +kernel
theorem dX9_see_5 : decode cX9_see 5 = .ok (.ifCond .eq 11, 3) := by decide +kernel
theorem dX9_see_8 : decode cX9_see 8 = .ok (.aload_n 0, 1) := by decide +kernel
theorem dX9_see_9 : decode cX9_see 9 = .ok (.iload_n 2, 1) := by decide +kernel
theorem dX9_see_10 : decode cX9_see 10 = .ok (.invokevirtual 148, 3) := by decide +kernel
theorem dX9_see_13 : decode cX9_see 13 = .ok (.ifCond .ne 6, 3) := by decide +kernel
theorem dX9_see_16 : decode cX9_see 16 = .ok (.bipush (-101), 2) := by decide +kernel
theorem dX9_see_18 : decode cX9_see 18 = .ok (.ireturn, 1) := by decide +kernel
theorem dX9_see_19 : decode cX9_see 19 = .ok (.iload_n 3, 1) := by decide +kernel
theorem dX9_see_20 : decode cX9_see 20 = .ok (.i2l, 1) := by decide +kernel
theorem dX9_see_21 : decode cX9_see 21 = .ok (.lconst 0, 1) := by decide +kernel
theorem dX9_see_22 : decode cX9_see 22 = .ok (.ldc2_w 151, 3) := by decide +kernel
theorem dX9_see_25 : decode cX9_see 25 = .ok (.invokestatic 43, 3) := by decide +kernel
theorem dX9_see_28 : decode cX9_see 28 = .ok (.ifCond .ne 6, 3) := by decide +kernel
theorem dX9_see_31 : decode cX9_see 31 = .ok (.bipush (-102), 2) := by decide +kernel
theorem dX9_see_33 : decode cX9_see 33 = .ok (.ireturn, 1) := by decide +kernel
theorem dX9_see_34 : decode cX9_see 34 = .ok (.aload_n 0, 1) := by decide +kernel
theorem dX9_see_35 : decode cX9_see 35 = .ok (.getfield 87, 3) := by decide +kernel
theorem dX9_see_38 : decode cX9_see 38 = .ok (.bipush 6, 2) := by decide +kernel
theorem dX9_see_40 : decode cX9_see 40 = .ok (.if_icmp .ne 6, 3) := by decide +kernel
theorem dX9_see_43 : decode cX9_see 43 = .ok (.bipush (-104), 2) := by decide +kernel
theorem dX9_see_45 : decode cX9_see 45 = .ok (.ireturn, 1) := by decide +kernel
theorem dX9_see_46 : decode cX9_see 46 = .ok (.aload_n 0, 1) := by decide +kernel
theorem dX9_see_47 : decode cX9_see 47 = .ok (.getfield 22, 3) := by decide +kernel
theorem dX9_see_50 : decode cX9_see 50 = .ok (.iconst 3, 1) := by decide +kernel
theorem dX9_see_51 : decode cX9_see 51 = .ok (.aload_n 0, 1) := by decide +kernel
theorem dX9_see_52 : decode cX9_see 52 = .ok (.getfield 87, 3) := by decide +kernel
theorem dX9_see_55 : decode cX9_see 55 = .ok (.imul, 1) := by decide +kernel
theorem dX9_see_56 : decode cX9_see 56 = .ok (.iload_n 1, 1) := by decide +kernel
theorem dX9_see_57 : decode cX9_see 57 = .ok (.iastore, 1) := by decide +kernel
theorem dX9_see_58 : decode cX9_see 58 = .ok (.aload_n 0, 1) := by decide +kernel
theorem dX9_see_59 : decode cX9_see 59 = .ok (.getfield 22, 3) := by decide +kernel
theorem dX9_see_62 : decode cX9_see 62 = .ok (.iconst 3, 1) := by decide +kernel
theorem dX9_see_63 : decode cX9_see 63 = .ok (.aload_n 0, 1) := by decide +kernel
theorem dX9_see_64 : decode cX9_see 64 = .ok (.getfield 87, 3) := by decide +kernel
theorem dX9_see_67 : decode cX9_see 67 = .ok (.imul, 1) := by decide +kernel
theorem dX9_see_68 : decode cX9_see 68 = .ok (.iconst 1, 1) := by decide +kernel
theorem dX9_see_69 : decode cX9_see 69 = .ok (.iadd, 1) := by decide +kernel
theorem dX9_see_70 : decode cX9_see 70 = .ok (.iload_n 2, 1) := by decide +kernel
theorem dX9_see_71 : decode cX9_see 71 = .ok (.iastore, 1) := by decide +kernel
theorem dX9_see_72 : decode cX9_see 72 = .ok (.aload_n 0, 1) := by decide +kernel
theorem dX9_see_73 : decode cX9_see 73 = .ok (.getfield 22, 3) := by decide +kernel
theorem dX9_see_76 : decode cX9_see 76 = .ok (.iconst 3, 1) := by decide +kernel
theorem dX9_see_77 : decode cX9_see 77 = .ok (.aload_n 0, 1) := by decide +kernel
theorem dX9_see_78 : decode cX9_see 78 = .ok (.getfield 87, 3) := by decide +kernel
theorem dX9_see_81 : decode cX9_see 81 = .ok (.imul, 1) := by decide +kernel
theorem dX9_see_82 : decode cX9_see 82 = .ok (.iconst 2, 1) := by decide +kernel
theorem dX9_see_83 : decode cX9_see 83 = .ok (.iadd, 1) := by decide +kernel
theorem dX9_see_84 : decode cX9_see 84 = .ok (.iload_n 3, 1) := by decide +kernel
theorem dX9_see_85 : decode cX9_see 85 = .ok (.iastore, 1) := by decide +kernel
theorem dX9_see_86 : decode cX9_see 86 = .ok (.aload_n 0, 1) := by decide +kernel
theorem dX9_see_87 : decode cX9_see 87 = .ok (.dup, 1) := by decide +kernel
theorem dX9_see_88 : decode cX9_see 88 = .ok (.getfield 87, 3) := by decide +kernel
theorem dX9_see_91 : decode cX9_see 91 = .ok (.iconst 1, 1) := by decide +kernel
theorem dX9_see_92 : decode cX9_see 92 = .ok (.iadd, 1) := by decide +kernel
theorem dX9_see_93 : decode cX9_see 93 = .ok (.putfield 87, 3) := by decide +kernel
theorem dX9_see_96 : decode cX9_see 96 = .ok (.aload_n 0, 1) := by decide +kernel
theorem dX9_see_97 : decode cX9_see 97 = .ok (.getfield 87, 3) := by decide +kernel
theorem dX9_see_100 : decode cX9_see 100 = .ok (.ireturn, 1) := by decide +kernel
theorem dX9_forget_0 : decode cX9_forget 0 = .ok (.aload_n 0, 1) := by decide +kernel
theorem dX9_forget_1 : decode cX9_forget 1 = .ok (.getfield 87, 3) := by decide +kernel
theorem dX9_forget_4 : decode cX9_forget 4 = .ok (.istore_n 1, 1) := by decide +kernel
theorem dX9_forget_5 : decode cX9_forget 5 = .ok (.aload_n 0, 1) := by decide +kernel
theorem dX9_forget_6 : decode cX9_forget 6 = .ok (.iconst 0, 1) := by decide +kernel
theorem dX9_forget_7 : decode cX9_forget 7 = .ok (.putfield 87, 3) := by decide +kernel
theorem dX9_forget_10 : decode cX9_forget 10 = .ok (.iload_n 1, 1) := by decide +kernel
theorem dX9_forget_11 : decode cX9_forget 11 = .ok (.ireturn, 1) := by decide +kernel
theorem dX9_isHome_0 : decode cX9_isHome 0 = .ok (.iconst 1, 1) := by decide +kernel
theorem dX9_isHome_1 : decode cX9_isHome 1 = .ok (.istore_n 3, 1) := by decide +kernel
theorem dX9_isHome_2 : decode cX9_isHome 2 = .ok (.iconst 0, 1) := by decide +kernel
theorem dX9_isHome_3 : decode cX9_isHome 3 = .ok (.istore 4, 2) := by decide +kernel
theorem dX9_isHome_5 : decode cX9_isHome 5 = .ok (.iload 4, 2) := by decide +kernel
theorem dX9_isHome_7 : decode cX9_isHome 7 = .ok (.iconst 3, 1) := by decide +kernel
theorem dX9_isHome_8 : decode cX9_isHome 8 = .ok (.aload_n 0, 1) := by decide +kernel
theorem dX9_isHome_9 : decode cX9_isHome 9 = .ok (.getfield 87, 3) := by decide +kernel
theorem dX9_isHome_12 : decode cX9_isHome 12 = .ok (.imul, 1) := by decide +kernel
theorem dX9_isHome_13 : decode cX9_isHome 13 = .ok (.if_icmp .ge 75, 3) := by decide +kernel
theorem dX9_isHome_16 : decode cX9_isHome 16 = .ok (.aload_n 0, 1) := by decide +kernel
theorem dX9_isHome_17 : decode cX9_isHome 17 = .ok (.getfield 13, 3) := by decide +kernel
theorem dX9_isHome_20 : decode cX9_isHome 20 = .ok (.iconst 2, 1) := by decide +kernel
theorem dX9_isHome_21 : decode cX9_isHome 21 = .ok (.iload_n 1, 1) := by decide +kernel
theorem dX9_isHome_22 : decode cX9_isHome 22 = .ok (.imul, 1) := by decide +kernel
theorem dX9_isHome_23 : decode cX9_isHome 23 = .ok (.iaload, 1) := by decide +kernel
theorem dX9_isHome_24 : decode cX9_isHome 24 = .ok (.iload_n 2, 1) := by decide +kernel
theorem dX9_isHome_25 : decode cX9_isHome 25 = .ok (.aload_n 0, 1) := by decide +kernel
theorem dX9_isHome_26 : decode cX9_isHome 26 = .ok (.getfield 22, 3) := by decide +kernel
theorem dX9_isHome_29 : decode cX9_isHome 29 = .ok (.iload 4, 2) := by decide +kernel
theorem dX9_isHome_31 : decode cX9_isHome 31 = .ok (.iconst 1, 1) := by decide +kernel
theorem dX9_isHome_32 : decode cX9_isHome 32 = .ok (.iadd, 1) := by decide +kernel
theorem dX9_isHome_33 : decode cX9_isHome 33 = .ok (.iaload, 1) := by decide +kernel
theorem dX9_isHome_34 : decode cX9_isHome 34 = .ok (.invokestatic 106, 3) := by decide +kernel
theorem dX9_isHome_37 : decode cX9_isHome 37 = .ok (.aload_n 0, 1) := by decide +kernel
theorem dX9_isHome_38 : decode cX9_isHome 38 = .ok (.getfield 22, 3) := by decide +kernel
theorem dX9_isHome_41 : decode cX9_isHome 41 = .ok (.iload 4, 2) := by decide +kernel
theorem dX9_isHome_43 : decode cX9_isHome 43 = .ok (.iconst 2, 1) := by decide +kernel
theorem dX9_isHome_44 : decode cX9_isHome 44 = .ok (.iadd, 1) := by decide +kernel
theorem dX9_isHome_45 : decode cX9_isHome 45 = .ok (.iaload, 1) := by decide +kernel
theorem dX9_isHome_46 : decode cX9_isHome 46 = .ok (.if_icmp .ne 7, 3) := by decide +kernel
theorem dX9_isHome_49 : decode cX9_isHome 49 = .ok (.iconst 1, 1) := by decide +kernel
theorem dX9_isHome_50 : decode cX9_isHome 50 = .ok (.goto 4, 3) := by decide +kernel
theorem dX9_isHome_53 : decode cX9_isHome 53 = .ok (.iconst 0, 1) := by decide +kernel
theorem dX9_isHome_54 : decode cX9_isHome 54 = .ok (.istore 5, 2) := by decide +kernel
theorem dX9_isHome_56 : decode cX9_isHome 56 = .ok (.iload_n 3, 1) := by decide +kernel
theorem dX9_isHome_57 : decode cX9_isHome 57 = .ok (.ifCond .eq 23, 3) := by decide +kernel
theorem dX9_isHome_60 : decode cX9_isHome 60 = .ok (.aload_n 0, 1) := by decide +kernel
theorem dX9_isHome_61 : decode cX9_isHome 61 = .ok (.getfield 22, 3) := by decide +kernel
theorem dX9_isHome_64 : decode cX9_isHome 64 = .ok (.iload 4, 2) := by decide +kernel
theorem dX9_isHome_66 : decode cX9_isHome 66 = .ok (.iaload, 1) := by decide +kernel
theorem dX9_isHome_67 : decode cX9_isHome 67 = .ok (.iload_n 1, 1) := by decide +kernel
theorem dX9_isHome_68 : decode cX9_isHome 68 = .ok (.if_icmp .ne 8, 3) := by decide +kernel
theorem dX9_isHome_71 : decode cX9_isHome 71 = .ok (.iload 5, 2) := by decide +kernel
theorem dX9_isHome_73 : decode cX9_isHome 73 = .ok (.ifCond .eq 7, 3) := by decide +kernel
theorem dX9_isHome_76 : decode cX9_isHome 76 = .ok (.iconst 1, 1) := by decide +kernel
theorem dX9_isHome_77 : decode cX9_isHome 77 = .ok (.goto 4, 3) := by decide +kernel
theorem dX9_isHome_80 : decode cX9_isHome 80 = .ok (.iconst 0, 1) := by decide +kernel
theorem dX9_isHome_81 : decode cX9_isHome 81 = .ok (.istore_n 3, 1) := by decide +kernel
theorem dX9_isHome_82 : decode cX9_isHome 82 = .ok (.iinc 4 3, 3) := by decide +kernel
theorem dX9_isHome_85 : decode cX9_isHome 85 = .ok (.goto (-80), 3) := by decide +kernel
theorem dX9_isHome_88 : decode cX9_isHome 88 = .ok (.iload_n 3, 1) := by decide +kernel
theorem dX9_isHome_89 : decode cX9_isHome 89 = .ok (.ireturn, 1) := by decide +kernel
theorem dX9_homesOf_0 : decode cX9_homesOf 0 = .ok (.iconst 0, 1) := by decide +kernel
theorem dX9_homesOf_1 : decode cX9_homesOf 1 = .ok (.istore_n 3, 1) := by decide +kernel
theorem dX9_homesOf_2 : decode cX9_homesOf 2 = .ok (.iconst (-1), 1) := by decide +kernel
theorem dX9_homesOf_3 : decode cX9_homesOf 3 = .ok (.istore 4, 2) := by decide +kernel
theorem dX9_homesOf_5 : decode cX9_homesOf 5 = .ok (.bipush 35, 2) := by decide +kernel
theorem dX9_homesOf_7 : decode cX9_homesOf 7 = .ok (.istore 5, 2) := by decide +kernel
theorem dX9_homesOf_9 : decode cX9_homesOf 9 = .ok (.iload 5, 2) := by decide +kernel
theorem dX9_homesOf_11 : decode cX9_homesOf 11 = .ok (.ifCond .lt 26, 3) := by decide +kernel
theorem dX9_homesOf_14 : decode cX9_homesOf 14 = .ok (.aload_n 0, 1) := by decide +kernel
theorem dX9_homesOf_15 : decode cX9_homesOf 15 = .ok (.iload_n 1, 1) := by decide +kernel
theorem dX9_homesOf_16 : decode cX9_homesOf 16 = .ok (.iload 5, 2) := by decide +kernel
theorem dX9_homesOf_18 : decode cX9_homesOf 18 = .ok (.invokevirtual 159, 3) := by decide +kernel
theorem dX9_homesOf_21 : decode cX9_homesOf 21 = .ok (.ifCond .eq 10, 3) := by decide +kernel
theorem dX9_homesOf_24 : decode cX9_homesOf 24 = .ok (.iinc 3 1, 3) := by decide +kernel
theorem dX9_homesOf_27 : decode cX9_homesOf 27 = .ok (.iload 5, 2) := by decide +kernel
theorem dX9_homesOf_29 : decode cX9_homesOf 29 = .ok (.istore 4, 2) := by decide +kernel
theorem dX9_homesOf_31 : decode cX9_homesOf 31 = .ok (.iinc 5 (-1), 3) := by decide +kernel
theorem dX9_homesOf_34 : decode cX9_homesOf 34 = .ok (.goto (-25), 3) := by decide +kernel
theorem dX9_homesOf_37 : decode cX9_homesOf 37 = .ok (.iload_n 2, 1) := by decide +kernel
theorem dX9_homesOf_38 : decode cX9_homesOf 38 = .ok (.ifCond .ne 7, 3) := by decide +kernel
theorem dX9_homesOf_41 : decode cX9_homesOf 41 = .ok (.iload_n 3, 1) := by decide +kernel
theorem dX9_homesOf_42 : decode cX9_homesOf 42 = .ok (.goto 5, 3) := by decide +kernel
theorem dX9_homesOf_45 : decode cX9_homesOf 45 = .ok (.iload 4, 2) := by decide +kernel
theorem dX9_homesOf_47 : decode cX9_homesOf 47 = .ok (.ireturn, 1) := by decide +kernel
theorem dX9_lookOf_0 : decode cX9_lookOf 0 = .ok (.iconst (-1), 1) := by decide +kernel
theorem dX9_lookOf_1 : decode cX9_lookOf 1 = .ok (.istore_n 2, 1) := by decide +kernel
theorem dX9_lookOf_2 : decode cX9_lookOf 2 = .ok (.bipush 37, 2) := by decide +kernel
theorem dX9_lookOf_4 : decode cX9_lookOf 4 = .ok (.istore_n 3, 1) := by decide +kernel
theorem dX9_lookOf_5 : decode cX9_lookOf 5 = .ok (.iconst 0, 1) := by decide +kernel
theorem dX9_lookOf_6 : decode cX9_lookOf 6 = .ok (.istore 4, 2) := by decide +kernel
theorem dX9_lookOf_8 : decode cX9_lookOf 8 = .ok (.iload 4, 2) := by decide +kernel
theorem dX9_lookOf_10 : decode cX9_lookOf 10 = .ok (.bipush 36, 2) := by decide +kernel
theorem dX9_lookOf_12 : decode cX9_lookOf 12 = .ok (.if_icmp .ge 156, 3) := by decide +kernel
theorem dX9_lookOf_15 : decode cX9_lookOf 15 = .ok (.iconst 0, 1) := by decide +kernel
theorem dX9_lookOf_16 : decode cX9_lookOf 16 = .ok (.istore 5, 2) := by decide +kernel
theorem dX9_lookOf_18 : decode cX9_lookOf 18 = .ok (.iload 5, 2) := by decide +kernel
theorem dX9_lookOf_20 : decode cX9_lookOf 20 = .ok (.bipush 9, 2) := by decide +kernel
theorem dX9_lookOf_22 : decode cX9_lookOf 22 = .ok (.if_icmp .ge 17, 3) := by decide +kernel
theorem dX9_lookOf_25 : decode cX9_lookOf 25 = .ok (.aload_n 0, 1) := by decide +kernel
theorem dX9_lookOf_26 : decode cX9_lookOf 26 = .ok (.getfield 25, 3) := by decide +kernel
theorem dX9_lookOf_29 : decode cX9_lookOf 29 = .ok (.iload 5, 2) := by decide +kernel
theorem dX9_lookOf_31 : decode cX9_lookOf 31 = .ok (.iconst 0, 1) := by decide +kernel
theorem dX9_lookOf_32 : decode cX9_lookOf 32 = .ok (.iastore, 1) := by decide +kernel
theorem dX9_lookOf_33 : decode cX9_lookOf 33 = .ok (.iinc 5 1, 3) := by decide +kernel
theorem dX9_lookOf_36 : decode cX9_lookOf 36 = .ok (.goto (-18), 3) := by decide +kernel
theorem dX9_lookOf_39 : decode cX9_lookOf 39 = .ok (.iconst 0, 1) := by decide +kernel
theorem dX9_lookOf_40 : decode cX9_lookOf 40 = .ok (.istore 5, 2) := by decide +kernel
theorem dX9_lookOf_42 : decode cX9_lookOf 42 = .ok (.iconst 0, 1) := by decide +kernel
theorem dX9_lookOf_43 : decode cX9_lookOf 43 = .ok (.istore 6, 2) := by decide +kernel
theorem dX9_lookOf_45 : decode cX9_lookOf 45 = .ok (.iload 6, 2) := by decide +kernel
theorem dX9_lookOf_47 : decode cX9_lookOf 47 = .ok (.bipush 36, 2) := by decide +kernel
theorem dX9_lookOf_49 : decode cX9_lookOf 49 = .ok (.if_icmp .ge 77, 3) := by decide +kernel
theorem dX9_lookOf_52 : decode cX9_lookOf 52 = .ok (.aload_n 0, 1) := by decide +kernel
theorem dX9_lookOf_53 : decode cX9_lookOf 53 = .ok (.getfield 13, 3) := by decide +kernel
theorem dX9_lookOf_56 : decode cX9_lookOf 56 = .ok (.iconst 2, 1) := by decide +kernel
theorem dX9_lookOf_57 : decode cX9_lookOf 57 = .ok (.iload_n 1, 1) := by decide +kernel
theorem dX9_lookOf_58 : decode cX9_lookOf 58 = .ok (.imul, 1) := by decide +kernel
theorem dX9_lookOf_59 : decode cX9_lookOf 59 = .ok (.iaload, 1) := by decide +kernel
theorem dX9_lookOf_60 : decode cX9_lookOf 60 = .ok (.iload 6, 2) := by decide +kernel
theorem dX9_lookOf_62 : decode cX9_lookOf 62 = .ok (.iload 4, 2) := by decide +kernel
theorem dX9_lookOf_64 : decode cX9_lookOf 64 = .ok (.invokestatic 106, 3) := by decide +kernel
theorem dX9_lookOf_67 : decode cX9_lookOf 67 = .ok (.istore 7, 2) := by decide +kernel
theorem dX9_lookOf_69 : decode cX9_lookOf 69 = .ok (.aload_n 0, 1) := by decide +kernel
theorem dX9_lookOf_70 : decode cX9_lookOf 70 = .ok (.getfield 25, 3) := by decide +kernel
theorem dX9_lookOf_73 : decode cX9_lookOf 73 = .ok (.iload 7, 2) := by decide +kernel
theorem dX9_lookOf_75 : decode cX9_lookOf 75 = .ok (.dup2, 1) := by decide +kernel
theorem dX9_lookOf_76 : decode cX9_lookOf 76 = .ok (.iaload, 1) := by decide +kernel
theorem dX9_lookOf_77 : decode cX9_lookOf 77 = .ok (.aload_n 0, 1) := by decide +kernel
theorem dX9_lookOf_78 : decode cX9_lookOf 78 = .ok (.iload_n 1, 1) := by decide +kernel
theorem dX9_lookOf_79 : decode cX9_lookOf 79 = .ok (.iload 6, 2) := by decide +kernel
theorem dX9_lookOf_81 : decode cX9_lookOf 81 = .ok (.invokevirtual 159, 3) := by decide +kernel
theorem dX9_lookOf_84 : decode cX9_lookOf 84 = .ok (.ifCond .eq 7, 3) := by decide +kernel
theorem dX9_lookOf_87 : decode cX9_lookOf 87 = .ok (.iconst 1, 1) := by decide +kernel
theorem dX9_lookOf_88 : decode cX9_lookOf 88 = .ok (.goto 4, 3) := by decide +kernel
theorem dX9_lookOf_91 : decode cX9_lookOf 91 = .ok (.iconst 0, 1) := by decide +kernel
theorem dX9_lookOf_92 : decode cX9_lookOf 92 = .ok (.iadd, 1) := by decide +kernel
theorem dX9_lookOf_93 : decode cX9_lookOf 93 = .ok (.iastore, 1) := by decide +kernel
theorem dX9_lookOf_94 : decode cX9_lookOf 94 = .ok (.aload_n 0, 1) := by decide +kernel
theorem dX9_lookOf_95 : decode cX9_lookOf 95 = .ok (.getfield 25, 3) := by decide +kernel
theorem dX9_lookOf_98 : decode cX9_lookOf 98 = .ok (.iload 7, 2) := by decide +kernel
theorem dX9_lookOf_100 : decode cX9_lookOf 100 = .ok (.iaload, 1) := by decide +kernel
theorem dX9_lookOf_101 : decode cX9_lookOf 101 = .ok (.iload 5, 2) := by decide +kernel
theorem dX9_lookOf_103 : decode cX9_lookOf 103 = .ok (.if_icmp .le 13, 3) := by decide +kernel
theorem dX9_lookOf_106 : decode cX9_lookOf 106 = .ok (.aload_n 0, 1) := by decide +kernel
theorem dX9_lookOf_107 : decode cX9_lookOf 107 = .ok (.getfield 25, 3) := by decide +kernel
theorem dX9_lookOf_110 : decode cX9_lookOf 110 = .ok (.iload 7, 2) := by decide +kernel
theorem dX9_lookOf_112 : decode cX9_lookOf 112 = .ok (.iaload, 1) := by decide +kernel
theorem dX9_lookOf_113 : decode cX9_lookOf 113 = .ok (.goto 5, 3) := by decide +kernel
theorem dX9_lookOf_116 : decode cX9_lookOf 116 = .ok (.iload 5, 2) := by decide +kernel
theorem dX9_lookOf_118 : decode cX9_lookOf 118 = .ok (.istore 5, 2) := by decide +kernel
theorem dX9_lookOf_120 : decode cX9_lookOf 120 = .ok (.iinc 6 1, 3) := by decide +kernel
theorem dX9_lookOf_123 : decode cX9_lookOf 123 = .ok (.goto (-78), 3) := by decide +kernel
theorem dX9_lookOf_126 : decode cX9_lookOf 126 = .ok (.iload 5, 2) := by decide +kernel
theorem dX9_lookOf_128 : decode cX9_lookOf 128 = .ok (.ifCond .le 14, 3) := by decide +kernel
theorem dX9_lookOf_131 : decode cX9_lookOf 131 = .ok (.iload 5, 2) := by decide +kernel
theorem dX9_lookOf_133 : decode cX9_lookOf 133 = .ok (.iload_n 3, 1) := by decide +kernel
theorem dX9_lookOf_134 : decode cX9_lookOf 134 = .ok (.if_icmp .ge 8, 3) := by decide +kernel
theorem dX9_lookOf_137 : decode cX9_lookOf 137 = .ok (.iload 4, 2) := by decide +kernel
theorem dX9_lookOf_139 : decode cX9_lookOf 139 = .ok (.goto 4, 3) := by decide +kernel
theorem dX9_lookOf_142 : decode cX9_lookOf 142 = .ok (.iload_n 2, 1) := by decide +kernel
theorem dX9_lookOf_143 : decode cX9_lookOf 143 = .ok (.istore_n 2, 1) := by decide +kernel
theorem dX9_lookOf_144 : decode cX9_lookOf 144 = .ok (.iload 5, 2) := by decide +kernel
theorem dX9_lookOf_146 : decode cX9_lookOf 146 = .ok (.ifCond .le 14, 3) := by decide +kernel
theorem dX9_lookOf_149 : decode cX9_lookOf 149 = .ok (.iload 5, 2) := by decide +kernel
theorem dX9_lookOf_151 : decode cX9_lookOf 151 = .ok (.iload_n 3, 1) := by decide +kernel
theorem dX9_lookOf_152 : decode cX9_lookOf 152 = .ok (.if_icmp .ge 8, 3) := by decide +kernel
theorem dX9_lookOf_155 : decode cX9_lookOf 155 = .ok (.iload 5, 2) := by decide +kernel
theorem dX9_lookOf_157 : decode cX9_lookOf 157 = .ok (.goto 4, 3) := by decide +kernel
theorem dX9_lookOf_160 : decode cX9_lookOf 160 = .ok (.iload_n 3, 1) := by decide +kernel
theorem dX9_lookOf_161 : decode cX9_lookOf 161 = .ok (.istore_n 3, 1) := by decide +kernel
theorem dX9_lookOf_162 : decode cX9_lookOf 162 = .ok (.iinc 4 1, 3) := by decide +kernel
theorem dX9_lookOf_165 : decode cX9_lookOf 165 = .ok (.goto (-157), 3) := by decide +kernel
theorem dX9_lookOf_168 : decode cX9_lookOf 168 = .ok (.iload_n 2, 1) := by decide +kernel
theorem dX9_lookOf_169 : decode cX9_lookOf 169 = .ok (.ireturn, 1) := by decide +kernel
theorem dX9_draw_0 : decode cX9_draw 0 = .ok (.aload_n 0, 1) := by decide +kernel
theorem dX9_draw_1 : decode cX9_draw 1 = .ok (.ldc2_w 163, 3) := by decide +kernel
theorem dX9_draw_4 : decode cX9_draw 4 = .ok (.aload_n 0, 1) := by decide +kernel
theorem dX9_draw_5 : decode cX9_draw 5 = .ok (.getfield 165, 3) := by decide +kernel
theorem dX9_draw_8 : decode cX9_draw 8 = .ok (.i2l, 1) := by decide +kernel
theorem dX9_draw_9 : decode cX9_draw 9 = .ok (.lmul, 1) := by decide +kernel
theorem dX9_draw_10 : decode cX9_draw 10 = .ok (.ldc2_w 168, 3) := by decide +kernel
theorem dX9_draw_13 : decode cX9_draw 13 = .ok (.ladd, 1) := by decide +kernel
theorem dX9_draw_14 : decode cX9_draw 14 = .ok (.ldc2_w 170, 3) := by decide +kernel
theorem dX9_draw_17 : decode cX9_draw 17 = .ok (.land, 1) := by decide +kernel
theorem dX9_draw_18 : decode cX9_draw 18 = .ok (.l2i, 1) := by decide +kernel
theorem dX9_draw_19 : decode cX9_draw 19 = .ok (.putfield 165, 3) := by decide +kernel
theorem dX9_draw_22 : decode cX9_draw 22 = .ok (.aload_n 0, 1) := by decide +kernel
theorem dX9_draw_23 : decode cX9_draw 23 = .ok (.getfield 165, 3) := by decide +kernel
theorem dX9_draw_26 : decode cX9_draw 26 = .ok (.ldc 172, 2) := by decide +kernel
theorem dX9_draw_28 : decode cX9_draw 28 = .ok (.idiv, 1) := by decide +kernel
theorem dX9_draw_29 : decode cX9_draw 29 = .ok (.iload_n 1, 1) := by decide +kernel
theorem dX9_draw_30 : decode cX9_draw 30 = .ok (.irem, 1) := by decide +kernel
theorem dX9_draw_31 : decode cX9_draw 31 = .ok (.ireturn, 1) := by decide +kernel
theorem dX9_downsAt_0 : decode cX9_downsAt 0 = .ok (.iconst 0, 1) := by decide +kernel
theorem dX9_downsAt_1 : decode cX9_downsAt 1 = .ok (.istore_n 2, 1) := by decide +kernel
theorem dX9_downsAt_2 : decode cX9_downsAt 2 = .ok (.iconst 0, 1) := by decide +kernel
theorem dX9_downsAt_3 : decode cX9_downsAt 3 = .ok (.istore_n 3, 1) := by decide +kernel
theorem dX9_downsAt_4 : decode cX9_downsAt 4 = .ok (.iload_n 3, 1) := by decide +kernel
theorem dX9_downsAt_5 : decode cX9_downsAt 5 = .ok (.aload_n 0, 1) := by decide +kernel
theorem dX9_downsAt_6 : decode cX9_downsAt 6 = .ok (.getfield 72, 3) := by decide +kernel
theorem dX9_downsAt_9 : decode cX9_downsAt 9 = .ok (.if_icmp .ge 27, 3) := by decide +kernel
theorem dX9_downsAt_12 : decode cX9_downsAt 12 = .ok (.iload_n 2, 1) := by decide +kernel
theorem dX9_downsAt_13 : decode cX9_downsAt 13 = .ok (.aload_n 0, 1) := by decide +kernel
theorem dX9_downsAt_14 : decode cX9_downsAt 14 = .ok (.iload_n 3, 1) := by decide +kernel
theorem dX9_downsAt_15 : decode cX9_downsAt 15 = .ok (.iload_n 1, 1) := by decide +kernel
theorem dX9_downsAt_16 : decode cX9_downsAt 16 = .ok (.invokevirtual 118, 3) := by decide +kernel
theorem dX9_downsAt_19 : decode cX9_downsAt 19 = .ok (.iconst 4, 1) := by decide +kernel
theorem dX9_downsAt_20 : decode cX9_downsAt 20 = .ok (.if_icmp .ne 7, 3) := by decide +kernel
theorem dX9_downsAt_23 : decode cX9_downsAt 23 = .ok (.iconst 1, 1) := by decide +kernel
theorem dX9_downsAt_24 : decode cX9_downsAt 24 = .ok (.goto 4, 3) := by decide +kernel
theorem dX9_downsAt_27 : decode cX9_downsAt 27 = .ok (.iconst 0, 1) := by decide +kernel
theorem dX9_downsAt_28 : decode cX9_downsAt 28 = .ok (.iadd, 1) := by decide +kernel
theorem dX9_downsAt_29 : decode cX9_downsAt 29 = .ok (.istore_n 2, 1) := by decide +kernel
theorem dX9_downsAt_30 : decode cX9_downsAt 30 = .ok (.iinc 3 1, 3) := by decide +kernel
theorem dX9_downsAt_33 : decode cX9_downsAt 33 = .ok (.goto (-29), 3) := by decide +kernel
theorem dX9_downsAt_36 : decode cX9_downsAt 36 = .ok (.iload_n 2, 1) := by decide +kernel
theorem dX9_downsAt_37 : decode cX9_downsAt 37 = .ok (.ireturn, 1) := by decide +kernel
theorem dX9_storms_0 : decode cX9_storms 0 = .ok (.iload_n 1, 1) := by decide +kernel
theorem dX9_storms_1 : decode cX9_storms 1 = .ok (.i2l, 1) := by decide +kernel
theorem dX9_storms_2 : decode cX9_storms 2 = .ok (.lconst 1, 1) := by decide +kernel
theorem dX9_storms_3 : decode cX9_storms 3 = .ok (.ldc2_w 173, 3) := by decide +kernel
theorem dX9_storms_6 : decode cX9_storms 6 = .ok (.invokestatic 43, 3) := by decide +kernel
theorem dX9_storms_9 : decode cX9_storms 9 = .ok (.ifCond .eq 19, 3) := by decide +kernel
theorem dX9_storms_12 : decode cX9_storms 12 = .ok (.iload_n 2, 1) := by decide +kernel
theorem dX9_storms_13 : decode cX9_storms 13 = .ok (.ifCond .lt 15, 3) := by decide +kernel
theorem dX9_storms_16 : decode cX9_storms 16 = .ok (.iload_n 3, 1) := by decide +kernel
theorem dX9_storms_17 : decode cX9_storms 17 = .ok (.i2l, 1) := by decide +kernel
theorem dX9_storms_18 : decode cX9_storms 18 = .ok (.lconst 0, 1) := by decide +kernel
theorem dX9_storms_19 : decode cX9_storms 19 = .ok (.ldc2_w 175, 3) := by decide +kernel
theorem dX9_storms_22 : decode cX9_storms 22 = .ok (.invokestatic 43, 3) := by decide +kernel
theorem dX9_storms_25 : decode cX9_storms 25 = .ok (.ifCond .ne 6, 3) := by decide +kernel
theorem dX9_storms_28 : decode cX9_storms 28 = .ok (.bipush (-102), 2) := by decide +kernel
theorem dX9_storms_30 : decode cX9_storms 30 = .ok (.ireturn, 1) := by decide +kernel
theorem dX9_storms_31 : decode cX9_storms 31 = .ok (.aload_n 0, 1) := by decide +kernel
theorem dX9_storms_32 : decode cX9_storms 32 = .ok (.invokevirtual 93, 3) := by decide +kernel
theorem dX9_storms_35 : decode cX9_storms 35 = .ok (.ifCond .eq 6, 3) := by decide +kernel
theorem dX9_storms_38 : decode cX9_storms 38 = .ok (.bipush (-103), 2) := by decide +kernel
theorem dX9_storms_40 : decode cX9_storms 40 = .ok (.ireturn, 1) := by decide +kernel
theorem dX9_storms_41 : decode cX9_storms 41 = .ok (.aload_n 0, 1) := by decide +kernel
theorem dX9_storms_42 : decode cX9_storms 42 = .ok (.iload_n 2, 1) := by decide +kernel
theorem dX9_storms_43 : decode cX9_storms 43 = .ok (.putfield 165, 3) := by decide +kernel
theorem dX9_storms_46 : decode cX9_storms 46 = .ok (.aload_n 0, 1) := by decide +kernel
theorem dX9_storms_47 : decode cX9_storms 47 = .ok (.getfield 78, 3) := by decide +kernel
theorem dX9_storms_50 : decode cX9_storms 50 = .ok (.istore 4, 2) := by decide +kernel
theorem dX9_storms_52 : decode cX9_storms 52 = .ok (.iconst 0, 1) := by decide +kernel
theorem dX9_storms_53 : decode cX9_storms 53 = .ok (.istore 5, 2) := by decide +kernel
theorem dX9_storms_55 : decode cX9_storms 55 = .ok (.iconst 0, 1) := by decide +kernel
theorem dX9_storms_56 : decode cX9_storms 56 = .ok (.istore 6, 2) := by decide +kernel
theorem dX9_storms_58 : decode cX9_storms 58 = .ok (.iload 6, 2) := by decide +kernel
theorem dX9_storms_60 : decode cX9_storms 60 = .ok (.iload_n 1, 1) := by decide +kernel
theorem dX9_storms_61 : decode cX9_storms 61 = .ok (.if_icmp .ge 34, 3) := by decide +kernel
theorem dX9_storms_64 : decode cX9_storms 64 = .ok (.aload_n 0, 1) := by decide +kernel
theorem dX9_storms_65 : decode cX9_storms 65 = .ok (.iload 4, 2) := by decide +kernel
theorem dX9_storms_67 : decode cX9_storms 67 = .ok (.aload_n 0, 1) := by decide +kernel
theorem dX9_storms_68 : decode cX9_storms 68 = .ok (.bipush 9, 2) := by decide +kernel
theorem dX9_storms_70 : decode cX9_storms 70 = .ok (.invokevirtual 177, 3) := by decide +kernel
theorem dX9_storms_73 : decode cX9_storms 73 = .ok (.invokevirtual 121, 3) := by decide +kernel
theorem dX9_storms_76 : decode cX9_storms 76 = .ok (.istore 4, 2) := by decide +kernel
theorem dX9_storms_78 : decode cX9_storms 78 = .ok (.iload 5, 2) := by decide +kernel
theorem dX9_storms_80 : decode cX9_storms 80 = .ok (.aload_n 0, 1) := by decide +kernel
theorem dX9_storms_81 : decode cX9_storms 81 = .ok (.iload 4, 2) := by decide +kernel
theorem dX9_storms_83 : decode cX9_storms 83 = .ok (.invokevirtual 180, 3) := by decide +kernel
theorem dX9_storms_86 : decode cX9_storms 86 = .ok (.iadd, 1) := by decide +kernel
theorem dX9_storms_87 : decode cX9_storms 87 = .ok (.istore 5, 2) := by decide +kernel
theorem dX9_storms_89 : decode cX9_storms 89 = .ok (.iinc 6 1, 3) := by decide +kernel
theorem dX9_storms_92 : decode cX9_storms 92 = .ok (.goto (-34), 3) := by decide +kernel
theorem dX9_storms_95 : decode cX9_storms 95 = .ok (.iload_n 3, 1) := by decide +kernel
theorem dX9_storms_96 : decode cX9_storms 96 = .ok (.ifCond .ne 8, 3) := by decide +kernel
theorem dX9_storms_99 : decode cX9_storms 99 = .ok (.iload 4, 2) := by decide +kernel
theorem dX9_storms_101 : decode cX9_storms 101 = .ok (.goto 17, 3) := by decide +kernel
theorem dX9_storms_104 : decode cX9_storms 104 = .ok (.iload_n 3, 1) := by decide +kernel
theorem dX9_storms_105 : decode cX9_storms 105 = .ok (.iconst 1, 1) := by decide +kernel
theorem dX9_storms_106 : decode cX9_storms 106 = .ok (.if_icmp .ne 8, 3) := by decide +kernel
theorem dX9_storms_109 : decode cX9_storms 109 = .ok (.iload 5, 2) := by decide +kernel
theorem dX9_storms_111 : decode cX9_storms 111 = .ok (.goto 7, 3) := by decide +kernel
theorem dX9_storms_114 : decode cX9_storms 114 = .ok (.aload_n 0, 1) := by decide +kernel
theorem dX9_storms_115 : decode cX9_storms 115 = .ok (.getfield 165, 3) := by decide +kernel
theorem dX9_storms_118 : decode cX9_storms 118 = .ok (.ireturn, 1) := by decide +kernel
theorem dX9_image_0 : decode cX9_image 0 = .ok (.aload_n 0, 1) := by decide +kernel
theorem dX9_image_1 : decode cX9_image 1 = .ok (.invokevirtual 93, 3) := by decide +kernel
theorem dX9_image_4 : decode cX9_image 4 = .ok (.ifCond .eq 6, 3) := by decide +kernel
theorem dX9_image_7 : decode cX9_image 7 = .ok (.bipush (-103), 2) := by decide +kernel
theorem dX9_image_9 : decode cX9_image 9 = .ok (.ireturn, 1) := by decide +kernel
theorem dX9_image_10 : decode cX9_image 10 = .ok (.aload_n 0, 1) := by decide +kernel
theorem dX9_image_11 : decode cX9_image 11 = .ok (.getfield 13, 3) := by decide +kernel
theorem dX9_image_14 : decode cX9_image 14 = .ok (.aload_n 0, 1) := by decide +kernel
theorem dX9_image_15 : decode cX9_image 15 = .ok (.getfield 28, 3) := by decide +kernel
theorem dX9_image_18 : decode cX9_image 18 = .ok (.invokestatic 183, 3) := by decide +kernel
theorem dX9_image_21 : decode cX9_image 21 = .ok (.aload_n 0, 1) := by decide +kernel
theorem dX9_image_22 : decode cX9_image 22 = .ok (.getfield 16, 3) := by decide +kernel
theorem dX9_image_25 : decode cX9_image 25 = .ok (.aload_n 0, 1) := by decide +kernel
theorem dX9_image_26 : decode cX9_image 26 = .ok (.getfield 31, 3) := by decide +kernel
theorem dX9_image_29 : decode cX9_image 29 = .ok (.invokestatic 183, 3) := by decide +kernel
theorem dX9_image_32 : decode cX9_image 32 = .ok (.aload_n 0, 1) := by decide +kernel
theorem dX9_image_33 : decode cX9_image 33 = .ok (.getfield 22, 3) := by decide +kernel
theorem dX9_image_36 : decode cX9_image 36 = .ok (.aload_n 0, 1) := by decide +kernel
theorem dX9_image_37 : decode cX9_image 37 = .ok (.getfield 34, 3) := by decide +kernel
theorem dX9_image_40 : decode cX9_image 40 = .ok (.invokestatic 183, 3) := by decide +kernel
theorem dX9_image_43 : decode cX9_image 43 = .ok (.aload_n 0, 1) := by decide +kernel
theorem dX9_image_44 : decode cX9_image 44 = .ok (.aload_n 0, 1) := by decide +kernel
theorem dX9_image_45 : decode cX9_image 45 = .ok (.getfield 78, 3) := by decide +kernel
theorem dX9_image_48 : decode cX9_image 48 = .ok (.putfield 187, 3) := by decide +kernel
theorem dX9_image_51 : decode cX9_image 51 = .ok (.aload_n 0, 1) := by decide +kernel
theorem dX9_image_52 : decode cX9_image 52 = .ok (.aload_n 0, 1) := by decide +kernel
theorem dX9_image_53 : decode cX9_image 53 = .ok (.getfield 81, 3) := by decide +kernel
theorem dX9_image_56 : decode cX9_image 56 = .ok (.putfield 190, 3) := by decide +kernel
theorem dX9_image_59 : decode cX9_image 59 = .ok (.aload_n 0, 1) := by decide +kernel
theorem dX9_image_60 : decode cX9_image 60 = .ok (.aload_n 0, 1) := by decide +kernel
theorem dX9_image_61 : decode cX9_image 61 = .ok (.getfield 84, 3) := by decide +kernel
theorem dX9_image_64 : decode cX9_image 64 = .ok (.putfield 193, 3) := by decide +kernel
theorem dX9_image_67 : decode cX9_image 67 = .ok (.aload_n 0, 1) := by decide +kernel
theorem dX9_image_68 : decode cX9_image 68 = .ok (.aload_n 0, 1) := by decide +kernel
theorem dX9_image_69 : decode cX9_image 69 = .ok (.getfield 87, 3) := by decide +kernel
theorem dX9_image_72 : decode cX9_image 72 = .ok (.putfield 196, 3) := by decide +kernel
theorem dX9_image_75 : decode cX9_image 75 = .ok (.aload_n 0, 1) := by decide +kernel
theorem dX9_image_76 : decode cX9_image 76 = .ok (.aload_n 0, 1) := by decide +kernel
theorem dX9_image_77 : decode cX9_image 77 = .ok (.getfield 90, 3) := by decide +kernel
theorem dX9_image_80 : decode cX9_image 80 = .ok (.putfield 37, 3) := by decide +kernel
theorem dX9_image_83 : decode cX9_image 83 = .ok (.aload_n 0, 1) := by decide +kernel
theorem dX9_image_84 : decode cX9_image 84 = .ok (.getfield 81, 3) := by decide +kernel
theorem dX9_image_87 : decode cX9_image 87 = .ok (.ireturn, 1) := by decide +kernel
theorem dX9_restore_0 : decode cX9_restore 0 = .ok (.aload_n 0, 1) := by decide +kernel
theorem dX9_restore_1 : decode cX9_restore 1 = .ok (.getfield 37, 3) := by decide +kernel
theorem dX9_restore_4 : decode cX9_restore 4 = .ok (.aload_n 0, 1) := by decide +kernel
theorem dX9_restore_5 : decode cX9_restore 5 = .ok (.getfield 90, 3) := by decide +kernel
theorem dX9_restore_8 : decode cX9_restore 8 = .ok (.if_icmp .eq 6, 3) := by decide +kernel
theorem dX9_restore_11 : decode cX9_restore 11 = .ok (.bipush (-103), 2) := by decide +kernel
theorem dX9_restore_13 : decode cX9_restore 13 = .ok (.ireturn, 1) := by decide +kernel
theorem dX9_restore_14 : decode cX9_restore 14 = .ok (.aload_n 0, 1) := by decide +kernel
theorem dX9_restore_15 : decode cX9_restore 15 = .ok (.getfield 28, 3) := by decide +kernel
theorem dX9_restore_18 : decode cX9_restore 18 = .ok (.aload_n 0, 1) := by decide +kernel
theorem dX9_restore_19 : decode cX9_restore 19 = .ok (.getfield 13, 3) := by decide +kernel
theorem dX9_restore_22 : decode cX9_restore 22 = .ok (.invokestatic 183, 3) := by decide +kernel
theorem dX9_restore_25 : decode cX9_restore 25 = .ok (.aload_n 0, 1) := by decide +kernel
theorem dX9_restore_26 : decode cX9_restore 26 = .ok (.getfield 31, 3) := by decide +kernel
theorem dX9_restore_29 : decode cX9_restore 29 = .ok (.aload_n 0, 1) := by decide +kernel
theorem dX9_restore_30 : decode cX9_restore 30 = .ok (.getfield 16, 3) := by decide +kernel
theorem dX9_restore_33 : decode cX9_restore 33 = .ok (.invokestatic 183, 3) := by decide +kernel
theorem dX9_restore_36 : decode cX9_restore 36 = .ok (.aload_n 0, 1) := by decide +kernel
theorem dX9_restore_37 : decode cX9_restore 37 = .ok (.getfield 34, 3) := by decide +kernel
theorem dX9_restore_40 : decode cX9_restore 40 = .ok (.aload_n 0, 1) := by decide +kernel
theorem dX9_restore_41 : decode cX9_restore 41 = .ok (.getfield 22, 3) := by decide +kernel
theorem dX9_restore_44 : decode cX9_restore 44 = .ok (.invokestatic 183, 3) := by decide +kernel
theorem dX9_restore_47 : decode cX9_restore 47 = .ok (.aload_n 0, 1) := by decide +kernel
theorem dX9_restore_48 : decode cX9_restore 48 = .ok (.aload_n 0, 1) := by decide +kernel
theorem dX9_restore_49 : decode cX9_restore 49 = .ok (.getfield 187, 3) := by decide +kernel
theorem dX9_restore_52 : decode cX9_restore 52 = .ok (.putfield 78, 3) := by decide +kernel
theorem dX9_restore_55 : decode cX9_restore 55 = .ok (.aload_n 0, 1) := by decide +kernel
theorem dX9_restore_56 : decode cX9_restore 56 = .ok (.aload_n 0, 1) := by decide +kernel
theorem dX9_restore_57 : decode cX9_restore 57 = .ok (.getfield 190, 3) := by decide +kernel
theorem dX9_restore_60 : decode cX9_restore 60 = .ok (.putfield 81, 3) := by decide +kernel
theorem dX9_restore_63 : decode cX9_restore 63 = .ok (.aload_n 0, 1) := by decide +kernel
theorem dX9_restore_64 : decode cX9_restore 64 = .ok (.aload_n 0, 1) := by decide +kernel
theorem dX9_restore_65 : decode cX9_restore 65 = .ok (.getfield 193, 3) := by decide +kernel
theorem dX9_restore_68 : decode cX9_restore 68 = .ok (.putfield 84, 3) := by decide +kernel
theorem dX9_restore_71 : decode cX9_restore 71 = .ok (.aload_n 0, 1) := by decide +kernel
theorem dX9_restore_72 : decode cX9_restore 72 = .ok (.aload_n 0, 1) := by decide +kernel
theorem dX9_restore_73 : decode cX9_restore 73 = .ok (.getfield 196, 3) := by decide +kernel
theorem dX9_restore_76 : decode cX9_restore 76 = .ok (.putfield 87, 3) := by decide +kernel
theorem dX9_restore_79 : decode cX9_restore 79 = .ok (.aload_n 0, 1) := by decide +kernel
theorem dX9_restore_80 : decode cX9_restore 80 = .ok (.getfield 81, 3) := by decide +kernel
theorem dX9_restore_83 : decode cX9_restore 83 = .ok (.ireturn, 1) := by decide +kernel
theorem dX9_islandsAll_0 : decode cX9_islandsAll 0 = .ok (.iconst 0, 1) := by decide +kernel
theorem dX9_islandsAll_1 : decode cX9_islandsAll 1 = .ok (.istore_n 1, 1) := by decide +kernel
theorem dX9_islandsAll_2 : decode cX9_islandsAll 2 = .ok (.iconst 0, 1) := by decide +kernel
theorem dX9_islandsAll_3 : decode cX9_islandsAll 3 = .ok (.istore_n 2, 1) := by decide +kernel
theorem dX9_islandsAll_4 : decode cX9_islandsAll 4 = .ok (.iload_n 2, 1) := by decide +kernel
theorem dX9_islandsAll_5 : decode cX9_islandsAll 5 = .ok (.bipush 36, 2) := by decide +kernel
theorem dX9_islandsAll_7 : decode cX9_islandsAll 7 = .ok (.if_icmp .ge 18, 3) := by decide +kernel
theorem dX9_islandsAll_10 : decode cX9_islandsAll 10 = .ok (.iload_n 1, 1) := by decide +kernel
theorem dX9_islandsAll_11 : decode cX9_islandsAll 11 = .ok (.aload_n 0, 1) := by decide +kernel
theorem dX9_islandsAll_12 : decode cX9_islandsAll 12 = .ok (.getfield 16, 3) := by decide +kernel
theorem dX9_islandsAll_15 : decode cX9_islandsAll 15 = .ok (.iload_n 2, 1) := by decide +kernel
theorem dX9_islandsAll_16 : decode cX9_islandsAll 16 = .ok (.iaload, 1) := by decide +kernel
theorem dX9_islandsAll_17 : decode cX9_islandsAll 17 = .ok (.iadd, 1) := by decide +kernel
theorem dX9_islandsAll_18 : decode cX9_islandsAll 18 = .ok (.istore_n 1, 1) := by decide +kernel
theorem dX9_islandsAll_19 : decode cX9_islandsAll 19 = .ok (.iinc 2 1, 3) := by decide +kernel
theorem dX9_islandsAll_22 : decode cX9_islandsAll 22 = .ok (.goto (-18), 3) := by decide +kernel
theorem dX9_islandsAll_25 : decode cX9_islandsAll 25 = .ok (.iload_n 1, 1) := by decide +kernel
theorem dX9_islandsAll_26 : decode cX9_islandsAll 26 = .ok (.ireturn, 1) := by decide +kernel
theorem dX9_countOf_0 : decode cX9_countOf 0 = .ok (.iload_n 1, 1) := by decide +kernel
theorem dX9_countOf_1 : decode cX9_countOf 1 = .ok (.tableswitch 100 0 8 #[51, 56, 61, 66, 71, 76, 85, 90, 95], 51) := by decide +kernel
theorem dX9_countOf_52 : decode cX9_countOf 52 = .ok (.aload_n 0, 1) := by decide +kernel
theorem dX9_countOf_53 : decode cX9_countOf 53 = .ok (.getfield 72, 3) := by decide +kernel
theorem dX9_countOf_56 : decode cX9_countOf 56 = .ok (.ireturn, 1) := by decide +kernel
theorem dX9_countOf_57 : decode cX9_countOf 57 = .ok (.aload_n 0, 1) := by decide +kernel
theorem dX9_countOf_58 : decode cX9_countOf 58 = .ok (.getfield 78, 3) := by decide +kernel
theorem dX9_countOf_61 : decode cX9_countOf 61 = .ok (.ireturn, 1) := by decide +kernel
theorem dX9_countOf_62 : decode cX9_countOf 62 = .ok (.aload_n 0, 1) := by decide +kernel
theorem dX9_countOf_63 : decode cX9_countOf 63 = .ok (.invokevirtual 199, 3) := by decide +kernel
theorem dX9_countOf_66 : decode cX9_countOf 66 = .ok (.ireturn, 1) := by decide +kernel
theorem dX9_countOf_67 : decode cX9_countOf 67 = .ok (.aload_n 0, 1) := by decide +kernel
theorem dX9_countOf_68 : decode cX9_countOf 68 = .ok (.getfield 81, 3) := by decide +kernel
theorem dX9_countOf_71 : decode cX9_countOf 71 = .ok (.ireturn, 1) := by decide +kernel
theorem dX9_countOf_72 : decode cX9_countOf 72 = .ok (.aload_n 0, 1) := by decide +kernel
theorem dX9_countOf_73 : decode cX9_countOf 73 = .ok (.getfield 84, 3) := by decide +kernel
theorem dX9_countOf_76 : decode cX9_countOf 76 = .ok (.ireturn, 1) := by decide +kernel
theorem dX9_countOf_77 : decode cX9_countOf 77 = .ok (.aload_n 0, 1) := by decide +kernel
theorem dX9_countOf_78 : decode cX9_countOf 78 = .ok (.aload_n 0, 1) := by decide +kernel
theorem dX9_countOf_79 : decode cX9_countOf 79 = .ok (.getfield 78, 3) := by decide +kernel
theorem dX9_countOf_82 : decode cX9_countOf 82 = .ok (.invokevirtual 180, 3) := by decide +kernel
theorem dX9_countOf_85 : decode cX9_countOf 85 = .ok (.ireturn, 1) := by decide +kernel
theorem dX9_countOf_86 : decode cX9_countOf 86 = .ok (.aload_n 0, 1) := by decide +kernel
theorem dX9_countOf_87 : decode cX9_countOf 87 = .ok (.getfield 87, 3) := by decide +kernel
theorem dX9_countOf_90 : decode cX9_countOf 90 = .ok (.ireturn, 1) := by decide +kernel
theorem dX9_countOf_91 : decode cX9_countOf 91 = .ok (.aload_n 0, 1) := by decide +kernel
theorem dX9_countOf_92 : decode cX9_countOf 92 = .ok (.getfield 47, 3) := by decide +kernel
theorem dX9_countOf_95 : decode cX9_countOf 95 = .ok (.ireturn, 1) := by decide +kernel
theorem dX9_countOf_96 : decode cX9_countOf 96 = .ok (.aload_n 0, 1) := by decide +kernel
theorem dX9_countOf_97 : decode cX9_countOf 97 = .ok (.getfield 90, 3) := by decide +kernel
theorem dX9_countOf_100 : decode cX9_countOf 100 = .ok (.ireturn, 1) := by decide +kernel
theorem dX9_countOf_101 : decode cX9_countOf 101 = .ok (.bipush (-102), 2) := by decide +kernel
theorem dX9_countOf_103 : decode cX9_countOf 103 = .ok (.ireturn, 1) := by decide +kernel
theorem dX9_count_0 : decode cX9_count 0 = .ok (.aload_n 0, 1) := by decide +kernel
theorem dX9_count_1 : decode cX9_count 1 = .ok (.iload_n 1, 1) := by decide +kernel
theorem dX9_count_2 : decode cX9_count 2 = .ok (.invokevirtual 202, 3) := by decide +kernel
theorem dX9_count_5 : decode cX9_count 5 = .ok (.ireturn, 1) := by decide +kernel
theorem dX9_say_0 : decode cX9_say 0 = .ok (.aload_n 0, 1) := by decide +kernel
theorem dX9_say_1 : decode cX9_say 1 = .ok (.ldc2_w 205, 3) := by decide +kernel
theorem dX9_say_4 : decode cX9_say 4 = .ok (.aload_n 0, 1) := by decide +kernel
theorem dX9_say_5 : decode cX9_say 5 = .ok (.getfield 207, 3) := by decide +kernel
theorem dX9_say_8 : decode cX9_say 8 = .ok (.lmul, 1) := by decide +kernel
theorem dX9_say_9 : decode cX9_say 9 = .ok (.lload_n 1, 1) := by decide +kernel
theorem dX9_say_10 : decode cX9_say 10 = .ok (.ladd, 1) := by decide +kernel
theorem dX9_say_11 : decode cX9_say 11 = .ok (.putfield 207, 3) := by decide +kernel
theorem dX9_say_14 : decode cX9_say 14 = .ok (.return_, 1) := by decide +kernel
theorem dX9_digest_0 : decode cX9_digest 0 = .ok (.aload_n 0, 1) := by decide +kernel
theorem dX9_digest_1 : decode cX9_digest 1 = .ok (.ldc2_w 211, 3) := by decide +kernel
theorem dX9_digest_4 : decode cX9_digest 4 = .ok (.putfield 207, 3) := by decide +kernel
theorem dX9_digest_7 : decode cX9_digest 7 = .ok (.iconst 0, 1) := by decide +kernel
theorem dX9_digest_8 : decode cX9_digest 8 = .ok (.istore_n 1, 1) := by decide +kernel
theorem dX9_digest_9 : decode cX9_digest 9 = .ok (.iload_n 1, 1) := by decide +kernel
theorem dX9_digest_10 : decode cX9_digest 10 = .ok (.aload_n 0, 1) := by decide +kernel
theorem dX9_digest_11 : decode cX9_digest 11 = .ok (.getfield 72, 3) := by decide +kernel
theorem dX9_digest_14 : decode cX9_digest 14 = .ok (.if_icmp .ge 69, 3) := by decide +kernel
theorem dX9_digest_17 : decode cX9_digest 17 = .ok (.iconst 0, 1) := by decide +kernel
theorem dX9_digest_18 : decode cX9_digest 18 = .ok (.istore_n 2, 1) := by decide +kernel
theorem dX9_digest_19 : decode cX9_digest 19 = .ok (.iload_n 2, 1) := by decide +kernel
theorem dX9_digest_20 : decode cX9_digest 20 = .ok (.bipush 8, 2) := by decide +kernel
theorem dX9_digest_22 : decode cX9_digest 22 = .ok (.if_icmp .ge 20, 3) := by decide +kernel
theorem dX9_digest_25 : decode cX9_digest 25 = .ok (.aload_n 0, 1) := by decide +kernel
theorem dX9_digest_26 : decode cX9_digest 26 = .ok (.aload_n 0, 1) := by decide +kernel
theorem dX9_digest_27 : decode cX9_digest 27 = .ok (.iload_n 1, 1) := by decide +kernel
theorem dX9_digest_28 : decode cX9_digest 28 = .ok (.iload_n 2, 1) := by decide +kernel
theorem dX9_digest_29 : decode cX9_digest 29 = .ok (.invokevirtual 143, 3) := by decide +kernel
theorem dX9_digest_32 : decode cX9_digest 32 = .ok (.i2l, 1) := by decide +kernel
theorem dX9_digest_33 : decode cX9_digest 33 = .ok (.invokevirtual 213, 3) := by decide +kernel
theorem dX9_digest_36 : decode cX9_digest 36 = .ok (.iinc 2 1, 3) := by decide +kernel
theorem dX9_digest_39 : decode cX9_digest 39 = .ok (.goto (-20), 3) := by decide +kernel
theorem dX9_digest_42 : decode cX9_digest 42 = .ok (.aload_n 0, 1) := by decide +kernel
theorem dX9_digest_43 : decode cX9_digest 43 = .ok (.aload_n 0, 1) := by decide +kernel
theorem dX9_digest_44 : decode cX9_digest 44 = .ok (.iload_n 1, 1) := by decide +kernel
theorem dX9_digest_45 : decode cX9_digest 45 = .ok (.iconst 0, 1) := by decide +kernel
theorem dX9_digest_46 : decode cX9_digest 46 = .ok (.invokevirtual 118, 3) := by decide +kernel
theorem dX9_digest_49 : decode cX9_digest 49 = .ok (.i2l, 1) := by decide +kernel
theorem dX9_digest_50 : decode cX9_digest 50 = .ok (.invokevirtual 213, 3) := by decide +kernel
theorem dX9_digest_53 : decode cX9_digest 53 = .ok (.aload_n 0, 1) := by decide +kernel
theorem dX9_digest_54 : decode cX9_digest 54 = .ok (.aload_n 0, 1) := by decide +kernel
theorem dX9_digest_55 : decode cX9_digest 55 = .ok (.iload_n 1, 1) := by decide +kernel
theorem dX9_digest_56 : decode cX9_digest 56 = .ok (.bipush 14, 2) := by decide +kernel
theorem dX9_digest_58 : decode cX9_digest 58 = .ok (.invokevirtual 118, 3) := by decide +kernel
theorem dX9_digest_61 : decode cX9_digest 61 = .ok (.i2l, 1) := by decide +kernel
theorem dX9_digest_62 : decode cX9_digest 62 = .ok (.invokevirtual 213, 3) := by decide +kernel
theorem dX9_digest_65 : decode cX9_digest 65 = .ok (.aload_n 0, 1) := by decide +kernel
theorem dX9_digest_66 : decode cX9_digest 66 = .ok (.aload_n 0, 1) := by decide +kernel
theorem dX9_digest_67 : decode cX9_digest 67 = .ok (.iload_n 1, 1) := by decide +kernel
theorem dX9_digest_68 : decode cX9_digest 68 = .ok (.bipush 35, 2) := by decide +kernel
theorem dX9_digest_70 : decode cX9_digest 70 = .ok (.invokevirtual 118, 3) := by decide +kernel
theorem dX9_digest_73 : decode cX9_digest 73 = .ok (.i2l, 1) := by decide +kernel
theorem dX9_digest_74 : decode cX9_digest 74 = .ok (.invokevirtual 213, 3) := by decide +kernel
theorem dX9_digest_77 : decode cX9_digest 77 = .ok (.iinc 1 1, 3) := by decide +kernel
theorem dX9_digest_80 : decode cX9_digest 80 = .ok (.goto (-71), 3) := by decide +kernel
theorem dX9_digest_83 : decode cX9_digest 83 = .ok (.aload_n 0, 1) := by decide +kernel
theorem dX9_digest_84 : decode cX9_digest 84 = .ok (.invokevirtual 93, 3) := by decide +kernel
theorem dX9_digest_87 : decode cX9_digest 87 = .ok (.ifCond .ne 47, 3) := by decide +kernel
theorem dX9_digest_90 : decode cX9_digest 90 = .ok (.aload_n 0, 1) := by decide +kernel
theorem dX9_digest_91 : decode cX9_digest 91 = .ok (.aload_n 0, 1) := by decide +kernel
theorem dX9_digest_92 : decode cX9_digest 92 = .ok (.iconst 0, 1) := by decide +kernel
theorem dX9_digest_93 : decode cX9_digest 93 = .ok (.invokevirtual 137, 3) := by decide +kernel
theorem dX9_digest_96 : decode cX9_digest 96 = .ok (.i2l, 1) := by decide +kernel
theorem dX9_digest_97 : decode cX9_digest 97 = .ok (.invokevirtual 213, 3) := by decide +kernel
theorem dX9_digest_100 : decode cX9_digest 100 = .ok (.iconst 0, 1) := by decide +kernel
theorem dX9_digest_101 : decode cX9_digest 101 = .ok (.istore_n 1, 1) := by decide +kernel
theorem dX9_digest_102 : decode cX9_digest 102 = .ok (.iload_n 1, 1) := by decide +kernel
theorem dX9_digest_103 : decode cX9_digest 103 = .ok (.bipush 36, 2) := by decide +kernel
theorem dX9_digest_105 : decode cX9_digest 105 = .ok (.if_icmp .ge 20, 3) := by decide +kernel
theorem dX9_digest_108 : decode cX9_digest 108 = .ok (.aload_n 0, 1) := by decide +kernel
theorem dX9_digest_109 : decode cX9_digest 109 = .ok (.aload_n 0, 1) := by decide +kernel
theorem dX9_digest_110 : decode cX9_digest 110 = .ok (.getfield 16, 3) := by decide +kernel
theorem dX9_digest_113 : decode cX9_digest 113 = .ok (.iload_n 1, 1) := by decide +kernel
theorem dX9_digest_114 : decode cX9_digest 114 = .ok (.iaload, 1) := by decide +kernel
theorem dX9_digest_115 : decode cX9_digest 115 = .ok (.i2l, 1) := by decide +kernel
theorem dX9_digest_116 : decode cX9_digest 116 = .ok (.invokevirtual 213, 3) := by decide +kernel
theorem dX9_digest_119 : decode cX9_digest 119 = .ok (.iinc 1 1, 3) := by decide +kernel
theorem dX9_digest_122 : decode cX9_digest 122 = .ok (.goto (-20), 3) := by decide +kernel
theorem dX9_digest_125 : decode cX9_digest 125 = .ok (.aload_n 0, 1) := by decide +kernel
theorem dX9_digest_126 : decode cX9_digest 126 = .ok (.aload_n 0, 1) := by decide +kernel
theorem dX9_digest_127 : decode cX9_digest 127 = .ok (.invokevirtual 156, 3) := by decide +kernel
theorem dX9_digest_130 : decode cX9_digest 130 = .ok (.i2l, 1) := by decide +kernel
theorem dX9_digest_131 : decode cX9_digest 131 = .ok (.invokevirtual 213, 3) := by decide +kernel
theorem dX9_digest_134 : decode cX9_digest 134 = .ok (.iconst 0, 1) := by decide +kernel
theorem dX9_digest_135 : decode cX9_digest 135 = .ok (.istore_n 1, 1) := by decide +kernel
theorem dX9_digest_136 : decode cX9_digest 136 = .ok (.iload_n 1, 1) := by decide +kernel
theorem dX9_digest_137 : decode cX9_digest 137 = .ok (.aload_n 0, 1) := by decide +kernel
theorem dX9_digest_138 : decode cX9_digest 138 = .ok (.getfield 47, 3) := by decide +kernel
theorem dX9_digest_141 : decode cX9_digest 141 = .ok (.if_icmp .ge 20, 3) := by decide +kernel
theorem dX9_digest_144 : decode cX9_digest 144 = .ok (.aload_n 0, 1) := by decide +kernel
theorem dX9_digest_145 : decode cX9_digest 145 = .ok (.aload_n 0, 1) := by decide +kernel
theorem dX9_digest_146 : decode cX9_digest 146 = .ok (.getfield 7, 3) := by decide +kernel
theorem dX9_digest_149 : decode cX9_digest 149 = .ok (.iload_n 1, 1) := by decide +kernel
theorem dX9_digest_150 : decode cX9_digest 150 = .ok (.iaload, 1) := by decide +kernel
theorem dX9_digest_151 : decode cX9_digest 151 = .ok (.i2l, 1) := by decide +kernel
theorem dX9_digest_152 : decode cX9_digest 152 = .ok (.invokevirtual 213, 3) := by decide +kernel
theorem dX9_digest_155 : decode cX9_digest 155 = .ok (.iinc 1 1, 3) := by decide +kernel
theorem dX9_digest_158 : decode cX9_digest 158 = .ok (.goto (-22), 3) := by decide +kernel
theorem dX9_digest_161 : decode cX9_digest 161 = .ok (.iconst 0, 1) := by decide +kernel
theorem dX9_digest_162 : decode cX9_digest 162 = .ok (.istore_n 1, 1) := by decide +kernel
theorem dX9_digest_163 : decode cX9_digest 163 = .ok (.iload_n 1, 1) := by decide +kernel
theorem dX9_digest_164 : decode cX9_digest 164 = .ok (.bipush 9, 2) := by decide +kernel
theorem dX9_digest_166 : decode cX9_digest 166 = .ok (.if_icmp .ge 19, 3) := by decide +kernel
theorem dX9_digest_169 : decode cX9_digest 169 = .ok (.aload_n 0, 1) := by decide +kernel
theorem dX9_digest_170 : decode cX9_digest 170 = .ok (.aload_n 0, 1) := by decide +kernel
theorem dX9_digest_171 : decode cX9_digest 171 = .ok (.iload_n 1, 1) := by decide +kernel
theorem dX9_digest_172 : decode cX9_digest 172 = .ok (.invokevirtual 202, 3) := by decide +kernel
theorem dX9_digest_175 : decode cX9_digest 175 = .ok (.i2l, 1) := by decide +kernel
theorem dX9_digest_176 : decode cX9_digest 176 = .ok (.invokevirtual 213, 3) := by decide +kernel
theorem dX9_digest_179 : decode cX9_digest 179 = .ok (.iinc 1 1, 3) := by decide +kernel
theorem dX9_digest_182 : decode cX9_digest 182 = .ok (.goto (-19), 3) := by decide +kernel
theorem dX9_digest_185 : decode cX9_digest 185 = .ok (.aload_n 0, 1) := by decide +kernel
theorem dX9_digest_186 : decode cX9_digest 186 = .ok (.getfield 207, 3) := by decide +kernel
theorem dX9_digest_189 : decode cX9_digest 189 = .ok (.lreturn, 1) := by decide +kernel
theorem dJ11_isValidCodePoint_9a6ad_0 : decode cJ11_isValidCodePoint_9a6ad 0 = .ok (.iload_n 0, 1) := by decide +kernel
theorem dJ11_isValidCodePoint_9a6ad_1 : decode cJ11_isValidCodePoint_9a6ad 1 = .ok (.bipush 16, 2) := by decide +kernel
theorem dJ11_isValidCodePoint_9a6ad_3 : decode cJ11_isValidCodePoint_9a6ad 3 = .ok (.iushr, 1) := by decide +kernel
theorem dJ11_isValidCodePoint_9a6ad_4 : decode cJ11_isValidCodePoint_9a6ad 4 = .ok (.istore_n 1, 1) := by decide +kernel
theorem dJ11_isValidCodePoint_9a6ad_5 : decode cJ11_isValidCodePoint_9a6ad 5 = .ok (.iload_n 1, 1) := by decide +kernel
theorem dJ11_isValidCodePoint_9a6ad_6 : decode cJ11_isValidCodePoint_9a6ad 6 = .ok (.bipush 17, 2) := by decide +kernel
theorem dJ11_isValidCodePoint_9a6ad_8 : decode cJ11_isValidCodePoint_9a6ad 8 = .ok (.if_icmp .ge 7, 3) := by decide +kernel
theorem dJ11_isValidCodePoint_9a6ad_11 : decode cJ11_isValidCodePoint_9a6ad 11 = .ok (.iconst 1, 1) := by decide +kernel
theorem dJ11_isValidCodePoint_9a6ad_12 : decode cJ11_isValidCodePoint_9a6ad 12 = .ok (.goto 4, 3) := by decide +kernel
theorem dJ11_isValidCodePoint_9a6ad_15 : decode cJ11_isValidCodePoint_9a6ad 15 = .ok (.iconst 0, 1) := by decide +kernel
theorem dJ11_isValidCodePoint_9a6ad_16 : decode cJ11_isValidCodePoint_9a6ad 16 = .ok (.ireturn, 1) := by decide +kernel
theorem dJ11_highSurrogate_5068e_0 : decode cJ11_highSurrogate_5068e 0 = .ok (.iload_n 0, 1) := by decide +kernel
theorem dJ11_highSurrogate_5068e_1 : decode cJ11_highSurrogate_5068e 1 = .ok (.bipush 10, 2) := by decide +kernel
theorem dJ11_highSurrogate_5068e_3 : decode cJ11_highSurrogate_5068e 3 = .ok (.iushr, 1) := by decide +kernel
theorem dJ11_highSurrogate_5068e_4 : decode cJ11_highSurrogate_5068e 4 = .ok (.ldc 110, 2) := by decide +kernel
theorem dJ11_highSurrogate_5068e_6 : decode cJ11_highSurrogate_5068e 6 = .ok (.iadd, 1) := by decide +kernel
theorem dJ11_highSurrogate_5068e_7 : decode cJ11_highSurrogate_5068e 7 = .ok (.i2c, 1) := by decide +kernel
theorem dJ11_highSurrogate_5068e_8 : decode cJ11_highSurrogate_5068e 8 = .ok (.ireturn, 1) := by decide +kernel
theorem dJ11_lowSurrogate_5068e_0 : decode cJ11_lowSurrogate_5068e 0 = .ok (.iload_n 0, 1) := by decide +kernel
theorem dJ11_lowSurrogate_5068e_1 : decode cJ11_lowSurrogate_5068e 1 = .ok (.sipush 1023, 3) := by decide +kernel
theorem dJ11_lowSurrogate_5068e_4 : decode cJ11_lowSurrogate_5068e 4 = .ok (.iand, 1) := by decide +kernel
theorem dJ11_lowSurrogate_5068e_5 : decode cJ11_lowSurrogate_5068e 5 = .ok (.ldc 76, 2) := by decide +kernel
theorem dJ11_lowSurrogate_5068e_7 : decode cJ11_lowSurrogate_5068e 7 = .ok (.iadd, 1) := by decide +kernel
theorem dJ11_lowSurrogate_5068e_8 : decode cJ11_lowSurrogate_5068e 8 = .ok (.i2c, 1) := by decide +kernel
theorem dJ11_lowSurrogate_5068e_9 : decode cJ11_lowSurrogate_5068e 9 = .ok (.ireturn, 1) := by decide +kernel
theorem dJ13_bitCount_95d88_0 : decode cJ13_bitCount_95d88 0 = .ok (.lload_n 0, 1) := by decide +kernel
theorem dJ13_bitCount_95d88_1 : decode cJ13_bitCount_95d88 1 = .ok (.lload_n 0, 1) := by decide +kernel
theorem dJ13_bitCount_95d88_2 : decode cJ13_bitCount_95d88 2 = .ok (.iconst 1, 1) := by decide +kernel
theorem dJ13_bitCount_95d88_3 : decode cJ13_bitCount_95d88 3 = .ok (.lushr, 1) := by decide +kernel
theorem dJ13_bitCount_95d88_4 : decode cJ13_bitCount_95d88 4 = .ok (.ldc2_w 314, 3) := by decide +kernel
theorem dJ13_bitCount_95d88_7 : decode cJ13_bitCount_95d88 7 = .ok (.land, 1) := by decide +kernel
theorem dJ13_bitCount_95d88_8 : decode cJ13_bitCount_95d88 8 = .ok (.lsub, 1) := by decide +kernel
theorem dJ13_bitCount_95d88_9 : decode cJ13_bitCount_95d88 9 = .ok (.lstore_n 0, 1) := by decide +kernel
theorem dJ13_bitCount_95d88_10 : decode cJ13_bitCount_95d88 10 = .ok (.lload_n 0, 1) := by decide +kernel
theorem dJ13_bitCount_95d88_11 : decode cJ13_bitCount_95d88 11 = .ok (.ldc2_w 316, 3) := by decide +kernel
theorem dJ13_bitCount_95d88_14 : decode cJ13_bitCount_95d88 14 = .ok (.land, 1) := by decide +kernel
theorem dJ13_bitCount_95d88_15 : decode cJ13_bitCount_95d88 15 = .ok (.lload_n 0, 1) := by decide +kernel
theorem dJ13_bitCount_95d88_16 : decode cJ13_bitCount_95d88 16 = .ok (.iconst 2, 1) := by decide +kernel
theorem dJ13_bitCount_95d88_17 : decode cJ13_bitCount_95d88 17 = .ok (.lushr, 1) := by decide +kernel
theorem dJ13_bitCount_95d88_18 : decode cJ13_bitCount_95d88 18 = .ok (.ldc2_w 316, 3) := by decide +kernel
theorem dJ13_bitCount_95d88_21 : decode cJ13_bitCount_95d88 21 = .ok (.land, 1) := by decide +kernel
theorem dJ13_bitCount_95d88_22 : decode cJ13_bitCount_95d88 22 = .ok (.ladd, 1) := by decide +kernel
theorem dJ13_bitCount_95d88_23 : decode cJ13_bitCount_95d88 23 = .ok (.lstore_n 0, 1) := by decide +kernel
theorem dJ13_bitCount_95d88_24 : decode cJ13_bitCount_95d88 24 = .ok (.lload_n 0, 1) := by decide +kernel
theorem dJ13_bitCount_95d88_25 : decode cJ13_bitCount_95d88 25 = .ok (.lload_n 0, 1) := by decide +kernel
theorem dJ13_bitCount_95d88_26 : decode cJ13_bitCount_95d88 26 = .ok (.iconst 4, 1) := by decide +kernel
theorem dJ13_bitCount_95d88_27 : decode cJ13_bitCount_95d88 27 = .ok (.lushr, 1) := by decide +kernel
theorem dJ13_bitCount_95d88_28 : decode cJ13_bitCount_95d88 28 = .ok (.ladd, 1) := by decide +kernel
theorem dJ13_bitCount_95d88_29 : decode cJ13_bitCount_95d88 29 = .ok (.ldc2_w 318, 3) := by decide +kernel
theorem dJ13_bitCount_95d88_32 : decode cJ13_bitCount_95d88 32 = .ok (.land, 1) := by decide +kernel
theorem dJ13_bitCount_95d88_33 : decode cJ13_bitCount_95d88 33 = .ok (.lstore_n 0, 1) := by decide +kernel
theorem dJ13_bitCount_95d88_34 : decode cJ13_bitCount_95d88 34 = .ok (.lload_n 0, 1) := by decide +kernel
theorem dJ13_bitCount_95d88_35 : decode cJ13_bitCount_95d88 35 = .ok (.lload_n 0, 1) := by decide +kernel
theorem dJ13_bitCount_95d88_36 : decode cJ13_bitCount_95d88 36 = .ok (.bipush 8, 2) := by decide +kernel
theorem dJ13_bitCount_95d88_38 : decode cJ13_bitCount_95d88 38 = .ok (.lushr, 1) := by decide +kernel
theorem dJ13_bitCount_95d88_39 : decode cJ13_bitCount_95d88 39 = .ok (.ladd, 1) := by decide +kernel
theorem dJ13_bitCount_95d88_40 : decode cJ13_bitCount_95d88 40 = .ok (.lstore_n 0, 1) := by decide +kernel
theorem dJ13_bitCount_95d88_41 : decode cJ13_bitCount_95d88 41 = .ok (.lload_n 0, 1) := by decide +kernel
theorem dJ13_bitCount_95d88_42 : decode cJ13_bitCount_95d88 42 = .ok (.lload_n 0, 1) := by decide +kernel
theorem dJ13_bitCount_95d88_43 : decode cJ13_bitCount_95d88 43 = .ok (.bipush 16, 2) := by decide +kernel
theorem dJ13_bitCount_95d88_45 : decode cJ13_bitCount_95d88 45 = .ok (.lushr, 1) := by decide +kernel
theorem dJ13_bitCount_95d88_46 : decode cJ13_bitCount_95d88 46 = .ok (.ladd, 1) := by decide +kernel
theorem dJ13_bitCount_95d88_47 : decode cJ13_bitCount_95d88 47 = .ok (.lstore_n 0, 1) := by decide +kernel
theorem dJ13_bitCount_95d88_48 : decode cJ13_bitCount_95d88 48 = .ok (.lload_n 0, 1) := by decide +kernel
theorem dJ13_bitCount_95d88_49 : decode cJ13_bitCount_95d88 49 = .ok (.lload_n 0, 1) := by decide +kernel
theorem dJ13_bitCount_95d88_50 : decode cJ13_bitCount_95d88 50 = .ok (.bipush 32, 2) := by decide +kernel
theorem dJ13_bitCount_95d88_52 : decode cJ13_bitCount_95d88 52 = .ok (.lushr, 1) := by decide +kernel
theorem dJ13_bitCount_95d88_53 : decode cJ13_bitCount_95d88 53 = .ok (.ladd, 1) := by decide +kernel
theorem dJ13_bitCount_95d88_54 : decode cJ13_bitCount_95d88 54 = .ok (.lstore_n 0, 1) := by decide +kernel
theorem dJ13_bitCount_95d88_55 : decode cJ13_bitCount_95d88 55 = .ok (.lload_n 0, 1) := by decide +kernel
theorem dJ13_bitCount_95d88_56 : decode cJ13_bitCount_95d88 56 = .ok (.l2i, 1) := by decide +kernel
theorem dJ13_bitCount_95d88_57 : decode cJ13_bitCount_95d88 57 = .ok (.bipush 127, 2) := by decide +kernel
theorem dJ13_bitCount_95d88_59 : decode cJ13_bitCount_95d88 59 = .ok (.iand, 1) := by decide +kernel
theorem dJ13_bitCount_95d88_60 : decode cJ13_bitCount_95d88 60 = .ok (.ireturn, 1) := by decide +kernel
theorem dJ9_max_7cf53_0 : decode cJ9_max_7cf53 0 = .ok (.iload_n 0, 1) := by decide +kernel
theorem dJ9_max_7cf53_1 : decode cJ9_max_7cf53 1 = .ok (.iload_n 1, 1) := by decide +kernel
theorem dJ9_max_7cf53_2 : decode cJ9_max_7cf53 2 = .ok (.if_icmp .lt 7, 3) := by decide +kernel
theorem dJ9_max_7cf53_5 : decode cJ9_max_7cf53 5 = .ok (.iload_n 0, 1) := by decide +kernel
theorem dJ9_max_7cf53_6 : decode cJ9_max_7cf53 6 = .ok (.goto 4, 3) := by decide +kernel
theorem dJ9_max_7cf53_9 : decode cJ9_max_7cf53 9 = .ok (.iload_n 1, 1) := by decide +kernel
theorem dJ9_max_7cf53_10 : decode cJ9_max_7cf53 10 = .ok (.ireturn, 1) := by decide +kernel
theorem dJ9_min_7cf53_0 : decode cJ9_min_7cf53 0 = .ok (.iload_n 0, 1) := by decide +kernel
theorem dJ9_min_7cf53_1 : decode cJ9_min_7cf53 1 = .ok (.iload_n 1, 1) := by decide +kernel
theorem dJ9_min_7cf53_2 : decode cJ9_min_7cf53 2 = .ok (.if_icmp .gt 7, 3) := by decide +kernel
theorem dJ9_min_7cf53_5 : decode cJ9_min_7cf53 5 = .ok (.iload_n 0, 1) := by decide +kernel
theorem dJ9_min_7cf53_6 : decode cJ9_min_7cf53 6 = .ok (.goto 4, 3) := by decide +kernel
theorem dJ9_min_7cf53_9 : decode cJ9_min_7cf53 9 = .ok (.iload_n 1, 1) := by decide +kernel
theorem dJ9_min_7cf53_10 : decode cJ9_min_7cf53 10 = .ok (.ireturn, 1) := by decide +kernel
theorem dJ0_length_8abf5_0 : decode cJ0_length_8abf5 0 = .ok (.aload_n 0, 1) := by decide +kernel
theorem dJ0_length_8abf5_1 : decode cJ0_length_8abf5 1 = .ok (.getfield 9, 3) := by decide +kernel
theorem dJ0_length_8abf5_4 : decode cJ0_length_8abf5 4 = .ok (.arraylength, 1) := by decide +kernel
theorem dJ0_length_8abf5_5 : decode cJ0_length_8abf5 5 = .ok (.aload_n 0, 1) := by decide +kernel
theorem dJ0_length_8abf5_6 : decode cJ0_length_8abf5 6 = .ok (.invokevirtual 335, 3) := by decide +kernel
theorem dJ0_length_8abf5_9 : decode cJ0_length_8abf5 9 = .ok (.ishr, 1) := by decide +kernel
theorem dJ0_length_8abf5_10 : decode cJ0_length_8abf5 10 = .ok (.ireturn, 1) := by decide +kernel
theorem dJ0_indexOf_0f7a4_0 : decode cJ0_indexOf_0f7a4 0 = .ok (.aload_n 0, 1) := by decide +kernel
theorem dJ0_indexOf_0f7a4_1 : decode cJ0_indexOf_0f7a4 1 = .ok (.iload_n 1, 1) := by decide +kernel
theorem dJ0_indexOf_0f7a4_2 : decode cJ0_indexOf_0f7a4 2 = .ok (.iconst 0, 1) := by decide +kernel
theorem dJ0_indexOf_0f7a4_3 : decode cJ0_indexOf_0f7a4 3 = .ok (.invokevirtual 633, 3) := by decide +kernel
theorem dJ0_indexOf_0f7a4_6 : decode cJ0_indexOf_0f7a4 6 = .ok (.ireturn, 1) := by decide +kernel
theorem dJ0_indexOf_7cf53_0 : decode cJ0_indexOf_7cf53 0 = .ok (.aload_n 0, 1) := by decide +kernel
theorem dJ0_indexOf_7cf53_1 : decode cJ0_indexOf_7cf53 1 = .ok (.invokevirtual 492, 3) := by decide +kernel
theorem dJ0_indexOf_7cf53_4 : decode cJ0_indexOf_7cf53 4 = .ok (.ifCond .eq 19, 3) := by decide +kernel
theorem dJ0_indexOf_7cf53_7 : decode cJ0_indexOf_7cf53 7 = .ok (.aload_n 0, 1) := by decide +kernel
theorem dJ0_indexOf_7cf53_8 : decode cJ0_indexOf_7cf53 8 = .ok (.getfield 9, 3) := by decide +kernel
theorem dJ0_indexOf_7cf53_11 : decode cJ0_indexOf_7cf53 11 = .ok (.iload_n 1, 1) := by decide +kernel
theorem dJ0_indexOf_7cf53_12 : decode cJ0_indexOf_7cf53 12 = .ok (.iload_n 2, 1) := by decide +kernel
theorem dJ0_indexOf_7cf53_13 : decode cJ0_indexOf_7cf53 13 = .ok (.aload_n 0, 1) := by decide +kernel
theorem dJ0_indexOf_7cf53_14 : decode cJ0_indexOf_7cf53 14 = .ok (.invokevirtual 505, 3) := by decide +kernel
theorem dJ0_indexOf_7cf53_17 : decode cJ0_indexOf_7cf53 17 = .ok (.invokestatic 637, 3) := by decide +kernel
theorem dJ0_indexOf_7cf53_20 : decode cJ0_indexOf_7cf53 20 = .ok (.goto 16, 3) := by decide +kernel
theorem dJ0_indexOf_7cf53_23 : decode cJ0_indexOf_7cf53 23 = .ok (.aload_n 0, 1) := by decide +kernel
theorem dJ0_indexOf_7cf53_24 : decode cJ0_indexOf_7cf53 24 = .ok (.getfield 9, 3) := by decide +kernel
theorem dJ0_indexOf_7cf53_27 : decode cJ0_indexOf_7cf53 27 = .ok (.iload_n 1, 1) := by decide +kernel
theorem dJ0_indexOf_7cf53_28 : decode cJ0_indexOf_7cf53 28 = .ok (.iload_n 2, 1) := by decide +kernel
theorem dJ0_indexOf_7cf53_29 : decode cJ0_indexOf_7cf53 29 = .ok (.aload_n 0, 1) := by decide +kernel
theorem dJ0_indexOf_7cf53_30 : decode cJ0_indexOf_7cf53 30 = .ok (.invokevirtual 505, 3) := by decide +kernel
theorem dJ0_indexOf_7cf53_33 : decode cJ0_indexOf_7cf53 33 = .ok (.invokestatic 640, 3) := by decide +kernel
theorem dJ0_indexOf_7cf53_36 : decode cJ0_indexOf_7cf53 36 = .ok (.ireturn, 1) := by decide +kernel
theorem dJ0_coder_7d493_0 : decode cJ0_coder_7d493 0 = .ok (.getstatic 38, 3) := by decide +kernel
theorem dJ0_coder_7d493_3 : decode cJ0_coder_7d493 3 = .ok (.ifCond .eq 10, 3) := by decide +kernel
theorem dJ0_coder_7d493_6 : decode cJ0_coder_7d493 6 = .ok (.aload_n 0, 1) := by decide +kernel
theorem dJ0_coder_7d493_7 : decode cJ0_coder_7d493 7 = .ok (.getfield 15, 3) := by decide +kernel
theorem dJ0_coder_7d493_10 : decode cJ0_coder_7d493 10 = .ok (.goto 4, 3) := by decide +kernel
theorem dJ0_coder_7d493_13 : decode cJ0_coder_7d493 13 = .ok (.iconst 1, 1) := by decide +kernel
theorem dJ0_coder_7d493_14 : decode cJ0_coder_7d493 14 = .ok (.ireturn, 1) := by decide +kernel
theorem dJ0_isLatin1_aae02_0 : decode cJ0_isLatin1_aae02 0 = .ok (.getstatic 38, 3) := by decide +kernel
theorem dJ0_isLatin1_aae02_3 : decode cJ0_isLatin1_aae02 3 = .ok (.ifCond .eq 14, 3) := by decide +kernel
theorem dJ0_isLatin1_aae02_6 : decode cJ0_isLatin1_aae02 6 = .ok (.aload_n 0, 1) := by decide +kernel
theorem dJ0_isLatin1_aae02_7 : decode cJ0_isLatin1_aae02 7 = .ok (.getfield 15, 3) := by decide +kernel
theorem dJ0_isLatin1_aae02_10 : decode cJ0_isLatin1_aae02 10 = .ok (.ifCond .ne 7, 3) := by decide +kernel
theorem dJ0_isLatin1_aae02_13 : decode cJ0_isLatin1_aae02 13 = .ok (.iconst 1, 1) := by decide +kernel
theorem dJ0_isLatin1_aae02_14 : decode cJ0_isLatin1_aae02 14 = .ok (.goto 4, 3) := by decide +kernel
theorem dJ0_isLatin1_aae02_17 : decode cJ0_isLatin1_aae02 17 = .ok (.iconst 0, 1) := by decide +kernel
theorem dJ0_isLatin1_aae02_18 : decode cJ0_isLatin1_aae02 18 = .ok (.ireturn, 1) := by decide +kernel
theorem dJ0_checkBoundsBeginEnd_23922_0 : decode cJ0_checkBoundsBeginEnd_23922 0 = .ok (.iload_n 0, 1) := by decide +kernel
theorem dJ0_checkBoundsBeginEnd_23922_1 : decode cJ0_checkBoundsBeginEnd_23922 1 = .ok (.iload_n 1, 1) := by decide +kernel
theorem dJ0_checkBoundsBeginEnd_23922_2 : decode cJ0_checkBoundsBeginEnd_23922 2 = .ok (.iload_n 2, 1) := by decide +kernel
theorem dJ0_checkBoundsBeginEnd_23922_3 : decode cJ0_checkBoundsBeginEnd_23922 3 = .ok (.getstatic 1053, 3) := by decide +kernel
theorem dJ0_checkBoundsBeginEnd_23922_6 : decode cJ0_checkBoundsBeginEnd_23922 6 = .ok (.invokestatic 1062, 3) := by decide +kernel
theorem dJ0_checkBoundsBeginEnd_23922_9 : decode cJ0_checkBoundsBeginEnd_23922 9 = .ok (.pop, 1) := by decide +kernel
theorem dJ0_checkBoundsBeginEnd_23922_10 : decode cJ0_checkBoundsBeginEnd_23922 10 = .ok (.return_, 1) := by decide +kernel
theorem dJ1_canEncode_9a6ad_0 : decode cJ1_canEncode_9a6ad 0 = .ok (.iload_n 0, 1) := by decide +kernel
theorem dJ1_canEncode_9a6ad_1 : decode cJ1_canEncode_9a6ad 1 = .ok (.ifCond .lt 14, 3) := by decide +kernel
theorem dJ1_canEncode_9a6ad_4 : decode cJ1_canEncode_9a6ad 4 = .ok (.iload_n 0, 1) := by decide +kernel
theorem dJ1_canEncode_9a6ad_5 : decode cJ1_canEncode_9a6ad 5 = .ok (.sipush 255, 3) := by decide +kernel
theorem dJ1_canEncode_9a6ad_8 : decode cJ1_canEncode_9a6ad 8 = .ok (.if_icmp .gt 7, 3) := by decide +kernel
theorem dJ1_canEncode_9a6ad_11 : decode cJ1_canEncode_9a6ad 11 = .ok (.iconst 1, 1) := by decide +kernel
theorem dJ1_canEncode_9a6ad_12 : decode cJ1_canEncode_9a6ad 12 = .ok (.goto 4, 3) := by decide +kernel
theorem dJ1_canEncode_9a6ad_15 : decode cJ1_canEncode_9a6ad 15 = .ok (.iconst 0, 1) := by decide +kernel
theorem dJ1_canEncode_9a6ad_16 : decode cJ1_canEncode_9a6ad 16 = .ok (.ireturn, 1) := by decide +kernel
theorem dJ1_indexOf_4cfef_0 : decode cJ1_indexOf_4cfef 0 = .ok (.iload_n 1, 1) := by decide +kernel
theorem dJ1_indexOf_4cfef_1 : decode cJ1_indexOf_4cfef 1 = .ok (.invokestatic 88, 3) := by decide +kernel
theorem dJ1_indexOf_4cfef_4 : decode cJ1_indexOf_4cfef 4 = .ok (.ifCond .ne 5, 3) := by decide +kernel
theorem dJ1_indexOf_4cfef_7 : decode cJ1_indexOf_4cfef 7 = .ok (.iconst (-1), 1) := by decide +kernel
theorem dJ1_indexOf_4cfef_8 : decode cJ1_indexOf_4cfef 8 = .ok (.ireturn, 1) := by decide +kernel
theorem dJ1_indexOf_4cfef_9 : decode cJ1_indexOf_4cfef 9 = .ok (.iload_n 2, 1) := by decide +kernel
theorem dJ1_indexOf_4cfef_10 : decode cJ1_indexOf_4cfef 10 = .ok (.iconst 0, 1) := by decide +kernel
theorem dJ1_indexOf_4cfef_11 : decode cJ1_indexOf_4cfef 11 = .ok (.invokestatic 92, 3) := by decide +kernel
theorem dJ1_indexOf_4cfef_14 : decode cJ1_indexOf_4cfef 14 = .ok (.istore_n 2, 1) := by decide +kernel
theorem dJ1_indexOf_4cfef_15 : decode cJ1_indexOf_4cfef 15 = .ok (.iload_n 3, 1) := by decide +kernel
theorem dJ1_indexOf_4cfef_16 : decode cJ1_indexOf_4cfef 16 = .ok (.aload_n 0, 1) := by decide +kernel
theorem dJ1_indexOf_4cfef_17 : decode cJ1_indexOf_4cfef 17 = .ok (.arraylength, 1) := by decide +kernel
theorem dJ1_indexOf_4cfef_18 : decode cJ1_indexOf_4cfef 18 = .ok (.invokestatic 38, 3) := by decide +kernel
theorem dJ1_indexOf_4cfef_21 : decode cJ1_indexOf_4cfef 21 = .ok (.istore_n 3, 1) := by decide +kernel
theorem dJ1_indexOf_4cfef_22 : decode cJ1_indexOf_4cfef 22 = .ok (.iload_n 2, 1) := by decide +kernel
theorem dJ1_indexOf_4cfef_23 : decode cJ1_indexOf_4cfef 23 = .ok (.iload_n 3, 1) := by decide +kernel
theorem dJ1_indexOf_4cfef_24 : decode cJ1_indexOf_4cfef 24 = .ok (.if_icmp .lt 5, 3) := by decide +kernel
theorem dJ1_indexOf_4cfef_27 : decode cJ1_indexOf_4cfef 27 = .ok (.iconst (-1), 1) := by decide +kernel
theorem dJ1_indexOf_4cfef_28 : decode cJ1_indexOf_4cfef 28 = .ok (.ireturn, 1) := by decide +kernel
theorem dJ1_indexOf_4cfef_29 : decode cJ1_indexOf_4cfef 29 = .ok (.aload_n 0, 1) := by decide +kernel
theorem dJ1_indexOf_4cfef_30 : decode cJ1_indexOf_4cfef 30 = .ok (.iload_n 1, 1) := by decide +kernel
theorem dJ1_indexOf_4cfef_31 : decode cJ1_indexOf_4cfef 31 = .ok (.iload_n 2, 1) := by decide +kernel
theorem dJ1_indexOf_4cfef_32 : decode cJ1_indexOf_4cfef 32 = .ok (.iload_n 3, 1) := by decide +kernel
theorem dJ1_indexOf_4cfef_33 : decode cJ1_indexOf_4cfef 33 = .ok (.invokestatic 95, 3) := by decide +kernel
theorem dJ1_indexOf_4cfef_36 : decode cJ1_indexOf_4cfef 36 = .ok (.ireturn, 1) := by decide +kernel
theorem dJ1_indexOfChar_4cfef_0 : decode cJ1_indexOfChar_4cfef 0 = .ok (.iload_n 1, 1) := by decide +kernel
theorem dJ1_indexOfChar_4cfef_1 : decode cJ1_indexOfChar_4cfef 1 = .ok (.i2b, 1) := by decide +kernel
theorem dJ1_indexOfChar_4cfef_2 : decode cJ1_indexOfChar_4cfef 2 = .ok (.istore 4, 2) := by decide +kernel
theorem dJ1_indexOfChar_4cfef_4 : decode cJ1_indexOfChar_4cfef 4 = .ok (.iload_n 2, 1) := by decide +kernel
theorem dJ1_indexOfChar_4cfef_5 : decode cJ1_indexOfChar_4cfef 5 = .ok (.istore 5, 2) := by decide +kernel
theorem dJ1_indexOfChar_4cfef_7 : decode cJ1_indexOfChar_4cfef 7 = .ok (.iload 5, 2) := by decide +kernel
theorem dJ1_indexOfChar_4cfef_9 : decode cJ1_indexOfChar_4cfef 9 = .ok (.iload_n 3, 1) := by decide +kernel
theorem dJ1_indexOfChar_4cfef_10 : decode cJ1_indexOfChar_4cfef 10 = .ok (.if_icmp .ge 21, 3) := by decide +kernel
theorem dJ1_indexOfChar_4cfef_13 : decode cJ1_indexOfChar_4cfef 13 = .ok (.aload_n 0, 1) := by decide +kernel
theorem dJ1_indexOfChar_4cfef_14 : decode cJ1_indexOfChar_4cfef 14 = .ok (.iload 5, 2) := by decide +kernel
theorem dJ1_indexOfChar_4cfef_16 : decode cJ1_indexOfChar_4cfef 16 = .ok (.baload, 1) := by decide +kernel
theorem dJ1_indexOfChar_4cfef_17 : decode cJ1_indexOfChar_4cfef 17 = .ok (.iload 4, 2) := by decide +kernel
theorem dJ1_indexOfChar_4cfef_19 : decode cJ1_indexOfChar_4cfef 19 = .ok (.if_icmp .ne 6, 3) := by decide +kernel
theorem dJ1_indexOfChar_4cfef_22 : decode cJ1_indexOfChar_4cfef 22 = .ok (.iload 5, 2) := by decide +kernel
theorem dJ1_indexOfChar_4cfef_24 : decode cJ1_indexOfChar_4cfef 24 = .ok (.ireturn, 1) := by decide +kernel
theorem dJ1_indexOfChar_4cfef_25 : decode cJ1_indexOfChar_4cfef 25 = .ok (.iinc 5 1, 3) := by decide +kernel
theorem dJ1_indexOfChar_4cfef_28 : decode cJ1_indexOfChar_4cfef 28 = .ok (.goto (-21), 3) := by decide +kernel
theorem dJ1_indexOfChar_4cfef_31 : decode cJ1_indexOfChar_4cfef 31 = .ok (.iconst (-1), 1) := by decide +kernel
theorem dJ1_indexOfChar_4cfef_32 : decode cJ1_indexOfChar_4cfef 32 = .ok (.ireturn, 1) := by decide +kernel
theorem dJ2_getChar_3b067_0 : decode cJ2_getChar_3b067 0 = .ok (.getstatic 44, 3) := by decide +kernel
theorem dJ2_getChar_3b067_3 : decode cJ2_getChar_3b067 3 = .ok (.ifCond .ne 25, 3) := by decide +kernel
theorem dJ2_getChar_3b067_6 : decode cJ2_getChar_3b067 6 = .ok (.iload_n 1, 1) := by decide +kernel
theorem dJ2_getChar_3b067_7 : decode cJ2_getChar_3b067 7 = .ok (.ifCond .lt 11, 3) := by decide +kernel
theorem dJ2_getChar_3b067_10 : decode cJ2_getChar_3b067 10 = .ok (.iload_n 1, 1) := by decide +kernel
theorem dJ2_getChar_3b067_11 : decode cJ2_getChar_3b067 11 = .ok (.aload_n 0, 1) := by decide +kernel
theorem dJ2_getChar_3b067_12 : decode cJ2_getChar_3b067 12 = .ok (.invokestatic 48, 3) := by decide +kernel
theorem dJ2_getChar_3b067_15 : decode cJ2_getChar_3b067 15 = .ok (.if_icmp .lt 13, 3) := by decide +kernel
theorem dJ2_getChar_3b067_18 : decode cJ2_getChar_3b067 18 = .ok (.new 52, 3) := by decide +kernel
theorem dJ2_getChar_3b067_21 : decode cJ2_getChar_3b067 21 = .ok (.dup, 1) := by decide +kernel
theorem dJ2_getChar_3b067_22 : decode cJ2_getChar_3b067 22 = .ok (.ldc 54, 2) := by decide +kernel
theorem dJ2_getChar_3b067_24 : decode cJ2_getChar_3b067 24 = .ok (.invokespecial 56, 3) := by decide +kernel
theorem dJ2_getChar_3b067_27 : decode cJ2_getChar_3b067 27 = .ok (.athrow, 1) := by decide +kernel
theorem dJ2_getChar_3b067_28 : decode cJ2_getChar_3b067 28 = .ok (.iload_n 1, 1) := by decide +kernel
theorem dJ2_getChar_3b067_29 : decode cJ2_getChar_3b067 29 = .ok (.iconst 1, 1) := by decide +kernel
theorem dJ2_getChar_3b067_30 : decode cJ2_getChar_3b067 30 = .ok (.ishl, 1) := by decide +kernel
theorem dJ2_getChar_3b067_31 : decode cJ2_getChar_3b067 31 = .ok (.istore_n 1, 1) := by decide +kernel
theorem dJ2_getChar_3b067_32 : decode cJ2_getChar_3b067 32 = .ok (.aload_n 0, 1) := by decide +kernel
theorem dJ2_getChar_3b067_33 : decode cJ2_getChar_3b067 33 = .ok (.iload_n 1, 1) := by decide +kernel
theorem dJ2_getChar_3b067_34 : decode cJ2_getChar_3b067 34 = .ok (.iinc 1 1, 3) := by decide +kernel
theorem dJ2_getChar_3b067_37 : decode cJ2_getChar_3b067 37 = .ok (.baload, 1) := by decide +kernel
theorem dJ2_getChar_3b067_38 : decode cJ2_getChar_3b067 38 = .ok (.sipush 255, 3) := by decide +kernel
theorem dJ2_getChar_3b067_41 : decode cJ2_getChar_3b067 41 = .ok (.iand, 1) := by decide +kernel
theorem dJ2_getChar_3b067_42 : decode cJ2_getChar_3b067 42 = .ok (.getstatic 59, 3) := by decide +kernel
theorem dJ2_getChar_3b067_45 : decode cJ2_getChar_3b067 45 = .ok (.ishl, 1) := by decide +kernel
theorem dJ2_getChar_3b067_46 : decode cJ2_getChar_3b067 46 = .ok (.aload_n 0, 1) := by decide +kernel
theorem dJ2_getChar_3b067_47 : decode cJ2_getChar_3b067 47 = .ok (.iload_n 1, 1) := by decide +kernel
theorem dJ2_getChar_3b067_48 : decode cJ2_getChar_3b067 48 = .ok (.baload, 1) := by decide +kernel
theorem dJ2_getChar_3b067_49 : decode cJ2_getChar_3b067 49 = .ok (.sipush 255, 3) := by decide +kernel
theorem dJ2_getChar_3b067_52 : decode cJ2_getChar_3b067 52 = .ok (.iand, 1) := by decide +kernel
theorem dJ2_getChar_3b067_53 : decode cJ2_getChar_3b067 53 = .ok (.getstatic 63, 3) := by decide +kernel
theorem dJ2_getChar_3b067_56 : decode cJ2_getChar_3b067 56 = .ok (.ishl, 1) := by decide +kernel
theorem dJ2_getChar_3b067_57 : decode cJ2_getChar_3b067 57 = .ok (.ior, 1) := by decide +kernel
theorem dJ2_getChar_3b067_58 : decode cJ2_getChar_3b067 58 = .ok (.i2c, 1) := by decide +kernel
theorem dJ2_getChar_3b067_59 : decode cJ2_getChar_3b067 59 = .ok (.ireturn, 1) := by decide +kernel
theorem dJ2_length_9d52b_0 : decode cJ2_length_9d52b 0 = .ok (.aload_n 0, 1) := by decide +kernel
theorem dJ2_length_9d52b_1 : decode cJ2_length_9d52b 1 = .ok (.arraylength, 1) := by decide +kernel
theorem dJ2_length_9d52b_2 : decode cJ2_length_9d52b 2 = .ok (.iconst 1, 1) := by decide +kernel
theorem dJ2_length_9d52b_3 : decode cJ2_length_9d52b 3 = .ok (.ishr, 1) := by decide +kernel
theorem dJ2_length_9d52b_4 : decode cJ2_length_9d52b 4 = .ok (.ireturn, 1) := by decide +kernel
theorem dJ2_indexOf_4cfef_0 : decode cJ2_indexOf_4cfef 0 = .ok (.iload_n 2, 1) := by decide +kernel
theorem dJ2_indexOf_4cfef_1 : decode cJ2_indexOf_4cfef 1 = .ok (.iconst 0, 1) := by decide +kernel
theorem dJ2_indexOf_4cfef_2 : decode cJ2_indexOf_4cfef 2 = .ok (.invokestatic 224, 3) := by decide +kernel
theorem dJ2_indexOf_4cfef_5 : decode cJ2_indexOf_4cfef 5 = .ok (.istore_n 2, 1) := by decide +kernel
theorem dJ2_indexOf_4cfef_6 : decode cJ2_indexOf_4cfef 6 = .ok (.iload_n 3, 1) := by decide +kernel
theorem dJ2_indexOf_4cfef_7 : decode cJ2_indexOf_4cfef 7 = .ok (.aload_n 0, 1) := by decide +kernel
theorem dJ2_indexOf_4cfef_8 : decode cJ2_indexOf_4cfef 8 = .ok (.arraylength, 1) := by decide +kernel
theorem dJ2_indexOf_4cfef_9 : decode cJ2_indexOf_4cfef 9 = .ok (.iconst 1, 1) := by decide +kernel
theorem dJ2_indexOf_4cfef_10 : decode cJ2_indexOf_4cfef 10 = .ok (.ishr, 1) := by decide +kernel
theorem dJ2_indexOf_4cfef_11 : decode cJ2_indexOf_4cfef 11 = .ok (.invokestatic 183, 3) := by decide +kernel
theorem dJ2_indexOf_4cfef_14 : decode cJ2_indexOf_4cfef 14 = .ok (.istore_n 3, 1) := by decide +kernel
theorem dJ2_indexOf_4cfef_15 : decode cJ2_indexOf_4cfef 15 = .ok (.iload_n 2, 1) := by decide +kernel
theorem dJ2_indexOf_4cfef_16 : decode cJ2_indexOf_4cfef 16 = .ok (.iload_n 3, 1) := by decide +kernel
theorem dJ2_indexOf_4cfef_17 : decode cJ2_indexOf_4cfef 17 = .ok (.if_icmp .lt 5, 3) := by decide +kernel
theorem dJ2_indexOf_4cfef_20 : decode cJ2_indexOf_4cfef 20 = .ok (.iconst (-1), 1) := by decide +kernel
theorem dJ2_indexOf_4cfef_21 : decode cJ2_indexOf_4cfef 21 = .ok (.ireturn, 1) := by decide +kernel
theorem dJ2_indexOf_4cfef_22 : decode cJ2_indexOf_4cfef 22 = .ok (.iload_n 1, 1) := by decide +kernel
theorem dJ2_indexOf_4cfef_23 : decode cJ2_indexOf_4cfef 23 = .ok (.ldc 227, 2) := by decide +kernel
theorem dJ2_indexOf_4cfef_25 : decode cJ2_indexOf_4cfef 25 = .ok (.if_icmp .ge 11, 3) := by decide +kernel
theorem dJ2_indexOf_4cfef_28 : decode cJ2_indexOf_4cfef 28 = .ok (.aload_n 0, 1) := by decide +kernel
theorem dJ2_indexOf_4cfef_29 : decode cJ2_indexOf_4cfef 29 = .ok (.iload_n 1, 1) := by decide +kernel
theorem dJ2_indexOf_4cfef_30 : decode cJ2_indexOf_4cfef 30 = .ok (.iload_n 2, 1) := by decide +kernel
theorem dJ2_indexOf_4cfef_31 : decode cJ2_indexOf_4cfef 31 = .ok (.iload_n 3, 1) := by decide +kernel
theorem dJ2_indexOf_4cfef_32 : decode cJ2_indexOf_4cfef 32 = .ok (.invokestatic 228, 3) := by decide +kernel
theorem dJ2_indexOf_4cfef_35 : decode cJ2_indexOf_4cfef 35 = .ok (.ireturn, 1) := by decide +kernel
theorem dJ2_indexOf_4cfef_36 : decode cJ2_indexOf_4cfef 36 = .ok (.aload_n 0, 1) := by decide +kernel
theorem dJ2_indexOf_4cfef_37 : decode cJ2_indexOf_4cfef 37 = .ok (.iload_n 1, 1) := by decide +kernel
theorem dJ2_indexOf_4cfef_38 : decode cJ2_indexOf_4cfef 38 = .ok (.iload_n 2, 1) := by decide +kernel
theorem dJ2_indexOf_4cfef_39 : decode cJ2_indexOf_4cfef 39 = .ok (.iload_n 3, 1) := by decide +kernel
theorem dJ2_indexOf_4cfef_40 : decode cJ2_indexOf_4cfef 40 = .ok (.invokestatic 232, 3) := by decide +kernel
theorem dJ2_indexOf_4cfef_43 : decode cJ2_indexOf_4cfef 43 = .ok (.ireturn, 1) := by decide +kernel
theorem dJ2_indexOfChar_4cfef_0 : decode cJ2_indexOfChar_4cfef 0 = .ok (.iload_n 2, 1) := by decide +kernel
theorem dJ2_indexOfChar_4cfef_1 : decode cJ2_indexOfChar_4cfef 1 = .ok (.iload_n 3, 1) := by decide +kernel
theorem dJ2_indexOfChar_4cfef_2 : decode cJ2_indexOfChar_4cfef 2 = .ok (.aload_n 0, 1) := by decide +kernel
theorem dJ2_indexOfChar_4cfef_3 : decode cJ2_indexOfChar_4cfef 3 = .ok (.invokestatic 96, 3) := by decide +kernel
theorem dJ2_indexOfChar_4cfef_6 : decode cJ2_indexOfChar_4cfef 6 = .ok (.aload_n 0, 1) := by decide +kernel
theorem dJ2_indexOfChar_4cfef_7 : decode cJ2_indexOfChar_4cfef 7 = .ok (.iload_n 1, 1) := by decide +kernel
theorem dJ2_indexOfChar_4cfef_8 : decode cJ2_indexOfChar_4cfef 8 = .ok (.iload_n 2, 1) := by decide +kernel
theorem dJ2_indexOfChar_4cfef_9 : decode cJ2_indexOfChar_4cfef 9 = .ok (.iload_n 3, 1) := by decide +kernel
theorem dJ2_indexOfChar_4cfef_10 : decode cJ2_indexOfChar_4cfef 10 = .ok (.invokestatic 244, 3) := by decide +kernel
theorem dJ2_indexOfChar_4cfef_13 : decode cJ2_indexOfChar_4cfef 13 = .ok (.ireturn, 1) := by decide +kernel
theorem dJ2_indexOfCharUnsafe_4cfef_0 : decode cJ2_indexOfCharUnsafe_4cfef 0 = .ok (.iload_n 2, 1) := by decide +kernel
theorem dJ2_indexOfCharUnsafe_4cfef_1 : decode cJ2_indexOfCharUnsafe_4cfef 1 = .ok (.istore 4, 2) := by decide +kernel
theorem dJ2_indexOfCharUnsafe_4cfef_3 : decode cJ2_indexOfCharUnsafe_4cfef 3 = .ok (.iload 4, 2) := by decide +kernel
theorem dJ2_indexOfCharUnsafe_4cfef_5 : decode cJ2_indexOfCharUnsafe_4cfef 5 = .ok (.iload_n 3, 1) := by decide +kernel
theorem dJ2_indexOfCharUnsafe_4cfef_6 : decode cJ2_indexOfCharUnsafe_4cfef 6 = .ok (.if_icmp .ge 22, 3) := by decide +kernel
theorem dJ2_indexOfCharUnsafe_4cfef_9 : decode cJ2_indexOfCharUnsafe_4cfef 9 = .ok (.aload_n 0, 1) := by decide +kernel
theorem dJ2_indexOfCharUnsafe_4cfef_10 : decode cJ2_indexOfCharUnsafe_4cfef 10 = .ok (.iload 4, 2) := by decide +kernel
theorem dJ2_indexOfCharUnsafe_4cfef_12 : decode cJ2_indexOfCharUnsafe_4cfef 12 = .ok (.invokestatic 71, 3) := by decide +kernel
theorem dJ2_indexOfCharUnsafe_4cfef_15 : decode cJ2_indexOfCharUnsafe_4cfef 15 = .ok (.iload_n 1, 1) := by decide +kernel
theorem dJ2_indexOfCharUnsafe_4cfef_16 : decode cJ2_indexOfCharUnsafe_4cfef 16 = .ok (.if_icmp .ne 6, 3) := by decide +kernel
theorem dJ2_indexOfCharUnsafe_4cfef_19 : decode cJ2_indexOfCharUnsafe_4cfef 19 = .ok (.iload 4, 2) := by decide +kernel
theorem dJ2_indexOfCharUnsafe_4cfef_21 : decode cJ2_indexOfCharUnsafe_4cfef 21 = .ok (.ireturn, 1) := by decide +kernel
theorem dJ2_indexOfCharUnsafe_4cfef_22 : decode cJ2_indexOfCharUnsafe_4cfef 22 = .ok (.iinc 4 1, 3) := by decide +kernel
theorem dJ2_indexOfCharUnsafe_4cfef_25 : decode cJ2_indexOfCharUnsafe_4cfef 25 = .ok (.goto (-22), 3) := by decide +kernel
theorem dJ2_indexOfCharUnsafe_4cfef_28 : decode cJ2_indexOfCharUnsafe_4cfef 28 = .ok (.iconst (-1), 1) := by decide +kernel
theorem dJ2_indexOfCharUnsafe_4cfef_29 : decode cJ2_indexOfCharUnsafe_4cfef 29 = .ok (.ireturn, 1) := by decide +kernel
theorem dJ2_indexOfSupplementary_4cfef_0 : decode cJ2_indexOfSupplementary_4cfef 0 = .ok (.iload_n 1, 1) := by decide +kernel
theorem dJ2_indexOfSupplementary_4cfef_1 : decode cJ2_indexOfSupplementary_4cfef 1 = .ok (.invokestatic 164, 3) := by decide +kernel
theorem dJ2_indexOfSupplementary_4cfef_4 : decode cJ2_indexOfSupplementary_4cfef 4 = .ok (.ifCond .eq 65, 3) := by decide +kernel
theorem dJ2_indexOfSupplementary_4cfef_7 : decode cJ2_indexOfSupplementary_4cfef 7 = .ok (.iload_n 1, 1) := by decide +kernel
theorem dJ2_indexOfSupplementary_4cfef_8 : decode cJ2_indexOfSupplementary_4cfef 8 = .ok (.invokestatic 157, 3) := by decide +kernel
theorem dJ2_indexOfSupplementary_4cfef_11 : decode cJ2_indexOfSupplementary_4cfef 11 = .ok (.istore 4, 2) := by decide +kernel
theorem dJ2_indexOfSupplementary_4cfef_13 : decode cJ2_indexOfSupplementary_4cfef 13 = .ok (.iload_n 1, 1) := by decide +kernel
theorem dJ2_indexOfSupplementary_4cfef_14 : decode cJ2_indexOfSupplementary_4cfef 14 = .ok (.invokestatic 161, 3) := by decide +kernel
theorem dJ2_indexOfSupplementary_4cfef_17 : decode cJ2_indexOfSupplementary_4cfef 17 = .ok (.istore 5, 2) := by decide +kernel
theorem dJ2_indexOfSupplementary_4cfef_19 : decode cJ2_indexOfSupplementary_4cfef 19 = .ok (.iload_n 2, 1) := by decide +kernel
theorem dJ2_indexOfSupplementary_4cfef_20 : decode cJ2_indexOfSupplementary_4cfef 20 = .ok (.iload_n 3, 1) := by decide +kernel
theorem dJ2_indexOfSupplementary_4cfef_21 : decode cJ2_indexOfSupplementary_4cfef 21 = .ok (.aload_n 0, 1) := by decide +kernel
theorem dJ2_indexOfSupplementary_4cfef_22 : decode cJ2_indexOfSupplementary_4cfef 22 = .ok (.invokestatic 96, 3) := by decide +kernel
theorem dJ2_indexOfSupplementary_4cfef_25 : decode cJ2_indexOfSupplementary_4cfef 25 = .ok (.iload_n 2, 1) := by decide +kernel
theorem dJ2_indexOfSupplementary_4cfef_26 : decode cJ2_indexOfSupplementary_4cfef 26 = .ok (.istore 6, 2) := by decide +kernel
theorem dJ2_indexOfSupplementary_4cfef_28 : decode cJ2_indexOfSupplementary_4cfef 28 = .ok (.iload 6, 2) := by decide +kernel
theorem dJ2_indexOfSupplementary_4cfef_30 : decode cJ2_indexOfSupplementary_4cfef 30 = .ok (.iload_n 3, 1) := by decide +kernel
theorem dJ2_indexOfSupplementary_4cfef_31 : decode cJ2_indexOfSupplementary_4cfef 31 = .ok (.iconst 1, 1) := by decide +kernel
theorem dJ2_indexOfSupplementary_4cfef_32 : decode cJ2_indexOfSupplementary_4cfef 32 = .ok (.isub, 1) := by decide +kernel
theorem dJ2_indexOfSupplementary_4cfef_33 : decode cJ2_indexOfSupplementary_4cfef 33 = .ok (.if_icmp .ge 36, 3) := by decide +kernel
theorem dJ2_indexOfSupplementary_4cfef_36 : decode cJ2_indexOfSupplementary_4cfef 36 = .ok (.aload_n 0, 1) := by decide +kernel
theorem dJ2_indexOfSupplementary_4cfef_37 : decode cJ2_indexOfSupplementary_4cfef 37 = .ok (.iload 6, 2) := by decide +kernel
theorem dJ2_indexOfSupplementary_4cfef_39 : decode cJ2_indexOfSupplementary_4cfef 39 = .ok (.invokestatic 71, 3) := by decide +kernel
theorem dJ2_indexOfSupplementary_4cfef_42 : decode cJ2_indexOfSupplementary_4cfef 42 = .ok (.iload 4, 2) := by decide +kernel
theorem dJ2_indexOfSupplementary_4cfef_44 : decode cJ2_indexOfSupplementary_4cfef 44 = .ok (.if_icmp .ne 19, 3) := by decide +kernel
theorem dJ2_indexOfSupplementary_4cfef_47 : decode cJ2_indexOfSupplementary_4cfef 47 = .ok (.aload_n 0, 1) := by decide +kernel
theorem dJ2_indexOfSupplementary_4cfef_48 : decode cJ2_indexOfSupplementary_4cfef 48 = .ok (.iload 6, 2) := by decide +kernel
theorem dJ2_indexOfSupplementary_4cfef_50 : decode cJ2_indexOfSupplementary_4cfef 50 = .ok (.iconst 1, 1) := by decide +kernel
theorem dJ2_indexOfSupplementary_4cfef_51 : decode cJ2_indexOfSupplementary_4cfef 51 = .ok (.iadd, 1) := by decide +kernel
theorem dJ2_indexOfSupplementary_4cfef_52 : decode cJ2_indexOfSupplementary_4cfef 52 = .ok (.invokestatic 71, 3) := by decide +kernel
theorem dJ2_indexOfSupplementary_4cfef_55 : decode cJ2_indexOfSupplementary_4cfef 55 = .ok (.iload 5, 2) := by decide +kernel
theorem dJ2_indexOfSupplementary_4cfef_57 : decode cJ2_indexOfSupplementary_4cfef 57 = .ok (.if_icmp .ne 6, 3) := by decide +kernel
theorem dJ2_indexOfSupplementary_4cfef_60 : decode cJ2_indexOfSupplementary_4cfef 60 = .ok (.iload 6, 2) := by decide +kernel
theorem dJ2_indexOfSupplementary_4cfef_62 : decode cJ2_indexOfSupplementary_4cfef 62 = .ok (.ireturn, 1) := by decide +kernel
theorem dJ2_indexOfSupplementary_4cfef_63 : decode cJ2_indexOfSupplementary_4cfef 63 = .ok (.iinc 6 1, 3) := by decide +kernel
theorem dJ2_indexOfSupplementary_4cfef_66 : decode cJ2_indexOfSupplementary_4cfef 66 = .ok (.goto (-38), 3) := by decide +kernel
theorem dJ2_indexOfSupplementary_4cfef_69 : decode cJ2_indexOfSupplementary_4cfef 69 = .ok (.iconst (-1), 1) := by decide +kernel
theorem dJ2_indexOfSupplementary_4cfef_70 : decode cJ2_indexOfSupplementary_4cfef 70 = .ok (.ireturn, 1) := by decide +kernel
theorem dJ2_checkBoundsBeginEnd_d044e_0 : decode cJ2_checkBoundsBeginEnd_d044e 0 = .ok (.iload_n 0, 1) := by decide +kernel
theorem dJ2_checkBoundsBeginEnd_d044e_1 : decode cJ2_checkBoundsBeginEnd_d044e 1 = .ok (.iload_n 1, 1) := by decide +kernel
theorem dJ2_checkBoundsBeginEnd_d044e_2 : decode cJ2_checkBoundsBeginEnd_d044e 2 = .ok (.aload_n 2, 1) := by decide +kernel
theorem dJ2_checkBoundsBeginEnd_d044e_3 : decode cJ2_checkBoundsBeginEnd_d044e 3 = .ok (.invokestatic 48, 3) := by decide +kernel
theorem dJ2_checkBoundsBeginEnd_d044e_6 : decode cJ2_checkBoundsBeginEnd_d044e 6 = .ok (.invokestatic 241, 3) := by decide +kernel
theorem dJ2_checkBoundsBeginEnd_d044e_9 : decode cJ2_checkBoundsBeginEnd_d044e 9 = .ok (.return_, 1) := by decide +kernel
theorem dJ7_fill_53178_0 : decode cJ7_fill_53178 0 = .ok (.iconst 0, 1) := by decide +kernel
theorem dJ7_fill_53178_1 : decode cJ7_fill_53178 1 = .ok (.istore_n 2, 1) := by decide +kernel
theorem dJ7_fill_53178_2 : decode cJ7_fill_53178 2 = .ok (.aload_n 0, 1) := by decide +kernel
theorem dJ7_fill_53178_3 : decode cJ7_fill_53178 3 = .ok (.arraylength, 1) := by decide +kernel
theorem dJ7_fill_53178_4 : decode cJ7_fill_53178 4 = .ok (.istore_n 3, 1) := by decide +kernel
theorem dJ7_fill_53178_5 : decode cJ7_fill_53178 5 = .ok (.iload_n 2, 1) := by decide +kernel
theorem dJ7_fill_53178_6 : decode cJ7_fill_53178 6 = .ok (.iload_n 3, 1) := by decide +kernel
theorem dJ7_fill_53178_7 : decode cJ7_fill_53178 7 = .ok (.if_icmp .ge 13, 3) := by decide +kernel
theorem dJ7_fill_53178_10 : decode cJ7_fill_53178 10 = .ok (.aload_n 0, 1) := by decide +kernel
theorem dJ7_fill_53178_11 : decode cJ7_fill_53178 11 = .ok (.iload_n 2, 1) := by decide +kernel
theorem dJ7_fill_53178_12 : decode cJ7_fill_53178 12 = .ok (.iload_n 1, 1) := by decide +kernel
theorem dJ7_fill_53178_13 : decode cJ7_fill_53178 13 = .ok (.iastore, 1) := by decide +kernel
theorem dJ7_fill_53178_14 : decode cJ7_fill_53178 14 = .ok (.iinc 2 1, 3) := by decide +kernel
theorem dJ7_fill_53178_17 : decode cJ7_fill_53178 17 = .ok (.goto (-12), 3) := by decide +kernel
theorem dJ7_fill_53178_20 : decode cJ7_fill_53178 20 = .ok (.return_, 1) := by decide +kernel
theorem dJ3_checkFromToIndex_8c36e_0 : decode cJ3_checkFromToIndex_8c36e 0 = .ok (.iload_n 0, 1) := by decide +kernel
theorem dJ3_checkFromToIndex_8c36e_1 : decode cJ3_checkFromToIndex_8c36e 1 = .ok (.ifCond .lt 13, 3) := by decide +kernel
theorem dJ3_checkFromToIndex_8c36e_4 : decode cJ3_checkFromToIndex_8c36e 4 = .ok (.iload_n 0, 1) := by decide +kernel
theorem dJ3_checkFromToIndex_8c36e_5 : decode cJ3_checkFromToIndex_8c36e 5 = .ok (.iload_n 1, 1) := by decide +kernel
theorem dJ3_checkFromToIndex_8c36e_6 : decode cJ3_checkFromToIndex_8c36e 6 = .ok (.if_icmp .gt 8, 3) := by decide +kernel
theorem dJ3_checkFromToIndex_8c36e_9 : decode cJ3_checkFromToIndex_8c36e 9 = .ok (.iload_n 1, 1) := by decide +kernel
theorem dJ3_checkFromToIndex_8c36e_10 : decode cJ3_checkFromToIndex_8c36e 10 = .ok (.iload_n 2, 1) := by decide +kernel
theorem dJ3_checkFromToIndex_8c36e_11 : decode cJ3_checkFromToIndex_8c36e 11 = .ok (.if_icmp .le 11, 3) := by decide +kernel
theorem dJ3_checkFromToIndex_8c36e_14 : decode cJ3_checkFromToIndex_8c36e 14 = .ok (.aload_n 3, 1) := by decide +kernel
theorem dJ3_checkFromToIndex_8c36e_15 : decode cJ3_checkFromToIndex_8c36e 15 = .ok (.iload_n 0, 1) := by decide +kernel
theorem dJ3_checkFromToIndex_8c36e_16 : decode cJ3_checkFromToIndex_8c36e 16 = .ok (.iload_n 1, 1) := by decide +kernel
theorem dJ3_checkFromToIndex_8c36e_17 : decode cJ3_checkFromToIndex_8c36e 17 = .ok (.iload_n 2, 1) := by decide +kernel
theorem dJ3_checkFromToIndex_8c36e_18 : decode cJ3_checkFromToIndex_8c36e 18 = .ok (.invokestatic 99, 3) := by decide +kernel
theorem dJ3_checkFromToIndex_8c36e_21 : decode cJ3_checkFromToIndex_8c36e 21 = .ok (.athrow, 1) := by decide +kernel
theorem dJ3_checkFromToIndex_8c36e_22 : decode cJ3_checkFromToIndex_8c36e 22 = .ok (.iload_n 0, 1) := by decide +kernel
theorem dJ3_checkFromToIndex_8c36e_23 : decode cJ3_checkFromToIndex_8c36e 23 = .ok (.ireturn, 1) := by decide +kernel
