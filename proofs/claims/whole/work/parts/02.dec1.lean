theorem dX0_init_0 : decode cX0_init 0 = .ok (.aload_n 0, 1) := by decide +kernel
theorem dX0_init_1 : decode cX0_init 1 = .ok (.invokespecial 3, 3) := by decide +kernel
theorem dX0_init_4 : decode cX0_init 4 = .ok (.return_, 1) := by decide +kernel
theorem dX0_kind_0 : decode cX0_kind 0 = .ok (.iconst 2, 1) := by decide +kernel
theorem dX0_kind_1 : decode cX0_kind 1 = .ok (.ireturn, 1) := by decide +kernel
theorem dX0_turn_0 : decode cX0_turn 0 = .ok (.iload_n 2, 1) := by decide +kernel
theorem dX0_turn_1 : decode cX0_turn 1 = .ok (.ifCond .eq 9, 3) := by decide +kernel
theorem dX0_turn_4 : decode cX0_turn 4 = .ok (.iconst 4, 1) := by decide +kernel
theorem dX0_turn_5 : decode cX0_turn 5 = .ok (.iload_n 2, 1) := by decide +kernel
theorem dX0_turn_6 : decode cX0_turn 6 = .ok (.iadd, 1) := by decide +kernel
theorem dX0_turn_7 : decode cX0_turn 7 = .ok (.goto 8, 3) := by decide +kernel
theorem dX0_turn_10 : decode cX0_turn 10 = .ok (.iconst 4, 1) := by decide +kernel
theorem dX0_turn_11 : decode cX0_turn 11 = .ok (.iconst 3, 1) := by decide +kernel
theorem dX0_turn_12 : decode cX0_turn 12 = .ok (.iload_n 1, 1) := by decide +kernel
theorem dX0_turn_13 : decode cX0_turn 13 = .ok (.imul, 1) := by decide +kernel
theorem dX0_turn_14 : decode cX0_turn 14 = .ok (.iadd, 1) := by decide +kernel
theorem dX0_turn_15 : decode cX0_turn 15 = .ok (.ireturn, 1) := by decide +kernel
theorem dX1_init_0 : decode cX1_init 0 = .ok (.aload_n 0, 1) := by decide +kernel
theorem dX1_init_1 : decode cX1_init 1 = .ok (.invokespecial 3, 3) := by decide +kernel
theorem dX1_init_4 : decode cX1_init 4 = .ok (.return_, 1) := by decide +kernel
theorem dX1_kind_0 : decode cX1_kind 0 = .ok (.iconst 0, 1) := by decide +kernel
theorem dX1_kind_1 : decode cX1_kind 1 = .ok (.ireturn, 1) := by decide +kernel
theorem dX1_turn_0 : decode cX1_turn 0 = .ok (.iconst 4, 1) := by decide +kernel
theorem dX1_turn_1 : decode cX1_turn 1 = .ok (.iconst 3, 1) := by decide +kernel
theorem dX1_turn_2 : decode cX1_turn 2 = .ok (.iload_n 1, 1) := by decide +kernel
theorem dX1_turn_3 : decode cX1_turn 3 = .ok (.imul, 1) := by decide +kernel
theorem dX1_turn_4 : decode cX1_turn 4 = .ok (.iadd, 1) := by decide +kernel
theorem dX1_turn_5 : decode cX1_turn 5 = .ok (.iload_n 2, 1) := by decide +kernel
theorem dX1_turn_6 : decode cX1_turn 6 = .ok (.iadd, 1) := by decide +kernel
theorem dX1_turn_7 : decode cX1_turn 7 = .ok (.ireturn, 1) := by decide +kernel
theorem dX2_init_0 : decode cX2_init 0 = .ok (.aload_n 0, 1) := by decide +kernel
theorem dX2_init_1 : decode cX2_init 1 = .ok (.invokespecial 3, 3) := by decide +kernel
theorem dX2_init_4 : decode cX2_init 4 = .ok (.aload_n 0, 1) := by decide +kernel
theorem dX2_init_5 : decode cX2_init 5 = .ok (.bipush 28, 2) := by decide +kernel
theorem dX2_init_7 : decode cX2_init 7 = .ok (.newarray .char, 2) := by decide +kernel
theorem dX2_init_9 : decode cX2_init 9 = .ok (.putfield 9, 3) := by decide +kernel
theorem dX2_init_12 : decode cX2_init 12 = .ok (.aload_n 0, 1) := by decide +kernel
theorem dX2_init_13 : decode cX2_init 13 = .ok (.iconst 0, 1) := by decide +kernel
theorem dX2_init_14 : decode cX2_init 14 = .ok (.putfield 15, 3) := by decide +kernel
theorem dX2_init_17 : decode cX2_init 17 = .ok (.return_, 1) := by decide +kernel
theorem dX2_write_0 : decode cX2_write 0 = .ok (.aload_n 0, 1) := by decide +kernel
theorem dX2_write_1 : decode cX2_write 1 = .ok (.getfield 15, 3) := by decide +kernel
theorem dX2_write_4 : decode cX2_write 4 = .ok (.bipush 28, 2) := by decide +kernel
theorem dX2_write_6 : decode cX2_write 6 = .ok (.if_icmp .ge 23, 3) := by decide +kernel
theorem dX2_write_9 : decode cX2_write 9 = .ok (.aload_n 0, 1) := by decide +kernel
theorem dX2_write_10 : decode cX2_write 10 = .ok (.getfield 9, 3) := by decide +kernel
theorem dX2_write_13 : decode cX2_write 13 = .ok (.aload_n 0, 1) := by decide +kernel
theorem dX2_write_14 : decode cX2_write 14 = .ok (.getfield 15, 3) := by decide +kernel
theorem dX2_write_17 : decode cX2_write 17 = .ok (.iload_n 1, 1) := by decide +kernel
theorem dX2_write_18 : decode cX2_write 18 = .ok (.castore, 1) := by decide +kernel
theorem dX2_write_19 : decode cX2_write 19 = .ok (.aload_n 0, 1) := by decide +kernel
theorem dX2_write_20 : decode cX2_write 20 = .ok (.dup, 1) := by decide +kernel
theorem dX2_write_21 : decode cX2_write 21 = .ok (.getfield 15, 3) := by decide +kernel
theorem dX2_write_24 : decode cX2_write 24 = .ok (.iconst 1, 1) := by decide +kernel
theorem dX2_write_25 : decode cX2_write 25 = .ok (.iadd, 1) := by decide +kernel
theorem dX2_write_26 : decode cX2_write 26 = .ok (.putfield 15, 3) := by decide +kernel
theorem dX2_write_29 : decode cX2_write 29 = .ok (.return_, 1) := by decide +kernel
theorem dX2_headEnd_0 : decode cX2_headEnd 0 = .ok (.iconst 0, 1) := by decide +kernel
theorem dX2_headEnd_1 : decode cX2_headEnd 1 = .ok (.istore_n 1, 1) := by decide +kernel
theorem dX2_headEnd_2 : decode cX2_headEnd 2 = .ok (.iload_n 1, 1) := by decide +kernel
theorem dX2_headEnd_3 : decode cX2_headEnd 3 = .ok (.aload_n 0, 1) := by decide +kernel
theorem dX2_headEnd_4 : decode cX2_headEnd 4 = .ok (.getfield 15, 3) := by decide +kernel
theorem dX2_headEnd_7 : decode cX2_headEnd 7 = .ok (.if_icmp .ge 22, 3) := by decide +kernel
theorem dX2_headEnd_10 : decode cX2_headEnd 10 = .ok (.aload_n 0, 1) := by decide +kernel
theorem dX2_headEnd_11 : decode cX2_headEnd 11 = .ok (.getfield 9, 3) := by decide +kernel
theorem dX2_headEnd_14 : decode cX2_headEnd 14 = .ok (.iload_n 1, 1) := by decide +kernel
theorem dX2_headEnd_15 : decode cX2_headEnd 15 = .ok (.caload, 1) := by decide +kernel
theorem dX2_headEnd_16 : decode cX2_headEnd 16 = .ok (.bipush 59, 2) := by decide +kernel
theorem dX2_headEnd_18 : decode cX2_headEnd 18 = .ok (.if_icmp .ne 5, 3) := by decide +kernel
theorem dX2_headEnd_21 : decode cX2_headEnd 21 = .ok (.iload_n 1, 1) := by decide +kernel
theorem dX2_headEnd_22 : decode cX2_headEnd 22 = .ok (.ireturn, 1) := by decide +kernel
theorem dX2_headEnd_23 : decode cX2_headEnd 23 = .ok (.iinc 1 1, 3) := by decide +kernel
theorem dX2_headEnd_26 : decode cX2_headEnd 26 = .ok (.goto (-24), 3) := by decide +kernel
theorem dX2_headEnd_29 : decode cX2_headEnd 29 = .ok (.aload_n 0, 1) := by decide +kernel
theorem dX2_headEnd_30 : decode cX2_headEnd 30 = .ok (.getfield 15, 3) := by decide +kernel
theorem dX2_headEnd_33 : decode cX2_headEnd 33 = .ok (.ireturn, 1) := by decide +kernel
theorem dX2_firstWrong_0 : decode cX2_firstWrong 0 = .ok (.aload_n 0, 1) := by decide +kernel
theorem dX2_firstWrong_1 : decode cX2_firstWrong 1 = .ok (.invokevirtual 19, 3) := by decide +kernel
theorem dX2_firstWrong_4 : decode cX2_firstWrong 4 = .ok (.istore_n 1, 1) := by decide +kernel
theorem dX2_firstWrong_5 : decode cX2_firstWrong 5 = .ok (.iconst 0, 1) := by decide +kernel
theorem dX2_firstWrong_6 : decode cX2_firstWrong 6 = .ok (.istore_n 2, 1) := by decide +kernel
theorem dX2_firstWrong_7 : decode cX2_firstWrong 7 = .ok (.iload_n 2, 1) := by decide +kernel
theorem dX2_firstWrong_8 : decode cX2_firstWrong 8 = .ok (.aload_n 0, 1) := by decide +kernel
theorem dX2_firstWrong_9 : decode cX2_firstWrong 9 = .ok (.getfield 15, 3) := by decide +kernel
theorem dX2_firstWrong_12 : decode cX2_firstWrong 12 = .ok (.if_icmp .ge 35, 3) := by decide +kernel
theorem dX2_firstWrong_15 : decode cX2_firstWrong 15 = .ok (.iload_n 2, 1) := by decide +kernel
theorem dX2_firstWrong_16 : decode cX2_firstWrong 16 = .ok (.iload_n 1, 1) := by decide +kernel
theorem dX2_firstWrong_17 : decode cX2_firstWrong 17 = .ok (.if_icmp .gt 11, 3) := by decide +kernel
theorem dX2_firstWrong_20 : decode cX2_firstWrong 20 = .ok (.aload_n 0, 1) := by decide +kernel
theorem dX2_firstWrong_21 : decode cX2_firstWrong 21 = .ok (.iload_n 2, 1) := by decide +kernel
theorem dX2_firstWrong_22 : decode cX2_firstWrong 22 = .ok (.invokevirtual 23, 3) := by decide +kernel
theorem dX2_firstWrong_25 : decode cX2_firstWrong 25 = .ok (.goto 9, 3) := by decide +kernel
theorem dX2_firstWrong_28 : decode cX2_firstWrong 28 = .ok (.aload_n 0, 1) := by decide +kernel
theorem dX2_firstWrong_29 : decode cX2_firstWrong 29 = .ok (.iload_n 2, 1) := by decide +kernel
theorem dX2_firstWrong_30 : decode cX2_firstWrong 30 = .ok (.iload_n 1, 1) := by decide +kernel
theorem dX2_firstWrong_31 : decode cX2_firstWrong 31 = .ok (.invokevirtual 27, 3) := by decide +kernel
theorem dX2_firstWrong_34 : decode cX2_firstWrong 34 = .ok (.istore_n 3, 1) := by decide +kernel
theorem dX2_firstWrong_35 : decode cX2_firstWrong 35 = .ok (.iload_n 3, 1) := by decide +kernel
theorem dX2_firstWrong_36 : decode cX2_firstWrong 36 = .ok (.ifCond .ne 5, 3) := by decide +kernel
theorem dX2_firstWrong_39 : decode cX2_firstWrong 39 = .ok (.iload_n 2, 1) := by decide +kernel
theorem dX2_firstWrong_40 : decode cX2_firstWrong 40 = .ok (.ireturn, 1) := by decide +kernel
theorem dX2_firstWrong_41 : decode cX2_firstWrong 41 = .ok (.iinc 2 1, 3) := by decide +kernel
theorem dX2_firstWrong_44 : decode cX2_firstWrong 44 = .ok (.goto (-37), 3) := by decide +kernel
theorem dX2_firstWrong_47 : decode cX2_firstWrong 47 = .ok (.aload_n 0, 1) := by decide +kernel
theorem dX2_firstWrong_48 : decode cX2_firstWrong 48 = .ok (.getfield 15, 3) := by decide +kernel
theorem dX2_firstWrong_51 : decode cX2_firstWrong 51 = .ok (.ireturn, 1) := by decide +kernel
theorem dX2_isWhole_0 : decode cX2_isWhole 0 = .ok (.aload_n 0, 1) := by decide +kernel
theorem dX2_isWhole_1 : decode cX2_isWhole 1 = .ok (.getfield 15, 3) := by decide +kernel
theorem dX2_isWhole_4 : decode cX2_isWhole 4 = .ok (.aload_n 0, 1) := by decide +kernel
theorem dX2_isWhole_5 : decode cX2_isWhole 5 = .ok (.invokevirtual 19, 3) := by decide +kernel
theorem dX2_isWhole_8 : decode cX2_isWhole 8 = .ok (.isub, 1) := by decide +kernel
theorem dX2_isWhole_9 : decode cX2_isWhole 9 = .ok (.iconst 1, 1) := by decide +kernel
theorem dX2_isWhole_10 : decode cX2_isWhole 10 = .ok (.isub, 1) := by decide +kernel
theorem dX2_isWhole_11 : decode cX2_isWhole 11 = .ok (.istore_n 1, 1) := by decide +kernel
theorem dX2_isWhole_12 : decode cX2_isWhole 12 = .ok (.aload_n 0, 1) := by decide +kernel
theorem dX2_isWhole_13 : decode cX2_isWhole 13 = .ok (.invokevirtual 31, 3) := by decide +kernel
theorem dX2_isWhole_16 : decode cX2_isWhole 16 = .ok (.aload_n 0, 1) := by decide +kernel
theorem dX2_isWhole_17 : decode cX2_isWhole 17 = .ok (.getfield 15, 3) := by decide +kernel
theorem dX2_isWhole_20 : decode cX2_isWhole 20 = .ok (.if_icmp .ne 18, 3) := by decide +kernel
theorem dX2_isWhole_23 : decode cX2_isWhole 23 = .ok (.iload_n 1, 1) := by decide +kernel
theorem dX2_isWhole_24 : decode cX2_isWhole 24 = .ok (.iconst 2, 1) := by decide +kernel
theorem dX2_isWhole_25 : decode cX2_isWhole 25 = .ok (.if_icmp .lt 13, 3) := by decide +kernel
theorem dX2_isWhole_28 : decode cX2_isWhole 28 = .ok (.iload_n 1, 1) := by decide +kernel
theorem dX2_isWhole_29 : decode cX2_isWhole 29 = .ok (.iconst 2, 1) := by decide +kernel
theorem dX2_isWhole_30 : decode cX2_isWhole 30 = .ok (.irem, 1) := by decide +kernel
theorem dX2_isWhole_31 : decode cX2_isWhole 31 = .ok (.ifCond .ne 7, 3) := by decide +kernel
theorem dX2_isWhole_34 : decode cX2_isWhole 34 = .ok (.iconst 1, 1) := by decide +kernel
theorem dX2_isWhole_35 : decode cX2_isWhole 35 = .ok (.goto 4, 3) := by decide +kernel
theorem dX2_isWhole_38 : decode cX2_isWhole 38 = .ok (.iconst 0, 1) := by decide +kernel
theorem dX2_isWhole_39 : decode cX2_isWhole 39 = .ok (.ireturn, 1) := by decide +kernel
theorem dX2_fitsHead_0 : decode cX2_fitsHead 0 = .ok (.iload_n 1, 1) := by decide +kernel
theorem dX2_fitsHead_1 : decode cX2_fitsHead 1 = .ok (.iconst 4, 1) := by decide +kernel
theorem dX2_fitsHead_2 : decode cX2_fitsHead 2 = .ok (.irem, 1) := by decide +kernel
theorem dX2_fitsHead_3 : decode cX2_fitsHead 3 = .ok (.lookupswitch 75 #[(0, 25), (3, 40)], 25) := by decide +kernel
theorem dX2_fitsHead_28 : decode cX2_fitsHead 28 = .ok (.aload_n 0, 1) := by decide +kernel
theorem dX2_fitsHead_29 : decode cX2_fitsHead 29 = .ok (.iload_n 1, 1) := by decide +kernel
theorem dX2_fitsHead_30 : decode cX2_fitsHead 30 = .ok (.invokevirtual 34, 3) := by decide +kernel
theorem dX2_fitsHead_33 : decode cX2_fitsHead 33 = .ok (.iconst (-1), 1) := by decide +kernel
theorem dX2_fitsHead_34 : decode cX2_fitsHead 34 = .ok (.if_icmp .eq 7, 3) := by decide +kernel
theorem dX2_fitsHead_37 : decode cX2_fitsHead 37 = .ok (.iconst 1, 1) := by decide +kernel
theorem dX2_fitsHead_38 : decode cX2_fitsHead 38 = .ok (.goto 4, 3) := by decide +kernel
theorem dX2_fitsHead_41 : decode cX2_fitsHead 41 = .ok (.iconst 0, 1) := by decide +kernel
theorem dX2_fitsHead_42 : decode cX2_fitsHead 42 = .ok (.ireturn, 1) := by decide +kernel
theorem dX2_fitsHead_43 : decode cX2_fitsHead 43 = .ok (.aload_n 0, 1) := by decide +kernel
theorem dX2_fitsHead_44 : decode cX2_fitsHead 44 = .ok (.getfield 9, 3) := by decide +kernel
theorem dX2_fitsHead_47 : decode cX2_fitsHead 47 = .ok (.iload_n 1, 1) := by decide +kernel
theorem dX2_fitsHead_48 : decode cX2_fitsHead 48 = .ok (.caload, 1) := by decide +kernel
theorem dX2_fitsHead_49 : decode cX2_fitsHead 49 = .ok (.bipush 59, 2) := by decide +kernel
theorem dX2_fitsHead_51 : decode cX2_fitsHead 51 = .ok (.if_icmp .eq 21, 3) := by decide +kernel
theorem dX2_fitsHead_54 : decode cX2_fitsHead 54 = .ok (.aload_n 0, 1) := by decide +kernel
theorem dX2_fitsHead_55 : decode cX2_fitsHead 55 = .ok (.getfield 9, 3) := by decide +kernel
theorem dX2_fitsHead_58 : decode cX2_fitsHead 58 = .ok (.iload_n 1, 1) := by decide +kernel
theorem dX2_fitsHead_59 : decode cX2_fitsHead 59 = .ok (.caload, 1) := by decide +kernel
theorem dX2_fitsHead_60 : decode cX2_fitsHead 60 = .ok (.bipush 44, 2) := by decide +kernel
theorem dX2_fitsHead_62 : decode cX2_fitsHead 62 = .ok (.if_icmp .ne 14, 3) := by decide +kernel
theorem dX2_fitsHead_65 : decode cX2_fitsHead 65 = .ok (.iload_n 1, 1) := by decide +kernel
theorem dX2_fitsHead_66 : decode cX2_fitsHead 66 = .ok (.iconst 4, 1) := by decide +kernel
theorem dX2_fitsHead_67 : decode cX2_fitsHead 67 = .ok (.idiv, 1) := by decide +kernel
theorem dX2_fitsHead_68 : decode cX2_fitsHead 68 = .ok (.iconst 3, 1) := by decide +kernel
theorem dX2_fitsHead_69 : decode cX2_fitsHead 69 = .ok (.if_icmp .ge 7, 3) := by decide +kernel
theorem dX2_fitsHead_72 : decode cX2_fitsHead 72 = .ok (.iconst 1, 1) := by decide +kernel
theorem dX2_fitsHead_73 : decode cX2_fitsHead 73 = .ok (.goto 4, 3) := by decide +kernel
theorem dX2_fitsHead_76 : decode cX2_fitsHead 76 = .ok (.iconst 0, 1) := by decide +kernel
theorem dX2_fitsHead_77 : decode cX2_fitsHead 77 = .ok (.ireturn, 1) := by decide +kernel
theorem dX2_fitsHead_78 : decode cX2_fitsHead 78 = .ok (.aload_n 0, 1) := by decide +kernel
theorem dX2_fitsHead_79 : decode cX2_fitsHead 79 = .ok (.getfield 9, 3) := by decide +kernel
theorem dX2_fitsHead_82 : decode cX2_fitsHead 82 = .ok (.iload_n 1, 1) := by decide +kernel
theorem dX2_fitsHead_83 : decode cX2_fitsHead 83 = .ok (.caload, 1) := by decide +kernel
theorem dX2_fitsHead_84 : decode cX2_fitsHead 84 = .ok (.invokestatic 38, 3) := by decide +kernel
theorem dX2_fitsHead_87 : decode cX2_fitsHead 87 = .ok (.ireturn, 1) := by decide +kernel
theorem dX2_fitsTail_0 : decode cX2_fitsTail 0 = .ok (.aload_n 0, 1) := by decide +kernel
theorem dX2_fitsTail_1 : decode cX2_fitsTail 1 = .ok (.getfield 9, 3) := by decide +kernel
theorem dX2_fitsTail_4 : decode cX2_fitsTail 4 = .ok (.iload_n 1, 1) := by decide +kernel
theorem dX2_fitsTail_5 : decode cX2_fitsTail 5 = .ok (.caload, 1) := by decide +kernel
theorem dX2_fitsTail_6 : decode cX2_fitsTail 6 = .ok (.invokestatic 38, 3) := by decide +kernel
theorem dX2_fitsTail_9 : decode cX2_fitsTail 9 = .ok (.ifCond .eq 15, 3) := by decide +kernel
theorem dX2_fitsTail_12 : decode cX2_fitsTail 12 = .ok (.iload_n 1, 1) := by decide +kernel
theorem dX2_fitsTail_13 : decode cX2_fitsTail 13 = .ok (.iload_n 2, 1) := by decide +kernel
theorem dX2_fitsTail_14 : decode cX2_fitsTail 14 = .ok (.isub, 1) := by decide +kernel
theorem dX2_fitsTail_15 : decode cX2_fitsTail 15 = .ok (.bipush 10, 2) := by decide +kernel
theorem dX2_fitsTail_17 : decode cX2_fitsTail 17 = .ok (.if_icmp .gt 7, 3) := by decide +kernel
theorem dX2_fitsTail_20 : decode cX2_fitsTail 20 = .ok (.iconst 1, 1) := by decide +kernel
theorem dX2_fitsTail_21 : decode cX2_fitsTail 21 = .ok (.goto 4, 3) := by decide +kernel
theorem dX2_fitsTail_24 : decode cX2_fitsTail 24 = .ok (.iconst 0, 1) := by decide +kernel
theorem dX2_fitsTail_25 : decode cX2_fitsTail 25 = .ok (.ireturn, 1) := by decide +kernel
theorem dX2_isDigit_0 : decode cX2_isDigit 0 = .ok (.iload_n 0, 1) := by decide +kernel
theorem dX2_isDigit_1 : decode cX2_isDigit 1 = .ok (.bipush 48, 2) := by decide +kernel
theorem dX2_isDigit_3 : decode cX2_isDigit 3 = .ok (.if_icmp .lt 13, 3) := by decide +kernel
theorem dX2_isDigit_6 : decode cX2_isDigit 6 = .ok (.iload_n 0, 1) := by decide +kernel
theorem dX2_isDigit_7 : decode cX2_isDigit 7 = .ok (.bipush 54, 2) := by decide +kernel
theorem dX2_isDigit_9 : decode cX2_isDigit 9 = .ok (.if_icmp .ge 7, 3) := by decide +kernel
theorem dX2_isDigit_12 : decode cX2_isDigit 12 = .ok (.iconst 1, 1) := by decide +kernel
theorem dX2_isDigit_13 : decode cX2_isDigit 13 = .ok (.goto 4, 3) := by decide +kernel
theorem dX2_isDigit_16 : decode cX2_isDigit 16 = .ok (.iconst 0, 1) := by decide +kernel
theorem dX2_isDigit_17 : decode cX2_isDigit 17 = .ok (.ireturn, 1) := by decide +kernel
theorem dX2_kindAt_0 : decode cX2_kindAt 0 = .ok (.ldc 42, 2) := by decide +kernel
theorem dX2_kindAt_2 : decode cX2_kindAt 2 = .ok (.aload_n 0, 1) := by decide +kernel
theorem dX2_kindAt_3 : decode cX2_kindAt 3 = .ok (.getfield 9, 3) := by decide +kernel
theorem dX2_kindAt_6 : decode cX2_kindAt 6 = .ok (.iload_n 1, 1) := by decide +kernel
theorem dX2_kindAt_7 : decode cX2_kindAt 7 = .ok (.caload, 1) := by decide +kernel
theorem dX2_kindAt_8 : decode cX2_kindAt 8 = .ok (.invokevirtual 44, 3) := by decide +kernel
theorem dX2_kindAt_11 : decode cX2_kindAt 11 = .ok (.ireturn, 1) := by decide +kernel
theorem dX2_placeAt_0 : decode cX2_placeAt 0 = .ok (.bipush 6, 2) := by decide +kernel
theorem dX2_placeAt_2 : decode cX2_placeAt 2 = .ok (.aload_n 0, 1) := by decide +kernel
theorem dX2_placeAt_3 : decode cX2_placeAt 3 = .ok (.getfield 9, 3) := by decide +kernel
theorem dX2_placeAt_6 : decode cX2_placeAt 6 = .ok (.iload_n 1, 1) := by decide +kernel
theorem dX2_placeAt_7 : decode cX2_placeAt 7 = .ok (.caload, 1) := by decide +kernel
theorem dX2_placeAt_8 : decode cX2_placeAt 8 = .ok (.bipush 48, 2) := by decide +kernel
theorem dX2_placeAt_10 : decode cX2_placeAt 10 = .ok (.isub, 1) := by decide +kernel
theorem dX2_placeAt_11 : decode cX2_placeAt 11 = .ok (.imul, 1) := by decide +kernel
theorem dX2_placeAt_12 : decode cX2_placeAt 12 = .ok (.aload_n 0, 1) := by decide +kernel
theorem dX2_placeAt_13 : decode cX2_placeAt 13 = .ok (.getfield 9, 3) := by decide +kernel
theorem dX2_placeAt_16 : decode cX2_placeAt 16 = .ok (.iload_n 1, 1) := by decide +kernel
theorem dX2_placeAt_17 : decode cX2_placeAt 17 = .ok (.iconst 1, 1) := by decide +kernel
theorem dX2_placeAt_18 : decode cX2_placeAt 18 = .ok (.iadd, 1) := by decide +kernel
theorem dX2_placeAt_19 : decode cX2_placeAt 19 = .ok (.caload, 1) := by decide +kernel
theorem dX2_placeAt_20 : decode cX2_placeAt 20 = .ok (.iadd, 1) := by decide +kernel
theorem dX2_placeAt_21 : decode cX2_placeAt 21 = .ok (.bipush 48, 2) := by decide +kernel
theorem dX2_placeAt_23 : decode cX2_placeAt 23 = .ok (.isub, 1) := by decide +kernel
theorem dX2_placeAt_24 : decode cX2_placeAt 24 = .ok (.ireturn, 1) := by decide +kernel
theorem dX3_init_0 : decode cX3_init 0 = .ok (.aload_n 0, 1) := by decide +kernel
theorem dX3_init_1 : decode cX3_init 1 = .ok (.invokespecial 3, 3) := by decide +kernel
theorem dX3_init_4 : decode cX3_init 4 = .ok (.return_, 1) := by decide +kernel
theorem dX3_kind_0 : decode cX3_kind 0 = .ok (.iconst 1, 1) := by decide +kernel
theorem dX3_kind_1 : decode cX3_kind 1 = .ok (.ireturn, 1) := by decide +kernel
theorem dX3_turn_0 : decode cX3_turn 0 = .ok (.iconst 4, 1) := by decide +kernel
theorem dX3_turn_1 : decode cX3_turn 1 = .ok (.iconst 3, 1) := by decide +kernel
theorem dX3_turn_2 : decode cX3_turn 2 = .ok (.iload_n 1, 1) := by decide +kernel
theorem dX3_turn_3 : decode cX3_turn 3 = .ok (.imul, 1) := by decide +kernel
theorem dX3_turn_4 : decode cX3_turn 4 = .ok (.isub, 1) := by decide +kernel
theorem dX3_turn_5 : decode cX3_turn 5 = .ok (.iload_n 2, 1) := by decide +kernel
theorem dX3_turn_6 : decode cX3_turn 6 = .ok (.isub, 1) := by decide +kernel
theorem dX3_turn_7 : decode cX3_turn 7 = .ok (.ireturn, 1) := by decide +kernel
theorem dX4_init_0 : decode cX4_init 0 = .ok (.aload_n 0, 1) := by decide +kernel
theorem dX4_init_1 : decode cX4_init 1 = .ok (.invokespecial 3, 3) := by decide +kernel
theorem dX4_init_4 : decode cX4_init 4 = .ok (.return_, 1) := by decide +kernel
theorem dX4_kind_0 : decode cX4_kind 0 = .ok (.iconst 4, 1) := by decide +kernel
theorem dX4_kind_1 : decode cX4_kind 1 = .ok (.ireturn, 1) := by decide +kernel
theorem dX4_turn_0 : decode cX4_turn 0 = .ok (.iload_n 1, 1) := by decide +kernel
theorem dX4_turn_1 : decode cX4_turn 1 = .ok (.ifCond .eq 11, 3) := by decide +kernel
theorem dX4_turn_4 : decode cX4_turn 4 = .ok (.iconst 4, 1) := by decide +kernel
theorem dX4_turn_5 : decode cX4_turn 5 = .ok (.iconst 3, 1) := by decide +kernel
theorem dX4_turn_6 : decode cX4_turn 6 = .ok (.iload_n 1, 1) := by decide +kernel
theorem dX4_turn_7 : decode cX4_turn 7 = .ok (.imul, 1) := by decide +kernel
theorem dX4_turn_8 : decode cX4_turn 8 = .ok (.iadd, 1) := by decide +kernel
theorem dX4_turn_9 : decode cX4_turn 9 = .ok (.goto 6, 3) := by decide +kernel
theorem dX4_turn_12 : decode cX4_turn 12 = .ok (.iconst 4, 1) := by decide +kernel
theorem dX4_turn_13 : decode cX4_turn 13 = .ok (.iload_n 2, 1) := by decide +kernel
theorem dX4_turn_14 : decode cX4_turn 14 = .ok (.iadd, 1) := by decide +kernel
theorem dX4_turn_15 : decode cX4_turn 15 = .ok (.ireturn, 1) := by decide +kernel
theorem dX5_init_0 : decode cX5_init 0 = .ok (.aload_n 0, 1) := by decide +kernel
theorem dX5_init_1 : decode cX5_init 1 = .ok (.invokespecial 1, 3) := by decide +kernel
theorem dX5_init_4 : decode cX5_init 4 = .ok (.aload_n 0, 1) := by decide +kernel
theorem dX5_init_5 : decode cX5_init 5 = .ok (.iconst 0, 1) := by decide +kernel
theorem dX5_init_6 : decode cX5_init 6 = .ok (.putfield 7, 3) := by decide +kernel
theorem dX5_init_9 : decode cX5_init 9 = .ok (.aload_n 0, 1) := by decide +kernel
theorem dX5_init_10 : decode cX5_init 10 = .ok (.iconst 0, 1) := by decide +kernel
theorem dX5_init_11 : decode cX5_init 11 = .ok (.putfield 13, 3) := by decide +kernel
theorem dX5_init_14 : decode cX5_init 14 = .ok (.return_, 1) := by decide +kernel
theorem dX6_init_0 : decode cX6_init 0 = .ok (.aload_n 0, 1) := by decide +kernel
theorem dX6_init_1 : decode cX6_init 1 = .ok (.invokespecial 3, 3) := by decide +kernel
theorem dX6_init_4 : decode cX6_init 4 = .ok (.return_, 1) := by decide +kernel
theorem dX6_kind_0 : decode cX6_kind 0 = .ok (.iconst 3, 1) := by decide +kernel
theorem dX6_kind_1 : decode cX6_kind 1 = .ok (.ireturn, 1) := by decide +kernel
theorem dX6_turn_0 : decode cX6_turn 0 = .ok (.iconst 4, 1) := by decide +kernel
theorem dX6_turn_1 : decode cX6_turn 1 = .ok (.iconst 3, 1) := by decide +kernel
theorem dX6_turn_2 : decode cX6_turn 2 = .ok (.iload_n 2, 1) := by decide +kernel
theorem dX6_turn_3 : decode cX6_turn 3 = .ok (.imul, 1) := by decide +kernel
theorem dX6_turn_4 : decode cX6_turn 4 = .ok (.iadd, 1) := by decide +kernel
theorem dX6_turn_5 : decode cX6_turn 5 = .ok (.iload_n 1, 1) := by decide +kernel
theorem dX6_turn_6 : decode cX6_turn 6 = .ok (.isub, 1) := by decide +kernel
theorem dX6_turn_7 : decode cX6_turn 7 = .ok (.ireturn, 1) := by decide +kernel
theorem dX7_init_0 : decode cX7_init 0 = .ok (.aload_n 0, 1) := by decide +kernel
theorem dX7_init_1 : decode cX7_init 1 = .ok (.invokespecial 3, 3) := by decide +kernel
theorem dX7_init_4 : decode cX7_init 4 = .ok (.aload_n 0, 1) := by decide +kernel
theorem dX7_init_5 : decode cX7_init 5 = .ok (.iconst 4, 1) := by decide +kernel
theorem dX7_init_6 : decode cX7_init 6 = .ok (.newarray .int, 2) := by decide +kernel
theorem dX7_init_8 : decode cX7_init 8 = .ok (.putfield 9, 3) := by decide +kernel
theorem dX7_init_11 : decode cX7_init 11 = .ok (.aload_n 0, 1) := by decide +kernel
theorem dX7_init_12 : decode cX7_init 12 = .ok (.bipush 6, 2) := by decide +kernel
theorem dX7_init_14 : decode cX7_init 14 = .ok (.newarray .int, 2) := by decide +kernel
theorem dX7_init_16 : decode cX7_init 16 = .ok (.putfield 15, 3) := by decide +kernel
theorem dX7_init_19 : decode cX7_init 19 = .ok (.aload_n 0, 1) := by decide +kernel
theorem dX7_init_20 : decode cX7_init 20 = .ok (.bipush 6, 2) := by decide +kernel
theorem dX7_init_22 : decode cX7_init 22 = .ok (.newarray .int, 2) := by decide +kernel
theorem dX7_init_24 : decode cX7_init 24 = .ok (.putfield 18, 3) := by decide +kernel
theorem dX7_init_27 : decode cX7_init 27 = .ok (.aload_n 0, 1) := by decide +kernel
theorem dX7_init_28 : decode cX7_init 28 = .ok (.bipush 6, 2) := by decide +kernel
theorem dX7_init_30 : decode cX7_init 30 = .ok (.newarray .int, 2) := by decide +kernel
theorem dX7_init_32 : decode cX7_init 32 = .ok (.putfield 21, 3) := by decide +kernel
theorem dX7_init_35 : decode cX7_init 35 = .ok (.aload_n 0, 1) := by decide +kernel
theorem dX7_init_36 : decode cX7_init 36 = .ok (.lconst 0, 1) := by decide +kernel
theorem dX7_init_37 : decode cX7_init 37 = .ok (.putfield 24, 3) := by decide +kernel
theorem dX7_init_40 : decode cX7_init 40 = .ok (.aload_n 0, 1) := by decide +kernel
theorem dX7_init_41 : decode cX7_init 41 = .ok (.iconst 0, 1) := by decide +kernel
theorem dX7_init_42 : decode cX7_init 42 = .ok (.putfield 28, 3) := by decide +kernel
theorem dX7_init_45 : decode cX7_init 45 = .ok (.aload_n 0, 1) := by decide +kernel
theorem dX7_init_46 : decode cX7_init 46 = .ok (.iconst 0, 1) := by decide +kernel
theorem dX7_init_47 : decode cX7_init 47 = .ok (.putfield 32, 3) := by decide +kernel
theorem dX7_init_50 : decode cX7_init 50 = .ok (.aload_n 0, 1) := by decide +kernel
theorem dX7_init_51 : decode cX7_init 51 = .ok (.iconst 0, 1) := by decide +kernel
theorem dX7_init_52 : decode cX7_init 52 = .ok (.putfield 35, 3) := by decide +kernel
theorem dX7_init_55 : decode cX7_init 55 = .ok (.aload_n 0, 1) := by decide +kernel
theorem dX7_init_56 : decode cX7_init 56 = .ok (.iconst 0, 1) := by decide +kernel
theorem dX7_init_57 : decode cX7_init 57 = .ok (.putfield 38, 3) := by decide +kernel
theorem dX7_init_60 : decode cX7_init 60 = .ok (.return_, 1) := by decide +kernel
theorem dX7_clear_0 : decode cX7_clear 0 = .ok (.aload_n 0, 1) := by decide +kernel
theorem dX7_clear_1 : decode cX7_clear 1 = .ok (.lconst 0, 1) := by decide +kernel
theorem dX7_clear_2 : decode cX7_clear 2 = .ok (.putfield 24, 3) := by decide +kernel
theorem dX7_clear_5 : decode cX7_clear 5 = .ok (.aload_n 0, 1) := by decide +kernel
theorem dX7_clear_6 : decode cX7_clear 6 = .ok (.iconst 0, 1) := by decide +kernel
theorem dX7_clear_7 : decode cX7_clear 7 = .ok (.putfield 28, 3) := by decide +kernel
theorem dX7_clear_10 : decode cX7_clear 10 = .ok (.aload_n 0, 1) := by decide +kernel
theorem dX7_clear_11 : decode cX7_clear 11 = .ok (.iconst 0, 1) := by decide +kernel
theorem dX7_clear_12 : decode cX7_clear 12 = .ok (.putfield 32, 3) := by decide +kernel
theorem dX7_clear_15 : decode cX7_clear 15 = .ok (.aload_n 0, 1) := by decide +kernel
theorem dX7_clear_16 : decode cX7_clear 16 = .ok (.iconst 0, 1) := by decide +kernel
theorem dX7_clear_17 : decode cX7_clear 17 = .ok (.putfield 35, 3) := by decide +kernel
theorem dX7_clear_20 : decode cX7_clear 20 = .ok (.aload_n 0, 1) := by decide +kernel
theorem dX7_clear_21 : decode cX7_clear 21 = .ok (.iconst 0, 1) := by decide +kernel
theorem dX7_clear_22 : decode cX7_clear 22 = .ok (.putfield 38, 3) := by decide +kernel
theorem dX7_clear_25 : decode cX7_clear 25 = .ok (.return_, 1) := by decide +kernel
theorem dX7_copyFrom_0 : decode cX7_copyFrom 0 = .ok (.aload_n 1, 1) := by decide +kernel
theorem dX7_copyFrom_1 : decode cX7_copyFrom 1 = .ok (.getfield 9, 3) := by decide +kernel
theorem dX7_copyFrom_4 : decode cX7_copyFrom 4 = .ok (.iconst 0, 1) := by decide +kernel
theorem dX7_copyFrom_5 : decode cX7_copyFrom 5 = .ok (.aload_n 0, 1) := by decide +kernel
theorem dX7_copyFrom_6 : decode cX7_copyFrom 6 = .ok (.getfield 9, 3) := by decide +kernel
theorem dX7_copyFrom_9 : decode cX7_copyFrom 9 = .ok (.iconst 0, 1) := by decide +kernel
theorem dX7_copyFrom_10 : decode cX7_copyFrom 10 = .ok (.iconst 4, 1) := by decide +kernel
theorem dX7_copyFrom_11 : decode cX7_copyFrom 11 = .ok (.invokestatic 41, 3) := by decide +kernel
theorem dX7_copyFrom_14 : decode cX7_copyFrom 14 = .ok (.aload_n 1, 1) := by decide +kernel
theorem dX7_copyFrom_15 : decode cX7_copyFrom 15 = .ok (.getfield 15, 3) := by decide +kernel
theorem dX7_copyFrom_18 : decode cX7_copyFrom 18 = .ok (.iconst 0, 1) := by decide +kernel
theorem dX7_copyFrom_19 : decode cX7_copyFrom 19 = .ok (.aload_n 0, 1) := by decide +kernel
theorem dX7_copyFrom_20 : decode cX7_copyFrom 20 = .ok (.getfield 15, 3) := by decide +kernel
theorem dX7_copyFrom_23 : decode cX7_copyFrom 23 = .ok (.iconst 0, 1) := by decide +kernel
theorem dX7_copyFrom_24 : decode cX7_copyFrom 24 = .ok (.bipush 6, 2) := by decide +kernel
theorem dX7_copyFrom_26 : decode cX7_copyFrom 26 = .ok (.invokestatic 41, 3) := by decide +kernel
theorem dX7_copyFrom_29 : decode cX7_copyFrom 29 = .ok (.aload_n 1, 1) := by decide +kernel
theorem dX7_copyFrom_30 : decode cX7_copyFrom 30 = .ok (.getfield 18, 3) := by decide +kernel
theorem dX7_copyFrom_33 : decode cX7_copyFrom 33 = .ok (.iconst 0, 1) := by decide +kernel
theorem dX7_copyFrom_34 : decode cX7_copyFrom 34 = .ok (.aload_n 0, 1) := by decide +kernel
theorem dX7_copyFrom_35 : decode cX7_copyFrom 35 = .ok (.getfield 18, 3) := by decide +kernel
theorem dX7_copyFrom_38 : decode cX7_copyFrom 38 = .ok (.iconst 0, 1) := by decide +kernel
theorem dX7_copyFrom_39 : decode cX7_copyFrom 39 = .ok (.bipush 6, 2) := by decide +kernel
theorem dX7_copyFrom_41 : decode cX7_copyFrom 41 = .ok (.invokestatic 41, 3) := by decide +kernel
theorem dX7_copyFrom_44 : decode cX7_copyFrom 44 = .ok (.aload_n 1, 1) := by decide +kernel
theorem dX7_copyFrom_45 : decode cX7_copyFrom 45 = .ok (.getfield 21, 3) := by decide +kernel
theorem dX7_copyFrom_48 : decode cX7_copyFrom 48 = .ok (.iconst 0, 1) := by decide +kernel
theorem dX7_copyFrom_49 : decode cX7_copyFrom 49 = .ok (.aload_n 0, 1) := by decide +kernel
theorem dX7_copyFrom_50 : decode cX7_copyFrom 50 = .ok (.getfield 21, 3) := by decide +kernel
theorem dX7_copyFrom_53 : decode cX7_copyFrom 53 = .ok (.iconst 0, 1) := by decide +kernel
theorem dX7_copyFrom_54 : decode cX7_copyFrom 54 = .ok (.bipush 6, 2) := by decide +kernel
theorem dX7_copyFrom_56 : decode cX7_copyFrom 56 = .ok (.invokestatic 41, 3) := by decide +kernel
theorem dX7_copyFrom_59 : decode cX7_copyFrom 59 = .ok (.aload_n 0, 1) := by decide +kernel
theorem dX7_copyFrom_60 : decode cX7_copyFrom 60 = .ok (.aload_n 1, 1) := by decide +kernel
theorem dX7_copyFrom_61 : decode cX7_copyFrom 61 = .ok (.getfield 24, 3) := by decide +kernel
theorem dX7_copyFrom_64 : decode cX7_copyFrom 64 = .ok (.putfield 24, 3) := by decide +kernel
theorem dX7_copyFrom_67 : decode cX7_copyFrom 67 = .ok (.aload_n 0, 1) := by decide +kernel
theorem dX7_copyFrom_68 : decode cX7_copyFrom 68 = .ok (.aload_n 1, 1) := by decide +kernel
theorem dX7_copyFrom_69 : decode cX7_copyFrom 69 = .ok (.getfield 28, 3) := by decide +kernel
theorem dX7_copyFrom_72 : decode cX7_copyFrom 72 = .ok (.putfield 28, 3) := by decide +kernel
theorem dX7_copyFrom_75 : decode cX7_copyFrom 75 = .ok (.aload_n 0, 1) := by decide +kernel
theorem dX7_copyFrom_76 : decode cX7_copyFrom 76 = .ok (.aload_n 1, 1) := by decide +kernel
theorem dX7_copyFrom_77 : decode cX7_copyFrom 77 = .ok (.getfield 32, 3) := by decide +kernel
theorem dX7_copyFrom_80 : decode cX7_copyFrom 80 = .ok (.putfield 32, 3) := by decide +kernel
theorem dX7_copyFrom_83 : decode cX7_copyFrom 83 = .ok (.aload_n 0, 1) := by decide +kernel
theorem dX7_copyFrom_84 : decode cX7_copyFrom 84 = .ok (.aload_n 1, 1) := by decide +kernel
theorem dX7_copyFrom_85 : decode cX7_copyFrom 85 = .ok (.getfield 35, 3) := by decide +kernel
theorem dX7_copyFrom_88 : decode cX7_copyFrom 88 = .ok (.putfield 35, 3) := by decide +kernel
theorem dX7_copyFrom_91 : decode cX7_copyFrom 91 = .ok (.aload_n 0, 1) := by decide +kernel
theorem dX7_copyFrom_92 : decode cX7_copyFrom 92 = .ok (.aload_n 1, 1) := by decide +kernel
theorem dX7_copyFrom_93 : decode cX7_copyFrom 93 = .ok (.getfield 38, 3) := by decide +kernel
theorem dX7_copyFrom_96 : decode cX7_copyFrom 96 = .ok (.putfield 38, 3) := by decide +kernel
theorem dX7_copyFrom_99 : decode cX7_copyFrom 99 = .ok (.return_, 1) := by decide +kernel
theorem dX7_isIsland_0 : decode cX7_isIsland 0 = .ok (.aload_n 0, 1) := by decide +kernel
theorem dX7_isIsland_1 : decode cX7_isIsland 1 = .ok (.getfield 24, 3) := by decide +kernel
theorem dX7_isIsland_4 : decode cX7_isIsland 4 = .ok (.iload_n 1, 1) := by decide +kernel
theorem dX7_isIsland_5 : decode cX7_isIsland 5 = .ok (.lshr, 1) := by decide +kernel
theorem dX7_isIsland_6 : decode cX7_isIsland 6 = .ok (.lconst 1, 1) := by decide +kernel
theorem dX7_isIsland_7 : decode cX7_isIsland 7 = .ok (.land, 1) := by decide +kernel
theorem dX7_isIsland_8 : decode cX7_isIsland 8 = .ok (.lconst 1, 1) := by decide +kernel
theorem dX7_isIsland_9 : decode cX7_isIsland 9 = .ok (.lcmp, 1) := by decide +kernel
theorem dX7_isIsland_10 : decode cX7_isIsland 10 = .ok (.ifCond .ne 7, 3) := by decide +kernel
theorem dX7_isIsland_13 : decode cX7_isIsland 13 = .ok (.iconst 1, 1) := by decide +kernel
theorem dX7_isIsland_14 : decode cX7_isIsland 14 = .ok (.goto 4, 3) := by decide +kernel
theorem dX7_isIsland_17 : decode cX7_isIsland 17 = .ok (.iconst 0, 1) := by decide +kernel
theorem dX7_isIsland_18 : decode cX7_isIsland 18 = .ok (.ireturn, 1) := by decide +kernel
theorem dX7_setIsland_0 : decode cX7_setIsland 0 = .ok (.lconst 1, 1) := by decide +kernel
theorem dX7_setIsland_1 : decode cX7_setIsland 1 = .ok (.iload_n 1, 1) := by decide +kernel
theorem dX7_setIsland_2 : decode cX7_setIsland 2 = .ok (.lshl, 1) := by decide +kernel
theorem dX7_setIsland_3 : decode cX7_setIsland 3 = .ok (.lstore_n 3, 1) := by decide +kernel
theorem dX7_setIsland_4 : decode cX7_setIsland 4 = .ok (.aload_n 0, 1) := by decide +kernel
theorem dX7_setIsland_5 : decode cX7_setIsland 5 = .ok (.iload_n 2, 1) := by decide +kernel
theorem dX7_setIsland_6 : decode cX7_setIsland 6 = .ok (.ifCond .eq 12, 3) := by decide +kernel
theorem dX7_setIsland_9 : decode cX7_setIsland 9 = .ok (.aload_n 0, 1) := by decide +kernel
theorem dX7_setIsland_10 : decode cX7_setIsland 10 = .ok (.getfield 24, 3) := by decide +kernel
theorem dX7_setIsland_13 : decode cX7_setIsland 13 = .ok (.lload_n 3, 1) := by decide +kernel
theorem dX7_setIsland_14 : decode cX7_setIsland 14 = .ok (.lor, 1) := by decide +kernel
theorem dX7_setIsland_15 : decode cX7_setIsland 15 = .ok (.goto 13, 3) := by decide +kernel
theorem dX7_setIsland_18 : decode cX7_setIsland 18 = .ok (.aload_n 0, 1) := by decide +kernel
theorem dX7_setIsland_19 : decode cX7_setIsland 19 = .ok (.getfield 24, 3) := by decide +kernel
theorem dX7_setIsland_22 : decode cX7_setIsland 22 = .ok (.lload_n 3, 1) := by decide +kernel
theorem dX7_setIsland_23 : decode cX7_setIsland 23 = .ok (.ldc2_w 47, 3) := by decide +kernel
theorem dX7_setIsland_26 : decode cX7_setIsland 26 = .ok (.lxor, 1) := by decide +kernel
theorem dX7_setIsland_27 : decode cX7_setIsland 27 = .ok (.land, 1) := by decide +kernel
theorem dX7_setIsland_28 : decode cX7_setIsland 28 = .ok (.putfield 24, 3) := by decide +kernel
theorem dX7_setIsland_31 : decode cX7_setIsland 31 = .ok (.return_, 1) := by decide +kernel
theorem dX7_placeBehind_0 : decode cX7_placeBehind 0 = .ok (.iload_n 1, 1) := by decide +kernel
theorem dX7_placeBehind_1 : decode cX7_placeBehind 1 = .ok (.bipush 6, 2) := by decide +kernel
theorem dX7_placeBehind_3 : decode cX7_placeBehind 3 = .ok (.idiv, 1) := by decide +kernel
theorem dX7_placeBehind_4 : decode cX7_placeBehind 4 = .ok (.iload_n 2, 1) := by decide +kernel
theorem dX7_placeBehind_5 : decode cX7_placeBehind 5 = .ok (.iconst 3, 1) := by decide +kernel
theorem dX7_placeBehind_6 : decode cX7_placeBehind 6 = .ok (.idiv, 1) := by decide +kernel
theorem dX7_placeBehind_7 : decode cX7_placeBehind 7 = .ok (.iadd, 1) := by decide +kernel
theorem dX7_placeBehind_8 : decode cX7_placeBehind 8 = .ok (.iconst 1, 1) := by decide +kernel
theorem dX7_placeBehind_9 : decode cX7_placeBehind 9 = .ok (.isub, 1) := by decide +kernel
theorem dX7_placeBehind_10 : decode cX7_placeBehind 10 = .ok (.istore_n 3, 1) := by decide +kernel
theorem dX7_placeBehind_11 : decode cX7_placeBehind 11 = .ok (.iload_n 1, 1) := by decide +kernel
theorem dX7_placeBehind_12 : decode cX7_placeBehind 12 = .ok (.bipush 6, 2) := by decide +kernel
theorem dX7_placeBehind_14 : decode cX7_placeBehind 14 = .ok (.irem, 1) := by decide +kernel
theorem dX7_placeBehind_15 : decode cX7_placeBehind 15 = .ok (.iload_n 2, 1) := by decide +kernel
theorem dX7_placeBehind_16 : decode cX7_placeBehind 16 = .ok (.iconst 3, 1) := by decide +kernel
theorem dX7_placeBehind_17 : decode cX7_placeBehind 17 = .ok (.irem, 1) := by decide +kernel
theorem dX7_placeBehind_18 : decode cX7_placeBehind 18 = .ok (.iadd, 1) := by decide +kernel
theorem dX7_placeBehind_19 : decode cX7_placeBehind 19 = .ok (.iconst 1, 1) := by decide +kernel
theorem dX7_placeBehind_20 : decode cX7_placeBehind 20 = .ok (.isub, 1) := by decide +kernel
theorem dX7_placeBehind_21 : decode cX7_placeBehind 21 = .ok (.istore 4, 2) := by decide +kernel
theorem dX7_placeBehind_23 : decode cX7_placeBehind 23 = .ok (.iload_n 3, 1) := by decide +kernel
theorem dX7_placeBehind_24 : decode cX7_placeBehind 24 = .ok (.ifCond .lt 21, 3) := by decide +kernel
theorem dX7_placeBehind_27 : decode cX7_placeBehind 27 = .ok (.iload_n 3, 1) := by decide +kernel
theorem dX7_placeBehind_28 : decode cX7_placeBehind 28 = .ok (.bipush 6, 2) := by decide +kernel
theorem dX7_placeBehind_30 : decode cX7_placeBehind 30 = .ok (.if_icmp .ge 15, 3) := by decide +kernel
theorem dX7_placeBehind_33 : decode cX7_placeBehind 33 = .ok (.iload 4, 2) := by decide +kernel
theorem dX7_placeBehind_35 : decode cX7_placeBehind 35 = .ok (.ifCond .lt 10, 3) := by decide +kernel
theorem dX7_placeBehind_38 : decode cX7_placeBehind 38 = .ok (.iload 4, 2) := by decide +kernel
theorem dX7_placeBehind_40 : decode cX7_placeBehind 40 = .ok (.bipush 6, 2) := by decide +kernel
theorem dX7_placeBehind_42 : decode cX7_placeBehind 42 = .ok (.if_icmp .lt 5, 3) := by decide +kernel
theorem dX7_placeBehind_45 : decode cX7_placeBehind 45 = .ok (.iload_n 1, 1) := by decide +kernel
theorem dX7_placeBehind_46 : decode cX7_placeBehind 46 = .ok (.ireturn, 1) := by decide +kernel
theorem dX7_placeBehind_47 : decode cX7_placeBehind 47 = .ok (.bipush 6, 2) := by decide +kernel
theorem dX7_placeBehind_49 : decode cX7_placeBehind 49 = .ok (.iload_n 3, 1) := by decide +kernel
theorem dX7_placeBehind_50 : decode cX7_placeBehind 50 = .ok (.imul, 1) := by decide +kernel
theorem dX7_placeBehind_51 : decode cX7_placeBehind 51 = .ok (.iload 4, 2) := by decide +kernel
theorem dX7_placeBehind_53 : decode cX7_placeBehind 53 = .ok (.iadd, 1) := by decide +kernel
theorem dX7_placeBehind_54 : decode cX7_placeBehind 54 = .ok (.istore 5, 2) := by decide +kernel
theorem dX7_placeBehind_56 : decode cX7_placeBehind 56 = .ok (.aload_n 0, 1) := by decide +kernel
theorem dX7_placeBehind_57 : decode cX7_placeBehind 57 = .ok (.iload 5, 2) := by decide +kernel
theorem dX7_placeBehind_59 : decode cX7_placeBehind 59 = .ok (.invokevirtual 49, 3) := by decide +kernel
theorem dX7_placeBehind_62 : decode cX7_placeBehind 62 = .ok (.ifCond .eq 7, 3) := by decide +kernel
theorem dX7_placeBehind_65 : decode cX7_placeBehind 65 = .ok (.iload_n 1, 1) := by decide +kernel
theorem dX7_placeBehind_66 : decode cX7_placeBehind 66 = .ok (.goto 5, 3) := by decide +kernel
theorem dX7_placeBehind_69 : decode cX7_placeBehind 69 = .ok (.iload 5, 2) := by decide +kernel
theorem dX7_placeBehind_71 : decode cX7_placeBehind 71 = .ok (.ireturn, 1) := by decide +kernel
theorem dX7_move_0 : decode cX7_move 0 = .ok (.aload_n 0, 1) := by decide +kernel
theorem dX7_move_1 : decode cX7_move 1 = .ok (.aload_n 0, 1) := by decide +kernel
theorem dX7_move_2 : decode cX7_move 2 = .ok (.getfield 28, 3) := by decide +kernel
theorem dX7_move_5 : decode cX7_move 5 = .ok (.iload_n 1, 1) := by decide +kernel
theorem dX7_move_6 : decode cX7_move 6 = .ok (.invokevirtual 53, 3) := by decide +kernel
theorem dX7_move_9 : decode cX7_move 9 = .ok (.istore_n 2, 1) := by decide +kernel
theorem dX7_move_10 : decode cX7_move 10 = .ok (.aload_n 0, 1) := by decide +kernel
theorem dX7_move_11 : decode cX7_move 11 = .ok (.dup, 1) := by decide +kernel
theorem dX7_move_12 : decode cX7_move 12 = .ok (.getfield 32, 3) := by decide +kernel
theorem dX7_move_15 : decode cX7_move 15 = .ok (.iconst 1, 1) := by decide +kernel
theorem dX7_move_16 : decode cX7_move 16 = .ok (.iadd, 1) := by decide +kernel
theorem dX7_move_17 : decode cX7_move 17 = .ok (.putfield 32, 3) := by decide +kernel
theorem dX7_move_20 : decode cX7_move 20 = .ok (.iload_n 2, 1) := by decide +kernel
theorem dX7_move_21 : decode cX7_move 21 = .ok (.aload_n 0, 1) := by decide +kernel
theorem dX7_move_22 : decode cX7_move 22 = .ok (.getfield 28, 3) := by decide +kernel
theorem dX7_move_25 : decode cX7_move 25 = .ok (.if_icmp .eq 13, 3) := by decide +kernel
theorem dX7_move_28 : decode cX7_move 28 = .ok (.aload_n 0, 1) := by decide +kernel
theorem dX7_move_29 : decode cX7_move 29 = .ok (.dup, 1) := by decide +kernel
theorem dX7_move_30 : decode cX7_move 30 = .ok (.getfield 35, 3) := by decide +kernel
theorem dX7_move_33 : decode cX7_move 33 = .ok (.iconst 1, 1) := by decide +kernel
theorem dX7_move_34 : decode cX7_move 34 = .ok (.iadd, 1) := by decide +kernel
theorem dX7_move_35 : decode cX7_move 35 = .ok (.putfield 35, 3) := by decide +kernel
theorem dX7_move_38 : decode cX7_move 38 = .ok (.aload_n 0, 1) := by decide +kernel
theorem dX7_move_39 : decode cX7_move 39 = .ok (.iload_n 2, 1) := by decide +kernel
theorem dX7_move_40 : decode cX7_move 40 = .ok (.putfield 28, 3) := by decide +kernel
theorem dX7_move_43 : decode cX7_move 43 = .ok (.aload_n 0, 1) := by decide +kernel
theorem dX7_move_44 : decode cX7_move 44 = .ok (.getfield 28, 3) := by decide +kernel
theorem dX7_move_47 : decode cX7_move 47 = .ok (.ireturn, 1) := by decide +kernel
theorem dX7_addSeen_0 : decode cX7_addSeen 0 = .ok (.aload_n 0, 1) := by decide +kernel
theorem dX7_addSeen_1 : decode cX7_addSeen 1 = .ok (.getfield 38, 3) := by decide +kernel
theorem dX7_addSeen_4 : decode cX7_addSeen 4 = .ok (.bipush 6, 2) := by decide +kernel
theorem dX7_addSeen_6 : decode cX7_addSeen 6 = .ok (.if_icmp .ge 43, 3) := by decide +kernel
theorem dX7_addSeen_9 : decode cX7_addSeen 9 = .ok (.aload_n 0, 1) := by decide +kernel
theorem dX7_addSeen_10 : decode cX7_addSeen 10 = .ok (.getfield 15, 3) := by decide +kernel
theorem dX7_addSeen_13 : decode cX7_addSeen 13 = .ok (.aload_n 0, 1) := by decide +kernel
theorem dX7_addSeen_14 : decode cX7_addSeen 14 = .ok (.getfield 38, 3) := by decide +kernel
theorem dX7_addSeen_17 : decode cX7_addSeen 17 = .ok (.iload_n 1, 1) := by decide +kernel
theorem dX7_addSeen_18 : decode cX7_addSeen 18 = .ok (.iastore, 1) := by decide +kernel
theorem dX7_addSeen_19 : decode cX7_addSeen 19 = .ok (.aload_n 0, 1) := by decide +kernel
theorem dX7_addSeen_20 : decode cX7_addSeen 20 = .ok (.getfield 18, 3) := by decide +kernel
theorem dX7_addSeen_23 : decode cX7_addSeen 23 = .ok (.aload_n 0, 1) := by decide +kernel
theorem dX7_addSeen_24 : decode cX7_addSeen 24 = .ok (.getfield 38, 3) := by decide +kernel
theorem dX7_addSeen_27 : decode cX7_addSeen 27 = .ok (.iload_n 2, 1) := by decide +kernel
theorem dX7_addSeen_28 : decode cX7_addSeen 28 = .ok (.iastore, 1) := by decide +kernel
theorem dX7_addSeen_29 : decode cX7_addSeen 29 = .ok (.aload_n 0, 1) := by decide +kernel
theorem dX7_addSeen_30 : decode cX7_addSeen 30 = .ok (.getfield 21, 3) := by decide +kernel
theorem dX7_addSeen_33 : decode cX7_addSeen 33 = .ok (.aload_n 0, 1) := by decide +kernel
theorem dX7_addSeen_34 : decode cX7_addSeen 34 = .ok (.getfield 38, 3) := by decide +kernel
theorem dX7_addSeen_37 : decode cX7_addSeen 37 = .ok (.iload_n 3, 1) := by decide +kernel
theorem dX7_addSeen_38 : decode cX7_addSeen 38 = .ok (.iastore, 1) := by decide +kernel
theorem dX7_addSeen_39 : decode cX7_addSeen 39 = .ok (.aload_n 0, 1) := by decide +kernel
theorem dX7_addSeen_40 : decode cX7_addSeen 40 = .ok (.dup, 1) := by decide +kernel
theorem dX7_addSeen_41 : decode cX7_addSeen 41 = .ok (.getfield 38, 3) := by decide +kernel
theorem dX7_addSeen_44 : decode cX7_addSeen 44 = .ok (.iconst 1, 1) := by decide +kernel
theorem dX7_addSeen_45 : decode cX7_addSeen 45 = .ok (.iadd, 1) := by decide +kernel
theorem dX7_addSeen_46 : decode cX7_addSeen 46 = .ok (.putfield 38, 3) := by decide +kernel
theorem dX7_addSeen_49 : decode cX7_addSeen 49 = .ok (.return_, 1) := by decide +kernel
theorem dX8_init_0 : decode cX8_init 0 = .ok (.aload_n 0, 1) := by decide +kernel
theorem dX8_init_1 : decode cX8_init 1 = .ok (.invokespecial 1, 3) := by decide +kernel
theorem dX8_init_4 : decode cX8_init 4 = .ok (.aload_n 0, 1) := by decide +kernel
theorem dX8_init_5 : decode cX8_init 5 = .ok (.new 7, 3) := by decide +kernel
theorem dX8_init_8 : decode cX8_init 8 = .ok (.dup, 1) := by decide +kernel
theorem dX8_init_9 : decode cX8_init 9 = .ok (.invokespecial 9, 3) := by decide +kernel
theorem dX8_init_12 : decode cX8_init 12 = .ok (.putfield 10, 3) := by decide +kernel
theorem dX8_init_15 : decode cX8_init 15 = .ok (.aload_n 0, 1) := by decide +kernel
theorem dX8_init_16 : decode cX8_init 16 = .ok (.iconst 4, 1) := by decide +kernel
theorem dX8_init_17 : decode cX8_init 17 = .ok (.anewarray 16, 3) := by decide +kernel
theorem dX8_init_20 : decode cX8_init 20 = .ok (.putfield 18, 3) := by decide +kernel
theorem dX8_init_23 : decode cX8_init 23 = .ok (.aload_n 0, 1) := by decide +kernel
theorem dX8_init_24 : decode cX8_init 24 = .ok (.new 22, 3) := by decide +kernel
theorem dX8_init_27 : decode cX8_init 27 = .ok (.dup, 1) := by decide +kernel
theorem dX8_init_28 : decode cX8_init 28 = .ok (.invokespecial 24, 3) := by decide +kernel
theorem dX8_init_31 : decode cX8_init 31 = .ok (.putfield 25, 3) := by decide +kernel
theorem dX8_init_34 : decode cX8_init 34 = .ok (.aload_n 0, 1) := by decide +kernel
theorem dX8_init_35 : decode cX8_init 35 = .ok (.new 22, 3) := by decide +kernel
theorem dX8_init_38 : decode cX8_init 38 = .ok (.dup, 1) := by decide +kernel
theorem dX8_init_39 : decode cX8_init 39 = .ok (.invokespecial 24, 3) := by decide +kernel
theorem dX8_init_42 : decode cX8_init 42 = .ok (.putfield 29, 3) := by decide +kernel
theorem dX8_init_45 : decode cX8_init 45 = .ok (.aload_n 0, 1) := by decide +kernel
theorem dX8_init_46 : decode cX8_init 46 = .ok (.new 32, 3) := by decide +kernel
theorem dX8_init_49 : decode cX8_init 49 = .ok (.dup, 1) := by decide +kernel
theorem dX8_init_50 : decode cX8_init 50 = .ok (.invokespecial 34, 3) := by decide +kernel
theorem dX8_init_53 : decode cX8_init 53 = .ok (.putfield 35, 3) := by decide +kernel
theorem dX8_init_56 : decode cX8_init 56 = .ok (.aload_n 0, 1) := by decide +kernel
theorem dX8_init_57 : decode cX8_init 57 = .ok (.bipush 36, 2) := by decide +kernel
theorem dX8_init_59 : decode cX8_init 59 = .ok (.newarray .int, 2) := by decide +kernel
theorem dX8_init_61 : decode cX8_init 61 = .ok (.putfield 39, 3) := by decide +kernel
theorem dX8_init_64 : decode cX8_init 64 = .ok (.aload_n 0, 1) := by decide +kernel
theorem dX8_init_65 : decode cX8_init 65 = .ok (.bipush 36, 2) := by decide +kernel
theorem dX8_init_67 : decode cX8_init 67 = .ok (.newarray .int, 2) := by decide +kernel
theorem dX8_init_69 : decode cX8_init 69 = .ok (.putfield 43, 3) := by decide +kernel
theorem dX8_init_72 : decode cX8_init 72 = .ok (.aload_n 0, 1) := by decide +kernel
theorem dX8_init_73 : decode cX8_init 73 = .ok (.bipush 9, 2) := by decide +kernel
theorem dX8_init_75 : decode cX8_init 75 = .ok (.newarray .int, 2) := by decide +kernel
theorem dX8_init_77 : decode cX8_init 77 = .ok (.putfield 46, 3) := by decide +kernel
theorem dX8_init_80 : decode cX8_init 80 = .ok (.aload_n 0, 1) := by decide +kernel
theorem dX8_init_81 : decode cX8_init 81 = .ok (.iconst 0, 1) := by decide +kernel
theorem dX8_init_82 : decode cX8_init 82 = .ok (.putfield 49, 3) := by decide +kernel
theorem dX8_init_85 : decode cX8_init 85 = .ok (.aload_n 0, 1) := by decide +kernel
theorem dX8_init_86 : decode cX8_init 86 = .ok (.iconst 0, 1) := by decide +kernel
theorem dX8_init_87 : decode cX8_init 87 = .ok (.putfield 53, 3) := by decide +kernel
theorem dX8_init_90 : decode cX8_init 90 = .ok (.aload_n 0, 1) := by decide +kernel
theorem dX8_init_91 : decode cX8_init 91 = .ok (.iconst 0, 1) := by decide +kernel
theorem dX8_init_92 : decode cX8_init 92 = .ok (.putfield 56, 3) := by decide +kernel
theorem dX8_init_95 : decode cX8_init 95 = .ok (.iconst 0, 1) := by decide +kernel
theorem dX8_init_96 : decode cX8_init 96 = .ok (.istore_n 1, 1) := by decide +kernel
theorem dX8_init_97 : decode cX8_init 97 = .ok (.iload_n 1, 1) := by decide +kernel
theorem dX8_init_98 : decode cX8_init 98 = .ok (.iconst 4, 1) := by decide +kernel
theorem dX8_init_99 : decode cX8_init 99 = .ok (.if_icmp .ge 22, 3) := by decide +kernel
theorem dX8_init_102 : decode cX8_init 102 = .ok (.aload_n 0, 1) := by decide +kernel
theorem dX8_init_103 : decode cX8_init 103 = .ok (.getfield 18, 3) := by decide +kernel
theorem dX8_init_106 : decode cX8_init 106 = .ok (.iload_n 1, 1) := by decide +kernel
theorem dX8_init_107 : decode cX8_init 107 = .ok (.new 16, 3) := by decide +kernel
theorem dX8_init_110 : decode cX8_init 110 = .ok (.dup, 1) := by decide +kernel
theorem dX8_init_111 : decode cX8_init 111 = .ok (.invokespecial 60, 3) := by decide +kernel
theorem dX8_init_114 : decode cX8_init 114 = .ok (.aastore, 1) := by decide +kernel
theorem dX8_init_115 : decode cX8_init 115 = .ok (.iinc 1 1, 3) := by decide +kernel
theorem dX8_init_118 : decode cX8_init 118 = .ok (.goto (-21), 3) := by decide +kernel
theorem dX8_init_121 : decode cX8_init 121 = .ok (.return_, 1) := by decide +kernel
theorem dX8_letter_0 : decode cX8_letter 0 = .ok (.iload_n 1, 1) := by decide +kernel
theorem dX8_letter_1 : decode cX8_letter 1 = .ok (.iconst 1, 1) := by decide +kernel
theorem dX8_letter_2 : decode cX8_letter 2 = .ok (.if_icmp .lt 9, 3) := by decide +kernel
theorem dX8_letter_5 : decode cX8_letter 5 = .ok (.iload_n 1, 1) := by decide +kernel
theorem dX8_letter_6 : decode cX8_letter 6 = .ok (.bipush 126, 2) := by decide +kernel
theorem dX8_letter_8 : decode cX8_letter 8 = .ok (.if_icmp .le 6, 3) := by decide +kernel
theorem dX8_letter_11 : decode cX8_letter 11 = .ok (.bipush (-102), 2) := by decide +kernel
theorem dX8_letter_13 : decode cX8_letter 13 = .ok (.ireturn, 1) := by decide +kernel
theorem dX8_letter_14 : decode cX8_letter 14 = .ok (.aload_n 0, 1) := by decide +kernel
theorem dX8_letter_15 : decode cX8_letter 15 = .ok (.getfield 10, 3) := by decide +kernel
theorem dX8_letter_18 : decode cX8_letter 18 = .ok (.getfield 61, 3) := by decide +kernel
theorem dX8_letter_21 : decode cX8_letter 21 = .ok (.bipush 28, 2) := by decide +kernel
theorem dX8_letter_23 : decode cX8_letter 23 = .ok (.if_icmp .lt 6, 3) := by decide +kernel
theorem dX8_letter_26 : decode cX8_letter 26 = .ok (.bipush (-104), 2) := by decide +kernel
theorem dX8_letter_28 : decode cX8_letter 28 = .ok (.ireturn, 1) := by decide +kernel
theorem dX8_letter_29 : decode cX8_letter 29 = .ok (.aload_n 0, 1) := by decide +kernel
theorem dX8_letter_30 : decode cX8_letter 30 = .ok (.getfield 10, 3) := by decide +kernel
theorem dX8_letter_33 : decode cX8_letter 33 = .ok (.iload_n 1, 1) := by decide +kernel
theorem dX8_letter_34 : decode cX8_letter 34 = .ok (.i2c, 1) := by decide +kernel
theorem dX8_letter_35 : decode cX8_letter 35 = .ok (.invokevirtual 64, 3) := by decide +kernel
theorem dX8_letter_38 : decode cX8_letter 38 = .ok (.aload_n 0, 1) := by decide +kernel
theorem dX8_letter_39 : decode cX8_letter 39 = .ok (.getfield 10, 3) := by decide +kernel
theorem dX8_letter_42 : decode cX8_letter 42 = .ok (.getfield 61, 3) := by decide +kernel
theorem dX8_letter_45 : decode cX8_letter 45 = .ok (.ireturn, 1) := by decide +kernel
theorem dX8_blank_0 : decode cX8_blank 0 = .ok (.aload_n 0, 1) := by decide +kernel
theorem dX8_blank_1 : decode cX8_blank 1 = .ok (.getfield 10, 3) := by decide +kernel
theorem dX8_blank_4 : decode cX8_blank 4 = .ok (.getfield 61, 3) := by decide +kernel
theorem dX8_blank_7 : decode cX8_blank 7 = .ok (.istore_n 1, 1) := by decide +kernel
theorem dX8_blank_8 : decode cX8_blank 8 = .ok (.aload_n 0, 1) := by decide +kernel
theorem dX8_blank_9 : decode cX8_blank 9 = .ok (.getfield 10, 3) := by decide +kernel
theorem dX8_blank_12 : decode cX8_blank 12 = .ok (.iconst 0, 1) := by decide +kernel
theorem dX8_blank_13 : decode cX8_blank 13 = .ok (.putfield 61, 3) := by decide +kernel
theorem dX8_blank_16 : decode cX8_blank 16 = .ok (.iload_n 1, 1) := by decide +kernel
theorem dX8_blank_17 : decode cX8_blank 17 = .ok (.ireturn, 1) := by decide +kernel
theorem dX8_fault_0 : decode cX8_fault 0 = .ok (.aload_n 0, 1) := by decide +kernel
theorem dX8_fault_1 : decode cX8_fault 1 = .ok (.getfield 10, 3) := by decide +kernel
theorem dX8_fault_4 : decode cX8_fault 4 = .ok (.invokevirtual 68, 3) := by decide +kernel
theorem dX8_fault_7 : decode cX8_fault 7 = .ok (.ireturn, 1) := by decide +kernel
theorem dX8_sea_0 : decode cX8_sea 0 = .ok (.aload_n 0, 1) := by decide +kernel
theorem dX8_sea_1 : decode cX8_sea 1 = .ok (.getfield 10, 3) := by decide +kernel
theorem dX8_sea_4 : decode cX8_sea 4 = .ok (.invokevirtual 72, 3) := by decide +kernel
theorem dX8_sea_7 : decode cX8_sea 7 = .ok (.ifCond .ne 6, 3) := by decide +kernel
theorem dX8_sea_10 : decode cX8_sea 10 = .ok (.bipush (-103), 2) := by decide +kernel
theorem dX8_sea_12 : decode cX8_sea 12 = .ok (.ireturn, 1) := by decide +kernel
theorem dX8_sea_13 : decode cX8_sea 13 = .ok (.aload_n 0, 1) := by decide +kernel
theorem dX8_sea_14 : decode cX8_sea 14 = .ok (.getfield 10, 3) := by decide +kernel
theorem dX8_sea_17 : decode cX8_sea 17 = .ok (.invokevirtual 76, 3) := by decide +kernel
theorem dX8_sea_20 : decode cX8_sea 20 = .ok (.istore_n 1, 1) := by decide +kernel
theorem dX8_sea_21 : decode cX8_sea 21 = .ok (.aload_n 0, 1) := by decide +kernel
theorem dX8_sea_22 : decode cX8_sea 22 = .ok (.iconst 4, 1) := by decide +kernel
theorem dX8_sea_23 : decode cX8_sea 23 = .ok (.iload_n 1, 1) := by decide +kernel
theorem dX8_sea_24 : decode cX8_sea 24 = .ok (.iconst 1, 1) := by decide +kernel
theorem dX8_sea_25 : decode cX8_sea 25 = .ok (.iadd, 1) := by decide +kernel
theorem dX8_sea_26 : decode cX8_sea 26 = .ok (.iconst 4, 1) := by decide +kernel
theorem dX8_sea_27 : decode cX8_sea 27 = .ok (.idiv, 1) := by decide +kernel
theorem dX8_sea_28 : decode cX8_sea 28 = .ok (.invokestatic 79, 3) := by decide +kernel
theorem dX8_sea_31 : decode cX8_sea 31 = .ok (.putfield 49, 3) := by decide +kernel
theorem dX8_sea_34 : decode cX8_sea 34 = .ok (.aload_n 0, 1) := by decide +kernel
theorem dX8_sea_35 : decode cX8_sea 35 = .ok (.getfield 25, 3) := by decide +kernel
theorem dX8_sea_38 : decode cX8_sea 38 = .ok (.invokevirtual 85, 3) := by decide +kernel
theorem dX8_sea_41 : decode cX8_sea 41 = .ok (.iconst 0, 1) := by decide +kernel
theorem dX8_sea_42 : decode cX8_sea 42 = .ok (.istore_n 2, 1) := by decide +kernel
theorem dX8_sea_43 : decode cX8_sea 43 = .ok (.iload_n 2, 1) := by decide +kernel
theorem dX8_sea_44 : decode cX8_sea 44 = .ok (.aload_n 0, 1) := by decide +kernel
theorem dX8_sea_45 : decode cX8_sea 45 = .ok (.getfield 49, 3) := by decide +kernel
theorem dX8_sea_48 : decode cX8_sea 48 = .ok (.if_icmp .ge 49, 3) := by decide +kernel
theorem dX8_sea_51 : decode cX8_sea 51 = .ok (.aload_n 0, 1) := by decide +kernel
theorem dX8_sea_52 : decode cX8_sea 52 = .ok (.getfield 18, 3) := by decide +kernel
theorem dX8_sea_55 : decode cX8_sea 55 = .ok (.iload_n 2, 1) := by decide +kernel
theorem dX8_sea_56 : decode cX8_sea 56 = .ok (.aload_n 0, 1) := by decide +kernel
theorem dX8_sea_57 : decode cX8_sea 57 = .ok (.getfield 10, 3) := by decide +kernel
theorem dX8_sea_60 : decode cX8_sea 60 = .ok (.iconst 4, 1) := by decide +kernel
theorem dX8_sea_61 : decode cX8_sea 61 = .ok (.iload_n 2, 1) := by decide +kernel
theorem dX8_sea_62 : decode cX8_sea 62 = .ok (.imul, 1) := by decide +kernel
theorem dX8_sea_63 : decode cX8_sea 63 = .ok (.invokevirtual 88, 3) := by decide +kernel
theorem dX8_sea_66 : decode cX8_sea 66 = .ok (.invokestatic 92, 3) := by decide +kernel
theorem dX8_sea_69 : decode cX8_sea 69 = .ok (.aastore, 1) := by decide +kernel
theorem dX8_sea_70 : decode cX8_sea 70 = .ok (.aload_n 0, 1) := by decide +kernel
theorem dX8_sea_71 : decode cX8_sea 71 = .ok (.getfield 25, 3) := by decide +kernel
theorem dX8_sea_74 : decode cX8_sea 74 = .ok (.getfield 96, 3) := by decide +kernel
theorem dX8_sea_77 : decode cX8_sea 77 = .ok (.iload_n 2, 1) := by decide +kernel
theorem dX8_sea_78 : decode cX8_sea 78 = .ok (.aload_n 0, 1) := by decide +kernel
theorem dX8_sea_79 : decode cX8_sea 79 = .ok (.getfield 10, 3) := by decide +kernel
theorem dX8_sea_82 : decode cX8_sea 82 = .ok (.iconst 4, 1) := by decide +kernel
theorem dX8_sea_83 : decode cX8_sea 83 = .ok (.iload_n 2, 1) := by decide +kernel
theorem dX8_sea_84 : decode cX8_sea 84 = .ok (.imul, 1) := by decide +kernel
theorem dX8_sea_85 : decode cX8_sea 85 = .ok (.iconst 1, 1) := by decide +kernel
theorem dX8_sea_86 : decode cX8_sea 86 = .ok (.iadd, 1) := by decide +kernel
theorem dX8_sea_87 : decode cX8_sea 87 = .ok (.invokevirtual 99, 3) := by decide +kernel
theorem dX8_sea_90 : decode cX8_sea 90 = .ok (.iastore, 1) := by decide +kernel
theorem dX8_sea_91 : decode cX8_sea 91 = .ok (.iinc 2 1, 3) := by decide +kernel
theorem dX8_sea_94 : decode cX8_sea 94 = .ok (.goto (-51), 3) := by decide +kernel
theorem dX8_sea_97 : decode cX8_sea 97 = .ok (.aload_n 0, 1) := by decide +kernel
theorem dX8_sea_98 : decode cX8_sea 98 = .ok (.getfield 25, 3) := by decide +kernel
theorem dX8_sea_101 : decode cX8_sea 101 = .ok (.aload_n 0, 1) := by decide +kernel
theorem dX8_sea_102 : decode cX8_sea 102 = .ok (.getfield 10, 3) := by decide +kernel
theorem dX8_sea_105 : decode cX8_sea 105 = .ok (.iload_n 1, 1) := by decide +kernel
theorem dX8_sea_106 : decode cX8_sea 106 = .ok (.iconst 1, 1) := by decide +kernel
theorem dX8_sea_107 : decode cX8_sea 107 = .ok (.iadd, 1) := by decide +kernel
theorem dX8_sea_108 : decode cX8_sea 108 = .ok (.invokevirtual 99, 3) := by decide +kernel
theorem dX8_sea_111 : decode cX8_sea 111 = .ok (.putfield 102, 3) := by decide +kernel
theorem dX8_sea_114 : decode cX8_sea 114 = .ok (.iload_n 1, 1) := by decide +kernel
theorem dX8_sea_115 : decode cX8_sea 115 = .ok (.iconst 3, 1) := by decide +kernel
theorem dX8_sea_116 : decode cX8_sea 116 = .ok (.iadd, 1) := by decide +kernel
theorem dX8_sea_117 : decode cX8_sea 117 = .ok (.istore_n 2, 1) := by decide +kernel
theorem dX8_sea_118 : decode cX8_sea 118 = .ok (.iload_n 2, 1) := by decide +kernel
theorem dX8_sea_119 : decode cX8_sea 119 = .ok (.aload_n 0, 1) := by decide +kernel
theorem dX8_sea_120 : decode cX8_sea 120 = .ok (.getfield 10, 3) := by decide +kernel
theorem dX8_sea_123 : decode cX8_sea 123 = .ok (.getfield 61, 3) := by decide +kernel
theorem dX8_sea_126 : decode cX8_sea 126 = .ok (.if_icmp .ge 25, 3) := by decide +kernel
theorem dX8_sea_129 : decode cX8_sea 129 = .ok (.aload_n 0, 1) := by decide +kernel
theorem dX8_sea_130 : decode cX8_sea 130 = .ok (.getfield 25, 3) := by decide +kernel
theorem dX8_sea_133 : decode cX8_sea 133 = .ok (.aload_n 0, 1) := by decide +kernel
theorem dX8_sea_134 : decode cX8_sea 134 = .ok (.getfield 10, 3) := by decide +kernel
theorem dX8_sea_137 : decode cX8_sea 137 = .ok (.iload_n 2, 1) := by decide +kernel
theorem dX8_sea_138 : decode cX8_sea 138 = .ok (.invokevirtual 99, 3) := by decide +kernel
theorem dX8_sea_141 : decode cX8_sea 141 = .ok (.iconst 1, 1) := by decide +kernel
theorem dX8_sea_142 : decode cX8_sea 142 = .ok (.invokevirtual 105, 3) := by decide +kernel
theorem dX8_sea_145 : decode cX8_sea 145 = .ok (.iinc 2 2, 3) := by decide +kernel
theorem dX8_sea_148 : decode cX8_sea 148 = .ok (.goto (-30), 3) := by decide +kernel
theorem dX8_sea_151 : decode cX8_sea 151 = .ok (.aload_n 0, 1) := by decide +kernel
theorem dX8_sea_152 : decode cX8_sea 152 = .ok (.getfield 10, 3) := by decide +kernel
theorem dX8_sea_155 : decode cX8_sea 155 = .ok (.iconst 0, 1) := by decide +kernel
theorem dX8_sea_156 : decode cX8_sea 156 = .ok (.putfield 61, 3) := by decide +kernel
theorem dX8_sea_159 : decode cX8_sea 159 = .ok (.aload_n 0, 1) := by decide +kernel
theorem dX8_sea_160 : decode cX8_sea 160 = .ok (.iconst 0, 1) := by decide +kernel
theorem dX8_sea_161 : decode cX8_sea 161 = .ok (.putfield 56, 3) := by decide +kernel
theorem dX8_sea_164 : decode cX8_sea 164 = .ok (.aload_n 0, 1) := by decide +kernel
theorem dX8_sea_165 : decode cX8_sea 165 = .ok (.dup, 1) := by decide +kernel
theorem dX8_sea_166 : decode cX8_sea 166 = .ok (.getfield 53, 3) := by decide +kernel
theorem dX8_sea_169 : decode cX8_sea 169 = .ok (.iconst 1, 1) := by decide +kernel
theorem dX8_sea_170 : decode cX8_sea 170 = .ok (.iadd, 1) := by decide +kernel
theorem dX8_sea_171 : decode cX8_sea 171 = .ok (.putfield 53, 3) := by decide +kernel
theorem dX8_sea_174 : decode cX8_sea 174 = .ok (.aload_n 0, 1) := by decide +kernel
theorem dX8_sea_175 : decode cX8_sea 175 = .ok (.getfield 49, 3) := by decide +kernel
theorem dX8_sea_178 : decode cX8_sea 178 = .ok (.ireturn, 1) := by decide +kernel
theorem dX8_needle_0 : decode cX8_needle 0 = .ok (.aload_n 0, 1) := by decide +kernel
theorem dX8_needle_1 : decode cX8_needle 1 = .ok (.iload_n 1, 1) := by decide +kernel
theorem dX8_needle_2 : decode cX8_needle 2 = .ok (.invokevirtual 109, 3) := by decide +kernel
theorem dX8_needle_5 : decode cX8_needle 5 = .ok (.ifCond .ne 6, 3) := by decide +kernel
theorem dX8_needle_8 : decode cX8_needle 8 = .ok (.bipush (-101), 2) := by decide +kernel
theorem dX8_needle_10 : decode cX8_needle 10 = .ok (.ireturn, 1) := by decide +kernel
theorem dX8_needle_11 : decode cX8_needle 11 = .ok (.iload_n 2, 1) := by decide +kernel
theorem dX8_needle_12 : decode cX8_needle 12 = .ok (.tableswitch 146 0 8 #[52, 62, 72, 85, 94, 103, 117, 126, 135], 52) := by decide +kernel
theorem dX8_needle_64 : decode cX8_needle 64 = .ok (.aload_n 0, 1) := by decide +kernel
theorem dX8_needle_65 : decode cX8_needle 65 = .ok (.getfield 18, 3) := by decide +kernel
theorem dX8_needle_68 : decode cX8_needle 68 = .ok (.iload_n 1, 1) := by decide +kernel
theorem dX8_needle_69 : decode cX8_needle 69 = .ok (.aaload, 1) := by decide +kernel
theorem dX8_needle_70 : decode cX8_needle 70 = .ok (.invokevirtual 113, 3) := by decide +kernel
theorem dX8_needle_73 : decode cX8_needle 73 = .ok (.ireturn, 1) := by decide +kernel
theorem dX8_needle_74 : decode cX8_needle 74 = .ok (.aload_n 0, 1) := by decide +kernel
theorem dX8_needle_75 : decode cX8_needle 75 = .ok (.getfield 25, 3) := by decide +kernel
theorem dX8_needle_78 : decode cX8_needle 78 = .ok (.getfield 96, 3) := by decide +kernel
theorem dX8_needle_81 : decode cX8_needle 81 = .ok (.iload_n 1, 1) := by decide +kernel
theorem dX8_needle_82 : decode cX8_needle 82 = .ok (.iaload, 1) := by decide +kernel
theorem dX8_needle_83 : decode cX8_needle 83 = .ok (.ireturn, 1) := by decide +kernel
theorem dX8_needle_84 : decode cX8_needle 84 = .ok (.aload_n 0, 1) := by decide +kernel
theorem dX8_needle_85 : decode cX8_needle 85 = .ok (.iload_n 1, 1) := by decide +kernel
theorem dX8_needle_86 : decode cX8_needle 86 = .ok (.aload_n 0, 1) := by decide +kernel
theorem dX8_needle_87 : decode cX8_needle 87 = .ok (.getfield 25, 3) := by decide +kernel
theorem dX8_needle_90 : decode cX8_needle 90 = .ok (.getfield 102, 3) := by decide +kernel
theorem dX8_needle_93 : decode cX8_needle 93 = .ok (.invokevirtual 116, 3) := by decide +kernel
theorem dX8_needle_96 : decode cX8_needle 96 = .ok (.ireturn, 1) := by decide +kernel
theorem dX8_needle_97 : decode cX8_needle 97 = .ok (.aload_n 0, 1) := by decide +kernel
theorem dX8_needle_98 : decode cX8_needle 98 = .ok (.iload_n 1, 1) := by decide +kernel
theorem dX8_needle_99 : decode cX8_needle 99 = .ok (.invokevirtual 119, 3) := by decide +kernel
theorem dX8_needle_102 : decode cX8_needle 102 = .ok (.getfield 123, 3) := by decide +kernel
theorem dX8_needle_105 : decode cX8_needle 105 = .ok (.ireturn, 1) := by decide +kernel
theorem dX8_needle_106 : decode cX8_needle 106 = .ok (.aload_n 0, 1) := by decide +kernel
theorem dX8_needle_107 : decode cX8_needle 107 = .ok (.iload_n 1, 1) := by decide +kernel
theorem dX8_needle_108 : decode cX8_needle 108 = .ok (.invokevirtual 119, 3) := by decide +kernel
theorem dX8_needle_111 : decode cX8_needle 111 = .ok (.getfield 126, 3) := by decide +kernel
theorem dX8_needle_114 : decode cX8_needle 114 = .ok (.ireturn, 1) := by decide +kernel
theorem dX8_needle_115 : decode cX8_needle 115 = .ok (.aload_n 0, 1) := by decide +kernel
theorem dX8_needle_116 : decode cX8_needle 116 = .ok (.aload_n 0, 1) := by decide +kernel
theorem dX8_needle_117 : decode cX8_needle 117 = .ok (.getfield 25, 3) := by decide +kernel
theorem dX8_needle_120 : decode cX8_needle 120 = .ok (.getfield 96, 3) := by decide +kernel
theorem dX8_needle_123 : decode cX8_needle 123 = .ok (.iload_n 1, 1) := by decide +kernel
theorem dX8_needle_124 : decode cX8_needle 124 = .ok (.iaload, 1) := by decide +kernel
theorem dX8_needle_125 : decode cX8_needle 125 = .ok (.invokevirtual 129, 3) := by decide +kernel
theorem dX8_needle_128 : decode cX8_needle 128 = .ok (.ireturn, 1) := by decide +kernel
theorem dX8_needle_129 : decode cX8_needle 129 = .ok (.aload_n 0, 1) := by decide +kernel
theorem dX8_needle_130 : decode cX8_needle 130 = .ok (.iload_n 1, 1) := by decide +kernel
theorem dX8_needle_131 : decode cX8_needle 131 = .ok (.invokevirtual 132, 3) := by decide +kernel
theorem dX8_needle_134 : decode cX8_needle 134 = .ok (.invokestatic 136, 3) := by decide +kernel
theorem dX8_needle_137 : decode cX8_needle 137 = .ok (.ireturn, 1) := by decide +kernel
theorem dX8_needle_138 : decode cX8_needle 138 = .ok (.aload_n 0, 1) := by decide +kernel
theorem dX8_needle_139 : decode cX8_needle 139 = .ok (.iload_n 1, 1) := by decide +kernel
theorem dX8_needle_140 : decode cX8_needle 140 = .ok (.invokevirtual 132, 3) := by decide +kernel
theorem dX8_needle_143 : decode cX8_needle 143 = .ok (.invokestatic 142, 3) := by decide +kernel
theorem dX8_needle_146 : decode cX8_needle 146 = .ok (.ireturn, 1) := by decide +kernel
theorem dX8_needle_147 : decode cX8_needle 147 = .ok (.aload_n 0, 1) := by decide +kernel
theorem dX8_needle_148 : decode cX8_needle 148 = .ok (.iload_n 1, 1) := by decide +kernel
theorem dX8_needle_149 : decode cX8_needle 149 = .ok (.aload_n 0, 1) := by decide +kernel
theorem dX8_needle_150 : decode cX8_needle 150 = .ok (.iload_n 1, 1) := by decide +kernel
theorem dX8_needle_151 : decode cX8_needle 151 = .ok (.invokevirtual 132, 3) := by decide +kernel
theorem dX8_needle_154 : decode cX8_needle 154 = .ok (.invokevirtual 145, 3) := by decide +kernel
theorem dX8_needle_157 : decode cX8_needle 157 = .ok (.ireturn, 1) := by decide +kernel
theorem dX8_needle_158 : decode cX8_needle 158 = .ok (.bipush (-102), 2) := by decide +kernel
theorem dX8_needle_160 : decode cX8_needle 160 = .ok (.ireturn, 1) := by decide +kernel
theorem dX8_as_0 : decode cX8_as 0 = .ok (.aload_n 0, 1) := by decide +kernel
theorem dX8_as_1 : decode cX8_as 1 = .ok (.iload_n 1, 1) := by decide +kernel
theorem dX8_as_2 : decode cX8_as 2 = .ok (.invokevirtual 109, 3) := by decide +kernel
theorem dX8_as_5 : decode cX8_as 5 = .ok (.ifCond .ne 6, 3) := by decide +kernel
theorem dX8_as_8 : decode cX8_as 8 = .ok (.bipush (-101), 2) := by decide +kernel
theorem dX8_as_10 : decode cX8_as 10 = .ok (.ireturn, 1) := by decide +kernel
theorem dX8_as_11 : decode cX8_as 11 = .ok (.iload_n 2, 1) := by decide +kernel
theorem dX8_as_12 : decode cX8_as 12 = .ok (.ifCond .lt 8, 3) := by decide +kernel
theorem dX8_as_15 : decode cX8_as 15 = .ok (.iload_n 2, 1) := by decide +kernel
theorem dX8_as_16 : decode cX8_as 16 = .ok (.iconst 5, 1) := by decide +kernel
theorem dX8_as_17 : decode cX8_as 17 = .ok (.if_icmp .lt 6, 3) := by decide +kernel
theorem dX8_as_20 : decode cX8_as 20 = .ok (.bipush (-102), 2) := by decide +kernel
theorem dX8_as_22 : decode cX8_as 22 = .ok (.ireturn, 1) := by decide +kernel
theorem dX8_as_23 : decode cX8_as 23 = .ok (.aload_n 0, 1) := by decide +kernel
theorem dX8_as_24 : decode cX8_as 24 = .ok (.getfield 18, 3) := by decide +kernel
theorem dX8_as_27 : decode cX8_as 27 = .ok (.iload_n 1, 1) := by decide +kernel
theorem dX8_as_28 : decode cX8_as 28 = .ok (.aaload, 1) := by decide +kernel
theorem dX8_as_29 : decode cX8_as 29 = .ok (.iload_n 2, 1) := by decide +kernel
theorem dX8_as_30 : decode cX8_as 30 = .ok (.invokestatic 149, 3) := by decide +kernel
theorem dX8_as_33 : decode cX8_as 33 = .ok (.ifCond .eq 7, 3) := by decide +kernel
theorem dX8_as_36 : decode cX8_as 36 = .ok (.iload_n 1, 1) := by decide +kernel
theorem dX8_as_37 : decode cX8_as 37 = .ok (.goto 4, 3) := by decide +kernel
theorem dX8_as_40 : decode cX8_as 40 = .ok (.iconst (-1), 1) := by decide +kernel
theorem dX8_as_41 : decode cX8_as 41 = .ok (.ireturn, 1) := by decide +kernel
theorem dX8_points_0 : decode cX8_points 0 = .ok (.aload_n 0, 1) := by decide +kernel
theorem dX8_points_1 : decode cX8_points 1 = .ok (.iload_n 1, 1) := by decide +kernel
theorem dX8_points_2 : decode cX8_points 2 = .ok (.invokevirtual 109, 3) := by decide +kernel
theorem dX8_points_5 : decode cX8_points 5 = .ok (.ifCond .eq 10, 3) := by decide +kernel
theorem dX8_points_8 : decode cX8_points 8 = .ok (.iload_n 2, 1) := by decide +kernel
theorem dX8_points_9 : decode cX8_points 9 = .ok (.invokestatic 153, 3) := by decide +kernel
theorem dX8_points_12 : decode cX8_points 12 = .ok (.ifCond .ne 6, 3) := by decide +kernel
theorem dX8_points_15 : decode cX8_points 15 = .ok (.bipush (-101), 2) := by decide +kernel
theorem dX8_points_17 : decode cX8_points 17 = .ok (.ireturn, 1) := by decide +kernel
theorem dX8_points_18 : decode cX8_points 18 = .ok (.aload_n 0, 1) := by decide +kernel
theorem dX8_points_19 : decode cX8_points 19 = .ok (.iload_n 1, 1) := by decide +kernel
theorem dX8_points_20 : decode cX8_points 20 = .ok (.iload_n 2, 1) := by decide +kernel
theorem dX8_points_21 : decode cX8_points 21 = .ok (.invokevirtual 116, 3) := by decide +kernel
theorem dX8_points_24 : decode cX8_points 24 = .ok (.ireturn, 1) := by decide +kernel
theorem dX8_swing_0 : decode cX8_swing 0 = .ok (.aload_n 0, 1) := by decide +kernel
theorem dX8_swing_1 : decode cX8_swing 1 = .ok (.iload_n 1, 1) := by decide +kernel
theorem dX8_swing_2 : decode cX8_swing 2 = .ok (.invokevirtual 109, 3) := by decide +kernel
theorem dX8_swing_5 : decode cX8_swing 5 = .ok (.ifCond .eq 10, 3) := by decide +kernel
theorem dX8_swing_8 : decode cX8_swing 8 = .ok (.iload_n 2, 1) := by decide +kernel
theorem dX8_swing_9 : decode cX8_swing 9 = .ok (.invokestatic 153, 3) := by decide +kernel
theorem dX8_swing_12 : decode cX8_swing 12 = .ok (.ifCond .ne 6, 3) := by decide +kernel
theorem dX8_swing_15 : decode cX8_swing 15 = .ok (.bipush (-101), 2) := by decide +kernel
theorem dX8_swing_17 : decode cX8_swing 17 = .ok (.ireturn, 1) := by decide +kernel
theorem dX8_swing_18 : decode cX8_swing 18 = .ok (.aload_n 0, 1) := by decide +kernel
theorem dX8_swing_19 : decode cX8_swing 19 = .ok (.getfield 25, 3) := by decide +kernel
theorem dX8_swing_22 : decode cX8_swing 22 = .ok (.getfield 96, 3) := by decide +kernel
theorem dX8_swing_25 : decode cX8_swing 25 = .ok (.iload_n 1, 1) := by decide +kernel
theorem dX8_swing_26 : decode cX8_swing 26 = .ok (.iaload, 1) := by decide +kernel
theorem dX8_swing_27 : decode cX8_swing 27 = .ok (.istore_n 3, 1) := by decide +kernel
theorem dX8_swing_28 : decode cX8_swing 28 = .ok (.aload_n 0, 1) := by decide +kernel
theorem dX8_swing_29 : decode cX8_swing 29 = .ok (.getfield 25, 3) := by decide +kernel
theorem dX8_swing_32 : decode cX8_swing 32 = .ok (.getfield 96, 3) := by decide +kernel
theorem dX8_swing_35 : decode cX8_swing 35 = .ok (.iload_n 1, 1) := by decide +kernel
theorem dX8_swing_36 : decode cX8_swing 36 = .ok (.iload_n 2, 1) := by decide +kernel
theorem dX8_swing_37 : decode cX8_swing 37 = .ok (.iastore, 1) := by decide +kernel
theorem dX8_swing_38 : decode cX8_swing 38 = .ok (.iload_n 3, 1) := by decide +kernel
theorem dX8_swing_39 : decode cX8_swing 39 = .ok (.ireturn, 1) := by decide +kernel
theorem dX8_island_0 : decode cX8_island 0 = .ok (.aload_n 0, 1) := by decide +kernel
theorem dX8_island_1 : decode cX8_island 1 = .ok (.invokevirtual 156, 3) := by decide +kernel
theorem dX8_island_4 : decode cX8_island 4 = .ok (.ifCond .eq 10, 3) := by decide +kernel
theorem dX8_island_7 : decode cX8_island 7 = .ok (.iload_n 1, 1) := by decide +kernel
theorem dX8_island_8 : decode cX8_island 8 = .ok (.invokestatic 153, 3) := by decide +kernel
theorem dX8_island_11 : decode cX8_island 11 = .ok (.ifCond .ne 6, 3) := by decide +kernel
theorem dX8_island_14 : decode cX8_island 14 = .ok (.bipush (-101), 2) := by decide +kernel
theorem dX8_island_16 : decode cX8_island 16 = .ok (.ireturn, 1) := by decide +kernel
theorem dX8_island_17 : decode cX8_island 17 = .ok (.aload_n 0, 1) := by decide +kernel
theorem dX8_island_18 : decode cX8_island 18 = .ok (.getfield 25, 3) := by decide +kernel
theorem dX8_island_21 : decode cX8_island 21 = .ok (.iload_n 1, 1) := by decide +kernel
theorem dX8_island_22 : decode cX8_island 22 = .ok (.invokevirtual 159, 3) := by decide +kernel
theorem dX8_island_25 : decode cX8_island 25 = .ok (.ifCond .eq 7, 3) := by decide +kernel
theorem dX8_island_28 : decode cX8_island 28 = .ok (.iconst 1, 1) := by decide +kernel
theorem dX8_island_29 : decode cX8_island 29 = .ok (.goto 4, 3) := by decide +kernel
theorem dX8_island_32 : decode cX8_island 32 = .ok (.iconst 0, 1) := by decide +kernel
theorem dX8_island_33 : decode cX8_island 33 = .ok (.ireturn, 1) := by decide +kernel
theorem dX8_raise_0 : decode cX8_raise 0 = .ok (.aload_n 0, 1) := by decide +kernel
theorem dX8_raise_1 : decode cX8_raise 1 = .ok (.invokevirtual 156, 3) := by decide +kernel
theorem dX8_raise_4 : decode cX8_raise 4 = .ok (.ifCond .eq 10, 3) := by decide +kernel
theorem dX8_raise_7 : decode cX8_raise 7 = .ok (.iload_n 1, 1) := by decide +kernel
theorem dX8_raise_8 : decode cX8_raise 8 = .ok (.invokestatic 153, 3) := by decide +kernel
theorem dX8_raise_11 : decode cX8_raise 11 = .ok (.ifCond .ne 6, 3) := by decide +kernel
theorem dX8_raise_14 : decode cX8_raise 14 = .ok (.bipush (-101), 2) := by decide +kernel
theorem dX8_raise_16 : decode cX8_raise 16 = .ok (.ireturn, 1) := by decide +kernel
theorem dX8_raise_17 : decode cX8_raise 17 = .ok (.aload_n 0, 1) := by decide +kernel
theorem dX8_raise_18 : decode cX8_raise 18 = .ok (.getfield 25, 3) := by decide +kernel
theorem dX8_raise_21 : decode cX8_raise 21 = .ok (.iload_n 1, 1) := by decide +kernel
theorem dX8_raise_22 : decode cX8_raise 22 = .ok (.invokevirtual 159, 3) := by decide +kernel
theorem dX8_raise_25 : decode cX8_raise 25 = .ok (.ifCond .eq 7, 3) := by decide +kernel
theorem dX8_raise_28 : decode cX8_raise 28 = .ok (.iconst 1, 1) := by decide +kernel
theorem dX8_raise_29 : decode cX8_raise 29 = .ok (.goto 4, 3) := by decide +kernel
theorem dX8_raise_32 : decode cX8_raise 32 = .ok (.iconst 0, 1) := by decide +kernel
theorem dX8_raise_33 : decode cX8_raise 33 = .ok (.istore_n 3, 1) := by decide +kernel
theorem dX8_raise_34 : decode cX8_raise 34 = .ok (.aload_n 0, 1) := by decide +kernel
theorem dX8_raise_35 : decode cX8_raise 35 = .ok (.getfield 25, 3) := by decide +kernel
theorem dX8_raise_38 : decode cX8_raise 38 = .ok (.iload_n 1, 1) := by decide +kernel
theorem dX8_raise_39 : decode cX8_raise 39 = .ok (.iload_n 2, 1) := by decide +kernel
theorem dX8_raise_40 : decode cX8_raise 40 = .ok (.invokevirtual 105, 3) := by decide +kernel
theorem dX8_raise_43 : decode cX8_raise 43 = .ok (.iload_n 3, 1) := by decide +kernel
theorem dX8_raise_44 : decode cX8_raise 44 = .ok (.ireturn, 1) := by decide +kernel
theorem dX8_step_0 : decode cX8_step 0 = .ok (.iload_n 1, 1) := by decide +kernel
theorem dX8_step_1 : decode cX8_step 1 = .ok (.invokestatic 162, 3) := by decide +kernel
theorem dX8_step_4 : decode cX8_step 4 = .ok (.ifCond .ne 6, 3) := by decide +kernel
theorem dX8_step_7 : decode cX8_step 7 = .ok (.bipush (-102), 2) := by decide +kernel
theorem dX8_step_9 : decode cX8_step 9 = .ok (.ireturn, 1) := by decide +kernel
theorem dX8_step_10 : decode cX8_step 10 = .ok (.aload_n 0, 1) := by decide +kernel
theorem dX8_step_11 : decode cX8_step 11 = .ok (.invokevirtual 156, 3) := by decide +kernel
theorem dX8_step_14 : decode cX8_step 14 = .ok (.ifCond .ne 6, 3) := by decide +kernel
theorem dX8_step_17 : decode cX8_step 17 = .ok (.bipush (-103), 2) := by decide +kernel
theorem dX8_step_19 : decode cX8_step 19 = .ok (.ireturn, 1) := by decide +kernel
theorem dX8_step_20 : decode cX8_step 20 = .ok (.aload_n 0, 1) := by decide +kernel
theorem dX8_step_21 : decode cX8_step 21 = .ok (.getfield 25, 3) := by decide +kernel
theorem dX8_step_24 : decode cX8_step 24 = .ok (.iload_n 1, 1) := by decide +kernel
theorem dX8_step_25 : decode cX8_step 25 = .ok (.invokevirtual 165, 3) := by decide +kernel
theorem dX8_step_28 : decode cX8_step 28 = .ok (.ireturn, 1) := by decide +kernel
theorem dX8_follow_0 : decode cX8_follow 0 = .ok (.aload_n 0, 1) := by decide +kernel
theorem dX8_follow_1 : decode cX8_follow 1 = .ok (.iload_n 1, 1) := by decide +kernel
theorem dX8_follow_2 : decode cX8_follow 2 = .ok (.invokevirtual 109, 3) := by decide +kernel
theorem dX8_follow_5 : decode cX8_follow 5 = .ok (.ifCond .ne 6, 3) := by decide +kernel
theorem dX8_follow_8 : decode cX8_follow 8 = .ok (.bipush (-101), 2) := by decide +kernel
theorem dX8_follow_10 : decode cX8_follow 10 = .ok (.ireturn, 1) := by decide +kernel
theorem dX8_follow_11 : decode cX8_follow 11 = .ok (.aload_n 0, 1) := by decide +kernel
theorem dX8_follow_12 : decode cX8_follow 12 = .ok (.getfield 25, 3) := by decide +kernel
theorem dX8_follow_15 : decode cX8_follow 15 = .ok (.aload_n 0, 1) := by decide +kernel
theorem dX8_follow_16 : decode cX8_follow 16 = .ok (.iload_n 1, 1) := by decide +kernel
theorem dX8_follow_17 : decode cX8_follow 17 = .ok (.aload_n 0, 1) := by decide +kernel
theorem dX8_follow_18 : decode cX8_follow 18 = .ok (.getfield 25, 3) := by decide +kernel
theorem dX8_follow_21 : decode cX8_follow 21 = .ok (.getfield 102, 3) := by decide +kernel
theorem dX8_follow_24 : decode cX8_follow 24 = .ok (.invokevirtual 116, 3) := by decide +kernel
theorem dX8_follow_27 : decode cX8_follow 27 = .ok (.invokevirtual 165, 3) := by decide +kernel
theorem dX8_follow_30 : decode cX8_follow 30 = .ok (.ireturn, 1) := by decide +kernel
theorem dX8_homing_0 : decode cX8_homing 0 = .ok (.aload_n 0, 1) := by decide +kernel
theorem dX8_homing_1 : decode cX8_homing 1 = .ok (.invokevirtual 156, 3) := by decide +kernel
theorem dX8_homing_4 : decode cX8_homing 4 = .ok (.ifCond .eq 10, 3) := by decide +kernel
theorem dX8_homing_7 : decode cX8_homing 7 = .ok (.aload_n 0, 1) := by decide +kernel
theorem dX8_homing_8 : decode cX8_homing 8 = .ok (.invokevirtual 168, 3) := by decide +kernel
theorem dX8_homing_11 : decode cX8_homing 11 = .ok (.goto 5, 3) := by decide +kernel
theorem dX8_homing_14 : decode cX8_homing 14 = .ok (.bipush (-103), 2) := by decide +kernel
theorem dX8_homing_16 : decode cX8_homing 16 = .ok (.ireturn, 1) := by decide +kernel
theorem dX8_see_0 : decode cX8_see 0 = .ok (.aload_n 0, 1) := by decide +kernel
theorem dX8_see_1 : decode cX8_see 1 = .ok (.iload_n 1, 1) := by decide +kernel
theorem dX8_see_2 : decode cX8_see 2 = .ok (.invokevirtual 109, 3) := by decide +kernel
theorem dX8_see_5 : decode cX8_see 5 = .ok (.ifCond .eq 10, 3) := by decide +kernel
theorem dX8_see_8 : decode cX8_see 8 = .ok (.iload_n 2, 1) := by decide +kernel
theorem dX8_see_9 : decode cX8_see 9 = .ok (.invokestatic 153, 3) := by decide +kernel
theorem dX8_see_12 : decode cX8_see 12 = .ok (.ifCond .ne 6, 3) := by decide +kernel
theorem dX8_see_15 : decode cX8_see 15 = .ok (.bipush (-101), 2) := by decide +kernel
theorem dX8_see_17 : decode cX8_see 17 = .ok (.ireturn, 1) := by decide +kernel
theorem dX8_see_18 : decode cX8_see 18 = .ok (.iload_n 3, 1) := by decide +kernel
theorem dX8_see_19 : decode cX8_see 19 = .ok (.invokestatic 162, 3) := by decide +kernel
theorem dX8_see_22 : decode cX8_see 22 = .ok (.ifCond .ne 6, 3) := by decide +kernel
theorem dX8_see_25 : decode cX8_see 25 = .ok (.bipush (-102), 2) := by decide +kernel
theorem dX8_see_27 : decode cX8_see 27 = .ok (.ireturn, 1) := by decide +kernel
theorem dX8_see_28 : decode cX8_see 28 = .ok (.aload_n 0, 1) := by decide +kernel
theorem dX8_see_29 : decode cX8_see 29 = .ok (.getfield 25, 3) := by decide +kernel
theorem dX8_see_32 : decode cX8_see 32 = .ok (.getfield 171, 3) := by decide +kernel
theorem dX8_see_35 : decode cX8_see 35 = .ok (.bipush 6, 2) := by decide +kernel
theorem dX8_see_37 : decode cX8_see 37 = .ok (.if_icmp .lt 6, 3) := by decide +kernel
theorem dX8_see_40 : decode cX8_see 40 = .ok (.bipush (-104), 2) := by decide +kernel
theorem dX8_see_42 : decode cX8_see 42 = .ok (.ireturn, 1) := by decide +kernel
theorem dX8_see_43 : decode cX8_see 43 = .ok (.aload_n 0, 1) := by decide +kernel
theorem dX8_see_44 : decode cX8_see 44 = .ok (.getfield 25, 3) := by decide +kernel
theorem dX8_see_47 : decode cX8_see 47 = .ok (.iload_n 1, 1) := by decide +kernel
theorem dX8_see_48 : decode cX8_see 48 = .ok (.iload_n 2, 1) := by decide +kernel
theorem dX8_see_49 : decode cX8_see 49 = .ok (.iload_n 3, 1) := by decide +kernel
theorem dX8_see_50 : decode cX8_see 50 = .ok (.invokevirtual 174, 3) := by decide +kernel
theorem dX8_see_53 : decode cX8_see 53 = .ok (.aload_n 0, 1) := by decide +kernel
theorem dX8_see_54 : decode cX8_see 54 = .ok (.getfield 25, 3) := by decide +kernel
theorem dX8_see_57 : decode cX8_see 57 = .ok (.getfield 171, 3) := by decide +kernel
theorem dX8_see_60 : decode cX8_see 60 = .ok (.ireturn, 1) := by decide +kernel
theorem dX8_forget_0 : decode cX8_forget 0 = .ok (.aload_n 0, 1) := by decide +kernel
theorem dX8_forget_1 : decode cX8_forget 1 = .ok (.getfield 25, 3) := by decide +kernel
theorem dX8_forget_4 : decode cX8_forget 4 = .ok (.getfield 171, 3) := by decide +kernel
theorem dX8_forget_7 : decode cX8_forget 7 = .ok (.istore_n 1, 1) := by decide +kernel
theorem dX8_forget_8 : decode cX8_forget 8 = .ok (.aload_n 0, 1) := by decide +kernel
theorem dX8_forget_9 : decode cX8_forget 9 = .ok (.getfield 25, 3) := by decide +kernel
theorem dX8_forget_12 : decode cX8_forget 12 = .ok (.iconst 0, 1) := by decide +kernel
theorem dX8_forget_13 : decode cX8_forget 13 = .ok (.putfield 171, 3) := by decide +kernel
theorem dX8_forget_16 : decode cX8_forget 16 = .ok (.iload_n 1, 1) := by decide +kernel
theorem dX8_forget_17 : decode cX8_forget 17 = .ok (.ireturn, 1) := by decide +kernel
theorem dX8_storms_0 : decode cX8_storms 0 = .ok (.iload_n 1, 1) := by decide +kernel
theorem dX8_storms_1 : decode cX8_storms 1 = .ok (.iconst 1, 1) := by decide +kernel
theorem dX8_storms_2 : decode cX8_storms 2 = .ok (.if_icmp .lt 22, 3) := by decide +kernel
theorem dX8_storms_5 : decode cX8_storms 5 = .ok (.iload_n 1, 1) := by decide +kernel
theorem dX8_storms_6 : decode cX8_storms 6 = .ok (.bipush 60, 2) := by decide +kernel
theorem dX8_storms_8 : decode cX8_storms 8 = .ok (.if_icmp .gt 16, 3) := by decide +kernel
theorem dX8_storms_11 : decode cX8_storms 11 = .ok (.iload_n 2, 1) := by decide +kernel
theorem dX8_storms_12 : decode cX8_storms 12 = .ok (.ifCond .lt 12, 3) := by decide +kernel
theorem dX8_storms_15 : decode cX8_storms 15 = .ok (.iload_n 3, 1) := by decide +kernel
theorem dX8_storms_16 : decode cX8_storms 16 = .ok (.ifCond .lt 8, 3) := by decide +kernel
theorem dX8_storms_19 : decode cX8_storms 19 = .ok (.iload_n 3, 1) := by decide +kernel
theorem dX8_storms_20 : decode cX8_storms 20 = .ok (.iconst 2, 1) := by decide +kernel
theorem dX8_storms_21 : decode cX8_storms 21 = .ok (.if_icmp .le 6, 3) := by decide +kernel
theorem dX8_storms_24 : decode cX8_storms 24 = .ok (.bipush (-102), 2) := by decide +kernel
theorem dX8_storms_26 : decode cX8_storms 26 = .ok (.ireturn, 1) := by decide +kernel
theorem dX8_storms_27 : decode cX8_storms 27 = .ok (.aload_n 0, 1) := by decide +kernel
theorem dX8_storms_28 : decode cX8_storms 28 = .ok (.invokevirtual 156, 3) := by decide +kernel
theorem dX8_storms_31 : decode cX8_storms 31 = .ok (.ifCond .ne 6, 3) := by decide +kernel
theorem dX8_storms_34 : decode cX8_storms 34 = .ok (.bipush (-103), 2) := by decide +kernel
theorem dX8_storms_36 : decode cX8_storms 36 = .ok (.ireturn, 1) := by decide +kernel
theorem dX8_storms_37 : decode cX8_storms 37 = .ok (.aload_n 0, 1) := by decide +kernel
theorem dX8_storms_38 : decode cX8_storms 38 = .ok (.getfield 25, 3) := by decide +kernel
theorem dX8_storms_41 : decode cX8_storms 41 = .ok (.getfield 102, 3) := by decide +kernel
theorem dX8_storms_44 : decode cX8_storms 44 = .ok (.istore 4, 2) := by decide +kernel
theorem dX8_storms_46 : decode cX8_storms 46 = .ok (.iconst 0, 1) := by decide +kernel
theorem dX8_storms_47 : decode cX8_storms 47 = .ok (.istore 5, 2) := by decide +kernel
theorem dX8_storms_49 : decode cX8_storms 49 = .ok (.iload_n 2, 1) := by decide +kernel
theorem dX8_storms_50 : decode cX8_storms 50 = .ok (.istore 6, 2) := by decide +kernel
theorem dX8_storms_52 : decode cX8_storms 52 = .ok (.iconst 0, 1) := by decide +kernel
theorem dX8_storms_53 : decode cX8_storms 53 = .ok (.istore 7, 2) := by decide +kernel
theorem dX8_storms_55 : decode cX8_storms 55 = .ok (.iload 7, 2) := by decide +kernel
theorem dX8_storms_57 : decode cX8_storms 57 = .ok (.iload_n 1, 1) := by decide +kernel
theorem dX8_storms_58 : decode cX8_storms 58 = .ok (.if_icmp .ge 46, 3) := by decide +kernel
theorem dX8_storms_61 : decode cX8_storms 61 = .ok (.iload 6, 2) := by decide +kernel
theorem dX8_storms_63 : decode cX8_storms 63 = .ok (.invokestatic 178, 3) := by decide +kernel
theorem dX8_storms_66 : decode cX8_storms 66 = .ok (.istore 6, 2) := by decide +kernel
theorem dX8_storms_68 : decode cX8_storms 68 = .ok (.aload_n 0, 1) := by decide +kernel
theorem dX8_storms_69 : decode cX8_storms 69 = .ok (.getfield 25, 3) := by decide +kernel
theorem dX8_storms_72 : decode cX8_storms 72 = .ok (.iload 4, 2) := by decide +kernel
theorem dX8_storms_74 : decode cX8_storms 74 = .ok (.iload 6, 2) := by decide +kernel
theorem dX8_storms_76 : decode cX8_storms 76 = .ok (.ldc 181, 2) := by decide +kernel
theorem dX8_storms_78 : decode cX8_storms 78 = .ok (.idiv, 1) := by decide +kernel
theorem dX8_storms_79 : decode cX8_storms 79 = .ok (.bipush 9, 2) := by decide +kernel
theorem dX8_storms_81 : decode cX8_storms 81 = .ok (.irem, 1) := by decide +kernel
theorem dX8_storms_82 : decode cX8_storms 82 = .ok (.invokevirtual 182, 3) := by decide +kernel
theorem dX8_storms_85 : decode cX8_storms 85 = .ok (.istore 4, 2) := by decide +kernel
theorem dX8_storms_87 : decode cX8_storms 87 = .ok (.iload 5, 2) := by decide +kernel
theorem dX8_storms_89 : decode cX8_storms 89 = .ok (.aload_n 0, 1) := by decide +kernel
theorem dX8_storms_90 : decode cX8_storms 90 = .ok (.iload 4, 2) := by decide +kernel
theorem dX8_storms_92 : decode cX8_storms 92 = .ok (.invokevirtual 185, 3) := by decide +kernel
theorem dX8_storms_95 : decode cX8_storms 95 = .ok (.iadd, 1) := by decide +kernel
theorem dX8_storms_96 : decode cX8_storms 96 = .ok (.istore 5, 2) := by decide +kernel
theorem dX8_storms_98 : decode cX8_storms 98 = .ok (.iinc 7 1, 3) := by decide +kernel
theorem dX8_storms_101 : decode cX8_storms 101 = .ok (.goto (-46), 3) := by decide +kernel
theorem dX8_storms_104 : decode cX8_storms 104 = .ok (.iload_n 3, 1) := by decide +kernel
theorem dX8_storms_105 : decode cX8_storms 105 = .ok (.ifCond .ne 8, 3) := by decide +kernel
theorem dX8_storms_108 : decode cX8_storms 108 = .ok (.iload 4, 2) := by decide +kernel
theorem dX8_storms_110 : decode cX8_storms 110 = .ok (.goto 15, 3) := by decide +kernel
theorem dX8_storms_113 : decode cX8_storms 113 = .ok (.iload_n 3, 1) := by decide +kernel
theorem dX8_storms_114 : decode cX8_storms 114 = .ok (.iconst 1, 1) := by decide +kernel
theorem dX8_storms_115 : decode cX8_storms 115 = .ok (.if_icmp .ne 8, 3) := by decide +kernel
theorem dX8_storms_118 : decode cX8_storms 118 = .ok (.iload 5, 2) := by decide +kernel
theorem dX8_storms_120 : decode cX8_storms 120 = .ok (.goto 5, 3) := by decide +kernel
theorem dX8_storms_123 : decode cX8_storms 123 = .ok (.iload 6, 2) := by decide +kernel
theorem dX8_storms_125 : decode cX8_storms 125 = .ok (.ireturn, 1) := by decide +kernel
theorem dX8_image_0 : decode cX8_image 0 = .ok (.aload_n 0, 1) := by decide +kernel
theorem dX8_image_1 : decode cX8_image 1 = .ok (.invokevirtual 156, 3) := by decide +kernel
theorem dX8_image_4 : decode cX8_image 4 = .ok (.ifCond .ne 6, 3) := by decide +kernel
theorem dX8_image_7 : decode cX8_image 7 = .ok (.bipush (-103), 2) := by decide +kernel
theorem dX8_image_9 : decode cX8_image 9 = .ok (.ireturn, 1) := by decide +kernel
theorem dX8_image_10 : decode cX8_image 10 = .ok (.aload_n 0, 1) := by decide +kernel
theorem dX8_image_11 : decode cX8_image 11 = .ok (.getfield 29, 3) := by decide +kernel
theorem dX8_image_14 : decode cX8_image 14 = .ok (.aload_n 0, 1) := by decide +kernel
theorem dX8_image_15 : decode cX8_image 15 = .ok (.getfield 25, 3) := by decide +kernel
theorem dX8_image_18 : decode cX8_image 18 = .ok (.invokevirtual 188, 3) := by decide +kernel
theorem dX8_image_21 : decode cX8_image 21 = .ok (.aload_n 0, 1) := by decide +kernel
theorem dX8_image_22 : decode cX8_image 22 = .ok (.iconst 1, 1) := by decide +kernel
theorem dX8_image_23 : decode cX8_image 23 = .ok (.putfield 56, 3) := by decide +kernel
theorem dX8_image_26 : decode cX8_image 26 = .ok (.aload_n 0, 1) := by decide +kernel
theorem dX8_image_27 : decode cX8_image 27 = .ok (.getfield 25, 3) := by decide +kernel
theorem dX8_image_30 : decode cX8_image 30 = .ok (.getfield 192, 3) := by decide +kernel
theorem dX8_image_33 : decode cX8_image 33 = .ok (.ireturn, 1) := by decide +kernel
theorem dX8_restore_0 : decode cX8_restore 0 = .ok (.aload_n 0, 1) := by decide +kernel
theorem dX8_restore_1 : decode cX8_restore 1 = .ok (.getfield 56, 3) := by decide +kernel
theorem dX8_restore_4 : decode cX8_restore 4 = .ok (.ifCond .ne 6, 3) := by decide +kernel
theorem dX8_restore_7 : decode cX8_restore 7 = .ok (.bipush (-103), 2) := by decide +kernel
theorem dX8_restore_9 : decode cX8_restore 9 = .ok (.ireturn, 1) := by decide +kernel
theorem dX8_restore_10 : decode cX8_restore 10 = .ok (.aload_n 0, 1) := by decide +kernel
theorem dX8_restore_11 : decode cX8_restore 11 = .ok (.getfield 25, 3) := by decide +kernel
theorem dX8_restore_14 : decode cX8_restore 14 = .ok (.aload_n 0, 1) := by decide +kernel
theorem dX8_restore_15 : decode cX8_restore 15 = .ok (.getfield 29, 3) := by decide +kernel
theorem dX8_restore_18 : decode cX8_restore 18 = .ok (.invokevirtual 188, 3) := by decide +kernel
theorem dX8_restore_21 : decode cX8_restore 21 = .ok (.aload_n 0, 1) := by decide +kernel
theorem dX8_restore_22 : decode cX8_restore 22 = .ok (.getfield 25, 3) := by decide +kernel
theorem dX8_restore_25 : decode cX8_restore 25 = .ok (.getfield 192, 3) := by decide +kernel
theorem dX8_restore_28 : decode cX8_restore 28 = .ok (.ireturn, 1) := by decide +kernel
theorem dX8_count_0 : decode cX8_count 0 = .ok (.iload_n 1, 1) := by decide +kernel
theorem dX8_count_1 : decode cX8_count 1 = .ok (.tableswitch 124 0 8 #[51, 56, 64, 75, 83, 91, 103, 111, 119], 51) := by decide +kernel
theorem dX8_count_52 : decode cX8_count 52 = .ok (.aload_n 0, 1) := by decide +kernel
theorem dX8_count_53 : decode cX8_count 53 = .ok (.getfield 49, 3) := by decide +kernel
theorem dX8_count_56 : decode cX8_count 56 = .ok (.ireturn, 1) := by decide +kernel
theorem dX8_count_57 : decode cX8_count 57 = .ok (.aload_n 0, 1) := by decide +kernel
theorem dX8_count_58 : decode cX8_count 58 = .ok (.getfield 25, 3) := by decide +kernel
theorem dX8_count_61 : decode cX8_count 61 = .ok (.getfield 102, 3) := by decide +kernel
theorem dX8_count_64 : decode cX8_count 64 = .ok (.ireturn, 1) := by decide +kernel
theorem dX8_count_65 : decode cX8_count 65 = .ok (.aload_n 0, 1) := by decide +kernel
theorem dX8_count_66 : decode cX8_count 66 = .ok (.getfield 25, 3) := by decide +kernel
theorem dX8_count_69 : decode cX8_count 69 = .ok (.getfield 193, 3) := by decide +kernel
theorem dX8_count_72 : decode cX8_count 72 = .ok (.invokestatic 136, 3) := by decide +kernel
theorem dX8_count_75 : decode cX8_count 75 = .ok (.ireturn, 1) := by decide +kernel
theorem dX8_count_76 : decode cX8_count 76 = .ok (.aload_n 0, 1) := by decide +kernel
theorem dX8_count_77 : decode cX8_count 77 = .ok (.getfield 25, 3) := by decide +kernel
theorem dX8_count_80 : decode cX8_count 80 = .ok (.getfield 192, 3) := by decide +kernel
theorem dX8_count_83 : decode cX8_count 83 = .ok (.ireturn, 1) := by decide +kernel
theorem dX8_count_84 : decode cX8_count 84 = .ok (.aload_n 0, 1) := by decide +kernel
theorem dX8_count_85 : decode cX8_count 85 = .ok (.getfield 25, 3) := by decide +kernel
theorem dX8_count_88 : decode cX8_count 88 = .ok (.getfield 197, 3) := by decide +kernel
theorem dX8_count_91 : decode cX8_count 91 = .ok (.ireturn, 1) := by decide +kernel
theorem dX8_count_92 : decode cX8_count 92 = .ok (.aload_n 0, 1) := by decide +kernel
theorem dX8_count_93 : decode cX8_count 93 = .ok (.aload_n 0, 1) := by decide +kernel
theorem dX8_count_94 : decode cX8_count 94 = .ok (.getfield 25, 3) := by decide +kernel
theorem dX8_count_97 : decode cX8_count 97 = .ok (.getfield 102, 3) := by decide +kernel
theorem dX8_count_100 : decode cX8_count 100 = .ok (.invokevirtual 185, 3) := by decide +kernel
