theorem dX13_isIn_0 : decode cX13_isIn 0 = .ok (.lload_n 0, 1) := by decide +kernel
theorem dX13_isIn_1 : decode cX13_isIn 1 = .ok (.lload_n 2, 1) := by decide +kernel
theorem dX13_isIn_2 : decode cX13_isIn 2 = .ok (.lcmp, 1) := by decide +kernel
theorem dX13_isIn_3 : decode cX13_isIn 3 = .ok (.ifCond .lt 14, 3) := by decide +kernel
theorem dX13_isIn_6 : decode cX13_isIn 6 = .ok (.lload_n 0, 1) := by decide +kernel
theorem dX13_isIn_7 : decode cX13_isIn 7 = .ok (.lload 4, 2) := by decide +kernel
theorem dX13_isIn_9 : decode cX13_isIn 9 = .ok (.lcmp, 1) := by decide +kernel
theorem dX13_isIn_10 : decode cX13_isIn 10 = .ok (.ifCond .gt 7, 3) := by decide +kernel
theorem dX13_isIn_13 : decode cX13_isIn 13 = .ok (.iconst 1, 1) := by decide +kernel
theorem dX13_isIn_14 : decode cX13_isIn 14 = .ok (.goto 4, 3) := by decide +kernel
theorem dX13_isIn_17 : decode cX13_isIn 17 = .ok (.iconst 0, 1) := by decide +kernel
theorem dX13_isIn_18 : decode cX13_isIn 18 = .ok (.ireturn, 1) := by decide +kernel
theorem dX13_feed_0 : decode cX13_feed 0 = .ok (.aload_n 0, 1) := by decide +kernel
theorem dX13_feed_1 : decode cX13_feed 1 = .ok (.getfield 261, 3) := by decide +kernel
theorem dX13_feed_4 : decode cX13_feed 4 = .ok (.bipush 20, 2) := by decide +kernel
theorem dX13_feed_6 : decode cX13_feed 6 = .ok (.iadd, 1) := by decide +kernel
theorem dX13_feed_7 : decode cX13_feed 7 = .ok (.sipush 1600, 3) := by decide +kernel
theorem dX13_feed_10 : decode cX13_feed 10 = .ok (.if_icmp .le 15, 3) := by decide +kernel
theorem dX13_feed_13 : decode cX13_feed 13 = .ok (.aload_n 0, 1) := by decide +kernel
theorem dX13_feed_14 : decode cX13_feed 14 = .ok (.getfield 17, 3) := by decide +kernel
theorem dX13_feed_17 : decode cX13_feed 17 = .ok (.iconst 0, 1) := by decide +kernel
theorem dX13_feed_18 : decode cX13_feed 18 = .ok (.dup2, 1) := by decide +kernel
theorem dX13_feed_19 : decode cX13_feed 19 = .ok (.iaload, 1) := by decide +kernel
theorem dX13_feed_20 : decode cX13_feed 20 = .ok (.iconst 1, 1) := by decide +kernel
theorem dX13_feed_21 : decode cX13_feed 21 = .ok (.iadd, 1) := by decide +kernel
theorem dX13_feed_22 : decode cX13_feed 22 = .ok (.iastore, 1) := by decide +kernel
theorem dX13_feed_23 : decode cX13_feed 23 = .ok (.iconst (-1), 1) := by decide +kernel
theorem dX13_feed_24 : decode cX13_feed 24 = .ok (.ireturn, 1) := by decide +kernel
theorem dX13_feed_25 : decode cX13_feed 25 = .ok (.iconst 0, 1) := by decide +kernel
theorem dX13_feed_26 : decode cX13_feed 26 = .ok (.istore 6, 2) := by decide +kernel
theorem dX13_feed_28 : decode cX13_feed 28 = .ok (.iload 6, 2) := by decide +kernel
theorem dX13_feed_30 : decode cX13_feed 30 = .ok (.bipush 20, 2) := by decide +kernel
theorem dX13_feed_32 : decode cX13_feed 32 = .ok (.if_icmp .ge 92, 3) := by decide +kernel
theorem dX13_feed_35 : decode cX13_feed 35 = .ok (.iload 6, 2) := by decide +kernel
theorem dX13_feed_37 : decode cX13_feed 37 = .ok (.iconst 4, 1) := by decide +kernel
theorem dX13_feed_38 : decode cX13_feed 38 = .ok (.if_icmp .ge 7, 3) := by decide +kernel
theorem dX13_feed_41 : decode cX13_feed 41 = .ok (.iload_n 1, 1) := by decide +kernel
theorem dX13_feed_42 : decode cX13_feed 42 = .ok (.goto 39, 3) := by decide +kernel
theorem dX13_feed_45 : decode cX13_feed 45 = .ok (.iload 6, 2) := by decide +kernel
theorem dX13_feed_47 : decode cX13_feed 47 = .ok (.bipush 8, 2) := by decide +kernel
theorem dX13_feed_49 : decode cX13_feed 49 = .ok (.if_icmp .ge 7, 3) := by decide +kernel
theorem dX13_feed_52 : decode cX13_feed 52 = .ok (.iload_n 2, 1) := by decide +kernel
theorem dX13_feed_53 : decode cX13_feed 53 = .ok (.goto 28, 3) := by decide +kernel
theorem dX13_feed_56 : decode cX13_feed 56 = .ok (.iload 6, 2) := by decide +kernel
theorem dX13_feed_58 : decode cX13_feed 58 = .ok (.bipush 12, 2) := by decide +kernel
theorem dX13_feed_60 : decode cX13_feed 60 = .ok (.if_icmp .ge 7, 3) := by decide +kernel
theorem dX13_feed_63 : decode cX13_feed 63 = .ok (.iload_n 3, 1) := by decide +kernel
theorem dX13_feed_64 : decode cX13_feed 64 = .ok (.goto 17, 3) := by decide +kernel
theorem dX13_feed_67 : decode cX13_feed 67 = .ok (.iload 6, 2) := by decide +kernel
theorem dX13_feed_69 : decode cX13_feed 69 = .ok (.bipush 16, 2) := by decide +kernel
theorem dX13_feed_71 : decode cX13_feed 71 = .ok (.if_icmp .ge 8, 3) := by decide +kernel
theorem dX13_feed_74 : decode cX13_feed 74 = .ok (.iload 4, 2) := by decide +kernel
theorem dX13_feed_76 : decode cX13_feed 76 = .ok (.goto 5, 3) := by decide +kernel
theorem dX13_feed_79 : decode cX13_feed 79 = .ok (.iload 5, 2) := by decide +kernel
theorem dX13_feed_81 : decode cX13_feed 81 = .ok (.istore 7, 2) := by decide +kernel
theorem dX13_feed_83 : decode cX13_feed 83 = .ok (.aload_n 0, 1) := by decide +kernel
theorem dX13_feed_84 : decode cX13_feed 84 = .ok (.getfield 7, 3) := by decide +kernel
theorem dX13_feed_87 : decode cX13_feed 87 = .ok (.aload_n 0, 1) := by decide +kernel
theorem dX13_feed_88 : decode cX13_feed 88 = .ok (.getfield 261, 3) := by decide +kernel
theorem dX13_feed_91 : decode cX13_feed 91 = .ok (.iload 7, 2) := by decide +kernel
theorem dX13_feed_93 : decode cX13_feed 93 = .ok (.bipush 8, 2) := by decide +kernel
theorem dX13_feed_95 : decode cX13_feed 95 = .ok (.iconst 3, 1) := by decide +kernel
theorem dX13_feed_96 : decode cX13_feed 96 = .ok (.iload 6, 2) := by decide +kernel
theorem dX13_feed_98 : decode cX13_feed 98 = .ok (.iconst 4, 1) := by decide +kernel
theorem dX13_feed_99 : decode cX13_feed 99 = .ok (.irem, 1) := by decide +kernel
theorem dX13_feed_100 : decode cX13_feed 100 = .ok (.isub, 1) := by decide +kernel
theorem dX13_feed_101 : decode cX13_feed 101 = .ok (.imul, 1) := by decide +kernel
theorem dX13_feed_102 : decode cX13_feed 102 = .ok (.ishr, 1) := by decide +kernel
theorem dX13_feed_103 : decode cX13_feed 103 = .ok (.sipush 255, 3) := by decide +kernel
theorem dX13_feed_106 : decode cX13_feed 106 = .ok (.iand, 1) := by decide +kernel
theorem dX13_feed_107 : decode cX13_feed 107 = .ok (.iastore, 1) := by decide +kernel
theorem dX13_feed_108 : decode cX13_feed 108 = .ok (.aload_n 0, 1) := by decide +kernel
theorem dX13_feed_109 : decode cX13_feed 109 = .ok (.dup, 1) := by decide +kernel
theorem dX13_feed_110 : decode cX13_feed 110 = .ok (.getfield 261, 3) := by decide +kernel
theorem dX13_feed_113 : decode cX13_feed 113 = .ok (.iconst 1, 1) := by decide +kernel
theorem dX13_feed_114 : decode cX13_feed 114 = .ok (.iadd, 1) := by decide +kernel
theorem dX13_feed_115 : decode cX13_feed 115 = .ok (.putfield 261, 3) := by decide +kernel
theorem dX13_feed_118 : decode cX13_feed 118 = .ok (.iinc 6 1, 3) := by decide +kernel
theorem dX13_feed_121 : decode cX13_feed 121 = .ok (.goto (-93), 3) := by decide +kernel
theorem dX13_feed_124 : decode cX13_feed 124 = .ok (.aload_n 0, 1) := by decide +kernel
theorem dX13_feed_125 : decode cX13_feed 125 = .ok (.getfield 261, 3) := by decide +kernel
theorem dX13_feed_128 : decode cX13_feed 128 = .ok (.ireturn, 1) := by decide +kernel
theorem dX13_end_0 : decode cX13_end 0 = .ok (.iload_n 1, 1) := by decide +kernel
theorem dX13_end_1 : decode cX13_end 1 = .ok (.ifCond .lt 11, 3) := by decide +kernel
theorem dX13_end_4 : decode cX13_end 4 = .ok (.iload_n 1, 1) := by decide +kernel
theorem dX13_end_5 : decode cX13_end 5 = .ok (.aload_n 0, 1) := by decide +kernel
theorem dX13_end_6 : decode cX13_end 6 = .ok (.getfield 261, 3) := by decide +kernel
theorem dX13_end_9 : decode cX13_end 9 = .ok (.if_icmp .le 15, 3) := by decide +kernel
theorem dX13_end_12 : decode cX13_end 12 = .ok (.aload_n 0, 1) := by decide +kernel
theorem dX13_end_13 : decode cX13_end 13 = .ok (.getfield 17, 3) := by decide +kernel
theorem dX13_end_16 : decode cX13_end 16 = .ok (.iconst 0, 1) := by decide +kernel
theorem dX13_end_17 : decode cX13_end 17 = .ok (.dup2, 1) := by decide +kernel
theorem dX13_end_18 : decode cX13_end 18 = .ok (.iaload, 1) := by decide +kernel
theorem dX13_end_19 : decode cX13_end 19 = .ok (.iconst 1, 1) := by decide +kernel
theorem dX13_end_20 : decode cX13_end 20 = .ok (.iadd, 1) := by decide +kernel
theorem dX13_end_21 : decode cX13_end 21 = .ok (.iastore, 1) := by decide +kernel
theorem dX13_end_22 : decode cX13_end 22 = .ok (.iconst 0, 1) := by decide +kernel
theorem dX13_end_23 : decode cX13_end 23 = .ok (.ireturn, 1) := by decide +kernel
theorem dX13_end_24 : decode cX13_end 24 = .ok (.aload_n 0, 1) := by decide +kernel
theorem dX13_end_25 : decode cX13_end 25 = .ok (.iload_n 1, 1) := by decide +kernel
theorem dX13_end_26 : decode cX13_end 26 = .ok (.putfield 261, 3) := by decide +kernel
theorem dX13_end_29 : decode cX13_end 29 = .ok (.iconst 1, 1) := by decide +kernel
theorem dX13_end_30 : decode cX13_end 30 = .ok (.ireturn, 1) := by decide +kernel
theorem dX13_fail_0 : decode cX13_fail 0 = .ok (.aload_n 0, 1) := by decide +kernel
theorem dX13_fail_1 : decode cX13_fail 1 = .ok (.getfield 264, 3) := by decide +kernel
theorem dX13_fail_4 : decode cX13_fail 4 = .ok (.ifCond .eq 4, 3) := by decide +kernel
theorem dX13_fail_7 : decode cX13_fail 7 = .ok (.return_, 1) := by decide +kernel
theorem dX13_fail_8 : decode cX13_fail 8 = .ok (.aload_n 0, 1) := by decide +kernel
theorem dX13_fail_9 : decode cX13_fail 9 = .ok (.iload_n 1, 1) := by decide +kernel
theorem dX13_fail_10 : decode cX13_fail 10 = .ok (.putfield 264, 3) := by decide +kernel
theorem dX13_fail_13 : decode cX13_fail 13 = .ok (.aload_n 0, 1) := by decide +kernel
theorem dX13_fail_14 : decode cX13_fail 14 = .ok (.iload_n 2, 1) := by decide +kernel
theorem dX13_fail_15 : decode cX13_fail 15 = .ok (.putfield 267, 3) := by decide +kernel
theorem dX13_fail_18 : decode cX13_fail 18 = .ok (.return_, 1) := by decide +kernel
theorem dX13_isLetter_0 : decode cX13_isLetter 0 = .ok (.iload_n 0, 1) := by decide +kernel
theorem dX13_isLetter_1 : decode cX13_isLetter 1 = .ok (.bipush 97, 2) := by decide +kernel
theorem dX13_isLetter_3 : decode cX13_isLetter 3 = .ok (.if_icmp .lt 13, 3) := by decide +kernel
theorem dX13_isLetter_6 : decode cX13_isLetter 6 = .ok (.iload_n 0, 1) := by decide +kernel
theorem dX13_isLetter_7 : decode cX13_isLetter 7 = .ok (.bipush 122, 2) := by decide +kernel
theorem dX13_isLetter_9 : decode cX13_isLetter 9 = .ok (.if_icmp .gt 7, 3) := by decide +kernel
theorem dX13_isLetter_12 : decode cX13_isLetter 12 = .ok (.iconst 1, 1) := by decide +kernel
theorem dX13_isLetter_13 : decode cX13_isLetter 13 = .ok (.goto 4, 3) := by decide +kernel
theorem dX13_isLetter_16 : decode cX13_isLetter 16 = .ok (.iconst 0, 1) := by decide +kernel
theorem dX13_isLetter_17 : decode cX13_isLetter 17 = .ok (.ireturn, 1) := by decide +kernel
theorem dX13_isDigit_0 : decode cX13_isDigit 0 = .ok (.iload_n 0, 1) := by decide +kernel
theorem dX13_isDigit_1 : decode cX13_isDigit 1 = .ok (.bipush 48, 2) := by decide +kernel
theorem dX13_isDigit_3 : decode cX13_isDigit 3 = .ok (.if_icmp .lt 13, 3) := by decide +kernel
theorem dX13_isDigit_6 : decode cX13_isDigit 6 = .ok (.iload_n 0, 1) := by decide +kernel
theorem dX13_isDigit_7 : decode cX13_isDigit 7 = .ok (.bipush 57, 2) := by decide +kernel
theorem dX13_isDigit_9 : decode cX13_isDigit 9 = .ok (.if_icmp .gt 7, 3) := by decide +kernel
theorem dX13_isDigit_12 : decode cX13_isDigit 12 = .ok (.iconst 1, 1) := by decide +kernel
theorem dX13_isDigit_13 : decode cX13_isDigit 13 = .ok (.goto 4, 3) := by decide +kernel
theorem dX13_isDigit_16 : decode cX13_isDigit 16 = .ok (.iconst 0, 1) := by decide +kernel
theorem dX13_isDigit_17 : decode cX13_isDigit 17 = .ok (.ireturn, 1) := by decide +kernel
theorem dX13_look_0 : decode cX13_look 0 = .ok (.aload_n 0, 1) := by decide +kernel
theorem dX13_look_1 : decode cX13_look 1 = .ok (.getfield 270, 3) := by decide +kernel
theorem dX13_look_4 : decode cX13_look 4 = .ok (.aload_n 0, 1) := by decide +kernel
theorem dX13_look_5 : decode cX13_look 5 = .ok (.getfield 273, 3) := by decide +kernel
theorem dX13_look_8 : decode cX13_look 8 = .ok (.if_icmp .ge 44, 3) := by decide +kernel
theorem dX13_look_11 : decode cX13_look 11 = .ok (.aload_n 0, 1) := by decide +kernel
theorem dX13_look_12 : decode cX13_look 12 = .ok (.getfield 7, 3) := by decide +kernel
theorem dX13_look_15 : decode cX13_look 15 = .ok (.aload_n 0, 1) := by decide +kernel
theorem dX13_look_16 : decode cX13_look 16 = .ok (.getfield 270, 3) := by decide +kernel
theorem dX13_look_19 : decode cX13_look 19 = .ok (.iaload, 1) := by decide +kernel
theorem dX13_look_20 : decode cX13_look 20 = .ok (.bipush 10, 2) := by decide +kernel
theorem dX13_look_22 : decode cX13_look 22 = .ok (.if_icmp .eq 17, 3) := by decide +kernel
theorem dX13_look_25 : decode cX13_look 25 = .ok (.aload_n 0, 1) := by decide +kernel
theorem dX13_look_26 : decode cX13_look 26 = .ok (.getfield 7, 3) := by decide +kernel
theorem dX13_look_29 : decode cX13_look 29 = .ok (.aload_n 0, 1) := by decide +kernel
theorem dX13_look_30 : decode cX13_look 30 = .ok (.getfield 270, 3) := by decide +kernel
theorem dX13_look_33 : decode cX13_look 33 = .ok (.iaload, 1) := by decide +kernel
theorem dX13_look_34 : decode cX13_look 34 = .ok (.bipush 32, 2) := by decide +kernel
theorem dX13_look_36 : decode cX13_look 36 = .ok (.if_icmp .ne 16, 3) := by decide +kernel
theorem dX13_look_39 : decode cX13_look 39 = .ok (.aload_n 0, 1) := by decide +kernel
theorem dX13_look_40 : decode cX13_look 40 = .ok (.dup, 1) := by decide +kernel
theorem dX13_look_41 : decode cX13_look 41 = .ok (.getfield 270, 3) := by decide +kernel
theorem dX13_look_44 : decode cX13_look 44 = .ok (.iconst 1, 1) := by decide +kernel
theorem dX13_look_45 : decode cX13_look 45 = .ok (.iadd, 1) := by decide +kernel
theorem dX13_look_46 : decode cX13_look 46 = .ok (.putfield 270, 3) := by decide +kernel
theorem dX13_look_49 : decode cX13_look 49 = .ok (.goto (-49), 3) := by decide +kernel
theorem dX13_look_52 : decode cX13_look 52 = .ok (.aload_n 0, 1) := by decide +kernel
theorem dX13_look_53 : decode cX13_look 53 = .ok (.getfield 270, 3) := by decide +kernel
theorem dX13_look_56 : decode cX13_look 56 = .ok (.aload_n 0, 1) := by decide +kernel
theorem dX13_look_57 : decode cX13_look 57 = .ok (.getfield 273, 3) := by decide +kernel
theorem dX13_look_60 : decode cX13_look 60 = .ok (.if_icmp .ge 15, 3) := by decide +kernel
theorem dX13_look_63 : decode cX13_look 63 = .ok (.aload_n 0, 1) := by decide +kernel
theorem dX13_look_64 : decode cX13_look 64 = .ok (.getfield 7, 3) := by decide +kernel
theorem dX13_look_67 : decode cX13_look 67 = .ok (.aload_n 0, 1) := by decide +kernel
theorem dX13_look_68 : decode cX13_look 68 = .ok (.getfield 270, 3) := by decide +kernel
theorem dX13_look_71 : decode cX13_look 71 = .ok (.iaload, 1) := by decide +kernel
theorem dX13_look_72 : decode cX13_look 72 = .ok (.goto 4, 3) := by decide +kernel
theorem dX13_look_75 : decode cX13_look 75 = .ok (.iconst (-1), 1) := by decide +kernel
theorem dX13_look_76 : decode cX13_look 76 = .ok (.ireturn, 1) := by decide +kernel
theorem dX13_isHere_0 : decode cX13_isHere 0 = .ok (.aload_n 0, 1) := by decide +kernel
theorem dX13_isHere_1 : decode cX13_isHere 1 = .ok (.getfield 264, 3) := by decide +kernel
theorem dX13_isHere_4 : decode cX13_isHere 4 = .ok (.ifCond .ne 24, 3) := by decide +kernel
theorem dX13_isHere_7 : decode cX13_isHere 7 = .ok (.aload_n 0, 1) := by decide +kernel
theorem dX13_isHere_8 : decode cX13_isHere 8 = .ok (.invokevirtual 276, 3) := by decide +kernel
theorem dX13_isHere_11 : decode cX13_isHere 11 = .ok (.invokestatic 280, 3) := by decide +kernel
theorem dX13_isHere_14 : decode cX13_isHere 14 = .ok (.ifCond .eq 14, 3) := by decide +kernel
theorem dX13_isHere_17 : decode cX13_isHere 17 = .ok (.aload_n 0, 1) := by decide +kernel
theorem dX13_isHere_18 : decode cX13_isHere 18 = .ok (.getfield 270, 3) := by decide +kernel
theorem dX13_isHere_21 : decode cX13_isHere 21 = .ok (.aload_n 0, 1) := by decide +kernel
theorem dX13_isHere_22 : decode cX13_isHere 22 = .ok (.getfield 284, 3) := by decide +kernel
theorem dX13_isHere_25 : decode cX13_isHere 25 = .ok (.if_icmp .ne 5, 3) := by decide +kernel
theorem dX13_isHere_28 : decode cX13_isHere 28 = .ok (.iconst 0, 1) := by decide +kernel
theorem dX13_isHere_29 : decode cX13_isHere 29 = .ok (.ireturn, 1) := by decide +kernel
theorem dX13_isHere_30 : decode cX13_isHere 30 = .ok (.aload_n 0, 1) := by decide +kernel
theorem dX13_isHere_31 : decode cX13_isHere 31 = .ok (.getfield 270, 3) := by decide +kernel
theorem dX13_isHere_34 : decode cX13_isHere 34 = .ok (.istore_n 2, 1) := by decide +kernel
theorem dX13_isHere_35 : decode cX13_isHere 35 = .ok (.iload_n 2, 1) := by decide +kernel
theorem dX13_isHere_36 : decode cX13_isHere 36 = .ok (.aload_n 0, 1) := by decide +kernel
theorem dX13_isHere_37 : decode cX13_isHere 37 = .ok (.getfield 273, 3) := by decide +kernel
theorem dX13_isHere_40 : decode cX13_isHere 40 = .ok (.if_icmp .ge 21, 3) := by decide +kernel
theorem dX13_isHere_43 : decode cX13_isHere 43 = .ok (.aload_n 0, 1) := by decide +kernel
theorem dX13_isHere_44 : decode cX13_isHere 44 = .ok (.getfield 7, 3) := by decide +kernel
theorem dX13_isHere_47 : decode cX13_isHere 47 = .ok (.iload_n 2, 1) := by decide +kernel
theorem dX13_isHere_48 : decode cX13_isHere 48 = .ok (.iaload, 1) := by decide +kernel
theorem dX13_isHere_49 : decode cX13_isHere 49 = .ok (.invokestatic 280, 3) := by decide +kernel
theorem dX13_isHere_52 : decode cX13_isHere 52 = .ok (.ifCond .eq 9, 3) := by decide +kernel
theorem dX13_isHere_55 : decode cX13_isHere 55 = .ok (.iinc 2 1, 3) := by decide +kernel
theorem dX13_isHere_58 : decode cX13_isHere 58 = .ok (.goto (-23), 3) := by decide +kernel
theorem dX13_isHere_61 : decode cX13_isHere 61 = .ok (.iload_n 2, 1) := by decide +kernel
theorem dX13_isHere_62 : decode cX13_isHere 62 = .ok (.aload_n 0, 1) := by decide +kernel
theorem dX13_isHere_63 : decode cX13_isHere 63 = .ok (.getfield 270, 3) := by decide +kernel
theorem dX13_isHere_66 : decode cX13_isHere 66 = .ok (.isub, 1) := by decide +kernel
theorem dX13_isHere_67 : decode cX13_isHere 67 = .ok (.aload_n 1, 1) := by decide +kernel
theorem dX13_isHere_68 : decode cX13_isHere 68 = .ok (.arraylength, 1) := by decide +kernel
theorem dX13_isHere_69 : decode cX13_isHere 69 = .ok (.if_icmp .eq 5, 3) := by decide +kernel
theorem dX13_isHere_72 : decode cX13_isHere 72 = .ok (.iconst 0, 1) := by decide +kernel
theorem dX13_isHere_73 : decode cX13_isHere 73 = .ok (.ireturn, 1) := by decide +kernel
theorem dX13_isHere_74 : decode cX13_isHere 74 = .ok (.iconst 0, 1) := by decide +kernel
theorem dX13_isHere_75 : decode cX13_isHere 75 = .ok (.istore_n 3, 1) := by decide +kernel
theorem dX13_isHere_76 : decode cX13_isHere 76 = .ok (.iload_n 3, 1) := by decide +kernel
theorem dX13_isHere_77 : decode cX13_isHere 77 = .ok (.aload_n 1, 1) := by decide +kernel
theorem dX13_isHere_78 : decode cX13_isHere 78 = .ok (.arraylength, 1) := by decide +kernel
theorem dX13_isHere_79 : decode cX13_isHere 79 = .ok (.if_icmp .ge 28, 3) := by decide +kernel
theorem dX13_isHere_82 : decode cX13_isHere 82 = .ok (.aload_n 0, 1) := by decide +kernel
theorem dX13_isHere_83 : decode cX13_isHere 83 = .ok (.getfield 7, 3) := by decide +kernel
theorem dX13_isHere_86 : decode cX13_isHere 86 = .ok (.aload_n 0, 1) := by decide +kernel
theorem dX13_isHere_87 : decode cX13_isHere 87 = .ok (.getfield 270, 3) := by decide +kernel
theorem dX13_isHere_90 : decode cX13_isHere 90 = .ok (.iload_n 3, 1) := by decide +kernel
theorem dX13_isHere_91 : decode cX13_isHere 91 = .ok (.iadd, 1) := by decide +kernel
theorem dX13_isHere_92 : decode cX13_isHere 92 = .ok (.iaload, 1) := by decide +kernel
theorem dX13_isHere_93 : decode cX13_isHere 93 = .ok (.aload_n 1, 1) := by decide +kernel
theorem dX13_isHere_94 : decode cX13_isHere 94 = .ok (.iload_n 3, 1) := by decide +kernel
theorem dX13_isHere_95 : decode cX13_isHere 95 = .ok (.caload, 1) := by decide +kernel
theorem dX13_isHere_96 : decode cX13_isHere 96 = .ok (.if_icmp .eq 5, 3) := by decide +kernel
theorem dX13_isHere_99 : decode cX13_isHere 99 = .ok (.iconst 0, 1) := by decide +kernel
theorem dX13_isHere_100 : decode cX13_isHere 100 = .ok (.ireturn, 1) := by decide +kernel
theorem dX13_isHere_101 : decode cX13_isHere 101 = .ok (.iinc 3 1, 3) := by decide +kernel
theorem dX13_isHere_104 : decode cX13_isHere 104 = .ok (.goto (-28), 3) := by decide +kernel
theorem dX13_isHere_107 : decode cX13_isHere 107 = .ok (.iconst 1, 1) := by decide +kernel
theorem dX13_isHere_108 : decode cX13_isHere 108 = .ok (.ireturn, 1) := by decide +kernel
theorem dX13_takes_0 : decode cX13_takes 0 = .ok (.aload_n 0, 1) := by decide +kernel
theorem dX13_takes_1 : decode cX13_takes 1 = .ok (.aload_n 1, 1) := by decide +kernel
theorem dX13_takes_2 : decode cX13_takes 2 = .ok (.invokevirtual 287, 3) := by decide +kernel
theorem dX13_takes_5 : decode cX13_takes 5 = .ok (.ifCond .ne 5, 3) := by decide +kernel
theorem dX13_takes_8 : decode cX13_takes 8 = .ok (.iconst 0, 1) := by decide +kernel
theorem dX13_takes_9 : decode cX13_takes 9 = .ok (.ireturn, 1) := by decide +kernel
theorem dX13_takes_10 : decode cX13_takes 10 = .ok (.aload_n 0, 1) := by decide +kernel
theorem dX13_takes_11 : decode cX13_takes 11 = .ok (.dup, 1) := by decide +kernel
theorem dX13_takes_12 : decode cX13_takes 12 = .ok (.getfield 270, 3) := by decide +kernel
theorem dX13_takes_15 : decode cX13_takes 15 = .ok (.aload_n 1, 1) := by decide +kernel
theorem dX13_takes_16 : decode cX13_takes 16 = .ok (.arraylength, 1) := by decide +kernel
theorem dX13_takes_17 : decode cX13_takes 17 = .ok (.iadd, 1) := by decide +kernel
theorem dX13_takes_18 : decode cX13_takes 18 = .ok (.putfield 270, 3) := by decide +kernel
theorem dX13_takes_21 : decode cX13_takes 21 = .ok (.aload_n 0, 1) := by decide +kernel
theorem dX13_takes_22 : decode cX13_takes 22 = .ok (.aload_n 0, 1) := by decide +kernel
theorem dX13_takes_23 : decode cX13_takes 23 = .ok (.getfield 270, 3) := by decide +kernel
theorem dX13_takes_26 : decode cX13_takes 26 = .ok (.putfield 284, 3) := by decide +kernel
theorem dX13_takes_29 : decode cX13_takes 29 = .ok (.iconst 1, 1) := by decide +kernel
theorem dX13_takes_30 : decode cX13_takes 30 = .ok (.ireturn, 1) := by decide +kernel
theorem dX13_asks_0 : decode cX13_asks 0 = .ok (.aload_n 0, 1) := by decide +kernel
theorem dX13_asks_1 : decode cX13_asks 1 = .ok (.getfield 264, 3) := by decide +kernel
theorem dX13_asks_4 : decode cX13_asks 4 = .ok (.ifCond .ne 20, 3) := by decide +kernel
theorem dX13_asks_7 : decode cX13_asks 7 = .ok (.aload_n 0, 1) := by decide +kernel
theorem dX13_asks_8 : decode cX13_asks 8 = .ok (.aload_n 1, 1) := by decide +kernel
theorem dX13_asks_9 : decode cX13_asks 9 = .ok (.invokevirtual 291, 3) := by decide +kernel
theorem dX13_asks_12 : decode cX13_asks 12 = .ok (.ifCond .ne 12, 3) := by decide +kernel
theorem dX13_asks_15 : decode cX13_asks 15 = .ok (.aload_n 0, 1) := by decide +kernel
theorem dX13_asks_16 : decode cX13_asks 16 = .ok (.iconst 1, 1) := by decide +kernel
theorem dX13_asks_17 : decode cX13_asks 17 = .ok (.aload_n 0, 1) := by decide +kernel
theorem dX13_asks_18 : decode cX13_asks 18 = .ok (.getfield 270, 3) := by decide +kernel
theorem dX13_asks_21 : decode cX13_asks 21 = .ok (.invokevirtual 294, 3) := by decide +kernel
theorem dX13_asks_24 : decode cX13_asks 24 = .ok (.return_, 1) := by decide +kernel
theorem dX13_takesSign_0 : decode cX13_takesSign 0 = .ok (.aload_n 0, 1) := by decide +kernel
theorem dX13_takesSign_1 : decode cX13_takesSign 1 = .ok (.getfield 264, 3) := by decide +kernel
theorem dX13_takesSign_4 : decode cX13_takesSign 4 = .ok (.ifCond .ne 11, 3) := by decide +kernel
theorem dX13_takesSign_7 : decode cX13_takesSign 7 = .ok (.aload_n 0, 1) := by decide +kernel
theorem dX13_takesSign_8 : decode cX13_takesSign 8 = .ok (.invokevirtual 276, 3) := by decide +kernel
theorem dX13_takesSign_11 : decode cX13_takesSign 11 = .ok (.iload_n 1, 1) := by decide +kernel
theorem dX13_takesSign_12 : decode cX13_takesSign 12 = .ok (.if_icmp .eq 5, 3) := by decide +kernel
theorem dX13_takesSign_15 : decode cX13_takesSign 15 = .ok (.iconst 0, 1) := by decide +kernel
theorem dX13_takesSign_16 : decode cX13_takesSign 16 = .ok (.ireturn, 1) := by decide +kernel
theorem dX13_takesSign_17 : decode cX13_takesSign 17 = .ok (.aload_n 0, 1) := by decide +kernel
theorem dX13_takesSign_18 : decode cX13_takesSign 18 = .ok (.dup, 1) := by decide +kernel
theorem dX13_takesSign_19 : decode cX13_takesSign 19 = .ok (.getfield 270, 3) := by decide +kernel
theorem dX13_takesSign_22 : decode cX13_takesSign 22 = .ok (.iconst 1, 1) := by decide +kernel
theorem dX13_takesSign_23 : decode cX13_takesSign 23 = .ok (.iadd, 1) := by decide +kernel
theorem dX13_takesSign_24 : decode cX13_takesSign 24 = .ok (.putfield 270, 3) := by decide +kernel
theorem dX13_takesSign_27 : decode cX13_takesSign 27 = .ok (.iconst 1, 1) := by decide +kernel
theorem dX13_takesSign_28 : decode cX13_takesSign 28 = .ok (.ireturn, 1) := by decide +kernel
theorem dX13_asksSign_0 : decode cX13_asksSign 0 = .ok (.aload_n 0, 1) := by decide +kernel
theorem dX13_asksSign_1 : decode cX13_asksSign 1 = .ok (.getfield 264, 3) := by decide +kernel
theorem dX13_asksSign_4 : decode cX13_asksSign 4 = .ok (.ifCond .ne 20, 3) := by decide +kernel
theorem dX13_asksSign_7 : decode cX13_asksSign 7 = .ok (.aload_n 0, 1) := by decide +kernel
theorem dX13_asksSign_8 : decode cX13_asksSign 8 = .ok (.iload_n 1, 1) := by decide +kernel
theorem dX13_asksSign_9 : decode cX13_asksSign 9 = .ok (.invokevirtual 298, 3) := by decide +kernel
theorem dX13_asksSign_12 : decode cX13_asksSign 12 = .ok (.ifCond .ne 12, 3) := by decide +kernel
theorem dX13_asksSign_15 : decode cX13_asksSign 15 = .ok (.aload_n 0, 1) := by decide +kernel
theorem dX13_asksSign_16 : decode cX13_asksSign 16 = .ok (.iconst 1, 1) := by decide +kernel
theorem dX13_asksSign_17 : decode cX13_asksSign 17 = .ok (.aload_n 0, 1) := by decide +kernel
theorem dX13_asksSign_18 : decode cX13_asksSign 18 = .ok (.getfield 270, 3) := by decide +kernel
theorem dX13_asksSign_21 : decode cX13_asksSign 21 = .ok (.invokevirtual 294, 3) := by decide +kernel
theorem dX13_asksSign_24 : decode cX13_asksSign 24 = .ok (.return_, 1) := by decide +kernel
theorem dX13_number_0 : decode cX13_number 0 = .ok (.aload_n 0, 1) := by decide +kernel
theorem dX13_number_1 : decode cX13_number 1 = .ok (.getfield 264, 3) := by decide +kernel
theorem dX13_number_4 : decode cX13_number 4 = .ok (.ifCond .eq 5, 3) := by decide +kernel
theorem dX13_number_7 : decode cX13_number 7 = .ok (.iconst 0, 1) := by decide +kernel
theorem dX13_number_8 : decode cX13_number 8 = .ok (.ireturn, 1) := by decide +kernel
theorem dX13_number_9 : decode cX13_number 9 = .ok (.aload_n 0, 1) := by decide +kernel
theorem dX13_number_10 : decode cX13_number 10 = .ok (.invokevirtual 276, 3) := by decide +kernel
theorem dX13_number_13 : decode cX13_number 13 = .ok (.invokestatic 301, 3) := by decide +kernel
theorem dX13_number_16 : decode cX13_number 16 = .ok (.ifCond .eq 14, 3) := by decide +kernel
theorem dX13_number_19 : decode cX13_number 19 = .ok (.aload_n 0, 1) := by decide +kernel
theorem dX13_number_20 : decode cX13_number 20 = .ok (.getfield 270, 3) := by decide +kernel
theorem dX13_number_23 : decode cX13_number 23 = .ok (.aload_n 0, 1) := by decide +kernel
theorem dX13_number_24 : decode cX13_number 24 = .ok (.getfield 284, 3) := by decide +kernel
theorem dX13_number_27 : decode cX13_number 27 = .ok (.if_icmp .ne 14, 3) := by decide +kernel
theorem dX13_number_30 : decode cX13_number 30 = .ok (.aload_n 0, 1) := by decide +kernel
theorem dX13_number_31 : decode cX13_number 31 = .ok (.iconst 1, 1) := by decide +kernel
theorem dX13_number_32 : decode cX13_number 32 = .ok (.aload_n 0, 1) := by decide +kernel
theorem dX13_number_33 : decode cX13_number 33 = .ok (.getfield 270, 3) := by decide +kernel
theorem dX13_number_36 : decode cX13_number 36 = .ok (.invokevirtual 294, 3) := by decide +kernel
theorem dX13_number_39 : decode cX13_number 39 = .ok (.iconst 0, 1) := by decide +kernel
theorem dX13_number_40 : decode cX13_number 40 = .ok (.ireturn, 1) := by decide +kernel
theorem dX13_number_41 : decode cX13_number 41 = .ok (.aload_n 0, 1) := by decide +kernel
theorem dX13_number_42 : decode cX13_number 42 = .ok (.getfield 270, 3) := by decide +kernel
theorem dX13_number_45 : decode cX13_number 45 = .ok (.istore_n 3, 1) := by decide +kernel
theorem dX13_number_46 : decode cX13_number 46 = .ok (.iconst 0, 1) := by decide +kernel
theorem dX13_number_47 : decode cX13_number 47 = .ok (.istore 4, 2) := by decide +kernel
theorem dX13_number_49 : decode cX13_number 49 = .ok (.aload_n 0, 1) := by decide +kernel
theorem dX13_number_50 : decode cX13_number 50 = .ok (.getfield 270, 3) := by decide +kernel
theorem dX13_number_53 : decode cX13_number 53 = .ok (.aload_n 0, 1) := by decide +kernel
theorem dX13_number_54 : decode cX13_number 54 = .ok (.getfield 273, 3) := by decide +kernel
theorem dX13_number_57 : decode cX13_number 57 = .ok (.if_icmp .ge 72, 3) := by decide +kernel
theorem dX13_number_60 : decode cX13_number 60 = .ok (.aload_n 0, 1) := by decide +kernel
theorem dX13_number_61 : decode cX13_number 61 = .ok (.getfield 7, 3) := by decide +kernel
theorem dX13_number_64 : decode cX13_number 64 = .ok (.aload_n 0, 1) := by decide +kernel
theorem dX13_number_65 : decode cX13_number 65 = .ok (.getfield 270, 3) := by decide +kernel
theorem dX13_number_68 : decode cX13_number 68 = .ok (.iaload, 1) := by decide +kernel
theorem dX13_number_69 : decode cX13_number 69 = .ok (.invokestatic 301, 3) := by decide +kernel
theorem dX13_number_72 : decode cX13_number 72 = .ok (.ifCond .eq 57, 3) := by decide +kernel
theorem dX13_number_75 : decode cX13_number 75 = .ok (.aload_n 0, 1) := by decide +kernel
theorem dX13_number_76 : decode cX13_number 76 = .ok (.getfield 270, 3) := by decide +kernel
theorem dX13_number_79 : decode cX13_number 79 = .ok (.iload_n 3, 1) := by decide +kernel
theorem dX13_number_80 : decode cX13_number 80 = .ok (.isub, 1) := by decide +kernel
theorem dX13_number_81 : decode cX13_number 81 = .ok (.iconst 4, 1) := by decide +kernel
theorem dX13_number_82 : decode cX13_number 82 = .ok (.if_icmp .ne 14, 3) := by decide +kernel
theorem dX13_number_85 : decode cX13_number 85 = .ok (.aload_n 0, 1) := by decide +kernel
theorem dX13_number_86 : decode cX13_number 86 = .ok (.iconst 1, 1) := by decide +kernel
theorem dX13_number_87 : decode cX13_number 87 = .ok (.aload_n 0, 1) := by decide +kernel
theorem dX13_number_88 : decode cX13_number 88 = .ok (.getfield 270, 3) := by decide +kernel
theorem dX13_number_91 : decode cX13_number 91 = .ok (.invokevirtual 294, 3) := by decide +kernel
theorem dX13_number_94 : decode cX13_number 94 = .ok (.iconst 0, 1) := by decide +kernel
theorem dX13_number_95 : decode cX13_number 95 = .ok (.ireturn, 1) := by decide +kernel
theorem dX13_number_96 : decode cX13_number 96 = .ok (.bipush 10, 2) := by decide +kernel
theorem dX13_number_98 : decode cX13_number 98 = .ok (.iload 4, 2) := by decide +kernel
theorem dX13_number_100 : decode cX13_number 100 = .ok (.imul, 1) := by decide +kernel
theorem dX13_number_101 : decode cX13_number 101 = .ok (.aload_n 0, 1) := by decide +kernel
theorem dX13_number_102 : decode cX13_number 102 = .ok (.getfield 7, 3) := by decide +kernel
theorem dX13_number_105 : decode cX13_number 105 = .ok (.aload_n 0, 1) := by decide +kernel
theorem dX13_number_106 : decode cX13_number 106 = .ok (.getfield 270, 3) := by decide +kernel
theorem dX13_number_109 : decode cX13_number 109 = .ok (.iaload, 1) := by decide +kernel
theorem dX13_number_110 : decode cX13_number 110 = .ok (.iadd, 1) := by decide +kernel
theorem dX13_number_111 : decode cX13_number 111 = .ok (.bipush 48, 2) := by decide +kernel
theorem dX13_number_113 : decode cX13_number 113 = .ok (.isub, 1) := by decide +kernel
theorem dX13_number_114 : decode cX13_number 114 = .ok (.istore 4, 2) := by decide +kernel
theorem dX13_number_116 : decode cX13_number 116 = .ok (.aload_n 0, 1) := by decide +kernel
theorem dX13_number_117 : decode cX13_number 117 = .ok (.dup, 1) := by decide +kernel
theorem dX13_number_118 : decode cX13_number 118 = .ok (.getfield 270, 3) := by decide +kernel
theorem dX13_number_121 : decode cX13_number 121 = .ok (.iconst 1, 1) := by decide +kernel
theorem dX13_number_122 : decode cX13_number 122 = .ok (.iadd, 1) := by decide +kernel
theorem dX13_number_123 : decode cX13_number 123 = .ok (.putfield 270, 3) := by decide +kernel
theorem dX13_number_126 : decode cX13_number 126 = .ok (.goto (-77), 3) := by decide +kernel
theorem dX13_number_129 : decode cX13_number 129 = .ok (.aload_n 0, 1) := by decide +kernel
theorem dX13_number_130 : decode cX13_number 130 = .ok (.aload_n 0, 1) := by decide +kernel
theorem dX13_number_131 : decode cX13_number 131 = .ok (.getfield 270, 3) := by decide +kernel
theorem dX13_number_134 : decode cX13_number 134 = .ok (.putfield 284, 3) := by decide +kernel
theorem dX13_number_137 : decode cX13_number 137 = .ok (.aload_n 0, 1) := by decide +kernel
theorem dX13_number_138 : decode cX13_number 138 = .ok (.iload_n 3, 1) := by decide +kernel
theorem dX13_number_139 : decode cX13_number 139 = .ok (.putfield 304, 3) := by decide +kernel
theorem dX13_number_142 : decode cX13_number 142 = .ok (.iload 4, 2) := by decide +kernel
theorem dX13_number_144 : decode cX13_number 144 = .ok (.i2l, 1) := by decide +kernel
theorem dX13_number_145 : decode cX13_number 145 = .ok (.iload_n 1, 1) := by decide +kernel
theorem dX13_number_146 : decode cX13_number 146 = .ok (.i2l, 1) := by decide +kernel
theorem dX13_number_147 : decode cX13_number 147 = .ok (.iload_n 2, 1) := by decide +kernel
theorem dX13_number_148 : decode cX13_number 148 = .ok (.i2l, 1) := by decide +kernel
theorem dX13_number_149 : decode cX13_number 149 = .ok (.invokestatic 307, 3) := by decide +kernel
theorem dX13_number_152 : decode cX13_number 152 = .ok (.ifCond .ne 9, 3) := by decide +kernel
theorem dX13_number_155 : decode cX13_number 155 = .ok (.aload_n 0, 1) := by decide +kernel
theorem dX13_number_156 : decode cX13_number 156 = .ok (.iconst 2, 1) := by decide +kernel
theorem dX13_number_157 : decode cX13_number 157 = .ok (.iload_n 3, 1) := by decide +kernel
theorem dX13_number_158 : decode cX13_number 158 = .ok (.invokevirtual 294, 3) := by decide +kernel
theorem dX13_number_161 : decode cX13_number 161 = .ok (.iload 4, 2) := by decide +kernel
theorem dX13_number_163 : decode cX13_number 163 = .ok (.ireturn, 1) := by decide +kernel
theorem dX13_isOwnHere_0 : decode cX13_isOwnHere 0 = .ok (.aload_n 0, 1) := by decide +kernel
theorem dX13_isOwnHere_1 : decode cX13_isOwnHere 1 = .ok (.aload_n 0, 1) := by decide +kernel
theorem dX13_isOwnHere_2 : decode cX13_isOwnHere 2 = .ok (.getfield 20, 3) := by decide +kernel
theorem dX13_isOwnHere_5 : decode cX13_isOwnHere 5 = .ok (.invokevirtual 287, 3) := by decide +kernel
theorem dX13_isOwnHere_8 : decode cX13_isOwnHere 8 = .ok (.ifCond .ne 58, 3) := by decide +kernel
theorem dX13_isOwnHere_11 : decode cX13_isOwnHere 11 = .ok (.aload_n 0, 1) := by decide +kernel
theorem dX13_isOwnHere_12 : decode cX13_isOwnHere 12 = .ok (.aload_n 0, 1) := by decide +kernel
theorem dX13_isOwnHere_13 : decode cX13_isOwnHere 13 = .ok (.getfield 24, 3) := by decide +kernel
theorem dX13_isOwnHere_16 : decode cX13_isOwnHere 16 = .ok (.invokevirtual 287, 3) := by decide +kernel
theorem dX13_isOwnHere_19 : decode cX13_isOwnHere 19 = .ok (.ifCond .ne 47, 3) := by decide +kernel
theorem dX13_isOwnHere_22 : decode cX13_isOwnHere 22 = .ok (.aload_n 0, 1) := by decide +kernel
theorem dX13_isOwnHere_23 : decode cX13_isOwnHere 23 = .ok (.aload_n 0, 1) := by decide +kernel
theorem dX13_isOwnHere_24 : decode cX13_isOwnHere 24 = .ok (.getfield 27, 3) := by decide +kernel
theorem dX13_isOwnHere_27 : decode cX13_isOwnHere 27 = .ok (.invokevirtual 287, 3) := by decide +kernel
theorem dX13_isOwnHere_30 : decode cX13_isOwnHere 30 = .ok (.ifCond .ne 36, 3) := by decide +kernel
theorem dX13_isOwnHere_33 : decode cX13_isOwnHere 33 = .ok (.aload_n 0, 1) := by decide +kernel
theorem dX13_isOwnHere_34 : decode cX13_isOwnHere 34 = .ok (.aload_n 0, 1) := by decide +kernel
theorem dX13_isOwnHere_35 : decode cX13_isOwnHere 35 = .ok (.getfield 30, 3) := by decide +kernel
theorem dX13_isOwnHere_38 : decode cX13_isOwnHere 38 = .ok (.invokevirtual 287, 3) := by decide +kernel
theorem dX13_isOwnHere_41 : decode cX13_isOwnHere 41 = .ok (.ifCond .ne 25, 3) := by decide +kernel
theorem dX13_isOwnHere_44 : decode cX13_isOwnHere 44 = .ok (.aload_n 0, 1) := by decide +kernel
theorem dX13_isOwnHere_45 : decode cX13_isOwnHere 45 = .ok (.aload_n 0, 1) := by decide +kernel
theorem dX13_isOwnHere_46 : decode cX13_isOwnHere 46 = .ok (.getfield 33, 3) := by decide +kernel
theorem dX13_isOwnHere_49 : decode cX13_isOwnHere 49 = .ok (.invokevirtual 287, 3) := by decide +kernel
theorem dX13_isOwnHere_52 : decode cX13_isOwnHere 52 = .ok (.ifCond .ne 14, 3) := by decide +kernel
theorem dX13_isOwnHere_55 : decode cX13_isOwnHere 55 = .ok (.aload_n 0, 1) := by decide +kernel
theorem dX13_isOwnHere_56 : decode cX13_isOwnHere 56 = .ok (.aload_n 0, 1) := by decide +kernel
theorem dX13_isOwnHere_57 : decode cX13_isOwnHere 57 = .ok (.getfield 36, 3) := by decide +kernel
theorem dX13_isOwnHere_60 : decode cX13_isOwnHere 60 = .ok (.invokevirtual 287, 3) := by decide +kernel
theorem dX13_isOwnHere_63 : decode cX13_isOwnHere 63 = .ok (.ifCond .eq 7, 3) := by decide +kernel
theorem dX13_isOwnHere_66 : decode cX13_isOwnHere 66 = .ok (.iconst 1, 1) := by decide +kernel
theorem dX13_isOwnHere_67 : decode cX13_isOwnHere 67 = .ok (.goto 4, 3) := by decide +kernel
theorem dX13_isOwnHere_70 : decode cX13_isOwnHere 70 = .ok (.iconst 0, 1) := by decide +kernel
theorem dX13_isOwnHere_71 : decode cX13_isOwnHere 71 = .ok (.istore_n 1, 1) := by decide +kernel
theorem dX13_isOwnHere_72 : decode cX13_isOwnHere 72 = .ok (.iload_n 1, 1) := by decide +kernel
theorem dX13_isOwnHere_73 : decode cX13_isOwnHere 73 = .ok (.ifCond .ne 69, 3) := by decide +kernel
theorem dX13_isOwnHere_76 : decode cX13_isOwnHere 76 = .ok (.aload_n 0, 1) := by decide +kernel
theorem dX13_isOwnHere_77 : decode cX13_isOwnHere 77 = .ok (.aload_n 0, 1) := by decide +kernel
theorem dX13_isOwnHere_78 : decode cX13_isOwnHere 78 = .ok (.getfield 39, 3) := by decide +kernel
theorem dX13_isOwnHere_81 : decode cX13_isOwnHere 81 = .ok (.invokevirtual 287, 3) := by decide +kernel
theorem dX13_isOwnHere_84 : decode cX13_isOwnHere 84 = .ok (.ifCond .ne 58, 3) := by decide +kernel
theorem dX13_isOwnHere_87 : decode cX13_isOwnHere 87 = .ok (.aload_n 0, 1) := by decide +kernel
theorem dX13_isOwnHere_88 : decode cX13_isOwnHere 88 = .ok (.aload_n 0, 1) := by decide +kernel
theorem dX13_isOwnHere_89 : decode cX13_isOwnHere 89 = .ok (.getfield 42, 3) := by decide +kernel
theorem dX13_isOwnHere_92 : decode cX13_isOwnHere 92 = .ok (.invokevirtual 287, 3) := by decide +kernel
theorem dX13_isOwnHere_95 : decode cX13_isOwnHere 95 = .ok (.ifCond .ne 47, 3) := by decide +kernel
theorem dX13_isOwnHere_98 : decode cX13_isOwnHere 98 = .ok (.aload_n 0, 1) := by decide +kernel
theorem dX13_isOwnHere_99 : decode cX13_isOwnHere 99 = .ok (.aload_n 0, 1) := by decide +kernel
theorem dX13_isOwnHere_100 : decode cX13_isOwnHere 100 = .ok (.getfield 45, 3) := by decide +kernel
theorem dX13_isOwnHere_103 : decode cX13_isOwnHere 103 = .ok (.invokevirtual 287, 3) := by decide +kernel
theorem dX13_isOwnHere_106 : decode cX13_isOwnHere 106 = .ok (.ifCond .ne 36, 3) := by decide +kernel
theorem dX13_isOwnHere_109 : decode cX13_isOwnHere 109 = .ok (.aload_n 0, 1) := by decide +kernel
theorem dX13_isOwnHere_110 : decode cX13_isOwnHere 110 = .ok (.aload_n 0, 1) := by decide +kernel
theorem dX13_isOwnHere_111 : decode cX13_isOwnHere 111 = .ok (.getfield 48, 3) := by decide +kernel
theorem dX13_isOwnHere_114 : decode cX13_isOwnHere 114 = .ok (.invokevirtual 287, 3) := by decide +kernel
theorem dX13_isOwnHere_117 : decode cX13_isOwnHere 117 = .ok (.ifCond .ne 25, 3) := by decide +kernel
theorem dX13_isOwnHere_120 : decode cX13_isOwnHere 120 = .ok (.aload_n 0, 1) := by decide +kernel
theorem dX13_isOwnHere_121 : decode cX13_isOwnHere 121 = .ok (.aload_n 0, 1) := by decide +kernel
theorem dX13_isOwnHere_122 : decode cX13_isOwnHere 122 = .ok (.getfield 51, 3) := by decide +kernel
theorem dX13_isOwnHere_125 : decode cX13_isOwnHere 125 = .ok (.invokevirtual 287, 3) := by decide +kernel
theorem dX13_isOwnHere_128 : decode cX13_isOwnHere 128 = .ok (.ifCond .ne 14, 3) := by decide +kernel
theorem dX13_isOwnHere_131 : decode cX13_isOwnHere 131 = .ok (.aload_n 0, 1) := by decide +kernel
theorem dX13_isOwnHere_132 : decode cX13_isOwnHere 132 = .ok (.aload_n 0, 1) := by decide +kernel
theorem dX13_isOwnHere_133 : decode cX13_isOwnHere 133 = .ok (.getfield 54, 3) := by decide +kernel
theorem dX13_isOwnHere_136 : decode cX13_isOwnHere 136 = .ok (.invokevirtual 287, 3) := by decide +kernel
theorem dX13_isOwnHere_139 : decode cX13_isOwnHere 139 = .ok (.ifCond .eq 7, 3) := by decide +kernel
theorem dX13_isOwnHere_142 : decode cX13_isOwnHere 142 = .ok (.iconst 1, 1) := by decide +kernel
theorem dX13_isOwnHere_143 : decode cX13_isOwnHere 143 = .ok (.goto 4, 3) := by decide +kernel
theorem dX13_isOwnHere_146 : decode cX13_isOwnHere 146 = .ok (.iconst 0, 1) := by decide +kernel
theorem dX13_isOwnHere_147 : decode cX13_isOwnHere 147 = .ok (.istore_n 1, 1) := by decide +kernel
theorem dX13_isOwnHere_148 : decode cX13_isOwnHere 148 = .ok (.iload_n 1, 1) := by decide +kernel
theorem dX13_isOwnHere_149 : decode cX13_isOwnHere 149 = .ok (.ifCond .ne 69, 3) := by decide +kernel
theorem dX13_isOwnHere_152 : decode cX13_isOwnHere 152 = .ok (.aload_n 0, 1) := by decide +kernel
theorem dX13_isOwnHere_153 : decode cX13_isOwnHere 153 = .ok (.aload_n 0, 1) := by decide +kernel
theorem dX13_isOwnHere_154 : decode cX13_isOwnHere 154 = .ok (.getfield 57, 3) := by decide +kernel
theorem dX13_isOwnHere_157 : decode cX13_isOwnHere 157 = .ok (.invokevirtual 287, 3) := by decide +kernel
theorem dX13_isOwnHere_160 : decode cX13_isOwnHere 160 = .ok (.ifCond .ne 58, 3) := by decide +kernel
theorem dX13_isOwnHere_163 : decode cX13_isOwnHere 163 = .ok (.aload_n 0, 1) := by decide +kernel
theorem dX13_isOwnHere_164 : decode cX13_isOwnHere 164 = .ok (.aload_n 0, 1) := by decide +kernel
theorem dX13_isOwnHere_165 : decode cX13_isOwnHere 165 = .ok (.getfield 60, 3) := by decide +kernel
theorem dX13_isOwnHere_168 : decode cX13_isOwnHere 168 = .ok (.invokevirtual 287, 3) := by decide +kernel
theorem dX13_isOwnHere_171 : decode cX13_isOwnHere 171 = .ok (.ifCond .ne 47, 3) := by decide +kernel
theorem dX13_isOwnHere_174 : decode cX13_isOwnHere 174 = .ok (.aload_n 0, 1) := by decide +kernel
theorem dX13_isOwnHere_175 : decode cX13_isOwnHere 175 = .ok (.aload_n 0, 1) := by decide +kernel
theorem dX13_isOwnHere_176 : decode cX13_isOwnHere 176 = .ok (.getfield 63, 3) := by decide +kernel
theorem dX13_isOwnHere_179 : decode cX13_isOwnHere 179 = .ok (.invokevirtual 287, 3) := by decide +kernel
theorem dX13_isOwnHere_182 : decode cX13_isOwnHere 182 = .ok (.ifCond .ne 36, 3) := by decide +kernel
theorem dX13_isOwnHere_185 : decode cX13_isOwnHere 185 = .ok (.aload_n 0, 1) := by decide +kernel
theorem dX13_isOwnHere_186 : decode cX13_isOwnHere 186 = .ok (.aload_n 0, 1) := by decide +kernel
theorem dX13_isOwnHere_187 : decode cX13_isOwnHere 187 = .ok (.getfield 66, 3) := by decide +kernel
theorem dX13_isOwnHere_190 : decode cX13_isOwnHere 190 = .ok (.invokevirtual 287, 3) := by decide +kernel
theorem dX13_isOwnHere_193 : decode cX13_isOwnHere 193 = .ok (.ifCond .ne 25, 3) := by decide +kernel
theorem dX13_isOwnHere_196 : decode cX13_isOwnHere 196 = .ok (.aload_n 0, 1) := by decide +kernel
theorem dX13_isOwnHere_197 : decode cX13_isOwnHere 197 = .ok (.aload_n 0, 1) := by decide +kernel
theorem dX13_isOwnHere_198 : decode cX13_isOwnHere 198 = .ok (.getfield 69, 3) := by decide +kernel
theorem dX13_isOwnHere_201 : decode cX13_isOwnHere 201 = .ok (.invokevirtual 287, 3) := by decide +kernel
theorem dX13_isOwnHere_204 : decode cX13_isOwnHere 204 = .ok (.ifCond .ne 14, 3) := by decide +kernel
theorem dX13_isOwnHere_207 : decode cX13_isOwnHere 207 = .ok (.aload_n 0, 1) := by decide +kernel
theorem dX13_isOwnHere_208 : decode cX13_isOwnHere 208 = .ok (.aload_n 0, 1) := by decide +kernel
theorem dX13_isOwnHere_209 : decode cX13_isOwnHere 209 = .ok (.getfield 72, 3) := by decide +kernel
theorem dX13_isOwnHere_212 : decode cX13_isOwnHere 212 = .ok (.invokevirtual 287, 3) := by decide +kernel
theorem dX13_isOwnHere_215 : decode cX13_isOwnHere 215 = .ok (.ifCond .eq 7, 3) := by decide +kernel
theorem dX13_isOwnHere_218 : decode cX13_isOwnHere 218 = .ok (.iconst 1, 1) := by decide +kernel
theorem dX13_isOwnHere_219 : decode cX13_isOwnHere 219 = .ok (.goto 4, 3) := by decide +kernel
theorem dX13_isOwnHere_222 : decode cX13_isOwnHere 222 = .ok (.iconst 0, 1) := by decide +kernel
theorem dX13_isOwnHere_223 : decode cX13_isOwnHere 223 = .ok (.istore_n 1, 1) := by decide +kernel
theorem dX13_isOwnHere_224 : decode cX13_isOwnHere 224 = .ok (.iload_n 1, 1) := by decide +kernel
theorem dX13_isOwnHere_225 : decode cX13_isOwnHere 225 = .ok (.ifCond .ne 69, 3) := by decide +kernel
theorem dX13_isOwnHere_228 : decode cX13_isOwnHere 228 = .ok (.aload_n 0, 1) := by decide +kernel
theorem dX13_isOwnHere_229 : decode cX13_isOwnHere 229 = .ok (.aload_n 0, 1) := by decide +kernel
theorem dX13_isOwnHere_230 : decode cX13_isOwnHere 230 = .ok (.getfield 75, 3) := by decide +kernel
theorem dX13_isOwnHere_233 : decode cX13_isOwnHere 233 = .ok (.invokevirtual 287, 3) := by decide +kernel
theorem dX13_isOwnHere_236 : decode cX13_isOwnHere 236 = .ok (.ifCond .ne 58, 3) := by decide +kernel
theorem dX13_isOwnHere_239 : decode cX13_isOwnHere 239 = .ok (.aload_n 0, 1) := by decide +kernel
theorem dX13_isOwnHere_240 : decode cX13_isOwnHere 240 = .ok (.aload_n 0, 1) := by decide +kernel
theorem dX13_isOwnHere_241 : decode cX13_isOwnHere 241 = .ok (.getfield 78, 3) := by decide +kernel
theorem dX13_isOwnHere_244 : decode cX13_isOwnHere 244 = .ok (.invokevirtual 287, 3) := by decide +kernel
theorem dX13_isOwnHere_247 : decode cX13_isOwnHere 247 = .ok (.ifCond .ne 47, 3) := by decide +kernel
theorem dX13_isOwnHere_250 : decode cX13_isOwnHere 250 = .ok (.aload_n 0, 1) := by decide +kernel
theorem dX13_isOwnHere_251 : decode cX13_isOwnHere 251 = .ok (.aload_n 0, 1) := by decide +kernel
theorem dX13_isOwnHere_252 : decode cX13_isOwnHere 252 = .ok (.getfield 81, 3) := by decide +kernel
theorem dX13_isOwnHere_255 : decode cX13_isOwnHere 255 = .ok (.invokevirtual 287, 3) := by decide +kernel
theorem dX13_isOwnHere_258 : decode cX13_isOwnHere 258 = .ok (.ifCond .ne 36, 3) := by decide +kernel
theorem dX13_isOwnHere_261 : decode cX13_isOwnHere 261 = .ok (.aload_n 0, 1) := by decide +kernel
theorem dX13_isOwnHere_262 : decode cX13_isOwnHere 262 = .ok (.aload_n 0, 1) := by decide +kernel
theorem dX13_isOwnHere_263 : decode cX13_isOwnHere 263 = .ok (.getfield 84, 3) := by decide +kernel
theorem dX13_isOwnHere_266 : decode cX13_isOwnHere 266 = .ok (.invokevirtual 287, 3) := by decide +kernel
theorem dX13_isOwnHere_269 : decode cX13_isOwnHere 269 = .ok (.ifCond .ne 25, 3) := by decide +kernel
theorem dX13_isOwnHere_272 : decode cX13_isOwnHere 272 = .ok (.aload_n 0, 1) := by decide +kernel
theorem dX13_isOwnHere_273 : decode cX13_isOwnHere 273 = .ok (.aload_n 0, 1) := by decide +kernel
theorem dX13_isOwnHere_274 : decode cX13_isOwnHere 274 = .ok (.getfield 87, 3) := by decide +kernel
theorem dX13_isOwnHere_277 : decode cX13_isOwnHere 277 = .ok (.invokevirtual 287, 3) := by decide +kernel
theorem dX13_isOwnHere_280 : decode cX13_isOwnHere 280 = .ok (.ifCond .ne 14, 3) := by decide +kernel
theorem dX13_isOwnHere_283 : decode cX13_isOwnHere 283 = .ok (.aload_n 0, 1) := by decide +kernel
theorem dX13_isOwnHere_284 : decode cX13_isOwnHere 284 = .ok (.aload_n 0, 1) := by decide +kernel
theorem dX13_isOwnHere_285 : decode cX13_isOwnHere 285 = .ok (.getfield 90, 3) := by decide +kernel
theorem dX13_isOwnHere_288 : decode cX13_isOwnHere 288 = .ok (.invokevirtual 287, 3) := by decide +kernel
theorem dX13_isOwnHere_291 : decode cX13_isOwnHere 291 = .ok (.ifCond .eq 7, 3) := by decide +kernel
theorem dX13_isOwnHere_294 : decode cX13_isOwnHere 294 = .ok (.iconst 1, 1) := by decide +kernel
theorem dX13_isOwnHere_295 : decode cX13_isOwnHere 295 = .ok (.goto 4, 3) := by decide +kernel
theorem dX13_isOwnHere_298 : decode cX13_isOwnHere 298 = .ok (.iconst 0, 1) := by decide +kernel
theorem dX13_isOwnHere_299 : decode cX13_isOwnHere 299 = .ok (.istore_n 1, 1) := by decide +kernel
theorem dX13_isOwnHere_300 : decode cX13_isOwnHere 300 = .ok (.iload_n 1, 1) := by decide +kernel
theorem dX13_isOwnHere_301 : decode cX13_isOwnHere 301 = .ok (.ifCond .ne 69, 3) := by decide +kernel
theorem dX13_isOwnHere_304 : decode cX13_isOwnHere 304 = .ok (.aload_n 0, 1) := by decide +kernel
theorem dX13_isOwnHere_305 : decode cX13_isOwnHere 305 = .ok (.aload_n 0, 1) := by decide +kernel
theorem dX13_isOwnHere_306 : decode cX13_isOwnHere 306 = .ok (.getfield 93, 3) := by decide +kernel
theorem dX13_isOwnHere_309 : decode cX13_isOwnHere 309 = .ok (.invokevirtual 287, 3) := by decide +kernel
theorem dX13_isOwnHere_312 : decode cX13_isOwnHere 312 = .ok (.ifCond .ne 58, 3) := by decide +kernel
theorem dX13_isOwnHere_315 : decode cX13_isOwnHere 315 = .ok (.aload_n 0, 1) := by decide +kernel
theorem dX13_isOwnHere_316 : decode cX13_isOwnHere 316 = .ok (.aload_n 0, 1) := by decide +kernel
theorem dX13_isOwnHere_317 : decode cX13_isOwnHere 317 = .ok (.getfield 96, 3) := by decide +kernel
theorem dX13_isOwnHere_320 : decode cX13_isOwnHere 320 = .ok (.invokevirtual 287, 3) := by decide +kernel
theorem dX13_isOwnHere_323 : decode cX13_isOwnHere 323 = .ok (.ifCond .ne 47, 3) := by decide +kernel
theorem dX13_isOwnHere_326 : decode cX13_isOwnHere 326 = .ok (.aload_n 0, 1) := by decide +kernel
theorem dX13_isOwnHere_327 : decode cX13_isOwnHere 327 = .ok (.aload_n 0, 1) := by decide +kernel
theorem dX13_isOwnHere_328 : decode cX13_isOwnHere 328 = .ok (.getfield 99, 3) := by decide +kernel
theorem dX13_isOwnHere_331 : decode cX13_isOwnHere 331 = .ok (.invokevirtual 287, 3) := by decide +kernel
theorem dX13_isOwnHere_334 : decode cX13_isOwnHere 334 = .ok (.ifCond .ne 36, 3) := by decide +kernel
theorem dX13_isOwnHere_337 : decode cX13_isOwnHere 337 = .ok (.aload_n 0, 1) := by decide +kernel
theorem dX13_isOwnHere_338 : decode cX13_isOwnHere 338 = .ok (.aload_n 0, 1) := by decide +kernel
theorem dX13_isOwnHere_339 : decode cX13_isOwnHere 339 = .ok (.getfield 102, 3) := by decide +kernel
theorem dX13_isOwnHere_342 : decode cX13_isOwnHere 342 = .ok (.invokevirtual 287, 3) := by decide +kernel
theorem dX13_isOwnHere_345 : decode cX13_isOwnHere 345 = .ok (.ifCond .ne 25, 3) := by decide +kernel
theorem dX13_isOwnHere_348 : decode cX13_isOwnHere 348 = .ok (.aload_n 0, 1) := by decide +kernel
theorem dX13_isOwnHere_349 : decode cX13_isOwnHere 349 = .ok (.aload_n 0, 1) := by decide +kernel
theorem dX13_isOwnHere_350 : decode cX13_isOwnHere 350 = .ok (.getfield 105, 3) := by decide +kernel
theorem dX13_isOwnHere_353 : decode cX13_isOwnHere 353 = .ok (.invokevirtual 287, 3) := by decide +kernel
theorem dX13_isOwnHere_356 : decode cX13_isOwnHere 356 = .ok (.ifCond .ne 14, 3) := by decide +kernel
theorem dX13_isOwnHere_359 : decode cX13_isOwnHere 359 = .ok (.aload_n 0, 1) := by decide +kernel
theorem dX13_isOwnHere_360 : decode cX13_isOwnHere 360 = .ok (.aload_n 0, 1) := by decide +kernel
theorem dX13_isOwnHere_361 : decode cX13_isOwnHere 361 = .ok (.getfield 108, 3) := by decide +kernel
theorem dX13_isOwnHere_364 : decode cX13_isOwnHere 364 = .ok (.invokevirtual 287, 3) := by decide +kernel
theorem dX13_isOwnHere_367 : decode cX13_isOwnHere 367 = .ok (.ifCond .eq 7, 3) := by decide +kernel
theorem dX13_isOwnHere_370 : decode cX13_isOwnHere 370 = .ok (.iconst 1, 1) := by decide +kernel
theorem dX13_isOwnHere_371 : decode cX13_isOwnHere 371 = .ok (.goto 4, 3) := by decide +kernel
theorem dX13_isOwnHere_374 : decode cX13_isOwnHere 374 = .ok (.iconst 0, 1) := by decide +kernel
theorem dX13_isOwnHere_375 : decode cX13_isOwnHere 375 = .ok (.istore_n 1, 1) := by decide +kernel
theorem dX13_isOwnHere_376 : decode cX13_isOwnHere 376 = .ok (.iload_n 1, 1) := by decide +kernel
theorem dX13_isOwnHere_377 : decode cX13_isOwnHere 377 = .ok (.ifCond .ne 36, 3) := by decide +kernel
theorem dX13_isOwnHere_380 : decode cX13_isOwnHere 380 = .ok (.aload_n 0, 1) := by decide +kernel
theorem dX13_isOwnHere_381 : decode cX13_isOwnHere 381 = .ok (.aload_n 0, 1) := by decide +kernel
theorem dX13_isOwnHere_382 : decode cX13_isOwnHere 382 = .ok (.getfield 111, 3) := by decide +kernel
theorem dX13_isOwnHere_385 : decode cX13_isOwnHere 385 = .ok (.invokevirtual 287, 3) := by decide +kernel
theorem dX13_isOwnHere_388 : decode cX13_isOwnHere 388 = .ok (.ifCond .ne 25, 3) := by decide +kernel
theorem dX13_isOwnHere_391 : decode cX13_isOwnHere 391 = .ok (.aload_n 0, 1) := by decide +kernel
theorem dX13_isOwnHere_392 : decode cX13_isOwnHere 392 = .ok (.aload_n 0, 1) := by decide +kernel
theorem dX13_isOwnHere_393 : decode cX13_isOwnHere 393 = .ok (.getfield 114, 3) := by decide +kernel
theorem dX13_isOwnHere_396 : decode cX13_isOwnHere 396 = .ok (.invokevirtual 287, 3) := by decide +kernel
theorem dX13_isOwnHere_399 : decode cX13_isOwnHere 399 = .ok (.ifCond .ne 14, 3) := by decide +kernel
theorem dX13_isOwnHere_402 : decode cX13_isOwnHere 402 = .ok (.aload_n 0, 1) := by decide +kernel
theorem dX13_isOwnHere_403 : decode cX13_isOwnHere 403 = .ok (.aload_n 0, 1) := by decide +kernel
theorem dX13_isOwnHere_404 : decode cX13_isOwnHere 404 = .ok (.getfield 117, 3) := by decide +kernel
theorem dX13_isOwnHere_407 : decode cX13_isOwnHere 407 = .ok (.invokevirtual 287, 3) := by decide +kernel
theorem dX13_isOwnHere_410 : decode cX13_isOwnHere 410 = .ok (.ifCond .eq 7, 3) := by decide +kernel
theorem dX13_isOwnHere_413 : decode cX13_isOwnHere 413 = .ok (.iconst 1, 1) := by decide +kernel
theorem dX13_isOwnHere_414 : decode cX13_isOwnHere 414 = .ok (.goto 4, 3) := by decide +kernel
theorem dX13_isOwnHere_417 : decode cX13_isOwnHere 417 = .ok (.iconst 0, 1) := by decide +kernel
theorem dX13_isOwnHere_418 : decode cX13_isOwnHere 418 = .ok (.istore_n 1, 1) := by decide +kernel
theorem dX13_isOwnHere_419 : decode cX13_isOwnHere 419 = .ok (.iload_n 1, 1) := by decide +kernel
theorem dX13_isOwnHere_420 : decode cX13_isOwnHere 420 = .ok (.ireturn, 1) := by decide +kernel
theorem dX13_name_0 : decode cX13_name 0 = .ok (.aload_n 0, 1) := by decide +kernel
theorem dX13_name_1 : decode cX13_name 1 = .ok (.getfield 264, 3) := by decide +kernel
theorem dX13_name_4 : decode cX13_name 4 = .ok (.ifCond .eq 5, 3) := by decide +kernel
theorem dX13_name_7 : decode cX13_name 7 = .ok (.lconst 0, 1) := by decide +kernel
theorem dX13_name_8 : decode cX13_name 8 = .ok (.lreturn, 1) := by decide +kernel
theorem dX13_name_9 : decode cX13_name 9 = .ok (.aload_n 0, 1) := by decide +kernel
theorem dX13_name_10 : decode cX13_name 10 = .ok (.invokevirtual 276, 3) := by decide +kernel
theorem dX13_name_13 : decode cX13_name 13 = .ok (.invokestatic 280, 3) := by decide +kernel
theorem dX13_name_16 : decode cX13_name 16 = .ok (.ifCond .eq 21, 3) := by decide +kernel
theorem dX13_name_19 : decode cX13_name 19 = .ok (.aload_n 0, 1) := by decide +kernel
theorem dX13_name_20 : decode cX13_name 20 = .ok (.getfield 270, 3) := by decide +kernel
theorem dX13_name_23 : decode cX13_name 23 = .ok (.aload_n 0, 1) := by decide +kernel
theorem dX13_name_24 : decode cX13_name 24 = .ok (.getfield 284, 3) := by decide +kernel
theorem dX13_name_27 : decode cX13_name 27 = .ok (.if_icmp .eq 10, 3) := by decide +kernel
theorem dX13_name_30 : decode cX13_name 30 = .ok (.aload_n 0, 1) := by decide +kernel
theorem dX13_name_31 : decode cX13_name 31 = .ok (.invokevirtual 311, 3) := by decide +kernel
theorem dX13_name_34 : decode cX13_name 34 = .ok (.ifCond .eq 14, 3) := by decide +kernel
theorem dX13_name_37 : decode cX13_name 37 = .ok (.aload_n 0, 1) := by decide +kernel
theorem dX13_name_38 : decode cX13_name 38 = .ok (.iconst 1, 1) := by decide +kernel
theorem dX13_name_39 : decode cX13_name 39 = .ok (.aload_n 0, 1) := by decide +kernel
theorem dX13_name_40 : decode cX13_name 40 = .ok (.getfield 270, 3) := by decide +kernel
theorem dX13_name_43 : decode cX13_name 43 = .ok (.invokevirtual 294, 3) := by decide +kernel
theorem dX13_name_46 : decode cX13_name 46 = .ok (.lconst 0, 1) := by decide +kernel
theorem dX13_name_47 : decode cX13_name 47 = .ok (.lreturn, 1) := by decide +kernel
theorem dX13_name_48 : decode cX13_name 48 = .ok (.aload_n 0, 1) := by decide +kernel
theorem dX13_name_49 : decode cX13_name 49 = .ok (.aload_n 0, 1) := by decide +kernel
theorem dX13_name_50 : decode cX13_name 50 = .ok (.getfield 270, 3) := by decide +kernel
theorem dX13_name_53 : decode cX13_name 53 = .ok (.putfield 315, 3) := by decide +kernel
theorem dX13_name_56 : decode cX13_name 56 = .ok (.lconst 0, 1) := by decide +kernel
theorem dX13_name_57 : decode cX13_name 57 = .ok (.lstore_n 1, 1) := by decide +kernel
theorem dX13_name_58 : decode cX13_name 58 = .ok (.aload_n 0, 1) := by decide +kernel
theorem dX13_name_59 : decode cX13_name 59 = .ok (.getfield 270, 3) := by decide +kernel
theorem dX13_name_62 : decode cX13_name 62 = .ok (.aload_n 0, 1) := by decide +kernel
theorem dX13_name_63 : decode cX13_name 63 = .ok (.getfield 273, 3) := by decide +kernel
theorem dX13_name_66 : decode cX13_name 66 = .ok (.if_icmp .ge 79, 3) := by decide +kernel
theorem dX13_name_69 : decode cX13_name 69 = .ok (.aload_n 0, 1) := by decide +kernel
theorem dX13_name_70 : decode cX13_name 70 = .ok (.getfield 7, 3) := by decide +kernel
theorem dX13_name_73 : decode cX13_name 73 = .ok (.aload_n 0, 1) := by decide +kernel
theorem dX13_name_74 : decode cX13_name 74 = .ok (.getfield 270, 3) := by decide +kernel
theorem dX13_name_77 : decode cX13_name 77 = .ok (.iaload, 1) := by decide +kernel
theorem dX13_name_78 : decode cX13_name 78 = .ok (.invokestatic 280, 3) := by decide +kernel
theorem dX13_name_81 : decode cX13_name 81 = .ok (.ifCond .eq 64, 3) := by decide +kernel
theorem dX13_name_84 : decode cX13_name 84 = .ok (.aload_n 0, 1) := by decide +kernel
theorem dX13_name_85 : decode cX13_name 85 = .ok (.getfield 270, 3) := by decide +kernel
theorem dX13_name_88 : decode cX13_name 88 = .ok (.aload_n 0, 1) := by decide +kernel
theorem dX13_name_89 : decode cX13_name 89 = .ok (.getfield 315, 3) := by decide +kernel
theorem dX13_name_92 : decode cX13_name 92 = .ok (.isub, 1) := by decide +kernel
theorem dX13_name_93 : decode cX13_name 93 = .ok (.bipush 6, 2) := by decide +kernel
theorem dX13_name_95 : decode cX13_name 95 = .ok (.if_icmp .ne 14, 3) := by decide +kernel
theorem dX13_name_98 : decode cX13_name 98 = .ok (.aload_n 0, 1) := by decide +kernel
theorem dX13_name_99 : decode cX13_name 99 = .ok (.iconst 1, 1) := by decide +kernel
theorem dX13_name_100 : decode cX13_name 100 = .ok (.aload_n 0, 1) := by decide +kernel
theorem dX13_name_101 : decode cX13_name 101 = .ok (.getfield 270, 3) := by decide +kernel
theorem dX13_name_104 : decode cX13_name 104 = .ok (.invokevirtual 294, 3) := by decide +kernel
theorem dX13_name_107 : decode cX13_name 107 = .ok (.lconst 0, 1) := by decide +kernel
theorem dX13_name_108 : decode cX13_name 108 = .ok (.lreturn, 1) := by decide +kernel
theorem dX13_name_109 : decode cX13_name 109 = .ok (.ldc2_w 318, 3) := by decide +kernel
theorem dX13_name_112 : decode cX13_name 112 = .ok (.lload_n 1, 1) := by decide +kernel
theorem dX13_name_113 : decode cX13_name 113 = .ok (.lmul, 1) := by decide +kernel
theorem dX13_name_114 : decode cX13_name 114 = .ok (.aload_n 0, 1) := by decide +kernel
theorem dX13_name_115 : decode cX13_name 115 = .ok (.getfield 7, 3) := by decide +kernel
theorem dX13_name_118 : decode cX13_name 118 = .ok (.aload_n 0, 1) := by decide +kernel
theorem dX13_name_119 : decode cX13_name 119 = .ok (.getfield 270, 3) := by decide +kernel
theorem dX13_name_122 : decode cX13_name 122 = .ok (.iaload, 1) := by decide +kernel
theorem dX13_name_123 : decode cX13_name 123 = .ok (.i2l, 1) := by decide +kernel
theorem dX13_name_124 : decode cX13_name 124 = .ok (.ladd, 1) := by decide +kernel
theorem dX13_name_125 : decode cX13_name 125 = .ok (.ldc2_w 320, 3) := by decide +kernel
theorem dX13_name_128 : decode cX13_name 128 = .ok (.lsub, 1) := by decide +kernel
theorem dX13_name_129 : decode cX13_name 129 = .ok (.lconst 1, 1) := by decide +kernel
theorem dX13_name_130 : decode cX13_name 130 = .ok (.ladd, 1) := by decide +kernel
theorem dX13_name_131 : decode cX13_name 131 = .ok (.lstore_n 1, 1) := by decide +kernel
theorem dX13_name_132 : decode cX13_name 132 = .ok (.aload_n 0, 1) := by decide +kernel
theorem dX13_name_133 : decode cX13_name 133 = .ok (.dup, 1) := by decide +kernel
theorem dX13_name_134 : decode cX13_name 134 = .ok (.getfield 270, 3) := by decide +kernel
theorem dX13_name_137 : decode cX13_name 137 = .ok (.iconst 1, 1) := by decide +kernel
theorem dX13_name_138 : decode cX13_name 138 = .ok (.iadd, 1) := by decide +kernel
theorem dX13_name_139 : decode cX13_name 139 = .ok (.putfield 270, 3) := by decide +kernel
theorem dX13_name_142 : decode cX13_name 142 = .ok (.goto (-84), 3) := by decide +kernel
theorem dX13_name_145 : decode cX13_name 145 = .ok (.aload_n 0, 1) := by decide +kernel
theorem dX13_name_146 : decode cX13_name 146 = .ok (.aload_n 0, 1) := by decide +kernel
theorem dX13_name_147 : decode cX13_name 147 = .ok (.getfield 270, 3) := by decide +kernel
theorem dX13_name_150 : decode cX13_name 150 = .ok (.putfield 284, 3) := by decide +kernel
theorem dX13_name_153 : decode cX13_name 153 = .ok (.lload_n 1, 1) := by decide +kernel
theorem dX13_name_154 : decode cX13_name 154 = .ok (.lreturn, 1) := by decide +kernel
theorem dX13_isAllowed_0 : decode cX13_isAllowed 0 = .ok (.aload_n 0, 1) := by decide +kernel
theorem dX13_isAllowed_1 : decode cX13_isAllowed 1 = .ok (.getfield 322, 3) := by decide +kernel
theorem dX13_isAllowed_4 : decode cX13_isAllowed 4 = .ok (.ifCond .ne 16, 3) := by decide +kernel
theorem dX13_isAllowed_7 : decode cX13_isAllowed 7 = .ok (.iload_n 1, 1) := by decide +kernel
theorem dX13_isAllowed_8 : decode cX13_isAllowed 8 = .ok (.iconst 4, 1) := by decide +kernel
theorem dX13_isAllowed_9 : decode cX13_isAllowed 9 = .ok (.if_icmp .ge 7, 3) := by decide +kernel
theorem dX13_isAllowed_12 : decode cX13_isAllowed 12 = .ok (.iconst 1, 1) := by decide +kernel
theorem dX13_isAllowed_13 : decode cX13_isAllowed 13 = .ok (.goto 43, 3) := by decide +kernel
theorem dX13_isAllowed_16 : decode cX13_isAllowed 16 = .ok (.iconst 0, 1) := by decide +kernel
theorem dX13_isAllowed_17 : decode cX13_isAllowed 17 = .ok (.goto 39, 3) := by decide +kernel
theorem dX13_isAllowed_20 : decode cX13_isAllowed 20 = .ok (.aload_n 0, 1) := by decide +kernel
theorem dX13_isAllowed_21 : decode cX13_isAllowed 21 = .ok (.getfield 322, 3) := by decide +kernel
theorem dX13_isAllowed_24 : decode cX13_isAllowed 24 = .ok (.iconst 1, 1) := by decide +kernel
theorem dX13_isAllowed_25 : decode cX13_isAllowed 25 = .ok (.if_icmp .ne 30, 3) := by decide +kernel
theorem dX13_isAllowed_28 : decode cX13_isAllowed 28 = .ok (.iload_n 1, 1) := by decide +kernel
theorem dX13_isAllowed_29 : decode cX13_isAllowed 29 = .ok (.iconst 2, 1) := by decide +kernel
theorem dX13_isAllowed_30 : decode cX13_isAllowed 30 = .ok (.if_icmp .lt 17, 3) := by decide +kernel
theorem dX13_isAllowed_33 : decode cX13_isAllowed 33 = .ok (.iload_n 1, 1) := by decide +kernel
theorem dX13_isAllowed_34 : decode cX13_isAllowed 34 = .ok (.i2l, 1) := by decide +kernel
theorem dX13_isAllowed_35 : decode cX13_isAllowed 35 = .ok (.ldc2_w 325, 3) := by decide +kernel
theorem dX13_isAllowed_38 : decode cX13_isAllowed 38 = .ok (.ldc2_w 327, 3) := by decide +kernel
theorem dX13_isAllowed_41 : decode cX13_isAllowed 41 = .ok (.invokestatic 307, 3) := by decide +kernel
theorem dX13_isAllowed_44 : decode cX13_isAllowed 44 = .ok (.ifCond .eq 7, 3) := by decide +kernel
theorem dX13_isAllowed_47 : decode cX13_isAllowed 47 = .ok (.iconst 1, 1) := by decide +kernel
theorem dX13_isAllowed_48 : decode cX13_isAllowed 48 = .ok (.goto 8, 3) := by decide +kernel
theorem dX13_isAllowed_51 : decode cX13_isAllowed 51 = .ok (.iconst 0, 1) := by decide +kernel
theorem dX13_isAllowed_52 : decode cX13_isAllowed 52 = .ok (.goto 4, 3) := by decide +kernel
theorem dX13_isAllowed_55 : decode cX13_isAllowed 55 = .ok (.iconst 1, 1) := by decide +kernel
theorem dX13_isAllowed_56 : decode cX13_isAllowed 56 = .ok (.ireturn, 1) := by decide +kernel
theorem dX13_isFull_0 : decode cX13_isFull 0 = .ok (.aload_n 0, 1) := by decide +kernel
theorem dX13_isFull_1 : decode cX13_isFull 1 = .ok (.getfield 264, 3) := by decide +kernel
theorem dX13_isFull_4 : decode cX13_isFull 4 = .ok (.ifCond .ne 19, 3) := by decide +kernel
theorem dX13_isFull_7 : decode cX13_isFull 7 = .ok (.aload_n 0, 1) := by decide +kernel
theorem dX13_isFull_8 : decode cX13_isFull 8 = .ok (.getfield 123, 3) := by decide +kernel
theorem dX13_isFull_11 : decode cX13_isFull 11 = .ok (.iload_n 1, 1) := by decide +kernel
theorem dX13_isFull_12 : decode cX13_isFull 12 = .ok (.iaload, 1) := by decide +kernel
theorem dX13_isFull_13 : decode cX13_isFull 13 = .ok (.iload_n 2, 1) := by decide +kernel
theorem dX13_isFull_14 : decode cX13_isFull 14 = .ok (.if_icmp .ne 9, 3) := by decide +kernel
theorem dX13_isFull_17 : decode cX13_isFull 17 = .ok (.aload_n 0, 1) := by decide +kernel
theorem dX13_isFull_18 : decode cX13_isFull 18 = .ok (.iconst 5, 1) := by decide +kernel
theorem dX13_isFull_19 : decode cX13_isFull 19 = .ok (.iload_n 3, 1) := by decide +kernel
theorem dX13_isFull_20 : decode cX13_isFull 20 = .ok (.invokevirtual 294, 3) := by decide +kernel
theorem dX13_isFull_23 : decode cX13_isFull 23 = .ok (.aload_n 0, 1) := by decide +kernel
theorem dX13_isFull_24 : decode cX13_isFull 24 = .ok (.getfield 264, 3) := by decide +kernel
theorem dX13_isFull_27 : decode cX13_isFull 27 = .ok (.ifCond .eq 7, 3) := by decide +kernel
theorem dX13_isFull_30 : decode cX13_isFull 30 = .ok (.iconst 1, 1) := by decide +kernel
theorem dX13_isFull_31 : decode cX13_isFull 31 = .ok (.goto 4, 3) := by decide +kernel
theorem dX13_isFull_34 : decode cX13_isFull 34 = .ok (.iconst 0, 1) := by decide +kernel
theorem dX13_isFull_35 : decode cX13_isFull 35 = .ok (.ireturn, 1) := by decide +kernel
theorem dX13_newName_0 : decode cX13_newName 0 = .ok (.aload_n 0, 1) := by decide +kernel
theorem dX13_newName_1 : decode cX13_newName 1 = .ok (.invokevirtual 329, 3) := by decide +kernel
theorem dX13_newName_4 : decode cX13_newName 4 = .ok (.lstore_n 1, 1) := by decide +kernel
theorem dX13_newName_5 : decode cX13_newName 5 = .ok (.iconst 0, 1) := by decide +kernel
theorem dX13_newName_6 : decode cX13_newName 6 = .ok (.istore_n 3, 1) := by decide +kernel
theorem dX13_newName_7 : decode cX13_newName 7 = .ok (.iload_n 3, 1) := by decide +kernel
theorem dX13_newName_8 : decode cX13_newName 8 = .ok (.iconst 2, 1) := by decide +kernel
theorem dX13_newName_9 : decode cX13_newName 9 = .ok (.if_icmp .ge 62, 3) := by decide +kernel
theorem dX13_newName_12 : decode cX13_newName 12 = .ok (.iconst 0, 1) := by decide +kernel
theorem dX13_newName_13 : decode cX13_newName 13 = .ok (.istore 4, 2) := by decide +kernel
theorem dX13_newName_15 : decode cX13_newName 15 = .ok (.iload 4, 2) := by decide +kernel
theorem dX13_newName_17 : decode cX13_newName 17 = .ok (.aload_n 0, 1) := by decide +kernel
theorem dX13_newName_18 : decode cX13_newName 18 = .ok (.getfield 123, 3) := by decide +kernel
theorem dX13_newName_21 : decode cX13_newName 21 = .ok (.iload_n 3, 1) := by decide +kernel
theorem dX13_newName_22 : decode cX13_newName 22 = .ok (.iaload, 1) := by decide +kernel
theorem dX13_newName_23 : decode cX13_newName 23 = .ok (.if_icmp .ge 42, 3) := by decide +kernel
theorem dX13_newName_26 : decode cX13_newName 26 = .ok (.aload_n 0, 1) := by decide +kernel
theorem dX13_newName_27 : decode cX13_newName 27 = .ok (.getfield 264, 3) := by decide +kernel
theorem dX13_newName_30 : decode cX13_newName 30 = .ok (.ifCond .ne 29, 3) := by decide +kernel
theorem dX13_newName_33 : decode cX13_newName 33 = .ok (.aload_n 0, 1) := by decide +kernel
theorem dX13_newName_34 : decode cX13_newName 34 = .ok (.getfield 126, 3) := by decide +kernel
theorem dX13_newName_37 : decode cX13_newName 37 = .ok (.bipush 6, 2) := by decide +kernel
theorem dX13_newName_39 : decode cX13_newName 39 = .ok (.iload_n 3, 1) := by decide +kernel
theorem dX13_newName_40 : decode cX13_newName 40 = .ok (.imul, 1) := by decide +kernel
theorem dX13_newName_41 : decode cX13_newName 41 = .ok (.iload 4, 2) := by decide +kernel
theorem dX13_newName_43 : decode cX13_newName 43 = .ok (.iadd, 1) := by decide +kernel
theorem dX13_newName_44 : decode cX13_newName 44 = .ok (.laload, 1) := by decide +kernel
theorem dX13_newName_45 : decode cX13_newName 45 = .ok (.lload_n 1, 1) := by decide +kernel
theorem dX13_newName_46 : decode cX13_newName 46 = .ok (.lcmp, 1) := by decide +kernel
theorem dX13_newName_47 : decode cX13_newName 47 = .ok (.ifCond .ne 12, 3) := by decide +kernel
theorem dX13_newName_50 : decode cX13_newName 50 = .ok (.aload_n 0, 1) := by decide +kernel
theorem dX13_newName_51 : decode cX13_newName 51 = .ok (.iconst 3, 1) := by decide +kernel
theorem dX13_newName_52 : decode cX13_newName 52 = .ok (.aload_n 0, 1) := by decide +kernel
theorem dX13_newName_53 : decode cX13_newName 53 = .ok (.getfield 315, 3) := by decide +kernel
theorem dX13_newName_56 : decode cX13_newName 56 = .ok (.invokevirtual 294, 3) := by decide +kernel
theorem dX13_newName_59 : decode cX13_newName 59 = .ok (.iinc 4 1, 3) := by decide +kernel
theorem dX13_newName_62 : decode cX13_newName 62 = .ok (.goto (-47), 3) := by decide +kernel
theorem dX13_newName_65 : decode cX13_newName 65 = .ok (.iinc 3 1, 3) := by decide +kernel
theorem dX13_newName_68 : decode cX13_newName 68 = .ok (.goto (-61), 3) := by decide +kernel
theorem dX13_newName_71 : decode cX13_newName 71 = .ok (.lload_n 1, 1) := by decide +kernel
theorem dX13_newName_72 : decode cX13_newName 72 = .ok (.lreturn, 1) := by decide +kernel
theorem dX13_cellTold_0 : decode cX13_cellTold 0 = .ok (.aload_n 0, 1) := by decide +kernel
theorem dX13_cellTold_1 : decode cX13_cellTold 1 = .ok (.iconst 0, 1) := by decide +kernel
theorem dX13_cellTold_2 : decode cX13_cellTold 2 = .ok (.aload_n 0, 1) := by decide +kernel
theorem dX13_cellTold_3 : decode cX13_cellTold 3 = .ok (.getfield 120, 3) := by decide +kernel
theorem dX13_cellTold_6 : decode cX13_cellTold 6 = .ok (.iconst 0, 1) := by decide +kernel
theorem dX13_cellTold_7 : decode cX13_cellTold 7 = .ok (.iaload, 1) := by decide +kernel
theorem dX13_cellTold_8 : decode cX13_cellTold 8 = .ok (.iconst 1, 1) := by decide +kernel
theorem dX13_cellTold_9 : decode cX13_cellTold 9 = .ok (.isub, 1) := by decide +kernel
theorem dX13_cellTold_10 : decode cX13_cellTold 10 = .ok (.invokevirtual 333, 3) := by decide +kernel
theorem dX13_cellTold_13 : decode cX13_cellTold 13 = .ok (.istore_n 1, 1) := by decide +kernel
theorem dX13_cellTold_14 : decode cX13_cellTold 14 = .ok (.aload_n 0, 1) := by decide +kernel
theorem dX13_cellTold_15 : decode cX13_cellTold 15 = .ok (.iconst 0, 1) := by decide +kernel
theorem dX13_cellTold_16 : decode cX13_cellTold 16 = .ok (.aload_n 0, 1) := by decide +kernel
theorem dX13_cellTold_17 : decode cX13_cellTold 17 = .ok (.getfield 120, 3) := by decide +kernel
theorem dX13_cellTold_20 : decode cX13_cellTold 20 = .ok (.iconst 1, 1) := by decide +kernel
theorem dX13_cellTold_21 : decode cX13_cellTold 21 = .ok (.iaload, 1) := by decide +kernel
theorem dX13_cellTold_22 : decode cX13_cellTold 22 = .ok (.iconst 1, 1) := by decide +kernel
theorem dX13_cellTold_23 : decode cX13_cellTold 23 = .ok (.isub, 1) := by decide +kernel
theorem dX13_cellTold_24 : decode cX13_cellTold 24 = .ok (.invokevirtual 333, 3) := by decide +kernel
theorem dX13_cellTold_27 : decode cX13_cellTold 27 = .ok (.istore_n 2, 1) := by decide +kernel
theorem dX13_cellTold_28 : decode cX13_cellTold 28 = .ok (.aload_n 0, 1) := by decide +kernel
theorem dX13_cellTold_29 : decode cX13_cellTold 29 = .ok (.getfield 264, 3) := by decide +kernel
theorem dX13_cellTold_32 : decode cX13_cellTold 32 = .ok (.ifCond .ne 12, 3) := by decide +kernel
theorem dX13_cellTold_35 : decode cX13_cellTold 35 = .ok (.iload_n 1, 1) := by decide +kernel
theorem dX13_cellTold_36 : decode cX13_cellTold 36 = .ok (.bipush 7, 2) := by decide +kernel
theorem dX13_cellTold_38 : decode cX13_cellTold 38 = .ok (.iload_n 2, 1) := by decide +kernel
theorem dX13_cellTold_39 : decode cX13_cellTold 39 = .ok (.imul, 1) := by decide +kernel
theorem dX13_cellTold_40 : decode cX13_cellTold 40 = .ok (.iadd, 1) := by decide +kernel
theorem dX13_cellTold_41 : decode cX13_cellTold 41 = .ok (.goto 4, 3) := by decide +kernel
theorem dX13_cellTold_44 : decode cX13_cellTold 44 = .ok (.iconst 0, 1) := by decide +kernel
theorem dX13_cellTold_45 : decode cX13_cellTold 45 = .ok (.ireturn, 1) := by decide +kernel
theorem dX13_landTold_0 : decode cX13_landTold 0 = .ok (.aload_n 0, 1) := by decide +kernel
theorem dX13_landTold_1 : decode cX13_landTold 1 = .ok (.aload_n 0, 1) := by decide +kernel
theorem dX13_landTold_2 : decode cX13_landTold 2 = .ok (.getfield 20, 3) := by decide +kernel
theorem dX13_landTold_5 : decode cX13_landTold 5 = .ok (.invokevirtual 337, 3) := by decide +kernel
theorem dX13_landTold_8 : decode cX13_landTold 8 = .ok (.aload_n 0, 1) := by decide +kernel
theorem dX13_landTold_9 : decode cX13_landTold 9 = .ok (.getfield 120, 3) := by decide +kernel
theorem dX13_landTold_12 : decode cX13_landTold 12 = .ok (.iconst 0, 1) := by decide +kernel
theorem dX13_landTold_13 : decode cX13_landTold 13 = .ok (.aload_n 0, 1) := by decide +kernel
theorem dX13_landTold_14 : decode cX13_landTold 14 = .ok (.iconst 2, 1) := by decide +kernel
theorem dX13_landTold_15 : decode cX13_landTold 15 = .ok (.bipush 7, 2) := by decide +kernel
theorem dX13_landTold_17 : decode cX13_landTold 17 = .ok (.invokevirtual 333, 3) := by decide +kernel
theorem dX13_landTold_20 : decode cX13_landTold 20 = .ok (.iastore, 1) := by decide +kernel
theorem dX13_landTold_21 : decode cX13_landTold 21 = .ok (.aload_n 0, 1) := by decide +kernel
theorem dX13_landTold_22 : decode cX13_landTold 22 = .ok (.aload_n 0, 1) := by decide +kernel
theorem dX13_landTold_23 : decode cX13_landTold 23 = .ok (.getfield 24, 3) := by decide +kernel
theorem dX13_landTold_26 : decode cX13_landTold 26 = .ok (.invokevirtual 337, 3) := by decide +kernel
theorem dX13_landTold_29 : decode cX13_landTold 29 = .ok (.aload_n 0, 1) := by decide +kernel
theorem dX13_landTold_30 : decode cX13_landTold 30 = .ok (.getfield 120, 3) := by decide +kernel
theorem dX13_landTold_33 : decode cX13_landTold 33 = .ok (.iconst 1, 1) := by decide +kernel
theorem dX13_landTold_34 : decode cX13_landTold 34 = .ok (.aload_n 0, 1) := by decide +kernel
theorem dX13_landTold_35 : decode cX13_landTold 35 = .ok (.iconst 2, 1) := by decide +kernel
theorem dX13_landTold_36 : decode cX13_landTold 36 = .ok (.bipush 7, 2) := by decide +kernel
theorem dX13_landTold_38 : decode cX13_landTold 38 = .ok (.invokevirtual 333, 3) := by decide +kernel
theorem dX13_landTold_41 : decode cX13_landTold 41 = .ok (.iastore, 1) := by decide +kernel
theorem dX13_landTold_42 : decode cX13_landTold 42 = .ok (.aload_n 0, 1) := by decide +kernel
theorem dX13_landTold_43 : decode cX13_landTold 43 = .ok (.aload_n 0, 1) := by decide +kernel
theorem dX13_landTold_44 : decode cX13_landTold 44 = .ok (.getfield 27, 3) := by decide +kernel
theorem dX13_landTold_47 : decode cX13_landTold 47 = .ok (.invokevirtual 337, 3) := by decide +kernel
theorem dX13_landTold_50 : decode cX13_landTold 50 = .ok (.aload_n 0, 1) := by decide +kernel
theorem dX13_landTold_51 : decode cX13_landTold 51 = .ok (.getfield 120, 3) := by decide +kernel
theorem dX13_landTold_54 : decode cX13_landTold 54 = .ok (.iconst 2, 1) := by decide +kernel
theorem dX13_landTold_55 : decode cX13_landTold 55 = .ok (.aload_n 0, 1) := by decide +kernel
theorem dX13_landTold_56 : decode cX13_landTold 56 = .ok (.invokevirtual 341, 3) := by decide +kernel
theorem dX13_landTold_59 : decode cX13_landTold 59 = .ok (.iastore, 1) := by decide +kernel
theorem dX13_landTold_60 : decode cX13_landTold 60 = .ok (.aload_n 0, 1) := by decide +kernel
theorem dX13_landTold_61 : decode cX13_landTold 61 = .ok (.bipush 59, 2) := by decide +kernel
theorem dX13_landTold_63 : decode cX13_landTold 63 = .ok (.invokevirtual 344, 3) := by decide +kernel
theorem dX13_landTold_66 : decode cX13_landTold 66 = .ok (.return_, 1) := by decide +kernel
theorem dX13_chapelTold_0 : decode cX13_chapelTold 0 = .ok (.aload_n 0, 1) := by decide +kernel
theorem dX13_chapelTold_1 : decode cX13_chapelTold 1 = .ok (.iconst 2, 1) := by decide +kernel
theorem dX13_chapelTold_2 : decode cX13_chapelTold 2 = .ok (.bipush 10, 2) := by decide +kernel
theorem dX13_chapelTold_4 : decode cX13_chapelTold 4 = .ok (.iload_n 1, 1) := by decide +kernel
theorem dX13_chapelTold_5 : decode cX13_chapelTold 5 = .ok (.invokevirtual 348, 3) := by decide +kernel
theorem dX13_chapelTold_8 : decode cX13_chapelTold 8 = .ok (.ifCond .eq 4, 3) := by decide +kernel
theorem dX13_chapelTold_11 : decode cX13_chapelTold 11 = .ok (.return_, 1) := by decide +kernel
theorem dX13_chapelTold_12 : decode cX13_chapelTold 12 = .ok (.aload_n 0, 1) := by decide +kernel
theorem dX13_chapelTold_13 : decode cX13_chapelTold 13 = .ok (.invokevirtual 341, 3) := by decide +kernel
theorem dX13_chapelTold_16 : decode cX13_chapelTold 16 = .ok (.istore_n 2, 1) := by decide +kernel
theorem dX13_chapelTold_17 : decode cX13_chapelTold 17 = .ok (.iconst 0, 1) := by decide +kernel
theorem dX13_chapelTold_18 : decode cX13_chapelTold 18 = .ok (.istore_n 3, 1) := by decide +kernel
theorem dX13_chapelTold_19 : decode cX13_chapelTold 19 = .ok (.iload_n 3, 1) := by decide +kernel
theorem dX13_chapelTold_20 : decode cX13_chapelTold 20 = .ok (.aload_n 0, 1) := by decide +kernel
theorem dX13_chapelTold_21 : decode cX13_chapelTold 21 = .ok (.getfield 123, 3) := by decide +kernel
theorem dX13_chapelTold_24 : decode cX13_chapelTold 24 = .ok (.iconst 2, 1) := by decide +kernel
theorem dX13_chapelTold_25 : decode cX13_chapelTold 25 = .ok (.iaload, 1) := by decide +kernel
theorem dX13_chapelTold_26 : decode cX13_chapelTold 26 = .ok (.if_icmp .ge 35, 3) := by decide +kernel
theorem dX13_chapelTold_29 : decode cX13_chapelTold 29 = .ok (.aload_n 0, 1) := by decide +kernel
theorem dX13_chapelTold_30 : decode cX13_chapelTold 30 = .ok (.getfield 264, 3) := by decide +kernel
theorem dX13_chapelTold_33 : decode cX13_chapelTold 33 = .ok (.ifCond .ne 22, 3) := by decide +kernel
theorem dX13_chapelTold_36 : decode cX13_chapelTold 36 = .ok (.aload_n 0, 1) := by decide +kernel
theorem dX13_chapelTold_37 : decode cX13_chapelTold 37 = .ok (.getfield 130, 3) := by decide +kernel
theorem dX13_chapelTold_40 : decode cX13_chapelTold 40 = .ok (.iload_n 3, 1) := by decide +kernel
theorem dX13_chapelTold_41 : decode cX13_chapelTold 41 = .ok (.iaload, 1) := by decide +kernel
theorem dX13_chapelTold_42 : decode cX13_chapelTold 42 = .ok (.iload_n 2, 1) := by decide +kernel
theorem dX13_chapelTold_43 : decode cX13_chapelTold 43 = .ok (.if_icmp .ne 12, 3) := by decide +kernel
theorem dX13_chapelTold_46 : decode cX13_chapelTold 46 = .ok (.aload_n 0, 1) := by decide +kernel
theorem dX13_chapelTold_47 : decode cX13_chapelTold 47 = .ok (.iconst 2, 1) := by decide +kernel
theorem dX13_chapelTold_48 : decode cX13_chapelTold 48 = .ok (.aload_n 0, 1) := by decide +kernel
theorem dX13_chapelTold_49 : decode cX13_chapelTold 49 = .ok (.getfield 304, 3) := by decide +kernel
theorem dX13_chapelTold_52 : decode cX13_chapelTold 52 = .ok (.invokevirtual 294, 3) := by decide +kernel
theorem dX13_chapelTold_55 : decode cX13_chapelTold 55 = .ok (.iinc 3 1, 3) := by decide +kernel
theorem dX13_chapelTold_58 : decode cX13_chapelTold 58 = .ok (.goto (-39), 3) := by decide +kernel
theorem dX13_chapelTold_61 : decode cX13_chapelTold 61 = .ok (.aload_n 0, 1) := by decide +kernel
theorem dX13_chapelTold_62 : decode cX13_chapelTold 62 = .ok (.getfield 264, 3) := by decide +kernel
theorem dX13_chapelTold_65 : decode cX13_chapelTold 65 = .ok (.ifCond .ne 22, 3) := by decide +kernel
theorem dX13_chapelTold_68 : decode cX13_chapelTold 68 = .ok (.iload_n 2, 1) := by decide +kernel
theorem dX13_chapelTold_69 : decode cX13_chapelTold 69 = .ok (.aload_n 0, 1) := by decide +kernel
theorem dX13_chapelTold_70 : decode cX13_chapelTold 70 = .ok (.getfield 120, 3) := by decide +kernel
theorem dX13_chapelTold_73 : decode cX13_chapelTold 73 = .ok (.iconst 2, 1) := by decide +kernel
theorem dX13_chapelTold_74 : decode cX13_chapelTold 74 = .ok (.iaload, 1) := by decide +kernel
theorem dX13_chapelTold_75 : decode cX13_chapelTold 75 = .ok (.if_icmp .ne 12, 3) := by decide +kernel
theorem dX13_chapelTold_78 : decode cX13_chapelTold 78 = .ok (.aload_n 0, 1) := by decide +kernel
theorem dX13_chapelTold_79 : decode cX13_chapelTold 79 = .ok (.iconst 2, 1) := by decide +kernel
theorem dX13_chapelTold_80 : decode cX13_chapelTold 80 = .ok (.aload_n 0, 1) := by decide +kernel
theorem dX13_chapelTold_81 : decode cX13_chapelTold 81 = .ok (.getfield 304, 3) := by decide +kernel
theorem dX13_chapelTold_84 : decode cX13_chapelTold 84 = .ok (.invokevirtual 294, 3) := by decide +kernel
theorem dX13_chapelTold_87 : decode cX13_chapelTold 87 = .ok (.aload_n 0, 1) := by decide +kernel
theorem dX13_chapelTold_88 : decode cX13_chapelTold 88 = .ok (.getfield 264, 3) := by decide +kernel
theorem dX13_chapelTold_91 : decode cX13_chapelTold 91 = .ok (.ifCond .eq 4, 3) := by decide +kernel
theorem dX13_chapelTold_94 : decode cX13_chapelTold 94 = .ok (.return_, 1) := by decide +kernel
theorem dX13_chapelTold_95 : decode cX13_chapelTold 95 = .ok (.aload_n 0, 1) := by decide +kernel
theorem dX13_chapelTold_96 : decode cX13_chapelTold 96 = .ok (.getfield 130, 3) := by decide +kernel
theorem dX13_chapelTold_99 : decode cX13_chapelTold 99 = .ok (.aload_n 0, 1) := by decide +kernel
theorem dX13_chapelTold_100 : decode cX13_chapelTold 100 = .ok (.getfield 123, 3) := by decide +kernel
theorem dX13_chapelTold_103 : decode cX13_chapelTold 103 = .ok (.iconst 2, 1) := by decide +kernel
theorem dX13_chapelTold_104 : decode cX13_chapelTold 104 = .ok (.iaload, 1) := by decide +kernel
theorem dX13_chapelTold_105 : decode cX13_chapelTold 105 = .ok (.iload_n 2, 1) := by decide +kernel
theorem dX13_chapelTold_106 : decode cX13_chapelTold 106 = .ok (.iastore, 1) := by decide +kernel
theorem dX13_chapelTold_107 : decode cX13_chapelTold 107 = .ok (.aload_n 0, 1) := by decide +kernel
theorem dX13_chapelTold_108 : decode cX13_chapelTold 108 = .ok (.getfield 123, 3) := by decide +kernel
theorem dX13_chapelTold_111 : decode cX13_chapelTold 111 = .ok (.iconst 2, 1) := by decide +kernel
theorem dX13_chapelTold_112 : decode cX13_chapelTold 112 = .ok (.dup2, 1) := by decide +kernel
theorem dX13_chapelTold_113 : decode cX13_chapelTold 113 = .ok (.iaload, 1) := by decide +kernel
theorem dX13_chapelTold_114 : decode cX13_chapelTold 114 = .ok (.iconst 1, 1) := by decide +kernel
theorem dX13_chapelTold_115 : decode cX13_chapelTold 115 = .ok (.iadd, 1) := by decide +kernel
theorem dX13_chapelTold_116 : decode cX13_chapelTold 116 = .ok (.iastore, 1) := by decide +kernel
theorem dX13_chapelTold_117 : decode cX13_chapelTold 117 = .ok (.return_, 1) := by decide +kernel
theorem dX13_bellTold_0 : decode cX13_bellTold 0 = .ok (.aload_n 0, 1) := by decide +kernel
theorem dX13_bellTold_1 : decode cX13_bellTold 1 = .ok (.iconst 0, 1) := by decide +kernel
theorem dX13_bellTold_2 : decode cX13_bellTold 2 = .ok (.iconst 5, 1) := by decide +kernel
theorem dX13_bellTold_3 : decode cX13_bellTold 3 = .ok (.iload_n 1, 1) := by decide +kernel
theorem dX13_bellTold_4 : decode cX13_bellTold 4 = .ok (.invokevirtual 348, 3) := by decide +kernel
theorem dX13_bellTold_7 : decode cX13_bellTold 7 = .ok (.ifCond .eq 4, 3) := by decide +kernel
theorem dX13_bellTold_10 : decode cX13_bellTold 10 = .ok (.return_, 1) := by decide +kernel
theorem dX13_bellTold_11 : decode cX13_bellTold 11 = .ok (.aload_n 0, 1) := by decide +kernel
theorem dX13_bellTold_12 : decode cX13_bellTold 12 = .ok (.invokevirtual 352, 3) := by decide +kernel
theorem dX13_bellTold_15 : decode cX13_bellTold 15 = .ok (.lstore_n 2, 1) := by decide +kernel
theorem dX13_bellTold_16 : decode cX13_bellTold 16 = .ok (.aload_n 0, 1) := by decide +kernel
theorem dX13_bellTold_17 : decode cX13_bellTold 17 = .ok (.aload_n 0, 1) := by decide +kernel
theorem dX13_bellTold_18 : decode cX13_bellTold 18 = .ok (.getfield 36, 3) := by decide +kernel
theorem dX13_bellTold_21 : decode cX13_bellTold 21 = .ok (.invokevirtual 337, 3) := by decide +kernel
theorem dX13_bellTold_24 : decode cX13_bellTold 24 = .ok (.aload_n 0, 1) := by decide +kernel
theorem dX13_bellTold_25 : decode cX13_bellTold 25 = .ok (.invokevirtual 341, 3) := by decide +kernel
theorem dX13_bellTold_28 : decode cX13_bellTold 28 = .ok (.istore 4, 2) := by decide +kernel
theorem dX13_bellTold_30 : decode cX13_bellTold 30 = .ok (.aload_n 0, 1) := by decide +kernel
theorem dX13_bellTold_31 : decode cX13_bellTold 31 = .ok (.aload_n 0, 1) := by decide +kernel
theorem dX13_bellTold_32 : decode cX13_bellTold 32 = .ok (.getfield 39, 3) := by decide +kernel
theorem dX13_bellTold_35 : decode cX13_bellTold 35 = .ok (.invokevirtual 337, 3) := by decide +kernel
theorem dX13_bellTold_38 : decode cX13_bellTold 38 = .ok (.aload_n 0, 1) := by decide +kernel
theorem dX13_bellTold_39 : decode cX13_bellTold 39 = .ok (.iconst 0, 1) := by decide +kernel
theorem dX13_bellTold_40 : decode cX13_bellTold 40 = .ok (.bipush 99, 2) := by decide +kernel
theorem dX13_bellTold_42 : decode cX13_bellTold 42 = .ok (.invokevirtual 333, 3) := by decide +kernel
theorem dX13_bellTold_45 : decode cX13_bellTold 45 = .ok (.istore 5, 2) := by decide +kernel
theorem dX13_bellTold_47 : decode cX13_bellTold 47 = .ok (.aload_n 0, 1) := by decide +kernel
theorem dX13_bellTold_48 : decode cX13_bellTold 48 = .ok (.getfield 264, 3) := by decide +kernel
theorem dX13_bellTold_51 : decode cX13_bellTold 51 = .ok (.ifCond .eq 4, 3) := by decide +kernel
theorem dX13_bellTold_54 : decode cX13_bellTold 54 = .ok (.return_, 1) := by decide +kernel
theorem dX13_bellTold_55 : decode cX13_bellTold 55 = .ok (.aload_n 0, 1) := by decide +kernel
theorem dX13_bellTold_56 : decode cX13_bellTold 56 = .ok (.getfield 126, 3) := by decide +kernel
theorem dX13_bellTold_59 : decode cX13_bellTold 59 = .ok (.aload_n 0, 1) := by decide +kernel
theorem dX13_bellTold_60 : decode cX13_bellTold 60 = .ok (.getfield 123, 3) := by decide +kernel
theorem dX13_bellTold_63 : decode cX13_bellTold 63 = .ok (.iconst 0, 1) := by decide +kernel
theorem dX13_bellTold_64 : decode cX13_bellTold 64 = .ok (.iaload, 1) := by decide +kernel
theorem dX13_bellTold_65 : decode cX13_bellTold 65 = .ok (.lload_n 2, 1) := by decide +kernel
theorem dX13_bellTold_66 : decode cX13_bellTold 66 = .ok (.lastore, 1) := by decide +kernel
theorem dX13_bellTold_67 : decode cX13_bellTold 67 = .ok (.aload_n 0, 1) := by decide +kernel
theorem dX13_bellTold_68 : decode cX13_bellTold 68 = .ok (.getfield 133, 3) := by decide +kernel
theorem dX13_bellTold_71 : decode cX13_bellTold 71 = .ok (.iconst 2, 1) := by decide +kernel
theorem dX13_bellTold_72 : decode cX13_bellTold 72 = .ok (.aload_n 0, 1) := by decide +kernel
theorem dX13_bellTold_73 : decode cX13_bellTold 73 = .ok (.getfield 123, 3) := by decide +kernel
theorem dX13_bellTold_76 : decode cX13_bellTold 76 = .ok (.iconst 0, 1) := by decide +kernel
theorem dX13_bellTold_77 : decode cX13_bellTold 77 = .ok (.iaload, 1) := by decide +kernel
theorem dX13_bellTold_78 : decode cX13_bellTold 78 = .ok (.imul, 1) := by decide +kernel
theorem dX13_bellTold_79 : decode cX13_bellTold 79 = .ok (.iload 4, 2) := by decide +kernel
theorem dX13_bellTold_81 : decode cX13_bellTold 81 = .ok (.iastore, 1) := by decide +kernel
theorem dX13_bellTold_82 : decode cX13_bellTold 82 = .ok (.aload_n 0, 1) := by decide +kernel
theorem dX13_bellTold_83 : decode cX13_bellTold 83 = .ok (.getfield 133, 3) := by decide +kernel
theorem dX13_bellTold_86 : decode cX13_bellTold 86 = .ok (.iconst 2, 1) := by decide +kernel
theorem dX13_bellTold_87 : decode cX13_bellTold 87 = .ok (.aload_n 0, 1) := by decide +kernel
theorem dX13_bellTold_88 : decode cX13_bellTold 88 = .ok (.getfield 123, 3) := by decide +kernel
theorem dX13_bellTold_91 : decode cX13_bellTold 91 = .ok (.iconst 0, 1) := by decide +kernel
theorem dX13_bellTold_92 : decode cX13_bellTold 92 = .ok (.iaload, 1) := by decide +kernel
theorem dX13_bellTold_93 : decode cX13_bellTold 93 = .ok (.imul, 1) := by decide +kernel
theorem dX13_bellTold_94 : decode cX13_bellTold 94 = .ok (.iconst 1, 1) := by decide +kernel
theorem dX13_bellTold_95 : decode cX13_bellTold 95 = .ok (.iadd, 1) := by decide +kernel
theorem dX13_bellTold_96 : decode cX13_bellTold 96 = .ok (.iload 5, 2) := by decide +kernel
theorem dX13_bellTold_98 : decode cX13_bellTold 98 = .ok (.iastore, 1) := by decide +kernel
theorem dX13_bellTold_99 : decode cX13_bellTold 99 = .ok (.aload_n 0, 1) := by decide +kernel
theorem dX13_bellTold_100 : decode cX13_bellTold 100 = .ok (.getfield 123, 3) := by decide +kernel
theorem dX13_bellTold_103 : decode cX13_bellTold 103 = .ok (.iconst 0, 1) := by decide +kernel
theorem dX13_bellTold_104 : decode cX13_bellTold 104 = .ok (.dup2, 1) := by decide +kernel
theorem dX13_bellTold_105 : decode cX13_bellTold 105 = .ok (.iaload, 1) := by decide +kernel
theorem dX13_bellTold_106 : decode cX13_bellTold 106 = .ok (.iconst 1, 1) := by decide +kernel
theorem dX13_bellTold_107 : decode cX13_bellTold 107 = .ok (.iadd, 1) := by decide +kernel
theorem dX13_bellTold_108 : decode cX13_bellTold 108 = .ok (.iastore, 1) := by decide +kernel
theorem dX13_bellTold_109 : decode cX13_bellTold 109 = .ok (.return_, 1) := by decide +kernel
theorem dX13_walkerTold_0 : decode cX13_walkerTold 0 = .ok (.aload_n 0, 1) := by decide +kernel
theorem dX13_walkerTold_1 : decode cX13_walkerTold 1 = .ok (.iconst 1, 1) := by decide +kernel
theorem dX13_walkerTold_2 : decode cX13_walkerTold 2 = .ok (.bipush 6, 2) := by decide +kernel
theorem dX13_walkerTold_4 : decode cX13_walkerTold 4 = .ok (.iload_n 1, 1) := by decide +kernel
theorem dX13_walkerTold_5 : decode cX13_walkerTold 5 = .ok (.invokevirtual 348, 3) := by decide +kernel
theorem dX13_walkerTold_8 : decode cX13_walkerTold 8 = .ok (.ifCond .eq 4, 3) := by decide +kernel
theorem dX13_walkerTold_11 : decode cX13_walkerTold 11 = .ok (.return_, 1) := by decide +kernel
theorem dX13_walkerTold_12 : decode cX13_walkerTold 12 = .ok (.aload_n 0, 1) := by decide +kernel
theorem dX13_walkerTold_13 : decode cX13_walkerTold 13 = .ok (.invokevirtual 352, 3) := by decide +kernel
theorem dX13_walkerTold_16 : decode cX13_walkerTold 16 = .ok (.lstore_n 2, 1) := by decide +kernel
theorem dX13_walkerTold_17 : decode cX13_walkerTold 17 = .ok (.aload_n 0, 1) := by decide +kernel
theorem dX13_walkerTold_18 : decode cX13_walkerTold 18 = .ok (.aload_n 0, 1) := by decide +kernel
theorem dX13_walkerTold_19 : decode cX13_walkerTold 19 = .ok (.getfield 45, 3) := by decide +kernel
theorem dX13_walkerTold_22 : decode cX13_walkerTold 22 = .ok (.invokevirtual 337, 3) := by decide +kernel
theorem dX13_walkerTold_25 : decode cX13_walkerTold 25 = .ok (.aload_n 0, 1) := by decide +kernel
theorem dX13_walkerTold_26 : decode cX13_walkerTold 26 = .ok (.invokevirtual 341, 3) := by decide +kernel
theorem dX13_walkerTold_29 : decode cX13_walkerTold 29 = .ok (.istore 4, 2) := by decide +kernel
theorem dX13_walkerTold_31 : decode cX13_walkerTold 31 = .ok (.aload_n 0, 1) := by decide +kernel
theorem dX13_walkerTold_32 : decode cX13_walkerTold 32 = .ok (.aload_n 0, 1) := by decide +kernel
theorem dX13_walkerTold_33 : decode cX13_walkerTold 33 = .ok (.getfield 48, 3) := by decide +kernel
theorem dX13_walkerTold_36 : decode cX13_walkerTold 36 = .ok (.invokevirtual 337, 3) := by decide +kernel
theorem dX13_walkerTold_39 : decode cX13_walkerTold 39 = .ok (.aload_n 0, 1) := by decide +kernel
theorem dX13_walkerTold_40 : decode cX13_walkerTold 40 = .ok (.invokevirtual 341, 3) := by decide +kernel
theorem dX13_walkerTold_43 : decode cX13_walkerTold 43 = .ok (.istore 5, 2) := by decide +kernel
theorem dX13_walkerTold_45 : decode cX13_walkerTold 45 = .ok (.aload_n 0, 1) := by decide +kernel
theorem dX13_walkerTold_46 : decode cX13_walkerTold 46 = .ok (.aload_n 0, 1) := by decide +kernel
theorem dX13_walkerTold_47 : decode cX13_walkerTold 47 = .ok (.getfield 51, 3) := by decide +kernel
theorem dX13_walkerTold_50 : decode cX13_walkerTold 50 = .ok (.invokevirtual 337, 3) := by decide +kernel
theorem dX13_walkerTold_53 : decode cX13_walkerTold 53 = .ok (.aload_n 0, 1) := by decide +kernel
theorem dX13_walkerTold_54 : decode cX13_walkerTold 54 = .ok (.iconst 0, 1) := by decide +kernel
theorem dX13_walkerTold_55 : decode cX13_walkerTold 55 = .ok (.iconst 3, 1) := by decide +kernel
theorem dX13_walkerTold_56 : decode cX13_walkerTold 56 = .ok (.invokevirtual 333, 3) := by decide +kernel
theorem dX13_walkerTold_59 : decode cX13_walkerTold 59 = .ok (.istore 6, 2) := by decide +kernel
theorem dX13_walkerTold_61 : decode cX13_walkerTold 61 = .ok (.aload_n 0, 1) := by decide +kernel
theorem dX13_walkerTold_62 : decode cX13_walkerTold 62 = .ok (.getfield 264, 3) := by decide +kernel
theorem dX13_walkerTold_65 : decode cX13_walkerTold 65 = .ok (.ifCond .eq 4, 3) := by decide +kernel
theorem dX13_walkerTold_68 : decode cX13_walkerTold 68 = .ok (.return_, 1) := by decide +kernel
theorem dX13_walkerTold_69 : decode cX13_walkerTold 69 = .ok (.aload_n 0, 1) := by decide +kernel
theorem dX13_walkerTold_70 : decode cX13_walkerTold 70 = .ok (.getfield 126, 3) := by decide +kernel
theorem dX13_walkerTold_73 : decode cX13_walkerTold 73 = .ok (.bipush 6, 2) := by decide +kernel
theorem dX13_walkerTold_75 : decode cX13_walkerTold 75 = .ok (.aload_n 0, 1) := by decide +kernel
theorem dX13_walkerTold_76 : decode cX13_walkerTold 76 = .ok (.getfield 123, 3) := by decide +kernel
theorem dX13_walkerTold_79 : decode cX13_walkerTold 79 = .ok (.iconst 1, 1) := by decide +kernel
theorem dX13_walkerTold_80 : decode cX13_walkerTold 80 = .ok (.iaload, 1) := by decide +kernel
theorem dX13_walkerTold_81 : decode cX13_walkerTold 81 = .ok (.iadd, 1) := by decide +kernel
theorem dX13_walkerTold_82 : decode cX13_walkerTold 82 = .ok (.lload_n 2, 1) := by decide +kernel
theorem dX13_walkerTold_83 : decode cX13_walkerTold 83 = .ok (.lastore, 1) := by decide +kernel
theorem dX13_walkerTold_84 : decode cX13_walkerTold 84 = .ok (.iconst 5, 1) := by decide +kernel
theorem dX13_walkerTold_85 : decode cX13_walkerTold 85 = .ok (.aload_n 0, 1) := by decide +kernel
theorem dX13_walkerTold_86 : decode cX13_walkerTold 86 = .ok (.getfield 123, 3) := by decide +kernel
theorem dX13_walkerTold_89 : decode cX13_walkerTold 89 = .ok (.iconst 1, 1) := by decide +kernel
theorem dX13_walkerTold_90 : decode cX13_walkerTold 90 = .ok (.iaload, 1) := by decide +kernel
theorem dX13_walkerTold_91 : decode cX13_walkerTold 91 = .ok (.imul, 1) := by decide +kernel
theorem dX13_walkerTold_92 : decode cX13_walkerTold 92 = .ok (.istore 7, 2) := by decide +kernel
theorem dX13_walkerTold_94 : decode cX13_walkerTold 94 = .ok (.aload_n 0, 1) := by decide +kernel
theorem dX13_walkerTold_95 : decode cX13_walkerTold 95 = .ok (.getfield 136, 3) := by decide +kernel
theorem dX13_walkerTold_98 : decode cX13_walkerTold 98 = .ok (.iload 7, 2) := by decide +kernel
theorem dX13_walkerTold_100 : decode cX13_walkerTold 100 = .ok (.iload 4, 2) := by decide +kernel
theorem dX13_walkerTold_102 : decode cX13_walkerTold 102 = .ok (.iastore, 1) := by decide +kernel
theorem dX13_walkerTold_103 : decode cX13_walkerTold 103 = .ok (.aload_n 0, 1) := by decide +kernel
theorem dX13_walkerTold_104 : decode cX13_walkerTold 104 = .ok (.getfield 136, 3) := by decide +kernel
theorem dX13_walkerTold_107 : decode cX13_walkerTold 107 = .ok (.iload 7, 2) := by decide +kernel
theorem dX13_walkerTold_109 : decode cX13_walkerTold 109 = .ok (.iconst 1, 1) := by decide +kernel
theorem dX13_walkerTold_110 : decode cX13_walkerTold 110 = .ok (.iadd, 1) := by decide +kernel
theorem dX13_walkerTold_111 : decode cX13_walkerTold 111 = .ok (.iload 5, 2) := by decide +kernel
theorem dX13_walkerTold_113 : decode cX13_walkerTold 113 = .ok (.iastore, 1) := by decide +kernel
theorem dX13_walkerTold_114 : decode cX13_walkerTold 114 = .ok (.aload_n 0, 1) := by decide +kernel
theorem dX13_walkerTold_115 : decode cX13_walkerTold 115 = .ok (.getfield 136, 3) := by decide +kernel
theorem dX13_walkerTold_118 : decode cX13_walkerTold 118 = .ok (.iload 7, 2) := by decide +kernel
theorem dX13_walkerTold_120 : decode cX13_walkerTold 120 = .ok (.iconst 2, 1) := by decide +kernel
theorem dX13_walkerTold_121 : decode cX13_walkerTold 121 = .ok (.iadd, 1) := by decide +kernel
theorem dX13_walkerTold_122 : decode cX13_walkerTold 122 = .ok (.iload 6, 2) := by decide +kernel
theorem dX13_walkerTold_124 : decode cX13_walkerTold 124 = .ok (.iastore, 1) := by decide +kernel
theorem dX13_walkerTold_125 : decode cX13_walkerTold 125 = .ok (.aload_n 0, 1) := by decide +kernel
theorem dX13_walkerTold_126 : decode cX13_walkerTold 126 = .ok (.getfield 123, 3) := by decide +kernel
theorem dX13_walkerTold_129 : decode cX13_walkerTold 129 = .ok (.iconst 1, 1) := by decide +kernel
theorem dX13_walkerTold_130 : decode cX13_walkerTold 130 = .ok (.dup2, 1) := by decide +kernel
theorem dX13_walkerTold_131 : decode cX13_walkerTold 131 = .ok (.iaload, 1) := by decide +kernel
theorem dX13_walkerTold_132 : decode cX13_walkerTold 132 = .ok (.iconst 1, 1) := by decide +kernel
theorem dX13_walkerTold_133 : decode cX13_walkerTold 133 = .ok (.iadd, 1) := by decide +kernel
theorem dX13_walkerTold_134 : decode cX13_walkerTold 134 = .ok (.iastore, 1) := by decide +kernel
theorem dX13_walkerTold_135 : decode cX13_walkerTold 135 = .ok (.return_, 1) := by decide +kernel
theorem dX13_codesTold_0 : decode cX13_codesTold 0 = .ok (.aload_n 0, 1) := by decide +kernel
theorem dX13_codesTold_1 : decode cX13_codesTold 1 = .ok (.getfield 264, 3) := by decide +kernel
theorem dX13_codesTold_4 : decode cX13_codesTold 4 = .ok (.ifCond .ne 19, 3) := by decide +kernel
theorem dX13_codesTold_7 : decode cX13_codesTold 7 = .ok (.aload_n 0, 1) := by decide +kernel
theorem dX13_codesTold_8 : decode cX13_codesTold 8 = .ok (.getfield 142, 3) := by decide +kernel
theorem dX13_codesTold_11 : decode cX13_codesTold 11 = .ok (.iload_n 1, 1) := by decide +kernel
theorem dX13_codesTold_12 : decode cX13_codesTold 12 = .ok (.iaload, 1) := by decide +kernel
theorem dX13_codesTold_13 : decode cX13_codesTold 13 = .ok (.iconst (-1), 1) := by decide +kernel
theorem dX13_codesTold_14 : decode cX13_codesTold 14 = .ok (.if_icmp .eq 9, 3) := by decide +kernel
theorem dX13_codesTold_17 : decode cX13_codesTold 17 = .ok (.aload_n 0, 1) := by decide +kernel
theorem dX13_codesTold_18 : decode cX13_codesTold 18 = .ok (.iconst 5, 1) := by decide +kernel
theorem dX13_codesTold_19 : decode cX13_codesTold 19 = .ok (.iload_n 2, 1) := by decide +kernel
theorem dX13_codesTold_20 : decode cX13_codesTold 20 = .ok (.invokevirtual 294, 3) := by decide +kernel
theorem dX13_codesTold_23 : decode cX13_codesTold 23 = .ok (.aload_n 0, 1) := by decide +kernel
theorem dX13_codesTold_24 : decode cX13_codesTold 24 = .ok (.getfield 264, 3) := by decide +kernel
theorem dX13_codesTold_27 : decode cX13_codesTold 27 = .ok (.ifCond .eq 4, 3) := by decide +kernel
theorem dX13_codesTold_30 : decode cX13_codesTold 30 = .ok (.return_, 1) := by decide +kernel
theorem dX13_codesTold_31 : decode cX13_codesTold 31 = .ok (.aload_n 0, 1) := by decide +kernel
theorem dX13_codesTold_32 : decode cX13_codesTold 32 = .ok (.iload_n 1, 1) := by decide +kernel
theorem dX13_codesTold_33 : decode cX13_codesTold 33 = .ok (.ifCond .ne 7, 3) := by decide +kernel
theorem dX13_codesTold_36 : decode cX13_codesTold 36 = .ok (.iconst 0, 1) := by decide +kernel
theorem dX13_codesTold_37 : decode cX13_codesTold 37 = .ok (.goto 4, 3) := by decide +kernel
theorem dX13_codesTold_40 : decode cX13_codesTold 40 = .ok (.iconst 1, 1) := by decide +kernel
theorem dX13_codesTold_41 : decode cX13_codesTold 41 = .ok (.putfield 322, 3) := by decide +kernel
theorem dX13_codesTold_44 : decode cX13_codesTold 44 = .ok (.aload_n 0, 1) := by decide +kernel
theorem dX13_codesTold_45 : decode cX13_codesTold 45 = .ok (.iconst 0, 1) := by decide +kernel
theorem dX13_codesTold_46 : decode cX13_codesTold 46 = .ok (.putfield 355, 3) := by decide +kernel
theorem dX13_codesTold_49 : decode cX13_codesTold 49 = .ok (.aload_n 0, 1) := by decide +kernel
theorem dX13_codesTold_50 : decode cX13_codesTold 50 = .ok (.iconst 0, 1) := by decide +kernel
theorem dX13_codesTold_51 : decode cX13_codesTold 51 = .ok (.putfield 358, 3) := by decide +kernel
theorem dX13_codesTold_54 : decode cX13_codesTold 54 = .ok (.aload_n 0, 1) := by decide +kernel
theorem dX13_codesTold_55 : decode cX13_codesTold 55 = .ok (.iconst 0, 1) := by decide +kernel
theorem dX13_codesTold_56 : decode cX13_codesTold 56 = .ok (.putfield 361, 3) := by decide +kernel
theorem dX13_codesTold_59 : decode cX13_codesTold 59 = .ok (.aload_n 0, 1) := by decide +kernel
theorem dX13_codesTold_60 : decode cX13_codesTold 60 = .ok (.iconst 0, 1) := by decide +kernel
theorem dX13_codesTold_61 : decode cX13_codesTold 61 = .ok (.putfield 364, 3) := by decide +kernel
theorem dX13_codesTold_64 : decode cX13_codesTold 64 = .ok (.iload_n 1, 1) := by decide +kernel
theorem dX13_codesTold_65 : decode cX13_codesTold 65 = .ok (.iconst 2, 1) := by decide +kernel
theorem dX13_codesTold_66 : decode cX13_codesTold 66 = .ok (.if_icmp .ne 10, 3) := by decide +kernel
theorem dX13_codesTold_69 : decode cX13_codesTold 69 = .ok (.aload_n 0, 1) := by decide +kernel
theorem dX13_codesTold_70 : decode cX13_codesTold 70 = .ok (.invokevirtual 367, 3) := by decide +kernel
theorem dX13_codesTold_73 : decode cX13_codesTold 73 = .ok (.goto 7, 3) := by decide +kernel
theorem dX13_codesTold_76 : decode cX13_codesTold 76 = .ok (.aload_n 0, 1) := by decide +kernel
theorem dX13_codesTold_77 : decode cX13_codesTold 77 = .ok (.invokevirtual 370, 3) := by decide +kernel
theorem dX13_codesTold_80 : decode cX13_codesTold 80 = .ok (.aload_n 0, 1) := by decide +kernel
theorem dX13_codesTold_81 : decode cX13_codesTold 81 = .ok (.getfield 264, 3) := by decide +kernel
theorem dX13_codesTold_84 : decode cX13_codesTold 84 = .ok (.ifCond .eq 4, 3) := by decide +kernel
theorem dX13_codesTold_87 : decode cX13_codesTold 87 = .ok (.return_, 1) := by decide +kernel
theorem dX13_codesTold_88 : decode cX13_codesTold 88 = .ok (.aload_n 0, 1) := by decide +kernel
theorem dX13_codesTold_89 : decode cX13_codesTold 89 = .ok (.getfield 142, 3) := by decide +kernel
theorem dX13_codesTold_92 : decode cX13_codesTold 92 = .ok (.iload_n 1, 1) := by decide +kernel
theorem dX13_codesTold_93 : decode cX13_codesTold 93 = .ok (.aload_n 0, 1) := by decide +kernel
theorem dX13_codesTold_94 : decode cX13_codesTold 94 = .ok (.getfield 373, 3) := by decide +kernel
theorem dX13_codesTold_97 : decode cX13_codesTold 97 = .ok (.iastore, 1) := by decide +kernel
theorem dX13_codesTold_98 : decode cX13_codesTold 98 = .ok (.iconst 0, 1) := by decide +kernel
theorem dX13_codesTold_99 : decode cX13_codesTold 99 = .ok (.istore_n 3, 1) := by decide +kernel
theorem dX13_codesTold_100 : decode cX13_codesTold 100 = .ok (.iload_n 3, 1) := by decide +kernel
theorem dX13_codesTold_101 : decode cX13_codesTold 101 = .ok (.aload_n 0, 1) := by decide +kernel
theorem dX13_codesTold_102 : decode cX13_codesTold 102 = .ok (.getfield 355, 3) := by decide +kernel
theorem dX13_codesTold_105 : decode cX13_codesTold 105 = .ok (.if_icmp .ge 34, 3) := by decide +kernel
theorem dX13_codesTold_108 : decode cX13_codesTold 108 = .ok (.aload_n 0, 1) := by decide +kernel
theorem dX13_codesTold_109 : decode cX13_codesTold 109 = .ok (.getfield 148, 3) := by decide +kernel
theorem dX13_codesTold_112 : decode cX13_codesTold 112 = .ok (.aload_n 0, 1) := by decide +kernel
theorem dX13_codesTold_113 : decode cX13_codesTold 113 = .ok (.getfield 373, 3) := by decide +kernel
theorem dX13_codesTold_116 : decode cX13_codesTold 116 = .ok (.aload_n 0, 1) := by decide +kernel
theorem dX13_codesTold_117 : decode cX13_codesTold 117 = .ok (.getfield 249, 3) := by decide +kernel
theorem dX13_codesTold_120 : decode cX13_codesTold 120 = .ok (.iload_n 3, 1) := by decide +kernel
theorem dX13_codesTold_121 : decode cX13_codesTold 121 = .ok (.iaload, 1) := by decide +kernel
theorem dX13_codesTold_122 : decode cX13_codesTold 122 = .ok (.iastore, 1) := by decide +kernel
theorem dX13_codesTold_123 : decode cX13_codesTold 123 = .ok (.aload_n 0, 1) := by decide +kernel
theorem dX13_codesTold_124 : decode cX13_codesTold 124 = .ok (.dup, 1) := by decide +kernel
theorem dX13_codesTold_125 : decode cX13_codesTold 125 = .ok (.getfield 373, 3) := by decide +kernel
theorem dX13_codesTold_128 : decode cX13_codesTold 128 = .ok (.iconst 1, 1) := by decide +kernel
theorem dX13_codesTold_129 : decode cX13_codesTold 129 = .ok (.iadd, 1) := by decide +kernel
theorem dX13_codesTold_130 : decode cX13_codesTold 130 = .ok (.putfield 373, 3) := by decide +kernel
theorem dX13_codesTold_133 : decode cX13_codesTold 133 = .ok (.iinc 3 1, 3) := by decide +kernel
theorem dX13_codesTold_136 : decode cX13_codesTold 136 = .ok (.goto (-36), 3) := by decide +kernel
theorem dX13_codesTold_139 : decode cX13_codesTold 139 = .ok (.aload_n 0, 1) := by decide +kernel
theorem dX13_codesTold_140 : decode cX13_codesTold 140 = .ok (.getfield 145, 3) := by decide +kernel
theorem dX13_codesTold_143 : decode cX13_codesTold 143 = .ok (.iload_n 1, 1) := by decide +kernel
theorem dX13_codesTold_144 : decode cX13_codesTold 144 = .ok (.aload_n 0, 1) := by decide +kernel
theorem dX13_codesTold_145 : decode cX13_codesTold 145 = .ok (.getfield 373, 3) := by decide +kernel
theorem dX13_codesTold_148 : decode cX13_codesTold 148 = .ok (.iastore, 1) := by decide +kernel
theorem dX13_codesTold_149 : decode cX13_codesTold 149 = .ok (.return_, 1) := by decide +kernel
theorem dX13_statementTold_0 : decode cX13_statementTold 0 = .ok (.aload_n 0, 1) := by decide +kernel
theorem dX13_statementTold_1 : decode cX13_statementTold 1 = .ok (.getfield 270, 3) := by decide +kernel
theorem dX13_statementTold_4 : decode cX13_statementTold 4 = .ok (.istore_n 1, 1) := by decide +kernel
theorem dX13_statementTold_5 : decode cX13_statementTold 5 = .ok (.aload_n 0, 1) := by decide +kernel
theorem dX13_statementTold_6 : decode cX13_statementTold 6 = .ok (.getfield 376, 3) := by decide +kernel
theorem dX13_statementTold_9 : decode cX13_statementTold 9 = .ok (.bipush 80, 2) := by decide +kernel
theorem dX13_statementTold_11 : decode cX13_statementTold 11 = .ok (.if_icmp .ne 10, 3) := by decide +kernel
theorem dX13_statementTold_14 : decode cX13_statementTold 14 = .ok (.aload_n 0, 1) := by decide +kernel
theorem dX13_statementTold_15 : decode cX13_statementTold 15 = .ok (.iconst 5, 1) := by decide +kernel
theorem dX13_statementTold_16 : decode cX13_statementTold 16 = .ok (.iload_n 1, 1) := by decide +kernel
theorem dX13_statementTold_17 : decode cX13_statementTold 17 = .ok (.invokevirtual 294, 3) := by decide +kernel
theorem dX13_statementTold_20 : decode cX13_statementTold 20 = .ok (.return_, 1) := by decide +kernel
theorem dX13_statementTold_21 : decode cX13_statementTold 21 = .ok (.aload_n 0, 1) := by decide +kernel
theorem dX13_statementTold_22 : decode cX13_statementTold 22 = .ok (.aload_n 0, 1) := by decide +kernel
theorem dX13_statementTold_23 : decode cX13_statementTold 23 = .ok (.getfield 30, 3) := by decide +kernel
theorem dX13_statementTold_26 : decode cX13_statementTold 26 = .ok (.invokevirtual 291, 3) := by decide +kernel
theorem dX13_statementTold_29 : decode cX13_statementTold 29 = .ok (.ifCond .eq 11, 3) := by decide +kernel
theorem dX13_statementTold_32 : decode cX13_statementTold 32 = .ok (.aload_n 0, 1) := by decide +kernel
theorem dX13_statementTold_33 : decode cX13_statementTold 33 = .ok (.iload_n 1, 1) := by decide +kernel
theorem dX13_statementTold_34 : decode cX13_statementTold 34 = .ok (.invokevirtual 379, 3) := by decide +kernel
theorem dX13_statementTold_37 : decode cX13_statementTold 37 = .ok (.goto 177, 3) := by decide +kernel
theorem dX13_statementTold_40 : decode cX13_statementTold 40 = .ok (.aload_n 0, 1) := by decide +kernel
theorem dX13_statementTold_41 : decode cX13_statementTold 41 = .ok (.aload_n 0, 1) := by decide +kernel
theorem dX13_statementTold_42 : decode cX13_statementTold 42 = .ok (.getfield 33, 3) := by decide +kernel
theorem dX13_statementTold_45 : decode cX13_statementTold 45 = .ok (.invokevirtual 291, 3) := by decide +kernel
theorem dX13_statementTold_48 : decode cX13_statementTold 48 = .ok (.ifCond .eq 11, 3) := by decide +kernel
theorem dX13_statementTold_51 : decode cX13_statementTold 51 = .ok (.aload_n 0, 1) := by decide +kernel
theorem dX13_statementTold_52 : decode cX13_statementTold 52 = .ok (.iload_n 1, 1) := by decide +kernel
theorem dX13_statementTold_53 : decode cX13_statementTold 53 = .ok (.invokevirtual 382, 3) := by decide +kernel
theorem dX13_statementTold_56 : decode cX13_statementTold 56 = .ok (.goto 158, 3) := by decide +kernel
theorem dX13_statementTold_59 : decode cX13_statementTold 59 = .ok (.aload_n 0, 1) := by decide +kernel
theorem dX13_statementTold_60 : decode cX13_statementTold 60 = .ok (.aload_n 0, 1) := by decide +kernel
theorem dX13_statementTold_61 : decode cX13_statementTold 61 = .ok (.getfield 42, 3) := by decide +kernel
theorem dX13_statementTold_64 : decode cX13_statementTold 64 = .ok (.invokevirtual 291, 3) := by decide +kernel
theorem dX13_statementTold_67 : decode cX13_statementTold 67 = .ok (.ifCond .eq 11, 3) := by decide +kernel
theorem dX13_statementTold_70 : decode cX13_statementTold 70 = .ok (.aload_n 0, 1) := by decide +kernel
theorem dX13_statementTold_71 : decode cX13_statementTold 71 = .ok (.iload_n 1, 1) := by decide +kernel
theorem dX13_statementTold_72 : decode cX13_statementTold 72 = .ok (.invokevirtual 385, 3) := by decide +kernel
theorem dX13_statementTold_75 : decode cX13_statementTold 75 = .ok (.goto 139, 3) := by decide +kernel
theorem dX13_statementTold_78 : decode cX13_statementTold 78 = .ok (.aload_n 0, 1) := by decide +kernel
theorem dX13_statementTold_79 : decode cX13_statementTold 79 = .ok (.aload_n 0, 1) := by decide +kernel
theorem dX13_statementTold_80 : decode cX13_statementTold 80 = .ok (.getfield 54, 3) := by decide +kernel
theorem dX13_statementTold_83 : decode cX13_statementTold 83 = .ok (.invokevirtual 291, 3) := by decide +kernel
theorem dX13_statementTold_86 : decode cX13_statementTold 86 = .ok (.ifCond .eq 12, 3) := by decide +kernel
theorem dX13_statementTold_89 : decode cX13_statementTold 89 = .ok (.aload_n 0, 1) := by decide +kernel
theorem dX13_statementTold_90 : decode cX13_statementTold 90 = .ok (.iconst 0, 1) := by decide +kernel
theorem dX13_statementTold_91 : decode cX13_statementTold 91 = .ok (.iload_n 1, 1) := by decide +kernel
theorem dX13_statementTold_92 : decode cX13_statementTold 92 = .ok (.invokevirtual 388, 3) := by decide +kernel
theorem dX13_statementTold_95 : decode cX13_statementTold 95 = .ok (.goto 119, 3) := by decide +kernel
theorem dX13_statementTold_98 : decode cX13_statementTold 98 = .ok (.aload_n 0, 1) := by decide +kernel
theorem dX13_statementTold_99 : decode cX13_statementTold 99 = .ok (.aload_n 0, 1) := by decide +kernel
theorem dX13_statementTold_100 : decode cX13_statementTold 100 = .ok (.getfield 57, 3) := by decide +kernel
theorem dX13_statementTold_103 : decode cX13_statementTold 103 = .ok (.invokevirtual 291, 3) := by decide +kernel
theorem dX13_statementTold_106 : decode cX13_statementTold 106 = .ok (.ifCond .eq 12, 3) := by decide +kernel
theorem dX13_statementTold_109 : decode cX13_statementTold 109 = .ok (.aload_n 0, 1) := by decide +kernel
theorem dX13_statementTold_110 : decode cX13_statementTold 110 = .ok (.iconst 1, 1) := by decide +kernel
theorem dX13_statementTold_111 : decode cX13_statementTold 111 = .ok (.iload_n 1, 1) := by decide +kernel
theorem dX13_statementTold_112 : decode cX13_statementTold 112 = .ok (.invokevirtual 388, 3) := by decide +kernel
theorem dX13_statementTold_115 : decode cX13_statementTold 115 = .ok (.goto 99, 3) := by decide +kernel
theorem dX13_statementTold_118 : decode cX13_statementTold 118 = .ok (.aload_n 0, 1) := by decide +kernel
theorem dX13_statementTold_119 : decode cX13_statementTold 119 = .ok (.aload_n 0, 1) := by decide +kernel
theorem dX13_statementTold_120 : decode cX13_statementTold 120 = .ok (.getfield 60, 3) := by decide +kernel
theorem dX13_statementTold_123 : decode cX13_statementTold 123 = .ok (.invokevirtual 291, 3) := by decide +kernel
theorem dX13_statementTold_126 : decode cX13_statementTold 126 = .ok (.ifCond .eq 12, 3) := by decide +kernel
theorem dX13_statementTold_129 : decode cX13_statementTold 129 = .ok (.aload_n 0, 1) := by decide +kernel
theorem dX13_statementTold_130 : decode cX13_statementTold 130 = .ok (.iconst 2, 1) := by decide +kernel
theorem dX13_statementTold_131 : decode cX13_statementTold 131 = .ok (.iload_n 1, 1) := by decide +kernel
theorem dX13_statementTold_132 : decode cX13_statementTold 132 = .ok (.invokevirtual 388, 3) := by decide +kernel
theorem dX13_statementTold_135 : decode cX13_statementTold 135 = .ok (.goto 79, 3) := by decide +kernel
theorem dX13_statementTold_138 : decode cX13_statementTold 138 = .ok (.aload_n 0, 1) := by decide +kernel
theorem dX13_statementTold_139 : decode cX13_statementTold 139 = .ok (.aload_n 0, 1) := by decide +kernel
theorem dX13_statementTold_140 : decode cX13_statementTold 140 = .ok (.getfield 63, 3) := by decide +kernel
theorem dX13_statementTold_143 : decode cX13_statementTold 143 = .ok (.invokevirtual 291, 3) := by decide +kernel
theorem dX13_statementTold_146 : decode cX13_statementTold 146 = .ok (.ifCond .eq 19, 3) := by decide +kernel
theorem dX13_statementTold_149 : decode cX13_statementTold 149 = .ok (.aload_n 0, 1) := by decide +kernel
theorem dX13_statementTold_150 : decode cX13_statementTold 150 = .ok (.getfield 139, 3) := by decide +kernel
theorem dX13_statementTold_153 : decode cX13_statementTold 153 = .ok (.iconst 0, 1) := by decide +kernel
theorem dX13_statementTold_154 : decode cX13_statementTold 154 = .ok (.aload_n 0, 1) := by decide +kernel
theorem dX13_statementTold_155 : decode cX13_statementTold 155 = .ok (.iconst 1, 1) := by decide +kernel
theorem dX13_statementTold_156 : decode cX13_statementTold 156 = .ok (.bipush 99, 2) := by decide +kernel
theorem dX13_statementTold_158 : decode cX13_statementTold 158 = .ok (.invokevirtual 333, 3) := by decide +kernel
theorem dX13_statementTold_161 : decode cX13_statementTold 161 = .ok (.iastore, 1) := by decide +kernel
theorem dX13_statementTold_162 : decode cX13_statementTold 162 = .ok (.goto 52, 3) := by decide +kernel
theorem dX13_statementTold_165 : decode cX13_statementTold 165 = .ok (.aload_n 0, 1) := by decide +kernel
theorem dX13_statementTold_166 : decode cX13_statementTold 166 = .ok (.aload_n 0, 1) := by decide +kernel
theorem dX13_statementTold_167 : decode cX13_statementTold 167 = .ok (.getfield 66, 3) := by decide +kernel
theorem dX13_statementTold_170 : decode cX13_statementTold 170 = .ok (.invokevirtual 291, 3) := by decide +kernel
theorem dX13_statementTold_173 : decode cX13_statementTold 173 = .ok (.ifCond .eq 20, 3) := by decide +kernel
theorem dX13_statementTold_176 : decode cX13_statementTold 176 = .ok (.aload_n 0, 1) := by decide +kernel
theorem dX13_statementTold_177 : decode cX13_statementTold 177 = .ok (.getfield 139, 3) := by decide +kernel
theorem dX13_statementTold_180 : decode cX13_statementTold 180 = .ok (.iconst 1, 1) := by decide +kernel
theorem dX13_statementTold_181 : decode cX13_statementTold 181 = .ok (.aload_n 0, 1) := by decide +kernel
theorem dX13_statementTold_182 : decode cX13_statementTold 182 = .ok (.iconst 0, 1) := by decide +kernel
theorem dX13_statementTold_183 : decode cX13_statementTold 183 = .ok (.sipush 999, 3) := by decide +kernel
theorem dX13_statementTold_186 : decode cX13_statementTold 186 = .ok (.invokevirtual 333, 3) := by decide +kernel
theorem dX13_statementTold_189 : decode cX13_statementTold 189 = .ok (.iastore, 1) := by decide +kernel
theorem dX13_statementTold_190 : decode cX13_statementTold 190 = .ok (.goto 24, 3) := by decide +kernel
theorem dX13_statementTold_193 : decode cX13_statementTold 193 = .ok (.aload_n 0, 1) := by decide +kernel
theorem dX13_statementTold_194 : decode cX13_statementTold 194 = .ok (.aload_n 0, 1) := by decide +kernel
theorem dX13_statementTold_195 : decode cX13_statementTold 195 = .ok (.getfield 69, 3) := by decide +kernel
theorem dX13_statementTold_198 : decode cX13_statementTold 198 = .ok (.invokevirtual 337, 3) := by decide +kernel
theorem dX13_statementTold_201 : decode cX13_statementTold 201 = .ok (.aload_n 0, 1) := by decide +kernel
theorem dX13_statementTold_202 : decode cX13_statementTold 202 = .ok (.getfield 139, 3) := by decide +kernel
theorem dX13_statementTold_205 : decode cX13_statementTold 205 = .ok (.iconst 2, 1) := by decide +kernel
theorem dX13_statementTold_206 : decode cX13_statementTold 206 = .ok (.aload_n 0, 1) := by decide +kernel
theorem dX13_statementTold_207 : decode cX13_statementTold 207 = .ok (.iconst 0, 1) := by decide +kernel
theorem dX13_statementTold_208 : decode cX13_statementTold 208 = .ok (.bipush 100, 2) := by decide +kernel
theorem dX13_statementTold_210 : decode cX13_statementTold 210 = .ok (.invokevirtual 333, 3) := by decide +kernel
theorem dX13_statementTold_213 : decode cX13_statementTold 213 = .ok (.iastore, 1) := by decide +kernel
theorem dX13_statementTold_214 : decode cX13_statementTold 214 = .ok (.aload_n 0, 1) := by decide +kernel
theorem dX13_statementTold_215 : decode cX13_statementTold 215 = .ok (.bipush 59, 2) := by decide +kernel
theorem dX13_statementTold_217 : decode cX13_statementTold 217 = .ok (.invokevirtual 344, 3) := by decide +kernel
theorem dX13_statementTold_220 : decode cX13_statementTold 220 = .ok (.aload_n 0, 1) := by decide +kernel
theorem dX13_statementTold_221 : decode cX13_statementTold 221 = .ok (.dup, 1) := by decide +kernel
theorem dX13_statementTold_222 : decode cX13_statementTold 222 = .ok (.getfield 376, 3) := by decide +kernel
theorem dX13_statementTold_225 : decode cX13_statementTold 225 = .ok (.iconst 1, 1) := by decide +kernel
theorem dX13_statementTold_226 : decode cX13_statementTold 226 = .ok (.iadd, 1) := by decide +kernel
theorem dX13_statementTold_227 : decode cX13_statementTold 227 = .ok (.putfield 376, 3) := by decide +kernel
theorem dX13_statementTold_230 : decode cX13_statementTold 230 = .ok (.return_, 1) := by decide +kernel
theorem dX13_land_0 : decode cX13_land 0 = .ok (.aload_n 0, 1) := by decide +kernel
theorem dX13_land_1 : decode cX13_land 1 = .ok (.aload_n 0, 1) := by decide +kernel
theorem dX13_land_2 : decode cX13_land 2 = .ok (.getfield 261, 3) := by decide +kernel
theorem dX13_land_5 : decode cX13_land 5 = .ok (.putfield 273, 3) := by decide +kernel
theorem dX13_land_8 : decode cX13_land 8 = .ok (.aload_n 0, 1) := by decide +kernel
theorem dX13_land_9 : decode cX13_land 9 = .ok (.iconst 0, 1) := by decide +kernel
theorem dX13_land_10 : decode cX13_land 10 = .ok (.putfield 261, 3) := by decide +kernel
theorem dX13_land_13 : decode cX13_land 13 = .ok (.aload_n 0, 1) := by decide +kernel
theorem dX13_land_14 : decode cX13_land 14 = .ok (.iconst 0, 1) := by decide +kernel
theorem dX13_land_15 : decode cX13_land 15 = .ok (.putfield 270, 3) := by decide +kernel
theorem dX13_land_18 : decode cX13_land 18 = .ok (.aload_n 0, 1) := by decide +kernel
theorem dX13_land_19 : decode cX13_land 19 = .ok (.iconst (-1), 1) := by decide +kernel
theorem dX13_land_20 : decode cX13_land 20 = .ok (.putfield 284, 3) := by decide +kernel
theorem dX13_land_23 : decode cX13_land 23 = .ok (.aload_n 0, 1) := by decide +kernel
theorem dX13_land_24 : decode cX13_land 24 = .ok (.iconst 0, 1) := by decide +kernel
theorem dX13_land_25 : decode cX13_land 25 = .ok (.putfield 264, 3) := by decide +kernel
theorem dX13_land_28 : decode cX13_land 28 = .ok (.aload_n 0, 1) := by decide +kernel
theorem dX13_land_29 : decode cX13_land 29 = .ok (.iconst (-1), 1) := by decide +kernel
theorem dX13_land_30 : decode cX13_land 30 = .ok (.putfield 267, 3) := by decide +kernel
theorem dX13_land_33 : decode cX13_land 33 = .ok (.aload_n 0, 1) := by decide +kernel
theorem dX13_land_34 : decode cX13_land 34 = .ok (.iconst 0, 1) := by decide +kernel
theorem dX13_land_35 : decode cX13_land 35 = .ok (.putfield 373, 3) := by decide +kernel
theorem dX13_land_38 : decode cX13_land 38 = .ok (.iconst 0, 1) := by decide +kernel
theorem dX13_land_39 : decode cX13_land 39 = .ok (.istore_n 1, 1) := by decide +kernel
theorem dX13_land_40 : decode cX13_land 40 = .ok (.iload_n 1, 1) := by decide +kernel
theorem dX13_land_41 : decode cX13_land 41 = .ok (.iconst 3, 1) := by decide +kernel
theorem dX13_land_42 : decode cX13_land 42 = .ok (.if_icmp .ge 23, 3) := by decide +kernel
theorem dX13_land_45 : decode cX13_land 45 = .ok (.aload_n 0, 1) := by decide +kernel
theorem dX13_land_46 : decode cX13_land 46 = .ok (.getfield 123, 3) := by decide +kernel
theorem dX13_land_49 : decode cX13_land 49 = .ok (.iload_n 1, 1) := by decide +kernel
theorem dX13_land_50 : decode cX13_land 50 = .ok (.iconst 0, 1) := by decide +kernel
theorem dX13_land_51 : decode cX13_land 51 = .ok (.iastore, 1) := by decide +kernel
theorem dX13_land_52 : decode cX13_land 52 = .ok (.aload_n 0, 1) := by decide +kernel
theorem dX13_land_53 : decode cX13_land 53 = .ok (.getfield 142, 3) := by decide +kernel
theorem dX13_land_56 : decode cX13_land 56 = .ok (.iload_n 1, 1) := by decide +kernel
theorem dX13_land_57 : decode cX13_land 57 = .ok (.iconst (-1), 1) := by decide +kernel
theorem dX13_land_58 : decode cX13_land 58 = .ok (.iastore, 1) := by decide +kernel
theorem dX13_land_59 : decode cX13_land 59 = .ok (.iinc 1 1, 3) := by decide +kernel
theorem dX13_land_62 : decode cX13_land 62 = .ok (.goto (-22), 3) := by decide +kernel
theorem dX13_land_65 : decode cX13_land 65 = .ok (.aload_n 0, 1) := by decide +kernel
theorem dX13_land_66 : decode cX13_land 66 = .ok (.getfield 139, 3) := by decide +kernel
theorem dX13_land_69 : decode cX13_land 69 = .ok (.iconst 0, 1) := by decide +kernel
theorem dX13_land_70 : decode cX13_land 70 = .ok (.bipush 12, 2) := by decide +kernel
theorem dX13_land_72 : decode cX13_land 72 = .ok (.iastore, 1) := by decide +kernel
theorem dX13_land_73 : decode cX13_land 73 = .ok (.aload_n 0, 1) := by decide +kernel
theorem dX13_land_74 : decode cX13_land 74 = .ok (.getfield 139, 3) := by decide +kernel
theorem dX13_land_77 : decode cX13_land 77 = .ok (.iconst 1, 1) := by decide +kernel
theorem dX13_land_78 : decode cX13_land 78 = .ok (.bipush 20, 2) := by decide +kernel
theorem dX13_land_80 : decode cX13_land 80 = .ok (.iastore, 1) := by decide +kernel
theorem dX13_land_81 : decode cX13_land 81 = .ok (.aload_n 0, 1) := by decide +kernel
theorem dX13_land_82 : decode cX13_land 82 = .ok (.getfield 139, 3) := by decide +kernel
theorem dX13_land_85 : decode cX13_land 85 = .ok (.iconst 2, 1) := by decide +kernel
theorem dX13_land_86 : decode cX13_land 86 = .ok (.iconst 0, 1) := by decide +kernel
theorem dX13_land_87 : decode cX13_land 87 = .ok (.iastore, 1) := by decide +kernel
theorem dX13_land_88 : decode cX13_land 88 = .ok (.aload_n 0, 1) := by decide +kernel
theorem dX13_land_89 : decode cX13_land 89 = .ok (.invokevirtual 391, 3) := by decide +kernel
theorem dX13_land_92 : decode cX13_land 92 = .ok (.aload_n 0, 1) := by decide +kernel
theorem dX13_land_93 : decode cX13_land 93 = .ok (.iconst 1, 1) := by decide +kernel
theorem dX13_land_94 : decode cX13_land 94 = .ok (.putfield 376, 3) := by decide +kernel
theorem dX13_land_97 : decode cX13_land 97 = .ok (.aload_n 0, 1) := by decide +kernel
theorem dX13_land_98 : decode cX13_land 98 = .ok (.getfield 264, 3) := by decide +kernel
theorem dX13_land_101 : decode cX13_land 101 = .ok (.ifCond .ne 18, 3) := by decide +kernel
theorem dX13_land_104 : decode cX13_land 104 = .ok (.aload_n 0, 1) := by decide +kernel
theorem dX13_land_105 : decode cX13_land 105 = .ok (.invokevirtual 276, 3) := by decide +kernel
theorem dX13_land_108 : decode cX13_land 108 = .ok (.iconst (-1), 1) := by decide +kernel
theorem dX13_land_109 : decode cX13_land 109 = .ok (.if_icmp .eq 10, 3) := by decide +kernel
theorem dX13_land_112 : decode cX13_land 112 = .ok (.aload_n 0, 1) := by decide +kernel
theorem dX13_land_113 : decode cX13_land 113 = .ok (.invokevirtual 394, 3) := by decide +kernel
theorem dX13_land_116 : decode cX13_land 116 = .ok (.goto (-19), 3) := by decide +kernel
theorem dX13_land_119 : decode cX13_land 119 = .ok (.aload_n 0, 1) := by decide +kernel
theorem dX13_land_120 : decode cX13_land 120 = .ok (.aload_n 0, 1) := by decide +kernel
theorem dX13_land_121 : decode cX13_land 121 = .ok (.getfield 264, 3) := by decide +kernel
theorem dX13_land_124 : decode cX13_land 124 = .ok (.putfield 397, 3) := by decide +kernel
theorem dX13_land_127 : decode cX13_land 127 = .ok (.aload_n 0, 1) := by decide +kernel
theorem dX13_land_128 : decode cX13_land 128 = .ok (.aload_n 0, 1) := by decide +kernel
theorem dX13_land_129 : decode cX13_land 129 = .ok (.getfield 267, 3) := by decide +kernel
theorem dX13_land_132 : decode cX13_land 132 = .ok (.putfield 13, 3) := by decide +kernel
theorem dX13_land_135 : decode cX13_land 135 = .ok (.aload_n 0, 1) := by decide +kernel
theorem dX13_land_136 : decode cX13_land 136 = .ok (.getfield 264, 3) := by decide +kernel
theorem dX13_land_139 : decode cX13_land 139 = .ok (.ifCond .eq 15, 3) := by decide +kernel
theorem dX13_land_142 : decode cX13_land 142 = .ok (.aload_n 0, 1) := by decide +kernel
theorem dX13_land_143 : decode cX13_land 143 = .ok (.getfield 17, 3) := by decide +kernel
theorem dX13_land_146 : decode cX13_land 146 = .ok (.iconst 1, 1) := by decide +kernel
theorem dX13_land_147 : decode cX13_land 147 = .ok (.dup2, 1) := by decide +kernel
theorem dX13_land_148 : decode cX13_land 148 = .ok (.iaload, 1) := by decide +kernel
theorem dX13_land_149 : decode cX13_land 149 = .ok (.iconst 1, 1) := by decide +kernel
theorem dX13_land_150 : decode cX13_land 150 = .ok (.iadd, 1) := by decide +kernel
theorem dX13_land_151 : decode cX13_land 151 = .ok (.iastore, 1) := by decide +kernel
theorem dX13_land_152 : decode cX13_land 152 = .ok (.iconst (-1), 1) := by decide +kernel
theorem dX13_land_153 : decode cX13_land 153 = .ok (.ireturn, 1) := by decide +kernel
theorem dX13_land_154 : decode cX13_land 154 = .ok (.aload_n 0, 1) := by decide +kernel
theorem dX13_land_155 : decode cX13_land 155 = .ok (.invokevirtual 400, 3) := by decide +kernel
theorem dX13_land_158 : decode cX13_land 158 = .ok (.aload_n 0, 1) := by decide +kernel
theorem dX13_land_159 : decode cX13_land 159 = .ok (.getfield 376, 3) := by decide +kernel
theorem dX13_land_162 : decode cX13_land 162 = .ok (.ireturn, 1) := by decide +kernel
theorem dX13_stands_0 : decode cX13_stands 0 = .ok (.aload_n 0, 1) := by decide +kernel
theorem dX13_stands_1 : decode cX13_stands 1 = .ok (.iconst 1, 1) := by decide +kernel
theorem dX13_stands_2 : decode cX13_stands 2 = .ok (.putfield 403, 3) := by decide +kernel
theorem dX13_stands_5 : decode cX13_stands 5 = .ok (.iconst 0, 1) := by decide +kernel
theorem dX13_stands_6 : decode cX13_stands 6 = .ok (.istore_n 1, 1) := by decide +kernel
theorem dX13_stands_7 : decode cX13_stands 7 = .ok (.iload_n 1, 1) := by decide +kernel
theorem dX13_stands_8 : decode cX13_stands 8 = .ok (.iconst 3, 1) := by decide +kernel
theorem dX13_stands_9 : decode cX13_stands 9 = .ok (.if_icmp .ge 79, 3) := by decide +kernel
theorem dX13_stands_12 : decode cX13_stands 12 = .ok (.aload_n 0, 1) := by decide +kernel
theorem dX13_stands_13 : decode cX13_stands 13 = .ok (.getfield 123, 3) := by decide +kernel
theorem dX13_stands_16 : decode cX13_stands 16 = .ok (.iconst 3, 1) := by decide +kernel
theorem dX13_stands_17 : decode cX13_stands 17 = .ok (.iload_n 1, 1) := by decide +kernel
theorem dX13_stands_18 : decode cX13_stands 18 = .ok (.iadd, 1) := by decide +kernel
theorem dX13_stands_19 : decode cX13_stands 19 = .ok (.aload_n 0, 1) := by decide +kernel
theorem dX13_stands_20 : decode cX13_stands 20 = .ok (.getfield 123, 3) := by decide +kernel
theorem dX13_stands_23 : decode cX13_stands 23 = .ok (.iload_n 1, 1) := by decide +kernel
theorem dX13_stands_24 : decode cX13_stands 24 = .ok (.iaload, 1) := by decide +kernel
theorem dX13_stands_25 : decode cX13_stands 25 = .ok (.iastore, 1) := by decide +kernel
theorem dX13_stands_26 : decode cX13_stands 26 = .ok (.aload_n 0, 1) := by decide +kernel
theorem dX13_stands_27 : decode cX13_stands 27 = .ok (.getfield 120, 3) := by decide +kernel
theorem dX13_stands_30 : decode cX13_stands 30 = .ok (.iconst 3, 1) := by decide +kernel
theorem dX13_stands_31 : decode cX13_stands 31 = .ok (.iload_n 1, 1) := by decide +kernel
theorem dX13_stands_32 : decode cX13_stands 32 = .ok (.iadd, 1) := by decide +kernel
theorem dX13_stands_33 : decode cX13_stands 33 = .ok (.aload_n 0, 1) := by decide +kernel
theorem dX13_stands_34 : decode cX13_stands 34 = .ok (.getfield 120, 3) := by decide +kernel
theorem dX13_stands_37 : decode cX13_stands 37 = .ok (.iload_n 1, 1) := by decide +kernel
theorem dX13_stands_38 : decode cX13_stands 38 = .ok (.iaload, 1) := by decide +kernel
theorem dX13_stands_39 : decode cX13_stands 39 = .ok (.iastore, 1) := by decide +kernel
theorem dX13_stands_40 : decode cX13_stands 40 = .ok (.aload_n 0, 1) := by decide +kernel
theorem dX13_stands_41 : decode cX13_stands 41 = .ok (.getfield 139, 3) := by decide +kernel
theorem dX13_stands_44 : decode cX13_stands 44 = .ok (.iconst 3, 1) := by decide +kernel
theorem dX13_stands_45 : decode cX13_stands 45 = .ok (.iload_n 1, 1) := by decide +kernel
theorem dX13_stands_46 : decode cX13_stands 46 = .ok (.iadd, 1) := by decide +kernel
theorem dX13_stands_47 : decode cX13_stands 47 = .ok (.aload_n 0, 1) := by decide +kernel
theorem dX13_stands_48 : decode cX13_stands 48 = .ok (.getfield 139, 3) := by decide +kernel
theorem dX13_stands_51 : decode cX13_stands 51 = .ok (.iload_n 1, 1) := by decide +kernel
theorem dX13_stands_52 : decode cX13_stands 52 = .ok (.iaload, 1) := by decide +kernel
theorem dX13_stands_53 : decode cX13_stands 53 = .ok (.iastore, 1) := by decide +kernel
theorem dX13_stands_54 : decode cX13_stands 54 = .ok (.aload_n 0, 1) := by decide +kernel
theorem dX13_stands_55 : decode cX13_stands 55 = .ok (.getfield 142, 3) := by decide +kernel
theorem dX13_stands_58 : decode cX13_stands 58 = .ok (.iconst 3, 1) := by decide +kernel
theorem dX13_stands_59 : decode cX13_stands 59 = .ok (.iload_n 1, 1) := by decide +kernel
theorem dX13_stands_60 : decode cX13_stands 60 = .ok (.iadd, 1) := by decide +kernel
theorem dX13_stands_61 : decode cX13_stands 61 = .ok (.aload_n 0, 1) := by decide +kernel
theorem dX13_stands_62 : decode cX13_stands 62 = .ok (.getfield 142, 3) := by decide +kernel
theorem dX13_stands_65 : decode cX13_stands 65 = .ok (.iload_n 1, 1) := by decide +kernel
theorem dX13_stands_66 : decode cX13_stands 66 = .ok (.iaload, 1) := by decide +kernel
theorem dX13_stands_67 : decode cX13_stands 67 = .ok (.iastore, 1) := by decide +kernel
theorem dX13_stands_68 : decode cX13_stands 68 = .ok (.aload_n 0, 1) := by decide +kernel
theorem dX13_stands_69 : decode cX13_stands 69 = .ok (.getfield 145, 3) := by decide +kernel
theorem dX13_stands_72 : decode cX13_stands 72 = .ok (.iconst 3, 1) := by decide +kernel
theorem dX13_stands_73 : decode cX13_stands 73 = .ok (.iload_n 1, 1) := by decide +kernel
theorem dX13_stands_74 : decode cX13_stands 74 = .ok (.iadd, 1) := by decide +kernel
theorem dX13_stands_75 : decode cX13_stands 75 = .ok (.aload_n 0, 1) := by decide +kernel
theorem dX13_stands_76 : decode cX13_stands 76 = .ok (.getfield 145, 3) := by decide +kernel
theorem dX13_stands_79 : decode cX13_stands 79 = .ok (.iload_n 1, 1) := by decide +kernel
theorem dX13_stands_80 : decode cX13_stands 80 = .ok (.iaload, 1) := by decide +kernel
theorem dX13_stands_81 : decode cX13_stands 81 = .ok (.iastore, 1) := by decide +kernel
theorem dX13_stands_82 : decode cX13_stands 82 = .ok (.iinc 1 1, 3) := by decide +kernel
theorem dX13_stands_85 : decode cX13_stands 85 = .ok (.goto (-78), 3) := by decide +kernel
theorem dX13_stands_88 : decode cX13_stands 88 = .ok (.iconst 0, 1) := by decide +kernel
theorem dX13_stands_89 : decode cX13_stands 89 = .ok (.istore_n 1, 1) := by decide +kernel
theorem dX13_stands_90 : decode cX13_stands 90 = .ok (.iload_n 1, 1) := by decide +kernel
theorem dX13_stands_91 : decode cX13_stands 91 = .ok (.bipush 12, 2) := by decide +kernel
theorem dX13_stands_93 : decode cX13_stands 93 = .ok (.if_icmp .ge 24, 3) := by decide +kernel
theorem dX13_stands_96 : decode cX13_stands 96 = .ok (.aload_n 0, 1) := by decide +kernel
theorem dX13_stands_97 : decode cX13_stands 97 = .ok (.getfield 126, 3) := by decide +kernel
theorem dX13_stands_100 : decode cX13_stands 100 = .ok (.bipush 12, 2) := by decide +kernel
theorem dX13_stands_102 : decode cX13_stands 102 = .ok (.iload_n 1, 1) := by decide +kernel
theorem dX13_stands_103 : decode cX13_stands 103 = .ok (.iadd, 1) := by decide +kernel
theorem dX13_stands_104 : decode cX13_stands 104 = .ok (.aload_n 0, 1) := by decide +kernel
theorem dX13_stands_105 : decode cX13_stands 105 = .ok (.getfield 126, 3) := by decide +kernel
theorem dX13_stands_108 : decode cX13_stands 108 = .ok (.iload_n 1, 1) := by decide +kernel
theorem dX13_stands_109 : decode cX13_stands 109 = .ok (.laload, 1) := by decide +kernel
theorem dX13_stands_110 : decode cX13_stands 110 = .ok (.lastore, 1) := by decide +kernel
theorem dX13_stands_111 : decode cX13_stands 111 = .ok (.iinc 1 1, 3) := by decide +kernel
theorem dX13_stands_114 : decode cX13_stands 114 = .ok (.goto (-24), 3) := by decide +kernel
theorem dX13_stands_117 : decode cX13_stands 117 = .ok (.iconst 0, 1) := by decide +kernel
theorem dX13_stands_118 : decode cX13_stands 118 = .ok (.istore_n 1, 1) := by decide +kernel
theorem dX13_stands_119 : decode cX13_stands 119 = .ok (.iload_n 1, 1) := by decide +kernel
theorem dX13_stands_120 : decode cX13_stands 120 = .ok (.bipush 10, 2) := by decide +kernel
theorem dX13_stands_122 : decode cX13_stands 122 = .ok (.if_icmp .ge 39, 3) := by decide +kernel
theorem dX13_stands_125 : decode cX13_stands 125 = .ok (.aload_n 0, 1) := by decide +kernel
theorem dX13_stands_126 : decode cX13_stands 126 = .ok (.getfield 130, 3) := by decide +kernel
theorem dX13_stands_129 : decode cX13_stands 129 = .ok (.bipush 10, 2) := by decide +kernel
theorem dX13_stands_131 : decode cX13_stands 131 = .ok (.iload_n 1, 1) := by decide +kernel
theorem dX13_stands_132 : decode cX13_stands 132 = .ok (.iadd, 1) := by decide +kernel
theorem dX13_stands_133 : decode cX13_stands 133 = .ok (.aload_n 0, 1) := by decide +kernel
theorem dX13_stands_134 : decode cX13_stands 134 = .ok (.getfield 130, 3) := by decide +kernel
theorem dX13_stands_137 : decode cX13_stands 137 = .ok (.iload_n 1, 1) := by decide +kernel
theorem dX13_stands_138 : decode cX13_stands 138 = .ok (.iaload, 1) := by decide +kernel
theorem dX13_stands_139 : decode cX13_stands 139 = .ok (.iastore, 1) := by decide +kernel
theorem dX13_stands_140 : decode cX13_stands 140 = .ok (.aload_n 0, 1) := by decide +kernel
theorem dX13_stands_141 : decode cX13_stands 141 = .ok (.getfield 133, 3) := by decide +kernel
theorem dX13_stands_144 : decode cX13_stands 144 = .ok (.bipush 10, 2) := by decide +kernel
theorem dX13_stands_146 : decode cX13_stands 146 = .ok (.iload_n 1, 1) := by decide +kernel
theorem dX13_stands_147 : decode cX13_stands 147 = .ok (.iadd, 1) := by decide +kernel
theorem dX13_stands_148 : decode cX13_stands 148 = .ok (.aload_n 0, 1) := by decide +kernel
theorem dX13_stands_149 : decode cX13_stands 149 = .ok (.getfield 133, 3) := by decide +kernel
theorem dX13_stands_152 : decode cX13_stands 152 = .ok (.iload_n 1, 1) := by decide +kernel
theorem dX13_stands_153 : decode cX13_stands 153 = .ok (.iaload, 1) := by decide +kernel
theorem dX13_stands_154 : decode cX13_stands 154 = .ok (.iastore, 1) := by decide +kernel
theorem dX13_stands_155 : decode cX13_stands 155 = .ok (.iinc 1 1, 3) := by decide +kernel
theorem dX13_stands_158 : decode cX13_stands 158 = .ok (.goto (-39), 3) := by decide +kernel
theorem dX13_stands_161 : decode cX13_stands 161 = .ok (.iconst 0, 1) := by decide +kernel
theorem dX13_stands_162 : decode cX13_stands 162 = .ok (.istore_n 1, 1) := by decide +kernel
theorem dX13_stands_163 : decode cX13_stands 163 = .ok (.iload_n 1, 1) := by decide +kernel
theorem dX13_stands_164 : decode cX13_stands 164 = .ok (.bipush 30, 2) := by decide +kernel
theorem dX13_stands_166 : decode cX13_stands 166 = .ok (.if_icmp .ge 24, 3) := by decide +kernel
theorem dX13_stands_169 : decode cX13_stands 169 = .ok (.aload_n 0, 1) := by decide +kernel
theorem dX13_stands_170 : decode cX13_stands 170 = .ok (.getfield 136, 3) := by decide +kernel
theorem dX13_stands_173 : decode cX13_stands 173 = .ok (.bipush 30, 2) := by decide +kernel
theorem dX13_stands_175 : decode cX13_stands 175 = .ok (.iload_n 1, 1) := by decide +kernel
theorem dX13_stands_176 : decode cX13_stands 176 = .ok (.iadd, 1) := by decide +kernel
theorem dX13_stands_177 : decode cX13_stands 177 = .ok (.aload_n 0, 1) := by decide +kernel
theorem dX13_stands_178 : decode cX13_stands 178 = .ok (.getfield 136, 3) := by decide +kernel
theorem dX13_stands_181 : decode cX13_stands 181 = .ok (.iload_n 1, 1) := by decide +kernel
theorem dX13_stands_182 : decode cX13_stands 182 = .ok (.iaload, 1) := by decide +kernel
theorem dX13_stands_183 : decode cX13_stands 183 = .ok (.iastore, 1) := by decide +kernel
theorem dX13_stands_184 : decode cX13_stands 184 = .ok (.iinc 1 1, 3) := by decide +kernel
theorem dX13_stands_187 : decode cX13_stands 187 = .ok (.goto (-24), 3) := by decide +kernel
theorem dX13_stands_190 : decode cX13_stands 190 = .ok (.iconst 0, 1) := by decide +kernel
theorem dX13_stands_191 : decode cX13_stands 191 = .ok (.istore_n 1, 1) := by decide +kernel
theorem dX13_stands_192 : decode cX13_stands 192 = .ok (.iload_n 1, 1) := by decide +kernel
theorem dX13_stands_193 : decode cX13_stands 193 = .ok (.aload_n 0, 1) := by decide +kernel
theorem dX13_stands_194 : decode cX13_stands 194 = .ok (.getfield 373, 3) := by decide +kernel
theorem dX13_stands_197 : decode cX13_stands 197 = .ok (.if_icmp .ge 25, 3) := by decide +kernel
theorem dX13_stands_200 : decode cX13_stands 200 = .ok (.aload_n 0, 1) := by decide +kernel
theorem dX13_stands_201 : decode cX13_stands 201 = .ok (.getfield 148, 3) := by decide +kernel
theorem dX13_stands_204 : decode cX13_stands 204 = .ok (.sipush 1600, 3) := by decide +kernel
theorem dX13_stands_207 : decode cX13_stands 207 = .ok (.iload_n 1, 1) := by decide +kernel
theorem dX13_stands_208 : decode cX13_stands 208 = .ok (.iadd, 1) := by decide +kernel
theorem dX13_stands_209 : decode cX13_stands 209 = .ok (.aload_n 0, 1) := by decide +kernel
theorem dX13_stands_210 : decode cX13_stands 210 = .ok (.getfield 148, 3) := by decide +kernel
theorem dX13_stands_213 : decode cX13_stands 213 = .ok (.iload_n 1, 1) := by decide +kernel
theorem dX13_stands_214 : decode cX13_stands 214 = .ok (.iaload, 1) := by decide +kernel
theorem dX13_stands_215 : decode cX13_stands 215 = .ok (.iastore, 1) := by decide +kernel
theorem dX13_stands_216 : decode cX13_stands 216 = .ok (.iinc 1 1, 3) := by decide +kernel
theorem dX13_stands_219 : decode cX13_stands 219 = .ok (.goto (-27), 3) := by decide +kernel
theorem dX13_stands_222 : decode cX13_stands 222 = .ok (.iconst 0, 1) := by decide +kernel
theorem dX13_stands_223 : decode cX13_stands 223 = .ok (.istore_n 1, 1) := by decide +kernel
theorem dX13_stands_224 : decode cX13_stands 224 = .ok (.iload_n 1, 1) := by decide +kernel
theorem dX13_stands_225 : decode cX13_stands 225 = .ok (.sipush 187, 3) := by decide +kernel
theorem dX13_stands_228 : decode cX13_stands 228 = .ok (.if_icmp .ge 16, 3) := by decide +kernel
theorem dX13_stands_231 : decode cX13_stands 231 = .ok (.aload_n 0, 1) := by decide +kernel
theorem dX13_stands_232 : decode cX13_stands 232 = .ok (.getfield 151, 3) := by decide +kernel
theorem dX13_stands_235 : decode cX13_stands 235 = .ok (.iload_n 1, 1) := by decide +kernel
theorem dX13_stands_236 : decode cX13_stands 236 = .ok (.iconst 0, 1) := by decide +kernel
theorem dX13_stands_237 : decode cX13_stands 237 = .ok (.iastore, 1) := by decide +kernel
theorem dX13_stands_238 : decode cX13_stands 238 = .ok (.iinc 1 1, 3) := by decide +kernel
theorem dX13_stands_241 : decode cX13_stands 241 = .ok (.goto (-17), 3) := by decide +kernel
theorem dX13_stands_244 : decode cX13_stands 244 = .ok (.iconst 0, 1) := by decide +kernel
theorem dX13_stands_245 : decode cX13_stands 245 = .ok (.istore_n 1, 1) := by decide +kernel
theorem dX13_stands_246 : decode cX13_stands 246 = .ok (.iload_n 1, 1) := by decide +kernel
theorem dX13_stands_247 : decode cX13_stands 247 = .ok (.aload_n 0, 1) := by decide +kernel
theorem dX13_stands_248 : decode cX13_stands 248 = .ok (.getfield 123, 3) := by decide +kernel
theorem dX13_stands_251 : decode cX13_stands 251 = .ok (.iconst 1, 1) := by decide +kernel
theorem dX13_stands_252 : decode cX13_stands 252 = .ok (.iaload, 1) := by decide +kernel
theorem dX13_stands_253 : decode cX13_stands 253 = .ok (.if_icmp .ge 29, 3) := by decide +kernel
theorem dX13_stands_256 : decode cX13_stands 256 = .ok (.aload_n 0, 1) := by decide +kernel
theorem dX13_stands_257 : decode cX13_stands 257 = .ok (.getfield 151, 3) := by decide +kernel
theorem dX13_stands_260 : decode cX13_stands 260 = .ok (.iconst 2, 1) := by decide +kernel
theorem dX13_stands_261 : decode cX13_stands 261 = .ok (.iconst 4, 1) := by decide +kernel
theorem dX13_stands_262 : decode cX13_stands 262 = .ok (.iload_n 1, 1) := by decide +kernel
theorem dX13_stands_263 : decode cX13_stands 263 = .ok (.imul, 1) := by decide +kernel
theorem dX13_stands_264 : decode cX13_stands 264 = .ok (.iadd, 1) := by decide +kernel
theorem dX13_stands_265 : decode cX13_stands 265 = .ok (.aload_n 0, 1) := by decide +kernel
theorem dX13_stands_266 : decode cX13_stands 266 = .ok (.getfield 136, 3) := by decide +kernel
theorem dX13_stands_269 : decode cX13_stands 269 = .ok (.iconst 5, 1) := by decide +kernel
theorem dX13_stands_270 : decode cX13_stands 270 = .ok (.iload_n 1, 1) := by decide +kernel
theorem dX13_stands_271 : decode cX13_stands 271 = .ok (.imul, 1) := by decide +kernel
theorem dX13_stands_272 : decode cX13_stands 272 = .ok (.iconst 2, 1) := by decide +kernel
theorem dX13_stands_273 : decode cX13_stands 273 = .ok (.iadd, 1) := by decide +kernel
theorem dX13_stands_274 : decode cX13_stands 274 = .ok (.iaload, 1) := by decide +kernel
theorem dX13_stands_275 : decode cX13_stands 275 = .ok (.iastore, 1) := by decide +kernel
theorem dX13_stands_276 : decode cX13_stands 276 = .ok (.iinc 1 1, 3) := by decide +kernel
theorem dX13_stands_279 : decode cX13_stands 279 = .ok (.goto (-33), 3) := by decide +kernel
theorem dX13_stands_282 : decode cX13_stands 282 = .ok (.aload_n 0, 1) := by decide +kernel
theorem dX13_stands_283 : decode cX13_stands 283 = .ok (.iconst 0, 1) := by decide +kernel
theorem dX13_stands_284 : decode cX13_stands 284 = .ok (.putfield 407, 3) := by decide +kernel
theorem dX13_stands_287 : decode cX13_stands 287 = .ok (.aload_n 0, 1) := by decide +kernel
theorem dX13_stands_288 : decode cX13_stands 288 = .ok (.iconst 0, 1) := by decide +kernel
theorem dX13_stands_289 : decode cX13_stands 289 = .ok (.putfield 410, 3) := by decide +kernel
theorem dX13_stands_292 : decode cX13_stands 292 = .ok (.return_, 1) := by decide +kernel
theorem dX13_fault_0 : decode cX13_fault 0 = .ok (.iload_n 1, 1) := by decide +kernel
theorem dX13_fault_1 : decode cX13_fault 1 = .ok (.ifCond .ne 10, 3) := by decide +kernel
theorem dX13_fault_4 : decode cX13_fault 4 = .ok (.aload_n 0, 1) := by decide +kernel
theorem dX13_fault_5 : decode cX13_fault 5 = .ok (.getfield 397, 3) := by decide +kernel
theorem dX13_fault_8 : decode cX13_fault 8 = .ok (.goto 16, 3) := by decide +kernel
theorem dX13_fault_11 : decode cX13_fault 11 = .ok (.iload_n 1, 1) := by decide +kernel
theorem dX13_fault_12 : decode cX13_fault 12 = .ok (.iconst 1, 1) := by decide +kernel
theorem dX13_fault_13 : decode cX13_fault 13 = .ok (.if_icmp .ne 10, 3) := by decide +kernel
theorem dX13_fault_16 : decode cX13_fault 16 = .ok (.aload_n 0, 1) := by decide +kernel
theorem dX13_fault_17 : decode cX13_fault 17 = .ok (.getfield 13, 3) := by decide +kernel
theorem dX13_fault_20 : decode cX13_fault 20 = .ok (.goto 4, 3) := by decide +kernel
theorem dX13_fault_23 : decode cX13_fault 23 = .ok (.iconst (-1), 1) := by decide +kernel
theorem dX13_fault_24 : decode cX13_fault 24 = .ok (.ireturn, 1) := by decide +kernel
theorem dX13_bellMany_0 : decode cX13_bellMany 0 = .ok (.aload_n 0, 1) := by decide +kernel
theorem dX13_bellMany_1 : decode cX13_bellMany 1 = .ok (.getfield 123, 3) := by decide +kernel
theorem dX13_bellMany_4 : decode cX13_bellMany 4 = .ok (.iconst 3, 1) := by decide +kernel
theorem dX13_bellMany_5 : decode cX13_bellMany 5 = .ok (.iaload, 1) := by decide +kernel
theorem dX13_bellMany_6 : decode cX13_bellMany 6 = .ok (.ireturn, 1) := by decide +kernel
theorem dX13_walkerMany_0 : decode cX13_walkerMany 0 = .ok (.aload_n 0, 1) := by decide +kernel
theorem dX13_walkerMany_1 : decode cX13_walkerMany 1 = .ok (.getfield 123, 3) := by decide +kernel
theorem dX13_walkerMany_4 : decode cX13_walkerMany 4 = .ok (.iconst 4, 1) := by decide +kernel
theorem dX13_walkerMany_5 : decode cX13_walkerMany 5 = .ok (.iaload, 1) := by decide +kernel
theorem dX13_walkerMany_6 : decode cX13_walkerMany 6 = .ok (.ireturn, 1) := by decide +kernel
theorem dX13_chapelMany_0 : decode cX13_chapelMany 0 = .ok (.aload_n 0, 1) := by decide +kernel
theorem dX13_chapelMany_1 : decode cX13_chapelMany 1 = .ok (.getfield 123, 3) := by decide +kernel
theorem dX13_chapelMany_4 : decode cX13_chapelMany 4 = .ok (.iconst 5, 1) := by decide +kernel
theorem dX13_chapelMany_5 : decode cX13_chapelMany 5 = .ok (.iaload, 1) := by decide +kernel
theorem dX13_chapelMany_6 : decode cX13_chapelMany 6 = .ok (.ireturn, 1) := by decide +kernel
theorem dX13_isBell_0 : decode cX13_isBell 0 = .ok (.iload_n 1, 1) := by decide +kernel
theorem dX13_isBell_1 : decode cX13_isBell 1 = .ok (.i2l, 1) := by decide +kernel
theorem dX13_isBell_2 : decode cX13_isBell 2 = .ok (.lconst 0, 1) := by decide +kernel
theorem dX13_isBell_3 : decode cX13_isBell 3 = .ok (.aload_n 0, 1) := by decide +kernel
theorem dX13_isBell_4 : decode cX13_isBell 4 = .ok (.invokevirtual 413, 3) := by decide +kernel
theorem dX13_isBell_7 : decode cX13_isBell 7 = .ok (.iconst 1, 1) := by decide +kernel
theorem dX13_isBell_8 : decode cX13_isBell 8 = .ok (.isub, 1) := by decide +kernel
theorem dX13_isBell_9 : decode cX13_isBell 9 = .ok (.i2l, 1) := by decide +kernel
theorem dX13_isBell_10 : decode cX13_isBell 10 = .ok (.invokestatic 307, 3) := by decide +kernel
theorem dX13_isBell_13 : decode cX13_isBell 13 = .ok (.ireturn, 1) := by decide +kernel
theorem dX13_isWalker_0 : decode cX13_isWalker 0 = .ok (.iload_n 1, 1) := by decide +kernel
theorem dX13_isWalker_1 : decode cX13_isWalker 1 = .ok (.i2l, 1) := by decide +kernel
theorem dX13_isWalker_2 : decode cX13_isWalker 2 = .ok (.lconst 0, 1) := by decide +kernel
theorem dX13_isWalker_3 : decode cX13_isWalker 3 = .ok (.aload_n 0, 1) := by decide +kernel
theorem dX13_isWalker_4 : decode cX13_isWalker 4 = .ok (.invokevirtual 416, 3) := by decide +kernel
theorem dX13_isWalker_7 : decode cX13_isWalker 7 = .ok (.iconst 1, 1) := by decide +kernel
theorem dX13_isWalker_8 : decode cX13_isWalker 8 = .ok (.isub, 1) := by decide +kernel
theorem dX13_isWalker_9 : decode cX13_isWalker 9 = .ok (.i2l, 1) := by decide +kernel
theorem dX13_isWalker_10 : decode cX13_isWalker 10 = .ok (.invokestatic 307, 3) := by decide +kernel
theorem dX13_isWalker_13 : decode cX13_isWalker 13 = .ok (.ireturn, 1) := by decide +kernel
theorem dX13_mannerOf_0 : decode cX13_mannerOf 0 = .ok (.aload_n 0, 1) := by decide +kernel
theorem dX13_mannerOf_1 : decode cX13_mannerOf 1 = .ok (.getfield 151, 3) := by decide +kernel
theorem dX13_mannerOf_4 : decode cX13_mannerOf 4 = .ok (.iconst 2, 1) := by decide +kernel
theorem dX13_mannerOf_5 : decode cX13_mannerOf 5 = .ok (.iconst 4, 1) := by decide +kernel
theorem dX13_mannerOf_6 : decode cX13_mannerOf 6 = .ok (.iload_n 1, 1) := by decide +kernel
theorem dX13_mannerOf_7 : decode cX13_mannerOf 7 = .ok (.imul, 1) := by decide +kernel
theorem dX13_mannerOf_8 : decode cX13_mannerOf 8 = .ok (.iadd, 1) := by decide +kernel
theorem dX13_mannerOf_9 : decode cX13_mannerOf 9 = .ok (.iaload, 1) := by decide +kernel
theorem dX13_mannerOf_10 : decode cX13_mannerOf 10 = .ok (.ireturn, 1) := by decide +kernel
theorem dX13_metBy_0 : decode cX13_metBy 0 = .ok (.aload_n 0, 1) := by decide +kernel
theorem dX13_metBy_1 : decode cX13_metBy 1 = .ok (.getfield 151, 3) := by decide +kernel
theorem dX13_metBy_4 : decode cX13_metBy 4 = .ok (.iconst 2, 1) := by decide +kernel
theorem dX13_metBy_5 : decode cX13_metBy 5 = .ok (.iconst 4, 1) := by decide +kernel
theorem dX13_metBy_6 : decode cX13_metBy 6 = .ok (.iload_n 1, 1) := by decide +kernel
theorem dX13_metBy_7 : decode cX13_metBy 7 = .ok (.imul, 1) := by decide +kernel
theorem dX13_metBy_8 : decode cX13_metBy 8 = .ok (.iadd, 1) := by decide +kernel
theorem dX13_metBy_9 : decode cX13_metBy 9 = .ok (.iconst 1, 1) := by decide +kernel
theorem dX13_metBy_10 : decode cX13_metBy 10 = .ok (.iadd, 1) := by decide +kernel
theorem dX13_metBy_11 : decode cX13_metBy 11 = .ok (.iaload, 1) := by decide +kernel
theorem dX13_metBy_12 : decode cX13_metBy 12 = .ok (.ireturn, 1) := by decide +kernel
theorem dX13_purseOf_0 : decode cX13_purseOf 0 = .ok (.aload_n 0, 1) := by decide +kernel
theorem dX13_purseOf_1 : decode cX13_purseOf 1 = .ok (.getfield 151, 3) := by decide +kernel
theorem dX13_purseOf_4 : decode cX13_purseOf 4 = .ok (.iconst 2, 1) := by decide +kernel
theorem dX13_purseOf_5 : decode cX13_purseOf 5 = .ok (.iconst 4, 1) := by decide +kernel
theorem dX13_purseOf_6 : decode cX13_purseOf 6 = .ok (.iload_n 1, 1) := by decide +kernel
theorem dX13_purseOf_7 : decode cX13_purseOf 7 = .ok (.imul, 1) := by decide +kernel
theorem dX13_purseOf_8 : decode cX13_purseOf 8 = .ok (.iadd, 1) := by decide +kernel
theorem dX13_purseOf_9 : decode cX13_purseOf 9 = .ok (.iconst 2, 1) := by decide +kernel
theorem dX13_purseOf_10 : decode cX13_purseOf 10 = .ok (.iadd, 1) := by decide +kernel
theorem dX13_purseOf_11 : decode cX13_purseOf 11 = .ok (.iaload, 1) := by decide +kernel
theorem dX13_purseOf_12 : decode cX13_purseOf 12 = .ok (.ireturn, 1) := by decide +kernel
theorem dX13_goneBy_0 : decode cX13_goneBy 0 = .ok (.aload_n 0, 1) := by decide +kernel
theorem dX13_goneBy_1 : decode cX13_goneBy 1 = .ok (.getfield 151, 3) := by decide +kernel
theorem dX13_goneBy_4 : decode cX13_goneBy 4 = .ok (.iconst 2, 1) := by decide +kernel
theorem dX13_goneBy_5 : decode cX13_goneBy 5 = .ok (.iconst 4, 1) := by decide +kernel
theorem dX13_goneBy_6 : decode cX13_goneBy 6 = .ok (.iload_n 1, 1) := by decide +kernel
theorem dX13_goneBy_7 : decode cX13_goneBy 7 = .ok (.imul, 1) := by decide +kernel
theorem dX13_goneBy_8 : decode cX13_goneBy 8 = .ok (.iadd, 1) := by decide +kernel
theorem dX13_goneBy_9 : decode cX13_goneBy 9 = .ok (.iconst 3, 1) := by decide +kernel
theorem dX13_goneBy_10 : decode cX13_goneBy 10 = .ok (.iadd, 1) := by decide +kernel
theorem dX13_goneBy_11 : decode cX13_goneBy 11 = .ok (.iaload, 1) := by decide +kernel
theorem dX13_goneBy_12 : decode cX13_goneBy 12 = .ok (.ireturn, 1) := by decide +kernel
theorem dX13_apart_0 : decode cX13_apart 0 = .ok (.iload_n 0, 1) := by decide +kernel
theorem dX13_apart_1 : decode cX13_apart 1 = .ok (.bipush 7, 2) := by decide +kernel
theorem dX13_apart_3 : decode cX13_apart 3 = .ok (.irem, 1) := by decide +kernel
theorem dX13_apart_4 : decode cX13_apart 4 = .ok (.iload_n 1, 1) := by decide +kernel
theorem dX13_apart_5 : decode cX13_apart 5 = .ok (.bipush 7, 2) := by decide +kernel
theorem dX13_apart_7 : decode cX13_apart 7 = .ok (.irem, 1) := by decide +kernel
theorem dX13_apart_8 : decode cX13_apart 8 = .ok (.isub, 1) := by decide +kernel
theorem dX13_apart_9 : decode cX13_apart 9 = .ok (.istore_n 2, 1) := by decide +kernel
theorem dX13_apart_10 : decode cX13_apart 10 = .ok (.iload_n 0, 1) := by decide +kernel
theorem dX13_apart_11 : decode cX13_apart 11 = .ok (.bipush 7, 2) := by decide +kernel
theorem dX13_apart_13 : decode cX13_apart 13 = .ok (.idiv, 1) := by decide +kernel
theorem dX13_apart_14 : decode cX13_apart 14 = .ok (.iload_n 1, 1) := by decide +kernel
theorem dX13_apart_15 : decode cX13_apart 15 = .ok (.bipush 7, 2) := by decide +kernel
theorem dX13_apart_17 : decode cX13_apart 17 = .ok (.idiv, 1) := by decide +kernel
theorem dX13_apart_18 : decode cX13_apart 18 = .ok (.isub, 1) := by decide +kernel
theorem dX13_apart_19 : decode cX13_apart 19 = .ok (.istore_n 3, 1) := by decide +kernel
theorem dX13_apart_20 : decode cX13_apart 20 = .ok (.iload_n 2, 1) := by decide +kernel
theorem dX13_apart_21 : decode cX13_apart 21 = .ok (.ifCond .ge 6, 3) := by decide +kernel
theorem dX13_apart_24 : decode cX13_apart 24 = .ok (.iload_n 2, 1) := by decide +kernel
theorem dX13_apart_25 : decode cX13_apart 25 = .ok (.ineg, 1) := by decide +kernel
theorem dX13_apart_26 : decode cX13_apart 26 = .ok (.istore_n 2, 1) := by decide +kernel
theorem dX13_apart_27 : decode cX13_apart 27 = .ok (.iload_n 3, 1) := by decide +kernel
theorem dX13_apart_28 : decode cX13_apart 28 = .ok (.ifCond .ge 6, 3) := by decide +kernel
theorem dX13_apart_31 : decode cX13_apart 31 = .ok (.iload_n 3, 1) := by decide +kernel
theorem dX13_apart_32 : decode cX13_apart 32 = .ok (.ineg, 1) := by decide +kernel
theorem dX13_apart_33 : decode cX13_apart 33 = .ok (.istore_n 3, 1) := by decide +kernel
theorem dX13_apart_34 : decode cX13_apart 34 = .ok (.iload_n 2, 1) := by decide +kernel
theorem dX13_apart_35 : decode cX13_apart 35 = .ok (.iload_n 3, 1) := by decide +kernel
theorem dX13_apart_36 : decode cX13_apart 36 = .ok (.if_icmp .le 7, 3) := by decide +kernel
theorem dX13_apart_39 : decode cX13_apart 39 = .ok (.iload_n 2, 1) := by decide +kernel
theorem dX13_apart_40 : decode cX13_apart 40 = .ok (.goto 4, 3) := by decide +kernel
theorem dX13_apart_43 : decode cX13_apart 43 = .ok (.iload_n 3, 1) := by decide +kernel
theorem dX13_apart_44 : decode cX13_apart 44 = .ok (.ireturn, 1) := by decide +kernel
theorem dX13_across_0 : decode cX13_across 0 = .ok (.iload_n 0, 1) := by decide +kernel
theorem dX13_across_1 : decode cX13_across 1 = .ok (.iconst 2, 1) := by decide +kernel
theorem dX13_across_2 : decode cX13_across 2 = .ok (.if_icmp .eq 13, 3) := by decide +kernel
theorem dX13_across_5 : decode cX13_across 5 = .ok (.iload_n 0, 1) := by decide +kernel
theorem dX13_across_6 : decode cX13_across 6 = .ok (.iconst 3, 1) := by decide +kernel
theorem dX13_across_7 : decode cX13_across 7 = .ok (.if_icmp .eq 8, 3) := by decide +kernel
theorem dX13_across_10 : decode cX13_across 10 = .ok (.iload_n 0, 1) := by decide +kernel
theorem dX13_across_11 : decode cX13_across 11 = .ok (.iconst 4, 1) := by decide +kernel
theorem dX13_across_12 : decode cX13_across 12 = .ok (.if_icmp .ne 7, 3) := by decide +kernel
theorem dX13_across_15 : decode cX13_across 15 = .ok (.iconst 1, 1) := by decide +kernel
theorem dX13_across_16 : decode cX13_across 16 = .ok (.goto 26, 3) := by decide +kernel
theorem dX13_across_19 : decode cX13_across 19 = .ok (.iload_n 0, 1) := by decide +kernel
theorem dX13_across_20 : decode cX13_across 20 = .ok (.bipush 6, 2) := by decide +kernel
theorem dX13_across_22 : decode cX13_across 22 = .ok (.if_icmp .eq 15, 3) := by decide +kernel
theorem dX13_across_25 : decode cX13_across 25 = .ok (.iload_n 0, 1) := by decide +kernel
theorem dX13_across_26 : decode cX13_across 26 = .ok (.bipush 7, 2) := by decide +kernel
theorem dX13_across_28 : decode cX13_across 28 = .ok (.if_icmp .eq 9, 3) := by decide +kernel
theorem dX13_across_31 : decode cX13_across 31 = .ok (.iload_n 0, 1) := by decide +kernel
theorem dX13_across_32 : decode cX13_across 32 = .ok (.bipush 8, 2) := by decide +kernel
theorem dX13_across_34 : decode cX13_across 34 = .ok (.if_icmp .ne 7, 3) := by decide +kernel
theorem dX13_across_37 : decode cX13_across 37 = .ok (.iconst (-1), 1) := by decide +kernel
theorem dX13_across_38 : decode cX13_across 38 = .ok (.goto 4, 3) := by decide +kernel
theorem dX13_across_41 : decode cX13_across 41 = .ok (.iconst 0, 1) := by decide +kernel
theorem dX13_across_42 : decode cX13_across 42 = .ok (.ireturn, 1) := by decide +kernel
theorem dX13_down_0 : decode cX13_down 0 = .ok (.iload_n 0, 1) := by decide +kernel
theorem dX13_down_1 : decode cX13_down 1 = .ok (.iconst 4, 1) := by decide +kernel
theorem dX13_down_2 : decode cX13_down 2 = .ok (.if_icmp .eq 14, 3) := by decide +kernel
theorem dX13_down_5 : decode cX13_down 5 = .ok (.iload_n 0, 1) := by decide +kernel
theorem dX13_down_6 : decode cX13_down 6 = .ok (.iconst 5, 1) := by decide +kernel
theorem dX13_down_7 : decode cX13_down 7 = .ok (.if_icmp .eq 9, 3) := by decide +kernel
theorem dX13_down_10 : decode cX13_down 10 = .ok (.iload_n 0, 1) := by decide +kernel
theorem dX13_down_11 : decode cX13_down 11 = .ok (.bipush 6, 2) := by decide +kernel
theorem dX13_down_13 : decode cX13_down 13 = .ok (.if_icmp .ne 7, 3) := by decide +kernel
theorem dX13_down_16 : decode cX13_down 16 = .ok (.iconst 1, 1) := by decide +kernel
theorem dX13_down_17 : decode cX13_down 17 = .ok (.goto 24, 3) := by decide +kernel
theorem dX13_down_20 : decode cX13_down 20 = .ok (.iload_n 0, 1) := by decide +kernel
theorem dX13_down_21 : decode cX13_down 21 = .ok (.iconst 1, 1) := by decide +kernel
theorem dX13_down_22 : decode cX13_down 22 = .ok (.if_icmp .eq 14, 3) := by decide +kernel
theorem dX13_down_25 : decode cX13_down 25 = .ok (.iload_n 0, 1) := by decide +kernel
theorem dX13_down_26 : decode cX13_down 26 = .ok (.iconst 2, 1) := by decide +kernel
theorem dX13_down_27 : decode cX13_down 27 = .ok (.if_icmp .eq 9, 3) := by decide +kernel
theorem dX13_down_30 : decode cX13_down 30 = .ok (.iload_n 0, 1) := by decide +kernel
theorem dX13_down_31 : decode cX13_down 31 = .ok (.bipush 8, 2) := by decide +kernel
theorem dX13_down_33 : decode cX13_down 33 = .ok (.if_icmp .ne 7, 3) := by decide +kernel
theorem dX13_down_36 : decode cX13_down 36 = .ok (.iconst (-1), 1) := by decide +kernel
theorem dX13_down_37 : decode cX13_down 37 = .ok (.goto 4, 3) := by decide +kernel
theorem dX13_down_40 : decode cX13_down 40 = .ok (.iconst 0, 1) := by decide +kernel
theorem dX13_down_41 : decode cX13_down 41 = .ok (.ireturn, 1) := by decide +kernel
theorem dX13_isInside_0 : decode cX13_isInside 0 = .ok (.iload_n 1, 1) := by decide +kernel
theorem dX13_isInside_1 : decode cX13_isInside 1 = .ok (.i2l, 1) := by decide +kernel
theorem dX13_isInside_2 : decode cX13_isInside 2 = .ok (.lconst 0, 1) := by decide +kernel
theorem dX13_isInside_3 : decode cX13_isInside 3 = .ok (.aload_n 0, 1) := by decide +kernel
theorem dX13_isInside_4 : decode cX13_isInside 4 = .ok (.getfield 120, 3) := by decide +kernel
theorem dX13_isInside_7 : decode cX13_isInside 7 = .ok (.iconst 3, 1) := by decide +kernel
theorem dX13_isInside_8 : decode cX13_isInside 8 = .ok (.iaload, 1) := by decide +kernel
theorem dX13_isInside_9 : decode cX13_isInside 9 = .ok (.iconst 1, 1) := by decide +kernel
theorem dX13_isInside_10 : decode cX13_isInside 10 = .ok (.isub, 1) := by decide +kernel
theorem dX13_isInside_11 : decode cX13_isInside 11 = .ok (.i2l, 1) := by decide +kernel
theorem dX13_isInside_12 : decode cX13_isInside 12 = .ok (.invokestatic 307, 3) := by decide +kernel
theorem dX13_isInside_15 : decode cX13_isInside 15 = .ok (.ifCond .eq 25, 3) := by decide +kernel
theorem dX13_isInside_18 : decode cX13_isInside 18 = .ok (.iload_n 2, 1) := by decide +kernel
theorem dX13_isInside_19 : decode cX13_isInside 19 = .ok (.i2l, 1) := by decide +kernel
theorem dX13_isInside_20 : decode cX13_isInside 20 = .ok (.lconst 0, 1) := by decide +kernel
theorem dX13_isInside_21 : decode cX13_isInside 21 = .ok (.aload_n 0, 1) := by decide +kernel
theorem dX13_isInside_22 : decode cX13_isInside 22 = .ok (.getfield 120, 3) := by decide +kernel
theorem dX13_isInside_25 : decode cX13_isInside 25 = .ok (.iconst 4, 1) := by decide +kernel
theorem dX13_isInside_26 : decode cX13_isInside 26 = .ok (.iaload, 1) := by decide +kernel
theorem dX13_isInside_27 : decode cX13_isInside 27 = .ok (.iconst 1, 1) := by decide +kernel
theorem dX13_isInside_28 : decode cX13_isInside 28 = .ok (.isub, 1) := by decide +kernel
theorem dX13_isInside_29 : decode cX13_isInside 29 = .ok (.i2l, 1) := by decide +kernel
theorem dX13_isInside_30 : decode cX13_isInside 30 = .ok (.invokestatic 307, 3) := by decide +kernel
theorem dX13_isInside_33 : decode cX13_isInside 33 = .ok (.ifCond .eq 7, 3) := by decide +kernel
theorem dX13_isInside_36 : decode cX13_isInside 36 = .ok (.iconst 1, 1) := by decide +kernel
theorem dX13_isInside_37 : decode cX13_isInside 37 = .ok (.goto 4, 3) := by decide +kernel
theorem dX13_isInside_40 : decode cX13_isInside 40 = .ok (.iconst 0, 1) := by decide +kernel
theorem dX13_isInside_41 : decode cX13_isInside 41 = .ok (.ireturn, 1) := by decide +kernel
theorem dX13_cellBy_0 : decode cX13_cellBy 0 = .ok (.iload_n 1, 1) := by decide +kernel
theorem dX13_cellBy_1 : decode cX13_cellBy 1 = .ok (.bipush 7, 2) := by decide +kernel
theorem dX13_cellBy_3 : decode cX13_cellBy 3 = .ok (.irem, 1) := by decide +kernel
theorem dX13_cellBy_4 : decode cX13_cellBy 4 = .ok (.iload_n 2, 1) := by decide +kernel
theorem dX13_cellBy_5 : decode cX13_cellBy 5 = .ok (.invokestatic 419, 3) := by decide +kernel
theorem dX13_cellBy_8 : decode cX13_cellBy 8 = .ok (.iadd, 1) := by decide +kernel
theorem dX13_cellBy_9 : decode cX13_cellBy 9 = .ok (.istore_n 3, 1) := by decide +kernel
theorem dX13_cellBy_10 : decode cX13_cellBy 10 = .ok (.iload_n 1, 1) := by decide +kernel
theorem dX13_cellBy_11 : decode cX13_cellBy 11 = .ok (.bipush 7, 2) := by decide +kernel
theorem dX13_cellBy_13 : decode cX13_cellBy 13 = .ok (.idiv, 1) := by decide +kernel
theorem dX13_cellBy_14 : decode cX13_cellBy 14 = .ok (.iload_n 2, 1) := by decide +kernel
theorem dX13_cellBy_15 : decode cX13_cellBy 15 = .ok (.invokestatic 423, 3) := by decide +kernel
theorem dX13_cellBy_18 : decode cX13_cellBy 18 = .ok (.iadd, 1) := by decide +kernel
theorem dX13_cellBy_19 : decode cX13_cellBy 19 = .ok (.istore 4, 2) := by decide +kernel
theorem dX13_cellBy_21 : decode cX13_cellBy 21 = .ok (.aload_n 0, 1) := by decide +kernel
theorem dX13_cellBy_22 : decode cX13_cellBy 22 = .ok (.iload_n 3, 1) := by decide +kernel
theorem dX13_cellBy_23 : decode cX13_cellBy 23 = .ok (.iload 4, 2) := by decide +kernel
theorem dX13_cellBy_25 : decode cX13_cellBy 25 = .ok (.invokevirtual 426, 3) := by decide +kernel
theorem dX13_cellBy_28 : decode cX13_cellBy 28 = .ok (.ifCond .eq 13, 3) := by decide +kernel
theorem dX13_cellBy_31 : decode cX13_cellBy 31 = .ok (.iload_n 3, 1) := by decide +kernel
theorem dX13_cellBy_32 : decode cX13_cellBy 32 = .ok (.bipush 7, 2) := by decide +kernel
theorem dX13_cellBy_34 : decode cX13_cellBy 34 = .ok (.iload 4, 2) := by decide +kernel
theorem dX13_cellBy_36 : decode cX13_cellBy 36 = .ok (.imul, 1) := by decide +kernel
theorem dX13_cellBy_37 : decode cX13_cellBy 37 = .ok (.iadd, 1) := by decide +kernel
theorem dX13_cellBy_38 : decode cX13_cellBy 38 = .ok (.goto 4, 3) := by decide +kernel
theorem dX13_cellBy_41 : decode cX13_cellBy 41 = .ok (.iconst (-1), 1) := by decide +kernel
theorem dX13_cellBy_42 : decode cX13_cellBy 42 = .ok (.ireturn, 1) := by decide +kernel
theorem dX13_isChapel_0 : decode cX13_isChapel 0 = .ok (.iconst 0, 1) := by decide +kernel
theorem dX13_isChapel_1 : decode cX13_isChapel 1 = .ok (.istore_n 2, 1) := by decide +kernel
theorem dX13_isChapel_2 : decode cX13_isChapel 2 = .ok (.iload_n 2, 1) := by decide +kernel
theorem dX13_isChapel_3 : decode cX13_isChapel 3 = .ok (.aload_n 0, 1) := by decide +kernel
theorem dX13_isChapel_4 : decode cX13_isChapel 4 = .ok (.invokevirtual 430, 3) := by decide +kernel
theorem dX13_isChapel_7 : decode cX13_isChapel 7 = .ok (.if_icmp .ge 24, 3) := by decide +kernel
theorem dX13_isChapel_10 : decode cX13_isChapel 10 = .ok (.aload_n 0, 1) := by decide +kernel
theorem dX13_isChapel_11 : decode cX13_isChapel 11 = .ok (.getfield 130, 3) := by decide +kernel
theorem dX13_isChapel_14 : decode cX13_isChapel 14 = .ok (.bipush 10, 2) := by decide +kernel
theorem dX13_isChapel_16 : decode cX13_isChapel 16 = .ok (.iload_n 2, 1) := by decide +kernel
theorem dX13_isChapel_17 : decode cX13_isChapel 17 = .ok (.iadd, 1) := by decide +kernel
theorem dX13_isChapel_18 : decode cX13_isChapel 18 = .ok (.iaload, 1) := by decide +kernel
theorem dX13_isChapel_19 : decode cX13_isChapel 19 = .ok (.iload_n 1, 1) := by decide +kernel
theorem dX13_isChapel_20 : decode cX13_isChapel 20 = .ok (.if_icmp .ne 5, 3) := by decide +kernel
theorem dX13_isChapel_23 : decode cX13_isChapel 23 = .ok (.iconst 1, 1) := by decide +kernel
theorem dX13_isChapel_24 : decode cX13_isChapel 24 = .ok (.ireturn, 1) := by decide +kernel
theorem dX13_isChapel_25 : decode cX13_isChapel 25 = .ok (.iinc 2 1, 3) := by decide +kernel
theorem dX13_isChapel_28 : decode cX13_isChapel 28 = .ok (.goto (-26), 3) := by decide +kernel
theorem dX13_isChapel_31 : decode cX13_isChapel 31 = .ok (.iconst 0, 1) := by decide +kernel
theorem dX13_isChapel_32 : decode cX13_isChapel 32 = .ok (.ireturn, 1) := by decide +kernel
theorem dX13_isRinging_0 : decode cX13_isRinging 0 = .ok (.iconst 0, 1) := by decide +kernel
theorem dX13_isRinging_1 : decode cX13_isRinging 1 = .ok (.istore_n 3, 1) := by decide +kernel
theorem dX13_isRinging_2 : decode cX13_isRinging 2 = .ok (.iload_n 3, 1) := by decide +kernel
theorem dX13_isRinging_3 : decode cX13_isRinging 3 = .ok (.aload_n 0, 1) := by decide +kernel
theorem dX13_isRinging_4 : decode cX13_isRinging 4 = .ok (.invokevirtual 413, 3) := by decide +kernel
theorem dX13_isRinging_7 : decode cX13_isRinging 7 = .ok (.if_icmp .ge 39, 3) := by decide +kernel
theorem dX13_isRinging_10 : decode cX13_isRinging 10 = .ok (.iload_n 2, 1) := by decide +kernel
theorem dX13_isRinging_11 : decode cX13_isRinging 11 = .ok (.iload_n 3, 1) := by decide +kernel
theorem dX13_isRinging_12 : decode cX13_isRinging 12 = .ok (.ishr, 1) := by decide +kernel
theorem dX13_isRinging_13 : decode cX13_isRinging 13 = .ok (.iconst 1, 1) := by decide +kernel
theorem dX13_isRinging_14 : decode cX13_isRinging 14 = .ok (.iand, 1) := by decide +kernel
theorem dX13_isRinging_15 : decode cX13_isRinging 15 = .ok (.iconst 1, 1) := by decide +kernel
theorem dX13_isRinging_16 : decode cX13_isRinging 16 = .ok (.if_icmp .ne 24, 3) := by decide +kernel
theorem dX13_isRinging_19 : decode cX13_isRinging 19 = .ok (.iload_n 1, 1) := by decide +kernel
theorem dX13_isRinging_20 : decode cX13_isRinging 20 = .ok (.aload_n 0, 1) := by decide +kernel
theorem dX13_isRinging_21 : decode cX13_isRinging 21 = .ok (.getfield 133, 3) := by decide +kernel
theorem dX13_isRinging_24 : decode cX13_isRinging 24 = .ok (.bipush 10, 2) := by decide +kernel
theorem dX13_isRinging_26 : decode cX13_isRinging 26 = .ok (.iconst 2, 1) := by decide +kernel
theorem dX13_isRinging_27 : decode cX13_isRinging 27 = .ok (.iload_n 3, 1) := by decide +kernel
theorem dX13_isRinging_28 : decode cX13_isRinging 28 = .ok (.imul, 1) := by decide +kernel
theorem dX13_isRinging_29 : decode cX13_isRinging 29 = .ok (.iadd, 1) := by decide +kernel
theorem dX13_isRinging_30 : decode cX13_isRinging 30 = .ok (.iaload, 1) := by decide +kernel
theorem dX13_isRinging_31 : decode cX13_isRinging 31 = .ok (.invokestatic 433, 3) := by decide +kernel
theorem dX13_isRinging_34 : decode cX13_isRinging 34 = .ok (.iconst 1, 1) := by decide +kernel
theorem dX13_isRinging_35 : decode cX13_isRinging 35 = .ok (.if_icmp .gt 5, 3) := by decide +kernel
theorem dX13_isRinging_38 : decode cX13_isRinging 38 = .ok (.iconst 1, 1) := by decide +kernel
theorem dX13_isRinging_39 : decode cX13_isRinging 39 = .ok (.ireturn, 1) := by decide +kernel
theorem dX13_isRinging_40 : decode cX13_isRinging 40 = .ok (.iinc 3 1, 3) := by decide +kernel
theorem dX13_isRinging_43 : decode cX13_isRinging 43 = .ok (.goto (-41), 3) := by decide +kernel
theorem dX13_isRinging_46 : decode cX13_isRinging 46 = .ok (.iconst 0, 1) := by decide +kernel
theorem dX13_isRinging_47 : decode cX13_isRinging 47 = .ok (.ireturn, 1) := by decide +kernel
theorem dX13_codesTell_0 : decode cX13_codesTell 0 = .ok (.aload_n 0, 1) := by decide +kernel
theorem dX13_codesTell_1 : decode cX13_codesTell 1 = .ok (.iload_n 1, 1) := by decide +kernel
theorem dX13_codesTell_2 : decode cX13_codesTell 2 = .ok (.ifCond .ne 7, 3) := by decide +kernel
theorem dX13_codesTell_5 : decode cX13_codesTell 5 = .ok (.iconst 0, 1) := by decide +kernel
theorem dX13_codesTell_6 : decode cX13_codesTell 6 = .ok (.goto 4, 3) := by decide +kernel
theorem dX13_codesTell_9 : decode cX13_codesTell 9 = .ok (.iconst 1, 1) := by decide +kernel
theorem dX13_codesTell_10 : decode cX13_codesTell 10 = .ok (.putfield 322, 3) := by decide +kernel
theorem dX13_codesTell_13 : decode cX13_codesTell 13 = .ok (.aload_n 0, 1) := by decide +kernel
theorem dX13_codesTell_14 : decode cX13_codesTell 14 = .ok (.iconst 0, 1) := by decide +kernel
theorem dX13_codesTell_15 : decode cX13_codesTell 15 = .ok (.putfield 436, 3) := by decide +kernel
theorem dX13_codesTell_18 : decode cX13_codesTell 18 = .ok (.aload_n 0, 1) := by decide +kernel
theorem dX13_codesTell_19 : decode cX13_codesTell 19 = .ok (.getfield 142, 3) := by decide +kernel
theorem dX13_codesTell_22 : decode cX13_codesTell 22 = .ok (.iconst 3, 1) := by decide +kernel
theorem dX13_codesTell_23 : decode cX13_codesTell 23 = .ok (.iload_n 1, 1) := by decide +kernel
theorem dX13_codesTell_24 : decode cX13_codesTell 24 = .ok (.iadd, 1) := by decide +kernel
theorem dX13_codesTell_25 : decode cX13_codesTell 25 = .ok (.iaload, 1) := by decide +kernel
theorem dX13_codesTell_26 : decode cX13_codesTell 26 = .ok (.istore_n 3, 1) := by decide +kernel
theorem dX13_codesTell_27 : decode cX13_codesTell 27 = .ok (.iload_n 3, 1) := by decide +kernel
theorem dX13_codesTell_28 : decode cX13_codesTell 28 = .ok (.aload_n 0, 1) := by decide +kernel
theorem dX13_codesTell_29 : decode cX13_codesTell 29 = .ok (.getfield 145, 3) := by decide +kernel
theorem dX13_codesTell_32 : decode cX13_codesTell 32 = .ok (.iconst 3, 1) := by decide +kernel
theorem dX13_codesTell_33 : decode cX13_codesTell 33 = .ok (.iload_n 1, 1) := by decide +kernel
theorem dX13_codesTell_34 : decode cX13_codesTell 34 = .ok (.iadd, 1) := by decide +kernel
theorem dX13_codesTell_35 : decode cX13_codesTell 35 = .ok (.iaload, 1) := by decide +kernel
theorem dX13_codesTell_36 : decode cX13_codesTell 36 = .ok (.if_icmp .ge 122, 3) := by decide +kernel
theorem dX13_codesTell_39 : decode cX13_codesTell 39 = .ok (.aload_n 0, 1) := by decide +kernel
theorem dX13_codesTell_40 : decode cX13_codesTell 40 = .ok (.getfield 148, 3) := by decide +kernel
theorem dX13_codesTell_43 : decode cX13_codesTell 43 = .ok (.sipush 1600, 3) := by decide +kernel
theorem dX13_codesTell_46 : decode cX13_codesTell 46 = .ok (.iload_n 3, 1) := by decide +kernel
theorem dX13_codesTell_47 : decode cX13_codesTell 47 = .ok (.iadd, 1) := by decide +kernel
theorem dX13_codesTell_48 : decode cX13_codesTell 48 = .ok (.iaload, 1) := by decide +kernel
theorem dX13_codesTell_49 : decode cX13_codesTell 49 = .ok (.istore 4, 2) := by decide +kernel
theorem dX13_codesTell_51 : decode cX13_codesTell 51 = .ok (.iload 4, 2) := by decide +kernel
theorem dX13_codesTell_53 : decode cX13_codesTell 53 = .ok (.sipush 1000, 3) := by decide +kernel
theorem dX13_codesTell_56 : decode cX13_codesTell 56 = .ok (.if_icmp .lt 17, 3) := by decide +kernel
theorem dX13_codesTell_59 : decode cX13_codesTell 59 = .ok (.aload_n 0, 1) := by decide +kernel
theorem dX13_codesTell_60 : decode cX13_codesTell 60 = .ok (.iload 4, 2) := by decide +kernel
theorem dX13_codesTell_62 : decode cX13_codesTell 62 = .ok (.sipush 1000, 3) := by decide +kernel
theorem dX13_codesTell_65 : decode cX13_codesTell 65 = .ok (.isub, 1) := by decide +kernel
theorem dX13_codesTell_66 : decode cX13_codesTell 66 = .ok (.i2l, 1) := by decide +kernel
theorem dX13_codesTell_67 : decode cX13_codesTell 67 = .ok (.invokevirtual 439, 3) := by decide +kernel
theorem dX13_codesTell_70 : decode cX13_codesTell 70 = .ok (.goto 82, 3) := by decide +kernel
theorem dX13_codesTell_73 : decode cX13_codesTell 73 = .ok (.iload 4, 2) := by decide +kernel
theorem dX13_codesTell_75 : decode cX13_codesTell 75 = .ok (.bipush 40, 2) := by decide +kernel
theorem dX13_codesTell_77 : decode cX13_codesTell 77 = .ok (.if_icmp .lt 20, 3) := by decide +kernel
theorem dX13_codesTell_80 : decode cX13_codesTell 80 = .ok (.aload_n 0, 1) := by decide +kernel
theorem dX13_codesTell_81 : decode cX13_codesTell 81 = .ok (.aload_n 0, 1) := by decide +kernel
theorem dX13_codesTell_82 : decode cX13_codesTell 82 = .ok (.iload 4, 2) := by decide +kernel
theorem dX13_codesTell_84 : decode cX13_codesTell 84 = .ok (.bipush 40, 2) := by decide +kernel
theorem dX13_codesTell_86 : decode cX13_codesTell 86 = .ok (.isub, 1) := by decide +kernel
theorem dX13_codesTell_87 : decode cX13_codesTell 87 = .ok (.iload_n 2, 1) := by decide +kernel
theorem dX13_codesTell_88 : decode cX13_codesTell 88 = .ok (.invokevirtual 443, 3) := by decide +kernel
theorem dX13_codesTell_91 : decode cX13_codesTell 91 = .ok (.invokevirtual 439, 3) := by decide +kernel
theorem dX13_codesTell_94 : decode cX13_codesTell 94 = .ok (.goto 58, 3) := by decide +kernel
theorem dX13_codesTell_97 : decode cX13_codesTell 97 = .ok (.iload 4, 2) := by decide +kernel
theorem dX13_codesTell_99 : decode cX13_codesTell 99 = .ok (.bipush 13, 2) := by decide +kernel
theorem dX13_codesTell_101 : decode cX13_codesTell 101 = .ok (.if_icmp .ne 11, 3) := by decide +kernel
theorem dX13_codesTell_104 : decode cX13_codesTell 104 = .ok (.aload_n 0, 1) := by decide +kernel
theorem dX13_codesTell_105 : decode cX13_codesTell 105 = .ok (.lconst 1, 1) := by decide +kernel
theorem dX13_codesTell_106 : decode cX13_codesTell 106 = .ok (.invokevirtual 439, 3) := by decide +kernel
theorem dX13_codesTell_109 : decode cX13_codesTell 109 = .ok (.goto 43, 3) := by decide +kernel
theorem dX13_codesTell_112 : decode cX13_codesTell 112 = .ok (.iload 4, 2) := by decide +kernel
theorem dX13_codesTell_114 : decode cX13_codesTell 114 = .ok (.bipush 12, 2) := by decide +kernel
theorem dX13_codesTell_116 : decode cX13_codesTell 116 = .ok (.if_icmp .ne 30, 3) := by decide +kernel
theorem dX13_codesTell_119 : decode cX13_codesTell 119 = .ok (.aload_n 0, 1) := by decide +kernel
theorem dX13_codesTell_120 : decode cX13_codesTell 120 = .ok (.getfield 255, 3) := by decide +kernel
theorem dX13_codesTell_123 : decode cX13_codesTell 123 = .ok (.aload_n 0, 1) := by decide +kernel
theorem dX13_codesTell_124 : decode cX13_codesTell 124 = .ok (.getfield 436, 3) := by decide +kernel
theorem dX13_codesTell_127 : decode cX13_codesTell 127 = .ok (.iconst 1, 1) := by decide +kernel
theorem dX13_codesTell_128 : decode cX13_codesTell 128 = .ok (.isub, 1) := by decide +kernel
theorem dX13_codesTell_129 : decode cX13_codesTell 129 = .ok (.lconst 1, 1) := by decide +kernel
theorem dX13_codesTell_130 : decode cX13_codesTell 130 = .ok (.aload_n 0, 1) := by decide +kernel
theorem dX13_codesTell_131 : decode cX13_codesTell 131 = .ok (.getfield 255, 3) := by decide +kernel
theorem dX13_codesTell_134 : decode cX13_codesTell 134 = .ok (.aload_n 0, 1) := by decide +kernel
theorem dX13_codesTell_135 : decode cX13_codesTell 135 = .ok (.getfield 436, 3) := by decide +kernel
theorem dX13_codesTell_138 : decode cX13_codesTell 138 = .ok (.iconst 1, 1) := by decide +kernel
theorem dX13_codesTell_139 : decode cX13_codesTell 139 = .ok (.isub, 1) := by decide +kernel
theorem dX13_codesTell_140 : decode cX13_codesTell 140 = .ok (.laload, 1) := by decide +kernel
theorem dX13_codesTell_141 : decode cX13_codesTell 141 = .ok (.lsub, 1) := by decide +kernel
theorem dX13_codesTell_142 : decode cX13_codesTell 142 = .ok (.lastore, 1) := by decide +kernel
theorem dX13_codesTell_143 : decode cX13_codesTell 143 = .ok (.goto 9, 3) := by decide +kernel
theorem dX13_codesTell_146 : decode cX13_codesTell 146 = .ok (.aload_n 0, 1) := by decide +kernel
theorem dX13_codesTell_147 : decode cX13_codesTell 147 = .ok (.iload 4, 2) := by decide +kernel
theorem dX13_codesTell_149 : decode cX13_codesTell 149 = .ok (.invokevirtual 447, 3) := by decide +kernel
theorem dX13_codesTell_152 : decode cX13_codesTell 152 = .ok (.iinc 3 1, 3) := by decide +kernel
theorem dX13_codesTell_155 : decode cX13_codesTell 155 = .ok (.goto (-128), 3) := by decide +kernel
theorem dX13_codesTell_158 : decode cX13_codesTell 158 = .ok (.aload_n 0, 1) := by decide +kernel
theorem dX13_codesTell_159 : decode cX13_codesTell 159 = .ok (.getfield 255, 3) := by decide +kernel
theorem dX13_codesTell_162 : decode cX13_codesTell 162 = .ok (.iconst 0, 1) := by decide +kernel
theorem dX13_codesTell_163 : decode cX13_codesTell 163 = .ok (.laload, 1) := by decide +kernel
theorem dX13_codesTell_164 : decode cX13_codesTell 164 = .ok (.lreturn, 1) := by decide +kernel
theorem dX13_wayAt_0 : decode cX13_wayAt 0 = .ok (.aload_n 0, 1) := by decide +kernel
theorem dX13_wayAt_1 : decode cX13_wayAt 1 = .ok (.getfield 142, 3) := by decide +kernel
theorem dX13_wayAt_4 : decode cX13_wayAt 4 = .ok (.iconst 3, 1) := by decide +kernel
theorem dX13_wayAt_5 : decode cX13_wayAt 5 = .ok (.iaload, 1) := by decide +kernel
theorem dX13_wayAt_6 : decode cX13_wayAt 6 = .ok (.iconst (-1), 1) := by decide +kernel
theorem dX13_wayAt_7 : decode cX13_wayAt 7 = .ok (.if_icmp .ne 5, 3) := by decide +kernel
theorem dX13_wayAt_10 : decode cX13_wayAt 10 = .ok (.iconst 3, 1) := by decide +kernel
theorem dX13_wayAt_11 : decode cX13_wayAt 11 = .ok (.ireturn, 1) := by decide +kernel
theorem dX13_wayAt_12 : decode cX13_wayAt 12 = .ok (.aload_n 0, 1) := by decide +kernel
theorem dX13_wayAt_13 : decode cX13_wayAt 13 = .ok (.iload_n 1, 1) := by decide +kernel
theorem dX13_wayAt_14 : decode cX13_wayAt 14 = .ok (.putfield 450, 3) := by decide +kernel
theorem dX13_wayAt_17 : decode cX13_wayAt 17 = .ok (.aload_n 0, 1) := by decide +kernel
theorem dX13_wayAt_18 : decode cX13_wayAt 18 = .ok (.aload_n 0, 1) := by decide +kernel
theorem dX13_wayAt_19 : decode cX13_wayAt 19 = .ok (.getfield 151, 3) := by decide +kernel
theorem dX13_wayAt_22 : decode cX13_wayAt 22 = .ok (.iconst 0, 1) := by decide +kernel
theorem dX13_wayAt_23 : decode cX13_wayAt 23 = .ok (.iaload, 1) := by decide +kernel
theorem dX13_wayAt_24 : decode cX13_wayAt 24 = .ok (.putfield 453, 3) := by decide +kernel
theorem dX13_wayAt_27 : decode cX13_wayAt 27 = .ok (.aload_n 0, 1) := by decide +kernel
theorem dX13_wayAt_28 : decode cX13_wayAt 28 = .ok (.iload_n 2, 1) := by decide +kernel
theorem dX13_wayAt_29 : decode cX13_wayAt 29 = .ok (.putfield 456, 3) := by decide +kernel
theorem dX13_wayAt_32 : decode cX13_wayAt 32 = .ok (.aload_n 0, 1) := by decide +kernel
theorem dX13_wayAt_33 : decode cX13_wayAt 33 = .ok (.iconst 0, 1) := by decide +kernel
theorem dX13_wayAt_34 : decode cX13_wayAt 34 = .ok (.iconst 0, 1) := by decide +kernel
theorem dX13_wayAt_35 : decode cX13_wayAt 35 = .ok (.invokevirtual 459, 3) := by decide +kernel
theorem dX13_wayAt_38 : decode cX13_wayAt 38 = .ok (.ldc2_w 462, 3) := by decide +kernel
theorem dX13_wayAt_41 : decode cX13_wayAt 41 = .ok (.lrem, 1) := by decide +kernel
theorem dX13_wayAt_42 : decode cX13_wayAt 42 = .ok (.l2i, 1) := by decide +kernel
theorem dX13_wayAt_43 : decode cX13_wayAt 43 = .ok (.istore_n 3, 1) := by decide +kernel
theorem dX13_wayAt_44 : decode cX13_wayAt 44 = .ok (.iload_n 3, 1) := by decide +kernel
theorem dX13_wayAt_45 : decode cX13_wayAt 45 = .ok (.ifCond .ge 10, 3) := by decide +kernel
theorem dX13_wayAt_48 : decode cX13_wayAt 48 = .ok (.iload_n 3, 1) := by decide +kernel
theorem dX13_wayAt_49 : decode cX13_wayAt 49 = .ok (.bipush 9, 2) := by decide +kernel
theorem dX13_wayAt_51 : decode cX13_wayAt 51 = .ok (.iadd, 1) := by decide +kernel
theorem dX13_wayAt_52 : decode cX13_wayAt 52 = .ok (.goto 4, 3) := by decide +kernel
theorem dX13_wayAt_55 : decode cX13_wayAt 55 = .ok (.iload_n 3, 1) := by decide +kernel
theorem dX13_wayAt_56 : decode cX13_wayAt 56 = .ok (.ireturn, 1) := by decide +kernel
theorem dX13_nextCell_0 : decode cX13_nextCell 0 = .ok (.aload_n 0, 1) := by decide +kernel
theorem dX13_nextCell_1 : decode cX13_nextCell 1 = .ok (.iload_n 2, 1) := by decide +kernel
theorem dX13_nextCell_2 : decode cX13_nextCell 2 = .ok (.iload_n 1, 1) := by decide +kernel
theorem dX13_nextCell_3 : decode cX13_nextCell 3 = .ok (.invokevirtual 464, 3) := by decide +kernel
theorem dX13_nextCell_6 : decode cX13_nextCell 6 = .ok (.istore 4, 2) := by decide +kernel
theorem dX13_nextCell_8 : decode cX13_nextCell 8 = .ok (.iload 4, 2) := by decide +kernel
theorem dX13_nextCell_10 : decode cX13_nextCell 10 = .ok (.ifCond .ne 5, 3) := by decide +kernel
theorem dX13_nextCell_13 : decode cX13_nextCell 13 = .ok (.iload_n 1, 1) := by decide +kernel
theorem dX13_nextCell_14 : decode cX13_nextCell 14 = .ok (.ireturn, 1) := by decide +kernel
theorem dX13_nextCell_15 : decode cX13_nextCell 15 = .ok (.iconst 0, 1) := by decide +kernel
theorem dX13_nextCell_16 : decode cX13_nextCell 16 = .ok (.istore 5, 2) := by decide +kernel
theorem dX13_nextCell_18 : decode cX13_nextCell 18 = .ok (.iload 5, 2) := by decide +kernel
theorem dX13_nextCell_20 : decode cX13_nextCell 20 = .ok (.bipush 8, 2) := by decide +kernel
theorem dX13_nextCell_22 : decode cX13_nextCell 22 = .ok (.if_icmp .ge 65, 3) := by decide +kernel
theorem dX13_nextCell_25 : decode cX13_nextCell 25 = .ok (.aload_n 0, 1) := by decide +kernel
theorem dX13_nextCell_26 : decode cX13_nextCell 26 = .ok (.iload_n 1, 1) := by decide +kernel
theorem dX13_nextCell_27 : decode cX13_nextCell 27 = .ok (.iload 4, 2) := by decide +kernel
theorem dX13_nextCell_29 : decode cX13_nextCell 29 = .ok (.iconst 1, 1) := by decide +kernel
theorem dX13_nextCell_30 : decode cX13_nextCell 30 = .ok (.isub, 1) := by decide +kernel
theorem dX13_nextCell_31 : decode cX13_nextCell 31 = .ok (.iload 5, 2) := by decide +kernel
theorem dX13_nextCell_33 : decode cX13_nextCell 33 = .ok (.iadd, 1) := by decide +kernel
theorem dX13_nextCell_34 : decode cX13_nextCell 34 = .ok (.bipush 8, 2) := by decide +kernel
theorem dX13_nextCell_36 : decode cX13_nextCell 36 = .ok (.irem, 1) := by decide +kernel
theorem dX13_nextCell_37 : decode cX13_nextCell 37 = .ok (.iconst 1, 1) := by decide +kernel
theorem dX13_nextCell_38 : decode cX13_nextCell 38 = .ok (.iadd, 1) := by decide +kernel
theorem dX13_nextCell_39 : decode cX13_nextCell 39 = .ok (.invokevirtual 467, 3) := by decide +kernel
theorem dX13_nextCell_42 : decode cX13_nextCell 42 = .ok (.istore 6, 2) := by decide +kernel
theorem dX13_nextCell_44 : decode cX13_nextCell 44 = .ok (.iload 6, 2) := by decide +kernel
theorem dX13_nextCell_46 : decode cX13_nextCell 46 = .ok (.iconst (-1), 1) := by decide +kernel
theorem dX13_nextCell_47 : decode cX13_nextCell 47 = .ok (.if_icmp .eq 34, 3) := by decide +kernel
theorem dX13_nextCell_50 : decode cX13_nextCell 50 = .ok (.aload_n 0, 1) := by decide +kernel
theorem dX13_nextCell_51 : decode cX13_nextCell 51 = .ok (.iload 6, 2) := by decide +kernel
theorem dX13_nextCell_53 : decode cX13_nextCell 53 = .ok (.invokevirtual 470, 3) := by decide +kernel
theorem dX13_nextCell_56 : decode cX13_nextCell 56 = .ok (.ifCond .ne 25, 3) := by decide +kernel
theorem dX13_nextCell_59 : decode cX13_nextCell 59 = .ok (.iload 6, 2) := by decide +kernel
theorem dX13_nextCell_61 : decode cX13_nextCell 61 = .ok (.aload_n 0, 1) := by decide +kernel
theorem dX13_nextCell_62 : decode cX13_nextCell 62 = .ok (.getfield 163, 3) := by decide +kernel
theorem dX13_nextCell_65 : decode cX13_nextCell 65 = .ok (.if_icmp .eq 16, 3) := by decide +kernel
theorem dX13_nextCell_68 : decode cX13_nextCell 68 = .ok (.aload_n 0, 1) := by decide +kernel
theorem dX13_nextCell_69 : decode cX13_nextCell 69 = .ok (.iload 6, 2) := by decide +kernel
theorem dX13_nextCell_71 : decode cX13_nextCell 71 = .ok (.iload_n 3, 1) := by decide +kernel
theorem dX13_nextCell_72 : decode cX13_nextCell 72 = .ok (.invokevirtual 473, 3) := by decide +kernel
theorem dX13_nextCell_75 : decode cX13_nextCell 75 = .ok (.ifCond .ne 6, 3) := by decide +kernel
theorem dX13_nextCell_78 : decode cX13_nextCell 78 = .ok (.iload 6, 2) := by decide +kernel
theorem dX13_nextCell_80 : decode cX13_nextCell 80 = .ok (.ireturn, 1) := by decide +kernel
theorem dX13_nextCell_81 : decode cX13_nextCell 81 = .ok (.iinc 5 1, 3) := by decide +kernel
theorem dX13_nextCell_84 : decode cX13_nextCell 84 = .ok (.goto (-66), 3) := by decide +kernel
theorem dX13_nextCell_87 : decode cX13_nextCell 87 = .ok (.iload_n 1, 1) := by decide +kernel
theorem dX13_nextCell_88 : decode cX13_nextCell 88 = .ok (.ireturn, 1) := by decide +kernel
theorem dX13_laysRide_0 : decode cX13_laysRide 0 = .ok (.aload_n 0, 1) := by decide +kernel
theorem dX13_laysRide_1 : decode cX13_laysRide 1 = .ok (.getfield 160, 3) := by decide +kernel
theorem dX13_laysRide_4 : decode cX13_laysRide 4 = .ok (.iconst 0, 1) := by decide +kernel
theorem dX13_laysRide_5 : decode cX13_laysRide 5 = .ok (.iload_n 1, 1) := by decide +kernel
theorem dX13_laysRide_6 : decode cX13_laysRide 6 = .ok (.iastore, 1) := by decide +kernel
theorem dX13_laysRide_7 : decode cX13_laysRide 7 = .ok (.iconst 1, 1) := by decide +kernel
theorem dX13_laysRide_8 : decode cX13_laysRide 8 = .ok (.istore_n 3, 1) := by decide +kernel
theorem dX13_laysRide_9 : decode cX13_laysRide 9 = .ok (.iload_n 3, 1) := by decide +kernel
theorem dX13_laysRide_10 : decode cX13_laysRide 10 = .ok (.bipush 12, 2) := by decide +kernel
theorem dX13_laysRide_12 : decode cX13_laysRide 12 = .ok (.if_icmp .ge 31, 3) := by decide +kernel
theorem dX13_laysRide_15 : decode cX13_laysRide 15 = .ok (.aload_n 0, 1) := by decide +kernel
theorem dX13_laysRide_16 : decode cX13_laysRide 16 = .ok (.getfield 160, 3) := by decide +kernel
theorem dX13_laysRide_19 : decode cX13_laysRide 19 = .ok (.iload_n 3, 1) := by decide +kernel
theorem dX13_laysRide_20 : decode cX13_laysRide 20 = .ok (.aload_n 0, 1) := by decide +kernel
theorem dX13_laysRide_21 : decode cX13_laysRide 21 = .ok (.aload_n 0, 1) := by decide +kernel
theorem dX13_laysRide_22 : decode cX13_laysRide 22 = .ok (.getfield 160, 3) := by decide +kernel
theorem dX13_laysRide_25 : decode cX13_laysRide 25 = .ok (.iload_n 3, 1) := by decide +kernel
theorem dX13_laysRide_26 : decode cX13_laysRide 26 = .ok (.iconst 1, 1) := by decide +kernel
theorem dX13_laysRide_27 : decode cX13_laysRide 27 = .ok (.isub, 1) := by decide +kernel
theorem dX13_laysRide_28 : decode cX13_laysRide 28 = .ok (.iaload, 1) := by decide +kernel
theorem dX13_laysRide_29 : decode cX13_laysRide 29 = .ok (.iload_n 3, 1) := by decide +kernel
theorem dX13_laysRide_30 : decode cX13_laysRide 30 = .ok (.iconst 1, 1) := by decide +kernel
theorem dX13_laysRide_31 : decode cX13_laysRide 31 = .ok (.isub, 1) := by decide +kernel
theorem dX13_laysRide_32 : decode cX13_laysRide 32 = .ok (.iload_n 2, 1) := by decide +kernel
theorem dX13_laysRide_33 : decode cX13_laysRide 33 = .ok (.invokevirtual 476, 3) := by decide +kernel
theorem dX13_laysRide_36 : decode cX13_laysRide 36 = .ok (.iastore, 1) := by decide +kernel
theorem dX13_laysRide_37 : decode cX13_laysRide 37 = .ok (.iinc 3 1, 3) := by decide +kernel
theorem dX13_laysRide_40 : decode cX13_laysRide 40 = .ok (.goto (-31), 3) := by decide +kernel
theorem dX13_laysRide_43 : decode cX13_laysRide 43 = .ok (.return_, 1) := by decide +kernel
theorem dX13_ridesNow_0 : decode cX13_ridesNow 0 = .ok (.aload_n 0, 1) := by decide +kernel
theorem dX13_ridesNow_1 : decode cX13_ridesNow 1 = .ok (.aload_n 0, 1) := by decide +kernel
theorem dX13_ridesNow_2 : decode cX13_ridesNow 2 = .ok (.getfield 120, 3) := by decide +kernel
theorem dX13_ridesNow_5 : decode cX13_ridesNow 5 = .ok (.iconst 5, 1) := by decide +kernel
theorem dX13_ridesNow_6 : decode cX13_ridesNow 6 = .ok (.iaload, 1) := by decide +kernel
theorem dX13_ridesNow_7 : decode cX13_ridesNow 7 = .ok (.aload_n 0, 1) := by decide +kernel
theorem dX13_ridesNow_8 : decode cX13_ridesNow 8 = .ok (.getfield 151, 3) := by decide +kernel
theorem dX13_ridesNow_11 : decode cX13_ridesNow 11 = .ok (.iconst 1, 1) := by decide +kernel
theorem dX13_ridesNow_12 : decode cX13_ridesNow 12 = .ok (.iaload, 1) := by decide +kernel
theorem dX13_ridesNow_13 : decode cX13_ridesNow 13 = .ok (.invokevirtual 480, 3) := by decide +kernel
theorem dX13_ridesNow_16 : decode cX13_ridesNow 16 = .ok (.return_, 1) := by decide +kernel
theorem dX13_nearer_0 : decode cX13_nearer 0 = .ok (.iload_n 0, 1) := by decide +kernel
theorem dX13_nearer_1 : decode cX13_nearer 1 = .ok (.iload_n 1, 1) := by decide +kernel
theorem dX13_nearer_2 : decode cX13_nearer 2 = .ok (.if_icmp .ge 9, 3) := by decide +kernel
theorem dX13_nearer_5 : decode cX13_nearer 5 = .ok (.iload_n 0, 1) := by decide +kernel
theorem dX13_nearer_6 : decode cX13_nearer 6 = .ok (.iconst 1, 1) := by decide +kernel
theorem dX13_nearer_7 : decode cX13_nearer 7 = .ok (.iadd, 1) := by decide +kernel
theorem dX13_nearer_8 : decode cX13_nearer 8 = .ok (.goto 15, 3) := by decide +kernel
theorem dX13_nearer_11 : decode cX13_nearer 11 = .ok (.iload_n 0, 1) := by decide +kernel
theorem dX13_nearer_12 : decode cX13_nearer 12 = .ok (.iload_n 1, 1) := by decide +kernel
theorem dX13_nearer_13 : decode cX13_nearer 13 = .ok (.if_icmp .le 9, 3) := by decide +kernel
theorem dX13_nearer_16 : decode cX13_nearer 16 = .ok (.iload_n 0, 1) := by decide +kernel
theorem dX13_nearer_17 : decode cX13_nearer 17 = .ok (.iconst 1, 1) := by decide +kernel
theorem dX13_nearer_18 : decode cX13_nearer 18 = .ok (.isub, 1) := by decide +kernel
theorem dX13_nearer_19 : decode cX13_nearer 19 = .ok (.goto 4, 3) := by decide +kernel
theorem dX13_nearer_22 : decode cX13_nearer 22 = .ok (.iload_n 0, 1) := by decide +kernel
theorem dX13_nearer_23 : decode cX13_nearer 23 = .ok (.ireturn, 1) := by decide +kernel
theorem dX13_crossesAt_0 : decode cX13_crossesAt 0 = .ok (.aload_n 0, 1) := by decide +kernel
theorem dX13_crossesAt_1 : decode cX13_crossesAt 1 = .ok (.getfield 136, 3) := by decide +kernel
theorem dX13_crossesAt_4 : decode cX13_crossesAt 4 = .ok (.bipush 30, 2) := by decide +kernel
theorem dX13_crossesAt_6 : decode cX13_crossesAt 6 = .ok (.iconst 5, 1) := by decide +kernel
theorem dX13_crossesAt_7 : decode cX13_crossesAt 7 = .ok (.iload_n 1, 1) := by decide +kernel
theorem dX13_crossesAt_8 : decode cX13_crossesAt 8 = .ok (.imul, 1) := by decide +kernel
theorem dX13_crossesAt_9 : decode cX13_crossesAt 9 = .ok (.iadd, 1) := by decide +kernel
theorem dX13_crossesAt_10 : decode cX13_crossesAt 10 = .ok (.iaload, 1) := by decide +kernel
theorem dX13_crossesAt_11 : decode cX13_crossesAt 11 = .ok (.bipush 7, 2) := by decide +kernel
theorem dX13_crossesAt_13 : decode cX13_crossesAt 13 = .ok (.irem, 1) := by decide +kernel
theorem dX13_crossesAt_14 : decode cX13_crossesAt 14 = .ok (.istore_n 2, 1) := by decide +kernel
theorem dX13_crossesAt_15 : decode cX13_crossesAt 15 = .ok (.aload_n 0, 1) := by decide +kernel
theorem dX13_crossesAt_16 : decode cX13_crossesAt 16 = .ok (.getfield 136, 3) := by decide +kernel
theorem dX13_crossesAt_19 : decode cX13_crossesAt 19 = .ok (.bipush 30, 2) := by decide +kernel
theorem dX13_crossesAt_21 : decode cX13_crossesAt 21 = .ok (.iconst 5, 1) := by decide +kernel
theorem dX13_crossesAt_22 : decode cX13_crossesAt 22 = .ok (.iload_n 1, 1) := by decide +kernel
theorem dX13_crossesAt_23 : decode cX13_crossesAt 23 = .ok (.imul, 1) := by decide +kernel
theorem dX13_crossesAt_24 : decode cX13_crossesAt 24 = .ok (.iadd, 1) := by decide +kernel
theorem dX13_crossesAt_25 : decode cX13_crossesAt 25 = .ok (.iaload, 1) := by decide +kernel
theorem dX13_crossesAt_26 : decode cX13_crossesAt 26 = .ok (.bipush 7, 2) := by decide +kernel
theorem dX13_crossesAt_28 : decode cX13_crossesAt 28 = .ok (.idiv, 1) := by decide +kernel
theorem dX13_crossesAt_29 : decode cX13_crossesAt 29 = .ok (.istore_n 3, 1) := by decide +kernel
theorem dX13_crossesAt_30 : decode cX13_crossesAt 30 = .ok (.iconst 0, 1) := by decide +kernel
theorem dX13_crossesAt_31 : decode cX13_crossesAt 31 = .ok (.istore 4, 2) := by decide +kernel
theorem dX13_crossesAt_33 : decode cX13_crossesAt 33 = .ok (.iload 4, 2) := by decide +kernel
theorem dX13_crossesAt_35 : decode cX13_crossesAt 35 = .ok (.bipush 12, 2) := by decide +kernel
theorem dX13_crossesAt_37 : decode cX13_crossesAt 37 = .ok (.if_icmp .ge 66, 3) := by decide +kernel
theorem dX13_crossesAt_40 : decode cX13_crossesAt 40 = .ok (.aload_n 0, 1) := by decide +kernel
theorem dX13_crossesAt_41 : decode cX13_crossesAt 41 = .ok (.getfield 160, 3) := by decide +kernel
theorem dX13_crossesAt_44 : decode cX13_crossesAt 44 = .ok (.iload 4, 2) := by decide +kernel
theorem dX13_crossesAt_46 : decode cX13_crossesAt 46 = .ok (.iaload, 1) := by decide +kernel
theorem dX13_crossesAt_47 : decode cX13_crossesAt 47 = .ok (.iload_n 2, 1) := by decide +kernel
theorem dX13_crossesAt_48 : decode cX13_crossesAt 48 = .ok (.bipush 7, 2) := by decide +kernel
theorem dX13_crossesAt_50 : decode cX13_crossesAt 50 = .ok (.iload_n 3, 1) := by decide +kernel
theorem dX13_crossesAt_51 : decode cX13_crossesAt 51 = .ok (.imul, 1) := by decide +kernel
theorem dX13_crossesAt_52 : decode cX13_crossesAt 52 = .ok (.iadd, 1) := by decide +kernel
theorem dX13_crossesAt_53 : decode cX13_crossesAt 53 = .ok (.if_icmp .ne 6, 3) := by decide +kernel
theorem dX13_crossesAt_56 : decode cX13_crossesAt 56 = .ok (.iload 4, 2) := by decide +kernel
theorem dX13_crossesAt_58 : decode cX13_crossesAt 58 = .ok (.ireturn, 1) := by decide +kernel
theorem dX13_crossesAt_59 : decode cX13_crossesAt 59 = .ok (.iload_n 2, 1) := by decide +kernel
theorem dX13_crossesAt_60 : decode cX13_crossesAt 60 = .ok (.aload_n 0, 1) := by decide +kernel
theorem dX13_crossesAt_61 : decode cX13_crossesAt 61 = .ok (.getfield 136, 3) := by decide +kernel
theorem dX13_crossesAt_64 : decode cX13_crossesAt 64 = .ok (.bipush 31, 2) := by decide +kernel
theorem dX13_crossesAt_66 : decode cX13_crossesAt 66 = .ok (.iconst 5, 1) := by decide +kernel
theorem dX13_crossesAt_67 : decode cX13_crossesAt 67 = .ok (.iload_n 1, 1) := by decide +kernel
theorem dX13_crossesAt_68 : decode cX13_crossesAt 68 = .ok (.imul, 1) := by decide +kernel
theorem dX13_crossesAt_69 : decode cX13_crossesAt 69 = .ok (.iadd, 1) := by decide +kernel
theorem dX13_crossesAt_70 : decode cX13_crossesAt 70 = .ok (.iaload, 1) := by decide +kernel
theorem dX13_crossesAt_71 : decode cX13_crossesAt 71 = .ok (.bipush 7, 2) := by decide +kernel
theorem dX13_crossesAt_73 : decode cX13_crossesAt 73 = .ok (.irem, 1) := by decide +kernel
theorem dX13_crossesAt_74 : decode cX13_crossesAt 74 = .ok (.invokestatic 483, 3) := by decide +kernel
theorem dX13_crossesAt_77 : decode cX13_crossesAt 77 = .ok (.istore_n 2, 1) := by decide +kernel
theorem dX13_crossesAt_78 : decode cX13_crossesAt 78 = .ok (.iload_n 3, 1) := by decide +kernel
theorem dX13_crossesAt_79 : decode cX13_crossesAt 79 = .ok (.aload_n 0, 1) := by decide +kernel
theorem dX13_crossesAt_80 : decode cX13_crossesAt 80 = .ok (.getfield 136, 3) := by decide +kernel
theorem dX13_crossesAt_83 : decode cX13_crossesAt 83 = .ok (.bipush 31, 2) := by decide +kernel
theorem dX13_crossesAt_85 : decode cX13_crossesAt 85 = .ok (.iconst 5, 1) := by decide +kernel
theorem dX13_crossesAt_86 : decode cX13_crossesAt 86 = .ok (.iload_n 1, 1) := by decide +kernel
theorem dX13_crossesAt_87 : decode cX13_crossesAt 87 = .ok (.imul, 1) := by decide +kernel
theorem dX13_crossesAt_88 : decode cX13_crossesAt 88 = .ok (.iadd, 1) := by decide +kernel
theorem dX13_crossesAt_89 : decode cX13_crossesAt 89 = .ok (.iaload, 1) := by decide +kernel
theorem dX13_crossesAt_90 : decode cX13_crossesAt 90 = .ok (.bipush 7, 2) := by decide +kernel
theorem dX13_crossesAt_92 : decode cX13_crossesAt 92 = .ok (.idiv, 1) := by decide +kernel
theorem dX13_crossesAt_93 : decode cX13_crossesAt 93 = .ok (.invokestatic 483, 3) := by decide +kernel
theorem dX13_crossesAt_96 : decode cX13_crossesAt 96 = .ok (.istore_n 3, 1) := by decide +kernel
theorem dX13_crossesAt_97 : decode cX13_crossesAt 97 = .ok (.iinc 4 1, 3) := by decide +kernel
theorem dX13_crossesAt_100 : decode cX13_crossesAt 100 = .ok (.goto (-67), 3) := by decide +kernel
theorem dX13_crossesAt_103 : decode cX13_crossesAt 103 = .ok (.iconst (-1), 1) := by decide +kernel
theorem dX13_crossesAt_104 : decode cX13_crossesAt 104 = .ok (.ireturn, 1) := by decide +kernel
theorem dX13_meetsAt_0 : decode cX13_meetsAt 0 = .ok (.aload_n 0, 1) := by decide +kernel
theorem dX13_meetsAt_1 : decode cX13_meetsAt 1 = .ok (.iload_n 1, 1) := by decide +kernel
theorem dX13_meetsAt_2 : decode cX13_meetsAt 2 = .ok (.invokevirtual 486, 3) := by decide +kernel
theorem dX13_meetsAt_5 : decode cX13_meetsAt 5 = .ok (.ifCond .eq 11, 3) := by decide +kernel
theorem dX13_meetsAt_8 : decode cX13_meetsAt 8 = .ok (.aload_n 0, 1) := by decide +kernel
theorem dX13_meetsAt_9 : decode cX13_meetsAt 9 = .ok (.iload_n 1, 1) := by decide +kernel
theorem dX13_meetsAt_10 : decode cX13_meetsAt 10 = .ok (.invokevirtual 489, 3) := by decide +kernel
theorem dX13_meetsAt_13 : decode cX13_meetsAt 13 = .ok (.ifCond .le 7, 3) := by decide +kernel
theorem dX13_meetsAt_16 : decode cX13_meetsAt 16 = .ok (.iconst (-1), 1) := by decide +kernel
theorem dX13_meetsAt_17 : decode cX13_meetsAt 17 = .ok (.goto 8, 3) := by decide +kernel
theorem dX13_meetsAt_20 : decode cX13_meetsAt 20 = .ok (.aload_n 0, 1) := by decide +kernel
theorem dX13_meetsAt_21 : decode cX13_meetsAt 21 = .ok (.iload_n 1, 1) := by decide +kernel
theorem dX13_meetsAt_22 : decode cX13_meetsAt 22 = .ok (.invokevirtual 492, 3) := by decide +kernel
theorem dX13_meetsAt_25 : decode cX13_meetsAt 25 = .ok (.ireturn, 1) := by decide +kernel
theorem dX13_isTold_0 : decode cX13_isTold 0 = .ok (.aload_n 0, 1) := by decide +kernel
theorem dX13_isTold_1 : decode cX13_isTold 1 = .ok (.getfield 495, 3) := by decide +kernel
theorem dX13_isTold_4 : decode cX13_isTold 4 = .ok (.ifCond .eq 4, 3) := by decide +kernel
theorem dX13_isTold_7 : decode cX13_isTold 7 = .ok (.return_, 1) := by decide +kernel
theorem dX13_isTold_8 : decode cX13_isTold 8 = .ok (.aload_n 0, 1) := by decide +kernel
theorem dX13_isTold_9 : decode cX13_isTold 9 = .ok (.getfield 151, 3) := by decide +kernel
theorem dX13_isTold_12 : decode cX13_isTold 12 = .ok (.bipush 26, 2) := by decide +kernel
theorem dX13_isTold_14 : decode cX13_isTold 14 = .ok (.iaload, 1) := by decide +kernel
theorem dX13_isTold_15 : decode cX13_isTold 15 = .ok (.bipush 40, 2) := by decide +kernel
theorem dX13_isTold_17 : decode cX13_isTold 17 = .ok (.if_icmp .ne 40, 3) := by decide +kernel
theorem dX13_isTold_20 : decode cX13_isTold 20 = .ok (.bipush 27, 2) := by decide +kernel
theorem dX13_isTold_22 : decode cX13_isTold 22 = .ok (.istore 4, 2) := by decide +kernel
theorem dX13_isTold_24 : decode cX13_isTold 24 = .ok (.iload 4, 2) := by decide +kernel
theorem dX13_isTold_26 : decode cX13_isTold 26 = .ok (.sipush 183, 3) := by decide +kernel
theorem dX13_isTold_29 : decode cX13_isTold 29 = .ok (.if_icmp .ge 25, 3) := by decide +kernel
theorem dX13_isTold_32 : decode cX13_isTold 32 = .ok (.aload_n 0, 1) := by decide +kernel
theorem dX13_isTold_33 : decode cX13_isTold 33 = .ok (.getfield 151, 3) := by decide +kernel
theorem dX13_isTold_36 : decode cX13_isTold 36 = .ok (.iload 4, 2) := by decide +kernel
theorem dX13_isTold_38 : decode cX13_isTold 38 = .ok (.aload_n 0, 1) := by decide +kernel
theorem dX13_isTold_39 : decode cX13_isTold 39 = .ok (.getfield 151, 3) := by decide +kernel
theorem dX13_isTold_42 : decode cX13_isTold 42 = .ok (.iload 4, 2) := by decide +kernel
theorem dX13_isTold_44 : decode cX13_isTold 44 = .ok (.iconst 4, 1) := by decide +kernel
theorem dX13_isTold_45 : decode cX13_isTold 45 = .ok (.iadd, 1) := by decide +kernel
theorem dX13_isTold_46 : decode cX13_isTold 46 = .ok (.iaload, 1) := by decide +kernel
theorem dX13_isTold_47 : decode cX13_isTold 47 = .ok (.iastore, 1) := by decide +kernel
theorem dX13_isTold_48 : decode cX13_isTold 48 = .ok (.iinc 4 1, 3) := by decide +kernel
theorem dX13_isTold_51 : decode cX13_isTold 51 = .ok (.goto (-27), 3) := by decide +kernel
theorem dX13_isTold_54 : decode cX13_isTold 54 = .ok (.goto 14, 3) := by decide +kernel
theorem dX13_isTold_57 : decode cX13_isTold 57 = .ok (.aload_n 0, 1) := by decide +kernel
theorem dX13_isTold_58 : decode cX13_isTold 58 = .ok (.getfield 151, 3) := by decide +kernel
theorem dX13_isTold_61 : decode cX13_isTold 61 = .ok (.bipush 26, 2) := by decide +kernel
theorem dX13_isTold_63 : decode cX13_isTold 63 = .ok (.dup2, 1) := by decide +kernel
theorem dX13_isTold_64 : decode cX13_isTold 64 = .ok (.iaload, 1) := by decide +kernel
theorem dX13_isTold_65 : decode cX13_isTold 65 = .ok (.iconst 1, 1) := by decide +kernel
theorem dX13_isTold_66 : decode cX13_isTold 66 = .ok (.iadd, 1) := by decide +kernel
theorem dX13_isTold_67 : decode cX13_isTold 67 = .ok (.iastore, 1) := by decide +kernel
theorem dX13_isTold_68 : decode cX13_isTold 68 = .ok (.bipush 27, 2) := by decide +kernel
theorem dX13_isTold_70 : decode cX13_isTold 70 = .ok (.iconst 4, 1) := by decide +kernel
theorem dX13_isTold_71 : decode cX13_isTold 71 = .ok (.aload_n 0, 1) := by decide +kernel
theorem dX13_isTold_72 : decode cX13_isTold 72 = .ok (.getfield 151, 3) := by decide +kernel
theorem dX13_isTold_75 : decode cX13_isTold 75 = .ok (.bipush 26, 2) := by decide +kernel
theorem dX13_isTold_77 : decode cX13_isTold 77 = .ok (.iaload, 1) := by decide +kernel
theorem dX13_isTold_78 : decode cX13_isTold 78 = .ok (.imul, 1) := by decide +kernel
theorem dX13_isTold_79 : decode cX13_isTold 79 = .ok (.iadd, 1) := by decide +kernel
theorem dX13_isTold_80 : decode cX13_isTold 80 = .ok (.iconst 4, 1) := by decide +kernel
theorem dX13_isTold_81 : decode cX13_isTold 81 = .ok (.isub, 1) := by decide +kernel
theorem dX13_isTold_82 : decode cX13_isTold 82 = .ok (.istore 4, 2) := by decide +kernel
theorem dX13_isTold_84 : decode cX13_isTold 84 = .ok (.aload_n 0, 1) := by decide +kernel
theorem dX13_isTold_85 : decode cX13_isTold 85 = .ok (.getfield 151, 3) := by decide +kernel
theorem dX13_isTold_88 : decode cX13_isTold 88 = .ok (.iload 4, 2) := by decide +kernel
theorem dX13_isTold_90 : decode cX13_isTold 90 = .ok (.aload_n 0, 1) := by decide +kernel
theorem dX13_isTold_91 : decode cX13_isTold 91 = .ok (.getfield 151, 3) := by decide +kernel
theorem dX13_isTold_94 : decode cX13_isTold 94 = .ok (.iconst 0, 1) := by decide +kernel
theorem dX13_isTold_95 : decode cX13_isTold 95 = .ok (.iaload, 1) := by decide +kernel
theorem dX13_isTold_96 : decode cX13_isTold 96 = .ok (.iastore, 1) := by decide +kernel
theorem dX13_isTold_97 : decode cX13_isTold 97 = .ok (.aload_n 0, 1) := by decide +kernel
theorem dX13_isTold_98 : decode cX13_isTold 98 = .ok (.getfield 151, 3) := by decide +kernel
theorem dX13_isTold_101 : decode cX13_isTold 101 = .ok (.iload 4, 2) := by decide +kernel
theorem dX13_isTold_103 : decode cX13_isTold 103 = .ok (.iconst 1, 1) := by decide +kernel
theorem dX13_isTold_104 : decode cX13_isTold 104 = .ok (.iadd, 1) := by decide +kernel
theorem dX13_isTold_105 : decode cX13_isTold 105 = .ok (.iload_n 1, 1) := by decide +kernel
theorem dX13_isTold_106 : decode cX13_isTold 106 = .ok (.iastore, 1) := by decide +kernel
theorem dX13_isTold_107 : decode cX13_isTold 107 = .ok (.aload_n 0, 1) := by decide +kernel
theorem dX13_isTold_108 : decode cX13_isTold 108 = .ok (.getfield 151, 3) := by decide +kernel
theorem dX13_isTold_111 : decode cX13_isTold 111 = .ok (.iload 4, 2) := by decide +kernel
theorem dX13_isTold_113 : decode cX13_isTold 113 = .ok (.iconst 2, 1) := by decide +kernel
theorem dX13_isTold_114 : decode cX13_isTold 114 = .ok (.iadd, 1) := by decide +kernel
theorem dX13_isTold_115 : decode cX13_isTold 115 = .ok (.iload_n 2, 1) := by decide +kernel
theorem dX13_isTold_116 : decode cX13_isTold 116 = .ok (.iastore, 1) := by decide +kernel
theorem dX13_isTold_117 : decode cX13_isTold 117 = .ok (.aload_n 0, 1) := by decide +kernel
theorem dX13_isTold_118 : decode cX13_isTold 118 = .ok (.getfield 151, 3) := by decide +kernel
theorem dX13_isTold_121 : decode cX13_isTold 121 = .ok (.iload 4, 2) := by decide +kernel
theorem dX13_isTold_123 : decode cX13_isTold 123 = .ok (.iconst 3, 1) := by decide +kernel
theorem dX13_isTold_124 : decode cX13_isTold 124 = .ok (.iadd, 1) := by decide +kernel
theorem dX13_isTold_125 : decode cX13_isTold 125 = .ok (.iload_n 3, 1) := by decide +kernel
theorem dX13_isTold_126 : decode cX13_isTold 126 = .ok (.iastore, 1) := by decide +kernel
theorem dX13_isTold_127 : decode cX13_isTold 127 = .ok (.return_, 1) := by decide +kernel
theorem dX13_meetsIt_0 : decode cX13_meetsIt 0 = .ok (.iconst 2, 1) := by decide +kernel
theorem dX13_meetsIt_1 : decode cX13_meetsIt 1 = .ok (.iconst 4, 1) := by decide +kernel
theorem dX13_meetsIt_2 : decode cX13_meetsIt 2 = .ok (.iload_n 1, 1) := by decide +kernel
theorem dX13_meetsIt_3 : decode cX13_meetsIt 3 = .ok (.imul, 1) := by decide +kernel
theorem dX13_meetsIt_4 : decode cX13_meetsIt 4 = .ok (.iadd, 1) := by decide +kernel
theorem dX13_meetsIt_5 : decode cX13_meetsIt 5 = .ok (.istore_n 3, 1) := by decide +kernel
theorem dX13_meetsIt_6 : decode cX13_meetsIt 6 = .ok (.aload_n 0, 1) := by decide +kernel
theorem dX13_meetsIt_7 : decode cX13_meetsIt 7 = .ok (.iload_n 2, 1) := by decide +kernel
theorem dX13_meetsIt_8 : decode cX13_meetsIt 8 = .ok (.putfield 450, 3) := by decide +kernel
theorem dX13_meetsIt_11 : decode cX13_meetsIt 11 = .ok (.aload_n 0, 1) := by decide +kernel
theorem dX13_meetsIt_12 : decode cX13_meetsIt 12 = .ok (.aload_n 0, 1) := by decide +kernel
theorem dX13_meetsIt_13 : decode cX13_meetsIt 13 = .ok (.getfield 151, 3) := by decide +kernel
theorem dX13_meetsIt_16 : decode cX13_meetsIt 16 = .ok (.iconst 0, 1) := by decide +kernel
theorem dX13_meetsIt_17 : decode cX13_meetsIt 17 = .ok (.iaload, 1) := by decide +kernel
theorem dX13_meetsIt_18 : decode cX13_meetsIt 18 = .ok (.putfield 453, 3) := by decide +kernel
theorem dX13_meetsIt_21 : decode cX13_meetsIt 21 = .ok (.aload_n 0, 1) := by decide +kernel
theorem dX13_meetsIt_22 : decode cX13_meetsIt 22 = .ok (.iload_n 1, 1) := by decide +kernel
theorem dX13_meetsIt_23 : decode cX13_meetsIt 23 = .ok (.invokevirtual 486, 3) := by decide +kernel
theorem dX13_meetsIt_26 : decode cX13_meetsIt 26 = .ok (.iconst 1, 1) := by decide +kernel
theorem dX13_meetsIt_27 : decode cX13_meetsIt 27 = .ok (.if_icmp .eq 24, 3) := by decide +kernel
theorem dX13_meetsIt_30 : decode cX13_meetsIt 30 = .ok (.aload_n 0, 1) := by decide +kernel
theorem dX13_meetsIt_31 : decode cX13_meetsIt 31 = .ok (.getfield 142, 3) := by decide +kernel
theorem dX13_meetsIt_34 : decode cX13_meetsIt 34 = .ok (.iconst 5, 1) := by decide +kernel
theorem dX13_meetsIt_35 : decode cX13_meetsIt 35 = .ok (.iaload, 1) := by decide +kernel
theorem dX13_meetsIt_36 : decode cX13_meetsIt 36 = .ok (.iconst (-1), 1) := by decide +kernel
theorem dX13_meetsIt_37 : decode cX13_meetsIt 37 = .ok (.if_icmp .eq 18, 3) := by decide +kernel
theorem dX13_meetsIt_40 : decode cX13_meetsIt 40 = .ok (.aload_n 0, 1) := by decide +kernel
theorem dX13_meetsIt_41 : decode cX13_meetsIt 41 = .ok (.iconst 2, 1) := by decide +kernel
theorem dX13_meetsIt_42 : decode cX13_meetsIt 42 = .ok (.iload_n 1, 1) := by decide +kernel
theorem dX13_meetsIt_43 : decode cX13_meetsIt 43 = .ok (.invokevirtual 459, 3) := by decide +kernel
theorem dX13_meetsIt_46 : decode cX13_meetsIt 46 = .ok (.lconst 1, 1) := by decide +kernel
theorem dX13_meetsIt_47 : decode cX13_meetsIt 47 = .ok (.lcmp, 1) := by decide +kernel
theorem dX13_meetsIt_48 : decode cX13_meetsIt 48 = .ok (.ifCond .ne 7, 3) := by decide +kernel
theorem dX13_meetsIt_51 : decode cX13_meetsIt 51 = .ok (.iconst 1, 1) := by decide +kernel
theorem dX13_meetsIt_52 : decode cX13_meetsIt 52 = .ok (.goto 4, 3) := by decide +kernel
theorem dX13_meetsIt_55 : decode cX13_meetsIt 55 = .ok (.iconst 0, 1) := by decide +kernel
theorem dX13_meetsIt_56 : decode cX13_meetsIt 56 = .ok (.istore 4, 2) := by decide +kernel
theorem dX13_meetsIt_58 : decode cX13_meetsIt 58 = .ok (.aload_n 0, 1) := by decide +kernel
theorem dX13_meetsIt_59 : decode cX13_meetsIt 59 = .ok (.iload_n 1, 1) := by decide +kernel
theorem dX13_meetsIt_60 : decode cX13_meetsIt 60 = .ok (.invokevirtual 498, 3) := by decide +kernel
theorem dX13_meetsIt_63 : decode cX13_meetsIt 63 = .ok (.i2l, 1) := by decide +kernel
theorem dX13_meetsIt_64 : decode cX13_meetsIt 64 = .ok (.aload_n 0, 1) := by decide +kernel
theorem dX13_meetsIt_65 : decode cX13_meetsIt 65 = .ok (.getfield 142, 3) := by decide +kernel
theorem dX13_meetsIt_68 : decode cX13_meetsIt 68 = .ok (.iconst 4, 1) := by decide +kernel
theorem dX13_meetsIt_69 : decode cX13_meetsIt 69 = .ok (.iaload, 1) := by decide +kernel
theorem dX13_meetsIt_70 : decode cX13_meetsIt 70 = .ok (.iconst (-1), 1) := by decide +kernel
theorem dX13_meetsIt_71 : decode cX13_meetsIt 71 = .ok (.if_icmp .ne 7, 3) := by decide +kernel
theorem dX13_meetsIt_74 : decode cX13_meetsIt 74 = .ok (.lconst 0, 1) := by decide +kernel
theorem dX13_meetsIt_75 : decode cX13_meetsIt 75 = .ok (.goto 9, 3) := by decide +kernel
theorem dX13_meetsIt_78 : decode cX13_meetsIt 78 = .ok (.aload_n 0, 1) := by decide +kernel
theorem dX13_meetsIt_79 : decode cX13_meetsIt 79 = .ok (.iconst 1, 1) := by decide +kernel
theorem dX13_meetsIt_80 : decode cX13_meetsIt 80 = .ok (.iload_n 1, 1) := by decide +kernel
theorem dX13_meetsIt_81 : decode cX13_meetsIt 81 = .ok (.invokevirtual 459, 3) := by decide +kernel
theorem dX13_meetsIt_84 : decode cX13_meetsIt 84 = .ok (.ladd, 1) := by decide +kernel
theorem dX13_meetsIt_85 : decode cX13_meetsIt 85 = .ok (.lstore 5, 2) := by decide +kernel
theorem dX13_meetsIt_87 : decode cX13_meetsIt 87 = .ok (.aload_n 0, 1) := by decide +kernel
theorem dX13_meetsIt_88 : decode cX13_meetsIt 88 = .ok (.getfield 151, 3) := by decide +kernel
theorem dX13_meetsIt_91 : decode cX13_meetsIt 91 = .ok (.iload_n 3, 1) := by decide +kernel
theorem dX13_meetsIt_92 : decode cX13_meetsIt 92 = .ok (.iconst 2, 1) := by decide +kernel
theorem dX13_meetsIt_93 : decode cX13_meetsIt 93 = .ok (.iadd, 1) := by decide +kernel
theorem dX13_meetsIt_94 : decode cX13_meetsIt 94 = .ok (.lload 5, 2) := by decide +kernel
theorem dX13_meetsIt_96 : decode cX13_meetsIt 96 = .ok (.lconst 0, 1) := by decide +kernel
theorem dX13_meetsIt_97 : decode cX13_meetsIt 97 = .ok (.lcmp, 1) := by decide +kernel
theorem dX13_meetsIt_98 : decode cX13_meetsIt 98 = .ok (.ifCond .ge 7, 3) := by decide +kernel
theorem dX13_meetsIt_101 : decode cX13_meetsIt 101 = .ok (.iconst 0, 1) := by decide +kernel
theorem dX13_meetsIt_102 : decode cX13_meetsIt 102 = .ok (.goto 21, 3) := by decide +kernel
theorem dX13_meetsIt_105 : decode cX13_meetsIt 105 = .ok (.lload 5, 2) := by decide +kernel
theorem dX13_meetsIt_107 : decode cX13_meetsIt 107 = .ok (.ldc2_w 501, 3) := by decide +kernel
theorem dX13_meetsIt_110 : decode cX13_meetsIt 110 = .ok (.lcmp, 1) := by decide +kernel
theorem dX13_meetsIt_111 : decode cX13_meetsIt 111 = .ok (.ifCond .le 9, 3) := by decide +kernel
theorem dX13_meetsIt_114 : decode cX13_meetsIt 114 = .ok (.sipush 9999, 3) := by decide +kernel
theorem dX13_meetsIt_117 : decode cX13_meetsIt 117 = .ok (.goto 6, 3) := by decide +kernel
theorem dX13_meetsIt_120 : decode cX13_meetsIt 120 = .ok (.lload 5, 2) := by decide +kernel
theorem dX13_meetsIt_122 : decode cX13_meetsIt 122 = .ok (.l2i, 1) := by decide +kernel
theorem dX13_meetsIt_123 : decode cX13_meetsIt 123 = .ok (.iastore, 1) := by decide +kernel
theorem dX13_meetsIt_124 : decode cX13_meetsIt 124 = .ok (.aload_n 0, 1) := by decide +kernel
theorem dX13_meetsIt_125 : decode cX13_meetsIt 125 = .ok (.getfield 151, 3) := by decide +kernel
theorem dX13_meetsIt_128 : decode cX13_meetsIt 128 = .ok (.iload_n 3, 1) := by decide +kernel
theorem dX13_meetsIt_129 : decode cX13_meetsIt 129 = .ok (.iconst 1, 1) := by decide +kernel
theorem dX13_meetsIt_130 : decode cX13_meetsIt 130 = .ok (.iadd, 1) := by decide +kernel
theorem dX13_meetsIt_131 : decode cX13_meetsIt 131 = .ok (.iaload, 1) := by decide +kernel
theorem dX13_meetsIt_132 : decode cX13_meetsIt 132 = .ok (.sipush 9999, 3) := by decide +kernel
theorem dX13_meetsIt_135 : decode cX13_meetsIt 135 = .ok (.if_icmp .ge 15, 3) := by decide +kernel
theorem dX13_meetsIt_138 : decode cX13_meetsIt 138 = .ok (.aload_n 0, 1) := by decide +kernel
theorem dX13_meetsIt_139 : decode cX13_meetsIt 139 = .ok (.getfield 151, 3) := by decide +kernel
theorem dX13_meetsIt_142 : decode cX13_meetsIt 142 = .ok (.iload_n 3, 1) := by decide +kernel
theorem dX13_meetsIt_143 : decode cX13_meetsIt 143 = .ok (.iconst 1, 1) := by decide +kernel
theorem dX13_meetsIt_144 : decode cX13_meetsIt 144 = .ok (.iadd, 1) := by decide +kernel
theorem dX13_meetsIt_145 : decode cX13_meetsIt 145 = .ok (.dup2, 1) := by decide +kernel
theorem dX13_meetsIt_146 : decode cX13_meetsIt 146 = .ok (.iaload, 1) := by decide +kernel
theorem dX13_meetsIt_147 : decode cX13_meetsIt 147 = .ok (.iconst 1, 1) := by decide +kernel
theorem dX13_meetsIt_148 : decode cX13_meetsIt 148 = .ok (.iadd, 1) := by decide +kernel
theorem dX13_meetsIt_149 : decode cX13_meetsIt 149 = .ok (.iastore, 1) := by decide +kernel
theorem dX13_meetsIt_150 : decode cX13_meetsIt 150 = .ok (.aload_n 0, 1) := by decide +kernel
theorem dX13_meetsIt_151 : decode cX13_meetsIt 151 = .ok (.dup, 1) := by decide +kernel
theorem dX13_meetsIt_152 : decode cX13_meetsIt 152 = .ok (.getfield 503, 3) := by decide +kernel
theorem dX13_meetsIt_155 : decode cX13_meetsIt 155 = .ok (.iconst 1, 1) := by decide +kernel
theorem dX13_meetsIt_156 : decode cX13_meetsIt 156 = .ok (.iadd, 1) := by decide +kernel
theorem dX13_meetsIt_157 : decode cX13_meetsIt 157 = .ok (.putfield 503, 3) := by decide +kernel
theorem dX13_meetsIt_160 : decode cX13_meetsIt 160 = .ok (.aload_n 0, 1) := by decide +kernel
theorem dX13_meetsIt_161 : decode cX13_meetsIt 161 = .ok (.dup, 1) := by decide +kernel
theorem dX13_meetsIt_162 : decode cX13_meetsIt 162 = .ok (.getfield 506, 3) := by decide +kernel
theorem dX13_meetsIt_165 : decode cX13_meetsIt 165 = .ok (.iconst 1, 1) := by decide +kernel
theorem dX13_meetsIt_166 : decode cX13_meetsIt 166 = .ok (.iload_n 1, 1) := by decide +kernel
theorem dX13_meetsIt_167 : decode cX13_meetsIt 167 = .ok (.ishl, 1) := by decide +kernel
theorem dX13_meetsIt_168 : decode cX13_meetsIt 168 = .ok (.ior, 1) := by decide +kernel
theorem dX13_meetsIt_169 : decode cX13_meetsIt 169 = .ok (.putfield 506, 3) := by decide +kernel
theorem dX13_meetsIt_172 : decode cX13_meetsIt 172 = .ok (.iload 4, 2) := by decide +kernel
theorem dX13_meetsIt_174 : decode cX13_meetsIt 174 = .ok (.ifCond .eq 13, 3) := by decide +kernel
theorem dX13_meetsIt_177 : decode cX13_meetsIt 177 = .ok (.aload_n 0, 1) := by decide +kernel
theorem dX13_meetsIt_178 : decode cX13_meetsIt 178 = .ok (.dup, 1) := by decide +kernel
theorem dX13_meetsIt_179 : decode cX13_meetsIt 179 = .ok (.getfield 509, 3) := by decide +kernel
theorem dX13_meetsIt_182 : decode cX13_meetsIt 182 = .ok (.iconst 1, 1) := by decide +kernel
theorem dX13_meetsIt_183 : decode cX13_meetsIt 183 = .ok (.iadd, 1) := by decide +kernel
theorem dX13_meetsIt_184 : decode cX13_meetsIt 184 = .ok (.putfield 509, 3) := by decide +kernel
theorem dX13_meetsIt_187 : decode cX13_meetsIt 187 = .ok (.aload_n 0, 1) := by decide +kernel
theorem dX13_meetsIt_188 : decode cX13_meetsIt 188 = .ok (.iload_n 2, 1) := by decide +kernel
theorem dX13_meetsIt_189 : decode cX13_meetsIt 189 = .ok (.iload_n 1, 1) := by decide +kernel
theorem dX13_meetsIt_190 : decode cX13_meetsIt 190 = .ok (.iload 4, 2) := by decide +kernel
theorem dX13_meetsIt_192 : decode cX13_meetsIt 192 = .ok (.ifCond .eq 7, 3) := by decide +kernel
theorem dX13_meetsIt_195 : decode cX13_meetsIt 195 = .ok (.iconst 1, 1) := by decide +kernel
theorem dX13_meetsIt_196 : decode cX13_meetsIt 196 = .ok (.goto 4, 3) := by decide +kernel
theorem dX13_meetsIt_199 : decode cX13_meetsIt 199 = .ok (.iconst 0, 1) := by decide +kernel
theorem dX13_meetsIt_200 : decode cX13_meetsIt 200 = .ok (.invokevirtual 512, 3) := by decide +kernel
theorem dX13_meetsIt_203 : decode cX13_meetsIt 203 = .ok (.iload 4, 2) := by decide +kernel
theorem dX13_meetsIt_205 : decode cX13_meetsIt 205 = .ok (.ireturn, 1) := by decide +kernel
theorem dX13_nightGoes_0 : decode cX13_nightGoes 0 = .ok (.iload_n 1, 1) := by decide +kernel
theorem dX13_nightGoes_1 : decode cX13_nightGoes 1 = .ok (.ifCond .ne 7, 3) := by decide +kernel
theorem dX13_nightGoes_4 : decode cX13_nightGoes 4 = .ok (.aload_n 0, 1) := by decide +kernel
theorem dX13_nightGoes_5 : decode cX13_nightGoes 5 = .ok (.invokevirtual 516, 3) := by decide +kernel
theorem dX13_nightGoes_8 : decode cX13_nightGoes 8 = .ok (.iconst 0, 1) := by decide +kernel
theorem dX13_nightGoes_9 : decode cX13_nightGoes 9 = .ok (.istore_n 2, 1) := by decide +kernel
theorem dX13_nightGoes_10 : decode cX13_nightGoes 10 = .ok (.iload_n 2, 1) := by decide +kernel
theorem dX13_nightGoes_11 : decode cX13_nightGoes 11 = .ok (.aload_n 0, 1) := by decide +kernel
theorem dX13_nightGoes_12 : decode cX13_nightGoes 12 = .ok (.invokevirtual 416, 3) := by decide +kernel
theorem dX13_nightGoes_15 : decode cX13_nightGoes 15 = .ok (.if_icmp .ge 82, 3) := by decide +kernel
theorem dX13_nightGoes_18 : decode cX13_nightGoes 18 = .ok (.iconst 2, 1) := by decide +kernel
theorem dX13_nightGoes_19 : decode cX13_nightGoes 19 = .ok (.iconst 4, 1) := by decide +kernel
theorem dX13_nightGoes_20 : decode cX13_nightGoes 20 = .ok (.iload_n 2, 1) := by decide +kernel
theorem dX13_nightGoes_21 : decode cX13_nightGoes 21 = .ok (.imul, 1) := by decide +kernel
theorem dX13_nightGoes_22 : decode cX13_nightGoes 22 = .ok (.iadd, 1) := by decide +kernel
theorem dX13_nightGoes_23 : decode cX13_nightGoes 23 = .ok (.iconst 3, 1) := by decide +kernel
theorem dX13_nightGoes_24 : decode cX13_nightGoes 24 = .ok (.iadd, 1) := by decide +kernel
theorem dX13_nightGoes_25 : decode cX13_nightGoes 25 = .ok (.istore_n 3, 1) := by decide +kernel
theorem dX13_nightGoes_26 : decode cX13_nightGoes 26 = .ok (.aload_n 0, 1) := by decide +kernel
theorem dX13_nightGoes_27 : decode cX13_nightGoes 27 = .ok (.getfield 151, 3) := by decide +kernel
theorem dX13_nightGoes_30 : decode cX13_nightGoes 30 = .ok (.iload_n 3, 1) := by decide +kernel
theorem dX13_nightGoes_31 : decode cX13_nightGoes 31 = .ok (.iaload, 1) := by decide +kernel
theorem dX13_nightGoes_32 : decode cX13_nightGoes 32 = .ok (.ifCond .le 16, 3) := by decide +kernel
theorem dX13_nightGoes_35 : decode cX13_nightGoes 35 = .ok (.aload_n 0, 1) := by decide +kernel
theorem dX13_nightGoes_36 : decode cX13_nightGoes 36 = .ok (.getfield 151, 3) := by decide +kernel
theorem dX13_nightGoes_39 : decode cX13_nightGoes 39 = .ok (.iload_n 3, 1) := by decide +kernel
theorem dX13_nightGoes_40 : decode cX13_nightGoes 40 = .ok (.dup2, 1) := by decide +kernel
theorem dX13_nightGoes_41 : decode cX13_nightGoes 41 = .ok (.iaload, 1) := by decide +kernel
theorem dX13_nightGoes_42 : decode cX13_nightGoes 42 = .ok (.iconst 1, 1) := by decide +kernel
theorem dX13_nightGoes_43 : decode cX13_nightGoes 43 = .ok (.isub, 1) := by decide +kernel
theorem dX13_nightGoes_44 : decode cX13_nightGoes 44 = .ok (.iastore, 1) := by decide +kernel
theorem dX13_nightGoes_45 : decode cX13_nightGoes 45 = .ok (.goto 46, 3) := by decide +kernel
theorem dX13_nightGoes_48 : decode cX13_nightGoes 48 = .ok (.iload_n 1, 1) := by decide +kernel
theorem dX13_nightGoes_49 : decode cX13_nightGoes 49 = .ok (.ifCond .eq 7, 3) := by decide +kernel
theorem dX13_nightGoes_52 : decode cX13_nightGoes 52 = .ok (.iconst (-1), 1) := by decide +kernel
theorem dX13_nightGoes_53 : decode cX13_nightGoes 53 = .ok (.goto 8, 3) := by decide +kernel
theorem dX13_nightGoes_56 : decode cX13_nightGoes 56 = .ok (.aload_n 0, 1) := by decide +kernel
theorem dX13_nightGoes_57 : decode cX13_nightGoes 57 = .ok (.iload_n 2, 1) := by decide +kernel
theorem dX13_nightGoes_58 : decode cX13_nightGoes 58 = .ok (.invokevirtual 519, 3) := by decide +kernel
theorem dX13_nightGoes_61 : decode cX13_nightGoes 61 = .ok (.istore 4, 2) := by decide +kernel
theorem dX13_nightGoes_63 : decode cX13_nightGoes 63 = .ok (.iload 4, 2) := by decide +kernel
theorem dX13_nightGoes_65 : decode cX13_nightGoes 65 = .ok (.iconst (-1), 1) := by decide +kernel
theorem dX13_nightGoes_66 : decode cX13_nightGoes 66 = .ok (.if_icmp .eq 25, 3) := by decide +kernel
theorem dX13_nightGoes_69 : decode cX13_nightGoes 69 = .ok (.aload_n 0, 1) := by decide +kernel
theorem dX13_nightGoes_70 : decode cX13_nightGoes 70 = .ok (.iload_n 2, 1) := by decide +kernel
theorem dX13_nightGoes_71 : decode cX13_nightGoes 71 = .ok (.iload 4, 2) := by decide +kernel
theorem dX13_nightGoes_73 : decode cX13_nightGoes 73 = .ok (.invokevirtual 522, 3) := by decide +kernel
theorem dX13_nightGoes_76 : decode cX13_nightGoes 76 = .ok (.ifCond .eq 15, 3) := by decide +kernel
theorem dX13_nightGoes_79 : decode cX13_nightGoes 79 = .ok (.aload_n 0, 1) := by decide +kernel
theorem dX13_nightGoes_80 : decode cX13_nightGoes 80 = .ok (.getfield 151, 3) := by decide +kernel
theorem dX13_nightGoes_83 : decode cX13_nightGoes 83 = .ok (.iload_n 3, 1) := by decide +kernel
theorem dX13_nightGoes_84 : decode cX13_nightGoes 84 = .ok (.aload_n 0, 1) := by decide +kernel
theorem dX13_nightGoes_85 : decode cX13_nightGoes 85 = .ok (.getfield 139, 3) := by decide +kernel
theorem dX13_nightGoes_88 : decode cX13_nightGoes 88 = .ok (.iconst 3, 1) := by decide +kernel
theorem dX13_nightGoes_89 : decode cX13_nightGoes 89 = .ok (.iaload, 1) := by decide +kernel
theorem dX13_nightGoes_90 : decode cX13_nightGoes 90 = .ok (.iastore, 1) := by decide +kernel
theorem dX13_nightGoes_91 : decode cX13_nightGoes 91 = .ok (.iinc 2 1, 3) := by decide +kernel
theorem dX13_nightGoes_94 : decode cX13_nightGoes 94 = .ok (.goto (-84), 3) := by decide +kernel
theorem dX13_nightGoes_97 : decode cX13_nightGoes 97 = .ok (.aload_n 0, 1) := by decide +kernel
theorem dX13_nightGoes_98 : decode cX13_nightGoes 98 = .ok (.getfield 151, 3) := by decide +kernel
theorem dX13_nightGoes_101 : decode cX13_nightGoes 101 = .ok (.iconst 0, 1) := by decide +kernel
theorem dX13_nightGoes_102 : decode cX13_nightGoes 102 = .ok (.dup2, 1) := by decide +kernel
theorem dX13_nightGoes_103 : decode cX13_nightGoes 103 = .ok (.iaload, 1) := by decide +kernel
theorem dX13_nightGoes_104 : decode cX13_nightGoes 104 = .ok (.iconst 1, 1) := by decide +kernel
theorem dX13_nightGoes_105 : decode cX13_nightGoes 105 = .ok (.iadd, 1) := by decide +kernel
theorem dX13_nightGoes_106 : decode cX13_nightGoes 106 = .ok (.iastore, 1) := by decide +kernel
theorem dX13_nightGoes_107 : decode cX13_nightGoes 107 = .ok (.return_, 1) := by decide +kernel
theorem dX13_nightsGo_0 : decode cX13_nightsGo 0 = .ok (.aload_n 0, 1) := by decide +kernel
theorem dX13_nightsGo_1 : decode cX13_nightsGo 1 = .ok (.iconst 0, 1) := by decide +kernel
theorem dX13_nightsGo_2 : decode cX13_nightsGo 2 = .ok (.putfield 503, 3) := by decide +kernel
theorem dX13_nightsGo_5 : decode cX13_nightsGo 5 = .ok (.aload_n 0, 1) := by decide +kernel
theorem dX13_nightsGo_6 : decode cX13_nightsGo 6 = .ok (.iconst 0, 1) := by decide +kernel
theorem dX13_nightsGo_7 : decode cX13_nightsGo 7 = .ok (.putfield 509, 3) := by decide +kernel
theorem dX13_nightsGo_10 : decode cX13_nightsGo 10 = .ok (.aload_n 0, 1) := by decide +kernel
theorem dX13_nightsGo_11 : decode cX13_nightsGo 11 = .ok (.iconst 0, 1) := by decide +kernel
theorem dX13_nightsGo_12 : decode cX13_nightsGo 12 = .ok (.putfield 506, 3) := by decide +kernel
theorem dX13_nightsGo_15 : decode cX13_nightsGo 15 = .ok (.iconst 0, 1) := by decide +kernel
theorem dX13_nightsGo_16 : decode cX13_nightsGo 16 = .ok (.istore_n 2, 1) := by decide +kernel
theorem dX13_nightsGo_17 : decode cX13_nightsGo 17 = .ok (.iload_n 2, 1) := by decide +kernel
theorem dX13_nightsGo_18 : decode cX13_nightsGo 18 = .ok (.iload_n 1, 1) := by decide +kernel
theorem dX13_nightsGo_19 : decode cX13_nightsGo 19 = .ok (.if_icmp .ge 14, 3) := by decide +kernel
theorem dX13_nightsGo_22 : decode cX13_nightsGo 22 = .ok (.aload_n 0, 1) := by decide +kernel
theorem dX13_nightsGo_23 : decode cX13_nightsGo 23 = .ok (.iconst 0, 1) := by decide +kernel
theorem dX13_nightsGo_24 : decode cX13_nightsGo 24 = .ok (.invokevirtual 525, 3) := by decide +kernel
theorem dX13_nightsGo_27 : decode cX13_nightsGo 27 = .ok (.iinc 2 1, 3) := by decide +kernel
theorem dX13_nightsGo_30 : decode cX13_nightsGo 30 = .ok (.goto (-13), 3) := by decide +kernel
theorem dX13_nightsGo_33 : decode cX13_nightsGo 33 = .ok (.return_, 1) := by decide +kernel
theorem dX13_putsAside_0 : decode cX13_putsAside 0 = .ok (.aload_n 0, 1) := by decide +kernel
theorem dX13_putsAside_1 : decode cX13_putsAside 1 = .ok (.iconst 1, 1) := by decide +kernel
theorem dX13_putsAside_2 : decode cX13_putsAside 2 = .ok (.putfield 495, 3) := by decide +kernel
theorem dX13_putsAside_5 : decode cX13_putsAside 5 = .ok (.iconst 0, 1) := by decide +kernel
theorem dX13_putsAside_6 : decode cX13_putsAside 6 = .ok (.istore_n 1, 1) := by decide +kernel
theorem dX13_putsAside_7 : decode cX13_putsAside 7 = .ok (.iload_n 1, 1) := by decide +kernel
theorem dX13_putsAside_8 : decode cX13_putsAside 8 = .ok (.bipush 26, 2) := by decide +kernel
theorem dX13_putsAside_10 : decode cX13_putsAside 10 = .ok (.if_icmp .ge 21, 3) := by decide +kernel
theorem dX13_putsAside_13 : decode cX13_putsAside 13 = .ok (.aload_n 0, 1) := by decide +kernel
theorem dX13_putsAside_14 : decode cX13_putsAside 14 = .ok (.getfield 154, 3) := by decide +kernel
theorem dX13_putsAside_17 : decode cX13_putsAside 17 = .ok (.iload_n 1, 1) := by decide +kernel
theorem dX13_putsAside_18 : decode cX13_putsAside 18 = .ok (.aload_n 0, 1) := by decide +kernel
theorem dX13_putsAside_19 : decode cX13_putsAside 19 = .ok (.getfield 151, 3) := by decide +kernel
theorem dX13_putsAside_22 : decode cX13_putsAside 22 = .ok (.iload_n 1, 1) := by decide +kernel
theorem dX13_putsAside_23 : decode cX13_putsAside 23 = .ok (.iaload, 1) := by decide +kernel
theorem dX13_putsAside_24 : decode cX13_putsAside 24 = .ok (.iastore, 1) := by decide +kernel
theorem dX13_putsAside_25 : decode cX13_putsAside 25 = .ok (.iinc 1 1, 3) := by decide +kernel
theorem dX13_putsAside_28 : decode cX13_putsAside 28 = .ok (.goto (-21), 3) := by decide +kernel
theorem dX13_putsAside_31 : decode cX13_putsAside 31 = .ok (.return_, 1) := by decide +kernel
theorem dX13_triesAnew_0 : decode cX13_triesAnew 0 = .ok (.iconst 0, 1) := by decide +kernel
theorem dX13_triesAnew_1 : decode cX13_triesAnew 1 = .ok (.istore_n 1, 1) := by decide +kernel
theorem dX13_triesAnew_2 : decode cX13_triesAnew 2 = .ok (.iload_n 1, 1) := by decide +kernel
theorem dX13_triesAnew_3 : decode cX13_triesAnew 3 = .ok (.bipush 26, 2) := by decide +kernel
theorem dX13_triesAnew_5 : decode cX13_triesAnew 5 = .ok (.if_icmp .ge 21, 3) := by decide +kernel
theorem dX13_triesAnew_8 : decode cX13_triesAnew 8 = .ok (.aload_n 0, 1) := by decide +kernel
theorem dX13_triesAnew_9 : decode cX13_triesAnew 9 = .ok (.getfield 151, 3) := by decide +kernel
theorem dX13_triesAnew_12 : decode cX13_triesAnew 12 = .ok (.iload_n 1, 1) := by decide +kernel
theorem dX13_triesAnew_13 : decode cX13_triesAnew 13 = .ok (.aload_n 0, 1) := by decide +kernel
theorem dX13_triesAnew_14 : decode cX13_triesAnew 14 = .ok (.getfield 154, 3) := by decide +kernel
theorem dX13_triesAnew_17 : decode cX13_triesAnew 17 = .ok (.iload_n 1, 1) := by decide +kernel
theorem dX13_triesAnew_18 : decode cX13_triesAnew 18 = .ok (.iaload, 1) := by decide +kernel
theorem dX13_triesAnew_19 : decode cX13_triesAnew 19 = .ok (.iastore, 1) := by decide +kernel
theorem dX13_triesAnew_20 : decode cX13_triesAnew 20 = .ok (.iinc 1 1, 3) := by decide +kernel
theorem dX13_triesAnew_23 : decode cX13_triesAnew 23 = .ok (.goto (-21), 3) := by decide +kernel
theorem dX13_triesAnew_26 : decode cX13_triesAnew 26 = .ok (.return_, 1) := by decide +kernel
theorem dX13_takesBack_0 : decode cX13_takesBack 0 = .ok (.aload_n 0, 1) := by decide +kernel
theorem dX13_takesBack_1 : decode cX13_takesBack 1 = .ok (.invokevirtual 529, 3) := by decide +kernel
theorem dX13_takesBack_4 : decode cX13_takesBack 4 = .ok (.aload_n 0, 1) := by decide +kernel
theorem dX13_takesBack_5 : decode cX13_takesBack 5 = .ok (.iconst 0, 1) := by decide +kernel
theorem dX13_takesBack_6 : decode cX13_takesBack 6 = .ok (.putfield 495, 3) := by decide +kernel
theorem dX13_takesBack_9 : decode cX13_takesBack 9 = .ok (.return_, 1) := by decide +kernel
theorem dX13_isAhead_0 : decode cX13_isAhead 0 = .ok (.aload_n 0, 1) := by decide +kernel
theorem dX13_isAhead_1 : decode cX13_isAhead 1 = .ok (.getfield 403, 3) := by decide +kernel
theorem dX13_isAhead_4 : decode cX13_isAhead 4 = .ok (.ifCond .eq 33, 3) := by decide +kernel
theorem dX13_isAhead_7 : decode cX13_isAhead 7 = .ok (.iload_n 1, 1) := by decide +kernel
theorem dX13_isAhead_8 : decode cX13_isAhead 8 = .ok (.i2l, 1) := by decide +kernel
theorem dX13_isAhead_9 : decode cX13_isAhead 9 = .ok (.iload_n 2, 1) := by decide +kernel
theorem dX13_isAhead_10 : decode cX13_isAhead 10 = .ok (.i2l, 1) := by decide +kernel
theorem dX13_isAhead_11 : decode cX13_isAhead 11 = .ok (.iload_n 3, 1) := by decide +kernel
theorem dX13_isAhead_12 : decode cX13_isAhead 12 = .ok (.i2l, 1) := by decide +kernel
theorem dX13_isAhead_13 : decode cX13_isAhead 13 = .ok (.invokestatic 307, 3) := by decide +kernel
theorem dX13_isAhead_16 : decode cX13_isAhead 16 = .ok (.ifCond .eq 21, 3) := by decide +kernel
theorem dX13_isAhead_19 : decode cX13_isAhead 19 = .ok (.aload_n 0, 1) := by decide +kernel
theorem dX13_isAhead_20 : decode cX13_isAhead 20 = .ok (.getfield 151, 3) := by decide +kernel
theorem dX13_isAhead_23 : decode cX13_isAhead 23 = .ok (.iconst 0, 1) := by decide +kernel
theorem dX13_isAhead_24 : decode cX13_isAhead 24 = .ok (.iaload, 1) := by decide +kernel
theorem dX13_isAhead_25 : decode cX13_isAhead 25 = .ok (.iload_n 1, 1) := by decide +kernel
theorem dX13_isAhead_26 : decode cX13_isAhead 26 = .ok (.iadd, 1) := by decide +kernel
theorem dX13_isAhead_27 : decode cX13_isAhead 27 = .ok (.sipush 999, 3) := by decide +kernel
theorem dX13_isAhead_30 : decode cX13_isAhead 30 = .ok (.if_icmp .gt 7, 3) := by decide +kernel
theorem dX13_isAhead_33 : decode cX13_isAhead 33 = .ok (.iconst 1, 1) := by decide +kernel
theorem dX13_isAhead_34 : decode cX13_isAhead 34 = .ok (.goto 4, 3) := by decide +kernel
theorem dX13_isAhead_37 : decode cX13_isAhead 37 = .ok (.iconst 0, 1) := by decide +kernel
theorem dX13_isAhead_38 : decode cX13_isAhead 38 = .ok (.ireturn, 1) := by decide +kernel
theorem dX13_bits_0 : decode cX13_bits 0 = .ok (.iconst 0, 1) := by decide +kernel
theorem dX13_bits_1 : decode cX13_bits 1 = .ok (.istore_n 1, 1) := by decide +kernel
theorem dX13_bits_2 : decode cX13_bits 2 = .ok (.iload_n 0, 1) := by decide +kernel
theorem dX13_bits_3 : decode cX13_bits 3 = .ok (.istore_n 2, 1) := by decide +kernel
theorem dX13_bits_4 : decode cX13_bits 4 = .ok (.iload_n 2, 1) := by decide +kernel
theorem dX13_bits_5 : decode cX13_bits 5 = .ok (.ifCond .eq 15, 3) := by decide +kernel
theorem dX13_bits_8 : decode cX13_bits 8 = .ok (.iinc 1 1, 3) := by decide +kernel
theorem dX13_bits_11 : decode cX13_bits 11 = .ok (.iload_n 2, 1) := by decide +kernel
theorem dX13_bits_12 : decode cX13_bits 12 = .ok (.iload_n 2, 1) := by decide +kernel
theorem dX13_bits_13 : decode cX13_bits 13 = .ok (.iconst 1, 1) := by decide +kernel
theorem dX13_bits_14 : decode cX13_bits 14 = .ok (.isub, 1) := by decide +kernel
theorem dX13_bits_15 : decode cX13_bits 15 = .ok (.iand, 1) := by decide +kernel
theorem dX13_bits_16 : decode cX13_bits 16 = .ok (.istore_n 2, 1) := by decide +kernel
theorem dX13_bits_17 : decode cX13_bits 17 = .ok (.goto (-13), 3) := by decide +kernel
theorem dX13_bits_20 : decode cX13_bits 20 = .ok (.iload_n 1, 1) := by decide +kernel
theorem dX13_bits_21 : decode cX13_bits 21 = .ok (.ireturn, 1) := by decide +kernel
theorem dX13_goneMany_0 : decode cX13_goneMany 0 = .ok (.iconst 0, 1) := by decide +kernel
theorem dX13_goneMany_1 : decode cX13_goneMany 1 = .ok (.istore_n 1, 1) := by decide +kernel
theorem dX13_goneMany_2 : decode cX13_goneMany 2 = .ok (.iconst 0, 1) := by decide +kernel
theorem dX13_goneMany_3 : decode cX13_goneMany 3 = .ok (.istore_n 2, 1) := by decide +kernel
theorem dX13_goneMany_4 : decode cX13_goneMany 4 = .ok (.iload_n 2, 1) := by decide +kernel
theorem dX13_goneMany_5 : decode cX13_goneMany 5 = .ok (.aload_n 0, 1) := by decide +kernel
theorem dX13_goneMany_6 : decode cX13_goneMany 6 = .ok (.invokevirtual 416, 3) := by decide +kernel
theorem dX13_goneMany_9 : decode cX13_goneMany 9 = .ok (.if_icmp .ge 20, 3) := by decide +kernel
theorem dX13_goneMany_12 : decode cX13_goneMany 12 = .ok (.aload_n 0, 1) := by decide +kernel
theorem dX13_goneMany_13 : decode cX13_goneMany 13 = .ok (.iload_n 2, 1) := by decide +kernel
theorem dX13_goneMany_14 : decode cX13_goneMany 14 = .ok (.invokevirtual 489, 3) := by decide +kernel
theorem dX13_goneMany_17 : decode cX13_goneMany 17 = .ok (.ifCond .le 6, 3) := by decide +kernel
theorem dX13_goneMany_20 : decode cX13_goneMany 20 = .ok (.iinc 1 1, 3) := by decide +kernel
theorem dX13_goneMany_23 : decode cX13_goneMany 23 = .ok (.iinc 2 1, 3) := by decide +kernel
theorem dX13_goneMany_26 : decode cX13_goneMany 26 = .ok (.goto (-22), 3) := by decide +kernel
theorem dX13_goneMany_29 : decode cX13_goneMany 29 = .ok (.iload_n 1, 1) := by decide +kernel
theorem dX13_goneMany_30 : decode cX13_goneMany 30 = .ok (.ireturn, 1) := by decide +kernel
theorem dX13_pursesAll_0 : decode cX13_pursesAll 0 = .ok (.iconst 0, 1) := by decide +kernel
theorem dX13_pursesAll_1 : decode cX13_pursesAll 1 = .ok (.istore_n 1, 1) := by decide +kernel
theorem dX13_pursesAll_2 : decode cX13_pursesAll 2 = .ok (.iconst 0, 1) := by decide +kernel
theorem dX13_pursesAll_3 : decode cX13_pursesAll 3 = .ok (.istore_n 2, 1) := by decide +kernel
theorem dX13_pursesAll_4 : decode cX13_pursesAll 4 = .ok (.iload_n 2, 1) := by decide +kernel
theorem dX13_pursesAll_5 : decode cX13_pursesAll 5 = .ok (.aload_n 0, 1) := by decide +kernel
theorem dX13_pursesAll_6 : decode cX13_pursesAll 6 = .ok (.invokevirtual 416, 3) := by decide +kernel
theorem dX13_pursesAll_9 : decode cX13_pursesAll 9 = .ok (.if_icmp .ge 17, 3) := by decide +kernel
theorem dX13_pursesAll_12 : decode cX13_pursesAll 12 = .ok (.iload_n 1, 1) := by decide +kernel
theorem dX13_pursesAll_13 : decode cX13_pursesAll 13 = .ok (.aload_n 0, 1) := by decide +kernel
theorem dX13_pursesAll_14 : decode cX13_pursesAll 14 = .ok (.iload_n 2, 1) := by decide +kernel
theorem dX13_pursesAll_15 : decode cX13_pursesAll 15 = .ok (.invokevirtual 498, 3) := by decide +kernel
theorem dX13_pursesAll_18 : decode cX13_pursesAll 18 = .ok (.iadd, 1) := by decide +kernel
theorem dX13_pursesAll_19 : decode cX13_pursesAll 19 = .ok (.istore_n 1, 1) := by decide +kernel
theorem dX13_pursesAll_20 : decode cX13_pursesAll 20 = .ok (.iinc 2 1, 3) := by decide +kernel
theorem dX13_pursesAll_23 : decode cX13_pursesAll 23 = .ok (.goto (-19), 3) := by decide +kernel
theorem dX13_pursesAll_26 : decode cX13_pursesAll 26 = .ok (.iload_n 1, 1) := by decide +kernel
theorem dX13_pursesAll_27 : decode cX13_pursesAll 27 = .ok (.ireturn, 1) := by decide +kernel
theorem dX13_has_0 : decode cX13_has 0 = .ok (.iload_n 1, 1) := by decide +kernel
theorem dX13_has_1 : decode cX13_has 1 = .ok (.tableswitch 132 0 11 #[63, 63, 72, 77, 82, 87, 94, 104, 109, 114, 122, 127], 63) := by decide +kernel
theorem dX13_has_64 : decode cX13_has 64 = .ok (.aload_n 0, 1) := by decide +kernel
theorem dX13_has_65 : decode cX13_has 65 = .ok (.getfield 120, 3) := by decide +kernel
theorem dX13_has_68 : decode cX13_has 68 = .ok (.iconst 3, 1) := by decide +kernel
theorem dX13_has_69 : decode cX13_has 69 = .ok (.iload_n 1, 1) := by decide +kernel
theorem dX13_has_70 : decode cX13_has 70 = .ok (.iadd, 1) := by decide +kernel
theorem dX13_has_71 : decode cX13_has 71 = .ok (.iaload, 1) := by decide +kernel
theorem dX13_has_72 : decode cX13_has 72 = .ok (.ireturn, 1) := by decide +kernel
theorem dX13_has_73 : decode cX13_has 73 = .ok (.aload_n 0, 1) := by decide +kernel
theorem dX13_has_74 : decode cX13_has 74 = .ok (.invokevirtual 430, 3) := by decide +kernel
theorem dX13_has_77 : decode cX13_has 77 = .ok (.ireturn, 1) := by decide +kernel
theorem dX13_has_78 : decode cX13_has 78 = .ok (.aload_n 0, 1) := by decide +kernel
theorem dX13_has_79 : decode cX13_has 79 = .ok (.invokevirtual 413, 3) := by decide +kernel
theorem dX13_has_82 : decode cX13_has 82 = .ok (.ireturn, 1) := by decide +kernel
theorem dX13_has_83 : decode cX13_has 83 = .ok (.aload_n 0, 1) := by decide +kernel
theorem dX13_has_84 : decode cX13_has 84 = .ok (.invokevirtual 416, 3) := by decide +kernel
theorem dX13_has_87 : decode cX13_has 87 = .ok (.ireturn, 1) := by decide +kernel
theorem dX13_has_88 : decode cX13_has 88 = .ok (.aload_n 0, 1) := by decide +kernel
theorem dX13_has_89 : decode cX13_has 89 = .ok (.getfield 151, 3) := by decide +kernel
theorem dX13_has_92 : decode cX13_has 92 = .ok (.iconst 0, 1) := by decide +kernel
theorem dX13_has_93 : decode cX13_has 93 = .ok (.iaload, 1) := by decide +kernel
theorem dX13_has_94 : decode cX13_has 94 = .ok (.ireturn, 1) := by decide +kernel
theorem dX13_has_95 : decode cX13_has 95 = .ok (.aload_n 0, 1) := by decide +kernel
theorem dX13_has_96 : decode cX13_has 96 = .ok (.getfield 151, 3) := by decide +kernel
theorem dX13_has_99 : decode cX13_has 99 = .ok (.iconst 1, 1) := by decide +kernel
theorem dX13_has_100 : decode cX13_has 100 = .ok (.iaload, 1) := by decide +kernel
theorem dX13_has_101 : decode cX13_has 101 = .ok (.invokestatic 532, 3) := by decide +kernel
theorem dX13_has_104 : decode cX13_has 104 = .ok (.ireturn, 1) := by decide +kernel
theorem dX13_has_105 : decode cX13_has 105 = .ok (.aload_n 0, 1) := by decide +kernel
theorem dX13_has_106 : decode cX13_has 106 = .ok (.invokevirtual 535, 3) := by decide +kernel
theorem dX13_has_109 : decode cX13_has 109 = .ok (.ireturn, 1) := by decide +kernel
theorem dX13_has_110 : decode cX13_has 110 = .ok (.aload_n 0, 1) := by decide +kernel
theorem dX13_has_111 : decode cX13_has 111 = .ok (.invokevirtual 538, 3) := by decide +kernel
theorem dX13_has_114 : decode cX13_has 114 = .ok (.ireturn, 1) := by decide +kernel
theorem dX13_has_115 : decode cX13_has 115 = .ok (.aload_n 0, 1) := by decide +kernel
theorem dX13_has_116 : decode cX13_has 116 = .ok (.getfield 151, 3) := by decide +kernel
theorem dX13_has_119 : decode cX13_has 119 = .ok (.bipush 26, 2) := by decide +kernel
theorem dX13_has_121 : decode cX13_has 121 = .ok (.iaload, 1) := by decide +kernel
theorem dX13_has_122 : decode cX13_has 122 = .ok (.ireturn, 1) := by decide +kernel
theorem dX13_has_123 : decode cX13_has 123 = .ok (.aload_n 0, 1) := by decide +kernel
theorem dX13_has_124 : decode cX13_has 124 = .ok (.getfield 410, 3) := by decide +kernel
theorem dX13_has_127 : decode cX13_has 127 = .ok (.ireturn, 1) := by decide +kernel
theorem dX13_has_128 : decode cX13_has 128 = .ok (.aload_n 0, 1) := by decide +kernel
theorem dX13_has_129 : decode cX13_has 129 = .ok (.getfield 407, 3) := by decide +kernel
theorem dX13_has_132 : decode cX13_has 132 = .ok (.ireturn, 1) := by decide +kernel
theorem dX13_has_133 : decode cX13_has 133 = .ok (.iconst (-1), 1) := by decide +kernel
theorem dX13_has_134 : decode cX13_has 134 = .ok (.ireturn, 1) := by decide +kernel
theorem dX13_letter_0 : decode cX13_letter 0 = .ok (.iload_n 1, 1) := by decide +kernel
theorem dX13_letter_1 : decode cX13_letter 1 = .ok (.i2l, 1) := by decide +kernel
theorem dX13_letter_2 : decode cX13_letter 2 = .ok (.lconst 0, 1) := by decide +kernel
theorem dX13_letter_3 : decode cX13_letter 3 = .ok (.lconst 1, 1) := by decide +kernel
theorem dX13_letter_4 : decode cX13_letter 4 = .ok (.invokestatic 307, 3) := by decide +kernel
theorem dX13_letter_7 : decode cX13_letter 7 = .ok (.ifCond .eq 35, 3) := by decide +kernel
theorem dX13_letter_10 : decode cX13_letter 10 = .ok (.iload_n 2, 1) := by decide +kernel
theorem dX13_letter_11 : decode cX13_letter 11 = .ok (.i2l, 1) := by decide +kernel
theorem dX13_letter_12 : decode cX13_letter 12 = .ok (.lconst 0, 1) := by decide +kernel
theorem dX13_letter_13 : decode cX13_letter 13 = .ok (.aload_n 0, 1) := by decide +kernel
theorem dX13_letter_14 : decode cX13_letter 14 = .ok (.getfield 123, 3) := by decide +kernel
theorem dX13_letter_17 : decode cX13_letter 17 = .ok (.iconst 3, 1) := by decide +kernel
theorem dX13_letter_18 : decode cX13_letter 18 = .ok (.iload_n 1, 1) := by decide +kernel
theorem dX13_letter_19 : decode cX13_letter 19 = .ok (.iadd, 1) := by decide +kernel
theorem dX13_letter_20 : decode cX13_letter 20 = .ok (.iaload, 1) := by decide +kernel
theorem dX13_letter_21 : decode cX13_letter 21 = .ok (.iconst 1, 1) := by decide +kernel
theorem dX13_letter_22 : decode cX13_letter 22 = .ok (.isub, 1) := by decide +kernel
theorem dX13_letter_23 : decode cX13_letter 23 = .ok (.i2l, 1) := by decide +kernel
theorem dX13_letter_24 : decode cX13_letter 24 = .ok (.invokestatic 307, 3) := by decide +kernel
theorem dX13_letter_27 : decode cX13_letter 27 = .ok (.ifCond .eq 15, 3) := by decide +kernel
theorem dX13_letter_30 : decode cX13_letter 30 = .ok (.iload_n 3, 1) := by decide +kernel
theorem dX13_letter_31 : decode cX13_letter 31 = .ok (.i2l, 1) := by decide +kernel
theorem dX13_letter_32 : decode cX13_letter 32 = .ok (.lconst 0, 1) := by decide +kernel
theorem dX13_letter_33 : decode cX13_letter 33 = .ok (.ldc2_w 541, 3) := by decide +kernel
theorem dX13_letter_36 : decode cX13_letter 36 = .ok (.invokestatic 307, 3) := by decide +kernel
theorem dX13_letter_39 : decode cX13_letter 39 = .ok (.ifCond .ne 5, 3) := by decide +kernel
theorem dX13_letter_42 : decode cX13_letter 42 = .ok (.iconst (-1), 1) := by decide +kernel
theorem dX13_letter_43 : decode cX13_letter 43 = .ok (.ireturn, 1) := by decide +kernel
theorem dX13_letter_44 : decode cX13_letter 44 = .ok (.aload_n 0, 1) := by decide +kernel
theorem dX13_letter_45 : decode cX13_letter 45 = .ok (.getfield 126, 3) := by decide +kernel
theorem dX13_letter_48 : decode cX13_letter 48 = .ok (.bipush 12, 2) := by decide +kernel
theorem dX13_letter_50 : decode cX13_letter 50 = .ok (.bipush 6, 2) := by decide +kernel
theorem dX13_letter_52 : decode cX13_letter 52 = .ok (.iload_n 1, 1) := by decide +kernel
theorem dX13_letter_53 : decode cX13_letter 53 = .ok (.imul, 1) := by decide +kernel
theorem dX13_letter_54 : decode cX13_letter 54 = .ok (.iadd, 1) := by decide +kernel
theorem dX13_letter_55 : decode cX13_letter 55 = .ok (.iload_n 2, 1) := by decide +kernel
theorem dX13_letter_56 : decode cX13_letter 56 = .ok (.iadd, 1) := by decide +kernel
theorem dX13_letter_57 : decode cX13_letter 57 = .ok (.laload, 1) := by decide +kernel
theorem dX13_letter_58 : decode cX13_letter 58 = .ok (.lstore 4, 2) := by decide +kernel
theorem dX13_letter_60 : decode cX13_letter 60 = .ok (.iconst 0, 1) := by decide +kernel
theorem dX13_letter_61 : decode cX13_letter 61 = .ok (.istore 6, 2) := by decide +kernel
theorem dX13_letter_63 : decode cX13_letter 63 = .ok (.lload 4, 2) := by decide +kernel
theorem dX13_letter_65 : decode cX13_letter 65 = .ok (.lstore 7, 2) := by decide +kernel
theorem dX13_letter_67 : decode cX13_letter 67 = .ok (.lload 7, 2) := by decide +kernel
theorem dX13_letter_69 : decode cX13_letter 69 = .ok (.lconst 0, 1) := by decide +kernel
theorem dX13_letter_70 : decode cX13_letter 70 = .ok (.lcmp, 1) := by decide +kernel
theorem dX13_letter_71 : decode cX13_letter 71 = .ok (.ifCond .le 17, 3) := by decide +kernel
theorem dX13_letter_74 : decode cX13_letter 74 = .ok (.iinc 6 1, 3) := by decide +kernel
theorem dX13_letter_77 : decode cX13_letter 77 = .ok (.lload 7, 2) := by decide +kernel
theorem dX13_letter_79 : decode cX13_letter 79 = .ok (.ldc2_w 318, 3) := by decide +kernel
theorem dX13_letter_82 : decode cX13_letter 82 = .ok (.ldiv, 1) := by decide +kernel
theorem dX13_letter_83 : decode cX13_letter 83 = .ok (.lstore 7, 2) := by decide +kernel
theorem dX13_letter_85 : decode cX13_letter 85 = .ok (.goto (-18), 3) := by decide +kernel
theorem dX13_letter_88 : decode cX13_letter 88 = .ok (.iload_n 3, 1) := by decide +kernel
theorem dX13_letter_89 : decode cX13_letter 89 = .ok (.iload 6, 2) := by decide +kernel
theorem dX13_letter_91 : decode cX13_letter 91 = .ok (.if_icmp .lt 5, 3) := by decide +kernel
theorem dX13_letter_94 : decode cX13_letter 94 = .ok (.iconst 0, 1) := by decide +kernel
theorem dX13_letter_95 : decode cX13_letter 95 = .ok (.ireturn, 1) := by decide +kernel
theorem dX13_letter_96 : decode cX13_letter 96 = .ok (.iload 6, 2) := by decide +kernel
theorem dX13_letter_98 : decode cX13_letter 98 = .ok (.iconst 1, 1) := by decide +kernel
theorem dX13_letter_99 : decode cX13_letter 99 = .ok (.isub, 1) := by decide +kernel
theorem dX13_letter_100 : decode cX13_letter 100 = .ok (.istore 7, 2) := by decide +kernel
theorem dX13_letter_102 : decode cX13_letter 102 = .ok (.iload 7, 2) := by decide +kernel
theorem dX13_letter_104 : decode cX13_letter 104 = .ok (.iload_n 3, 1) := by decide +kernel
theorem dX13_letter_105 : decode cX13_letter 105 = .ok (.if_icmp .le 17, 3) := by decide +kernel
theorem dX13_letter_108 : decode cX13_letter 108 = .ok (.lload 4, 2) := by decide +kernel
theorem dX13_letter_110 : decode cX13_letter 110 = .ok (.ldc2_w 318, 3) := by decide +kernel
theorem dX13_letter_113 : decode cX13_letter 113 = .ok (.ldiv, 1) := by decide +kernel
theorem dX13_letter_114 : decode cX13_letter 114 = .ok (.lstore 4, 2) := by decide +kernel
theorem dX13_letter_116 : decode cX13_letter 116 = .ok (.iinc 7 (-1), 3) := by decide +kernel
theorem dX13_letter_119 : decode cX13_letter 119 = .ok (.goto (-17), 3) := by decide +kernel
theorem dX13_letter_122 : decode cX13_letter 122 = .ok (.lload 4, 2) := by decide +kernel
theorem dX13_letter_124 : decode cX13_letter 124 = .ok (.ldc2_w 318, 3) := by decide +kernel
theorem dX13_letter_127 : decode cX13_letter 127 = .ok (.lrem, 1) := by decide +kernel
theorem dX13_letter_128 : decode cX13_letter 128 = .ok (.l2i, 1) := by decide +kernel
theorem dX13_letter_129 : decode cX13_letter 129 = .ok (.ireturn, 1) := by decide +kernel
theorem dX13_cellAt_0 : decode cX13_cellAt 0 = .ok (.aload_n 0, 1) := by decide +kernel
theorem dX13_cellAt_1 : decode cX13_cellAt 1 = .ok (.getfield 403, 3) := by decide +kernel
theorem dX13_cellAt_4 : decode cX13_cellAt 4 = .ok (.ifCond .eq 21, 3) := by decide +kernel
theorem dX13_cellAt_7 : decode cX13_cellAt 7 = .ok (.aload_n 0, 1) := by decide +kernel
theorem dX13_cellAt_8 : decode cX13_cellAt 8 = .ok (.iload_n 1, 1) := by decide +kernel
theorem dX13_cellAt_9 : decode cX13_cellAt 9 = .ok (.iload_n 2, 1) := by decide +kernel
theorem dX13_cellAt_10 : decode cX13_cellAt 10 = .ok (.invokevirtual 426, 3) := by decide +kernel
theorem dX13_cellAt_13 : decode cX13_cellAt 13 = .ok (.ifCond .eq 12, 3) := by decide +kernel
theorem dX13_cellAt_16 : decode cX13_cellAt 16 = .ok (.iload_n 1, 1) := by decide +kernel
theorem dX13_cellAt_17 : decode cX13_cellAt 17 = .ok (.bipush 7, 2) := by decide +kernel
theorem dX13_cellAt_19 : decode cX13_cellAt 19 = .ok (.iload_n 2, 1) := by decide +kernel
theorem dX13_cellAt_20 : decode cX13_cellAt 20 = .ok (.imul, 1) := by decide +kernel
theorem dX13_cellAt_21 : decode cX13_cellAt 21 = .ok (.iadd, 1) := by decide +kernel
theorem dX13_cellAt_22 : decode cX13_cellAt 22 = .ok (.goto 4, 3) := by decide +kernel
theorem dX13_cellAt_25 : decode cX13_cellAt 25 = .ok (.iconst (-1), 1) := by decide +kernel
theorem dX13_cellAt_26 : decode cX13_cellAt 26 = .ok (.ireturn, 1) := by decide +kernel
theorem dX13_rodeAt_0 : decode cX13_rodeAt 0 = .ok (.iconst 0, 1) := by decide +kernel
theorem dX13_rodeAt_1 : decode cX13_rodeAt 1 = .ok (.istore_n 2, 1) := by decide +kernel
theorem dX13_rodeAt_2 : decode cX13_rodeAt 2 = .ok (.iload_n 2, 1) := by decide +kernel
theorem dX13_rodeAt_3 : decode cX13_rodeAt 3 = .ok (.bipush 12, 2) := by decide +kernel
theorem dX13_rodeAt_5 : decode cX13_rodeAt 5 = .ok (.if_icmp .ge 21, 3) := by decide +kernel
theorem dX13_rodeAt_8 : decode cX13_rodeAt 8 = .ok (.aload_n 0, 1) := by decide +kernel
theorem dX13_rodeAt_9 : decode cX13_rodeAt 9 = .ok (.getfield 160, 3) := by decide +kernel
theorem dX13_rodeAt_12 : decode cX13_rodeAt 12 = .ok (.iload_n 2, 1) := by decide +kernel
theorem dX13_rodeAt_13 : decode cX13_rodeAt 13 = .ok (.iaload, 1) := by decide +kernel
theorem dX13_rodeAt_14 : decode cX13_rodeAt 14 = .ok (.iload_n 1, 1) := by decide +kernel
theorem dX13_rodeAt_15 : decode cX13_rodeAt 15 = .ok (.if_icmp .ne 5, 3) := by decide +kernel
theorem dX13_rodeAt_18 : decode cX13_rodeAt 18 = .ok (.iload_n 2, 1) := by decide +kernel
theorem dX13_rodeAt_19 : decode cX13_rodeAt 19 = .ok (.ireturn, 1) := by decide +kernel
theorem dX13_rodeAt_20 : decode cX13_rodeAt 20 = .ok (.iinc 2 1, 3) := by decide +kernel
theorem dX13_rodeAt_23 : decode cX13_rodeAt 23 = .ok (.goto (-21), 3) := by decide +kernel
theorem dX13_rodeAt_26 : decode cX13_rodeAt 26 = .ok (.iconst (-1), 1) := by decide +kernel
theorem dX13_rodeAt_27 : decode cX13_rodeAt 27 = .ok (.ireturn, 1) := by decide +kernel
theorem dX13_cell_0 : decode cX13_cell 0 = .ok (.aload_n 0, 1) := by decide +kernel
theorem dX13_cell_1 : decode cX13_cell 1 = .ok (.iload_n 1, 1) := by decide +kernel
theorem dX13_cell_2 : decode cX13_cell 2 = .ok (.iload_n 2, 1) := by decide +kernel
theorem dX13_cell_3 : decode cX13_cell 3 = .ok (.invokevirtual 543, 3) := by decide +kernel
theorem dX13_cell_6 : decode cX13_cell 6 = .ok (.istore 4, 2) := by decide +kernel
theorem dX13_cell_8 : decode cX13_cell 8 = .ok (.iload 4, 2) := by decide +kernel
theorem dX13_cell_10 : decode cX13_cell 10 = .ok (.iconst (-1), 1) := by decide +kernel
theorem dX13_cell_11 : decode cX13_cell 11 = .ok (.if_icmp .eq 15, 3) := by decide +kernel
theorem dX13_cell_14 : decode cX13_cell 14 = .ok (.iload_n 3, 1) := by decide +kernel
theorem dX13_cell_15 : decode cX13_cell 15 = .ok (.i2l, 1) := by decide +kernel
theorem dX13_cell_16 : decode cX13_cell 16 = .ok (.lconst 0, 1) := by decide +kernel
theorem dX13_cell_17 : decode cX13_cell 17 = .ok (.ldc2_w 546, 3) := by decide +kernel
theorem dX13_cell_20 : decode cX13_cell 20 = .ok (.invokestatic 307, 3) := by decide +kernel
theorem dX13_cell_23 : decode cX13_cell 23 = .ok (.ifCond .ne 5, 3) := by decide +kernel
theorem dX13_cell_26 : decode cX13_cell 26 = .ok (.iconst (-1), 1) := by decide +kernel
theorem dX13_cell_27 : decode cX13_cell 27 = .ok (.ireturn, 1) := by decide +kernel
theorem dX13_cell_28 : decode cX13_cell 28 = .ok (.aload_n 0, 1) := by decide +kernel
theorem dX13_cell_29 : decode cX13_cell 29 = .ok (.invokevirtual 516, 3) := by decide +kernel
theorem dX13_cell_32 : decode cX13_cell 32 = .ok (.iload_n 3, 1) := by decide +kernel
theorem dX13_cell_33 : decode cX13_cell 33 = .ok (.ifCond .ne 20, 3) := by decide +kernel
theorem dX13_cell_36 : decode cX13_cell 36 = .ok (.aload_n 0, 1) := by decide +kernel
theorem dX13_cell_37 : decode cX13_cell 37 = .ok (.iload 4, 2) := by decide +kernel
theorem dX13_cell_39 : decode cX13_cell 39 = .ok (.invokevirtual 470, 3) := by decide +kernel
theorem dX13_cell_42 : decode cX13_cell 42 = .ok (.ifCond .eq 7, 3) := by decide +kernel
theorem dX13_cell_45 : decode cX13_cell 45 = .ok (.iconst 1, 1) := by decide +kernel
theorem dX13_cell_46 : decode cX13_cell 46 = .ok (.goto 41, 3) := by decide +kernel
theorem dX13_cell_49 : decode cX13_cell 49 = .ok (.iconst 0, 1) := by decide +kernel
theorem dX13_cell_50 : decode cX13_cell 50 = .ok (.goto 37, 3) := by decide +kernel
theorem dX13_cell_53 : decode cX13_cell 53 = .ok (.iload_n 3, 1) := by decide +kernel
theorem dX13_cell_54 : decode cX13_cell 54 = .ok (.iconst 1, 1) := by decide +kernel
theorem dX13_cell_55 : decode cX13_cell 55 = .ok (.if_icmp .ne 26, 3) := by decide +kernel
theorem dX13_cell_58 : decode cX13_cell 58 = .ok (.aload_n 0, 1) := by decide +kernel
theorem dX13_cell_59 : decode cX13_cell 59 = .ok (.iload 4, 2) := by decide +kernel
theorem dX13_cell_61 : decode cX13_cell 61 = .ok (.aload_n 0, 1) := by decide +kernel
theorem dX13_cell_62 : decode cX13_cell 62 = .ok (.getfield 151, 3) := by decide +kernel
theorem dX13_cell_65 : decode cX13_cell 65 = .ok (.iconst 1, 1) := by decide +kernel
theorem dX13_cell_66 : decode cX13_cell 66 = .ok (.iaload, 1) := by decide +kernel
theorem dX13_cell_67 : decode cX13_cell 67 = .ok (.invokevirtual 473, 3) := by decide +kernel
theorem dX13_cell_70 : decode cX13_cell 70 = .ok (.ifCond .eq 7, 3) := by decide +kernel
theorem dX13_cell_73 : decode cX13_cell 73 = .ok (.iconst 1, 1) := by decide +kernel
theorem dX13_cell_74 : decode cX13_cell 74 = .ok (.goto 13, 3) := by decide +kernel
theorem dX13_cell_77 : decode cX13_cell 77 = .ok (.iconst 0, 1) := by decide +kernel
theorem dX13_cell_78 : decode cX13_cell 78 = .ok (.goto 9, 3) := by decide +kernel
theorem dX13_cell_81 : decode cX13_cell 81 = .ok (.aload_n 0, 1) := by decide +kernel
theorem dX13_cell_82 : decode cX13_cell 82 = .ok (.iload 4, 2) := by decide +kernel
theorem dX13_cell_84 : decode cX13_cell 84 = .ok (.invokevirtual 548, 3) := by decide +kernel
theorem dX13_cell_87 : decode cX13_cell 87 = .ok (.ireturn, 1) := by decide +kernel
theorem dX13_losesBy_0 : decode cX13_losesBy 0 = .ok (.iload_n 2, 1) := by decide +kernel
theorem dX13_losesBy_1 : decode cX13_losesBy 1 = .ok (.iload_n 1, 1) := by decide +kernel
theorem dX13_losesBy_2 : decode cX13_losesBy 2 = .ok (.ishr, 1) := by decide +kernel
theorem dX13_losesBy_3 : decode cX13_losesBy 3 = .ok (.iconst 1, 1) := by decide +kernel
theorem dX13_losesBy_4 : decode cX13_losesBy 4 = .ok (.iand, 1) := by decide +kernel
theorem dX13_losesBy_5 : decode cX13_losesBy 5 = .ok (.iconst 1, 1) := by decide +kernel
theorem dX13_losesBy_6 : decode cX13_losesBy 6 = .ok (.if_icmp .ne 17, 3) := by decide +kernel
theorem dX13_losesBy_9 : decode cX13_losesBy 9 = .ok (.aload_n 0, 1) := by decide +kernel
theorem dX13_losesBy_10 : decode cX13_losesBy 10 = .ok (.getfield 133, 3) := by decide +kernel
theorem dX13_losesBy_13 : decode cX13_losesBy 13 = .ok (.bipush 11, 2) := by decide +kernel
theorem dX13_losesBy_15 : decode cX13_losesBy 15 = .ok (.iconst 2, 1) := by decide +kernel
theorem dX13_losesBy_16 : decode cX13_losesBy 16 = .ok (.iload_n 1, 1) := by decide +kernel
theorem dX13_losesBy_17 : decode cX13_losesBy 17 = .ok (.imul, 1) := by decide +kernel
theorem dX13_losesBy_18 : decode cX13_losesBy 18 = .ok (.iadd, 1) := by decide +kernel
theorem dX13_losesBy_19 : decode cX13_losesBy 19 = .ok (.iaload, 1) := by decide +kernel
theorem dX13_losesBy_20 : decode cX13_losesBy 20 = .ok (.goto 4, 3) := by decide +kernel
theorem dX13_losesBy_23 : decode cX13_losesBy 23 = .ok (.iconst 0, 1) := by decide +kernel
theorem dX13_losesBy_24 : decode cX13_losesBy 24 = .ok (.istore_n 3, 1) := by decide +kernel
theorem dX13_losesBy_25 : decode cX13_losesBy 25 = .ok (.iconst 0, 1) := by decide +kernel
theorem dX13_losesBy_26 : decode cX13_losesBy 26 = .ok (.istore 4, 2) := by decide +kernel
theorem dX13_losesBy_28 : decode cX13_losesBy 28 = .ok (.iconst 0, 1) := by decide +kernel
theorem dX13_losesBy_29 : decode cX13_losesBy 29 = .ok (.istore 5, 2) := by decide +kernel
theorem dX13_losesBy_31 : decode cX13_losesBy 31 = .ok (.iload 5, 2) := by decide +kernel
theorem dX13_losesBy_33 : decode cX13_losesBy 33 = .ok (.bipush 12, 2) := by decide +kernel
theorem dX13_losesBy_35 : decode cX13_losesBy 35 = .ok (.if_icmp .ge 46, 3) := by decide +kernel
theorem dX13_losesBy_38 : decode cX13_losesBy 38 = .ok (.iload 4, 2) := by decide +kernel
theorem dX13_losesBy_40 : decode cX13_losesBy 40 = .ok (.ifCond .ne 28, 3) := by decide +kernel
theorem dX13_losesBy_43 : decode cX13_losesBy 43 = .ok (.aload_n 0, 1) := by decide +kernel
theorem dX13_losesBy_44 : decode cX13_losesBy 44 = .ok (.getfield 160, 3) := by decide +kernel
theorem dX13_losesBy_47 : decode cX13_losesBy 47 = .ok (.iload 5, 2) := by decide +kernel
theorem dX13_losesBy_49 : decode cX13_losesBy 49 = .ok (.iaload, 1) := by decide +kernel
theorem dX13_losesBy_50 : decode cX13_losesBy 50 = .ok (.aload_n 0, 1) := by decide +kernel
theorem dX13_losesBy_51 : decode cX13_losesBy 51 = .ok (.getfield 133, 3) := by decide +kernel
theorem dX13_losesBy_54 : decode cX13_losesBy 54 = .ok (.bipush 10, 2) := by decide +kernel
theorem dX13_losesBy_56 : decode cX13_losesBy 56 = .ok (.iconst 2, 1) := by decide +kernel
theorem dX13_losesBy_57 : decode cX13_losesBy 57 = .ok (.iload_n 1, 1) := by decide +kernel
theorem dX13_losesBy_58 : decode cX13_losesBy 58 = .ok (.imul, 1) := by decide +kernel
theorem dX13_losesBy_59 : decode cX13_losesBy 59 = .ok (.iadd, 1) := by decide +kernel
theorem dX13_losesBy_60 : decode cX13_losesBy 60 = .ok (.iaload, 1) := by decide +kernel
theorem dX13_losesBy_61 : decode cX13_losesBy 61 = .ok (.invokestatic 433, 3) := by decide +kernel
theorem dX13_losesBy_64 : decode cX13_losesBy 64 = .ok (.iconst 1, 1) := by decide +kernel
theorem dX13_losesBy_65 : decode cX13_losesBy 65 = .ok (.if_icmp .gt 7, 3) := by decide +kernel
theorem dX13_losesBy_68 : decode cX13_losesBy 68 = .ok (.iconst 1, 1) := by decide +kernel
theorem dX13_losesBy_69 : decode cX13_losesBy 69 = .ok (.goto 4, 3) := by decide +kernel
theorem dX13_losesBy_72 : decode cX13_losesBy 72 = .ok (.iconst 0, 1) := by decide +kernel
theorem dX13_losesBy_73 : decode cX13_losesBy 73 = .ok (.istore 4, 2) := by decide +kernel
theorem dX13_losesBy_75 : decode cX13_losesBy 75 = .ok (.iinc 5 1, 3) := by decide +kernel
theorem dX13_losesBy_78 : decode cX13_losesBy 78 = .ok (.goto (-47), 3) := by decide +kernel
theorem dX13_losesBy_81 : decode cX13_losesBy 81 = .ok (.iload 4, 2) := by decide +kernel
theorem dX13_losesBy_83 : decode cX13_losesBy 83 = .ok (.ifCond .eq 14, 3) := by decide +kernel
theorem dX13_losesBy_86 : decode cX13_losesBy 86 = .ok (.iload_n 3, 1) := by decide +kernel
theorem dX13_losesBy_87 : decode cX13_losesBy 87 = .ok (.aload_n 0, 1) := by decide +kernel
theorem dX13_losesBy_88 : decode cX13_losesBy 88 = .ok (.getfield 139, 3) := by decide +kernel
theorem dX13_losesBy_91 : decode cX13_losesBy 91 = .ok (.iconst 4, 1) := by decide +kernel
theorem dX13_losesBy_92 : decode cX13_losesBy 92 = .ok (.iaload, 1) := by decide +kernel
theorem dX13_losesBy_93 : decode cX13_losesBy 93 = .ok (.iadd, 1) := by decide +kernel
theorem dX13_losesBy_94 : decode cX13_losesBy 94 = .ok (.goto 4, 3) := by decide +kernel
theorem dX13_losesBy_97 : decode cX13_losesBy 97 = .ok (.iload_n 3, 1) := by decide +kernel
theorem dX13_losesBy_98 : decode cX13_losesBy 98 = .ok (.ireturn, 1) := by decide +kernel
theorem dX13_bell_0 : decode cX13_bell 0 = .ok (.aload_n 0, 1) := by decide +kernel
theorem dX13_bell_1 : decode cX13_bell 1 = .ok (.iload_n 1, 1) := by decide +kernel
theorem dX13_bell_2 : decode cX13_bell 2 = .ok (.invokevirtual 551, 3) := by decide +kernel
theorem dX13_bell_5 : decode cX13_bell 5 = .ok (.ifCond .ne 5, 3) := by decide +kernel
theorem dX13_bell_8 : decode cX13_bell 8 = .ok (.iconst (-1), 1) := by decide +kernel
theorem dX13_bell_9 : decode cX13_bell 9 = .ok (.ireturn, 1) := by decide +kernel
theorem dX13_bell_10 : decode cX13_bell 10 = .ok (.aload_n 0, 1) := by decide +kernel
theorem dX13_bell_11 : decode cX13_bell 11 = .ok (.invokevirtual 516, 3) := by decide +kernel
theorem dX13_bell_14 : decode cX13_bell 14 = .ok (.iload_n 2, 1) := by decide +kernel
theorem dX13_bell_15 : decode cX13_bell 15 = .ok (.tableswitch 98 0 4 #[33, 48, 63, 75, 86], 33) := by decide +kernel
theorem dX13_bell_48 : decode cX13_bell 48 = .ok (.aload_n 0, 1) := by decide +kernel
theorem dX13_bell_49 : decode cX13_bell 49 = .ok (.getfield 133, 3) := by decide +kernel
theorem dX13_bell_52 : decode cX13_bell 52 = .ok (.bipush 10, 2) := by decide +kernel
theorem dX13_bell_54 : decode cX13_bell 54 = .ok (.iconst 2, 1) := by decide +kernel
theorem dX13_bell_55 : decode cX13_bell 55 = .ok (.iload_n 1, 1) := by decide +kernel
theorem dX13_bell_56 : decode cX13_bell 56 = .ok (.imul, 1) := by decide +kernel
theorem dX13_bell_57 : decode cX13_bell 57 = .ok (.iadd, 1) := by decide +kernel
theorem dX13_bell_58 : decode cX13_bell 58 = .ok (.iaload, 1) := by decide +kernel
theorem dX13_bell_59 : decode cX13_bell 59 = .ok (.bipush 7, 2) := by decide +kernel
theorem dX13_bell_61 : decode cX13_bell 61 = .ok (.irem, 1) := by decide +kernel
theorem dX13_bell_62 : decode cX13_bell 62 = .ok (.ireturn, 1) := by decide +kernel
theorem dX13_bell_63 : decode cX13_bell 63 = .ok (.aload_n 0, 1) := by decide +kernel
theorem dX13_bell_64 : decode cX13_bell 64 = .ok (.getfield 133, 3) := by decide +kernel
theorem dX13_bell_67 : decode cX13_bell 67 = .ok (.bipush 10, 2) := by decide +kernel
theorem dX13_bell_69 : decode cX13_bell 69 = .ok (.iconst 2, 1) := by decide +kernel
theorem dX13_bell_70 : decode cX13_bell 70 = .ok (.iload_n 1, 1) := by decide +kernel
theorem dX13_bell_71 : decode cX13_bell 71 = .ok (.imul, 1) := by decide +kernel
theorem dX13_bell_72 : decode cX13_bell 72 = .ok (.iadd, 1) := by decide +kernel
theorem dX13_bell_73 : decode cX13_bell 73 = .ok (.iaload, 1) := by decide +kernel
theorem dX13_bell_74 : decode cX13_bell 74 = .ok (.bipush 7, 2) := by decide +kernel
theorem dX13_bell_76 : decode cX13_bell 76 = .ok (.idiv, 1) := by decide +kernel
theorem dX13_bell_77 : decode cX13_bell 77 = .ok (.ireturn, 1) := by decide +kernel
theorem dX13_bell_78 : decode cX13_bell 78 = .ok (.aload_n 0, 1) := by decide +kernel
theorem dX13_bell_79 : decode cX13_bell 79 = .ok (.getfield 133, 3) := by decide +kernel
theorem dX13_bell_82 : decode cX13_bell 82 = .ok (.bipush 11, 2) := by decide +kernel
theorem dX13_bell_84 : decode cX13_bell 84 = .ok (.iconst 2, 1) := by decide +kernel
theorem dX13_bell_85 : decode cX13_bell 85 = .ok (.iload_n 1, 1) := by decide +kernel
theorem dX13_bell_86 : decode cX13_bell 86 = .ok (.imul, 1) := by decide +kernel
theorem dX13_bell_87 : decode cX13_bell 87 = .ok (.iadd, 1) := by decide +kernel
theorem dX13_bell_88 : decode cX13_bell 88 = .ok (.iaload, 1) := by decide +kernel
theorem dX13_bell_89 : decode cX13_bell 89 = .ok (.ireturn, 1) := by decide +kernel
theorem dX13_bell_90 : decode cX13_bell 90 = .ok (.aload_n 0, 1) := by decide +kernel
theorem dX13_bell_91 : decode cX13_bell 91 = .ok (.getfield 151, 3) := by decide +kernel
theorem dX13_bell_94 : decode cX13_bell 94 = .ok (.iconst 1, 1) := by decide +kernel
theorem dX13_bell_95 : decode cX13_bell 95 = .ok (.iaload, 1) := by decide +kernel
theorem dX13_bell_96 : decode cX13_bell 96 = .ok (.iload_n 1, 1) := by decide +kernel
theorem dX13_bell_97 : decode cX13_bell 97 = .ok (.ishr, 1) := by decide +kernel
theorem dX13_bell_98 : decode cX13_bell 98 = .ok (.iconst 1, 1) := by decide +kernel
theorem dX13_bell_99 : decode cX13_bell 99 = .ok (.iand, 1) := by decide +kernel
theorem dX13_bell_100 : decode cX13_bell 100 = .ok (.ireturn, 1) := by decide +kernel
theorem dX13_bell_101 : decode cX13_bell 101 = .ok (.aload_n 0, 1) := by decide +kernel
theorem dX13_bell_102 : decode cX13_bell 102 = .ok (.iload_n 1, 1) := by decide +kernel
theorem dX13_bell_103 : decode cX13_bell 103 = .ok (.aload_n 0, 1) := by decide +kernel
theorem dX13_bell_104 : decode cX13_bell 104 = .ok (.getfield 151, 3) := by decide +kernel
theorem dX13_bell_107 : decode cX13_bell 107 = .ok (.iconst 1, 1) := by decide +kernel
theorem dX13_bell_108 : decode cX13_bell 108 = .ok (.iaload, 1) := by decide +kernel
theorem dX13_bell_109 : decode cX13_bell 109 = .ok (.invokevirtual 554, 3) := by decide +kernel
theorem dX13_bell_112 : decode cX13_bell 112 = .ok (.ireturn, 1) := by decide +kernel
theorem dX13_bell_113 : decode cX13_bell 113 = .ok (.iconst (-1), 1) := by decide +kernel
theorem dX13_bell_114 : decode cX13_bell 114 = .ok (.ireturn, 1) := by decide +kernel
theorem dX13_walker_0 : decode cX13_walker 0 = .ok (.aload_n 0, 1) := by decide +kernel
theorem dX13_walker_1 : decode cX13_walker 1 = .ok (.iload_n 1, 1) := by decide +kernel
theorem dX13_walker_2 : decode cX13_walker 2 = .ok (.invokevirtual 557, 3) := by decide +kernel
theorem dX13_walker_5 : decode cX13_walker 5 = .ok (.ifCond .ne 5, 3) := by decide +kernel
theorem dX13_walker_8 : decode cX13_walker 8 = .ok (.iconst (-1), 1) := by decide +kernel
theorem dX13_walker_9 : decode cX13_walker 9 = .ok (.ireturn, 1) := by decide +kernel
theorem dX13_walker_10 : decode cX13_walker 10 = .ok (.iload_n 2, 1) := by decide +kernel
theorem dX13_walker_11 : decode cX13_walker 11 = .ok (.tableswitch 120 0 7 #[45, 60, 75, 90, 105, 105, 105, 105], 45) := by decide +kernel
theorem dX13_walker_56 : decode cX13_walker 56 = .ok (.aload_n 0, 1) := by decide +kernel
theorem dX13_walker_57 : decode cX13_walker 57 = .ok (.getfield 136, 3) := by decide +kernel
theorem dX13_walker_60 : decode cX13_walker 60 = .ok (.bipush 30, 2) := by decide +kernel
theorem dX13_walker_62 : decode cX13_walker 62 = .ok (.iconst 5, 1) := by decide +kernel
theorem dX13_walker_63 : decode cX13_walker 63 = .ok (.iload_n 1, 1) := by decide +kernel
theorem dX13_walker_64 : decode cX13_walker 64 = .ok (.imul, 1) := by decide +kernel
theorem dX13_walker_65 : decode cX13_walker 65 = .ok (.iadd, 1) := by decide +kernel
theorem dX13_walker_66 : decode cX13_walker 66 = .ok (.iaload, 1) := by decide +kernel
theorem dX13_walker_67 : decode cX13_walker 67 = .ok (.bipush 7, 2) := by decide +kernel
theorem dX13_walker_69 : decode cX13_walker 69 = .ok (.irem, 1) := by decide +kernel
theorem dX13_walker_70 : decode cX13_walker 70 = .ok (.ireturn, 1) := by decide +kernel
theorem dX13_walker_71 : decode cX13_walker 71 = .ok (.aload_n 0, 1) := by decide +kernel
theorem dX13_walker_72 : decode cX13_walker 72 = .ok (.getfield 136, 3) := by decide +kernel
theorem dX13_walker_75 : decode cX13_walker 75 = .ok (.bipush 30, 2) := by decide +kernel
theorem dX13_walker_77 : decode cX13_walker 77 = .ok (.iconst 5, 1) := by decide +kernel
theorem dX13_walker_78 : decode cX13_walker 78 = .ok (.iload_n 1, 1) := by decide +kernel
theorem dX13_walker_79 : decode cX13_walker 79 = .ok (.imul, 1) := by decide +kernel
theorem dX13_walker_80 : decode cX13_walker 80 = .ok (.iadd, 1) := by decide +kernel
theorem dX13_walker_81 : decode cX13_walker 81 = .ok (.iaload, 1) := by decide +kernel
theorem dX13_walker_82 : decode cX13_walker 82 = .ok (.bipush 7, 2) := by decide +kernel
theorem dX13_walker_84 : decode cX13_walker 84 = .ok (.idiv, 1) := by decide +kernel
theorem dX13_walker_85 : decode cX13_walker 85 = .ok (.ireturn, 1) := by decide +kernel
theorem dX13_walker_86 : decode cX13_walker 86 = .ok (.aload_n 0, 1) := by decide +kernel
theorem dX13_walker_87 : decode cX13_walker 87 = .ok (.getfield 136, 3) := by decide +kernel
theorem dX13_walker_90 : decode cX13_walker 90 = .ok (.bipush 31, 2) := by decide +kernel
theorem dX13_walker_92 : decode cX13_walker 92 = .ok (.iconst 5, 1) := by decide +kernel
theorem dX13_walker_93 : decode cX13_walker 93 = .ok (.iload_n 1, 1) := by decide +kernel
theorem dX13_walker_94 : decode cX13_walker 94 = .ok (.imul, 1) := by decide +kernel
theorem dX13_walker_95 : decode cX13_walker 95 = .ok (.iadd, 1) := by decide +kernel
theorem dX13_walker_96 : decode cX13_walker 96 = .ok (.iaload, 1) := by decide +kernel
theorem dX13_walker_97 : decode cX13_walker 97 = .ok (.bipush 7, 2) := by decide +kernel
theorem dX13_walker_99 : decode cX13_walker 99 = .ok (.irem, 1) := by decide +kernel
theorem dX13_walker_100 : decode cX13_walker 100 = .ok (.ireturn, 1) := by decide +kernel
theorem dX13_walker_101 : decode cX13_walker 101 = .ok (.aload_n 0, 1) := by decide +kernel
theorem dX13_walker_102 : decode cX13_walker 102 = .ok (.getfield 136, 3) := by decide +kernel
theorem dX13_walker_105 : decode cX13_walker 105 = .ok (.bipush 31, 2) := by decide +kernel
theorem dX13_walker_107 : decode cX13_walker 107 = .ok (.iconst 5, 1) := by decide +kernel
theorem dX13_walker_108 : decode cX13_walker 108 = .ok (.iload_n 1, 1) := by decide +kernel
theorem dX13_walker_109 : decode cX13_walker 109 = .ok (.imul, 1) := by decide +kernel
theorem dX13_walker_110 : decode cX13_walker 110 = .ok (.iadd, 1) := by decide +kernel
theorem dX13_walker_111 : decode cX13_walker 111 = .ok (.iaload, 1) := by decide +kernel
theorem dX13_walker_112 : decode cX13_walker 112 = .ok (.bipush 7, 2) := by decide +kernel
theorem dX13_walker_114 : decode cX13_walker 114 = .ok (.idiv, 1) := by decide +kernel
theorem dX13_walker_115 : decode cX13_walker 115 = .ok (.ireturn, 1) := by decide +kernel
theorem dX13_walker_116 : decode cX13_walker 116 = .ok (.aload_n 0, 1) := by decide +kernel
theorem dX13_walker_117 : decode cX13_walker 117 = .ok (.getfield 151, 3) := by decide +kernel
theorem dX13_walker_120 : decode cX13_walker 120 = .ok (.iconst 2, 1) := by decide +kernel
theorem dX13_walker_121 : decode cX13_walker 121 = .ok (.iconst 4, 1) := by decide +kernel
theorem dX13_walker_122 : decode cX13_walker 122 = .ok (.iload_n 1, 1) := by decide +kernel
theorem dX13_walker_123 : decode cX13_walker 123 = .ok (.imul, 1) := by decide +kernel
theorem dX13_walker_124 : decode cX13_walker 124 = .ok (.iadd, 1) := by decide +kernel
theorem dX13_walker_125 : decode cX13_walker 125 = .ok (.iload_n 2, 1) := by decide +kernel
theorem dX13_walker_126 : decode cX13_walker 126 = .ok (.iadd, 1) := by decide +kernel
theorem dX13_walker_127 : decode cX13_walker 127 = .ok (.iconst 4, 1) := by decide +kernel
theorem dX13_walker_128 : decode cX13_walker 128 = .ok (.isub, 1) := by decide +kernel
theorem dX13_walker_129 : decode cX13_walker 129 = .ok (.iaload, 1) := by decide +kernel
theorem dX13_walker_130 : decode cX13_walker 130 = .ok (.ireturn, 1) := by decide +kernel
theorem dX13_walker_131 : decode cX13_walker 131 = .ok (.iconst (-1), 1) := by decide +kernel
theorem dX13_walker_132 : decode cX13_walker 132 = .ok (.ireturn, 1) := by decide +kernel
theorem dX13_told_0 : decode cX13_told 0 = .ok (.iload_n 1, 1) := by decide +kernel
theorem dX13_told_1 : decode cX13_told 1 = .ok (.i2l, 1) := by decide +kernel
theorem dX13_told_2 : decode cX13_told 2 = .ok (.lconst 0, 1) := by decide +kernel
theorem dX13_told_3 : decode cX13_told 3 = .ok (.aload_n 0, 1) := by decide +kernel
theorem dX13_told_4 : decode cX13_told 4 = .ok (.getfield 151, 3) := by decide +kernel
theorem dX13_told_7 : decode cX13_told 7 = .ok (.bipush 26, 2) := by decide +kernel
theorem dX13_told_9 : decode cX13_told 9 = .ok (.iaload, 1) := by decide +kernel
theorem dX13_told_10 : decode cX13_told 10 = .ok (.iconst 1, 1) := by decide +kernel
theorem dX13_told_11 : decode cX13_told 11 = .ok (.isub, 1) := by decide +kernel
theorem dX13_told_12 : decode cX13_told 12 = .ok (.i2l, 1) := by decide +kernel
theorem dX13_told_13 : decode cX13_told 13 = .ok (.invokestatic 307, 3) := by decide +kernel
theorem dX13_told_16 : decode cX13_told 16 = .ok (.ifCond .eq 31, 3) := by decide +kernel
theorem dX13_told_19 : decode cX13_told 19 = .ok (.iload_n 2, 1) := by decide +kernel
theorem dX13_told_20 : decode cX13_told 20 = .ok (.i2l, 1) := by decide +kernel
theorem dX13_told_21 : decode cX13_told 21 = .ok (.lconst 0, 1) := by decide +kernel
theorem dX13_told_22 : decode cX13_told 22 = .ok (.ldc2_w 560, 3) := by decide +kernel
theorem dX13_told_25 : decode cX13_told 25 = .ok (.invokestatic 307, 3) := by decide +kernel
theorem dX13_told_28 : decode cX13_told 28 = .ok (.ifCond .eq 19, 3) := by decide +kernel
theorem dX13_told_31 : decode cX13_told 31 = .ok (.aload_n 0, 1) := by decide +kernel
theorem dX13_told_32 : decode cX13_told 32 = .ok (.getfield 151, 3) := by decide +kernel
theorem dX13_told_35 : decode cX13_told 35 = .ok (.bipush 27, 2) := by decide +kernel
theorem dX13_told_37 : decode cX13_told 37 = .ok (.iconst 4, 1) := by decide +kernel
theorem dX13_told_38 : decode cX13_told 38 = .ok (.iload_n 1, 1) := by decide +kernel
theorem dX13_told_39 : decode cX13_told 39 = .ok (.imul, 1) := by decide +kernel
theorem dX13_told_40 : decode cX13_told 40 = .ok (.iadd, 1) := by decide +kernel
theorem dX13_told_41 : decode cX13_told 41 = .ok (.iload_n 2, 1) := by decide +kernel
theorem dX13_told_42 : decode cX13_told 42 = .ok (.iadd, 1) := by decide +kernel
theorem dX13_told_43 : decode cX13_told 43 = .ok (.iaload, 1) := by decide +kernel
theorem dX13_told_44 : decode cX13_told 44 = .ok (.goto 4, 3) := by decide +kernel
theorem dX13_told_47 : decode cX13_told 47 = .ok (.iconst (-1), 1) := by decide +kernel
theorem dX13_told_48 : decode cX13_told 48 = .ok (.ireturn, 1) := by decide +kernel
theorem dX13_hunt_0 : decode cX13_hunt 0 = .ok (.aload_n 0, 1) := by decide +kernel
theorem dX13_hunt_1 : decode cX13_hunt 1 = .ok (.getfield 403, 3) := by decide +kernel
theorem dX13_hunt_4 : decode cX13_hunt 4 = .ok (.ifCond .eq 15, 3) := by decide +kernel
theorem dX13_hunt_7 : decode cX13_hunt 7 = .ok (.iload_n 1, 1) := by decide +kernel
theorem dX13_hunt_8 : decode cX13_hunt 8 = .ok (.i2l, 1) := by decide +kernel
theorem dX13_hunt_9 : decode cX13_hunt 9 = .ok (.lconst 0, 1) := by decide +kernel
theorem dX13_hunt_10 : decode cX13_hunt 10 = .ok (.ldc2_w 562, 3) := by decide +kernel
theorem dX13_hunt_13 : decode cX13_hunt 13 = .ok (.invokestatic 307, 3) := by decide +kernel
theorem dX13_hunt_16 : decode cX13_hunt 16 = .ok (.ifCond .ne 5, 3) := by decide +kernel
theorem dX13_hunt_19 : decode cX13_hunt 19 = .ok (.iconst (-1), 1) := by decide +kernel
theorem dX13_hunt_20 : decode cX13_hunt 20 = .ok (.ireturn, 1) := by decide +kernel
theorem dX13_hunt_21 : decode cX13_hunt 21 = .ok (.aload_n 0, 1) := by decide +kernel
theorem dX13_hunt_22 : decode cX13_hunt 22 = .ok (.invokevirtual 516, 3) := by decide +kernel
theorem dX13_hunt_25 : decode cX13_hunt 25 = .ok (.iload_n 2, 1) := by decide +kernel
theorem dX13_hunt_26 : decode cX13_hunt 26 = .ok (.ifCond .ne 15, 3) := by decide +kernel
theorem dX13_hunt_29 : decode cX13_hunt 29 = .ok (.aload_n 0, 1) := by decide +kernel
theorem dX13_hunt_30 : decode cX13_hunt 30 = .ok (.getfield 160, 3) := by decide +kernel
theorem dX13_hunt_33 : decode cX13_hunt 33 = .ok (.iload_n 1, 1) := by decide +kernel
theorem dX13_hunt_34 : decode cX13_hunt 34 = .ok (.iaload, 1) := by decide +kernel
theorem dX13_hunt_35 : decode cX13_hunt 35 = .ok (.bipush 7, 2) := by decide +kernel
theorem dX13_hunt_37 : decode cX13_hunt 37 = .ok (.irem, 1) := by decide +kernel
theorem dX13_hunt_38 : decode cX13_hunt 38 = .ok (.goto 21, 3) := by decide +kernel
theorem dX13_hunt_41 : decode cX13_hunt 41 = .ok (.iload_n 2, 1) := by decide +kernel
theorem dX13_hunt_42 : decode cX13_hunt 42 = .ok (.iconst 1, 1) := by decide +kernel
theorem dX13_hunt_43 : decode cX13_hunt 43 = .ok (.if_icmp .ne 15, 3) := by decide +kernel
theorem dX13_hunt_46 : decode cX13_hunt 46 = .ok (.aload_n 0, 1) := by decide +kernel
theorem dX13_hunt_47 : decode cX13_hunt 47 = .ok (.getfield 160, 3) := by decide +kernel
theorem dX13_hunt_50 : decode cX13_hunt 50 = .ok (.iload_n 1, 1) := by decide +kernel
theorem dX13_hunt_51 : decode cX13_hunt 51 = .ok (.iaload, 1) := by decide +kernel
theorem dX13_hunt_52 : decode cX13_hunt 52 = .ok (.bipush 7, 2) := by decide +kernel
theorem dX13_hunt_54 : decode cX13_hunt 54 = .ok (.idiv, 1) := by decide +kernel
theorem dX13_hunt_55 : decode cX13_hunt 55 = .ok (.goto 4, 3) := by decide +kernel
theorem dX13_hunt_58 : decode cX13_hunt 58 = .ok (.iconst (-1), 1) := by decide +kernel
theorem dX13_hunt_59 : decode cX13_hunt 59 = .ok (.ireturn, 1) := by decide +kernel
theorem dX13_meets_0 : decode cX13_meets 0 = .ok (.aload_n 0, 1) := by decide +kernel
theorem dX13_meets_1 : decode cX13_meets 1 = .ok (.iload_n 1, 1) := by decide +kernel
theorem dX13_meets_2 : decode cX13_meets 2 = .ok (.invokevirtual 557, 3) := by decide +kernel
theorem dX13_meets_5 : decode cX13_meets 5 = .ok (.ifCond .ne 5, 3) := by decide +kernel
theorem dX13_meets_8 : decode cX13_meets 8 = .ok (.iconst (-1), 1) := by decide +kernel
theorem dX13_meets_9 : decode cX13_meets 9 = .ok (.ireturn, 1) := by decide +kernel
theorem dX13_meets_10 : decode cX13_meets 10 = .ok (.aload_n 0, 1) := by decide +kernel
theorem dX13_meets_11 : decode cX13_meets 11 = .ok (.invokevirtual 516, 3) := by decide +kernel
theorem dX13_meets_14 : decode cX13_meets 14 = .ok (.aload_n 0, 1) := by decide +kernel
theorem dX13_meets_15 : decode cX13_meets 15 = .ok (.iload_n 1, 1) := by decide +kernel
theorem dX13_meets_16 : decode cX13_meets 16 = .ok (.invokevirtual 519, 3) := by decide +kernel
theorem dX13_meets_19 : decode cX13_meets 19 = .ok (.ireturn, 1) := by decide +kernel
theorem dX13_safely_0 : decode cX13_safely 0 = .ok (.iconst 0, 1) := by decide +kernel
theorem dX13_safely_1 : decode cX13_safely 1 = .ok (.istore 4, 2) := by decide +kernel
theorem dX13_safely_3 : decode cX13_safely 3 = .ok (.iload 4, 2) := by decide +kernel
theorem dX13_safely_5 : decode cX13_safely 5 = .ok (.bipush 49, 2) := by decide +kernel
theorem dX13_safely_7 : decode cX13_safely 7 = .ok (.if_icmp .ge 22, 3) := by decide +kernel
theorem dX13_safely_10 : decode cX13_safely 10 = .ok (.aload_n 0, 1) := by decide +kernel
theorem dX13_safely_11 : decode cX13_safely 11 = .ok (.getfield 166, 3) := by decide +kernel
theorem dX13_safely_14 : decode cX13_safely 14 = .ok (.bipush 49, 2) := by decide +kernel
theorem dX13_safely_16 : decode cX13_safely 16 = .ok (.iload_n 3, 1) := by decide +kernel
theorem dX13_safely_17 : decode cX13_safely 17 = .ok (.imul, 1) := by decide +kernel
theorem dX13_safely_18 : decode cX13_safely 18 = .ok (.iload 4, 2) := by decide +kernel
theorem dX13_safely_20 : decode cX13_safely 20 = .ok (.iadd, 1) := by decide +kernel
theorem dX13_safely_21 : decode cX13_safely 21 = .ok (.iconst 0, 1) := by decide +kernel
theorem dX13_safely_22 : decode cX13_safely 22 = .ok (.bastore, 1) := by decide +kernel
theorem dX13_safely_23 : decode cX13_safely 23 = .ok (.iinc 4 1, 3) := by decide +kernel
theorem dX13_safely_26 : decode cX13_safely 26 = .ok (.goto (-23), 3) := by decide +kernel
theorem dX13_safely_29 : decode cX13_safely 29 = .ok (.iconst 0, 1) := by decide +kernel
theorem dX13_safely_30 : decode cX13_safely 30 = .ok (.istore 4, 2) := by decide +kernel
theorem dX13_safely_32 : decode cX13_safely 32 = .ok (.iload 4, 2) := by decide +kernel
theorem dX13_safely_34 : decode cX13_safely 34 = .ok (.bipush 49, 2) := by decide +kernel
theorem dX13_safely_36 : decode cX13_safely 36 = .ok (.if_icmp .ge 112, 3) := by decide +kernel
theorem dX13_safely_39 : decode cX13_safely 39 = .ok (.aload_n 0, 1) := by decide +kernel
theorem dX13_safely_40 : decode cX13_safely 40 = .ok (.getfield 166, 3) := by decide +kernel
theorem dX13_safely_43 : decode cX13_safely 43 = .ok (.bipush 49, 2) := by decide +kernel
theorem dX13_safely_45 : decode cX13_safely 45 = .ok (.iload_n 2, 1) := by decide +kernel
theorem dX13_safely_46 : decode cX13_safely 46 = .ok (.imul, 1) := by decide +kernel
theorem dX13_safely_47 : decode cX13_safely 47 = .ok (.iload 4, 2) := by decide +kernel
theorem dX13_safely_49 : decode cX13_safely 49 = .ok (.iadd, 1) := by decide +kernel
theorem dX13_safely_50 : decode cX13_safely 50 = .ok (.baload, 1) := by decide +kernel
theorem dX13_safely_51 : decode cX13_safely 51 = .ok (.ifCond .ne 6, 3) := by decide +kernel
theorem dX13_safely_54 : decode cX13_safely 54 = .ok (.goto 88, 3) := by decide +kernel
theorem dX13_safely_57 : decode cX13_safely 57 = .ok (.iconst 0, 1) := by decide +kernel
theorem dX13_safely_58 : decode cX13_safely 58 = .ok (.istore 5, 2) := by decide +kernel
theorem dX13_safely_60 : decode cX13_safely 60 = .ok (.iload 5, 2) := by decide +kernel
theorem dX13_safely_62 : decode cX13_safely 62 = .ok (.bipush 8, 2) := by decide +kernel
theorem dX13_safely_64 : decode cX13_safely 64 = .ok (.if_icmp .gt 78, 3) := by decide +kernel
theorem dX13_safely_67 : decode cX13_safely 67 = .ok (.aload_n 0, 1) := by decide +kernel
theorem dX13_safely_68 : decode cX13_safely 68 = .ok (.iload 4, 2) := by decide +kernel
theorem dX13_safely_70 : decode cX13_safely 70 = .ok (.iload 5, 2) := by decide +kernel
theorem dX13_safely_72 : decode cX13_safely 72 = .ok (.invokevirtual 467, 3) := by decide +kernel
theorem dX13_safely_75 : decode cX13_safely 75 = .ok (.istore 6, 2) := by decide +kernel
theorem dX13_safely_77 : decode cX13_safely 77 = .ok (.iload 6, 2) := by decide +kernel
theorem dX13_safely_79 : decode cX13_safely 79 = .ok (.iconst (-1), 1) := by decide +kernel
theorem dX13_safely_80 : decode cX13_safely 80 = .ok (.if_icmp .eq 56, 3) := by decide +kernel
theorem dX13_safely_83 : decode cX13_safely 83 = .ok (.iload 6, 2) := by decide +kernel
theorem dX13_safely_85 : decode cX13_safely 85 = .ok (.aload_n 0, 1) := by decide +kernel
theorem dX13_safely_86 : decode cX13_safely 86 = .ok (.getfield 160, 3) := by decide +kernel
theorem dX13_safely_89 : decode cX13_safely 89 = .ok (.iload_n 1, 1) := by decide +kernel
theorem dX13_safely_90 : decode cX13_safely 90 = .ok (.iconst 1, 1) := by decide +kernel
theorem dX13_safely_91 : decode cX13_safely 91 = .ok (.iadd, 1) := by decide +kernel
theorem dX13_safely_92 : decode cX13_safely 92 = .ok (.iaload, 1) := by decide +kernel
theorem dX13_safely_93 : decode cX13_safely 93 = .ok (.if_icmp .eq 43, 3) := by decide +kernel
theorem dX13_safely_96 : decode cX13_safely 96 = .ok (.iload 6, 2) := by decide +kernel
theorem dX13_safely_98 : decode cX13_safely 98 = .ok (.aload_n 0, 1) := by decide +kernel
