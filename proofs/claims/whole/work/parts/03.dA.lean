theorem dX0_init_0 : decode cX0_init 0 = .ok (.aload_n 0, 1) := by decide +kernel
theorem dX0_init_1 : decode cX0_init 1 = .ok (.invokespecial 1, 3) := by decide +kernel
theorem dX0_init_4 : decode cX0_init 4 = .ok (.aload_n 0, 1) := by decide +kernel
theorem dX0_init_5 : decode cX0_init 5 = .ok (.aload_n 1, 1) := by decide +kernel
theorem dX0_init_6 : decode cX0_init 6 = .ok (.putfield 7, 3) := by decide +kernel
theorem dX0_init_9 : decode cX0_init 9 = .ok (.aload_n 0, 1) := by decide +kernel
theorem dX0_init_10 : decode cX0_init 10 = .ok (.iload_n 2, 1) := by decide +kernel
theorem dX0_init_11 : decode cX0_init 11 = .ok (.putfield 13, 3) := by decide +kernel
theorem dX0_init_14 : decode cX0_init 14 = .ok (.return_, 1) := by decide +kernel
theorem dX0_isThere_0 : decode cX0_isThere 0 = .ok (.aload_n 0, 1) := by decide +kernel
theorem dX0_isThere_1 : decode cX0_isThere 1 = .ok (.getfield 7, 3) := by decide +kernel
theorem dX0_isThere_4 : decode cX0_isThere 4 = .ok (.arraylength, 1) := by decide +kernel
theorem dX0_isThere_5 : decode cX0_isThere 5 = .ok (.ifCond .le 7, 3) := by decide +kernel
theorem dX0_isThere_8 : decode cX0_isThere 8 = .ok (.iconst 1, 1) := by decide +kernel
theorem dX0_isThere_9 : decode cX0_isThere 9 = .ok (.goto 4, 3) := by decide +kernel
theorem dX0_isThere_12 : decode cX0_isThere 12 = .ok (.iconst 0, 1) := by decide +kernel
theorem dX0_isThere_13 : decode cX0_isThere 13 = .ok (.ireturn, 1) := by decide +kernel
theorem dX1_init_0 : decode cX1_init 0 = .ok (.aload_n 0, 1) := by decide +kernel
theorem dX1_init_1 : decode cX1_init 1 = .ok (.invokespecial 3, 3) := by decide +kernel
theorem dX1_init_4 : decode cX1_init 4 = .ok (.aload_n 0, 1) := by decide +kernel
theorem dX1_init_5 : decode cX1_init 5 = .ok (.aload_n 1, 1) := by decide +kernel
theorem dX1_init_6 : decode cX1_init 6 = .ok (.putfield 9, 3) := by decide +kernel
theorem dX1_init_9 : decode cX1_init 9 = .ok (.aload_n 0, 1) := by decide +kernel
theorem dX1_init_10 : decode cX1_init 10 = .ok (.new 15, 3) := by decide +kernel
theorem dX1_init_13 : decode cX1_init 13 = .ok (.dup, 1) := by decide +kernel
theorem dX1_init_14 : decode cX1_init 14 = .ok (.aload_n 1, 1) := by decide +kernel
theorem dX1_init_15 : decode cX1_init 15 = .ok (.aload_n 2, 1) := by decide +kernel
theorem dX1_init_16 : decode cX1_init 16 = .ok (.invokespecial 17, 3) := by decide +kernel
theorem dX1_init_19 : decode cX1_init 19 = .ok (.putfield 20, 3) := by decide +kernel
theorem dX1_init_22 : decode cX1_init 22 = .ok (.return_, 1) := by decide +kernel
theorem dX1_start_0 : decode cX1_start 0 = .ok (.aload_n 0, 1) := by decide +kernel
theorem dX1_start_1 : decode cX1_start 1 = .ok (.iconst 0, 1) := by decide +kernel
theorem dX1_start_2 : decode cX1_start 2 = .ok (.putfield 24, 3) := by decide +kernel
theorem dX1_start_5 : decode cX1_start 5 = .ok (.aload_n 0, 1) := by decide +kernel
theorem dX1_start_6 : decode cX1_start 6 = .ok (.iconst 0, 1) := by decide +kernel
theorem dX1_start_7 : decode cX1_start 7 = .ok (.putfield 28, 3) := by decide +kernel
theorem dX1_start_10 : decode cX1_start 10 = .ok (.aload_n 0, 1) := by decide +kernel
theorem dX1_start_11 : decode cX1_start 11 = .ok (.lconst 0, 1) := by decide +kernel
theorem dX1_start_12 : decode cX1_start 12 = .ok (.putfield 31, 3) := by decide +kernel
theorem dX1_start_15 : decode cX1_start 15 = .ok (.return_, 1) := by decide +kernel
theorem dX1_passNight_0 : decode cX1_passNight 0 = .ok (.aload_n 0, 1) := by decide +kernel
theorem dX1_passNight_1 : decode cX1_passNight 1 = .ok (.getfield 20, 3) := by decide +kernel
theorem dX1_passNight_4 : decode cX1_passNight 4 = .ok (.aload_n 1, 1) := by decide +kernel
theorem dX1_passNight_5 : decode cX1_passNight 5 = .ok (.aload_n 1, 1) := by decide +kernel
theorem dX1_passNight_6 : decode cX1_passNight 6 = .ok (.aload_n 2, 1) := by decide +kernel
theorem dX1_passNight_7 : decode cX1_passNight 7 = .ok (.getfield 35, 3) := by decide +kernel
theorem dX1_passNight_10 : decode cX1_passNight 10 = .ok (.invokevirtual 40, 3) := by decide +kernel
theorem dX1_passNight_13 : decode cX1_passNight 13 = .ok (.lload_n 3, 1) := by decide +kernel
theorem dX1_passNight_14 : decode cX1_passNight 14 = .ok (.lor, 1) := by decide +kernel
theorem dX1_passNight_15 : decode cX1_passNight 15 = .ok (.aload_n 1, 1) := by decide +kernel
theorem dX1_passNight_16 : decode cX1_passNight 16 = .ok (.getfield 46, 3) := by decide +kernel
theorem dX1_passNight_19 : decode cX1_passNight 19 = .ok (.aload_n 2, 1) := by decide +kernel
theorem dX1_passNight_20 : decode cX1_passNight 20 = .ok (.getfield 49, 3) := by decide +kernel
theorem dX1_passNight_23 : decode cX1_passNight 23 = .ok (.invokevirtual 52, 3) := by decide +kernel
theorem dX1_passNight_26 : decode cX1_passNight 26 = .ok (.aload_n 0, 1) := by decide +kernel
theorem dX1_passNight_27 : decode cX1_passNight 27 = .ok (.dup, 1) := by decide +kernel
theorem dX1_passNight_28 : decode cX1_passNight 28 = .ok (.getfield 31, 3) := by decide +kernel
theorem dX1_passNight_31 : decode cX1_passNight 31 = .ok (.aload_n 0, 1) := by decide +kernel
theorem dX1_passNight_32 : decode cX1_passNight 32 = .ok (.getfield 20, 3) := by decide +kernel
theorem dX1_passNight_35 : decode cX1_passNight 35 = .ok (.getfield 56, 3) := by decide +kernel
theorem dX1_passNight_38 : decode cX1_passNight 38 = .ok (.lor, 1) := by decide +kernel
theorem dX1_passNight_39 : decode cX1_passNight 39 = .ok (.putfield 31, 3) := by decide +kernel
theorem dX1_passNight_42 : decode cX1_passNight 42 = .ok (.aload_n 0, 1) := by decide +kernel
theorem dX1_passNight_43 : decode cX1_passNight 43 = .ok (.iconst 0, 1) := by decide +kernel
theorem dX1_passNight_44 : decode cX1_passNight 44 = .ok (.putfield 57, 3) := by decide +kernel
theorem dX1_passNight_47 : decode cX1_passNight 47 = .ok (.iconst 0, 1) := by decide +kernel
theorem dX1_passNight_48 : decode cX1_passNight 48 = .ok (.istore 5, 2) := by decide +kernel
theorem dX1_passNight_50 : decode cX1_passNight 50 = .ok (.iload 5, 2) := by decide +kernel
theorem dX1_passNight_52 : decode cX1_passNight 52 = .ok (.aload_n 1, 1) := by decide +kernel
theorem dX1_passNight_53 : decode cX1_passNight 53 = .ok (.getfield 60, 3) := by decide +kernel
theorem dX1_passNight_56 : decode cX1_passNight 56 = .ok (.if_icmp .ge 61, 3) := by decide +kernel
theorem dX1_passNight_59 : decode cX1_passNight 59 = .ok (.aload_n 0, 1) := by decide +kernel
theorem dX1_passNight_60 : decode cX1_passNight 60 = .ok (.getfield 20, 3) := by decide +kernel
theorem dX1_passNight_63 : decode cX1_passNight 63 = .ok (.aload_n 2, 1) := by decide +kernel
theorem dX1_passNight_64 : decode cX1_passNight 64 = .ok (.iload 5, 2) := by decide +kernel
theorem dX1_passNight_66 : decode cX1_passNight 66 = .ok (.invokevirtual 63, 3) := by decide +kernel
theorem dX1_passNight_69 : decode cX1_passNight 69 = .ok (.istore 6, 2) := by decide +kernel
theorem dX1_passNight_71 : decode cX1_passNight 71 = .ok (.aload_n 2, 1) := by decide +kernel
theorem dX1_passNight_72 : decode cX1_passNight 72 = .ok (.getfield 67, 3) := by decide +kernel
theorem dX1_passNight_75 : decode cX1_passNight 75 = .ok (.iload 5, 2) := by decide +kernel
theorem dX1_passNight_77 : decode cX1_passNight 77 = .ok (.iaload, 1) := by decide +kernel
theorem dX1_passNight_78 : decode cX1_passNight 78 = .ok (.ifCond .le 17, 3) := by decide +kernel
theorem dX1_passNight_81 : decode cX1_passNight 81 = .ok (.aload_n 2, 1) := by decide +kernel
theorem dX1_passNight_82 : decode cX1_passNight 82 = .ok (.getfield 67, 3) := by decide +kernel
theorem dX1_passNight_85 : decode cX1_passNight 85 = .ok (.iload 5, 2) := by decide +kernel
theorem dX1_passNight_87 : decode cX1_passNight 87 = .ok (.dup2, 1) := by decide +kernel
theorem dX1_passNight_88 : decode cX1_passNight 88 = .ok (.iaload, 1) := by decide +kernel
theorem dX1_passNight_89 : decode cX1_passNight 89 = .ok (.iconst 1, 1) := by decide +kernel
theorem dX1_passNight_90 : decode cX1_passNight 90 = .ok (.isub, 1) := by decide +kernel
theorem dX1_passNight_91 : decode cX1_passNight 91 = .ok (.iastore, 1) := by decide +kernel
theorem dX1_passNight_92 : decode cX1_passNight 92 = .ok (.goto 19, 3) := by decide +kernel
theorem dX1_passNight_95 : decode cX1_passNight 95 = .ok (.iload 6, 2) := by decide +kernel
theorem dX1_passNight_97 : decode cX1_passNight 97 = .ok (.iconst (-1), 1) := by decide +kernel
theorem dX1_passNight_98 : decode cX1_passNight 98 = .ok (.if_icmp .eq 13, 3) := by decide +kernel
theorem dX1_passNight_101 : decode cX1_passNight 101 = .ok (.aload_n 0, 1) := by decide +kernel
theorem dX1_passNight_102 : decode cX1_passNight 102 = .ok (.aload_n 1, 1) := by decide +kernel
theorem dX1_passNight_103 : decode cX1_passNight 103 = .ok (.aload_n 2, 1) := by decide +kernel
theorem dX1_passNight_104 : decode cX1_passNight 104 = .ok (.iload 5, 2) := by decide +kernel
theorem dX1_passNight_106 : decode cX1_passNight 106 = .ok (.iload 6, 2) := by decide +kernel
theorem dX1_passNight_108 : decode cX1_passNight 108 = .ok (.invokevirtual 71, 3) := by decide +kernel
theorem dX1_passNight_111 : decode cX1_passNight 111 = .ok (.iinc 5 1, 3) := by decide +kernel
theorem dX1_passNight_114 : decode cX1_passNight 114 = .ok (.goto (-64), 3) := by decide +kernel
theorem dX1_passNight_117 : decode cX1_passNight 117 = .ok (.aload_n 2, 1) := by decide +kernel
theorem dX1_passNight_118 : decode cX1_passNight 118 = .ok (.dup, 1) := by decide +kernel
theorem dX1_passNight_119 : decode cX1_passNight 119 = .ok (.getfield 49, 3) := by decide +kernel
theorem dX1_passNight_122 : decode cX1_passNight 122 = .ok (.iconst 1, 1) := by decide +kernel
theorem dX1_passNight_123 : decode cX1_passNight 123 = .ok (.iadd, 1) := by decide +kernel
theorem dX1_passNight_124 : decode cX1_passNight 124 = .ok (.putfield 49, 3) := by decide +kernel
theorem dX1_passNight_127 : decode cX1_passNight 127 = .ok (.return_, 1) := by decide +kernel
theorem dX1_passStorm_0 : decode cX1_passStorm 0 = .ok (.iconst 0, 1) := by decide +kernel
theorem dX1_passStorm_1 : decode cX1_passStorm 1 = .ok (.istore_n 2, 1) := by decide +kernel
theorem dX1_passStorm_2 : decode cX1_passStorm 2 = .ok (.iload_n 2, 1) := by decide +kernel
theorem dX1_passStorm_3 : decode cX1_passStorm 3 = .ok (.bipush 6, 2) := by decide +kernel
theorem dX1_passStorm_5 : decode cX1_passStorm 5 = .ok (.if_icmp .ge 27, 3) := by decide +kernel
theorem dX1_passStorm_8 : decode cX1_passStorm 8 = .ok (.aload_n 1, 1) := by decide +kernel
theorem dX1_passStorm_9 : decode cX1_passStorm 9 = .ok (.getfield 67, 3) := by decide +kernel
theorem dX1_passStorm_12 : decode cX1_passStorm 12 = .ok (.iload_n 2, 1) := by decide +kernel
theorem dX1_passStorm_13 : decode cX1_passStorm 13 = .ok (.iconst 0, 1) := by decide +kernel
theorem dX1_passStorm_14 : decode cX1_passStorm 14 = .ok (.aload_n 1, 1) := by decide +kernel
theorem dX1_passStorm_15 : decode cX1_passStorm 15 = .ok (.getfield 67, 3) := by decide +kernel
theorem dX1_passStorm_18 : decode cX1_passStorm 18 = .ok (.iload_n 2, 1) := by decide +kernel
theorem dX1_passStorm_19 : decode cX1_passStorm 19 = .ok (.iaload, 1) := by decide +kernel
theorem dX1_passStorm_20 : decode cX1_passStorm 20 = .ok (.iconst 1, 1) := by decide +kernel
theorem dX1_passStorm_21 : decode cX1_passStorm 21 = .ok (.isub, 1) := by decide +kernel
theorem dX1_passStorm_22 : decode cX1_passStorm 22 = .ok (.invokestatic 75, 3) := by decide +kernel
theorem dX1_passStorm_25 : decode cX1_passStorm 25 = .ok (.iastore, 1) := by decide +kernel
theorem dX1_passStorm_26 : decode cX1_passStorm 26 = .ok (.iinc 2 1, 3) := by decide +kernel
theorem dX1_passStorm_29 : decode cX1_passStorm 29 = .ok (.goto (-27), 3) := by decide +kernel
theorem dX1_passStorm_32 : decode cX1_passStorm 32 = .ok (.aload_n 1, 1) := by decide +kernel
theorem dX1_passStorm_33 : decode cX1_passStorm 33 = .ok (.dup, 1) := by decide +kernel
theorem dX1_passStorm_34 : decode cX1_passStorm 34 = .ok (.getfield 49, 3) := by decide +kernel
theorem dX1_passStorm_37 : decode cX1_passStorm 37 = .ok (.iconst 1, 1) := by decide +kernel
theorem dX1_passStorm_38 : decode cX1_passStorm 38 = .ok (.iadd, 1) := by decide +kernel
theorem dX1_passStorm_39 : decode cX1_passStorm 39 = .ok (.putfield 49, 3) := by decide +kernel
theorem dX1_passStorm_42 : decode cX1_passStorm 42 = .ok (.return_, 1) := by decide +kernel
theorem dX1_meet_0 : decode cX1_meet 0 = .ok (.aload_n 0, 1) := by decide +kernel
theorem dX1_meet_1 : decode cX1_meet 1 = .ok (.getfield 9, 3) := by decide +kernel
theorem dX1_meet_4 : decode cX1_meet 4 = .ok (.bipush 17, 2) := by decide +kernel
theorem dX1_meet_6 : decode cX1_meet 6 = .ok (.iload 4, 2) := by decide +kernel
theorem dX1_meet_8 : decode cX1_meet 8 = .ok (.invokevirtual 81, 3) := by decide +kernel
theorem dX1_meet_11 : decode cX1_meet 11 = .ok (.aload_n 0, 1) := by decide +kernel
theorem dX1_meet_12 : decode cX1_meet 12 = .ok (.getfield 9, 3) := by decide +kernel
theorem dX1_meet_15 : decode cX1_meet 15 = .ok (.bipush 18, 2) := by decide +kernel
theorem dX1_meet_17 : decode cX1_meet 17 = .ok (.aload_n 2, 1) := by decide +kernel
theorem dX1_meet_18 : decode cX1_meet 18 = .ok (.getfield 49, 3) := by decide +kernel
theorem dX1_meet_21 : decode cX1_meet 21 = .ok (.invokevirtual 81, 3) := by decide +kernel
theorem dX1_meet_24 : decode cX1_meet 24 = .ok (.aload_n 0, 1) := by decide +kernel
theorem dX1_meet_25 : decode cX1_meet 25 = .ok (.getfield 9, 3) := by decide +kernel
theorem dX1_meet_28 : decode cX1_meet 28 = .ok (.bipush 21, 2) := by decide +kernel
theorem dX1_meet_30 : decode cX1_meet 30 = .ok (.aload_n 2, 1) := by decide +kernel
theorem dX1_meet_31 : decode cX1_meet 31 = .ok (.getfield 87, 3) := by decide +kernel
theorem dX1_meet_34 : decode cX1_meet 34 = .ok (.iload_n 3, 1) := by decide +kernel
theorem dX1_meet_35 : decode cX1_meet 35 = .ok (.iaload, 1) := by decide +kernel
theorem dX1_meet_36 : decode cX1_meet 36 = .ok (.invokevirtual 81, 3) := by decide +kernel
theorem dX1_meet_39 : decode cX1_meet 39 = .ok (.aload_n 0, 1) := by decide +kernel
theorem dX1_meet_40 : decode cX1_meet 40 = .ok (.getfield 9, 3) := by decide +kernel
theorem dX1_meet_43 : decode cX1_meet 43 = .ok (.bipush 22, 2) := by decide +kernel
theorem dX1_meet_45 : decode cX1_meet 45 = .ok (.aload_n 2, 1) := by decide +kernel
theorem dX1_meet_46 : decode cX1_meet 46 = .ok (.getfield 90, 3) := by decide +kernel
theorem dX1_meet_49 : decode cX1_meet 49 = .ok (.iload_n 3, 1) := by decide +kernel
theorem dX1_meet_50 : decode cX1_meet 50 = .ok (.iaload, 1) := by decide +kernel
theorem dX1_meet_51 : decode cX1_meet 51 = .ok (.invokevirtual 81, 3) := by decide +kernel
theorem dX1_meet_54 : decode cX1_meet 54 = .ok (.aload_n 0, 1) := by decide +kernel
theorem dX1_meet_55 : decode cX1_meet 55 = .ok (.getfield 9, 3) := by decide +kernel
theorem dX1_meet_58 : decode cX1_meet 58 = .ok (.bipush 23, 2) := by decide +kernel
theorem dX1_meet_60 : decode cX1_meet 60 = .ok (.aload_n 2, 1) := by decide +kernel
theorem dX1_meet_61 : decode cX1_meet 61 = .ok (.getfield 93, 3) := by decide +kernel
theorem dX1_meet_64 : decode cX1_meet 64 = .ok (.iload_n 3, 1) := by decide +kernel
theorem dX1_meet_65 : decode cX1_meet 65 = .ok (.iaload, 1) := by decide +kernel
theorem dX1_meet_66 : decode cX1_meet 66 = .ok (.invokevirtual 81, 3) := by decide +kernel
theorem dX1_meet_69 : decode cX1_meet 69 = .ok (.aload_n 0, 1) := by decide +kernel
theorem dX1_meet_70 : decode cX1_meet 70 = .ok (.getfield 9, 3) := by decide +kernel
theorem dX1_meet_73 : decode cX1_meet 73 = .ok (.aload_n 1, 1) := by decide +kernel
theorem dX1_meet_74 : decode cX1_meet 74 = .ok (.getfield 96, 3) := by decide +kernel
theorem dX1_meet_77 : decode cX1_meet 77 = .ok (.invokevirtual 100, 3) := by decide +kernel
theorem dX1_meet_80 : decode cX1_meet 80 = .ok (.istore 5, 2) := by decide +kernel
theorem dX1_meet_82 : decode cX1_meet 82 = .ok (.aload_n 2, 1) := by decide +kernel
theorem dX1_meet_83 : decode cX1_meet 83 = .ok (.getfield 87, 3) := by decide +kernel
theorem dX1_meet_86 : decode cX1_meet 86 = .ok (.iload_n 3, 1) := by decide +kernel
theorem dX1_meet_87 : decode cX1_meet 87 = .ok (.iaload, 1) := by decide +kernel
theorem dX1_meet_88 : decode cX1_meet 88 = .ok (.iconst 1, 1) := by decide +kernel
theorem dX1_meet_89 : decode cX1_meet 89 = .ok (.if_icmp .eq 18, 3) := by decide +kernel
theorem dX1_meet_92 : decode cX1_meet 92 = .ok (.aload_n 0, 1) := by decide +kernel
theorem dX1_meet_93 : decode cX1_meet 93 = .ok (.getfield 9, 3) := by decide +kernel
theorem dX1_meet_96 : decode cX1_meet 96 = .ok (.aload_n 1, 1) := by decide +kernel
theorem dX1_meet_97 : decode cX1_meet 97 = .ok (.getfield 104, 3) := by decide +kernel
theorem dX1_meet_100 : decode cX1_meet 100 = .ok (.invokevirtual 100, 3) := by decide +kernel
theorem dX1_meet_103 : decode cX1_meet 103 = .ok (.iconst 1, 1) := by decide +kernel
theorem dX1_meet_104 : decode cX1_meet 104 = .ok (.if_icmp .ne 7, 3) := by decide +kernel
theorem dX1_meet_107 : decode cX1_meet 107 = .ok (.iconst 1, 1) := by decide +kernel
theorem dX1_meet_108 : decode cX1_meet 108 = .ok (.goto 4, 3) := by decide +kernel
theorem dX1_meet_111 : decode cX1_meet 111 = .ok (.iconst 0, 1) := by decide +kernel
theorem dX1_meet_112 : decode cX1_meet 112 = .ok (.istore 6, 2) := by decide +kernel
theorem dX1_meet_114 : decode cX1_meet 114 = .ok (.aload_n 2, 1) := by decide +kernel
theorem dX1_meet_115 : decode cX1_meet 115 = .ok (.getfield 93, 3) := by decide +kernel
theorem dX1_meet_118 : decode cX1_meet 118 = .ok (.iload_n 3, 1) := by decide +kernel
theorem dX1_meet_119 : decode cX1_meet 119 = .ok (.iconst 0, 1) := by decide +kernel
theorem dX1_meet_120 : decode cX1_meet 120 = .ok (.sipush 9999, 3) := by decide +kernel
theorem dX1_meet_123 : decode cX1_meet 123 = .ok (.aload_n 2, 1) := by decide +kernel
theorem dX1_meet_124 : decode cX1_meet 124 = .ok (.getfield 93, 3) := by decide +kernel
theorem dX1_meet_127 : decode cX1_meet 127 = .ok (.iload_n 3, 1) := by decide +kernel
theorem dX1_meet_128 : decode cX1_meet 128 = .ok (.iaload, 1) := by decide +kernel
theorem dX1_meet_129 : decode cX1_meet 129 = .ok (.iload 5, 2) := by decide +kernel
theorem dX1_meet_131 : decode cX1_meet 131 = .ok (.iadd, 1) := by decide +kernel
theorem dX1_meet_132 : decode cX1_meet 132 = .ok (.invokestatic 107, 3) := by decide +kernel
theorem dX1_meet_135 : decode cX1_meet 135 = .ok (.invokestatic 75, 3) := by decide +kernel
theorem dX1_meet_138 : decode cX1_meet 138 = .ok (.iastore, 1) := by decide +kernel
theorem dX1_meet_139 : decode cX1_meet 139 = .ok (.aload_n 2, 1) := by decide +kernel
theorem dX1_meet_140 : decode cX1_meet 140 = .ok (.getfield 90, 3) := by decide +kernel
theorem dX1_meet_143 : decode cX1_meet 143 = .ok (.iload_n 3, 1) := by decide +kernel
theorem dX1_meet_144 : decode cX1_meet 144 = .ok (.sipush 9999, 3) := by decide +kernel
theorem dX1_meet_147 : decode cX1_meet 147 = .ok (.aload_n 2, 1) := by decide +kernel
theorem dX1_meet_148 : decode cX1_meet 148 = .ok (.getfield 90, 3) := by decide +kernel
theorem dX1_meet_151 : decode cX1_meet 151 = .ok (.iload_n 3, 1) := by decide +kernel
theorem dX1_meet_152 : decode cX1_meet 152 = .ok (.iaload, 1) := by decide +kernel
theorem dX1_meet_153 : decode cX1_meet 153 = .ok (.iconst 1, 1) := by decide +kernel
theorem dX1_meet_154 : decode cX1_meet 154 = .ok (.iadd, 1) := by decide +kernel
theorem dX1_meet_155 : decode cX1_meet 155 = .ok (.invokestatic 107, 3) := by decide +kernel
theorem dX1_meet_158 : decode cX1_meet 158 = .ok (.iastore, 1) := by decide +kernel
theorem dX1_meet_159 : decode cX1_meet 159 = .ok (.iload 6, 2) := by decide +kernel
theorem dX1_meet_161 : decode cX1_meet 161 = .ok (.ifCond .eq 23, 3) := by decide +kernel
theorem dX1_meet_164 : decode cX1_meet 164 = .ok (.aload_n 2, 1) := by decide +kernel
theorem dX1_meet_165 : decode cX1_meet 165 = .ok (.getfield 67, 3) := by decide +kernel
theorem dX1_meet_168 : decode cX1_meet 168 = .ok (.iload_n 3, 1) := by decide +kernel
theorem dX1_meet_169 : decode cX1_meet 169 = .ok (.aload_n 1, 1) := by decide +kernel
theorem dX1_meet_170 : decode cX1_meet 170 = .ok (.getfield 110, 3) := by decide +kernel
theorem dX1_meet_173 : decode cX1_meet 173 = .ok (.iastore, 1) := by decide +kernel
theorem dX1_meet_174 : decode cX1_meet 174 = .ok (.aload_n 0, 1) := by decide +kernel
theorem dX1_meet_175 : decode cX1_meet 175 = .ok (.dup, 1) := by decide +kernel
theorem dX1_meet_176 : decode cX1_meet 176 = .ok (.getfield 28, 3) := by decide +kernel
theorem dX1_meet_179 : decode cX1_meet 179 = .ok (.iconst 1, 1) := by decide +kernel
theorem dX1_meet_180 : decode cX1_meet 180 = .ok (.iadd, 1) := by decide +kernel
theorem dX1_meet_181 : decode cX1_meet 181 = .ok (.putfield 28, 3) := by decide +kernel
theorem dX1_meet_184 : decode cX1_meet 184 = .ok (.aload_n 2, 1) := by decide +kernel
theorem dX1_meet_185 : decode cX1_meet 185 = .ok (.iload 4, 2) := by decide +kernel
theorem dX1_meet_187 : decode cX1_meet 187 = .ok (.iload_n 3, 1) := by decide +kernel
theorem dX1_meet_188 : decode cX1_meet 188 = .ok (.iload 6, 2) := by decide +kernel
theorem dX1_meet_190 : decode cX1_meet 190 = .ok (.ifCond .eq 7, 3) := by decide +kernel
theorem dX1_meet_193 : decode cX1_meet 193 = .ok (.iconst 1, 1) := by decide +kernel
theorem dX1_meet_194 : decode cX1_meet 194 = .ok (.goto 4, 3) := by decide +kernel
theorem dX1_meet_197 : decode cX1_meet 197 = .ok (.iconst 0, 1) := by decide +kernel
theorem dX1_meet_198 : decode cX1_meet 198 = .ok (.invokevirtual 113, 3) := by decide +kernel
theorem dX1_meet_201 : decode cX1_meet 201 = .ok (.aload_n 0, 1) := by decide +kernel
theorem dX1_meet_202 : decode cX1_meet 202 = .ok (.dup, 1) := by decide +kernel
theorem dX1_meet_203 : decode cX1_meet 203 = .ok (.getfield 24, 3) := by decide +kernel
theorem dX1_meet_206 : decode cX1_meet 206 = .ok (.iconst 1, 1) := by decide +kernel
theorem dX1_meet_207 : decode cX1_meet 207 = .ok (.iadd, 1) := by decide +kernel
theorem dX1_meet_208 : decode cX1_meet 208 = .ok (.putfield 24, 3) := by decide +kernel
theorem dX1_meet_211 : decode cX1_meet 211 = .ok (.aload_n 0, 1) := by decide +kernel
theorem dX1_meet_212 : decode cX1_meet 212 = .ok (.dup, 1) := by decide +kernel
theorem dX1_meet_213 : decode cX1_meet 213 = .ok (.getfield 57, 3) := by decide +kernel
theorem dX1_meet_216 : decode cX1_meet 216 = .ok (.iconst 1, 1) := by decide +kernel
theorem dX1_meet_217 : decode cX1_meet 217 = .ok (.iload_n 3, 1) := by decide +kernel
theorem dX1_meet_218 : decode cX1_meet 218 = .ok (.ishl, 1) := by decide +kernel
theorem dX1_meet_219 : decode cX1_meet 219 = .ok (.ior, 1) := by decide +kernel
theorem dX1_meet_220 : decode cX1_meet 220 = .ok (.putfield 57, 3) := by decide +kernel
theorem dX1_meet_223 : decode cX1_meet 223 = .ok (.return_, 1) := by decide +kernel
theorem dX2_init_0 : decode cX2_init 0 = .ok (.aload_n 0, 1) := by decide +kernel
theorem dX2_init_1 : decode cX2_init 1 = .ok (.invokespecial 3, 3) := by decide +kernel
theorem dX2_init_4 : decode cX2_init 4 = .ok (.aload_n 0, 1) := by decide +kernel
theorem dX2_init_5 : decode cX2_init 5 = .ok (.iconst 5, 1) := by decide +kernel
theorem dX2_init_6 : decode cX2_init 6 = .ok (.newarray .int, 2) := by decide +kernel
theorem dX2_init_8 : decode cX2_init 8 = .ok (.putfield 9, 3) := by decide +kernel
theorem dX2_init_11 : decode cX2_init 11 = .ok (.aload_n 0, 1) := by decide +kernel
theorem dX2_init_12 : decode cX2_init 12 = .ok (.iconst 5, 1) := by decide +kernel
theorem dX2_init_13 : decode cX2_init 13 = .ok (.newarray .int, 2) := by decide +kernel
theorem dX2_init_15 : decode cX2_init 15 = .ok (.putfield 15, 3) := by decide +kernel
theorem dX2_init_18 : decode cX2_init 18 = .ok (.aload_n 0, 1) := by decide +kernel
theorem dX2_init_19 : decode cX2_init 19 = .ok (.bipush 6, 2) := by decide +kernel
theorem dX2_init_21 : decode cX2_init 21 = .ok (.newarray .int, 2) := by decide +kernel
theorem dX2_init_23 : decode cX2_init 23 = .ok (.putfield 18, 3) := by decide +kernel
theorem dX2_init_26 : decode cX2_init 26 = .ok (.aload_n 0, 1) := by decide +kernel
theorem dX2_init_27 : decode cX2_init 27 = .ok (.bipush 6, 2) := by decide +kernel
theorem dX2_init_29 : decode cX2_init 29 = .ok (.newarray .int, 2) := by decide +kernel
theorem dX2_init_31 : decode cX2_init 31 = .ok (.putfield 21, 3) := by decide +kernel
theorem dX2_init_34 : decode cX2_init 34 = .ok (.aload_n 0, 1) := by decide +kernel
theorem dX2_init_35 : decode cX2_init 35 = .ok (.bipush 6, 2) := by decide +kernel
theorem dX2_init_37 : decode cX2_init 37 = .ok (.bipush 12, 2) := by decide +kernel
theorem dX2_init_39 : decode cX2_init 39 = .ok (.multianewarray 24 2, 4) := by decide +kernel
theorem dX2_init_43 : decode cX2_init 43 = .ok (.putfield 26, 3) := by decide +kernel
theorem dX2_init_46 : decode cX2_init 46 = .ok (.aload_n 0, 1) := by decide +kernel
theorem dX2_init_47 : decode cX2_init 47 = .ok (.iconst 2, 1) := by decide +kernel
theorem dX2_init_48 : decode cX2_init 48 = .ok (.bipush 6, 2) := by decide +kernel
theorem dX2_init_50 : decode cX2_init 50 = .ok (.multianewarray 24 2, 4) := by decide +kernel
theorem dX2_init_54 : decode cX2_init 54 = .ok (.putfield 29, 3) := by decide +kernel
theorem dX2_init_57 : decode cX2_init 57 = .ok (.aload_n 0, 1) := by decide +kernel
theorem dX2_init_58 : decode cX2_init 58 = .ok (.bipush 12, 2) := by decide +kernel
theorem dX2_init_60 : decode cX2_init 60 = .ok (.putfield 32, 3) := by decide +kernel
theorem dX2_init_63 : decode cX2_init 63 = .ok (.aload_n 0, 1) := by decide +kernel
theorem dX2_init_64 : decode cX2_init 64 = .ok (.bipush 20, 2) := by decide +kernel
theorem dX2_init_66 : decode cX2_init 66 = .ok (.putfield 36, 3) := by decide +kernel
theorem dX2_init_69 : decode cX2_init 69 = .ok (.aload_n 0, 1) := by decide +kernel
theorem dX2_init_70 : decode cX2_init 70 = .ok (.iconst 1, 1) := by decide +kernel
theorem dX2_init_71 : decode cX2_init 71 = .ok (.putfield 39, 3) := by decide +kernel
theorem dX2_init_74 : decode cX2_init 74 = .ok (.aload_n 0, 1) := by decide +kernel
theorem dX2_init_75 : decode cX2_init 75 = .ok (.iload_n 1, 1) := by decide +kernel
theorem dX2_init_76 : decode cX2_init 76 = .ok (.putfield 42, 3) := by decide +kernel
theorem dX2_init_79 : decode cX2_init 79 = .ok (.aload_n 0, 1) := by decide +kernel
theorem dX2_init_80 : decode cX2_init 80 = .ok (.iload_n 2, 1) := by decide +kernel
theorem dX2_init_81 : decode cX2_init 81 = .ok (.putfield 45, 3) := by decide +kernel
theorem dX2_init_84 : decode cX2_init 84 = .ok (.aload_n 0, 1) := by decide +kernel
theorem dX2_init_85 : decode cX2_init 85 = .ok (.iload_n 3, 1) := by decide +kernel
theorem dX2_init_86 : decode cX2_init 86 = .ok (.putfield 48, 3) := by decide +kernel
theorem dX2_init_89 : decode cX2_init 89 = .ok (.aload_n 0, 1) := by decide +kernel
theorem dX2_init_90 : decode cX2_init 90 = .ok (.iload_n 1, 1) := by decide +kernel
theorem dX2_init_91 : decode cX2_init 91 = .ok (.iload_n 2, 1) := by decide +kernel
theorem dX2_init_92 : decode cX2_init 92 = .ok (.imul, 1) := by decide +kernel
theorem dX2_init_93 : decode cX2_init 93 = .ok (.newarray .long, 2) := by decide +kernel
theorem dX2_init_95 : decode cX2_init 95 = .ok (.putfield 51, 3) := by decide +kernel
theorem dX2_init_98 : decode cX2_init 98 = .ok (.iconst 0, 1) := by decide +kernel
theorem dX2_init_99 : decode cX2_init 99 = .ok (.istore 4, 2) := by decide +kernel
theorem dX2_init_101 : decode cX2_init 101 = .ok (.iload 4, 2) := by decide +kernel
theorem dX2_init_103 : decode cX2_init 103 = .ok (.aload_n 0, 1) := by decide +kernel
theorem dX2_init_104 : decode cX2_init 104 = .ok (.getfield 51, 3) := by decide +kernel
theorem dX2_init_107 : decode cX2_init 107 = .ok (.arraylength, 1) := by decide +kernel
theorem dX2_init_108 : decode cX2_init 108 = .ok (.if_icmp .ge 58, 3) := by decide +kernel
theorem dX2_init_111 : decode cX2_init 111 = .ok (.iconst 0, 1) := by decide +kernel
theorem dX2_init_112 : decode cX2_init 112 = .ok (.istore 5, 2) := by decide +kernel
theorem dX2_init_114 : decode cX2_init 114 = .ok (.iload 5, 2) := by decide +kernel
theorem dX2_init_116 : decode cX2_init 116 = .ok (.aload_n 0, 1) := by decide +kernel
theorem dX2_init_117 : decode cX2_init 117 = .ok (.getfield 51, 3) := by decide +kernel
theorem dX2_init_120 : decode cX2_init 120 = .ok (.arraylength, 1) := by decide +kernel
theorem dX2_init_121 : decode cX2_init 121 = .ok (.if_icmp .ge 39, 3) := by decide +kernel
theorem dX2_init_124 : decode cX2_init 124 = .ok (.aload_n 0, 1) := by decide +kernel
theorem dX2_init_125 : decode cX2_init 125 = .ok (.getfield 51, 3) := by decide +kernel
theorem dX2_init_128 : decode cX2_init 128 = .ok (.iload 4, 2) := by decide +kernel
theorem dX2_init_130 : decode cX2_init 130 = .ok (.dup2, 1) := by decide +kernel
theorem dX2_init_131 : decode cX2_init 131 = .ok (.laload, 1) := by decide +kernel
theorem dX2_init_132 : decode cX2_init 132 = .ok (.aload_n 0, 1) := by decide +kernel
theorem dX2_init_133 : decode cX2_init 133 = .ok (.iload 4, 2) := by decide +kernel
theorem dX2_init_135 : decode cX2_init 135 = .ok (.iload 5, 2) := by decide +kernel
theorem dX2_init_137 : decode cX2_init 137 = .ok (.invokevirtual 55, 3) := by decide +kernel
theorem dX2_init_140 : decode cX2_init 140 = .ok (.iconst 1, 1) := by decide +kernel
theorem dX2_init_141 : decode cX2_init 141 = .ok (.if_icmp .gt 10, 3) := by decide +kernel
theorem dX2_init_144 : decode cX2_init 144 = .ok (.lconst 1, 1) := by decide +kernel
theorem dX2_init_145 : decode cX2_init 145 = .ok (.iload 5, 2) := by decide +kernel
theorem dX2_init_147 : decode cX2_init 147 = .ok (.lshl, 1) := by decide +kernel
theorem dX2_init_148 : decode cX2_init 148 = .ok (.goto 4, 3) := by decide +kernel
theorem dX2_init_151 : decode cX2_init 151 = .ok (.lconst 0, 1) := by decide +kernel
theorem dX2_init_152 : decode cX2_init 152 = .ok (.lor, 1) := by decide +kernel
theorem dX2_init_153 : decode cX2_init 153 = .ok (.lastore, 1) := by decide +kernel
theorem dX2_init_154 : decode cX2_init 154 = .ok (.iinc 5 1, 3) := by decide +kernel
theorem dX2_init_157 : decode cX2_init 157 = .ok (.goto (-43), 3) := by decide +kernel
theorem dX2_init_160 : decode cX2_init 160 = .ok (.iinc 4 1, 3) := by decide +kernel
theorem dX2_init_163 : decode cX2_init 163 = .ok (.goto (-62), 3) := by decide +kernel
theorem dX2_init_166 : decode cX2_init 166 = .ok (.new 59, 3) := by decide +kernel
theorem dX2_init_169 : decode cX2_init 169 = .ok (.dup, 1) := by decide +kernel
theorem dX2_init_170 : decode cX2_init 170 = .ok (.iconst 0, 1) := by decide +kernel
theorem dX2_init_171 : decode cX2_init 171 = .ok (.newarray .int, 2) := by decide +kernel
theorem dX2_init_173 : decode cX2_init 173 = .ok (.iconst 0, 1) := by decide +kernel
theorem dX2_init_174 : decode cX2_init 174 = .ok (.invokespecial 61, 3) := by decide +kernel
theorem dX2_init_177 : decode cX2_init 177 = .ok (.astore 4, 2) := by decide +kernel
theorem dX2_init_179 : decode cX2_init 179 = .ok (.aload_n 0, 1) := by decide +kernel
theorem dX2_init_180 : decode cX2_init 180 = .ok (.aload 4, 2) := by decide +kernel
theorem dX2_init_182 : decode cX2_init 182 = .ok (.putfield 64, 3) := by decide +kernel
theorem dX2_init_185 : decode cX2_init 185 = .ok (.aload_n 0, 1) := by decide +kernel
theorem dX2_init_186 : decode cX2_init 186 = .ok (.aload 4, 2) := by decide +kernel
theorem dX2_init_188 : decode cX2_init 188 = .ok (.putfield 68, 3) := by decide +kernel
theorem dX2_init_191 : decode cX2_init 191 = .ok (.aload_n 0, 1) := by decide +kernel
theorem dX2_init_192 : decode cX2_init 192 = .ok (.aload 4, 2) := by decide +kernel
theorem dX2_init_194 : decode cX2_init 194 = .ok (.putfield 71, 3) := by decide +kernel
theorem dX2_init_197 : decode cX2_init 197 = .ok (.return_, 1) := by decide +kernel
theorem dX2_stands_0 : decode cX2_stands 0 = .ok (.aload_n 0, 1) := by decide +kernel
theorem dX2_stands_1 : decode cX2_stands 1 = .ok (.getfield 42, 3) := by decide +kernel
theorem dX2_stands_4 : decode cX2_stands 4 = .ok (.ifCond .le 7, 3) := by decide +kernel
theorem dX2_stands_7 : decode cX2_stands 7 = .ok (.iconst 1, 1) := by decide +kernel
theorem dX2_stands_8 : decode cX2_stands 8 = .ok (.goto 4, 3) := by decide +kernel
theorem dX2_stands_11 : decode cX2_stands 11 = .ok (.iconst 0, 1) := by decide +kernel
theorem dX2_stands_12 : decode cX2_stands 12 = .ok (.ireturn, 1) := by decide +kernel
theorem dX2_cellCount_0 : decode cX2_cellCount 0 = .ok (.aload_n 0, 1) := by decide +kernel
theorem dX2_cellCount_1 : decode cX2_cellCount 1 = .ok (.getfield 51, 3) := by decide +kernel
theorem dX2_cellCount_4 : decode cX2_cellCount 4 = .ok (.arraylength, 1) := by decide +kernel
theorem dX2_cellCount_5 : decode cX2_cellCount 5 = .ok (.ireturn, 1) := by decide +kernel
theorem dX2_holds_0 : decode cX2_holds 0 = .ok (.iload_n 1, 1) := by decide +kernel
theorem dX2_holds_1 : decode cX2_holds 1 = .ok (.ifCond .lt 27, 3) := by decide +kernel
theorem dX2_holds_4 : decode cX2_holds 4 = .ok (.iload_n 1, 1) := by decide +kernel
theorem dX2_holds_5 : decode cX2_holds 5 = .ok (.aload_n 0, 1) := by decide +kernel
theorem dX2_holds_6 : decode cX2_holds 6 = .ok (.getfield 42, 3) := by decide +kernel
theorem dX2_holds_9 : decode cX2_holds 9 = .ok (.if_icmp .ge 19, 3) := by decide +kernel
theorem dX2_holds_12 : decode cX2_holds 12 = .ok (.iload_n 2, 1) := by decide +kernel
theorem dX2_holds_13 : decode cX2_holds 13 = .ok (.ifCond .lt 15, 3) := by decide +kernel
theorem dX2_holds_16 : decode cX2_holds 16 = .ok (.iload_n 2, 1) := by decide +kernel
theorem dX2_holds_17 : decode cX2_holds 17 = .ok (.aload_n 0, 1) := by decide +kernel
theorem dX2_holds_18 : decode cX2_holds 18 = .ok (.getfield 45, 3) := by decide +kernel
theorem dX2_holds_21 : decode cX2_holds 21 = .ok (.if_icmp .ge 7, 3) := by decide +kernel
theorem dX2_holds_24 : decode cX2_holds 24 = .ok (.iconst 1, 1) := by decide +kernel
theorem dX2_holds_25 : decode cX2_holds 25 = .ok (.goto 4, 3) := by decide +kernel
theorem dX2_holds_28 : decode cX2_holds 28 = .ok (.iconst 0, 1) := by decide +kernel
theorem dX2_holds_29 : decode cX2_holds 29 = .ok (.ireturn, 1) := by decide +kernel
theorem dX2_cellAt_0 : decode cX2_cellAt 0 = .ok (.iload_n 2, 1) := by decide +kernel
theorem dX2_cellAt_1 : decode cX2_cellAt 1 = .ok (.aload_n 0, 1) := by decide +kernel
theorem dX2_cellAt_2 : decode cX2_cellAt 2 = .ok (.getfield 42, 3) := by decide +kernel
theorem dX2_cellAt_5 : decode cX2_cellAt 5 = .ok (.imul, 1) := by decide +kernel
theorem dX2_cellAt_6 : decode cX2_cellAt 6 = .ok (.iload_n 1, 1) := by decide +kernel
theorem dX2_cellAt_7 : decode cX2_cellAt 7 = .ok (.iadd, 1) := by decide +kernel
theorem dX2_cellAt_8 : decode cX2_cellAt 8 = .ok (.ireturn, 1) := by decide +kernel
theorem dX2_columnOf_0 : decode cX2_columnOf 0 = .ok (.aload_n 0, 1) := by decide +kernel
theorem dX2_columnOf_1 : decode cX2_columnOf 1 = .ok (.getfield 42, 3) := by decide +kernel
theorem dX2_columnOf_4 : decode cX2_columnOf 4 = .ok (.ifCond .le 12, 3) := by decide +kernel
theorem dX2_columnOf_7 : decode cX2_columnOf 7 = .ok (.iload_n 1, 1) := by decide +kernel
theorem dX2_columnOf_8 : decode cX2_columnOf 8 = .ok (.aload_n 0, 1) := by decide +kernel
theorem dX2_columnOf_9 : decode cX2_columnOf 9 = .ok (.getfield 42, 3) := by decide +kernel
theorem dX2_columnOf_12 : decode cX2_columnOf 12 = .ok (.irem, 1) := by decide +kernel
theorem dX2_columnOf_13 : decode cX2_columnOf 13 = .ok (.goto 4, 3) := by decide +kernel
theorem dX2_columnOf_16 : decode cX2_columnOf 16 = .ok (.iconst 0, 1) := by decide +kernel
theorem dX2_columnOf_17 : decode cX2_columnOf 17 = .ok (.ireturn, 1) := by decide +kernel
theorem dX2_rowOf_0 : decode cX2_rowOf 0 = .ok (.aload_n 0, 1) := by decide +kernel
theorem dX2_rowOf_1 : decode cX2_rowOf 1 = .ok (.getfield 42, 3) := by decide +kernel
theorem dX2_rowOf_4 : decode cX2_rowOf 4 = .ok (.ifCond .le 12, 3) := by decide +kernel
theorem dX2_rowOf_7 : decode cX2_rowOf 7 = .ok (.iload_n 1, 1) := by decide +kernel
theorem dX2_rowOf_8 : decode cX2_rowOf 8 = .ok (.aload_n 0, 1) := by decide +kernel
theorem dX2_rowOf_9 : decode cX2_rowOf 9 = .ok (.getfield 42, 3) := by decide +kernel
theorem dX2_rowOf_12 : decode cX2_rowOf 12 = .ok (.idiv, 1) := by decide +kernel
theorem dX2_rowOf_13 : decode cX2_rowOf 13 = .ok (.goto 4, 3) := by decide +kernel
theorem dX2_rowOf_16 : decode cX2_rowOf 16 = .ok (.iconst 0, 1) := by decide +kernel
theorem dX2_rowOf_17 : decode cX2_rowOf 17 = .ok (.ireturn, 1) := by decide +kernel
theorem dX2_distance_0 : decode cX2_distance 0 = .ok (.aload_n 0, 1) := by decide +kernel
theorem dX2_distance_1 : decode cX2_distance 1 = .ok (.iload_n 1, 1) := by decide +kernel
theorem dX2_distance_2 : decode cX2_distance 2 = .ok (.invokevirtual 74, 3) := by decide +kernel
theorem dX2_distance_5 : decode cX2_distance 5 = .ok (.aload_n 0, 1) := by decide +kernel
theorem dX2_distance_6 : decode cX2_distance 6 = .ok (.iload_n 2, 1) := by decide +kernel
theorem dX2_distance_7 : decode cX2_distance 7 = .ok (.invokevirtual 74, 3) := by decide +kernel
theorem dX2_distance_10 : decode cX2_distance 10 = .ok (.isub, 1) := by decide +kernel
theorem dX2_distance_11 : decode cX2_distance 11 = .ok (.invokestatic 78, 3) := by decide +kernel
theorem dX2_distance_14 : decode cX2_distance 14 = .ok (.istore_n 3, 1) := by decide +kernel
theorem dX2_distance_15 : decode cX2_distance 15 = .ok (.iload_n 3, 1) := by decide +kernel
theorem dX2_distance_16 : decode cX2_distance 16 = .ok (.aload_n 0, 1) := by decide +kernel
theorem dX2_distance_17 : decode cX2_distance 17 = .ok (.iload_n 1, 1) := by decide +kernel
theorem dX2_distance_18 : decode cX2_distance 18 = .ok (.invokevirtual 83, 3) := by decide +kernel
theorem dX2_distance_21 : decode cX2_distance 21 = .ok (.aload_n 0, 1) := by decide +kernel
theorem dX2_distance_22 : decode cX2_distance 22 = .ok (.iload_n 2, 1) := by decide +kernel
theorem dX2_distance_23 : decode cX2_distance 23 = .ok (.invokevirtual 83, 3) := by decide +kernel
theorem dX2_distance_26 : decode cX2_distance 26 = .ok (.isub, 1) := by decide +kernel
theorem dX2_distance_27 : decode cX2_distance 27 = .ok (.invokestatic 78, 3) := by decide +kernel
theorem dX2_distance_30 : decode cX2_distance 30 = .ok (.invokestatic 86, 3) := by decide +kernel
theorem dX2_distance_33 : decode cX2_distance 33 = .ok (.ireturn, 1) := by decide +kernel
theorem dX2_isBell_0 : decode cX2_isBell 0 = .ok (.iload_n 1, 1) := by decide +kernel
theorem dX2_isBell_1 : decode cX2_isBell 1 = .ok (.ifCond .lt 15, 3) := by decide +kernel
theorem dX2_isBell_4 : decode cX2_isBell 4 = .ok (.iload_n 1, 1) := by decide +kernel
theorem dX2_isBell_5 : decode cX2_isBell 5 = .ok (.aload_n 0, 1) := by decide +kernel
theorem dX2_isBell_6 : decode cX2_isBell 6 = .ok (.getfield 89, 3) := by decide +kernel
theorem dX2_isBell_9 : decode cX2_isBell 9 = .ok (.if_icmp .ge 7, 3) := by decide +kernel
theorem dX2_isBell_12 : decode cX2_isBell 12 = .ok (.iconst 1, 1) := by decide +kernel
theorem dX2_isBell_13 : decode cX2_isBell 13 = .ok (.goto 4, 3) := by decide +kernel
theorem dX2_isBell_16 : decode cX2_isBell 16 = .ok (.iconst 0, 1) := by decide +kernel
theorem dX2_isBell_17 : decode cX2_isBell 17 = .ok (.ireturn, 1) := by decide +kernel
theorem dX2_isWalker_0 : decode cX2_isWalker 0 = .ok (.iload_n 1, 1) := by decide +kernel
theorem dX2_isWalker_1 : decode cX2_isWalker 1 = .ok (.ifCond .lt 15, 3) := by decide +kernel
theorem dX2_isWalker_4 : decode cX2_isWalker 4 = .ok (.iload_n 1, 1) := by decide +kernel
theorem dX2_isWalker_5 : decode cX2_isWalker 5 = .ok (.aload_n 0, 1) := by decide +kernel
theorem dX2_isWalker_6 : decode cX2_isWalker 6 = .ok (.getfield 92, 3) := by decide +kernel
theorem dX2_isWalker_9 : decode cX2_isWalker 9 = .ok (.if_icmp .ge 7, 3) := by decide +kernel
theorem dX2_isWalker_12 : decode cX2_isWalker 12 = .ok (.iconst 1, 1) := by decide +kernel
theorem dX2_isWalker_13 : decode cX2_isWalker 13 = .ok (.goto 4, 3) := by decide +kernel
theorem dX2_isWalker_16 : decode cX2_isWalker 16 = .ok (.iconst 0, 1) := by decide +kernel
theorem dX2_isWalker_17 : decode cX2_isWalker 17 = .ok (.ireturn, 1) := by decide +kernel
theorem dX2_hasName_0 : decode cX2_hasName 0 = .ok (.iconst 0, 1) := by decide +kernel
theorem dX2_hasName_1 : decode cX2_hasName 1 = .ok (.istore_n 2, 1) := by decide +kernel
theorem dX2_hasName_2 : decode cX2_hasName 2 = .ok (.iconst 0, 1) := by decide +kernel
theorem dX2_hasName_3 : decode cX2_hasName 3 = .ok (.istore_n 3, 1) := by decide +kernel
theorem dX2_hasName_4 : decode cX2_hasName 4 = .ok (.iload_n 3, 1) := by decide +kernel
theorem dX2_hasName_5 : decode cX2_hasName 5 = .ok (.aload_n 0, 1) := by decide +kernel
theorem dX2_hasName_6 : decode cX2_hasName 6 = .ok (.getfield 89, 3) := by decide +kernel
theorem dX2_hasName_9 : decode cX2_hasName 9 = .ok (.if_icmp .ge 31, 3) := by decide +kernel
theorem dX2_hasName_12 : decode cX2_hasName 12 = .ok (.iload_n 2, 1) := by decide +kernel
theorem dX2_hasName_13 : decode cX2_hasName 13 = .ok (.ifCond .ne 27, 3) := by decide +kernel
theorem dX2_hasName_16 : decode cX2_hasName 16 = .ok (.aload_n 0, 1) := by decide +kernel
theorem dX2_hasName_17 : decode cX2_hasName 17 = .ok (.getfield 29, 3) := by decide +kernel
theorem dX2_hasName_20 : decode cX2_hasName 20 = .ok (.iconst 0, 1) := by decide +kernel
theorem dX2_hasName_21 : decode cX2_hasName 21 = .ok (.aaload, 1) := by decide +kernel
theorem dX2_hasName_22 : decode cX2_hasName 22 = .ok (.iload_n 3, 1) := by decide +kernel
theorem dX2_hasName_23 : decode cX2_hasName 23 = .ok (.iaload, 1) := by decide +kernel
theorem dX2_hasName_24 : decode cX2_hasName 24 = .ok (.iload_n 1, 1) := by decide +kernel
theorem dX2_hasName_25 : decode cX2_hasName 25 = .ok (.if_icmp .ne 7, 3) := by decide +kernel
theorem dX2_hasName_28 : decode cX2_hasName 28 = .ok (.iconst 1, 1) := by decide +kernel
theorem dX2_hasName_29 : decode cX2_hasName 29 = .ok (.goto 4, 3) := by decide +kernel
theorem dX2_hasName_32 : decode cX2_hasName 32 = .ok (.iconst 0, 1) := by decide +kernel
theorem dX2_hasName_33 : decode cX2_hasName 33 = .ok (.istore_n 2, 1) := by decide +kernel
theorem dX2_hasName_34 : decode cX2_hasName 34 = .ok (.iinc 3 1, 3) := by decide +kernel
theorem dX2_hasName_37 : decode cX2_hasName 37 = .ok (.goto (-33), 3) := by decide +kernel
theorem dX2_hasName_40 : decode cX2_hasName 40 = .ok (.iconst 0, 1) := by decide +kernel
theorem dX2_hasName_41 : decode cX2_hasName 41 = .ok (.istore_n 3, 1) := by decide +kernel
theorem dX2_hasName_42 : decode cX2_hasName 42 = .ok (.iload_n 3, 1) := by decide +kernel
theorem dX2_hasName_43 : decode cX2_hasName 43 = .ok (.aload_n 0, 1) := by decide +kernel
theorem dX2_hasName_44 : decode cX2_hasName 44 = .ok (.getfield 92, 3) := by decide +kernel
theorem dX2_hasName_47 : decode cX2_hasName 47 = .ok (.if_icmp .ge 31, 3) := by decide +kernel
theorem dX2_hasName_50 : decode cX2_hasName 50 = .ok (.iload_n 2, 1) := by decide +kernel
theorem dX2_hasName_51 : decode cX2_hasName 51 = .ok (.ifCond .ne 27, 3) := by decide +kernel
theorem dX2_hasName_54 : decode cX2_hasName 54 = .ok (.aload_n 0, 1) := by decide +kernel
theorem dX2_hasName_55 : decode cX2_hasName 55 = .ok (.getfield 29, 3) := by decide +kernel
theorem dX2_hasName_58 : decode cX2_hasName 58 = .ok (.iconst 1, 1) := by decide +kernel
theorem dX2_hasName_59 : decode cX2_hasName 59 = .ok (.aaload, 1) := by decide +kernel
theorem dX2_hasName_60 : decode cX2_hasName 60 = .ok (.iload_n 3, 1) := by decide +kernel
theorem dX2_hasName_61 : decode cX2_hasName 61 = .ok (.iaload, 1) := by decide +kernel
theorem dX2_hasName_62 : decode cX2_hasName 62 = .ok (.iload_n 1, 1) := by decide +kernel
theorem dX2_hasName_63 : decode cX2_hasName 63 = .ok (.if_icmp .ne 7, 3) := by decide +kernel
theorem dX2_hasName_66 : decode cX2_hasName 66 = .ok (.iconst 1, 1) := by decide +kernel
theorem dX2_hasName_67 : decode cX2_hasName 67 = .ok (.goto 4, 3) := by decide +kernel
theorem dX2_hasName_70 : decode cX2_hasName 70 = .ok (.iconst 0, 1) := by decide +kernel
theorem dX2_hasName_71 : decode cX2_hasName 71 = .ok (.istore_n 2, 1) := by decide +kernel
theorem dX2_hasName_72 : decode cX2_hasName 72 = .ok (.iinc 3 1, 3) := by decide +kernel
theorem dX2_hasName_75 : decode cX2_hasName 75 = .ok (.goto (-33), 3) := by decide +kernel
theorem dX2_hasName_78 : decode cX2_hasName 78 = .ok (.iload_n 2, 1) := by decide +kernel
theorem dX2_hasName_79 : decode cX2_hasName 79 = .ok (.ireturn, 1) := by decide +kernel
theorem dX2_addBell_0 : decode cX2_addBell 0 = .ok (.aload_n 0, 1) := by decide +kernel
theorem dX2_addBell_1 : decode cX2_addBell 1 = .ok (.getfield 89, 3) := by decide +kernel
theorem dX2_addBell_4 : decode cX2_addBell 4 = .ok (.iconst 5, 1) := by decide +kernel
theorem dX2_addBell_5 : decode cX2_addBell 5 = .ok (.if_icmp .ge 45, 3) := by decide +kernel
theorem dX2_addBell_8 : decode cX2_addBell 8 = .ok (.aload_n 0, 1) := by decide +kernel
theorem dX2_addBell_9 : decode cX2_addBell 9 = .ok (.getfield 29, 3) := by decide +kernel
theorem dX2_addBell_12 : decode cX2_addBell 12 = .ok (.iconst 0, 1) := by decide +kernel
theorem dX2_addBell_13 : decode cX2_addBell 13 = .ok (.aaload, 1) := by decide +kernel
theorem dX2_addBell_14 : decode cX2_addBell 14 = .ok (.aload_n 0, 1) := by decide +kernel
theorem dX2_addBell_15 : decode cX2_addBell 15 = .ok (.getfield 89, 3) := by decide +kernel
theorem dX2_addBell_18 : decode cX2_addBell 18 = .ok (.iload_n 1, 1) := by decide +kernel
theorem dX2_addBell_19 : decode cX2_addBell 19 = .ok (.iastore, 1) := by decide +kernel
theorem dX2_addBell_20 : decode cX2_addBell 20 = .ok (.aload_n 0, 1) := by decide +kernel
theorem dX2_addBell_21 : decode cX2_addBell 21 = .ok (.getfield 9, 3) := by decide +kernel
theorem dX2_addBell_24 : decode cX2_addBell 24 = .ok (.aload_n 0, 1) := by decide +kernel
theorem dX2_addBell_25 : decode cX2_addBell 25 = .ok (.getfield 89, 3) := by decide +kernel
theorem dX2_addBell_28 : decode cX2_addBell 28 = .ok (.iload_n 2, 1) := by decide +kernel
theorem dX2_addBell_29 : decode cX2_addBell 29 = .ok (.iastore, 1) := by decide +kernel
theorem dX2_addBell_30 : decode cX2_addBell 30 = .ok (.aload_n 0, 1) := by decide +kernel
theorem dX2_addBell_31 : decode cX2_addBell 31 = .ok (.getfield 15, 3) := by decide +kernel
theorem dX2_addBell_34 : decode cX2_addBell 34 = .ok (.aload_n 0, 1) := by decide +kernel
theorem dX2_addBell_35 : decode cX2_addBell 35 = .ok (.getfield 89, 3) := by decide +kernel
theorem dX2_addBell_38 : decode cX2_addBell 38 = .ok (.iload_n 3, 1) := by decide +kernel
theorem dX2_addBell_39 : decode cX2_addBell 39 = .ok (.iastore, 1) := by decide +kernel
theorem dX2_addBell_40 : decode cX2_addBell 40 = .ok (.aload_n 0, 1) := by decide +kernel
theorem dX2_addBell_41 : decode cX2_addBell 41 = .ok (.dup, 1) := by decide +kernel
theorem dX2_addBell_42 : decode cX2_addBell 42 = .ok (.getfield 89, 3) := by decide +kernel
theorem dX2_addBell_45 : decode cX2_addBell 45 = .ok (.iconst 1, 1) := by decide +kernel
theorem dX2_addBell_46 : decode cX2_addBell 46 = .ok (.iadd, 1) := by decide +kernel
theorem dX2_addBell_47 : decode cX2_addBell 47 = .ok (.putfield 89, 3) := by decide +kernel
theorem dX2_addBell_50 : decode cX2_addBell 50 = .ok (.return_, 1) := by decide +kernel
theorem dX2_addWalker_0 : decode cX2_addWalker 0 = .ok (.aload_n 0, 1) := by decide +kernel
theorem dX2_addWalker_1 : decode cX2_addWalker 1 = .ok (.getfield 92, 3) := by decide +kernel
theorem dX2_addWalker_4 : decode cX2_addWalker 4 = .ok (.bipush 6, 2) := by decide +kernel
theorem dX2_addWalker_6 : decode cX2_addWalker 6 = .ok (.if_icmp .ge 112, 3) := by decide +kernel
theorem dX2_addWalker_9 : decode cX2_addWalker 9 = .ok (.aload_n 0, 1) := by decide +kernel
theorem dX2_addWalker_10 : decode cX2_addWalker 10 = .ok (.getfield 29, 3) := by decide +kernel
theorem dX2_addWalker_13 : decode cX2_addWalker 13 = .ok (.iconst 1, 1) := by decide +kernel
theorem dX2_addWalker_14 : decode cX2_addWalker 14 = .ok (.aaload, 1) := by decide +kernel
theorem dX2_addWalker_15 : decode cX2_addWalker 15 = .ok (.aload_n 0, 1) := by decide +kernel
theorem dX2_addWalker_16 : decode cX2_addWalker 16 = .ok (.getfield 92, 3) := by decide +kernel
theorem dX2_addWalker_19 : decode cX2_addWalker 19 = .ok (.iload_n 1, 1) := by decide +kernel
theorem dX2_addWalker_20 : decode cX2_addWalker 20 = .ok (.iastore, 1) := by decide +kernel
theorem dX2_addWalker_21 : decode cX2_addWalker 21 = .ok (.aload_n 0, 1) := by decide +kernel
theorem dX2_addWalker_22 : decode cX2_addWalker 22 = .ok (.getfield 18, 3) := by decide +kernel
theorem dX2_addWalker_25 : decode cX2_addWalker 25 = .ok (.aload_n 0, 1) := by decide +kernel
theorem dX2_addWalker_26 : decode cX2_addWalker 26 = .ok (.getfield 92, 3) := by decide +kernel
theorem dX2_addWalker_29 : decode cX2_addWalker 29 = .ok (.iload_n 3, 1) := by decide +kernel
theorem dX2_addWalker_30 : decode cX2_addWalker 30 = .ok (.iastore, 1) := by decide +kernel
theorem dX2_addWalker_31 : decode cX2_addWalker 31 = .ok (.aload_n 0, 1) := by decide +kernel
theorem dX2_addWalker_32 : decode cX2_addWalker 32 = .ok (.getfield 21, 3) := by decide +kernel
theorem dX2_addWalker_35 : decode cX2_addWalker 35 = .ok (.aload_n 0, 1) := by decide +kernel
theorem dX2_addWalker_36 : decode cX2_addWalker 36 = .ok (.getfield 92, 3) := by decide +kernel
theorem dX2_addWalker_39 : decode cX2_addWalker 39 = .ok (.iload 4, 2) := by decide +kernel
theorem dX2_addWalker_41 : decode cX2_addWalker 41 = .ok (.iastore, 1) := by decide +kernel
theorem dX2_addWalker_42 : decode cX2_addWalker 42 = .ok (.iconst 0, 1) := by decide +kernel
theorem dX2_addWalker_43 : decode cX2_addWalker 43 = .ok (.istore 5, 2) := by decide +kernel
theorem dX2_addWalker_45 : decode cX2_addWalker 45 = .ok (.iload 5, 2) := by decide +kernel
theorem dX2_addWalker_47 : decode cX2_addWalker 47 = .ok (.bipush 12, 2) := by decide +kernel
theorem dX2_addWalker_49 : decode cX2_addWalker 49 = .ok (.if_icmp .ge 59, 3) := by decide +kernel
theorem dX2_addWalker_52 : decode cX2_addWalker 52 = .ok (.aload_n 0, 1) := by decide +kernel
theorem dX2_addWalker_53 : decode cX2_addWalker 53 = .ok (.iload_n 2, 1) := by decide +kernel
theorem dX2_addWalker_54 : decode cX2_addWalker 54 = .ok (.invokevirtual 74, 3) := by decide +kernel
theorem dX2_addWalker_57 : decode cX2_addWalker 57 = .ok (.aload_n 0, 1) := by decide +kernel
theorem dX2_addWalker_58 : decode cX2_addWalker 58 = .ok (.iload_n 3, 1) := by decide +kernel
theorem dX2_addWalker_59 : decode cX2_addWalker 59 = .ok (.invokevirtual 74, 3) := by decide +kernel
theorem dX2_addWalker_62 : decode cX2_addWalker 62 = .ok (.iload 5, 2) := by decide +kernel
theorem dX2_addWalker_64 : decode cX2_addWalker 64 = .ok (.invokestatic 95, 3) := by decide +kernel
theorem dX2_addWalker_67 : decode cX2_addWalker 67 = .ok (.istore 6, 2) := by decide +kernel
theorem dX2_addWalker_69 : decode cX2_addWalker 69 = .ok (.aload_n 0, 1) := by decide +kernel
theorem dX2_addWalker_70 : decode cX2_addWalker 70 = .ok (.getfield 26, 3) := by decide +kernel
theorem dX2_addWalker_73 : decode cX2_addWalker 73 = .ok (.aload_n 0, 1) := by decide +kernel
theorem dX2_addWalker_74 : decode cX2_addWalker 74 = .ok (.getfield 92, 3) := by decide +kernel
theorem dX2_addWalker_77 : decode cX2_addWalker 77 = .ok (.aaload, 1) := by decide +kernel
theorem dX2_addWalker_78 : decode cX2_addWalker 78 = .ok (.iload 5, 2) := by decide +kernel
theorem dX2_addWalker_80 : decode cX2_addWalker 80 = .ok (.aload_n 0, 1) := by decide +kernel
theorem dX2_addWalker_81 : decode cX2_addWalker 81 = .ok (.iload 6, 2) := by decide +kernel
theorem dX2_addWalker_83 : decode cX2_addWalker 83 = .ok (.aload_n 0, 1) := by decide +kernel
theorem dX2_addWalker_84 : decode cX2_addWalker 84 = .ok (.iload_n 2, 1) := by decide +kernel
theorem dX2_addWalker_85 : decode cX2_addWalker 85 = .ok (.invokevirtual 83, 3) := by decide +kernel
theorem dX2_addWalker_88 : decode cX2_addWalker 88 = .ok (.aload_n 0, 1) := by decide +kernel
theorem dX2_addWalker_89 : decode cX2_addWalker 89 = .ok (.iload_n 3, 1) := by decide +kernel
theorem dX2_addWalker_90 : decode cX2_addWalker 90 = .ok (.invokevirtual 83, 3) := by decide +kernel
theorem dX2_addWalker_93 : decode cX2_addWalker 93 = .ok (.iload 5, 2) := by decide +kernel
theorem dX2_addWalker_95 : decode cX2_addWalker 95 = .ok (.invokestatic 95, 3) := by decide +kernel
theorem dX2_addWalker_98 : decode cX2_addWalker 98 = .ok (.invokevirtual 99, 3) := by decide +kernel
theorem dX2_addWalker_101 : decode cX2_addWalker 101 = .ok (.iastore, 1) := by decide +kernel
theorem dX2_addWalker_102 : decode cX2_addWalker 102 = .ok (.iinc 5 1, 3) := by decide +kernel
theorem dX2_addWalker_105 : decode cX2_addWalker 105 = .ok (.goto (-60), 3) := by decide +kernel
theorem dX2_addWalker_108 : decode cX2_addWalker 108 = .ok (.aload_n 0, 1) := by decide +kernel
theorem dX2_addWalker_109 : decode cX2_addWalker 109 = .ok (.dup, 1) := by decide +kernel
theorem dX2_addWalker_110 : decode cX2_addWalker 110 = .ok (.getfield 92, 3) := by decide +kernel
theorem dX2_addWalker_113 : decode cX2_addWalker 113 = .ok (.iconst 1, 1) := by decide +kernel
theorem dX2_addWalker_114 : decode cX2_addWalker 114 = .ok (.iadd, 1) := by decide +kernel
theorem dX2_addWalker_115 : decode cX2_addWalker 115 = .ok (.putfield 92, 3) := by decide +kernel
theorem dX2_addWalker_118 : decode cX2_addWalker 118 = .ok (.return_, 1) := by decide +kernel
theorem dX2_nearer_0 : decode cX2_nearer 0 = .ok (.iload_n 0, 1) := by decide +kernel
theorem dX2_nearer_1 : decode cX2_nearer 1 = .ok (.iload_n 1, 1) := by decide +kernel
theorem dX2_nearer_2 : decode cX2_nearer 2 = .ok (.if_icmp .ge 13, 3) := by decide +kernel
theorem dX2_nearer_5 : decode cX2_nearer 5 = .ok (.iload_n 1, 1) := by decide +kernel
theorem dX2_nearer_6 : decode cX2_nearer 6 = .ok (.iload_n 0, 1) := by decide +kernel
theorem dX2_nearer_7 : decode cX2_nearer 7 = .ok (.iload_n 2, 1) := by decide +kernel
theorem dX2_nearer_8 : decode cX2_nearer 8 = .ok (.iadd, 1) := by decide +kernel
theorem dX2_nearer_9 : decode cX2_nearer 9 = .ok (.invokestatic 102, 3) := by decide +kernel
theorem dX2_nearer_12 : decode cX2_nearer 12 = .ok (.goto 10, 3) := by decide +kernel
theorem dX2_nearer_15 : decode cX2_nearer 15 = .ok (.iload_n 1, 1) := by decide +kernel
theorem dX2_nearer_16 : decode cX2_nearer 16 = .ok (.iload_n 0, 1) := by decide +kernel
theorem dX2_nearer_17 : decode cX2_nearer 17 = .ok (.iload_n 2, 1) := by decide +kernel
theorem dX2_nearer_18 : decode cX2_nearer 18 = .ok (.isub, 1) := by decide +kernel
theorem dX2_nearer_19 : decode cX2_nearer 19 = .ok (.invokestatic 86, 3) := by decide +kernel
theorem dX2_nearer_22 : decode cX2_nearer 22 = .ok (.ireturn, 1) := by decide +kernel
theorem dX2_soundOf_0 : decode cX2_soundOf 0 = .ok (.lconst 0, 1) := by decide +kernel
theorem dX2_soundOf_1 : decode cX2_soundOf 1 = .ok (.lstore_n 2, 1) := by decide +kernel
theorem dX2_soundOf_2 : decode cX2_soundOf 2 = .ok (.iconst 0, 1) := by decide +kernel
theorem dX2_soundOf_3 : decode cX2_soundOf 3 = .ok (.istore 4, 2) := by decide +kernel
theorem dX2_soundOf_5 : decode cX2_soundOf 5 = .ok (.iload 4, 2) := by decide +kernel
theorem dX2_soundOf_7 : decode cX2_soundOf 7 = .ok (.aload_n 0, 1) := by decide +kernel
theorem dX2_soundOf_8 : decode cX2_soundOf 8 = .ok (.getfield 89, 3) := by decide +kernel
theorem dX2_soundOf_11 : decode cX2_soundOf 11 = .ok (.if_icmp .ge 38, 3) := by decide +kernel
theorem dX2_soundOf_14 : decode cX2_soundOf 14 = .ok (.lload_n 2, 1) := by decide +kernel
theorem dX2_soundOf_15 : decode cX2_soundOf 15 = .ok (.iload_n 1, 1) := by decide +kernel
theorem dX2_soundOf_16 : decode cX2_soundOf 16 = .ok (.iload 4, 2) := by decide +kernel
theorem dX2_soundOf_18 : decode cX2_soundOf 18 = .ok (.ishr, 1) := by decide +kernel
theorem dX2_soundOf_19 : decode cX2_soundOf 19 = .ok (.iconst 1, 1) := by decide +kernel
theorem dX2_soundOf_20 : decode cX2_soundOf 20 = .ok (.iand, 1) := by decide +kernel
theorem dX2_soundOf_21 : decode cX2_soundOf 21 = .ok (.iconst 1, 1) := by decide +kernel
theorem dX2_soundOf_22 : decode cX2_soundOf 22 = .ok (.if_icmp .ne 18, 3) := by decide +kernel
theorem dX2_soundOf_25 : decode cX2_soundOf 25 = .ok (.aload_n 0, 1) := by decide +kernel
theorem dX2_soundOf_26 : decode cX2_soundOf 26 = .ok (.getfield 51, 3) := by decide +kernel
theorem dX2_soundOf_29 : decode cX2_soundOf 29 = .ok (.aload_n 0, 1) := by decide +kernel
theorem dX2_soundOf_30 : decode cX2_soundOf 30 = .ok (.getfield 9, 3) := by decide +kernel
theorem dX2_soundOf_33 : decode cX2_soundOf 33 = .ok (.iload 4, 2) := by decide +kernel
theorem dX2_soundOf_35 : decode cX2_soundOf 35 = .ok (.iaload, 1) := by decide +kernel
theorem dX2_soundOf_36 : decode cX2_soundOf 36 = .ok (.laload, 1) := by decide +kernel
theorem dX2_soundOf_37 : decode cX2_soundOf 37 = .ok (.goto 4, 3) := by decide +kernel
theorem dX2_soundOf_40 : decode cX2_soundOf 40 = .ok (.lconst 0, 1) := by decide +kernel
theorem dX2_soundOf_41 : decode cX2_soundOf 41 = .ok (.lor, 1) := by decide +kernel
theorem dX2_soundOf_42 : decode cX2_soundOf 42 = .ok (.lstore_n 2, 1) := by decide +kernel
theorem dX2_soundOf_43 : decode cX2_soundOf 43 = .ok (.iinc 4 1, 3) := by decide +kernel
theorem dX2_soundOf_46 : decode cX2_soundOf 46 = .ok (.goto (-41), 3) := by decide +kernel
theorem dX2_soundOf_49 : decode cX2_soundOf 49 = .ok (.lload_n 2, 1) := by decide +kernel
theorem dX2_soundOf_50 : decode cX2_soundOf 50 = .ok (.lreturn, 1) := by decide +kernel
theorem dX2_closedBy_0 : decode cX2_closedBy 0 = .ok (.aload_n 0, 1) := by decide +kernel
theorem dX2_closedBy_1 : decode cX2_closedBy 1 = .ok (.getfield 105, 3) := by decide +kernel
theorem dX2_closedBy_4 : decode cX2_closedBy 4 = .ok (.aload_n 0, 1) := by decide +kernel
theorem dX2_closedBy_5 : decode cX2_closedBy 5 = .ok (.iload_n 1, 1) := by decide +kernel
theorem dX2_closedBy_6 : decode cX2_closedBy 6 = .ok (.invokevirtual 109, 3) := by decide +kernel
theorem dX2_closedBy_9 : decode cX2_closedBy 9 = .ok (.lor, 1) := by decide +kernel
theorem dX2_closedBy_10 : decode cX2_closedBy 10 = .ok (.lreturn, 1) := by decide +kernel
theorem dX2_lossOf_0 : decode cX2_lossOf 0 = .ok (.lload_n 3, 1) := by decide +kernel
theorem dX2_lossOf_1 : decode cX2_lossOf 1 = .ok (.aload_n 0, 1) := by decide +kernel
theorem dX2_lossOf_2 : decode cX2_lossOf 2 = .ok (.getfield 51, 3) := by decide +kernel
theorem dX2_lossOf_5 : decode cX2_lossOf 5 = .ok (.aload_n 0, 1) := by decide +kernel
theorem dX2_lossOf_6 : decode cX2_lossOf 6 = .ok (.getfield 9, 3) := by decide +kernel
theorem dX2_lossOf_9 : decode cX2_lossOf 9 = .ok (.iload_n 1, 1) := by decide +kernel
theorem dX2_lossOf_10 : decode cX2_lossOf 10 = .ok (.iaload, 1) := by decide +kernel
theorem dX2_lossOf_11 : decode cX2_lossOf 11 = .ok (.laload, 1) := by decide +kernel
theorem dX2_lossOf_12 : decode cX2_lossOf 12 = .ok (.land, 1) := by decide +kernel
theorem dX2_lossOf_13 : decode cX2_lossOf 13 = .ok (.lconst 0, 1) := by decide +kernel
theorem dX2_lossOf_14 : decode cX2_lossOf 14 = .ok (.lcmp, 1) := by decide +kernel
theorem dX2_lossOf_15 : decode cX2_lossOf 15 = .ok (.ifCond .eq 10, 3) := by decide +kernel
theorem dX2_lossOf_18 : decode cX2_lossOf 18 = .ok (.aload_n 0, 1) := by decide +kernel
theorem dX2_lossOf_19 : decode cX2_lossOf 19 = .ok (.getfield 36, 3) := by decide +kernel
theorem dX2_lossOf_22 : decode cX2_lossOf 22 = .ok (.goto 4, 3) := by decide +kernel
theorem dX2_lossOf_25 : decode cX2_lossOf 25 = .ok (.iconst 0, 1) := by decide +kernel
theorem dX2_lossOf_26 : decode cX2_lossOf 26 = .ok (.istore 5, 2) := by decide +kernel
theorem dX2_lossOf_28 : decode cX2_lossOf 28 = .ok (.iload_n 2, 1) := by decide +kernel
theorem dX2_lossOf_29 : decode cX2_lossOf 29 = .ok (.iload_n 1, 1) := by decide +kernel
theorem dX2_lossOf_30 : decode cX2_lossOf 30 = .ok (.ishr, 1) := by decide +kernel
theorem dX2_lossOf_31 : decode cX2_lossOf 31 = .ok (.iconst 1, 1) := by decide +kernel
theorem dX2_lossOf_32 : decode cX2_lossOf 32 = .ok (.iand, 1) := by decide +kernel
theorem dX2_lossOf_33 : decode cX2_lossOf 33 = .ok (.iconst 1, 1) := by decide +kernel
theorem dX2_lossOf_34 : decode cX2_lossOf 34 = .ok (.if_icmp .ne 15, 3) := by decide +kernel
theorem dX2_lossOf_37 : decode cX2_lossOf 37 = .ok (.iload 5, 2) := by decide +kernel
theorem dX2_lossOf_39 : decode cX2_lossOf 39 = .ok (.aload_n 0, 1) := by decide +kernel
theorem dX2_lossOf_40 : decode cX2_lossOf 40 = .ok (.getfield 15, 3) := by decide +kernel
theorem dX2_lossOf_43 : decode cX2_lossOf 43 = .ok (.iload_n 1, 1) := by decide +kernel
theorem dX2_lossOf_44 : decode cX2_lossOf 44 = .ok (.iaload, 1) := by decide +kernel
theorem dX2_lossOf_45 : decode cX2_lossOf 45 = .ok (.iadd, 1) := by decide +kernel
theorem dX2_lossOf_46 : decode cX2_lossOf 46 = .ok (.goto 5, 3) := by decide +kernel
theorem dX2_lossOf_49 : decode cX2_lossOf 49 = .ok (.iload 5, 2) := by decide +kernel
theorem dX2_lossOf_51 : decode cX2_lossOf 51 = .ok (.ireturn, 1) := by decide +kernel
theorem dX3_init_0 : decode cX3_init 0 = .ok (.aload_n 0, 1) := by decide +kernel
theorem dX3_init_1 : decode cX3_init 1 = .ok (.invokespecial 3, 3) := by decide +kernel
theorem dX3_init_4 : decode cX3_init 4 = .ok (.aload_n 0, 1) := by decide +kernel
theorem dX3_init_5 : decode cX3_init 5 = .ok (.aload_n 1, 1) := by decide +kernel
theorem dX3_init_6 : decode cX3_init 6 = .ok (.putfield 9, 3) := by decide +kernel
theorem dX3_init_9 : decode cX3_init 9 = .ok (.aload_n 0, 1) := by decide +kernel
theorem dX3_init_10 : decode cX3_init 10 = .ok (.aload_n 2, 1) := by decide +kernel
theorem dX3_init_11 : decode cX3_init 11 = .ok (.putfield 15, 3) := by decide +kernel
theorem dX3_init_14 : decode cX3_init 14 = .ok (.return_, 1) := by decide +kernel
theorem dX3_read_0 : decode cX3_read 0 = .ok (.aload_n 0, 1) := by decide +kernel
theorem dX3_read_1 : decode cX3_read 1 = .ok (.getfield 9, 3) := by decide +kernel
theorem dX3_read_4 : decode cX3_read 4 = .ok (.invokevirtual 19, 3) := by decide +kernel
theorem dX3_read_7 : decode cX3_read 7 = .ok (.aload_n 0, 1) := by decide +kernel
theorem dX3_read_8 : decode cX3_read 8 = .ok (.invokevirtual 24, 3) := by decide +kernel
theorem dX3_read_11 : decode cX3_read 11 = .ok (.astore_n 1, 1) := by decide +kernel
theorem dX3_read_12 : decode cX3_read 12 = .ok (.iconst 1, 1) := by decide +kernel
theorem dX3_read_13 : decode cX3_read 13 = .ok (.istore_n 2, 1) := by decide +kernel
theorem dX3_read_14 : decode cX3_read 14 = .ok (.iload_n 2, 1) := by decide +kernel
theorem dX3_read_15 : decode cX3_read 15 = .ok (.bipush 80, 2) := by decide +kernel
theorem dX3_read_17 : decode cX3_read 17 = .ok (.if_icmp .gt 67, 3) := by decide +kernel
theorem dX3_read_20 : decode cX3_read 20 = .ok (.aload_n 0, 1) := by decide +kernel
theorem dX3_read_21 : decode cX3_read 21 = .ok (.getfield 9, 3) := by decide +kernel
theorem dX3_read_24 : decode cX3_read 24 = .ok (.invokevirtual 28, 3) := by decide +kernel
theorem dX3_read_27 : decode cX3_read 27 = .ok (.ifCond .eq 57, 3) := by decide +kernel
theorem dX3_read_30 : decode cX3_read 30 = .ok (.iload_n 2, 1) := by decide +kernel
theorem dX3_read_31 : decode cX3_read 31 = .ok (.bipush 80, 2) := by decide +kernel
theorem dX3_read_33 : decode cX3_read 33 = .ok (.if_icmp .ne 21, 3) := by decide +kernel
theorem dX3_read_36 : decode cX3_read 36 = .ok (.aload_n 0, 1) := by decide +kernel
theorem dX3_read_37 : decode cX3_read 37 = .ok (.getfield 9, 3) := by decide +kernel
theorem dX3_read_40 : decode cX3_read 40 = .ok (.iconst 5, 1) := by decide +kernel
theorem dX3_read_41 : decode cX3_read 41 = .ok (.aload_n 0, 1) := by decide +kernel
theorem dX3_read_42 : decode cX3_read 42 = .ok (.getfield 9, 3) := by decide +kernel
theorem dX3_read_45 : decode cX3_read 45 = .ok (.getfield 32, 3) := by decide +kernel
theorem dX3_read_48 : decode cX3_read 48 = .ok (.invokevirtual 36, 3) := by decide +kernel
theorem dX3_read_51 : decode cX3_read 51 = .ok (.goto 27, 3) := by decide +kernel
theorem dX3_read_54 : decode cX3_read 54 = .ok (.aload_n 0, 1) := by decide +kernel
theorem dX3_read_55 : decode cX3_read 55 = .ok (.aload_n 1, 1) := by decide +kernel
theorem dX3_read_56 : decode cX3_read 56 = .ok (.invokevirtual 40, 3) := by decide +kernel
theorem dX3_read_59 : decode cX3_read 59 = .ok (.aload_n 0, 1) := by decide +kernel
theorem dX3_read_60 : decode cX3_read 60 = .ok (.getfield 9, 3) := by decide +kernel
theorem dX3_read_63 : decode cX3_read 63 = .ok (.bipush 59, 2) := by decide +kernel
theorem dX3_read_65 : decode cX3_read 65 = .ok (.invokevirtual 44, 3) := by decide +kernel
theorem dX3_read_68 : decode cX3_read 68 = .ok (.aload_n 1, 1) := by decide +kernel
theorem dX3_read_69 : decode cX3_read 69 = .ok (.dup, 1) := by decide +kernel
theorem dX3_read_70 : decode cX3_read 70 = .ok (.getfield 48, 3) := by decide +kernel
theorem dX3_read_73 : decode cX3_read 73 = .ok (.iconst 1, 1) := by decide +kernel
theorem dX3_read_74 : decode cX3_read 74 = .ok (.iadd, 1) := by decide +kernel
theorem dX3_read_75 : decode cX3_read 75 = .ok (.putfield 48, 3) := by decide +kernel
theorem dX3_read_78 : decode cX3_read 78 = .ok (.iinc 2 1, 3) := by decide +kernel
theorem dX3_read_81 : decode cX3_read 81 = .ok (.goto (-67), 3) := by decide +kernel
theorem dX3_read_84 : decode cX3_read 84 = .ok (.aload_n 1, 1) := by decide +kernel
theorem dX3_read_85 : decode cX3_read 85 = .ok (.areturn, 1) := by decide +kernel
theorem dX3_readGround_0 : decode cX3_readGround 0 = .ok (.aload_n 0, 1) := by decide +kernel
theorem dX3_readGround_1 : decode cX3_readGround 1 = .ok (.getfield 9, 3) := by decide +kernel
theorem dX3_readGround_4 : decode cX3_readGround 4 = .ok (.iconst 0, 1) := by decide +kernel
theorem dX3_readGround_5 : decode cX3_readGround 5 = .ok (.invokevirtual 53, 3) := by decide +kernel
theorem dX3_readGround_8 : decode cX3_readGround 8 = .ok (.aload_n 0, 1) := by decide +kernel
theorem dX3_readGround_9 : decode cX3_readGround 9 = .ok (.getfield 9, 3) := by decide +kernel
theorem dX3_readGround_12 : decode cX3_readGround 12 = .ok (.iconst 2, 1) := by decide +kernel
theorem dX3_readGround_13 : decode cX3_readGround 13 = .ok (.bipush 7, 2) := by decide +kernel
theorem dX3_readGround_15 : decode cX3_readGround 15 = .ok (.invokevirtual 56, 3) := by decide +kernel
theorem dX3_readGround_18 : decode cX3_readGround 18 = .ok (.istore_n 1, 1) := by decide +kernel
theorem dX3_readGround_19 : decode cX3_readGround 19 = .ok (.aload_n 0, 1) := by decide +kernel
theorem dX3_readGround_20 : decode cX3_readGround 20 = .ok (.getfield 9, 3) := by decide +kernel
theorem dX3_readGround_23 : decode cX3_readGround 23 = .ok (.iconst 1, 1) := by decide +kernel
theorem dX3_readGround_24 : decode cX3_readGround 24 = .ok (.invokevirtual 53, 3) := by decide +kernel
theorem dX3_readGround_27 : decode cX3_readGround 27 = .ok (.aload_n 0, 1) := by decide +kernel
theorem dX3_readGround_28 : decode cX3_readGround 28 = .ok (.getfield 9, 3) := by decide +kernel
theorem dX3_readGround_31 : decode cX3_readGround 31 = .ok (.iconst 2, 1) := by decide +kernel
theorem dX3_readGround_32 : decode cX3_readGround 32 = .ok (.bipush 7, 2) := by decide +kernel
theorem dX3_readGround_34 : decode cX3_readGround 34 = .ok (.invokevirtual 56, 3) := by decide +kernel
theorem dX3_readGround_37 : decode cX3_readGround 37 = .ok (.istore_n 2, 1) := by decide +kernel
theorem dX3_readGround_38 : decode cX3_readGround 38 = .ok (.aload_n 0, 1) := by decide +kernel
theorem dX3_readGround_39 : decode cX3_readGround 39 = .ok (.getfield 9, 3) := by decide +kernel
theorem dX3_readGround_42 : decode cX3_readGround 42 = .ok (.iconst 2, 1) := by decide +kernel
theorem dX3_readGround_43 : decode cX3_readGround 43 = .ok (.invokevirtual 53, 3) := by decide +kernel
theorem dX3_readGround_46 : decode cX3_readGround 46 = .ok (.aload_n 0, 1) := by decide +kernel
theorem dX3_readGround_47 : decode cX3_readGround 47 = .ok (.getfield 9, 3) := by decide +kernel
theorem dX3_readGround_50 : decode cX3_readGround 50 = .ok (.iconst 0, 1) := by decide +kernel
theorem dX3_readGround_51 : decode cX3_readGround 51 = .ok (.iload_n 1, 1) := by decide +kernel
theorem dX3_readGround_52 : decode cX3_readGround 52 = .ok (.iconst 1, 1) := by decide +kernel
theorem dX3_readGround_53 : decode cX3_readGround 53 = .ok (.isub, 1) := by decide +kernel
theorem dX3_readGround_54 : decode cX3_readGround 54 = .ok (.invokevirtual 56, 3) := by decide +kernel
theorem dX3_readGround_57 : decode cX3_readGround 57 = .ok (.istore_n 3, 1) := by decide +kernel
theorem dX3_readGround_58 : decode cX3_readGround 58 = .ok (.aload_n 0, 1) := by decide +kernel
theorem dX3_readGround_59 : decode cX3_readGround 59 = .ok (.getfield 9, 3) := by decide +kernel
theorem dX3_readGround_62 : decode cX3_readGround 62 = .ok (.iconst 0, 1) := by decide +kernel
theorem dX3_readGround_63 : decode cX3_readGround 63 = .ok (.iload_n 2, 1) := by decide +kernel
theorem dX3_readGround_64 : decode cX3_readGround 64 = .ok (.iconst 1, 1) := by decide +kernel
theorem dX3_readGround_65 : decode cX3_readGround 65 = .ok (.isub, 1) := by decide +kernel
theorem dX3_readGround_66 : decode cX3_readGround 66 = .ok (.invokevirtual 56, 3) := by decide +kernel
theorem dX3_readGround_69 : decode cX3_readGround 69 = .ok (.istore 4, 2) := by decide +kernel
theorem dX3_readGround_71 : decode cX3_readGround 71 = .ok (.aload_n 0, 1) := by decide +kernel
theorem dX3_readGround_72 : decode cX3_readGround 72 = .ok (.getfield 9, 3) := by decide +kernel
theorem dX3_readGround_75 : decode cX3_readGround 75 = .ok (.bipush 59, 2) := by decide +kernel
theorem dX3_readGround_77 : decode cX3_readGround 77 = .ok (.invokevirtual 44, 3) := by decide +kernel
theorem dX3_readGround_80 : decode cX3_readGround 80 = .ok (.new 49, 3) := by decide +kernel
theorem dX3_readGround_83 : decode cX3_readGround 83 = .ok (.dup, 1) := by decide +kernel
theorem dX3_readGround_84 : decode cX3_readGround 84 = .ok (.iload_n 1, 1) := by decide +kernel
theorem dX3_readGround_85 : decode cX3_readGround 85 = .ok (.iload_n 2, 1) := by decide +kernel
theorem dX3_readGround_86 : decode cX3_readGround 86 = .ok (.iload 4, 2) := by decide +kernel
theorem dX3_readGround_88 : decode cX3_readGround 88 = .ok (.iload_n 1, 1) := by decide +kernel
theorem dX3_readGround_89 : decode cX3_readGround 89 = .ok (.imul, 1) := by decide +kernel
theorem dX3_readGround_90 : decode cX3_readGround 90 = .ok (.iload_n 3, 1) := by decide +kernel
theorem dX3_readGround_91 : decode cX3_readGround 91 = .ok (.iadd, 1) := by decide +kernel
theorem dX3_readGround_92 : decode cX3_readGround 92 = .ok (.invokespecial 60, 3) := by decide +kernel
theorem dX3_readGround_95 : decode cX3_readGround 95 = .ok (.areturn, 1) := by decide +kernel
theorem dX3_readStatement_0 : decode cX3_readStatement 0 = .ok (.aload_n 0, 1) := by decide +kernel
theorem dX3_readStatement_1 : decode cX3_readStatement 1 = .ok (.getfield 9, 3) := by decide +kernel
theorem dX3_readStatement_4 : decode cX3_readStatement 4 = .ok (.invokevirtual 63, 3) := by decide +kernel
theorem dX3_readStatement_7 : decode cX3_readStatement 7 = .ok (.istore_n 2, 1) := by decide +kernel
theorem dX3_readStatement_8 : decode cX3_readStatement 8 = .ok (.aload_n 1, 1) := by decide +kernel
theorem dX3_readStatement_9 : decode cX3_readStatement 9 = .ok (.iload_n 2, 1) := by decide +kernel
theorem dX3_readStatement_10 : decode cX3_readStatement 10 = .ok (.invokestatic 67, 3) := by decide +kernel
theorem dX3_readStatement_13 : decode cX3_readStatement 13 = .ok (.ifCond .eq 19, 3) := by decide +kernel
theorem dX3_readStatement_16 : decode cX3_readStatement 16 = .ok (.aload_n 0, 1) := by decide +kernel
theorem dX3_readStatement_17 : decode cX3_readStatement 17 = .ok (.getfield 9, 3) := by decide +kernel
theorem dX3_readStatement_20 : decode cX3_readStatement 20 = .ok (.iconst 5, 1) := by decide +kernel
theorem dX3_readStatement_21 : decode cX3_readStatement 21 = .ok (.aload_n 0, 1) := by decide +kernel
theorem dX3_readStatement_22 : decode cX3_readStatement 22 = .ok (.getfield 9, 3) := by decide +kernel
theorem dX3_readStatement_25 : decode cX3_readStatement 25 = .ok (.getfield 32, 3) := by decide +kernel
theorem dX3_readStatement_28 : decode cX3_readStatement 28 = .ok (.invokevirtual 36, 3) := by decide +kernel
theorem dX3_readStatement_31 : decode cX3_readStatement 31 = .ok (.return_, 1) := by decide +kernel
theorem dX3_readStatement_32 : decode cX3_readStatement 32 = .ok (.aload_n 0, 1) := by decide +kernel
theorem dX3_readStatement_33 : decode cX3_readStatement 33 = .ok (.getfield 9, 3) := by decide +kernel
theorem dX3_readStatement_36 : decode cX3_readStatement 36 = .ok (.getfield 32, 3) := by decide +kernel
theorem dX3_readStatement_39 : decode cX3_readStatement 39 = .ok (.istore_n 3, 1) := by decide +kernel
theorem dX3_readStatement_40 : decode cX3_readStatement 40 = .ok (.aload_n 0, 1) := by decide +kernel
theorem dX3_readStatement_41 : decode cX3_readStatement 41 = .ok (.getfield 9, 3) := by decide +kernel
theorem dX3_readStatement_44 : decode cX3_readStatement 44 = .ok (.invokevirtual 71, 3) := by decide +kernel
theorem dX3_readStatement_47 : decode cX3_readStatement 47 = .ok (.iload_n 2, 1) := by decide +kernel
theorem dX3_readStatement_48 : decode cX3_readStatement 48 = .ok (.tableswitch 196 3 16 #[72, 80, 196, 196, 88, 196, 196, 196, 96, 112, 128, 144, 161, 179], 72) := by decide +kernel
theorem dX3_readStatement_120 : decode cX3_readStatement 120 = .ok (.aload_n 0, 1) := by decide +kernel
theorem dX3_readStatement_121 : decode cX3_readStatement 121 = .ok (.aload_n 1, 1) := by decide +kernel
theorem dX3_readStatement_122 : decode cX3_readStatement 122 = .ok (.invokevirtual 74, 3) := by decide +kernel
theorem dX3_readStatement_125 : decode cX3_readStatement 125 = .ok (.goto 128, 3) := by decide +kernel
theorem dX3_readStatement_128 : decode cX3_readStatement 128 = .ok (.aload_n 0, 1) := by decide +kernel
theorem dX3_readStatement_129 : decode cX3_readStatement 129 = .ok (.aload_n 1, 1) := by decide +kernel
theorem dX3_readStatement_130 : decode cX3_readStatement 130 = .ok (.invokevirtual 77, 3) := by decide +kernel
theorem dX3_readStatement_133 : decode cX3_readStatement 133 = .ok (.goto 120, 3) := by decide +kernel
theorem dX3_readStatement_136 : decode cX3_readStatement 136 = .ok (.aload_n 0, 1) := by decide +kernel
theorem dX3_readStatement_137 : decode cX3_readStatement 137 = .ok (.aload_n 1, 1) := by decide +kernel
theorem dX3_readStatement_138 : decode cX3_readStatement 138 = .ok (.invokevirtual 80, 3) := by decide +kernel
theorem dX3_readStatement_141 : decode cX3_readStatement 141 = .ok (.goto 112, 3) := by decide +kernel
theorem dX3_readStatement_144 : decode cX3_readStatement 144 = .ok (.aload_n 1, 1) := by decide +kernel
theorem dX3_readStatement_145 : decode cX3_readStatement 145 = .ok (.aload_n 0, 1) := by decide +kernel
theorem dX3_readStatement_146 : decode cX3_readStatement 146 = .ok (.getfield 15, 3) := by decide +kernel
theorem dX3_readStatement_149 : decode cX3_readStatement 149 = .ok (.bipush 15, 2) := by decide +kernel
theorem dX3_readStatement_151 : decode cX3_readStatement 151 = .ok (.invokevirtual 83, 3) := by decide +kernel
theorem dX3_readStatement_154 : decode cX3_readStatement 154 = .ok (.putfield 89, 3) := by decide +kernel
theorem dX3_readStatement_157 : decode cX3_readStatement 157 = .ok (.goto 96, 3) := by decide +kernel
theorem dX3_readStatement_160 : decode cX3_readStatement 160 = .ok (.aload_n 1, 1) := by decide +kernel
theorem dX3_readStatement_161 : decode cX3_readStatement 161 = .ok (.aload_n 0, 1) := by decide +kernel
theorem dX3_readStatement_162 : decode cX3_readStatement 162 = .ok (.getfield 15, 3) := by decide +kernel
theorem dX3_readStatement_165 : decode cX3_readStatement 165 = .ok (.bipush 115, 2) := by decide +kernel
theorem dX3_readStatement_167 : decode cX3_readStatement 167 = .ok (.invokevirtual 83, 3) := by decide +kernel
theorem dX3_readStatement_170 : decode cX3_readStatement 170 = .ok (.putfield 93, 3) := by decide +kernel
theorem dX3_readStatement_173 : decode cX3_readStatement 173 = .ok (.goto 80, 3) := by decide +kernel
theorem dX3_readStatement_176 : decode cX3_readStatement 176 = .ok (.aload_n 1, 1) := by decide +kernel
theorem dX3_readStatement_177 : decode cX3_readStatement 177 = .ok (.aload_n 0, 1) := by decide +kernel
theorem dX3_readStatement_178 : decode cX3_readStatement 178 = .ok (.getfield 15, 3) := by decide +kernel
theorem dX3_readStatement_181 : decode cX3_readStatement 181 = .ok (.bipush 115, 2) := by decide +kernel
theorem dX3_readStatement_183 : decode cX3_readStatement 183 = .ok (.invokevirtual 96, 3) := by decide +kernel
theorem dX3_readStatement_186 : decode cX3_readStatement 186 = .ok (.putfield 99, 3) := by decide +kernel
theorem dX3_readStatement_189 : decode cX3_readStatement 189 = .ok (.goto 64, 3) := by decide +kernel
theorem dX3_readStatement_192 : decode cX3_readStatement 192 = .ok (.aload_n 1, 1) := by decide +kernel
theorem dX3_readStatement_193 : decode cX3_readStatement 193 = .ok (.aload_n 0, 1) := by decide +kernel
theorem dX3_readStatement_194 : decode cX3_readStatement 194 = .ok (.getfield 9, 3) := by decide +kernel
theorem dX3_readStatement_197 : decode cX3_readStatement 197 = .ok (.iconst 1, 1) := by decide +kernel
theorem dX3_readStatement_198 : decode cX3_readStatement 198 = .ok (.bipush 99, 2) := by decide +kernel
theorem dX3_readStatement_200 : decode cX3_readStatement 200 = .ok (.invokevirtual 56, 3) := by decide +kernel
theorem dX3_readStatement_203 : decode cX3_readStatement 203 = .ok (.putfield 102, 3) := by decide +kernel
theorem dX3_readStatement_206 : decode cX3_readStatement 206 = .ok (.goto 47, 3) := by decide +kernel
theorem dX3_readStatement_209 : decode cX3_readStatement 209 = .ok (.aload_n 1, 1) := by decide +kernel
theorem dX3_readStatement_210 : decode cX3_readStatement 210 = .ok (.aload_n 0, 1) := by decide +kernel
theorem dX3_readStatement_211 : decode cX3_readStatement 211 = .ok (.getfield 9, 3) := by decide +kernel
theorem dX3_readStatement_214 : decode cX3_readStatement 214 = .ok (.iconst 0, 1) := by decide +kernel
theorem dX3_readStatement_215 : decode cX3_readStatement 215 = .ok (.sipush 999, 3) := by decide +kernel
theorem dX3_readStatement_218 : decode cX3_readStatement 218 = .ok (.invokevirtual 56, 3) := by decide +kernel
theorem dX3_readStatement_221 : decode cX3_readStatement 221 = .ok (.putfield 105, 3) := by decide +kernel
theorem dX3_readStatement_224 : decode cX3_readStatement 224 = .ok (.goto 29, 3) := by decide +kernel
theorem dX3_readStatement_227 : decode cX3_readStatement 227 = .ok (.aload_n 1, 1) := by decide +kernel
theorem dX3_readStatement_228 : decode cX3_readStatement 228 = .ok (.aload_n 0, 1) := by decide +kernel
theorem dX3_readStatement_229 : decode cX3_readStatement 229 = .ok (.getfield 9, 3) := by decide +kernel
theorem dX3_readStatement_232 : decode cX3_readStatement 232 = .ok (.iconst 0, 1) := by decide +kernel
theorem dX3_readStatement_233 : decode cX3_readStatement 233 = .ok (.bipush 100, 2) := by decide +kernel
theorem dX3_readStatement_235 : decode cX3_readStatement 235 = .ok (.invokevirtual 56, 3) := by decide +kernel
theorem dX3_readStatement_238 : decode cX3_readStatement 238 = .ok (.putfield 108, 3) := by decide +kernel
theorem dX3_readStatement_241 : decode cX3_readStatement 241 = .ok (.goto 12, 3) := by decide +kernel
theorem dX3_readStatement_244 : decode cX3_readStatement 244 = .ok (.aload_n 0, 1) := by decide +kernel
theorem dX3_readStatement_245 : decode cX3_readStatement 245 = .ok (.getfield 9, 3) := by decide +kernel
theorem dX3_readStatement_248 : decode cX3_readStatement 248 = .ok (.iconst 1, 1) := by decide +kernel
theorem dX3_readStatement_249 : decode cX3_readStatement 249 = .ok (.iload_n 3, 1) := by decide +kernel
theorem dX3_readStatement_250 : decode cX3_readStatement 250 = .ok (.invokevirtual 36, 3) := by decide +kernel
theorem dX3_readStatement_253 : decode cX3_readStatement 253 = .ok (.return_, 1) := by decide +kernel
theorem dX3_isOneTooMany_0 : decode cX3_isOneTooMany 0 = .ok (.iload_n 1, 1) := by decide +kernel
theorem dX3_isOneTooMany_1 : decode cX3_isOneTooMany 1 = .ok (.tableswitch 130 3 13 #[59, 77, 130, 130, 91, 130, 130, 130, 106, 114, 122], 59) := by decide +kernel
theorem dX3_isOneTooMany_60 : decode cX3_isOneTooMany 60 = .ok (.aload_n 0, 1) := by decide +kernel
theorem dX3_isOneTooMany_61 : decode cX3_isOneTooMany 61 = .ok (.getfield 111, 3) := by decide +kernel
theorem dX3_isOneTooMany_64 : decode cX3_isOneTooMany 64 = .ok (.invokestatic 115, 3) := by decide +kernel
theorem dX3_isOneTooMany_67 : decode cX3_isOneTooMany 67 = .ok (.bipush 10, 2) := by decide +kernel
theorem dX3_isOneTooMany_69 : decode cX3_isOneTooMany 69 = .ok (.if_icmp .lt 7, 3) := by decide +kernel
theorem dX3_isOneTooMany_72 : decode cX3_isOneTooMany 72 = .ok (.iconst 1, 1) := by decide +kernel
theorem dX3_isOneTooMany_73 : decode cX3_isOneTooMany 73 = .ok (.goto 4, 3) := by decide +kernel
theorem dX3_isOneTooMany_76 : decode cX3_isOneTooMany 76 = .ok (.iconst 0, 1) := by decide +kernel
theorem dX3_isOneTooMany_77 : decode cX3_isOneTooMany 77 = .ok (.ireturn, 1) := by decide +kernel
theorem dX3_isOneTooMany_78 : decode cX3_isOneTooMany 78 = .ok (.aload_n 0, 1) := by decide +kernel
theorem dX3_isOneTooMany_79 : decode cX3_isOneTooMany 79 = .ok (.getfield 121, 3) := by decide +kernel
theorem dX3_isOneTooMany_82 : decode cX3_isOneTooMany 82 = .ok (.iconst 5, 1) := by decide +kernel
theorem dX3_isOneTooMany_83 : decode cX3_isOneTooMany 83 = .ok (.if_icmp .lt 7, 3) := by decide +kernel
theorem dX3_isOneTooMany_86 : decode cX3_isOneTooMany 86 = .ok (.iconst 1, 1) := by decide +kernel
theorem dX3_isOneTooMany_87 : decode cX3_isOneTooMany 87 = .ok (.goto 4, 3) := by decide +kernel
theorem dX3_isOneTooMany_90 : decode cX3_isOneTooMany 90 = .ok (.iconst 0, 1) := by decide +kernel
theorem dX3_isOneTooMany_91 : decode cX3_isOneTooMany 91 = .ok (.ireturn, 1) := by decide +kernel
theorem dX3_isOneTooMany_92 : decode cX3_isOneTooMany 92 = .ok (.aload_n 0, 1) := by decide +kernel
theorem dX3_isOneTooMany_93 : decode cX3_isOneTooMany 93 = .ok (.getfield 124, 3) := by decide +kernel
theorem dX3_isOneTooMany_96 : decode cX3_isOneTooMany 96 = .ok (.bipush 6, 2) := by decide +kernel
theorem dX3_isOneTooMany_98 : decode cX3_isOneTooMany 98 = .ok (.if_icmp .lt 7, 3) := by decide +kernel
theorem dX3_isOneTooMany_101 : decode cX3_isOneTooMany 101 = .ok (.iconst 1, 1) := by decide +kernel
theorem dX3_isOneTooMany_102 : decode cX3_isOneTooMany 102 = .ok (.goto 4, 3) := by decide +kernel
theorem dX3_isOneTooMany_105 : decode cX3_isOneTooMany 105 = .ok (.iconst 0, 1) := by decide +kernel
theorem dX3_isOneTooMany_106 : decode cX3_isOneTooMany 106 = .ok (.ireturn, 1) := by decide +kernel
theorem dX3_isOneTooMany_107 : decode cX3_isOneTooMany 107 = .ok (.aload_n 0, 1) := by decide +kernel
theorem dX3_isOneTooMany_108 : decode cX3_isOneTooMany 108 = .ok (.getfield 89, 3) := by decide +kernel
theorem dX3_isOneTooMany_111 : decode cX3_isOneTooMany 111 = .ok (.invokevirtual 127, 3) := by decide +kernel
theorem dX3_isOneTooMany_114 : decode cX3_isOneTooMany 114 = .ok (.ireturn, 1) := by decide +kernel
theorem dX3_isOneTooMany_115 : decode cX3_isOneTooMany 115 = .ok (.aload_n 0, 1) := by decide +kernel
theorem dX3_isOneTooMany_116 : decode cX3_isOneTooMany 116 = .ok (.getfield 93, 3) := by decide +kernel
theorem dX3_isOneTooMany_119 : decode cX3_isOneTooMany 119 = .ok (.invokevirtual 127, 3) := by decide +kernel
theorem dX3_isOneTooMany_122 : decode cX3_isOneTooMany 122 = .ok (.ireturn, 1) := by decide +kernel
theorem dX3_isOneTooMany_123 : decode cX3_isOneTooMany 123 = .ok (.aload_n 0, 1) := by decide +kernel
theorem dX3_isOneTooMany_124 : decode cX3_isOneTooMany 124 = .ok (.getfield 99, 3) := by decide +kernel
theorem dX3_isOneTooMany_127 : decode cX3_isOneTooMany 127 = .ok (.invokevirtual 127, 3) := by decide +kernel
theorem dX3_isOneTooMany_130 : decode cX3_isOneTooMany 130 = .ok (.ireturn, 1) := by decide +kernel
theorem dX3_isOneTooMany_131 : decode cX3_isOneTooMany 131 = .ok (.iconst 0, 1) := by decide +kernel
theorem dX3_isOneTooMany_132 : decode cX3_isOneTooMany 132 = .ok (.ireturn, 1) := by decide +kernel
theorem dX3_takeCell_0 : decode cX3_takeCell 0 = .ok (.aload_n 0, 1) := by decide +kernel
theorem dX3_takeCell_1 : decode cX3_takeCell 1 = .ok (.getfield 9, 3) := by decide +kernel
theorem dX3_takeCell_4 : decode cX3_takeCell 4 = .ok (.iconst 0, 1) := by decide +kernel
theorem dX3_takeCell_5 : decode cX3_takeCell 5 = .ok (.aload_n 1, 1) := by decide +kernel
theorem dX3_takeCell_6 : decode cX3_takeCell 6 = .ok (.getfield 132, 3) := by decide +kernel
theorem dX3_takeCell_9 : decode cX3_takeCell 9 = .ok (.iconst 1, 1) := by decide +kernel
theorem dX3_takeCell_10 : decode cX3_takeCell 10 = .ok (.isub, 1) := by decide +kernel
theorem dX3_takeCell_11 : decode cX3_takeCell 11 = .ok (.invokevirtual 56, 3) := by decide +kernel
theorem dX3_takeCell_14 : decode cX3_takeCell 14 = .ok (.istore_n 2, 1) := by decide +kernel
theorem dX3_takeCell_15 : decode cX3_takeCell 15 = .ok (.aload_n 0, 1) := by decide +kernel
theorem dX3_takeCell_16 : decode cX3_takeCell 16 = .ok (.getfield 9, 3) := by decide +kernel
theorem dX3_takeCell_19 : decode cX3_takeCell 19 = .ok (.iconst 0, 1) := by decide +kernel
theorem dX3_takeCell_20 : decode cX3_takeCell 20 = .ok (.aload_n 1, 1) := by decide +kernel
theorem dX3_takeCell_21 : decode cX3_takeCell 21 = .ok (.getfield 135, 3) := by decide +kernel
theorem dX3_takeCell_24 : decode cX3_takeCell 24 = .ok (.iconst 1, 1) := by decide +kernel
theorem dX3_takeCell_25 : decode cX3_takeCell 25 = .ok (.isub, 1) := by decide +kernel
theorem dX3_takeCell_26 : decode cX3_takeCell 26 = .ok (.invokevirtual 56, 3) := by decide +kernel
theorem dX3_takeCell_29 : decode cX3_takeCell 29 = .ok (.istore_n 3, 1) := by decide +kernel
theorem dX3_takeCell_30 : decode cX3_takeCell 30 = .ok (.aload_n 1, 1) := by decide +kernel
theorem dX3_takeCell_31 : decode cX3_takeCell 31 = .ok (.iload_n 2, 1) := by decide +kernel
theorem dX3_takeCell_32 : decode cX3_takeCell 32 = .ok (.iload_n 3, 1) := by decide +kernel
theorem dX3_takeCell_33 : decode cX3_takeCell 33 = .ok (.invokevirtual 138, 3) := by decide +kernel
theorem dX3_takeCell_36 : decode cX3_takeCell 36 = .ok (.ireturn, 1) := by decide +kernel
theorem dX3_takeNewName_0 : decode cX3_takeNewName 0 = .ok (.aload_n 0, 1) := by decide +kernel
theorem dX3_takeNewName_1 : decode cX3_takeNewName 1 = .ok (.getfield 9, 3) := by decide +kernel
theorem dX3_takeNewName_4 : decode cX3_takeNewName 4 = .ok (.getfield 32, 3) := by decide +kernel
theorem dX3_takeNewName_7 : decode cX3_takeNewName 7 = .ok (.istore_n 2, 1) := by decide +kernel
theorem dX3_takeNewName_8 : decode cX3_takeNewName 8 = .ok (.aload_n 0, 1) := by decide +kernel
theorem dX3_takeNewName_9 : decode cX3_takeNewName 9 = .ok (.getfield 9, 3) := by decide +kernel
theorem dX3_takeNewName_12 : decode cX3_takeNewName 12 = .ok (.invokevirtual 141, 3) := by decide +kernel
theorem dX3_takeNewName_15 : decode cX3_takeNewName 15 = .ok (.istore_n 3, 1) := by decide +kernel
theorem dX3_takeNewName_16 : decode cX3_takeNewName 16 = .ok (.aload_n 1, 1) := by decide +kernel
theorem dX3_takeNewName_17 : decode cX3_takeNewName 17 = .ok (.iload_n 3, 1) := by decide +kernel
theorem dX3_takeNewName_18 : decode cX3_takeNewName 18 = .ok (.invokevirtual 144, 3) := by decide +kernel
theorem dX3_takeNewName_21 : decode cX3_takeNewName 21 = .ok (.ifCond .eq 12, 3) := by decide +kernel
theorem dX3_takeNewName_24 : decode cX3_takeNewName 24 = .ok (.aload_n 0, 1) := by decide +kernel
theorem dX3_takeNewName_25 : decode cX3_takeNewName 25 = .ok (.getfield 9, 3) := by decide +kernel
theorem dX3_takeNewName_28 : decode cX3_takeNewName 28 = .ok (.iconst 3, 1) := by decide +kernel
theorem dX3_takeNewName_29 : decode cX3_takeNewName 29 = .ok (.iload_n 2, 1) := by decide +kernel
theorem dX3_takeNewName_30 : decode cX3_takeNewName 30 = .ok (.invokevirtual 36, 3) := by decide +kernel
theorem dX3_takeNewName_33 : decode cX3_takeNewName 33 = .ok (.iload_n 3, 1) := by decide +kernel
theorem dX3_takeNewName_34 : decode cX3_takeNewName 34 = .ok (.ireturn, 1) := by decide +kernel
theorem dX3_readChapel_0 : decode cX3_readChapel 0 = .ok (.aload_n 0, 1) := by decide +kernel
theorem dX3_readChapel_1 : decode cX3_readChapel 1 = .ok (.getfield 9, 3) := by decide +kernel
theorem dX3_readChapel_4 : decode cX3_readChapel 4 = .ok (.iconst 0, 1) := by decide +kernel
theorem dX3_readChapel_5 : decode cX3_readChapel 5 = .ok (.aload_n 1, 1) := by decide +kernel
theorem dX3_readChapel_6 : decode cX3_readChapel 6 = .ok (.getfield 132, 3) := by decide +kernel
theorem dX3_readChapel_9 : decode cX3_readChapel 9 = .ok (.iconst 1, 1) := by decide +kernel
theorem dX3_readChapel_10 : decode cX3_readChapel 10 = .ok (.isub, 1) := by decide +kernel
theorem dX3_readChapel_11 : decode cX3_readChapel 11 = .ok (.invokevirtual 56, 3) := by decide +kernel
theorem dX3_readChapel_14 : decode cX3_readChapel 14 = .ok (.istore_n 2, 1) := by decide +kernel
theorem dX3_readChapel_15 : decode cX3_readChapel 15 = .ok (.aload_n 0, 1) := by decide +kernel
theorem dX3_readChapel_16 : decode cX3_readChapel 16 = .ok (.getfield 9, 3) := by decide +kernel
theorem dX3_readChapel_19 : decode cX3_readChapel 19 = .ok (.getfield 32, 3) := by decide +kernel
theorem dX3_readChapel_22 : decode cX3_readChapel 22 = .ok (.istore_n 3, 1) := by decide +kernel
theorem dX3_readChapel_23 : decode cX3_readChapel 23 = .ok (.aload_n 0, 1) := by decide +kernel
theorem dX3_readChapel_24 : decode cX3_readChapel 24 = .ok (.getfield 9, 3) := by decide +kernel
theorem dX3_readChapel_27 : decode cX3_readChapel 27 = .ok (.iconst 0, 1) := by decide +kernel
theorem dX3_readChapel_28 : decode cX3_readChapel 28 = .ok (.aload_n 1, 1) := by decide +kernel
theorem dX3_readChapel_29 : decode cX3_readChapel 29 = .ok (.getfield 135, 3) := by decide +kernel
theorem dX3_readChapel_32 : decode cX3_readChapel 32 = .ok (.iconst 1, 1) := by decide +kernel
theorem dX3_readChapel_33 : decode cX3_readChapel 33 = .ok (.isub, 1) := by decide +kernel
theorem dX3_readChapel_34 : decode cX3_readChapel 34 = .ok (.invokevirtual 56, 3) := by decide +kernel
theorem dX3_readChapel_37 : decode cX3_readChapel 37 = .ok (.istore 4, 2) := by decide +kernel
theorem dX3_readChapel_39 : decode cX3_readChapel 39 = .ok (.aload_n 1, 1) := by decide +kernel
theorem dX3_readChapel_40 : decode cX3_readChapel 40 = .ok (.iload_n 2, 1) := by decide +kernel
theorem dX3_readChapel_41 : decode cX3_readChapel 41 = .ok (.iload 4, 2) := by decide +kernel
theorem dX3_readChapel_43 : decode cX3_readChapel 43 = .ok (.invokevirtual 138, 3) := by decide +kernel
theorem dX3_readChapel_46 : decode cX3_readChapel 46 = .ok (.istore 5, 2) := by decide +kernel
theorem dX3_readChapel_48 : decode cX3_readChapel 48 = .ok (.iload 5, 2) := by decide +kernel
theorem dX3_readChapel_50 : decode cX3_readChapel 50 = .ok (.aload_n 1, 1) := by decide +kernel
theorem dX3_readChapel_51 : decode cX3_readChapel 51 = .ok (.getfield 148, 3) := by decide +kernel
theorem dX3_readChapel_54 : decode cX3_readChapel 54 = .ok (.if_icmp .eq 16, 3) := by decide +kernel
theorem dX3_readChapel_57 : decode cX3_readChapel 57 = .ok (.aload_n 1, 1) := by decide +kernel
theorem dX3_readChapel_58 : decode cX3_readChapel 58 = .ok (.getfield 111, 3) := by decide +kernel
theorem dX3_readChapel_61 : decode cX3_readChapel 61 = .ok (.iload 5, 2) := by decide +kernel
theorem dX3_readChapel_63 : decode cX3_readChapel 63 = .ok (.invokestatic 151, 3) := by decide +kernel
theorem dX3_readChapel_66 : decode cX3_readChapel 66 = .ok (.iconst 1, 1) := by decide +kernel
theorem dX3_readChapel_67 : decode cX3_readChapel 67 = .ok (.if_icmp .ne 12, 3) := by decide +kernel
theorem dX3_readChapel_70 : decode cX3_readChapel 70 = .ok (.aload_n 0, 1) := by decide +kernel
theorem dX3_readChapel_71 : decode cX3_readChapel 71 = .ok (.getfield 9, 3) := by decide +kernel
theorem dX3_readChapel_74 : decode cX3_readChapel 74 = .ok (.iconst 2, 1) := by decide +kernel
theorem dX3_readChapel_75 : decode cX3_readChapel 75 = .ok (.iload_n 3, 1) := by decide +kernel
theorem dX3_readChapel_76 : decode cX3_readChapel 76 = .ok (.invokevirtual 36, 3) := by decide +kernel
theorem dX3_readChapel_79 : decode cX3_readChapel 79 = .ok (.aload_n 1, 1) := by decide +kernel
theorem dX3_readChapel_80 : decode cX3_readChapel 80 = .ok (.dup, 1) := by decide +kernel
theorem dX3_readChapel_81 : decode cX3_readChapel 81 = .ok (.getfield 111, 3) := by decide +kernel
theorem dX3_readChapel_84 : decode cX3_readChapel 84 = .ok (.lconst 1, 1) := by decide +kernel
theorem dX3_readChapel_85 : decode cX3_readChapel 85 = .ok (.iload 5, 2) := by decide +kernel
theorem dX3_readChapel_87 : decode cX3_readChapel 87 = .ok (.lshl, 1) := by decide +kernel
theorem dX3_readChapel_88 : decode cX3_readChapel 88 = .ok (.lor, 1) := by decide +kernel
theorem dX3_readChapel_89 : decode cX3_readChapel 89 = .ok (.putfield 111, 3) := by decide +kernel
theorem dX3_readChapel_92 : decode cX3_readChapel 92 = .ok (.return_, 1) := by decide +kernel
theorem dX3_readBell_0 : decode cX3_readBell 0 = .ok (.aload_n 0, 1) := by decide +kernel
theorem dX3_readBell_1 : decode cX3_readBell 1 = .ok (.aload_n 1, 1) := by decide +kernel
theorem dX3_readBell_2 : decode cX3_readBell 2 = .ok (.invokevirtual 155, 3) := by decide +kernel
theorem dX3_readBell_5 : decode cX3_readBell 5 = .ok (.istore_n 2, 1) := by decide +kernel
theorem dX3_readBell_6 : decode cX3_readBell 6 = .ok (.aload_n 0, 1) := by decide +kernel
theorem dX3_readBell_7 : decode cX3_readBell 7 = .ok (.getfield 9, 3) := by decide +kernel
theorem dX3_readBell_10 : decode cX3_readBell 10 = .ok (.iconst 5, 1) := by decide +kernel
theorem dX3_readBell_11 : decode cX3_readBell 11 = .ok (.invokevirtual 53, 3) := by decide +kernel
theorem dX3_readBell_14 : decode cX3_readBell 14 = .ok (.aload_n 0, 1) := by decide +kernel
theorem dX3_readBell_15 : decode cX3_readBell 15 = .ok (.aload_n 1, 1) := by decide +kernel
theorem dX3_readBell_16 : decode cX3_readBell 16 = .ok (.invokevirtual 159, 3) := by decide +kernel
theorem dX3_readBell_19 : decode cX3_readBell 19 = .ok (.istore_n 3, 1) := by decide +kernel
theorem dX3_readBell_20 : decode cX3_readBell 20 = .ok (.aload_n 0, 1) := by decide +kernel
theorem dX3_readBell_21 : decode cX3_readBell 21 = .ok (.getfield 9, 3) := by decide +kernel
theorem dX3_readBell_24 : decode cX3_readBell 24 = .ok (.bipush 6, 2) := by decide +kernel
theorem dX3_readBell_26 : decode cX3_readBell 26 = .ok (.invokevirtual 53, 3) := by decide +kernel
theorem dX3_readBell_29 : decode cX3_readBell 29 = .ok (.aload_n 1, 1) := by decide +kernel
theorem dX3_readBell_30 : decode cX3_readBell 30 = .ok (.iload_n 2, 1) := by decide +kernel
theorem dX3_readBell_31 : decode cX3_readBell 31 = .ok (.iload_n 3, 1) := by decide +kernel
theorem dX3_readBell_32 : decode cX3_readBell 32 = .ok (.aload_n 0, 1) := by decide +kernel
theorem dX3_readBell_33 : decode cX3_readBell 33 = .ok (.getfield 9, 3) := by decide +kernel
theorem dX3_readBell_36 : decode cX3_readBell 36 = .ok (.iconst 0, 1) := by decide +kernel
theorem dX3_readBell_37 : decode cX3_readBell 37 = .ok (.bipush 99, 2) := by decide +kernel
theorem dX3_readBell_39 : decode cX3_readBell 39 = .ok (.invokevirtual 56, 3) := by decide +kernel
theorem dX3_readBell_42 : decode cX3_readBell 42 = .ok (.invokevirtual 162, 3) := by decide +kernel
theorem dX3_readBell_45 : decode cX3_readBell 45 = .ok (.return_, 1) := by decide +kernel
theorem dX3_readWalker_0 : decode cX3_readWalker 0 = .ok (.aload_n 0, 1) := by decide +kernel
theorem dX3_readWalker_1 : decode cX3_readWalker 1 = .ok (.aload_n 1, 1) := by decide +kernel
theorem dX3_readWalker_2 : decode cX3_readWalker 2 = .ok (.invokevirtual 155, 3) := by decide +kernel
theorem dX3_readWalker_5 : decode cX3_readWalker 5 = .ok (.istore_n 2, 1) := by decide +kernel
theorem dX3_readWalker_6 : decode cX3_readWalker 6 = .ok (.aload_n 0, 1) := by decide +kernel
theorem dX3_readWalker_7 : decode cX3_readWalker 7 = .ok (.getfield 9, 3) := by decide +kernel
theorem dX3_readWalker_10 : decode cX3_readWalker 10 = .ok (.bipush 8, 2) := by decide +kernel
theorem dX3_readWalker_12 : decode cX3_readWalker 12 = .ok (.invokevirtual 53, 3) := by decide +kernel
theorem dX3_readWalker_15 : decode cX3_readWalker 15 = .ok (.aload_n 0, 1) := by decide +kernel
theorem dX3_readWalker_16 : decode cX3_readWalker 16 = .ok (.aload_n 1, 1) := by decide +kernel
theorem dX3_readWalker_17 : decode cX3_readWalker 17 = .ok (.invokevirtual 159, 3) := by decide +kernel
theorem dX3_readWalker_20 : decode cX3_readWalker 20 = .ok (.istore_n 3, 1) := by decide +kernel
theorem dX3_readWalker_21 : decode cX3_readWalker 21 = .ok (.aload_n 0, 1) := by decide +kernel
theorem dX3_readWalker_22 : decode cX3_readWalker 22 = .ok (.getfield 9, 3) := by decide +kernel
theorem dX3_readWalker_25 : decode cX3_readWalker 25 = .ok (.bipush 9, 2) := by decide +kernel
theorem dX3_readWalker_27 : decode cX3_readWalker 27 = .ok (.invokevirtual 53, 3) := by decide +kernel
theorem dX3_readWalker_30 : decode cX3_readWalker 30 = .ok (.aload_n 0, 1) := by decide +kernel
theorem dX3_readWalker_31 : decode cX3_readWalker 31 = .ok (.aload_n 1, 1) := by decide +kernel
theorem dX3_readWalker_32 : decode cX3_readWalker 32 = .ok (.invokevirtual 159, 3) := by decide +kernel
theorem dX3_readWalker_35 : decode cX3_readWalker 35 = .ok (.istore 4, 2) := by decide +kernel
theorem dX3_readWalker_37 : decode cX3_readWalker 37 = .ok (.aload_n 0, 1) := by decide +kernel
theorem dX3_readWalker_38 : decode cX3_readWalker 38 = .ok (.getfield 9, 3) := by decide +kernel
theorem dX3_readWalker_41 : decode cX3_readWalker 41 = .ok (.bipush 10, 2) := by decide +kernel
theorem dX3_readWalker_43 : decode cX3_readWalker 43 = .ok (.invokevirtual 53, 3) := by decide +kernel
theorem dX3_readWalker_46 : decode cX3_readWalker 46 = .ok (.aload_n 1, 1) := by decide +kernel
theorem dX3_readWalker_47 : decode cX3_readWalker 47 = .ok (.iload_n 2, 1) := by decide +kernel
theorem dX3_readWalker_48 : decode cX3_readWalker 48 = .ok (.iload_n 3, 1) := by decide +kernel
theorem dX3_readWalker_49 : decode cX3_readWalker 49 = .ok (.iload 4, 2) := by decide +kernel
theorem dX3_readWalker_51 : decode cX3_readWalker 51 = .ok (.aload_n 0, 1) := by decide +kernel
theorem dX3_readWalker_52 : decode cX3_readWalker 52 = .ok (.getfield 9, 3) := by decide +kernel
theorem dX3_readWalker_55 : decode cX3_readWalker 55 = .ok (.iconst 0, 1) := by decide +kernel
theorem dX3_readWalker_56 : decode cX3_readWalker 56 = .ok (.iconst 3, 1) := by decide +kernel
theorem dX3_readWalker_57 : decode cX3_readWalker 57 = .ok (.invokevirtual 56, 3) := by decide +kernel
theorem dX3_readWalker_60 : decode cX3_readWalker 60 = .ok (.invokevirtual 165, 3) := by decide +kernel
theorem dX3_readWalker_63 : decode cX3_readWalker 63 = .ok (.return_, 1) := by decide +kernel
theorem dX4_init_0 : decode cX4_init 0 = .ok (.aload_n 0, 1) := by decide +kernel
theorem dX4_init_1 : decode cX4_init 1 = .ok (.invokespecial 3, 3) := by decide +kernel
theorem dX4_init_4 : decode cX4_init 4 = .ok (.aload_n 0, 1) := by decide +kernel
theorem dX4_init_5 : decode cX4_init 5 = .ok (.bipush 9, 2) := by decide +kernel
theorem dX4_init_7 : decode cX4_init 7 = .ok (.newarray .int, 2) := by decide +kernel
theorem dX4_init_9 : decode cX4_init 9 = .ok (.putfield 9, 3) := by decide +kernel
theorem dX4_init_12 : decode cX4_init 12 = .ok (.aload_n 0, 1) := by decide +kernel
theorem dX4_init_13 : decode cX4_init 13 = .ok (.bipush 12, 2) := by decide +kernel
theorem dX4_init_15 : decode cX4_init 15 = .ok (.newarray .int, 2) := by decide +kernel
theorem dX4_init_17 : decode cX4_init 17 = .ok (.putfield 15, 3) := by decide +kernel
theorem dX4_init_20 : decode cX4_init 20 = .ok (.aload_n 0, 1) := by decide +kernel
theorem dX4_init_21 : decode cX4_init 21 = .ok (.bipush 64, 2) := by decide +kernel
theorem dX4_init_23 : decode cX4_init 23 = .ok (.newarray .int, 2) := by decide +kernel
theorem dX4_init_25 : decode cX4_init 25 = .ok (.putfield 18, 3) := by decide +kernel
theorem dX4_init_28 : decode cX4_init 28 = .ok (.return_, 1) := by decide +kernel
theorem dX4_setValue_0 : decode cX4_setValue 0 = .ok (.aload_n 0, 1) := by decide +kernel
theorem dX4_setValue_1 : decode cX4_setValue 1 = .ok (.getfield 9, 3) := by decide +kernel
theorem dX4_setValue_4 : decode cX4_setValue 4 = .ok (.iload_n 1, 1) := by decide +kernel
theorem dX4_setValue_5 : decode cX4_setValue 5 = .ok (.bipush 17, 2) := by decide +kernel
theorem dX4_setValue_7 : decode cX4_setValue 7 = .ok (.isub, 1) := by decide +kernel
theorem dX4_setValue_8 : decode cX4_setValue 8 = .ok (.iload_n 2, 1) := by decide +kernel
theorem dX4_setValue_9 : decode cX4_setValue 9 = .ok (.iastore, 1) := by decide +kernel
theorem dX4_setValue_10 : decode cX4_setValue 10 = .ok (.return_, 1) := by decide +kernel
theorem dX4_work_0 : decode cX4_work 0 = .ok (.aload_n 0, 1) := by decide +kernel
theorem dX4_work_1 : decode cX4_work 1 = .ok (.iconst 0, 1) := by decide +kernel
theorem dX4_work_2 : decode cX4_work 2 = .ok (.putfield 21, 3) := by decide +kernel
theorem dX4_work_5 : decode cX4_work 5 = .ok (.iconst 0, 1) := by decide +kernel
theorem dX4_work_6 : decode cX4_work 6 = .ok (.istore_n 2, 1) := by decide +kernel
theorem dX4_work_7 : decode cX4_work 7 = .ok (.iload_n 2, 1) := by decide +kernel
theorem dX4_work_8 : decode cX4_work 8 = .ok (.aload_n 1, 1) := by decide +kernel
theorem dX4_work_9 : decode cX4_work 9 = .ok (.getfield 25, 3) := by decide +kernel
theorem dX4_work_12 : decode cX4_work 12 = .ok (.arraylength, 1) := by decide +kernel
theorem dX4_work_13 : decode cX4_work 13 = .ok (.if_icmp .ge 160, 3) := by decide +kernel
theorem dX4_work_16 : decode cX4_work 16 = .ok (.aload_n 1, 1) := by decide +kernel
theorem dX4_work_17 : decode cX4_work 17 = .ok (.getfield 25, 3) := by decide +kernel
theorem dX4_work_20 : decode cX4_work 20 = .ok (.iload_n 2, 1) := by decide +kernel
theorem dX4_work_21 : decode cX4_work 21 = .ok (.iaload, 1) := by decide +kernel
theorem dX4_work_22 : decode cX4_work 22 = .ok (.iconst 4, 1) := by decide +kernel
theorem dX4_work_23 : decode cX4_work 23 = .ok (.ishr, 1) := by decide +kernel
theorem dX4_work_24 : decode cX4_work 24 = .ok (.istore_n 3, 1) := by decide +kernel
theorem dX4_work_25 : decode cX4_work 25 = .ok (.aload_n 1, 1) := by decide +kernel
theorem dX4_work_26 : decode cX4_work 26 = .ok (.getfield 25, 3) := by decide +kernel
theorem dX4_work_29 : decode cX4_work 29 = .ok (.iload_n 2, 1) := by decide +kernel
theorem dX4_work_30 : decode cX4_work 30 = .ok (.iaload, 1) := by decide +kernel
theorem dX4_work_31 : decode cX4_work 31 = .ok (.bipush 15, 2) := by decide +kernel
theorem dX4_work_33 : decode cX4_work 33 = .ok (.iand, 1) := by decide +kernel
theorem dX4_work_34 : decode cX4_work 34 = .ok (.istore 4, 2) := by decide +kernel
theorem dX4_work_36 : decode cX4_work 36 = .ok (.iload 4, 2) := by decide +kernel
theorem dX4_work_38 : decode cX4_work 38 = .ok (.ifCond .ne 11, 3) := by decide +kernel
theorem dX4_work_41 : decode cX4_work 41 = .ok (.aload_n 0, 1) := by decide +kernel
theorem dX4_work_42 : decode cX4_work 42 = .ok (.iload_n 3, 1) := by decide +kernel
theorem dX4_work_43 : decode cX4_work 43 = .ok (.invokevirtual 30, 3) := by decide +kernel
theorem dX4_work_46 : decode cX4_work 46 = .ok (.goto 121, 3) := by decide +kernel
theorem dX4_work_49 : decode cX4_work 49 = .ok (.iload 4, 2) := by decide +kernel
theorem dX4_work_51 : decode cX4_work 51 = .ok (.iconst 1, 1) := by decide +kernel
theorem dX4_work_52 : decode cX4_work 52 = .ok (.if_icmp .ne 26, 3) := by decide +kernel
theorem dX4_work_55 : decode cX4_work 55 = .ok (.aload_n 0, 1) := by decide +kernel
theorem dX4_work_56 : decode cX4_work 56 = .ok (.iload_n 3, 1) := by decide +kernel
theorem dX4_work_57 : decode cX4_work 57 = .ok (.bipush 9, 2) := by decide +kernel
theorem dX4_work_59 : decode cX4_work 59 = .ok (.if_icmp .ge 12, 3) := by decide +kernel
theorem dX4_work_62 : decode cX4_work 62 = .ok (.aload_n 0, 1) := by decide +kernel
theorem dX4_work_63 : decode cX4_work 63 = .ok (.getfield 9, 3) := by decide +kernel
theorem dX4_work_66 : decode cX4_work 66 = .ok (.iload_n 3, 1) := by decide +kernel
theorem dX4_work_67 : decode cX4_work 67 = .ok (.iaload, 1) := by decide +kernel
theorem dX4_work_68 : decode cX4_work 68 = .ok (.goto 4, 3) := by decide +kernel
theorem dX4_work_71 : decode cX4_work 71 = .ok (.iconst 0, 1) := by decide +kernel
theorem dX4_work_72 : decode cX4_work 72 = .ok (.invokevirtual 30, 3) := by decide +kernel
theorem dX4_work_75 : decode cX4_work 75 = .ok (.goto 92, 3) := by decide +kernel
theorem dX4_work_78 : decode cX4_work 78 = .ok (.iload 4, 2) := by decide +kernel
theorem dX4_work_80 : decode cX4_work 80 = .ok (.bipush 13, 2) := by decide +kernel
theorem dX4_work_82 : decode cX4_work 82 = .ok (.if_icmp .ne 16, 3) := by decide +kernel
theorem dX4_work_85 : decode cX4_work 85 = .ok (.aload_n 0, 1) := by decide +kernel
theorem dX4_work_86 : decode cX4_work 86 = .ok (.iconst 1, 1) := by decide +kernel
theorem dX4_work_87 : decode cX4_work 87 = .ok (.aload_n 0, 1) := by decide +kernel
theorem dX4_work_88 : decode cX4_work 88 = .ok (.invokevirtual 34, 3) := by decide +kernel
theorem dX4_work_91 : decode cX4_work 91 = .ok (.isub, 1) := by decide +kernel
theorem dX4_work_92 : decode cX4_work 92 = .ok (.invokevirtual 30, 3) := by decide +kernel
theorem dX4_work_95 : decode cX4_work 95 = .ok (.goto 72, 3) := by decide +kernel
theorem dX4_work_98 : decode cX4_work 98 = .ok (.iload 4, 2) := by decide +kernel
theorem dX4_work_100 : decode cX4_work 100 = .ok (.bipush 14, 2) := by decide +kernel
theorem dX4_work_102 : decode cX4_work 102 = .ok (.if_icmp .ne 39, 3) := by decide +kernel
theorem dX4_work_105 : decode cX4_work 105 = .ok (.aload_n 0, 1) := by decide +kernel
theorem dX4_work_106 : decode cX4_work 106 = .ok (.invokevirtual 34, 3) := by decide +kernel
theorem dX4_work_109 : decode cX4_work 109 = .ok (.istore 5, 2) := by decide +kernel
theorem dX4_work_111 : decode cX4_work 111 = .ok (.aload_n 0, 1) := by decide +kernel
theorem dX4_work_112 : decode cX4_work 112 = .ok (.iload 5, 2) := by decide +kernel
theorem dX4_work_114 : decode cX4_work 114 = .ok (.ifCond .lt 20, 3) := by decide +kernel
theorem dX4_work_117 : decode cX4_work 117 = .ok (.iload 5, 2) := by decide +kernel
theorem dX4_work_119 : decode cX4_work 119 = .ok (.bipush 12, 2) := by decide +kernel
theorem dX4_work_121 : decode cX4_work 121 = .ok (.if_icmp .ge 13, 3) := by decide +kernel
theorem dX4_work_124 : decode cX4_work 124 = .ok (.aload_n 0, 1) := by decide +kernel
theorem dX4_work_125 : decode cX4_work 125 = .ok (.getfield 15, 3) := by decide +kernel
theorem dX4_work_128 : decode cX4_work 128 = .ok (.iload 5, 2) := by decide +kernel
theorem dX4_work_130 : decode cX4_work 130 = .ok (.iaload, 1) := by decide +kernel
theorem dX4_work_131 : decode cX4_work 131 = .ok (.goto 4, 3) := by decide +kernel
theorem dX4_work_134 : decode cX4_work 134 = .ok (.iconst 0, 1) := by decide +kernel
theorem dX4_work_135 : decode cX4_work 135 = .ok (.invokevirtual 30, 3) := by decide +kernel
theorem dX4_work_138 : decode cX4_work 138 = .ok (.goto 29, 3) := by decide +kernel
theorem dX4_work_141 : decode cX4_work 141 = .ok (.aload_n 0, 1) := by decide +kernel
theorem dX4_work_142 : decode cX4_work 142 = .ok (.invokevirtual 34, 3) := by decide +kernel
theorem dX4_work_145 : decode cX4_work 145 = .ok (.istore 5, 2) := by decide +kernel
theorem dX4_work_147 : decode cX4_work 147 = .ok (.aload_n 0, 1) := by decide +kernel
theorem dX4_work_148 : decode cX4_work 148 = .ok (.iload 4, 2) := by decide +kernel
theorem dX4_work_150 : decode cX4_work 150 = .ok (.aload_n 0, 1) := by decide +kernel
theorem dX4_work_151 : decode cX4_work 151 = .ok (.invokevirtual 34, 3) := by decide +kernel
theorem dX4_work_154 : decode cX4_work 154 = .ok (.i2l, 1) := by decide +kernel
theorem dX4_work_155 : decode cX4_work 155 = .ok (.iload 5, 2) := by decide +kernel
theorem dX4_work_157 : decode cX4_work 157 = .ok (.i2l, 1) := by decide +kernel
theorem dX4_work_158 : decode cX4_work 158 = .ok (.invokestatic 38, 3) := by decide +kernel
theorem dX4_work_161 : decode cX4_work 161 = .ok (.invokestatic 42, 3) := by decide +kernel
theorem dX4_work_164 : decode cX4_work 164 = .ok (.invokevirtual 30, 3) := by decide +kernel
theorem dX4_work_167 : decode cX4_work 167 = .ok (.iinc 2 1, 3) := by decide +kernel
theorem dX4_work_170 : decode cX4_work 170 = .ok (.goto (-163), 3) := by decide +kernel
theorem dX4_work_173 : decode cX4_work 173 = .ok (.aload_n 0, 1) := by decide +kernel
theorem dX4_work_174 : decode cX4_work 174 = .ok (.invokevirtual 34, 3) := by decide +kernel
theorem dX4_work_177 : decode cX4_work 177 = .ok (.ireturn, 1) := by decide +kernel
theorem dX4_push_0 : decode cX4_push 0 = .ok (.aload_n 0, 1) := by decide +kernel
theorem dX4_push_1 : decode cX4_push 1 = .ok (.getfield 21, 3) := by decide +kernel
theorem dX4_push_4 : decode cX4_push 4 = .ok (.bipush 64, 2) := by decide +kernel
theorem dX4_push_6 : decode cX4_push 6 = .ok (.if_icmp .ge 23, 3) := by decide +kernel
theorem dX4_push_9 : decode cX4_push 9 = .ok (.aload_n 0, 1) := by decide +kernel
theorem dX4_push_10 : decode cX4_push 10 = .ok (.getfield 18, 3) := by decide +kernel
theorem dX4_push_13 : decode cX4_push 13 = .ok (.aload_n 0, 1) := by decide +kernel
theorem dX4_push_14 : decode cX4_push 14 = .ok (.getfield 21, 3) := by decide +kernel
theorem dX4_push_17 : decode cX4_push 17 = .ok (.iload_n 1, 1) := by decide +kernel
theorem dX4_push_18 : decode cX4_push 18 = .ok (.iastore, 1) := by decide +kernel
theorem dX4_push_19 : decode cX4_push 19 = .ok (.aload_n 0, 1) := by decide +kernel
theorem dX4_push_20 : decode cX4_push 20 = .ok (.dup, 1) := by decide +kernel
theorem dX4_push_21 : decode cX4_push 21 = .ok (.getfield 21, 3) := by decide +kernel
theorem dX4_push_24 : decode cX4_push 24 = .ok (.iconst 1, 1) := by decide +kernel
theorem dX4_push_25 : decode cX4_push 25 = .ok (.iadd, 1) := by decide +kernel
theorem dX4_push_26 : decode cX4_push 26 = .ok (.putfield 21, 3) := by decide +kernel
theorem dX4_push_29 : decode cX4_push 29 = .ok (.return_, 1) := by decide +kernel
theorem dX4_pop_0 : decode cX4_pop 0 = .ok (.aload_n 0, 1) := by decide +kernel
theorem dX4_pop_1 : decode cX4_pop 1 = .ok (.getfield 21, 3) := by decide +kernel
theorem dX4_pop_4 : decode cX4_pop 4 = .ok (.ifCond .ne 5, 3) := by decide +kernel
theorem dX4_pop_7 : decode cX4_pop 7 = .ok (.iconst 0, 1) := by decide +kernel
theorem dX4_pop_8 : decode cX4_pop 8 = .ok (.ireturn, 1) := by decide +kernel
theorem dX4_pop_9 : decode cX4_pop 9 = .ok (.aload_n 0, 1) := by decide +kernel
theorem dX4_pop_10 : decode cX4_pop 10 = .ok (.dup, 1) := by decide +kernel
theorem dX4_pop_11 : decode cX4_pop 11 = .ok (.getfield 21, 3) := by decide +kernel
theorem dX4_pop_14 : decode cX4_pop 14 = .ok (.iconst 1, 1) := by decide +kernel
theorem dX4_pop_15 : decode cX4_pop 15 = .ok (.isub, 1) := by decide +kernel
theorem dX4_pop_16 : decode cX4_pop 16 = .ok (.putfield 21, 3) := by decide +kernel
theorem dX4_pop_19 : decode cX4_pop 19 = .ok (.aload_n 0, 1) := by decide +kernel
theorem dX4_pop_20 : decode cX4_pop 20 = .ok (.getfield 18, 3) := by decide +kernel
theorem dX4_pop_23 : decode cX4_pop 23 = .ok (.aload_n 0, 1) := by decide +kernel
theorem dX4_pop_24 : decode cX4_pop 24 = .ok (.getfield 21, 3) := by decide +kernel
theorem dX4_pop_27 : decode cX4_pop 27 = .ok (.iaload, 1) := by decide +kernel
theorem dX4_pop_28 : decode cX4_pop 28 = .ok (.ireturn, 1) := by decide +kernel
theorem dX4_joined_0 : decode cX4_joined 0 = .ok (.iload_n 0, 1) := by decide +kernel
theorem dX4_joined_1 : decode cX4_joined 1 = .ok (.tableswitch 135 2 11 #[55, 59, 63, 67, 83, 89, 95, 107, 119, 131], 55) := by decide +kernel
theorem dX4_joined_56 : decode cX4_joined 56 = .ok (.lload_n 1, 1) := by decide +kernel
theorem dX4_joined_57 : decode cX4_joined 57 = .ok (.lload_n 3, 1) := by decide +kernel
theorem dX4_joined_58 : decode cX4_joined 58 = .ok (.ladd, 1) := by decide +kernel
theorem dX4_joined_59 : decode cX4_joined 59 = .ok (.lreturn, 1) := by decide +kernel
theorem dX4_joined_60 : decode cX4_joined 60 = .ok (.lload_n 1, 1) := by decide +kernel
theorem dX4_joined_61 : decode cX4_joined 61 = .ok (.lload_n 3, 1) := by decide +kernel
theorem dX4_joined_62 : decode cX4_joined 62 = .ok (.lsub, 1) := by decide +kernel
theorem dX4_joined_63 : decode cX4_joined 63 = .ok (.lreturn, 1) := by decide +kernel
theorem dX4_joined_64 : decode cX4_joined 64 = .ok (.lload_n 1, 1) := by decide +kernel
theorem dX4_joined_65 : decode cX4_joined 65 = .ok (.lload_n 3, 1) := by decide +kernel
theorem dX4_joined_66 : decode cX4_joined 66 = .ok (.lmul, 1) := by decide +kernel
theorem dX4_joined_67 : decode cX4_joined 67 = .ok (.lreturn, 1) := by decide +kernel
theorem dX4_joined_68 : decode cX4_joined 68 = .ok (.lload_n 3, 1) := by decide +kernel
theorem dX4_joined_69 : decode cX4_joined 69 = .ok (.lconst 0, 1) := by decide +kernel
theorem dX4_joined_70 : decode cX4_joined 70 = .ok (.lcmp, 1) := by decide +kernel
theorem dX4_joined_71 : decode cX4_joined 71 = .ok (.ifCond .ne 7, 3) := by decide +kernel
theorem dX4_joined_74 : decode cX4_joined 74 = .ok (.lconst 0, 1) := by decide +kernel
theorem dX4_joined_75 : decode cX4_joined 75 = .ok (.goto 8, 3) := by decide +kernel
theorem dX4_joined_78 : decode cX4_joined 78 = .ok (.lload_n 1, 1) := by decide +kernel
theorem dX4_joined_79 : decode cX4_joined 79 = .ok (.lload_n 3, 1) := by decide +kernel
theorem dX4_joined_80 : decode cX4_joined 80 = .ok (.invokestatic 46, 3) := by decide +kernel
theorem dX4_joined_83 : decode cX4_joined 83 = .ok (.lreturn, 1) := by decide +kernel
theorem dX4_joined_84 : decode cX4_joined 84 = .ok (.lload_n 1, 1) := by decide +kernel
theorem dX4_joined_85 : decode cX4_joined 85 = .ok (.lload_n 3, 1) := by decide +kernel
theorem dX4_joined_86 : decode cX4_joined 86 = .ok (.invokestatic 52, 3) := by decide +kernel
theorem dX4_joined_89 : decode cX4_joined 89 = .ok (.lreturn, 1) := by decide +kernel
theorem dX4_joined_90 : decode cX4_joined 90 = .ok (.lload_n 1, 1) := by decide +kernel
theorem dX4_joined_91 : decode cX4_joined 91 = .ok (.lload_n 3, 1) := by decide +kernel
theorem dX4_joined_92 : decode cX4_joined 92 = .ok (.invokestatic 55, 3) := by decide +kernel
theorem dX4_joined_95 : decode cX4_joined 95 = .ok (.lreturn, 1) := by decide +kernel
theorem dX4_joined_96 : decode cX4_joined 96 = .ok (.lload_n 1, 1) := by decide +kernel
theorem dX4_joined_97 : decode cX4_joined 97 = .ok (.lload_n 3, 1) := by decide +kernel
theorem dX4_joined_98 : decode cX4_joined 98 = .ok (.lcmp, 1) := by decide +kernel
theorem dX4_joined_99 : decode cX4_joined 99 = .ok (.ifCond .ge 7, 3) := by decide +kernel
theorem dX4_joined_102 : decode cX4_joined 102 = .ok (.lconst 1, 1) := by decide +kernel
theorem dX4_joined_103 : decode cX4_joined 103 = .ok (.goto 4, 3) := by decide +kernel
theorem dX4_joined_106 : decode cX4_joined 106 = .ok (.lconst 0, 1) := by decide +kernel
theorem dX4_joined_107 : decode cX4_joined 107 = .ok (.lreturn, 1) := by decide +kernel
theorem dX4_joined_108 : decode cX4_joined 108 = .ok (.lload_n 1, 1) := by decide +kernel
theorem dX4_joined_109 : decode cX4_joined 109 = .ok (.lload_n 3, 1) := by decide +kernel
theorem dX4_joined_110 : decode cX4_joined 110 = .ok (.lcmp, 1) := by decide +kernel
theorem dX4_joined_111 : decode cX4_joined 111 = .ok (.ifCond .le 7, 3) := by decide +kernel
theorem dX4_joined_114 : decode cX4_joined 114 = .ok (.lconst 1, 1) := by decide +kernel
theorem dX4_joined_115 : decode cX4_joined 115 = .ok (.goto 4, 3) := by decide +kernel
theorem dX4_joined_118 : decode cX4_joined 118 = .ok (.lconst 0, 1) := by decide +kernel
theorem dX4_joined_119 : decode cX4_joined 119 = .ok (.lreturn, 1) := by decide +kernel
theorem dX4_joined_120 : decode cX4_joined 120 = .ok (.lload_n 1, 1) := by decide +kernel
theorem dX4_joined_121 : decode cX4_joined 121 = .ok (.lload_n 3, 1) := by decide +kernel
theorem dX4_joined_122 : decode cX4_joined 122 = .ok (.lcmp, 1) := by decide +kernel
theorem dX4_joined_123 : decode cX4_joined 123 = .ok (.ifCond .ne 7, 3) := by decide +kernel
theorem dX4_joined_126 : decode cX4_joined 126 = .ok (.lconst 1, 1) := by decide +kernel
theorem dX4_joined_127 : decode cX4_joined 127 = .ok (.goto 4, 3) := by decide +kernel
theorem dX4_joined_130 : decode cX4_joined 130 = .ok (.lconst 0, 1) := by decide +kernel
theorem dX4_joined_131 : decode cX4_joined 131 = .ok (.lreturn, 1) := by decide +kernel
theorem dX4_joined_132 : decode cX4_joined 132 = .ok (.lload_n 1, 1) := by decide +kernel
theorem dX4_joined_133 : decode cX4_joined 133 = .ok (.lload_n 3, 1) := by decide +kernel
theorem dX4_joined_134 : decode cX4_joined 134 = .ok (.land, 1) := by decide +kernel
theorem dX4_joined_135 : decode cX4_joined 135 = .ok (.lreturn, 1) := by decide +kernel
theorem dX4_joined_136 : decode cX4_joined 136 = .ok (.lload_n 1, 1) := by decide +kernel
theorem dX4_joined_137 : decode cX4_joined 137 = .ok (.lload_n 3, 1) := by decide +kernel
theorem dX4_joined_138 : decode cX4_joined 138 = .ok (.lor, 1) := by decide +kernel
theorem dX4_joined_139 : decode cX4_joined 139 = .ok (.lreturn, 1) := by decide +kernel
theorem dX4_bounded_0 : decode cX4_bounded 0 = .ok (.ldc2_w 58, 3) := by decide +kernel
theorem dX4_bounded_3 : decode cX4_bounded 3 = .ok (.ldc2_w 60, 3) := by decide +kernel
theorem dX4_bounded_6 : decode cX4_bounded 6 = .ok (.lload_n 0, 1) := by decide +kernel
theorem dX4_bounded_7 : decode cX4_bounded 7 = .ok (.invokestatic 52, 3) := by decide +kernel
theorem dX4_bounded_10 : decode cX4_bounded 10 = .ok (.invokestatic 55, 3) := by decide +kernel
theorem dX4_bounded_13 : decode cX4_bounded 13 = .ok (.l2i, 1) := by decide +kernel
theorem dX4_bounded_14 : decode cX4_bounded 14 = .ok (.ireturn, 1) := by decide +kernel
theorem dX5_init_0 : decode cX5_init 0 = .ok (.aload_n 0, 1) := by decide +kernel
theorem dX5_init_1 : decode cX5_init 1 = .ok (.invokespecial 3, 3) := by decide +kernel
theorem dX5_init_4 : decode cX5_init 4 = .ok (.aload_n 0, 1) := by decide +kernel
theorem dX5_init_5 : decode cX5_init 5 = .ok (.bipush 20, 2) := by decide +kernel
theorem dX5_init_7 : decode cX5_init 7 = .ok (.anewarray 9, 3) := by decide +kernel
theorem dX5_init_10 : decode cX5_init 10 = .ok (.putfield 11, 3) := by decide +kernel
theorem dX5_init_13 : decode cX5_init 13 = .ok (.iconst 0, 1) := by decide +kernel
theorem dX5_init_14 : decode cX5_init 14 = .ok (.istore_n 1, 1) := by decide +kernel
theorem dX5_init_15 : decode cX5_init 15 = .ok (.iload_n 1, 1) := by decide +kernel
theorem dX5_init_16 : decode cX5_init 16 = .ok (.bipush 20, 2) := by decide +kernel
theorem dX5_init_18 : decode cX5_init 18 = .ok (.if_icmp .ge 22, 3) := by decide +kernel
theorem dX5_init_21 : decode cX5_init 21 = .ok (.aload_n 0, 1) := by decide +kernel
theorem dX5_init_22 : decode cX5_init 22 = .ok (.getfield 11, 3) := by decide +kernel
theorem dX5_init_25 : decode cX5_init 25 = .ok (.iload_n 1, 1) := by decide +kernel
theorem dX5_init_26 : decode cX5_init 26 = .ok (.new 9, 3) := by decide +kernel
theorem dX5_init_29 : decode cX5_init 29 = .ok (.dup, 1) := by decide +kernel
theorem dX5_init_30 : decode cX5_init 30 = .ok (.invokespecial 17, 3) := by decide +kernel
theorem dX5_init_33 : decode cX5_init 33 = .ok (.aastore, 1) := by decide +kernel
theorem dX5_init_34 : decode cX5_init 34 = .ok (.iinc 1 1, 3) := by decide +kernel
theorem dX5_init_37 : decode cX5_init 37 = .ok (.goto (-22), 3) := by decide +kernel
theorem dX5_init_40 : decode cX5_init 40 = .ok (.return_, 1) := by decide +kernel
theorem dX5_keep_0 : decode cX5_keep 0 = .ok (.aload_n 0, 1) := by decide +kernel
theorem dX5_keep_1 : decode cX5_keep 1 = .ok (.aload_n 0, 1) := by decide +kernel
theorem dX5_keep_2 : decode cX5_keep 2 = .ok (.getfield 18, 3) := by decide +kernel
theorem dX5_keep_5 : decode cX5_keep 5 = .ok (.iconst 1, 1) := by decide +kernel
theorem dX5_keep_6 : decode cX5_keep 6 = .ok (.iadd, 1) := by decide +kernel
theorem dX5_keep_7 : decode cX5_keep 7 = .ok (.bipush 20, 2) := by decide +kernel
theorem dX5_keep_9 : decode cX5_keep 9 = .ok (.irem, 1) := by decide +kernel
theorem dX5_keep_10 : decode cX5_keep 10 = .ok (.putfield 18, 3) := by decide +kernel
theorem dX5_keep_13 : decode cX5_keep 13 = .ok (.aload_n 0, 1) := by decide +kernel
theorem dX5_keep_14 : decode cX5_keep 14 = .ok (.getfield 11, 3) := by decide +kernel
theorem dX5_keep_17 : decode cX5_keep 17 = .ok (.aload_n 0, 1) := by decide +kernel
theorem dX5_keep_18 : decode cX5_keep 18 = .ok (.getfield 18, 3) := by decide +kernel
theorem dX5_keep_21 : decode cX5_keep 21 = .ok (.aaload, 1) := by decide +kernel
theorem dX5_keep_22 : decode cX5_keep 22 = .ok (.aload_n 1, 1) := by decide +kernel
theorem dX5_keep_23 : decode cX5_keep 23 = .ok (.invokevirtual 22, 3) := by decide +kernel
theorem dX5_keep_26 : decode cX5_keep 26 = .ok (.aload_n 0, 1) := by decide +kernel
theorem dX5_keep_27 : decode cX5_keep 27 = .ok (.bipush 20, 2) := by decide +kernel
theorem dX5_keep_29 : decode cX5_keep 29 = .ok (.aload_n 0, 1) := by decide +kernel
theorem dX5_keep_30 : decode cX5_keep 30 = .ok (.getfield 26, 3) := by decide +kernel
theorem dX5_keep_33 : decode cX5_keep 33 = .ok (.iconst 1, 1) := by decide +kernel
theorem dX5_keep_34 : decode cX5_keep 34 = .ok (.iadd, 1) := by decide +kernel
theorem dX5_keep_35 : decode cX5_keep 35 = .ok (.invokestatic 29, 3) := by decide +kernel
theorem dX5_keep_38 : decode cX5_keep 38 = .ok (.putfield 26, 3) := by decide +kernel
theorem dX5_keep_41 : decode cX5_keep 41 = .ok (.return_, 1) := by decide +kernel
theorem dX5_giveBack_0 : decode cX5_giveBack 0 = .ok (.aload_n 1, 1) := by decide +kernel
theorem dX5_giveBack_1 : decode cX5_giveBack 1 = .ok (.aload_n 0, 1) := by decide +kernel
theorem dX5_giveBack_2 : decode cX5_giveBack 2 = .ok (.getfield 11, 3) := by decide +kernel
theorem dX5_giveBack_5 : decode cX5_giveBack 5 = .ok (.aload_n 0, 1) := by decide +kernel
theorem dX5_giveBack_6 : decode cX5_giveBack 6 = .ok (.getfield 18, 3) := by decide +kernel
theorem dX5_giveBack_9 : decode cX5_giveBack 9 = .ok (.aaload, 1) := by decide +kernel
theorem dX5_giveBack_10 : decode cX5_giveBack 10 = .ok (.invokevirtual 22, 3) := by decide +kernel
theorem dX5_giveBack_13 : decode cX5_giveBack 13 = .ok (.aload_n 0, 1) := by decide +kernel
theorem dX5_giveBack_14 : decode cX5_giveBack 14 = .ok (.aload_n 0, 1) := by decide +kernel
theorem dX5_giveBack_15 : decode cX5_giveBack 15 = .ok (.getfield 18, 3) := by decide +kernel
theorem dX5_giveBack_18 : decode cX5_giveBack 18 = .ok (.bipush 20, 2) := by decide +kernel
theorem dX5_giveBack_20 : decode cX5_giveBack 20 = .ok (.iadd, 1) := by decide +kernel
theorem dX5_giveBack_21 : decode cX5_giveBack 21 = .ok (.iconst 1, 1) := by decide +kernel
theorem dX5_giveBack_22 : decode cX5_giveBack 22 = .ok (.isub, 1) := by decide +kernel
theorem dX5_giveBack_23 : decode cX5_giveBack 23 = .ok (.bipush 20, 2) := by decide +kernel
theorem dX5_giveBack_25 : decode cX5_giveBack 25 = .ok (.irem, 1) := by decide +kernel
theorem dX5_giveBack_26 : decode cX5_giveBack 26 = .ok (.putfield 18, 3) := by decide +kernel
theorem dX5_giveBack_29 : decode cX5_giveBack 29 = .ok (.aload_n 0, 1) := by decide +kernel
theorem dX5_giveBack_30 : decode cX5_giveBack 30 = .ok (.dup, 1) := by decide +kernel
theorem dX5_giveBack_31 : decode cX5_giveBack 31 = .ok (.getfield 26, 3) := by decide +kernel
theorem dX5_giveBack_34 : decode cX5_giveBack 34 = .ok (.iconst 1, 1) := by decide +kernel
theorem dX5_giveBack_35 : decode cX5_giveBack 35 = .ok (.isub, 1) := by decide +kernel
theorem dX5_giveBack_36 : decode cX5_giveBack 36 = .ok (.putfield 26, 3) := by decide +kernel
theorem dX5_giveBack_39 : decode cX5_giveBack 39 = .ok (.return_, 1) := by decide +kernel
theorem dX6_init_0 : decode cX6_init 0 = .ok (.aload_n 0, 1) := by decide +kernel
theorem dX6_init_1 : decode cX6_init 1 = .ok (.invokespecial 3, 3) := by decide +kernel
theorem dX6_init_4 : decode cX6_init 4 = .ok (.aload_n 0, 1) := by decide +kernel
theorem dX6_init_5 : decode cX6_init 5 = .ok (.aload_n 1, 1) := by decide +kernel
theorem dX6_init_6 : decode cX6_init 6 = .ok (.putfield 9, 3) := by decide +kernel
theorem dX6_init_9 : decode cX6_init 9 = .ok (.aload_n 0, 1) := by decide +kernel
theorem dX6_init_10 : decode cX6_init 10 = .ok (.sipush 1600, 3) := by decide +kernel
theorem dX6_init_13 : decode cX6_init 13 = .ok (.newarray .int, 2) := by decide +kernel
theorem dX6_init_15 : decode cX6_init 15 = .ok (.putfield 15, 3) := by decide +kernel
theorem dX6_init_18 : decode cX6_init 18 = .ok (.return_, 1) := by decide +kernel
theorem dX6_readSum_0 : decode cX6_readSum 0 = .ok (.aload_n 0, 1) := by decide +kernel
theorem dX6_readSum_1 : decode cX6_readSum 1 = .ok (.iload_n 1, 1) := by decide +kernel
theorem dX6_readSum_2 : decode cX6_readSum 2 = .ok (.invokevirtual 19, 3) := by decide +kernel
theorem dX6_readSum_5 : decode cX6_readSum 5 = .ok (.aload_n 0, 1) := by decide +kernel
theorem dX6_readSum_6 : decode cX6_readSum 6 = .ok (.iconst 0, 1) := by decide +kernel
theorem dX6_readSum_7 : decode cX6_readSum 7 = .ok (.invokevirtual 23, 3) := by decide +kernel
theorem dX6_readSum_10 : decode cX6_readSum 10 = .ok (.aload_n 0, 1) := by decide +kernel
theorem dX6_readSum_11 : decode cX6_readSum 11 = .ok (.invokevirtual 26, 3) := by decide +kernel
theorem dX6_readSum_14 : decode cX6_readSum 14 = .ok (.areturn, 1) := by decide +kernel
theorem dX6_readTest_0 : decode cX6_readTest 0 = .ok (.aload_n 0, 1) := by decide +kernel
theorem dX6_readTest_1 : decode cX6_readTest 1 = .ok (.iload_n 1, 1) := by decide +kernel
theorem dX6_readTest_2 : decode cX6_readTest 2 = .ok (.invokevirtual 19, 3) := by decide +kernel
theorem dX6_readTest_5 : decode cX6_readTest 5 = .ok (.aload_n 0, 1) := by decide +kernel
theorem dX6_readTest_6 : decode cX6_readTest 6 = .ok (.iconst 0, 1) := by decide +kernel
theorem dX6_readTest_7 : decode cX6_readTest 7 = .ok (.invokevirtual 30, 3) := by decide +kernel
theorem dX6_readTest_10 : decode cX6_readTest 10 = .ok (.aload_n 0, 1) := by decide +kernel
theorem dX6_readTest_11 : decode cX6_readTest 11 = .ok (.invokevirtual 26, 3) := by decide +kernel
theorem dX6_readTest_14 : decode cX6_readTest 14 = .ok (.areturn, 1) := by decide +kernel
theorem dX6_start_0 : decode cX6_start 0 = .ok (.aload_n 0, 1) := by decide +kernel
theorem dX6_start_1 : decode cX6_start 1 = .ok (.iconst 0, 1) := by decide +kernel
theorem dX6_start_2 : decode cX6_start 2 = .ok (.putfield 33, 3) := by decide +kernel
theorem dX6_start_5 : decode cX6_start 5 = .ok (.aload_n 0, 1) := by decide +kernel
theorem dX6_start_6 : decode cX6_start 6 = .ok (.iload_n 1, 1) := by decide +kernel
theorem dX6_start_7 : decode cX6_start 7 = .ok (.putfield 37, 3) := by decide +kernel
theorem dX6_start_10 : decode cX6_start 10 = .ok (.aload_n 0, 1) := by decide +kernel
theorem dX6_start_11 : decode cX6_start 11 = .ok (.iconst 0, 1) := by decide +kernel
theorem dX6_start_12 : decode cX6_start 12 = .ok (.putfield 40, 3) := by decide +kernel
theorem dX6_start_15 : decode cX6_start 15 = .ok (.return_, 1) := by decide +kernel
theorem dX6_written_0 : decode cX6_written 0 = .ok (.aload_n 0, 1) := by decide +kernel
theorem dX6_written_1 : decode cX6_written 1 = .ok (.getfield 33, 3) := by decide +kernel
theorem dX6_written_4 : decode cX6_written 4 = .ok (.newarray .int, 2) := by decide +kernel
theorem dX6_written_6 : decode cX6_written 6 = .ok (.astore_n 1, 1) := by decide +kernel
theorem dX6_written_7 : decode cX6_written 7 = .ok (.aload_n 0, 1) := by decide +kernel
theorem dX6_written_8 : decode cX6_written 8 = .ok (.getfield 15, 3) := by decide +kernel
theorem dX6_written_11 : decode cX6_written 11 = .ok (.iconst 0, 1) := by decide +kernel
theorem dX6_written_12 : decode cX6_written 12 = .ok (.aload_n 1, 1) := by decide +kernel
theorem dX6_written_13 : decode cX6_written 13 = .ok (.iconst 0, 1) := by decide +kernel
theorem dX6_written_14 : decode cX6_written 14 = .ok (.aload_n 0, 1) := by decide +kernel
theorem dX6_written_15 : decode cX6_written 15 = .ok (.getfield 33, 3) := by decide +kernel
theorem dX6_written_18 : decode cX6_written 18 = .ok (.invokestatic 44, 3) := by decide +kernel
theorem dX6_written_21 : decode cX6_written 21 = .ok (.new 50, 3) := by decide +kernel
theorem dX6_written_24 : decode cX6_written 24 = .ok (.dup, 1) := by decide +kernel
theorem dX6_written_25 : decode cX6_written 25 = .ok (.aload_n 1, 1) := by decide +kernel
theorem dX6_written_26 : decode cX6_written 26 = .ok (.aload_n 0, 1) := by decide +kernel
theorem dX6_written_27 : decode cX6_written 27 = .ok (.getfield 40, 3) := by decide +kernel
theorem dX6_written_30 : decode cX6_written 30 = .ok (.invokespecial 52, 3) := by decide +kernel
theorem dX6_written_33 : decode cX6_written 33 = .ok (.areturn, 1) := by decide +kernel
theorem dX6_put_0 : decode cX6_put 0 = .ok (.aload_n 0, 1) := by decide +kernel
theorem dX6_put_1 : decode cX6_put 1 = .ok (.getfield 33, 3) := by decide +kernel
theorem dX6_put_4 : decode cX6_put 4 = .ok (.aload_n 0, 1) := by decide +kernel
theorem dX6_put_5 : decode cX6_put 5 = .ok (.getfield 15, 3) := by decide +kernel
theorem dX6_put_8 : decode cX6_put 8 = .ok (.arraylength, 1) := by decide +kernel
theorem dX6_put_9 : decode cX6_put 9 = .ok (.if_icmp .ge 27, 3) := by decide +kernel
theorem dX6_put_12 : decode cX6_put 12 = .ok (.aload_n 0, 1) := by decide +kernel
theorem dX6_put_13 : decode cX6_put 13 = .ok (.getfield 15, 3) := by decide +kernel
theorem dX6_put_16 : decode cX6_put 16 = .ok (.aload_n 0, 1) := by decide +kernel
theorem dX6_put_17 : decode cX6_put 17 = .ok (.getfield 33, 3) := by decide +kernel
theorem dX6_put_20 : decode cX6_put 20 = .ok (.iload_n 1, 1) := by decide +kernel
theorem dX6_put_21 : decode cX6_put 21 = .ok (.iload_n 2, 1) := by decide +kernel
theorem dX6_put_22 : decode cX6_put 22 = .ok (.iconst 4, 1) := by decide +kernel
theorem dX6_put_23 : decode cX6_put 23 = .ok (.ishl, 1) := by decide +kernel
theorem dX6_put_24 : decode cX6_put 24 = .ok (.ior, 1) := by decide +kernel
theorem dX6_put_25 : decode cX6_put 25 = .ok (.iastore, 1) := by decide +kernel
theorem dX6_put_26 : decode cX6_put 26 = .ok (.aload_n 0, 1) := by decide +kernel
theorem dX6_put_27 : decode cX6_put 27 = .ok (.dup, 1) := by decide +kernel
theorem dX6_put_28 : decode cX6_put 28 = .ok (.getfield 33, 3) := by decide +kernel
theorem dX6_put_31 : decode cX6_put 31 = .ok (.iconst 1, 1) := by decide +kernel
theorem dX6_put_32 : decode cX6_put 32 = .ok (.iadd, 1) := by decide +kernel
theorem dX6_put_33 : decode cX6_put 33 = .ok (.putfield 33, 3) := by decide +kernel
theorem dX6_put_36 : decode cX6_put 36 = .ok (.return_, 1) := by decide +kernel
theorem dX6_test_0 : decode cX6_test 0 = .ok (.aload_n 0, 1) := by decide +kernel
theorem dX6_test_1 : decode cX6_test 1 = .ok (.iload_n 1, 1) := by decide +kernel
theorem dX6_test_2 : decode cX6_test 2 = .ok (.invokevirtual 55, 3) := by decide +kernel
theorem dX6_test_5 : decode cX6_test 5 = .ok (.iconst 0, 1) := by decide +kernel
theorem dX6_test_6 : decode cX6_test 6 = .ok (.istore_n 2, 1) := by decide +kernel
theorem dX6_test_7 : decode cX6_test 7 = .ok (.iload_n 2, 1) := by decide +kernel
theorem dX6_test_8 : decode cX6_test 8 = .ok (.sipush 1600, 3) := by decide +kernel
theorem dX6_test_11 : decode cX6_test 11 = .ok (.if_icmp .ge 40, 3) := by decide +kernel
theorem dX6_test_14 : decode cX6_test 14 = .ok (.aload_n 0, 1) := by decide +kernel
theorem dX6_test_15 : decode cX6_test 15 = .ok (.getfield 9, 3) := by decide +kernel
theorem dX6_test_18 : decode cX6_test 18 = .ok (.bipush 27, 2) := by decide +kernel
theorem dX6_test_20 : decode cX6_test 20 = .ok (.invokevirtual 58, 3) := by decide +kernel
theorem dX6_test_23 : decode cX6_test 23 = .ok (.ifCond .eq 28, 3) := by decide +kernel
theorem dX6_test_26 : decode cX6_test 26 = .ok (.aload_n 0, 1) := by decide +kernel
theorem dX6_test_27 : decode cX6_test 27 = .ok (.getfield 9, 3) := by decide +kernel
theorem dX6_test_30 : decode cX6_test 30 = .ok (.invokevirtual 64, 3) := by decide +kernel
theorem dX6_test_33 : decode cX6_test 33 = .ok (.aload_n 0, 1) := by decide +kernel
theorem dX6_test_34 : decode cX6_test 34 = .ok (.iload_n 1, 1) := by decide +kernel
theorem dX6_test_35 : decode cX6_test 35 = .ok (.invokevirtual 55, 3) := by decide +kernel
theorem dX6_test_38 : decode cX6_test 38 = .ok (.aload_n 0, 1) := by decide +kernel
theorem dX6_test_39 : decode cX6_test 39 = .ok (.bipush 12, 2) := by decide +kernel
theorem dX6_test_41 : decode cX6_test 41 = .ok (.iconst 0, 1) := by decide +kernel
theorem dX6_test_42 : decode cX6_test 42 = .ok (.invokevirtual 67, 3) := by decide +kernel
theorem dX6_test_45 : decode cX6_test 45 = .ok (.iinc 2 1, 3) := by decide +kernel
theorem dX6_test_48 : decode cX6_test 48 = .ok (.goto (-41), 3) := by decide +kernel
theorem dX6_test_51 : decode cX6_test 51 = .ok (.return_, 1) := by decide +kernel
theorem dX6_both_0 : decode cX6_both 0 = .ok (.aload_n 0, 1) := by decide +kernel
theorem dX6_both_1 : decode cX6_both 1 = .ok (.iload_n 1, 1) := by decide +kernel
theorem dX6_both_2 : decode cX6_both 2 = .ok (.invokevirtual 71, 3) := by decide +kernel
theorem dX6_both_5 : decode cX6_both 5 = .ok (.iconst 0, 1) := by decide +kernel
theorem dX6_both_6 : decode cX6_both 6 = .ok (.istore_n 2, 1) := by decide +kernel
theorem dX6_both_7 : decode cX6_both 7 = .ok (.iload_n 2, 1) := by decide +kernel
theorem dX6_both_8 : decode cX6_both 8 = .ok (.sipush 1600, 3) := by decide +kernel
theorem dX6_both_11 : decode cX6_both 11 = .ok (.if_icmp .ge 40, 3) := by decide +kernel
theorem dX6_both_14 : decode cX6_both 14 = .ok (.aload_n 0, 1) := by decide +kernel
theorem dX6_both_15 : decode cX6_both 15 = .ok (.getfield 9, 3) := by decide +kernel
theorem dX6_both_18 : decode cX6_both 18 = .ok (.bipush 28, 2) := by decide +kernel
theorem dX6_both_20 : decode cX6_both 20 = .ok (.invokevirtual 58, 3) := by decide +kernel
theorem dX6_both_23 : decode cX6_both 23 = .ok (.ifCond .eq 28, 3) := by decide +kernel
theorem dX6_both_26 : decode cX6_both 26 = .ok (.aload_n 0, 1) := by decide +kernel
theorem dX6_both_27 : decode cX6_both 27 = .ok (.getfield 9, 3) := by decide +kernel
theorem dX6_both_30 : decode cX6_both 30 = .ok (.invokevirtual 64, 3) := by decide +kernel
theorem dX6_both_33 : decode cX6_both 33 = .ok (.aload_n 0, 1) := by decide +kernel
theorem dX6_both_34 : decode cX6_both 34 = .ok (.iload_n 1, 1) := by decide +kernel
theorem dX6_both_35 : decode cX6_both 35 = .ok (.invokevirtual 71, 3) := by decide +kernel
theorem dX6_both_38 : decode cX6_both 38 = .ok (.aload_n 0, 1) := by decide +kernel
theorem dX6_both_39 : decode cX6_both 39 = .ok (.bipush 11, 2) := by decide +kernel
theorem dX6_both_41 : decode cX6_both 41 = .ok (.iconst 0, 1) := by decide +kernel
theorem dX6_both_42 : decode cX6_both 42 = .ok (.invokevirtual 67, 3) := by decide +kernel
theorem dX6_both_45 : decode cX6_both 45 = .ok (.iinc 2 1, 3) := by decide +kernel
theorem dX6_both_48 : decode cX6_both 48 = .ok (.goto (-41), 3) := by decide +kernel
theorem dX6_both_51 : decode cX6_both 51 = .ok (.return_, 1) := by decide +kernel
theorem dX6_fact_0 : decode cX6_fact 0 = .ok (.aload_n 0, 1) := by decide +kernel
theorem dX6_fact_1 : decode cX6_fact 1 = .ok (.getfield 9, 3) := by decide +kernel
theorem dX6_fact_4 : decode cX6_fact 4 = .ok (.bipush 29, 2) := by decide +kernel
theorem dX6_fact_6 : decode cX6_fact 6 = .ok (.invokevirtual 58, 3) := by decide +kernel
theorem dX6_fact_9 : decode cX6_fact 9 = .ok (.ifCond .eq 28, 3) := by decide +kernel
theorem dX6_fact_12 : decode cX6_fact 12 = .ok (.aload_n 0, 1) := by decide +kernel
theorem dX6_fact_13 : decode cX6_fact 13 = .ok (.iload_n 1, 1) := by decide +kernel
theorem dX6_fact_14 : decode cX6_fact 14 = .ok (.invokevirtual 74, 3) := by decide +kernel
theorem dX6_fact_17 : decode cX6_fact 17 = .ok (.ifCond .eq 130, 3) := by decide +kernel
theorem dX6_fact_20 : decode cX6_fact 20 = .ok (.aload_n 0, 1) := by decide +kernel
theorem dX6_fact_21 : decode cX6_fact 21 = .ok (.iload_n 1, 1) := by decide +kernel
theorem dX6_fact_22 : decode cX6_fact 22 = .ok (.iconst 1, 1) := by decide +kernel
theorem dX6_fact_23 : decode cX6_fact 23 = .ok (.iadd, 1) := by decide +kernel
theorem dX6_fact_24 : decode cX6_fact 24 = .ok (.invokevirtual 71, 3) := by decide +kernel
theorem dX6_fact_27 : decode cX6_fact 27 = .ok (.aload_n 0, 1) := by decide +kernel
theorem dX6_fact_28 : decode cX6_fact 28 = .ok (.bipush 13, 2) := by decide +kernel
theorem dX6_fact_30 : decode cX6_fact 30 = .ok (.iconst 0, 1) := by decide +kernel
theorem dX6_fact_31 : decode cX6_fact 31 = .ok (.invokevirtual 67, 3) := by decide +kernel
theorem dX6_fact_34 : decode cX6_fact 34 = .ok (.goto 113, 3) := by decide +kernel
theorem dX6_fact_37 : decode cX6_fact 37 = .ok (.aload_n 0, 1) := by decide +kernel
theorem dX6_fact_38 : decode cX6_fact 38 = .ok (.getfield 9, 3) := by decide +kernel
theorem dX6_fact_41 : decode cX6_fact 41 = .ok (.bipush 91, 2) := by decide +kernel
theorem dX6_fact_43 : decode cX6_fact 43 = .ok (.invokevirtual 77, 3) := by decide +kernel
theorem dX6_fact_46 : decode cX6_fact 46 = .ok (.ifCond .eq 30, 3) := by decide +kernel
theorem dX6_fact_49 : decode cX6_fact 49 = .ok (.aload_n 0, 1) := by decide +kernel
theorem dX6_fact_50 : decode cX6_fact 50 = .ok (.iload_n 1, 1) := by decide +kernel
theorem dX6_fact_51 : decode cX6_fact 51 = .ok (.invokevirtual 74, 3) := by decide +kernel
theorem dX6_fact_54 : decode cX6_fact 54 = .ok (.ifCond .eq 93, 3) := by decide +kernel
theorem dX6_fact_57 : decode cX6_fact 57 = .ok (.aload_n 0, 1) := by decide +kernel
theorem dX6_fact_58 : decode cX6_fact 58 = .ok (.iload_n 1, 1) := by decide +kernel
theorem dX6_fact_59 : decode cX6_fact 59 = .ok (.iconst 1, 1) := by decide +kernel
theorem dX6_fact_60 : decode cX6_fact 60 = .ok (.iadd, 1) := by decide +kernel
theorem dX6_fact_61 : decode cX6_fact 61 = .ok (.invokevirtual 30, 3) := by decide +kernel
theorem dX6_fact_64 : decode cX6_fact 64 = .ok (.aload_n 0, 1) := by decide +kernel
theorem dX6_fact_65 : decode cX6_fact 65 = .ok (.getfield 9, 3) := by decide +kernel
theorem dX6_fact_68 : decode cX6_fact 68 = .ok (.bipush 93, 2) := by decide +kernel
theorem dX6_fact_70 : decode cX6_fact 70 = .ok (.invokevirtual 80, 3) := by decide +kernel
theorem dX6_fact_73 : decode cX6_fact 73 = .ok (.goto 74, 3) := by decide +kernel
theorem dX6_fact_76 : decode cX6_fact 76 = .ok (.aload_n 0, 1) := by decide +kernel
theorem dX6_fact_77 : decode cX6_fact 77 = .ok (.getfield 9, 3) := by decide +kernel
theorem dX6_fact_80 : decode cX6_fact 80 = .ok (.bipush 30, 2) := by decide +kernel
theorem dX6_fact_82 : decode cX6_fact 82 = .ok (.invokevirtual 58, 3) := by decide +kernel
theorem dX6_fact_85 : decode cX6_fact 85 = .ok (.ifCond .eq 19, 3) := by decide +kernel
theorem dX6_fact_88 : decode cX6_fact 88 = .ok (.aload_n 0, 1) := by decide +kernel
theorem dX6_fact_89 : decode cX6_fact 89 = .ok (.getfield 9, 3) := by decide +kernel
theorem dX6_fact_92 : decode cX6_fact 92 = .ok (.invokevirtual 64, 3) := by decide +kernel
theorem dX6_fact_95 : decode cX6_fact 95 = .ok (.aload_n 0, 1) := by decide +kernel
theorem dX6_fact_96 : decode cX6_fact 96 = .ok (.iconst 0, 1) := by decide +kernel
theorem dX6_fact_97 : decode cX6_fact 97 = .ok (.iconst 1, 1) := by decide +kernel
theorem dX6_fact_98 : decode cX6_fact 98 = .ok (.invokevirtual 67, 3) := by decide +kernel
theorem dX6_fact_101 : decode cX6_fact 101 = .ok (.goto 46, 3) := by decide +kernel
theorem dX6_fact_104 : decode cX6_fact 104 = .ok (.aload_n 0, 1) := by decide +kernel
theorem dX6_fact_105 : decode cX6_fact 105 = .ok (.iload_n 1, 1) := by decide +kernel
theorem dX6_fact_106 : decode cX6_fact 106 = .ok (.invokevirtual 23, 3) := by decide +kernel
theorem dX6_fact_109 : decode cX6_fact 109 = .ok (.aload_n 0, 1) := by decide +kernel
theorem dX6_fact_110 : decode cX6_fact 110 = .ok (.invokevirtual 83, 3) := by decide +kernel
theorem dX6_fact_113 : decode cX6_fact 113 = .ok (.istore_n 2, 1) := by decide +kernel
theorem dX6_fact_114 : decode cX6_fact 114 = .ok (.iload_n 2, 1) := by decide +kernel
theorem dX6_fact_115 : decode cX6_fact 115 = .ok (.iconst (-1), 1) := by decide +kernel
theorem dX6_fact_116 : decode cX6_fact 116 = .ok (.if_icmp .ne 13, 3) := by decide +kernel
theorem dX6_fact_119 : decode cX6_fact 119 = .ok (.aload_n 0, 1) := by decide +kernel
theorem dX6_fact_120 : decode cX6_fact 120 = .ok (.getfield 9, 3) := by decide +kernel
theorem dX6_fact_123 : decode cX6_fact 123 = .ok (.invokevirtual 87, 3) := by decide +kernel
theorem dX6_fact_126 : decode cX6_fact 126 = .ok (.goto 21, 3) := by decide +kernel
theorem dX6_fact_129 : decode cX6_fact 129 = .ok (.aload_n 0, 1) := by decide +kernel
theorem dX6_fact_130 : decode cX6_fact 130 = .ok (.getfield 9, 3) := by decide +kernel
theorem dX6_fact_133 : decode cX6_fact 133 = .ok (.invokevirtual 64, 3) := by decide +kernel
theorem dX6_fact_136 : decode cX6_fact 136 = .ok (.aload_n 0, 1) := by decide +kernel
theorem dX6_fact_137 : decode cX6_fact 137 = .ok (.iload_n 1, 1) := by decide +kernel
theorem dX6_fact_138 : decode cX6_fact 138 = .ok (.invokevirtual 23, 3) := by decide +kernel
theorem dX6_fact_141 : decode cX6_fact 141 = .ok (.aload_n 0, 1) := by decide +kernel
theorem dX6_fact_142 : decode cX6_fact 142 = .ok (.iload_n 2, 1) := by decide +kernel
theorem dX6_fact_143 : decode cX6_fact 143 = .ok (.iconst 0, 1) := by decide +kernel
theorem dX6_fact_144 : decode cX6_fact 144 = .ok (.invokevirtual 67, 3) := by decide +kernel
theorem dX6_fact_147 : decode cX6_fact 147 = .ok (.return_, 1) := by decide +kernel
theorem dX6_sum_0 : decode cX6_sum 0 = .ok (.aload_n 0, 1) := by decide +kernel
theorem dX6_sum_1 : decode cX6_sum 1 = .ok (.iload_n 1, 1) := by decide +kernel
theorem dX6_sum_2 : decode cX6_sum 2 = .ok (.invokevirtual 90, 3) := by decide +kernel
theorem dX6_sum_5 : decode cX6_sum 5 = .ok (.iconst 0, 1) := by decide +kernel
theorem dX6_sum_6 : decode cX6_sum 6 = .ok (.istore_n 2, 1) := by decide +kernel
theorem dX6_sum_7 : decode cX6_sum 7 = .ok (.iload_n 2, 1) := by decide +kernel
theorem dX6_sum_8 : decode cX6_sum 8 = .ok (.sipush 1600, 3) := by decide +kernel
theorem dX6_sum_11 : decode cX6_sum 11 = .ok (.if_icmp .ge 69, 3) := by decide +kernel
theorem dX6_sum_14 : decode cX6_sum 14 = .ok (.aload_n 0, 1) := by decide +kernel
theorem dX6_sum_15 : decode cX6_sum 15 = .ok (.getfield 9, 3) := by decide +kernel
theorem dX6_sum_18 : decode cX6_sum 18 = .ok (.bipush 43, 2) := by decide +kernel
theorem dX6_sum_20 : decode cX6_sum 20 = .ok (.invokevirtual 77, 3) := by decide +kernel
theorem dX6_sum_23 : decode cX6_sum 23 = .ok (.ifCond .ne 15, 3) := by decide +kernel
theorem dX6_sum_26 : decode cX6_sum 26 = .ok (.aload_n 0, 1) := by decide +kernel
theorem dX6_sum_27 : decode cX6_sum 27 = .ok (.getfield 9, 3) := by decide +kernel
theorem dX6_sum_30 : decode cX6_sum 30 = .ok (.bipush 45, 2) := by decide +kernel
theorem dX6_sum_32 : decode cX6_sum 32 = .ok (.invokevirtual 77, 3) := by decide +kernel
theorem dX6_sum_35 : decode cX6_sum 35 = .ok (.ifCond .eq 45, 3) := by decide +kernel
theorem dX6_sum_38 : decode cX6_sum 38 = .ok (.aload_n 0, 1) := by decide +kernel
theorem dX6_sum_39 : decode cX6_sum 39 = .ok (.getfield 9, 3) := by decide +kernel
theorem dX6_sum_42 : decode cX6_sum 42 = .ok (.bipush 43, 2) := by decide +kernel
theorem dX6_sum_44 : decode cX6_sum 44 = .ok (.invokevirtual 77, 3) := by decide +kernel
theorem dX6_sum_47 : decode cX6_sum 47 = .ok (.ifCond .eq 7, 3) := by decide +kernel
theorem dX6_sum_50 : decode cX6_sum 50 = .ok (.iconst 2, 1) := by decide +kernel
theorem dX6_sum_51 : decode cX6_sum 51 = .ok (.goto 4, 3) := by decide +kernel
theorem dX6_sum_54 : decode cX6_sum 54 = .ok (.iconst 3, 1) := by decide +kernel
theorem dX6_sum_55 : decode cX6_sum 55 = .ok (.istore_n 3, 1) := by decide +kernel
theorem dX6_sum_56 : decode cX6_sum 56 = .ok (.aload_n 0, 1) := by decide +kernel
theorem dX6_sum_57 : decode cX6_sum 57 = .ok (.getfield 9, 3) := by decide +kernel
theorem dX6_sum_60 : decode cX6_sum 60 = .ok (.invokevirtual 64, 3) := by decide +kernel
theorem dX6_sum_63 : decode cX6_sum 63 = .ok (.aload_n 0, 1) := by decide +kernel
theorem dX6_sum_64 : decode cX6_sum 64 = .ok (.iload_n 1, 1) := by decide +kernel
theorem dX6_sum_65 : decode cX6_sum 65 = .ok (.invokevirtual 90, 3) := by decide +kernel
theorem dX6_sum_68 : decode cX6_sum 68 = .ok (.aload_n 0, 1) := by decide +kernel
theorem dX6_sum_69 : decode cX6_sum 69 = .ok (.iload_n 3, 1) := by decide +kernel
theorem dX6_sum_70 : decode cX6_sum 70 = .ok (.iconst 0, 1) := by decide +kernel
theorem dX6_sum_71 : decode cX6_sum 71 = .ok (.invokevirtual 67, 3) := by decide +kernel
theorem dX6_sum_74 : decode cX6_sum 74 = .ok (.iinc 2 1, 3) := by decide +kernel
theorem dX6_sum_77 : decode cX6_sum 77 = .ok (.goto (-70), 3) := by decide +kernel
theorem dX6_sum_80 : decode cX6_sum 80 = .ok (.return_, 1) := by decide +kernel
theorem dX6_product_0 : decode cX6_product 0 = .ok (.aload_n 0, 1) := by decide +kernel
theorem dX6_product_1 : decode cX6_product 1 = .ok (.iload_n 1, 1) := by decide +kernel
theorem dX6_product_2 : decode cX6_product 2 = .ok (.invokevirtual 93, 3) := by decide +kernel
theorem dX6_product_5 : decode cX6_product 5 = .ok (.iconst 0, 1) := by decide +kernel
theorem dX6_product_6 : decode cX6_product 6 = .ok (.istore_n 2, 1) := by decide +kernel
theorem dX6_product_7 : decode cX6_product 7 = .ok (.iload_n 2, 1) := by decide +kernel
theorem dX6_product_8 : decode cX6_product 8 = .ok (.sipush 1600, 3) := by decide +kernel
theorem dX6_product_11 : decode cX6_product 11 = .ok (.if_icmp .ge 69, 3) := by decide +kernel
theorem dX6_product_14 : decode cX6_product 14 = .ok (.aload_n 0, 1) := by decide +kernel
theorem dX6_product_15 : decode cX6_product 15 = .ok (.getfield 9, 3) := by decide +kernel
theorem dX6_product_18 : decode cX6_product 18 = .ok (.bipush 42, 2) := by decide +kernel
theorem dX6_product_20 : decode cX6_product 20 = .ok (.invokevirtual 77, 3) := by decide +kernel
theorem dX6_product_23 : decode cX6_product 23 = .ok (.ifCond .ne 15, 3) := by decide +kernel
theorem dX6_product_26 : decode cX6_product 26 = .ok (.aload_n 0, 1) := by decide +kernel
theorem dX6_product_27 : decode cX6_product 27 = .ok (.getfield 9, 3) := by decide +kernel
theorem dX6_product_30 : decode cX6_product 30 = .ok (.bipush 47, 2) := by decide +kernel
theorem dX6_product_32 : decode cX6_product 32 = .ok (.invokevirtual 77, 3) := by decide +kernel
theorem dX6_product_35 : decode cX6_product 35 = .ok (.ifCond .eq 45, 3) := by decide +kernel
theorem dX6_product_38 : decode cX6_product 38 = .ok (.aload_n 0, 1) := by decide +kernel
theorem dX6_product_39 : decode cX6_product 39 = .ok (.getfield 9, 3) := by decide +kernel
theorem dX6_product_42 : decode cX6_product 42 = .ok (.bipush 42, 2) := by decide +kernel
theorem dX6_product_44 : decode cX6_product 44 = .ok (.invokevirtual 77, 3) := by decide +kernel
theorem dX6_product_47 : decode cX6_product 47 = .ok (.ifCond .eq 7, 3) := by decide +kernel
theorem dX6_product_50 : decode cX6_product 50 = .ok (.iconst 4, 1) := by decide +kernel
theorem dX6_product_51 : decode cX6_product 51 = .ok (.goto 4, 3) := by decide +kernel
theorem dX6_product_54 : decode cX6_product 54 = .ok (.iconst 5, 1) := by decide +kernel
theorem dX6_product_55 : decode cX6_product 55 = .ok (.istore_n 3, 1) := by decide +kernel
theorem dX6_product_56 : decode cX6_product 56 = .ok (.aload_n 0, 1) := by decide +kernel
theorem dX6_product_57 : decode cX6_product 57 = .ok (.getfield 9, 3) := by decide +kernel
theorem dX6_product_60 : decode cX6_product 60 = .ok (.invokevirtual 64, 3) := by decide +kernel
theorem dX6_product_63 : decode cX6_product 63 = .ok (.aload_n 0, 1) := by decide +kernel
theorem dX6_product_64 : decode cX6_product 64 = .ok (.iload_n 1, 1) := by decide +kernel
theorem dX6_product_65 : decode cX6_product 65 = .ok (.invokevirtual 93, 3) := by decide +kernel
theorem dX6_product_68 : decode cX6_product 68 = .ok (.aload_n 0, 1) := by decide +kernel
theorem dX6_product_69 : decode cX6_product 69 = .ok (.iload_n 3, 1) := by decide +kernel
theorem dX6_product_70 : decode cX6_product 70 = .ok (.iconst 0, 1) := by decide +kernel
theorem dX6_product_71 : decode cX6_product 71 = .ok (.invokevirtual 67, 3) := by decide +kernel
theorem dX6_product_74 : decode cX6_product 74 = .ok (.iinc 2 1, 3) := by decide +kernel
theorem dX6_product_77 : decode cX6_product 77 = .ok (.goto (-70), 3) := by decide +kernel
theorem dX6_product_80 : decode cX6_product 80 = .ok (.return_, 1) := by decide +kernel
theorem dX6_part_0 : decode cX6_part 0 = .ok (.aload_n 0, 1) := by decide +kernel
theorem dX6_part_1 : decode cX6_part 1 = .ok (.getfield 9, 3) := by decide +kernel
theorem dX6_part_4 : decode cX6_part 4 = .ok (.invokevirtual 96, 3) := by decide +kernel
theorem dX6_part_7 : decode cX6_part 7 = .ok (.istore_n 2, 1) := by decide +kernel
theorem dX6_part_8 : decode cX6_part 8 = .ok (.aload_n 0, 1) := by decide +kernel
theorem dX6_part_9 : decode cX6_part 9 = .ok (.getfield 9, 3) := by decide +kernel
theorem dX6_part_12 : decode cX6_part 12 = .ok (.invokevirtual 99, 3) := by decide +kernel
theorem dX6_part_15 : decode cX6_part 15 = .ok (.ifCond .eq 22, 3) := by decide +kernel
theorem dX6_part_18 : decode cX6_part 18 = .ok (.aload_n 0, 1) := by decide +kernel
theorem dX6_part_19 : decode cX6_part 19 = .ok (.iconst 0, 1) := by decide +kernel
theorem dX6_part_20 : decode cX6_part 20 = .ok (.aload_n 0, 1) := by decide +kernel
theorem dX6_part_21 : decode cX6_part 21 = .ok (.getfield 9, 3) := by decide +kernel
theorem dX6_part_24 : decode cX6_part 24 = .ok (.iconst 0, 1) := by decide +kernel
theorem dX6_part_25 : decode cX6_part 25 = .ok (.sipush 9999, 3) := by decide +kernel
theorem dX6_part_28 : decode cX6_part 28 = .ok (.invokevirtual 103, 3) := by decide +kernel
theorem dX6_part_31 : decode cX6_part 31 = .ok (.invokevirtual 67, 3) := by decide +kernel
theorem dX6_part_34 : decode cX6_part 34 = .ok (.goto 169, 3) := by decide +kernel
theorem dX6_part_37 : decode cX6_part 37 = .ok (.aload_n 0, 1) := by decide +kernel
theorem dX6_part_38 : decode cX6_part 38 = .ok (.getfield 9, 3) := by decide +kernel
theorem dX6_part_41 : decode cX6_part 41 = .ok (.bipush 40, 2) := by decide +kernel
theorem dX6_part_43 : decode cX6_part 43 = .ok (.invokevirtual 77, 3) := by decide +kernel
theorem dX6_part_46 : decode cX6_part 46 = .ok (.ifCond .eq 30, 3) := by decide +kernel
theorem dX6_part_49 : decode cX6_part 49 = .ok (.aload_n 0, 1) := by decide +kernel
theorem dX6_part_50 : decode cX6_part 50 = .ok (.iload_n 1, 1) := by decide +kernel
theorem dX6_part_51 : decode cX6_part 51 = .ok (.invokevirtual 74, 3) := by decide +kernel
theorem dX6_part_54 : decode cX6_part 54 = .ok (.ifCond .eq 149, 3) := by decide +kernel
theorem dX6_part_57 : decode cX6_part 57 = .ok (.aload_n 0, 1) := by decide +kernel
theorem dX6_part_58 : decode cX6_part 58 = .ok (.iload_n 1, 1) := by decide +kernel
theorem dX6_part_59 : decode cX6_part 59 = .ok (.iconst 1, 1) := by decide +kernel
theorem dX6_part_60 : decode cX6_part 60 = .ok (.iadd, 1) := by decide +kernel
theorem dX6_part_61 : decode cX6_part 61 = .ok (.invokevirtual 23, 3) := by decide +kernel
theorem dX6_part_64 : decode cX6_part 64 = .ok (.aload_n 0, 1) := by decide +kernel
theorem dX6_part_65 : decode cX6_part 65 = .ok (.getfield 9, 3) := by decide +kernel
theorem dX6_part_68 : decode cX6_part 68 = .ok (.bipush 41, 2) := by decide +kernel
theorem dX6_part_70 : decode cX6_part 70 = .ok (.invokevirtual 80, 3) := by decide +kernel
theorem dX6_part_73 : decode cX6_part 73 = .ok (.goto 130, 3) := by decide +kernel
theorem dX6_part_76 : decode cX6_part 76 = .ok (.iload_n 2, 1) := by decide +kernel
theorem dX6_part_77 : decode cX6_part 77 = .ok (.bipush 31, 2) := by decide +kernel
theorem dX6_part_79 : decode cX6_part 79 = .ok (.if_icmp .eq 9, 3) := by decide +kernel
theorem dX6_part_82 : decode cX6_part 82 = .ok (.iload_n 2, 1) := by decide +kernel
theorem dX6_part_83 : decode cX6_part 83 = .ok (.bipush 32, 2) := by decide +kernel
theorem dX6_part_85 : decode cX6_part 85 = .ok (.if_icmp .ne 31, 3) := by decide +kernel
theorem dX6_part_88 : decode cX6_part 88 = .ok (.aload_n 0, 1) := by decide +kernel
theorem dX6_part_89 : decode cX6_part 89 = .ok (.getfield 9, 3) := by decide +kernel
theorem dX6_part_92 : decode cX6_part 92 = .ok (.invokevirtual 64, 3) := by decide +kernel
theorem dX6_part_95 : decode cX6_part 95 = .ok (.aload_n 0, 1) := by decide +kernel
theorem dX6_part_96 : decode cX6_part 96 = .ok (.iload_n 2, 1) := by decide +kernel
theorem dX6_part_97 : decode cX6_part 97 = .ok (.bipush 31, 2) := by decide +kernel
theorem dX6_part_99 : decode cX6_part 99 = .ok (.if_icmp .ne 8, 3) := by decide +kernel
theorem dX6_part_102 : decode cX6_part 102 = .ok (.bipush 6, 2) := by decide +kernel
theorem dX6_part_104 : decode cX6_part 104 = .ok (.goto 5, 3) := by decide +kernel
theorem dX6_part_107 : decode cX6_part 107 = .ok (.bipush 7, 2) := by decide +kernel
theorem dX6_part_109 : decode cX6_part 109 = .ok (.iload_n 1, 1) := by decide +kernel
theorem dX6_part_110 : decode cX6_part 110 = .ok (.invokevirtual 107, 3) := by decide +kernel
theorem dX6_part_113 : decode cX6_part 113 = .ok (.goto 90, 3) := by decide +kernel
theorem dX6_part_116 : decode cX6_part 116 = .ok (.aload_n 0, 1) := by decide +kernel
theorem dX6_part_117 : decode cX6_part 117 = .ok (.iload_n 2, 1) := by decide +kernel
theorem dX6_part_118 : decode cX6_part 118 = .ok (.invokevirtual 110, 3) := by decide +kernel
theorem dX6_part_121 : decode cX6_part 121 = .ok (.ifCond .ne 13, 3) := by decide +kernel
theorem dX6_part_124 : decode cX6_part 124 = .ok (.aload_n 0, 1) := by decide +kernel
theorem dX6_part_125 : decode cX6_part 125 = .ok (.getfield 9, 3) := by decide +kernel
theorem dX6_part_128 : decode cX6_part 128 = .ok (.invokevirtual 87, 3) := by decide +kernel
theorem dX6_part_131 : decode cX6_part 131 = .ok (.goto 72, 3) := by decide +kernel
theorem dX6_part_134 : decode cX6_part 134 = .ok (.iload_n 2, 1) := by decide +kernel
theorem dX6_part_135 : decode cX6_part 135 = .ok (.bipush 26, 2) := by decide +kernel
theorem dX6_part_137 : decode cX6_part 137 = .ok (.if_icmp .ne 28, 3) := by decide +kernel
theorem dX6_part_140 : decode cX6_part 140 = .ok (.aload_n 0, 1) := by decide +kernel
theorem dX6_part_141 : decode cX6_part 141 = .ok (.iload_n 1, 1) := by decide +kernel
theorem dX6_part_142 : decode cX6_part 142 = .ok (.invokevirtual 74, 3) := by decide +kernel
theorem dX6_part_145 : decode cX6_part 145 = .ok (.ifCond .eq 58, 3) := by decide +kernel
theorem dX6_part_148 : decode cX6_part 148 = .ok (.aload_n 0, 1) := by decide +kernel
theorem dX6_part_149 : decode cX6_part 149 = .ok (.iload_n 1, 1) := by decide +kernel
theorem dX6_part_150 : decode cX6_part 150 = .ok (.iconst 1, 1) := by decide +kernel
theorem dX6_part_151 : decode cX6_part 151 = .ok (.iadd, 1) := by decide +kernel
theorem dX6_part_152 : decode cX6_part 152 = .ok (.invokevirtual 93, 3) := by decide +kernel
theorem dX6_part_155 : decode cX6_part 155 = .ok (.aload_n 0, 1) := by decide +kernel
theorem dX6_part_156 : decode cX6_part 156 = .ok (.bipush 14, 2) := by decide +kernel
theorem dX6_part_158 : decode cX6_part 158 = .ok (.iconst 0, 1) := by decide +kernel
theorem dX6_part_159 : decode cX6_part 159 = .ok (.invokevirtual 67, 3) := by decide +kernel
theorem dX6_part_162 : decode cX6_part 162 = .ok (.goto 41, 3) := by decide +kernel
theorem dX6_part_165 : decode cX6_part 165 = .ok (.aload_n 0, 1) := by decide +kernel
theorem dX6_part_166 : decode cX6_part 166 = .ok (.aload_n 0, 1) := by decide +kernel
theorem dX6_part_167 : decode cX6_part 167 = .ok (.getfield 40, 3) := by decide +kernel
theorem dX6_part_170 : decode cX6_part 170 = .ok (.ifCond .ne 9, 3) := by decide +kernel
theorem dX6_part_173 : decode cX6_part 173 = .ok (.iload_n 2, 1) := by decide +kernel
theorem dX6_part_174 : decode cX6_part 174 = .ok (.bipush 18, 2) := by decide +kernel
theorem dX6_part_176 : decode cX6_part 176 = .ok (.if_icmp .ne 7, 3) := by decide +kernel
theorem dX6_part_179 : decode cX6_part 179 = .ok (.iconst 1, 1) := by decide +kernel
theorem dX6_part_180 : decode cX6_part 180 = .ok (.goto 4, 3) := by decide +kernel
theorem dX6_part_183 : decode cX6_part 183 = .ok (.iconst 0, 1) := by decide +kernel
theorem dX6_part_184 : decode cX6_part 184 = .ok (.putfield 40, 3) := by decide +kernel
theorem dX6_part_187 : decode cX6_part 187 = .ok (.aload_n 0, 1) := by decide +kernel
theorem dX6_part_188 : decode cX6_part 188 = .ok (.getfield 9, 3) := by decide +kernel
theorem dX6_part_191 : decode cX6_part 191 = .ok (.invokevirtual 64, 3) := by decide +kernel
theorem dX6_part_194 : decode cX6_part 194 = .ok (.aload_n 0, 1) := by decide +kernel
theorem dX6_part_195 : decode cX6_part 195 = .ok (.iconst 1, 1) := by decide +kernel
theorem dX6_part_196 : decode cX6_part 196 = .ok (.iload_n 2, 1) := by decide +kernel
theorem dX6_part_197 : decode cX6_part 197 = .ok (.bipush 17, 2) := by decide +kernel
theorem dX6_part_199 : decode cX6_part 199 = .ok (.isub, 1) := by decide +kernel
theorem dX6_part_200 : decode cX6_part 200 = .ok (.invokevirtual 67, 3) := by decide +kernel
theorem dX6_part_203 : decode cX6_part 203 = .ok (.return_, 1) := by decide +kernel
theorem dX6_pair_0 : decode cX6_pair 0 = .ok (.aload_n 0, 1) := by decide +kernel
theorem dX6_pair_1 : decode cX6_pair 1 = .ok (.getfield 9, 3) := by decide +kernel
theorem dX6_pair_4 : decode cX6_pair 4 = .ok (.bipush 40, 2) := by decide +kernel
theorem dX6_pair_6 : decode cX6_pair 6 = .ok (.invokevirtual 77, 3) := by decide +kernel
theorem dX6_pair_9 : decode cX6_pair 9 = .ok (.ifCond .ne 13, 3) := by decide +kernel
theorem dX6_pair_12 : decode cX6_pair 12 = .ok (.aload_n 0, 1) := by decide +kernel
theorem dX6_pair_13 : decode cX6_pair 13 = .ok (.getfield 9, 3) := by decide +kernel
theorem dX6_pair_16 : decode cX6_pair 16 = .ok (.invokevirtual 87, 3) := by decide +kernel
theorem dX6_pair_19 : decode cX6_pair 19 = .ok (.goto 49, 3) := by decide +kernel
theorem dX6_pair_22 : decode cX6_pair 22 = .ok (.aload_n 0, 1) := by decide +kernel
theorem dX6_pair_23 : decode cX6_pair 23 = .ok (.iload_n 2, 1) := by decide +kernel
theorem dX6_pair_24 : decode cX6_pair 24 = .ok (.invokevirtual 74, 3) := by decide +kernel
theorem dX6_pair_27 : decode cX6_pair 27 = .ok (.ifCond .eq 41, 3) := by decide +kernel
theorem dX6_pair_30 : decode cX6_pair 30 = .ok (.aload_n 0, 1) := by decide +kernel
theorem dX6_pair_31 : decode cX6_pair 31 = .ok (.iload_n 2, 1) := by decide +kernel
theorem dX6_pair_32 : decode cX6_pair 32 = .ok (.iconst 1, 1) := by decide +kernel
theorem dX6_pair_33 : decode cX6_pair 33 = .ok (.iadd, 1) := by decide +kernel
theorem dX6_pair_34 : decode cX6_pair 34 = .ok (.invokevirtual 23, 3) := by decide +kernel
theorem dX6_pair_37 : decode cX6_pair 37 = .ok (.aload_n 0, 1) := by decide +kernel
theorem dX6_pair_38 : decode cX6_pair 38 = .ok (.getfield 9, 3) := by decide +kernel
theorem dX6_pair_41 : decode cX6_pair 41 = .ok (.bipush 44, 2) := by decide +kernel
theorem dX6_pair_43 : decode cX6_pair 43 = .ok (.invokevirtual 80, 3) := by decide +kernel
theorem dX6_pair_46 : decode cX6_pair 46 = .ok (.aload_n 0, 1) := by decide +kernel
theorem dX6_pair_47 : decode cX6_pair 47 = .ok (.iload_n 2, 1) := by decide +kernel
theorem dX6_pair_48 : decode cX6_pair 48 = .ok (.iconst 1, 1) := by decide +kernel
theorem dX6_pair_49 : decode cX6_pair 49 = .ok (.iadd, 1) := by decide +kernel
theorem dX6_pair_50 : decode cX6_pair 50 = .ok (.invokevirtual 23, 3) := by decide +kernel
theorem dX6_pair_53 : decode cX6_pair 53 = .ok (.aload_n 0, 1) := by decide +kernel
theorem dX6_pair_54 : decode cX6_pair 54 = .ok (.getfield 9, 3) := by decide +kernel
theorem dX6_pair_57 : decode cX6_pair 57 = .ok (.bipush 41, 2) := by decide +kernel
theorem dX6_pair_59 : decode cX6_pair 59 = .ok (.invokevirtual 80, 3) := by decide +kernel
theorem dX6_pair_62 : decode cX6_pair 62 = .ok (.aload_n 0, 1) := by decide +kernel
theorem dX6_pair_63 : decode cX6_pair 63 = .ok (.iload_n 1, 1) := by decide +kernel
theorem dX6_pair_64 : decode cX6_pair 64 = .ok (.iconst 0, 1) := by decide +kernel
theorem dX6_pair_65 : decode cX6_pair 65 = .ok (.invokevirtual 67, 3) := by decide +kernel
theorem dX6_pair_68 : decode cX6_pair 68 = .ok (.return_, 1) := by decide +kernel
theorem dX6_isPart_0 : decode cX6_isPart 0 = .ok (.iload_n 1, 1) := by decide +kernel
theorem dX6_isPart_1 : decode cX6_isPart 1 = .ok (.bipush 17, 2) := by decide +kernel
theorem dX6_isPart_3 : decode cX6_isPart 3 = .ok (.if_icmp .lt 28, 3) := by decide +kernel
theorem dX6_isPart_6 : decode cX6_isPart 6 = .ok (.iload_n 1, 1) := by decide +kernel
theorem dX6_isPart_7 : decode cX6_isPart 7 = .ok (.bipush 26, 2) := by decide +kernel
theorem dX6_isPart_9 : decode cX6_isPart 9 = .ok (.if_icmp .gt 22, 3) := by decide +kernel
theorem dX6_isPart_12 : decode cX6_isPart 12 = .ok (.aload_n 0, 1) := by decide +kernel
theorem dX6_isPart_13 : decode cX6_isPart 13 = .ok (.getfield 37, 3) := by decide +kernel
theorem dX6_isPart_16 : decode cX6_isPart 16 = .ok (.iload_n 1, 1) := by decide +kernel
theorem dX6_isPart_17 : decode cX6_isPart 17 = .ok (.bipush 17, 2) := by decide +kernel
theorem dX6_isPart_19 : decode cX6_isPart 19 = .ok (.isub, 1) := by decide +kernel
theorem dX6_isPart_20 : decode cX6_isPart 20 = .ok (.ishr, 1) := by decide +kernel
theorem dX6_isPart_21 : decode cX6_isPart 21 = .ok (.iconst 1, 1) := by decide +kernel
theorem dX6_isPart_22 : decode cX6_isPart 22 = .ok (.iand, 1) := by decide +kernel
theorem dX6_isPart_23 : decode cX6_isPart 23 = .ok (.iconst 1, 1) := by decide +kernel
theorem dX6_isPart_24 : decode cX6_isPart 24 = .ok (.if_icmp .ne 7, 3) := by decide +kernel
theorem dX6_isPart_27 : decode cX6_isPart 27 = .ok (.iconst 1, 1) := by decide +kernel
theorem dX6_isPart_28 : decode cX6_isPart 28 = .ok (.goto 4, 3) := by decide +kernel
theorem dX6_isPart_31 : decode cX6_isPart 31 = .ok (.iconst 0, 1) := by decide +kernel
theorem dX6_isPart_32 : decode cX6_isPart 32 = .ok (.ireturn, 1) := by decide +kernel
theorem dX6_opens_0 : decode cX6_opens 0 = .ok (.iload_n 1, 1) := by decide +kernel
theorem dX6_opens_1 : decode cX6_opens 1 = .ok (.bipush 6, 2) := by decide +kernel
theorem dX6_opens_3 : decode cX6_opens 3 = .ok (.if_icmp .lt 20, 3) := by decide +kernel
theorem dX6_opens_6 : decode cX6_opens 6 = .ok (.aload_n 0, 1) := by decide +kernel
theorem dX6_opens_7 : decode cX6_opens 7 = .ok (.getfield 9, 3) := by decide +kernel
theorem dX6_opens_10 : decode cX6_opens 10 = .ok (.iconst 4, 1) := by decide +kernel
theorem dX6_opens_11 : decode cX6_opens 11 = .ok (.aload_n 0, 1) := by decide +kernel
theorem dX6_opens_12 : decode cX6_opens 12 = .ok (.getfield 9, 3) := by decide +kernel
theorem dX6_opens_15 : decode cX6_opens 15 = .ok (.getfield 113, 3) := by decide +kernel
theorem dX6_opens_18 : decode cX6_opens 18 = .ok (.invokevirtual 116, 3) := by decide +kernel
theorem dX6_opens_21 : decode cX6_opens 21 = .ok (.iconst 0, 1) := by decide +kernel
theorem dX6_opens_22 : decode cX6_opens 22 = .ok (.ireturn, 1) := by decide +kernel
theorem dX6_opens_23 : decode cX6_opens 23 = .ok (.aload_n 0, 1) := by decide +kernel
theorem dX6_opens_24 : decode cX6_opens 24 = .ok (.getfield 9, 3) := by decide +kernel
theorem dX6_opens_27 : decode cX6_opens 27 = .ok (.invokevirtual 64, 3) := by decide +kernel
theorem dX6_opens_30 : decode cX6_opens 30 = .ok (.iconst 1, 1) := by decide +kernel
theorem dX6_opens_31 : decode cX6_opens 31 = .ok (.ireturn, 1) := by decide +kernel
theorem dX7_init_0 : decode cX7_init 0 = .ok (.aload_n 0, 1) := by decide +kernel
theorem dX7_init_1 : decode cX7_init 1 = .ok (.invokespecial 3, 3) := by decide +kernel
theorem dX7_init_4 : decode cX7_init 4 = .ok (.aload_n 0, 1) := by decide +kernel
theorem dX7_init_5 : decode cX7_init 5 = .ok (.aload_n 1, 1) := by decide +kernel
theorem dX7_init_6 : decode cX7_init 6 = .ok (.putfield 9, 3) := by decide +kernel
theorem dX7_init_9 : decode cX7_init 9 = .ok (.aload_n 0, 1) := by decide +kernel
theorem dX7_init_10 : decode cX7_init 10 = .ok (.aload_n 2, 1) := by decide +kernel
theorem dX7_init_11 : decode cX7_init 11 = .ok (.putfield 15, 3) := by decide +kernel
theorem dX7_init_14 : decode cX7_init 14 = .ok (.aload_n 0, 1) := by decide +kernel
theorem dX7_init_15 : decode cX7_init 15 = .ok (.new 19, 3) := by decide +kernel
theorem dX7_init_18 : decode cX7_init 18 = .ok (.dup, 1) := by decide +kernel
theorem dX7_init_19 : decode cX7_init 19 = .ok (.iconst 0, 1) := by decide +kernel
theorem dX7_init_20 : decode cX7_init 20 = .ok (.newarray .int, 2) := by decide +kernel
theorem dX7_init_22 : decode cX7_init 22 = .ok (.iconst 0, 1) := by decide +kernel
theorem dX7_init_23 : decode cX7_init 23 = .ok (.invokespecial 21, 3) := by decide +kernel
theorem dX7_init_26 : decode cX7_init 26 = .ok (.putfield 24, 3) := by decide +kernel
theorem dX7_init_29 : decode cX7_init 29 = .ok (.return_, 1) := by decide +kernel
theorem dX7_read_0 : decode cX7_read 0 = .ok (.aload_n 0, 1) := by decide +kernel
theorem dX7_read_1 : decode cX7_read 1 = .ok (.getfield 9, 3) := by decide +kernel
theorem dX7_read_4 : decode cX7_read 4 = .ok (.invokevirtual 28, 3) := by decide +kernel
theorem dX7_read_7 : decode cX7_read 7 = .ok (.aload_n 0, 1) := by decide +kernel
theorem dX7_read_8 : decode cX7_read 8 = .ok (.aload_n 0, 1) := by decide +kernel
theorem dX7_read_9 : decode cX7_read 9 = .ok (.getfield 9, 3) := by decide +kernel
theorem dX7_read_12 : decode cX7_read 12 = .ok (.invokevirtual 33, 3) := by decide +kernel
theorem dX7_read_15 : decode cX7_read 15 = .ok (.putfield 37, 3) := by decide +kernel
theorem dX7_read_18 : decode cX7_read 18 = .ok (.aload_n 0, 1) := by decide +kernel
theorem dX7_read_19 : decode cX7_read 19 = .ok (.getfield 37, 3) := by decide +kernel
theorem dX7_read_22 : decode cX7_read 22 = .ok (.bipush 33, 2) := by decide +kernel
theorem dX7_read_24 : decode cX7_read 24 = .ok (.if_icmp .eq 21, 3) := by decide +kernel
theorem dX7_read_27 : decode cX7_read 27 = .ok (.aload_n 0, 1) := by decide +kernel
theorem dX7_read_28 : decode cX7_read 28 = .ok (.getfield 37, 3) := by decide +kernel
theorem dX7_read_31 : decode cX7_read 31 = .ok (.bipush 34, 2) := by decide +kernel
theorem dX7_read_33 : decode cX7_read 33 = .ok (.if_icmp .eq 12, 3) := by decide +kernel
theorem dX7_read_36 : decode cX7_read 36 = .ok (.aload_n 0, 1) := by decide +kernel
theorem dX7_read_37 : decode cX7_read 37 = .ok (.getfield 37, 3) := by decide +kernel
theorem dX7_read_40 : decode cX7_read 40 = .ok (.bipush 35, 2) := by decide +kernel
theorem dX7_read_42 : decode cX7_read 42 = .ok (.if_icmp .ne 27, 3) := by decide +kernel
theorem dX7_read_45 : decode cX7_read 45 = .ok (.aload_n 0, 1) := by decide +kernel
theorem dX7_read_46 : decode cX7_read 46 = .ok (.getfield 9, 3) := by decide +kernel
theorem dX7_read_49 : decode cX7_read 49 = .ok (.invokevirtual 41, 3) := by decide +kernel
theorem dX7_read_52 : decode cX7_read 52 = .ok (.aload_n 0, 1) := by decide +kernel
theorem dX7_read_53 : decode cX7_read 53 = .ok (.aload_n 0, 1) := by decide +kernel
theorem dX7_read_54 : decode cX7_read 54 = .ok (.getfield 15, 3) := by decide +kernel
theorem dX7_read_57 : decode cX7_read 57 = .ok (.sipush 1023, 3) := by decide +kernel
theorem dX7_read_60 : decode cX7_read 60 = .ok (.invokevirtual 44, 3) := by decide +kernel
theorem dX7_read_63 : decode cX7_read 63 = .ok (.putfield 24, 3) := by decide +kernel
theorem dX7_read_66 : decode cX7_read 66 = .ok (.goto 61, 3) := by decide +kernel
theorem dX7_read_69 : decode cX7_read 69 = .ok (.aload_n 0, 1) := by decide +kernel
theorem dX7_read_70 : decode cX7_read 70 = .ok (.getfield 37, 3) := by decide +kernel
theorem dX7_read_73 : decode cX7_read 73 = .ok (.bipush 36, 2) := by decide +kernel
theorem dX7_read_75 : decode cX7_read 75 = .ok (.if_icmp .eq 21, 3) := by decide +kernel
theorem dX7_read_78 : decode cX7_read 78 = .ok (.aload_n 0, 1) := by decide +kernel
theorem dX7_read_79 : decode cX7_read 79 = .ok (.getfield 37, 3) := by decide +kernel
theorem dX7_read_82 : decode cX7_read 82 = .ok (.bipush 37, 2) := by decide +kernel
theorem dX7_read_84 : decode cX7_read 84 = .ok (.if_icmp .eq 12, 3) := by decide +kernel
theorem dX7_read_87 : decode cX7_read 87 = .ok (.aload_n 0, 1) := by decide +kernel
theorem dX7_read_88 : decode cX7_read 88 = .ok (.getfield 37, 3) := by decide +kernel
theorem dX7_read_91 : decode cX7_read 91 = .ok (.bipush 38, 2) := by decide +kernel
theorem dX7_read_93 : decode cX7_read 93 = .ok (.if_icmp .ne 27, 3) := by decide +kernel
theorem dX7_read_96 : decode cX7_read 96 = .ok (.aload_n 0, 1) := by decide +kernel
theorem dX7_read_97 : decode cX7_read 97 = .ok (.getfield 9, 3) := by decide +kernel
theorem dX7_read_100 : decode cX7_read 100 = .ok (.invokevirtual 41, 3) := by decide +kernel
theorem dX7_read_103 : decode cX7_read 103 = .ok (.aload_n 0, 1) := by decide +kernel
theorem dX7_read_104 : decode cX7_read 104 = .ok (.aload_n 0, 1) := by decide +kernel
theorem dX7_read_105 : decode cX7_read 105 = .ok (.getfield 15, 3) := by decide +kernel
theorem dX7_read_108 : decode cX7_read 108 = .ok (.sipush 1023, 3) := by decide +kernel
theorem dX7_read_111 : decode cX7_read 111 = .ok (.invokevirtual 50, 3) := by decide +kernel
theorem dX7_read_114 : decode cX7_read 114 = .ok (.putfield 24, 3) := by decide +kernel
theorem dX7_read_117 : decode cX7_read 117 = .ok (.goto 10, 3) := by decide +kernel
theorem dX7_read_120 : decode cX7_read 120 = .ok (.aload_n 0, 1) := by decide +kernel
theorem dX7_read_121 : decode cX7_read 121 = .ok (.getfield 9, 3) := by decide +kernel
theorem dX7_read_124 : decode cX7_read 124 = .ok (.invokevirtual 53, 3) := by decide +kernel
theorem dX7_read_127 : decode cX7_read 127 = .ok (.aload_n 0, 1) := by decide +kernel
theorem dX7_read_128 : decode cX7_read 128 = .ok (.getfield 9, 3) := by decide +kernel
theorem dX7_read_131 : decode cX7_read 131 = .ok (.invokevirtual 56, 3) := by decide +kernel
theorem dX7_read_134 : decode cX7_read 134 = .ok (.ifCond .eq 10, 3) := by decide +kernel
theorem dX7_read_137 : decode cX7_read 137 = .ok (.aload_n 0, 1) := by decide +kernel
theorem dX7_read_138 : decode cX7_read 138 = .ok (.getfield 9, 3) := by decide +kernel
theorem dX7_read_141 : decode cX7_read 141 = .ok (.invokevirtual 53, 3) := by decide +kernel
theorem dX7_read_144 : decode cX7_read 144 = .ok (.return_, 1) := by decide +kernel
theorem dX7_answer_0 : decode cX7_answer 0 = .ok (.aload_n 0, 1) := by decide +kernel
theorem dX7_answer_1 : decode cX7_answer 1 = .ok (.getfield 37, 3) := by decide +kernel
theorem dX7_answer_4 : decode cX7_answer 4 = .ok (.bipush 33, 2) := by decide +kernel
theorem dX7_answer_6 : decode cX7_answer 6 = .ok (.if_icmp .eq 12, 3) := by decide +kernel
theorem dX7_answer_9 : decode cX7_answer 9 = .ok (.aload_n 0, 1) := by decide +kernel
theorem dX7_answer_10 : decode cX7_answer 10 = .ok (.getfield 37, 3) := by decide +kernel
theorem dX7_answer_13 : decode cX7_answer 13 = .ok (.bipush 34, 2) := by decide +kernel
theorem dX7_answer_15 : decode cX7_answer 15 = .ok (.if_icmp .ne 9, 3) := by decide +kernel
theorem dX7_answer_18 : decode cX7_answer 18 = .ok (.ldc2_w 60, 3) := by decide +kernel
theorem dX7_answer_21 : decode cX7_answer 21 = .ok (.goto 4, 3) := by decide +kernel
theorem dX7_answer_24 : decode cX7_answer 24 = .ok (.lconst 0, 1) := by decide +kernel
theorem dX7_answer_25 : decode cX7_answer 25 = .ok (.lstore_n 3, 1) := by decide +kernel
theorem dX7_answer_26 : decode cX7_answer 26 = .ok (.iconst 0, 1) := by decide +kernel
theorem dX7_answer_27 : decode cX7_answer 27 = .ok (.istore 5, 2) := by decide +kernel
theorem dX7_answer_29 : decode cX7_answer 29 = .ok (.iload 5, 2) := by decide +kernel
theorem dX7_answer_31 : decode cX7_answer 31 = .ok (.aload_n 1, 1) := by decide +kernel
theorem dX7_answer_32 : decode cX7_answer 32 = .ok (.getfield 62, 3) := by decide +kernel
theorem dX7_answer_35 : decode cX7_answer 35 = .ok (.getfield 68, 3) := by decide +kernel
theorem dX7_answer_38 : decode cX7_answer 38 = .ok (.if_icmp .ge 164, 3) := by decide +kernel
theorem dX7_answer_41 : decode cX7_answer 41 = .ok (.aload_n 1, 1) := by decide +kernel
theorem dX7_answer_42 : decode cX7_answer 42 = .ok (.aload_n 2, 1) := by decide +kernel
theorem dX7_answer_43 : decode cX7_answer 43 = .ok (.iload 5, 2) := by decide +kernel
theorem dX7_answer_45 : decode cX7_answer 45 = .ok (.invokestatic 73, 3) := by decide +kernel
theorem dX7_answer_48 : decode cX7_answer 48 = .ok (.aload_n 1, 1) := by decide +kernel
theorem dX7_answer_49 : decode cX7_answer 49 = .ok (.getfield 77, 3) := by decide +kernel
theorem dX7_answer_52 : decode cX7_answer 52 = .ok (.aload_n 0, 1) := by decide +kernel
theorem dX7_answer_53 : decode cX7_answer 53 = .ok (.getfield 24, 3) := by decide +kernel
theorem dX7_answer_56 : decode cX7_answer 56 = .ok (.invokevirtual 81, 3) := by decide +kernel
theorem dX7_answer_59 : decode cX7_answer 59 = .ok (.istore 6, 2) := by decide +kernel
theorem dX7_answer_61 : decode cX7_answer 61 = .ok (.aload_n 0, 1) := by decide +kernel
theorem dX7_answer_62 : decode cX7_answer 62 = .ok (.getfield 37, 3) := by decide +kernel
theorem dX7_answer_65 : decode cX7_answer 65 = .ok (.tableswitch 125 33 38 #[39, 64, 125, 125, 81, 103], 39) := by decide +kernel
theorem dX7_answer_104 : decode cX7_answer 104 = .ok (.iload 6, 2) := by decide +kernel
theorem dX7_answer_106 : decode cX7_answer 106 = .ok (.iconst 1, 1) := by decide +kernel
theorem dX7_answer_107 : decode cX7_answer 107 = .ok (.if_icmp .ne 17, 3) := by decide +kernel
theorem dX7_answer_110 : decode cX7_answer 110 = .ok (.lload_n 3, 1) := by decide +kernel
theorem dX7_answer_111 : decode cX7_answer 111 = .ok (.ldc2_w 60, 3) := by decide +kernel
theorem dX7_answer_114 : decode cX7_answer 114 = .ok (.lcmp, 1) := by decide +kernel
theorem dX7_answer_115 : decode cX7_answer 115 = .ok (.ifCond .ne 9, 3) := by decide +kernel
theorem dX7_answer_118 : decode cX7_answer 118 = .ok (.iload 5, 2) := by decide +kernel
theorem dX7_answer_120 : decode cX7_answer 120 = .ok (.i2l, 1) := by decide +kernel
theorem dX7_answer_121 : decode cX7_answer 121 = .ok (.goto 4, 3) := by decide +kernel
theorem dX7_answer_124 : decode cX7_answer 124 = .ok (.lload_n 3, 1) := by decide +kernel
theorem dX7_answer_125 : decode cX7_answer 125 = .ok (.lstore_n 3, 1) := by decide +kernel
theorem dX7_answer_126 : decode cX7_answer 126 = .ok (.goto 70, 3) := by decide +kernel
theorem dX7_answer_129 : decode cX7_answer 129 = .ok (.iload 6, 2) := by decide +kernel
theorem dX7_answer_131 : decode cX7_answer 131 = .ok (.iconst 1, 1) := by decide +kernel
theorem dX7_answer_132 : decode cX7_answer 132 = .ok (.if_icmp .ne 9, 3) := by decide +kernel
theorem dX7_answer_135 : decode cX7_answer 135 = .ok (.iload 5, 2) := by decide +kernel
theorem dX7_answer_137 : decode cX7_answer 137 = .ok (.i2l, 1) := by decide +kernel
theorem dX7_answer_138 : decode cX7_answer 138 = .ok (.goto 4, 3) := by decide +kernel
theorem dX7_answer_141 : decode cX7_answer 141 = .ok (.lload_n 3, 1) := by decide +kernel
theorem dX7_answer_142 : decode cX7_answer 142 = .ok (.lstore_n 3, 1) := by decide +kernel
theorem dX7_answer_143 : decode cX7_answer 143 = .ok (.goto 53, 3) := by decide +kernel
theorem dX7_answer_146 : decode cX7_answer 146 = .ok (.iload 5, 2) := by decide +kernel
theorem dX7_answer_148 : decode cX7_answer 148 = .ok (.ifCond .ne 9, 3) := by decide +kernel
theorem dX7_answer_151 : decode cX7_answer 151 = .ok (.iload 6, 2) := by decide +kernel
theorem dX7_answer_153 : decode cX7_answer 153 = .ok (.i2l, 1) := by decide +kernel
theorem dX7_answer_154 : decode cX7_answer 154 = .ok (.goto 10, 3) := by decide +kernel
theorem dX7_answer_157 : decode cX7_answer 157 = .ok (.lload_n 3, 1) := by decide +kernel
theorem dX7_answer_158 : decode cX7_answer 158 = .ok (.iload 6, 2) := by decide +kernel
theorem dX7_answer_160 : decode cX7_answer 160 = .ok (.i2l, 1) := by decide +kernel
theorem dX7_answer_161 : decode cX7_answer 161 = .ok (.invokestatic 87, 3) := by decide +kernel
theorem dX7_answer_164 : decode cX7_answer 164 = .ok (.lstore_n 3, 1) := by decide +kernel
theorem dX7_answer_165 : decode cX7_answer 165 = .ok (.goto 31, 3) := by decide +kernel
theorem dX7_answer_168 : decode cX7_answer 168 = .ok (.iload 5, 2) := by decide +kernel
theorem dX7_answer_170 : decode cX7_answer 170 = .ok (.ifCond .ne 9, 3) := by decide +kernel
theorem dX7_answer_173 : decode cX7_answer 173 = .ok (.iload 6, 2) := by decide +kernel
theorem dX7_answer_175 : decode cX7_answer 175 = .ok (.i2l, 1) := by decide +kernel
theorem dX7_answer_176 : decode cX7_answer 176 = .ok (.goto 10, 3) := by decide +kernel
theorem dX7_answer_179 : decode cX7_answer 179 = .ok (.lload_n 3, 1) := by decide +kernel
theorem dX7_answer_180 : decode cX7_answer 180 = .ok (.iload 6, 2) := by decide +kernel
theorem dX7_answer_182 : decode cX7_answer 182 = .ok (.i2l, 1) := by decide +kernel
theorem dX7_answer_183 : decode cX7_answer 183 = .ok (.invokestatic 93, 3) := by decide +kernel
theorem dX7_answer_186 : decode cX7_answer 186 = .ok (.lstore_n 3, 1) := by decide +kernel
theorem dX7_answer_187 : decode cX7_answer 187 = .ok (.goto 9, 3) := by decide +kernel
theorem dX7_answer_190 : decode cX7_answer 190 = .ok (.lload_n 3, 1) := by decide +kernel
theorem dX7_answer_191 : decode cX7_answer 191 = .ok (.iload 6, 2) := by decide +kernel
theorem dX7_answer_193 : decode cX7_answer 193 = .ok (.i2l, 1) := by decide +kernel
theorem dX7_answer_194 : decode cX7_answer 194 = .ok (.ladd, 1) := by decide +kernel
theorem dX7_answer_195 : decode cX7_answer 195 = .ok (.lstore_n 3, 1) := by decide +kernel
theorem dX7_answer_196 : decode cX7_answer 196 = .ok (.iinc 5 1, 3) := by decide +kernel
theorem dX7_answer_199 : decode cX7_answer 199 = .ok (.goto (-170), 3) := by decide +kernel
theorem dX7_answer_202 : decode cX7_answer 202 = .ok (.lload_n 3, 1) := by decide +kernel
theorem dX7_answer_203 : decode cX7_answer 203 = .ok (.lreturn, 1) := by decide +kernel
theorem dX7_setValues_0 : decode cX7_setValues 0 = .ok (.aload_n 0, 1) := by decide +kernel
theorem dX7_setValues_1 : decode cX7_setValues 1 = .ok (.getfield 77, 3) := by decide +kernel
theorem dX7_setValues_4 : decode cX7_setValues 4 = .ok (.astore_n 3, 1) := by decide +kernel
theorem dX7_setValues_5 : decode cX7_setValues 5 = .ok (.aload_n 0, 1) := by decide +kernel
theorem dX7_setValues_6 : decode cX7_setValues 6 = .ok (.getfield 62, 3) := by decide +kernel
theorem dX7_setValues_9 : decode cX7_setValues 9 = .ok (.getfield 96, 3) := by decide +kernel
theorem dX7_setValues_12 : decode cX7_setValues 12 = .ok (.iload_n 2, 1) := by decide +kernel
theorem dX7_setValues_13 : decode cX7_setValues 13 = .ok (.aaload, 1) := by decide +kernel
theorem dX7_setValues_14 : decode cX7_setValues 14 = .ok (.iconst 0, 1) := by decide +kernel
theorem dX7_setValues_15 : decode cX7_setValues 15 = .ok (.iaload, 1) := by decide +kernel
theorem dX7_setValues_16 : decode cX7_setValues 16 = .ok (.istore 4, 2) := by decide +kernel
theorem dX7_setValues_18 : decode cX7_setValues 18 = .ok (.aload_n 0, 1) := by decide +kernel
theorem dX7_setValues_19 : decode cX7_setValues 19 = .ok (.aload_n 1, 1) := by decide +kernel
theorem dX7_setValues_20 : decode cX7_setValues 20 = .ok (.iload_n 2, 1) := by decide +kernel
theorem dX7_setValues_21 : decode cX7_setValues 21 = .ok (.invokevirtual 100, 3) := by decide +kernel
theorem dX7_setValues_24 : decode cX7_setValues 24 = .ok (.istore 5, 2) := by decide +kernel
theorem dX7_setValues_26 : decode cX7_setValues 26 = .ok (.aload_n 3, 1) := by decide +kernel
theorem dX7_setValues_27 : decode cX7_setValues 27 = .ok (.bipush 17, 2) := by decide +kernel
theorem dX7_setValues_29 : decode cX7_setValues 29 = .ok (.iload 5, 2) := by decide +kernel
theorem dX7_setValues_31 : decode cX7_setValues 31 = .ok (.iconst (-1), 1) := by decide +kernel
theorem dX7_setValues_32 : decode cX7_setValues 32 = .ok (.if_icmp .ne 8, 3) := by decide +kernel
theorem dX7_setValues_35 : decode cX7_setValues 35 = .ok (.bipush 12, 2) := by decide +kernel
theorem dX7_setValues_37 : decode cX7_setValues 37 = .ok (.goto 5, 3) := by decide +kernel
theorem dX7_setValues_40 : decode cX7_setValues 40 = .ok (.iload 5, 2) := by decide +kernel
theorem dX7_setValues_42 : decode cX7_setValues 42 = .ok (.invokevirtual 104, 3) := by decide +kernel
theorem dX7_setValues_45 : decode cX7_setValues 45 = .ok (.aload_n 3, 1) := by decide +kernel
theorem dX7_setValues_46 : decode cX7_setValues 46 = .ok (.bipush 18, 2) := by decide +kernel
theorem dX7_setValues_48 : decode cX7_setValues 48 = .ok (.aload_n 1, 1) := by decide +kernel
theorem dX7_setValues_49 : decode cX7_setValues 49 = .ok (.getfield 108, 3) := by decide +kernel
theorem dX7_setValues_52 : decode cX7_setValues 52 = .ok (.invokevirtual 104, 3) := by decide +kernel
theorem dX7_setValues_55 : decode cX7_setValues 55 = .ok (.aload_n 3, 1) := by decide +kernel
theorem dX7_setValues_56 : decode cX7_setValues 56 = .ok (.bipush 19, 2) := by decide +kernel
theorem dX7_setValues_58 : decode cX7_setValues 58 = .ok (.aload_n 0, 1) := by decide +kernel
theorem dX7_setValues_59 : decode cX7_setValues 59 = .ok (.getfield 62, 3) := by decide +kernel
theorem dX7_setValues_62 : decode cX7_setValues 62 = .ok (.iload 4, 2) := by decide +kernel
theorem dX7_setValues_64 : decode cX7_setValues 64 = .ok (.invokevirtual 113, 3) := by decide +kernel
theorem dX7_setValues_67 : decode cX7_setValues 67 = .ok (.invokevirtual 104, 3) := by decide +kernel
theorem dX7_setValues_70 : decode cX7_setValues 70 = .ok (.aload_n 3, 1) := by decide +kernel
theorem dX7_setValues_71 : decode cX7_setValues 71 = .ok (.bipush 20, 2) := by decide +kernel
theorem dX7_setValues_73 : decode cX7_setValues 73 = .ok (.aload_n 0, 1) := by decide +kernel
theorem dX7_setValues_74 : decode cX7_setValues 74 = .ok (.getfield 62, 3) := by decide +kernel
theorem dX7_setValues_77 : decode cX7_setValues 77 = .ok (.iload 4, 2) := by decide +kernel
theorem dX7_setValues_79 : decode cX7_setValues 79 = .ok (.invokevirtual 117, 3) := by decide +kernel
theorem dX7_setValues_82 : decode cX7_setValues 82 = .ok (.invokevirtual 104, 3) := by decide +kernel
theorem dX7_setValues_85 : decode cX7_setValues 85 = .ok (.aload_n 3, 1) := by decide +kernel
theorem dX7_setValues_86 : decode cX7_setValues 86 = .ok (.bipush 21, 2) := by decide +kernel
theorem dX7_setValues_88 : decode cX7_setValues 88 = .ok (.aload_n 1, 1) := by decide +kernel
theorem dX7_setValues_89 : decode cX7_setValues 89 = .ok (.getfield 120, 3) := by decide +kernel
theorem dX7_setValues_92 : decode cX7_setValues 92 = .ok (.iload_n 2, 1) := by decide +kernel
theorem dX7_setValues_93 : decode cX7_setValues 93 = .ok (.iaload, 1) := by decide +kernel
theorem dX7_setValues_94 : decode cX7_setValues 94 = .ok (.invokevirtual 104, 3) := by decide +kernel
theorem dX7_setValues_97 : decode cX7_setValues 97 = .ok (.aload_n 3, 1) := by decide +kernel
theorem dX7_setValues_98 : decode cX7_setValues 98 = .ok (.bipush 22, 2) := by decide +kernel
theorem dX7_setValues_100 : decode cX7_setValues 100 = .ok (.aload_n 1, 1) := by decide +kernel
theorem dX7_setValues_101 : decode cX7_setValues 101 = .ok (.getfield 124, 3) := by decide +kernel
theorem dX7_setValues_104 : decode cX7_setValues 104 = .ok (.iload_n 2, 1) := by decide +kernel
theorem dX7_setValues_105 : decode cX7_setValues 105 = .ok (.iaload, 1) := by decide +kernel
theorem dX7_setValues_106 : decode cX7_setValues 106 = .ok (.invokevirtual 104, 3) := by decide +kernel
theorem dX7_setValues_109 : decode cX7_setValues 109 = .ok (.aload_n 3, 1) := by decide +kernel
theorem dX7_setValues_110 : decode cX7_setValues 110 = .ok (.bipush 23, 2) := by decide +kernel
theorem dX7_setValues_112 : decode cX7_setValues 112 = .ok (.aload_n 1, 1) := by decide +kernel
theorem dX7_setValues_113 : decode cX7_setValues 113 = .ok (.getfield 127, 3) := by decide +kernel
theorem dX7_setValues_116 : decode cX7_setValues 116 = .ok (.iload_n 2, 1) := by decide +kernel
theorem dX7_setValues_117 : decode cX7_setValues 117 = .ok (.iaload, 1) := by decide +kernel
theorem dX7_setValues_118 : decode cX7_setValues 118 = .ok (.invokevirtual 104, 3) := by decide +kernel
theorem dX7_setValues_121 : decode cX7_setValues 121 = .ok (.aload_n 3, 1) := by decide +kernel
theorem dX7_setValues_122 : decode cX7_setValues 122 = .ok (.bipush 24, 2) := by decide +kernel
theorem dX7_setValues_124 : decode cX7_setValues 124 = .ok (.iload_n 2, 1) := by decide +kernel
theorem dX7_setValues_125 : decode cX7_setValues 125 = .ok (.invokevirtual 104, 3) := by decide +kernel
theorem dX7_setValues_128 : decode cX7_setValues 128 = .ok (.aload_n 3, 1) := by decide +kernel
theorem dX7_setValues_129 : decode cX7_setValues 129 = .ok (.bipush 25, 2) := by decide +kernel
theorem dX7_setValues_131 : decode cX7_setValues 131 = .ok (.aload_n 1, 1) := by decide +kernel
theorem dX7_setValues_132 : decode cX7_setValues 132 = .ok (.getfield 130, 3) := by decide +kernel
theorem dX7_setValues_135 : decode cX7_setValues 135 = .ok (.iload_n 2, 1) := by decide +kernel
theorem dX7_setValues_136 : decode cX7_setValues 136 = .ok (.iaload, 1) := by decide +kernel
theorem dX7_setValues_137 : decode cX7_setValues 137 = .ok (.invokevirtual 104, 3) := by decide +kernel
theorem dX7_setValues_140 : decode cX7_setValues 140 = .ok (.iconst 0, 1) := by decide +kernel
theorem dX7_setValues_141 : decode cX7_setValues 141 = .ok (.istore 6, 2) := by decide +kernel
theorem dX7_setValues_143 : decode cX7_setValues 143 = .ok (.iload 6, 2) := by decide +kernel
theorem dX7_setValues_145 : decode cX7_setValues 145 = .ok (.bipush 12, 2) := by decide +kernel
theorem dX7_setValues_147 : decode cX7_setValues 147 = .ok (.if_icmp .ge 32, 3) := by decide +kernel
theorem dX7_setValues_150 : decode cX7_setValues 150 = .ok (.aload_n 3, 1) := by decide +kernel
theorem dX7_setValues_151 : decode cX7_setValues 151 = .ok (.getfield 133, 3) := by decide +kernel
theorem dX7_setValues_154 : decode cX7_setValues 154 = .ok (.iload 6, 2) := by decide +kernel
theorem dX7_setValues_156 : decode cX7_setValues 156 = .ok (.aload_n 0, 1) := by decide +kernel
theorem dX7_setValues_157 : decode cX7_setValues 157 = .ok (.getfield 62, 3) := by decide +kernel
theorem dX7_setValues_160 : decode cX7_setValues 160 = .ok (.iload 4, 2) := by decide +kernel
theorem dX7_setValues_162 : decode cX7_setValues 162 = .ok (.aload_n 0, 1) := by decide +kernel
theorem dX7_setValues_163 : decode cX7_setValues 163 = .ok (.getfield 136, 3) := by decide +kernel
theorem dX7_setValues_166 : decode cX7_setValues 166 = .ok (.iload 6, 2) := by decide +kernel
theorem dX7_setValues_168 : decode cX7_setValues 168 = .ok (.iaload, 1) := by decide +kernel
theorem dX7_setValues_169 : decode cX7_setValues 169 = .ok (.invokevirtual 139, 3) := by decide +kernel
theorem dX7_setValues_172 : decode cX7_setValues 172 = .ok (.iastore, 1) := by decide +kernel
theorem dX7_setValues_173 : decode cX7_setValues 173 = .ok (.iinc 6 1, 3) := by decide +kernel
theorem dX7_setValues_176 : decode cX7_setValues 176 = .ok (.goto (-33), 3) := by decide +kernel
theorem dX7_setValues_179 : decode cX7_setValues 179 = .ok (.return_, 1) := by decide +kernel
theorem dX8_init_0 : decode cX8_init 0 = .ok (.aload_n 0, 1) := by decide +kernel
theorem dX8_init_1 : decode cX8_init 1 = .ok (.invokespecial 3, 3) := by decide +kernel
theorem dX8_init_4 : decode cX8_init 4 = .ok (.aload_n 0, 1) := by decide +kernel
theorem dX8_init_5 : decode cX8_init 5 = .ok (.aload_n 1, 1) := by decide +kernel
theorem dX8_init_6 : decode cX8_init 6 = .ok (.putfield 9, 3) := by decide +kernel
theorem dX8_init_9 : decode cX8_init 9 = .ok (.aload_n 0, 1) := by decide +kernel
theorem dX8_init_10 : decode cX8_init 10 = .ok (.iconst (-1), 1) := by decide +kernel
theorem dX8_init_11 : decode cX8_init 11 = .ok (.putfield 15, 3) := by decide +kernel
theorem dX8_init_14 : decode cX8_init 14 = .ok (.aload_n 0, 1) := by decide +kernel
theorem dX8_init_15 : decode cX8_init 15 = .ok (.bipush 39, 2) := by decide +kernel
theorem dX8_init_17 : decode cX8_init 17 = .ok (.newarray .int, 2) := by decide +kernel
theorem dX8_init_19 : decode cX8_init 19 = .ok (.putfield 19, 3) := by decide +kernel
theorem dX8_init_22 : decode cX8_init 22 = .ok (.aload_n 0, 1) := by decide +kernel
theorem dX8_init_23 : decode cX8_init 23 = .ok (.ldc 23, 2) := by decide +kernel
theorem dX8_init_25 : decode cX8_init 25 = .ok (.iconst 0, 1) := by decide +kernel
theorem dX8_init_26 : decode cX8_init 26 = .ok (.invokevirtual 25, 3) := by decide +kernel
theorem dX8_init_29 : decode cX8_init 29 = .ok (.aload_n 0, 1) := by decide +kernel
theorem dX8_init_30 : decode cX8_init 30 = .ok (.ldc 29, 2) := by decide +kernel
theorem dX8_init_32 : decode cX8_init 32 = .ok (.bipush 33, 2) := by decide +kernel
theorem dX8_init_34 : decode cX8_init 34 = .ok (.invokevirtual 25, 3) := by decide +kernel
theorem dX8_init_37 : decode cX8_init 37 = .ok (.return_, 1) := by decide +kernel
theorem dX8_putKeys_0 : decode cX8_putKeys 0 = .ok (.iload_n 2, 1) := by decide +kernel
theorem dX8_putKeys_1 : decode cX8_putKeys 1 = .ok (.istore_n 3, 1) := by decide +kernel
theorem dX8_putKeys_2 : decode cX8_putKeys 2 = .ok (.iconst 0, 1) := by decide +kernel
theorem dX8_putKeys_3 : decode cX8_putKeys 3 = .ok (.istore 4, 2) := by decide +kernel
theorem dX8_putKeys_5 : decode cX8_putKeys 5 = .ok (.iconst 0, 1) := by decide +kernel
theorem dX8_putKeys_6 : decode cX8_putKeys 6 = .ok (.istore 5, 2) := by decide +kernel
theorem dX8_putKeys_8 : decode cX8_putKeys 8 = .ok (.iload 5, 2) := by decide +kernel
theorem dX8_putKeys_10 : decode cX8_putKeys 10 = .ok (.aload_n 1, 1) := by decide +kernel
theorem dX8_putKeys_11 : decode cX8_putKeys 11 = .ok (.invokevirtual 31, 3) := by decide +kernel
theorem dX8_putKeys_14 : decode cX8_putKeys 14 = .ok (.if_icmp .ge 64, 3) := by decide +kernel
theorem dX8_putKeys_17 : decode cX8_putKeys 17 = .ok (.iload_n 3, 1) := by decide +kernel
theorem dX8_putKeys_18 : decode cX8_putKeys 18 = .ok (.bipush 39, 2) := by decide +kernel
theorem dX8_putKeys_20 : decode cX8_putKeys 20 = .ok (.if_icmp .ge 58, 3) := by decide +kernel
theorem dX8_putKeys_23 : decode cX8_putKeys 23 = .ok (.aload_n 1, 1) := by decide +kernel
theorem dX8_putKeys_24 : decode cX8_putKeys 24 = .ok (.iload 5, 2) := by decide +kernel
theorem dX8_putKeys_26 : decode cX8_putKeys 26 = .ok (.invokevirtual 37, 3) := by decide +kernel
theorem dX8_putKeys_29 : decode cX8_putKeys 29 = .ok (.bipush 32, 2) := by decide +kernel
theorem dX8_putKeys_31 : decode cX8_putKeys 31 = .ok (.if_icmp .ne 12, 3) := by decide +kernel
theorem dX8_putKeys_34 : decode cX8_putKeys 34 = .ok (.iinc 3 1, 3) := by decide +kernel
theorem dX8_putKeys_37 : decode cX8_putKeys 37 = .ok (.iconst 0, 1) := by decide +kernel
theorem dX8_putKeys_38 : decode cX8_putKeys 38 = .ok (.istore 4, 2) := by decide +kernel
theorem dX8_putKeys_40 : decode cX8_putKeys 40 = .ok (.goto 32, 3) := by decide +kernel
theorem dX8_putKeys_43 : decode cX8_putKeys 43 = .ok (.aload_n 0, 1) := by decide +kernel
theorem dX8_putKeys_44 : decode cX8_putKeys 44 = .ok (.getfield 19, 3) := by decide +kernel
theorem dX8_putKeys_47 : decode cX8_putKeys 47 = .ok (.iload_n 3, 1) := by decide +kernel
theorem dX8_putKeys_48 : decode cX8_putKeys 48 = .ok (.dup2, 1) := by decide +kernel
theorem dX8_putKeys_49 : decode cX8_putKeys 49 = .ok (.iaload, 1) := by decide +kernel
theorem dX8_putKeys_50 : decode cX8_putKeys 50 = .ok (.aload_n 1, 1) := by decide +kernel
theorem dX8_putKeys_51 : decode cX8_putKeys 51 = .ok (.iload 5, 2) := by decide +kernel
theorem dX8_putKeys_53 : decode cX8_putKeys 53 = .ok (.invokevirtual 37, 3) := by decide +kernel
theorem dX8_putKeys_56 : decode cX8_putKeys 56 = .ok (.bipush 97, 2) := by decide +kernel
theorem dX8_putKeys_58 : decode cX8_putKeys 58 = .ok (.isub, 1) := by decide +kernel
theorem dX8_putKeys_59 : decode cX8_putKeys 59 = .ok (.iconst 1, 1) := by decide +kernel
theorem dX8_putKeys_60 : decode cX8_putKeys 60 = .ok (.iadd, 1) := by decide +kernel
theorem dX8_putKeys_61 : decode cX8_putKeys 61 = .ok (.iload 4, 2) := by decide +kernel
theorem dX8_putKeys_63 : decode cX8_putKeys 63 = .ok (.invokestatic 41, 3) := by decide +kernel
theorem dX8_putKeys_66 : decode cX8_putKeys 66 = .ok (.ishl, 1) := by decide +kernel
theorem dX8_putKeys_67 : decode cX8_putKeys 67 = .ok (.ior, 1) := by decide +kernel
theorem dX8_putKeys_68 : decode cX8_putKeys 68 = .ok (.iastore, 1) := by decide +kernel
theorem dX8_putKeys_69 : decode cX8_putKeys 69 = .ok (.iinc 4 1, 3) := by decide +kernel
theorem dX8_putKeys_72 : decode cX8_putKeys 72 = .ok (.iinc 5 1, 3) := by decide +kernel
theorem dX8_putKeys_75 : decode cX8_putKeys 75 = .ok (.goto (-67), 3) := by decide +kernel
theorem dX8_putKeys_78 : decode cX8_putKeys 78 = .ok (.return_, 1) := by decide +kernel
theorem dX8_shiftOf_0 : decode cX8_shiftOf 0 = .ok (.iconst 5, 1) := by decide +kernel
theorem dX8_shiftOf_1 : decode cX8_shiftOf 1 = .ok (.iconst 5, 1) := by decide +kernel
theorem dX8_shiftOf_2 : decode cX8_shiftOf 2 = .ok (.iload_n 0, 1) := by decide +kernel
theorem dX8_shiftOf_3 : decode cX8_shiftOf 3 = .ok (.isub, 1) := by decide +kernel
theorem dX8_shiftOf_4 : decode cX8_shiftOf 4 = .ok (.imul, 1) := by decide +kernel
theorem dX8_shiftOf_5 : decode cX8_shiftOf 5 = .ok (.ireturn, 1) := by decide +kernel
theorem dX8_letterOf_0 : decode cX8_letterOf 0 = .ok (.iload_n 0, 1) := by decide +kernel
theorem dX8_letterOf_1 : decode cX8_letterOf 1 = .ok (.iload_n 1, 1) := by decide +kernel
theorem dX8_letterOf_2 : decode cX8_letterOf 2 = .ok (.invokestatic 41, 3) := by decide +kernel
theorem dX8_letterOf_5 : decode cX8_letterOf 5 = .ok (.ishr, 1) := by decide +kernel
theorem dX8_letterOf_6 : decode cX8_letterOf 6 = .ok (.bipush 31, 2) := by decide +kernel
theorem dX8_letterOf_8 : decode cX8_letterOf 8 = .ok (.iand, 1) := by decide +kernel
theorem dX8_letterOf_9 : decode cX8_letterOf 9 = .ok (.ireturn, 1) := by decide +kernel
theorem dX8_start_0 : decode cX8_start 0 = .ok (.aload_n 0, 1) := by decide +kernel
theorem dX8_start_1 : decode cX8_start 1 = .ok (.iconst 0, 1) := by decide +kernel
theorem dX8_start_2 : decode cX8_start 2 = .ok (.putfield 45, 3) := by decide +kernel
theorem dX8_start_5 : decode cX8_start 5 = .ok (.aload_n 0, 1) := by decide +kernel
theorem dX8_start_6 : decode cX8_start 6 = .ok (.iconst (-1), 1) := by decide +kernel
theorem dX8_start_7 : decode cX8_start 7 = .ok (.putfield 15, 3) := by decide +kernel
theorem dX8_start_10 : decode cX8_start 10 = .ok (.aload_n 0, 1) := by decide +kernel
theorem dX8_start_11 : decode cX8_start 11 = .ok (.iconst 0, 1) := by decide +kernel
theorem dX8_start_12 : decode cX8_start 12 = .ok (.putfield 48, 3) := by decide +kernel
theorem dX8_start_15 : decode cX8_start 15 = .ok (.aload_n 0, 1) := by decide +kernel
theorem dX8_start_16 : decode cX8_start 16 = .ok (.iconst 0, 1) := by decide +kernel
theorem dX8_start_17 : decode cX8_start 17 = .ok (.putfield 51, 3) := by decide +kernel
theorem dX8_start_20 : decode cX8_start 20 = .ok (.aload_n 0, 1) := by decide +kernel
theorem dX8_start_21 : decode cX8_start 21 = .ok (.invokevirtual 54, 3) := by decide +kernel
theorem dX8_start_24 : decode cX8_start 24 = .ok (.return_, 1) := by decide +kernel
theorem dX8_fail_0 : decode cX8_fail 0 = .ok (.aload_n 0, 1) := by decide +kernel
theorem dX8_fail_1 : decode cX8_fail 1 = .ok (.getfield 45, 3) := by decide +kernel
theorem dX8_fail_4 : decode cX8_fail 4 = .ok (.ifCond .ne 18, 3) := by decide +kernel
theorem dX8_fail_7 : decode cX8_fail 7 = .ok (.aload_n 0, 1) := by decide +kernel
theorem dX8_fail_8 : decode cX8_fail 8 = .ok (.iload_n 1, 1) := by decide +kernel
theorem dX8_fail_9 : decode cX8_fail 9 = .ok (.putfield 45, 3) := by decide +kernel
theorem dX8_fail_12 : decode cX8_fail 12 = .ok (.aload_n 0, 1) := by decide +kernel
theorem dX8_fail_13 : decode cX8_fail 13 = .ok (.iload_n 2, 1) := by decide +kernel
theorem dX8_fail_14 : decode cX8_fail 14 = .ok (.putfield 15, 3) := by decide +kernel
theorem dX8_fail_17 : decode cX8_fail 17 = .ok (.aload_n 0, 1) := by decide +kernel
theorem dX8_fail_18 : decode cX8_fail 18 = .ok (.iconst 4, 1) := by decide +kernel
theorem dX8_fail_19 : decode cX8_fail 19 = .ok (.putfield 48, 3) := by decide +kernel
theorem dX8_fail_22 : decode cX8_fail 22 = .ok (.return_, 1) := by decide +kernel
theorem dX8_failHere_0 : decode cX8_failHere 0 = .ok (.aload_n 0, 1) := by decide +kernel
theorem dX8_failHere_1 : decode cX8_failHere 1 = .ok (.iconst 1, 1) := by decide +kernel
theorem dX8_failHere_2 : decode cX8_failHere 2 = .ok (.aload_n 0, 1) := by decide +kernel
theorem dX8_failHere_3 : decode cX8_failHere 3 = .ok (.getfield 57, 3) := by decide +kernel
theorem dX8_failHere_6 : decode cX8_failHere 6 = .ok (.invokevirtual 60, 3) := by decide +kernel
theorem dX8_failHere_9 : decode cX8_failHere 9 = .ok (.return_, 1) := by decide +kernel
theorem dX8_goesOn_0 : decode cX8_goesOn 0 = .ok (.aload_n 0, 1) := by decide +kernel
theorem dX8_goesOn_1 : decode cX8_goesOn 1 = .ok (.getfield 45, 3) := by decide +kernel
theorem dX8_goesOn_4 : decode cX8_goesOn 4 = .ok (.ifCond .ne 14, 3) := by decide +kernel
theorem dX8_goesOn_7 : decode cX8_goesOn 7 = .ok (.aload_n 0, 1) := by decide +kernel
theorem dX8_goesOn_8 : decode cX8_goesOn 8 = .ok (.getfield 48, 3) := by decide +kernel
theorem dX8_goesOn_11 : decode cX8_goesOn 11 = .ok (.ifCond .eq 7, 3) := by decide +kernel
theorem dX8_goesOn_14 : decode cX8_goesOn 14 = .ok (.iconst 1, 1) := by decide +kernel
theorem dX8_goesOn_15 : decode cX8_goesOn 15 = .ok (.goto 4, 3) := by decide +kernel
theorem dX8_goesOn_18 : decode cX8_goesOn 18 = .ok (.iconst 0, 1) := by decide +kernel
theorem dX8_goesOn_19 : decode cX8_goesOn 19 = .ok (.ireturn, 1) := by decide +kernel
theorem dX8_advance_0 : decode cX8_advance 0 = .ok (.aload_n 0, 1) := by decide +kernel
theorem dX8_advance_1 : decode cX8_advance 1 = .ok (.getfield 48, 3) := by decide +kernel
theorem dX8_advance_4 : decode cX8_advance 4 = .ok (.iconst 1, 1) := by decide +kernel
theorem dX8_advance_5 : decode cX8_advance 5 = .ok (.if_icmp .eq 11, 3) := by decide +kernel
theorem dX8_advance_8 : decode cX8_advance 8 = .ok (.aload_n 0, 1) := by decide +kernel
theorem dX8_advance_9 : decode cX8_advance 9 = .ok (.getfield 48, 3) := by decide +kernel
theorem dX8_advance_12 : decode cX8_advance 12 = .ok (.iconst 2, 1) := by decide +kernel
theorem dX8_advance_13 : decode cX8_advance 13 = .ok (.if_icmp .ne 7, 3) := by decide +kernel
theorem dX8_advance_16 : decode cX8_advance 16 = .ok (.iconst 1, 1) := by decide +kernel
theorem dX8_advance_17 : decode cX8_advance 17 = .ok (.goto 4, 3) := by decide +kernel
theorem dX8_advance_20 : decode cX8_advance 20 = .ok (.iconst 0, 1) := by decide +kernel
theorem dX8_advance_21 : decode cX8_advance 21 = .ok (.istore_n 1, 1) := by decide +kernel
theorem dX8_advance_22 : decode cX8_advance 22 = .ok (.aload_n 0, 1) := by decide +kernel
theorem dX8_advance_23 : decode cX8_advance 23 = .ok (.getfield 51, 3) := by decide +kernel
theorem dX8_advance_26 : decode cX8_advance 26 = .ok (.istore_n 2, 1) := by decide +kernel
theorem dX8_advance_27 : decode cX8_advance 27 = .ok (.aload_n 0, 1) := by decide +kernel
theorem dX8_advance_28 : decode cX8_advance 28 = .ok (.aload_n 0, 1) := by decide +kernel
theorem dX8_advance_29 : decode cX8_advance 29 = .ok (.getfield 51, 3) := by decide +kernel
theorem dX8_advance_32 : decode cX8_advance 32 = .ok (.putfield 57, 3) := by decide +kernel
theorem dX8_advance_35 : decode cX8_advance 35 = .ok (.aload_n 0, 1) := by decide +kernel
theorem dX8_advance_36 : decode cX8_advance 36 = .ok (.getfield 57, 3) := by decide +kernel
theorem dX8_advance_39 : decode cX8_advance 39 = .ok (.aload_n 0, 1) := by decide +kernel
theorem dX8_advance_40 : decode cX8_advance 40 = .ok (.getfield 9, 3) := by decide +kernel
theorem dX8_advance_43 : decode cX8_advance 43 = .ok (.getfield 64, 3) := by decide +kernel
theorem dX8_advance_46 : decode cX8_advance 46 = .ok (.if_icmp .ge 50, 3) := by decide +kernel
theorem dX8_advance_49 : decode cX8_advance 49 = .ok (.aload_n 0, 1) := by decide +kernel
theorem dX8_advance_50 : decode cX8_advance 50 = .ok (.getfield 9, 3) := by decide +kernel
theorem dX8_advance_53 : decode cX8_advance 53 = .ok (.getfield 69, 3) := by decide +kernel
theorem dX8_advance_56 : decode cX8_advance 56 = .ok (.aload_n 0, 1) := by decide +kernel
theorem dX8_advance_57 : decode cX8_advance 57 = .ok (.getfield 57, 3) := by decide +kernel
theorem dX8_advance_60 : decode cX8_advance 60 = .ok (.baload, 1) := by decide +kernel
theorem dX8_advance_61 : decode cX8_advance 61 = .ok (.bipush 10, 2) := by decide +kernel
theorem dX8_advance_63 : decode cX8_advance 63 = .ok (.if_icmp .eq 20, 3) := by decide +kernel
theorem dX8_advance_66 : decode cX8_advance 66 = .ok (.aload_n 0, 1) := by decide +kernel
theorem dX8_advance_67 : decode cX8_advance 67 = .ok (.getfield 9, 3) := by decide +kernel
theorem dX8_advance_70 : decode cX8_advance 70 = .ok (.getfield 69, 3) := by decide +kernel
theorem dX8_advance_73 : decode cX8_advance 73 = .ok (.aload_n 0, 1) := by decide +kernel
theorem dX8_advance_74 : decode cX8_advance 74 = .ok (.getfield 57, 3) := by decide +kernel
theorem dX8_advance_77 : decode cX8_advance 77 = .ok (.baload, 1) := by decide +kernel
theorem dX8_advance_78 : decode cX8_advance 78 = .ok (.bipush 32, 2) := by decide +kernel
theorem dX8_advance_80 : decode cX8_advance 80 = .ok (.if_icmp .ne 16, 3) := by decide +kernel
theorem dX8_advance_83 : decode cX8_advance 83 = .ok (.aload_n 0, 1) := by decide +kernel
theorem dX8_advance_84 : decode cX8_advance 84 = .ok (.dup, 1) := by decide +kernel
theorem dX8_advance_85 : decode cX8_advance 85 = .ok (.getfield 57, 3) := by decide +kernel
theorem dX8_advance_88 : decode cX8_advance 88 = .ok (.iconst 1, 1) := by decide +kernel
theorem dX8_advance_89 : decode cX8_advance 89 = .ok (.iadd, 1) := by decide +kernel
theorem dX8_advance_90 : decode cX8_advance 90 = .ok (.putfield 57, 3) := by decide +kernel
theorem dX8_advance_93 : decode cX8_advance 93 = .ok (.goto (-58), 3) := by decide +kernel
theorem dX8_advance_96 : decode cX8_advance 96 = .ok (.aload_n 0, 1) := by decide +kernel
theorem dX8_advance_97 : decode cX8_advance 97 = .ok (.aload_n 0, 1) := by decide +kernel
theorem dX8_advance_98 : decode cX8_advance 98 = .ok (.getfield 57, 3) := by decide +kernel
theorem dX8_advance_101 : decode cX8_advance 101 = .ok (.putfield 51, 3) := by decide +kernel
theorem dX8_advance_104 : decode cX8_advance 104 = .ok (.aload_n 0, 1) := by decide +kernel
theorem dX8_advance_105 : decode cX8_advance 105 = .ok (.getfield 57, 3) := by decide +kernel
theorem dX8_advance_108 : decode cX8_advance 108 = .ok (.aload_n 0, 1) := by decide +kernel
theorem dX8_advance_109 : decode cX8_advance 109 = .ok (.getfield 9, 3) := by decide +kernel
theorem dX8_advance_112 : decode cX8_advance 112 = .ok (.getfield 64, 3) := by decide +kernel
theorem dX8_advance_115 : decode cX8_advance 115 = .ok (.if_icmp .lt 9, 3) := by decide +kernel
theorem dX8_advance_118 : decode cX8_advance 118 = .ok (.aload_n 0, 1) := by decide +kernel
theorem dX8_advance_119 : decode cX8_advance 119 = .ok (.iconst 0, 1) := by decide +kernel
theorem dX8_advance_120 : decode cX8_advance 120 = .ok (.putfield 48, 3) := by decide +kernel
theorem dX8_advance_123 : decode cX8_advance 123 = .ok (.return_, 1) := by decide +kernel
theorem dX8_advance_124 : decode cX8_advance 124 = .ok (.aload_n 0, 1) := by decide +kernel
theorem dX8_advance_125 : decode cX8_advance 125 = .ok (.getfield 9, 3) := by decide +kernel
theorem dX8_advance_128 : decode cX8_advance 128 = .ok (.getfield 69, 3) := by decide +kernel
theorem dX8_advance_131 : decode cX8_advance 131 = .ok (.aload_n 0, 1) := by decide +kernel
theorem dX8_advance_132 : decode cX8_advance 132 = .ok (.getfield 57, 3) := by decide +kernel
theorem dX8_advance_135 : decode cX8_advance 135 = .ok (.baload, 1) := by decide +kernel
theorem dX8_advance_136 : decode cX8_advance 136 = .ok (.istore_n 3, 1) := by decide +kernel
theorem dX8_advance_137 : decode cX8_advance 137 = .ok (.aload_n 0, 1) := by decide +kernel
theorem dX8_advance_138 : decode cX8_advance 138 = .ok (.iload_n 3, 1) := by decide +kernel
theorem dX8_advance_139 : decode cX8_advance 139 = .ok (.bipush 97, 2) := by decide +kernel
theorem dX8_advance_141 : decode cX8_advance 141 = .ok (.if_icmp .lt 13, 3) := by decide +kernel
theorem dX8_advance_144 : decode cX8_advance 144 = .ok (.iload_n 3, 1) := by decide +kernel
theorem dX8_advance_145 : decode cX8_advance 145 = .ok (.bipush 122, 2) := by decide +kernel
theorem dX8_advance_147 : decode cX8_advance 147 = .ok (.if_icmp .gt 7, 3) := by decide +kernel
theorem dX8_advance_150 : decode cX8_advance 150 = .ok (.iconst 1, 1) := by decide +kernel
theorem dX8_advance_151 : decode cX8_advance 151 = .ok (.goto 20, 3) := by decide +kernel
theorem dX8_advance_154 : decode cX8_advance 154 = .ok (.iload_n 3, 1) := by decide +kernel
theorem dX8_advance_155 : decode cX8_advance 155 = .ok (.bipush 48, 2) := by decide +kernel
theorem dX8_advance_157 : decode cX8_advance 157 = .ok (.if_icmp .lt 13, 3) := by decide +kernel
theorem dX8_advance_160 : decode cX8_advance 160 = .ok (.iload_n 3, 1) := by decide +kernel
theorem dX8_advance_161 : decode cX8_advance 161 = .ok (.bipush 57, 2) := by decide +kernel
theorem dX8_advance_163 : decode cX8_advance 163 = .ok (.if_icmp .gt 7, 3) := by decide +kernel
theorem dX8_advance_166 : decode cX8_advance 166 = .ok (.iconst 2, 1) := by decide +kernel
theorem dX8_advance_167 : decode cX8_advance 167 = .ok (.goto 4, 3) := by decide +kernel
theorem dX8_advance_170 : decode cX8_advance 170 = .ok (.iconst 3, 1) := by decide +kernel
theorem dX8_advance_171 : decode cX8_advance 171 = .ok (.putfield 48, 3) := by decide +kernel
theorem dX8_advance_174 : decode cX8_advance 174 = .ok (.aload_n 0, 1) := by decide +kernel
theorem dX8_advance_175 : decode cX8_advance 175 = .ok (.getfield 48, 3) := by decide +kernel
theorem dX8_advance_178 : decode cX8_advance 178 = .ok (.iconst 3, 1) := by decide +kernel
theorem dX8_advance_179 : decode cX8_advance 179 = .ok (.if_icmp .ne 19, 3) := by decide +kernel
theorem dX8_advance_182 : decode cX8_advance 182 = .ok (.aload_n 0, 1) := by decide +kernel
theorem dX8_advance_183 : decode cX8_advance 183 = .ok (.iload_n 3, 1) := by decide +kernel
theorem dX8_advance_184 : decode cX8_advance 184 = .ok (.putfield 73, 3) := by decide +kernel
theorem dX8_advance_187 : decode cX8_advance 187 = .ok (.aload_n 0, 1) := by decide +kernel
theorem dX8_advance_188 : decode cX8_advance 188 = .ok (.dup, 1) := by decide +kernel
theorem dX8_advance_189 : decode cX8_advance 189 = .ok (.getfield 51, 3) := by decide +kernel
theorem dX8_advance_192 : decode cX8_advance 192 = .ok (.iconst 1, 1) := by decide +kernel
theorem dX8_advance_193 : decode cX8_advance 193 = .ok (.iadd, 1) := by decide +kernel
theorem dX8_advance_194 : decode cX8_advance 194 = .ok (.putfield 51, 3) := by decide +kernel
theorem dX8_advance_197 : decode cX8_advance 197 = .ok (.return_, 1) := by decide +kernel
theorem dX8_advance_198 : decode cX8_advance 198 = .ok (.iload_n 1, 1) := by decide +kernel
theorem dX8_advance_199 : decode cX8_advance 199 = .ok (.ifCond .eq 17, 3) := by decide +kernel
theorem dX8_advance_202 : decode cX8_advance 202 = .ok (.aload_n 0, 1) := by decide +kernel
theorem dX8_advance_203 : decode cX8_advance 203 = .ok (.getfield 57, 3) := by decide +kernel
theorem dX8_advance_206 : decode cX8_advance 206 = .ok (.iload_n 2, 1) := by decide +kernel
theorem dX8_advance_207 : decode cX8_advance 207 = .ok (.if_icmp .ne 9, 3) := by decide +kernel
theorem dX8_advance_210 : decode cX8_advance 210 = .ok (.aload_n 0, 1) := by decide +kernel
theorem dX8_advance_211 : decode cX8_advance 211 = .ok (.iconst 4, 1) := by decide +kernel
theorem dX8_advance_212 : decode cX8_advance 212 = .ok (.putfield 48, 3) := by decide +kernel
theorem dX8_advance_215 : decode cX8_advance 215 = .ok (.return_, 1) := by decide +kernel
theorem dX8_advance_216 : decode cX8_advance 216 = .ok (.aload_n 0, 1) := by decide +kernel
theorem dX8_advance_217 : decode cX8_advance 217 = .ok (.iconst 0, 1) := by decide +kernel
theorem dX8_advance_218 : decode cX8_advance 218 = .ok (.putfield 73, 3) := by decide +kernel
theorem dX8_advance_221 : decode cX8_advance 221 = .ok (.aload_n 0, 1) := by decide +kernel
theorem dX8_advance_222 : decode cX8_advance 222 = .ok (.getfield 48, 3) := by decide +kernel
theorem dX8_advance_225 : decode cX8_advance 225 = .ok (.iconst 1, 1) := by decide +kernel
theorem dX8_advance_226 : decode cX8_advance 226 = .ok (.if_icmp .ne 8, 3) := by decide +kernel
theorem dX8_advance_229 : decode cX8_advance 229 = .ok (.bipush 97, 2) := by decide +kernel
theorem dX8_advance_231 : decode cX8_advance 231 = .ok (.goto 5, 3) := by decide +kernel
theorem dX8_advance_234 : decode cX8_advance 234 = .ok (.bipush 48, 2) := by decide +kernel
theorem dX8_advance_236 : decode cX8_advance 236 = .ok (.istore 4, 2) := by decide +kernel
theorem dX8_advance_238 : decode cX8_advance 238 = .ok (.aload_n 0, 1) := by decide +kernel
theorem dX8_advance_239 : decode cX8_advance 239 = .ok (.getfield 48, 3) := by decide +kernel
theorem dX8_advance_242 : decode cX8_advance 242 = .ok (.iconst 1, 1) := by decide +kernel
theorem dX8_advance_243 : decode cX8_advance 243 = .ok (.if_icmp .ne 8, 3) := by decide +kernel
theorem dX8_advance_246 : decode cX8_advance 246 = .ok (.bipush 122, 2) := by decide +kernel
theorem dX8_advance_248 : decode cX8_advance 248 = .ok (.goto 5, 3) := by decide +kernel
theorem dX8_advance_251 : decode cX8_advance 251 = .ok (.bipush 57, 2) := by decide +kernel
theorem dX8_advance_253 : decode cX8_advance 253 = .ok (.istore 5, 2) := by decide +kernel
theorem dX8_advance_255 : decode cX8_advance 255 = .ok (.aload_n 0, 1) := by decide +kernel
theorem dX8_advance_256 : decode cX8_advance 256 = .ok (.getfield 51, 3) := by decide +kernel
theorem dX8_advance_259 : decode cX8_advance 259 = .ok (.aload_n 0, 1) := by decide +kernel
theorem dX8_advance_260 : decode cX8_advance 260 = .ok (.getfield 9, 3) := by decide +kernel
theorem dX8_advance_263 : decode cX8_advance 263 = .ok (.getfield 64, 3) := by decide +kernel
theorem dX8_advance_266 : decode cX8_advance 266 = .ok (.if_icmp .ge 144, 3) := by decide +kernel
theorem dX8_advance_269 : decode cX8_advance 269 = .ok (.aload_n 0, 1) := by decide +kernel
theorem dX8_advance_270 : decode cX8_advance 270 = .ok (.getfield 9, 3) := by decide +kernel
theorem dX8_advance_273 : decode cX8_advance 273 = .ok (.getfield 69, 3) := by decide +kernel
theorem dX8_advance_276 : decode cX8_advance 276 = .ok (.aload_n 0, 1) := by decide +kernel
theorem dX8_advance_277 : decode cX8_advance 277 = .ok (.getfield 51, 3) := by decide +kernel
theorem dX8_advance_280 : decode cX8_advance 280 = .ok (.baload, 1) := by decide +kernel
theorem dX8_advance_281 : decode cX8_advance 281 = .ok (.iload 4, 2) := by decide +kernel
theorem dX8_advance_283 : decode cX8_advance 283 = .ok (.if_icmp .lt 127, 3) := by decide +kernel
theorem dX8_advance_286 : decode cX8_advance 286 = .ok (.aload_n 0, 1) := by decide +kernel
theorem dX8_advance_287 : decode cX8_advance 287 = .ok (.getfield 9, 3) := by decide +kernel
theorem dX8_advance_290 : decode cX8_advance 290 = .ok (.getfield 69, 3) := by decide +kernel
theorem dX8_advance_293 : decode cX8_advance 293 = .ok (.aload_n 0, 1) := by decide +kernel
theorem dX8_advance_294 : decode cX8_advance 294 = .ok (.getfield 51, 3) := by decide +kernel
theorem dX8_advance_297 : decode cX8_advance 297 = .ok (.baload, 1) := by decide +kernel
theorem dX8_advance_298 : decode cX8_advance 298 = .ok (.iload 5, 2) := by decide +kernel
theorem dX8_advance_300 : decode cX8_advance 300 = .ok (.if_icmp .gt 110, 3) := by decide +kernel
theorem dX8_advance_303 : decode cX8_advance 303 = .ok (.aload_n 0, 1) := by decide +kernel
theorem dX8_advance_304 : decode cX8_advance 304 = .ok (.getfield 9, 3) := by decide +kernel
theorem dX8_advance_307 : decode cX8_advance 307 = .ok (.getfield 69, 3) := by decide +kernel
theorem dX8_advance_310 : decode cX8_advance 310 = .ok (.aload_n 0, 1) := by decide +kernel
theorem dX8_advance_311 : decode cX8_advance 311 = .ok (.getfield 51, 3) := by decide +kernel
theorem dX8_advance_314 : decode cX8_advance 314 = .ok (.baload, 1) := by decide +kernel
theorem dX8_advance_315 : decode cX8_advance 315 = .ok (.iload 4, 2) := by decide +kernel
theorem dX8_advance_317 : decode cX8_advance 317 = .ok (.isub, 1) := by decide +kernel
theorem dX8_advance_318 : decode cX8_advance 318 = .ok (.istore 6, 2) := by decide +kernel
theorem dX8_advance_320 : decode cX8_advance 320 = .ok (.aload_n 0, 1) := by decide +kernel
theorem dX8_advance_321 : decode cX8_advance 321 = .ok (.getfield 51, 3) := by decide +kernel
theorem dX8_advance_324 : decode cX8_advance 324 = .ok (.aload_n 0, 1) := by decide +kernel
theorem dX8_advance_325 : decode cX8_advance 325 = .ok (.getfield 57, 3) := by decide +kernel
theorem dX8_advance_328 : decode cX8_advance 328 = .ok (.isub, 1) := by decide +kernel
theorem dX8_advance_329 : decode cX8_advance 329 = .ok (.istore 7, 2) := by decide +kernel
theorem dX8_advance_331 : decode cX8_advance 331 = .ok (.aload_n 0, 1) := by decide +kernel
theorem dX8_advance_332 : decode cX8_advance 332 = .ok (.getfield 48, 3) := by decide +kernel
theorem dX8_advance_335 : decode cX8_advance 335 = .ok (.iconst 1, 1) := by decide +kernel
theorem dX8_advance_336 : decode cX8_advance 336 = .ok (.if_icmp .ne 33, 3) := by decide +kernel
theorem dX8_advance_339 : decode cX8_advance 339 = .ok (.iload 7, 2) := by decide +kernel
theorem dX8_advance_341 : decode cX8_advance 341 = .ok (.bipush 6, 2) := by decide +kernel
theorem dX8_advance_343 : decode cX8_advance 343 = .ok (.if_icmp .ge 26, 3) := by decide +kernel
theorem dX8_advance_346 : decode cX8_advance 346 = .ok (.aload_n 0, 1) := by decide +kernel
theorem dX8_advance_347 : decode cX8_advance 347 = .ok (.dup, 1) := by decide +kernel
theorem dX8_advance_348 : decode cX8_advance 348 = .ok (.getfield 73, 3) := by decide +kernel
theorem dX8_advance_351 : decode cX8_advance 351 = .ok (.iload 6, 2) := by decide +kernel
theorem dX8_advance_353 : decode cX8_advance 353 = .ok (.iconst 1, 1) := by decide +kernel
theorem dX8_advance_354 : decode cX8_advance 354 = .ok (.iadd, 1) := by decide +kernel
theorem dX8_advance_355 : decode cX8_advance 355 = .ok (.iconst 5, 1) := by decide +kernel
theorem dX8_advance_356 : decode cX8_advance 356 = .ok (.iconst 5, 1) := by decide +kernel
theorem dX8_advance_357 : decode cX8_advance 357 = .ok (.iload 7, 2) := by decide +kernel
theorem dX8_advance_359 : decode cX8_advance 359 = .ok (.isub, 1) := by decide +kernel
theorem dX8_advance_360 : decode cX8_advance 360 = .ok (.imul, 1) := by decide +kernel
theorem dX8_advance_361 : decode cX8_advance 361 = .ok (.ishl, 1) := by decide +kernel
theorem dX8_advance_362 : decode cX8_advance 362 = .ok (.ior, 1) := by decide +kernel
theorem dX8_advance_363 : decode cX8_advance 363 = .ok (.putfield 73, 3) := by decide +kernel
theorem dX8_advance_366 : decode cX8_advance 366 = .ok (.goto 31, 3) := by decide +kernel
theorem dX8_advance_369 : decode cX8_advance 369 = .ok (.aload_n 0, 1) := by decide +kernel
theorem dX8_advance_370 : decode cX8_advance 370 = .ok (.getfield 48, 3) := by decide +kernel
theorem dX8_advance_373 : decode cX8_advance 373 = .ok (.iconst 2, 1) := by decide +kernel
theorem dX8_advance_374 : decode cX8_advance 374 = .ok (.if_icmp .ne 23, 3) := by decide +kernel
theorem dX8_advance_377 : decode cX8_advance 377 = .ok (.iload 7, 2) := by decide +kernel
theorem dX8_advance_379 : decode cX8_advance 379 = .ok (.iconst 4, 1) := by decide +kernel
theorem dX8_advance_380 : decode cX8_advance 380 = .ok (.if_icmp .ge 17, 3) := by decide +kernel
theorem dX8_advance_383 : decode cX8_advance 383 = .ok (.aload_n 0, 1) := by decide +kernel
theorem dX8_advance_384 : decode cX8_advance 384 = .ok (.aload_n 0, 1) := by decide +kernel
theorem dX8_advance_385 : decode cX8_advance 385 = .ok (.getfield 73, 3) := by decide +kernel
theorem dX8_advance_388 : decode cX8_advance 388 = .ok (.bipush 10, 2) := by decide +kernel
theorem dX8_advance_390 : decode cX8_advance 390 = .ok (.imul, 1) := by decide +kernel
theorem dX8_advance_391 : decode cX8_advance 391 = .ok (.iload 6, 2) := by decide +kernel
theorem dX8_advance_393 : decode cX8_advance 393 = .ok (.iadd, 1) := by decide +kernel
theorem dX8_advance_394 : decode cX8_advance 394 = .ok (.putfield 73, 3) := by decide +kernel
theorem dX8_advance_397 : decode cX8_advance 397 = .ok (.aload_n 0, 1) := by decide +kernel
theorem dX8_advance_398 : decode cX8_advance 398 = .ok (.dup, 1) := by decide +kernel
theorem dX8_advance_399 : decode cX8_advance 399 = .ok (.getfield 51, 3) := by decide +kernel
theorem dX8_advance_402 : decode cX8_advance 402 = .ok (.iconst 1, 1) := by decide +kernel
theorem dX8_advance_403 : decode cX8_advance 403 = .ok (.iadd, 1) := by decide +kernel
theorem dX8_advance_404 : decode cX8_advance 404 = .ok (.putfield 51, 3) := by decide +kernel
theorem dX8_advance_407 : decode cX8_advance 407 = .ok (.goto (-152), 3) := by decide +kernel
theorem dX8_advance_410 : decode cX8_advance 410 = .ok (.return_, 1) := by decide +kernel
theorem dX8_isSign_0 : decode cX8_isSign 0 = .ok (.aload_n 0, 1) := by decide +kernel
theorem dX8_isSign_1 : decode cX8_isSign 1 = .ok (.getfield 48, 3) := by decide +kernel
theorem dX8_isSign_4 : decode cX8_isSign 4 = .ok (.iconst 3, 1) := by decide +kernel
theorem dX8_isSign_5 : decode cX8_isSign 5 = .ok (.if_icmp .ne 15, 3) := by decide +kernel
theorem dX8_isSign_8 : decode cX8_isSign 8 = .ok (.aload_n 0, 1) := by decide +kernel
theorem dX8_isSign_9 : decode cX8_isSign 9 = .ok (.getfield 73, 3) := by decide +kernel
theorem dX8_isSign_12 : decode cX8_isSign 12 = .ok (.iload_n 1, 1) := by decide +kernel
theorem dX8_isSign_13 : decode cX8_isSign 13 = .ok (.if_icmp .ne 7, 3) := by decide +kernel
theorem dX8_isSign_16 : decode cX8_isSign 16 = .ok (.iconst 1, 1) := by decide +kernel
theorem dX8_isSign_17 : decode cX8_isSign 17 = .ok (.goto 4, 3) := by decide +kernel
theorem dX8_isSign_20 : decode cX8_isSign 20 = .ok (.iconst 0, 1) := by decide +kernel
theorem dX8_isSign_21 : decode cX8_isSign 21 = .ok (.ireturn, 1) := by decide +kernel
theorem dX8_isNumber_0 : decode cX8_isNumber 0 = .ok (.aload_n 0, 1) := by decide +kernel
theorem dX8_isNumber_1 : decode cX8_isNumber 1 = .ok (.getfield 48, 3) := by decide +kernel
theorem dX8_isNumber_4 : decode cX8_isNumber 4 = .ok (.iconst 2, 1) := by decide +kernel
theorem dX8_isNumber_5 : decode cX8_isNumber 5 = .ok (.if_icmp .ne 7, 3) := by decide +kernel
theorem dX8_isNumber_8 : decode cX8_isNumber 8 = .ok (.iconst 1, 1) := by decide +kernel
theorem dX8_isNumber_9 : decode cX8_isNumber 9 = .ok (.goto 4, 3) := by decide +kernel
theorem dX8_isNumber_12 : decode cX8_isNumber 12 = .ok (.iconst 0, 1) := by decide +kernel
theorem dX8_isNumber_13 : decode cX8_isNumber 13 = .ok (.ireturn, 1) := by decide +kernel
theorem dX8_isWord_0 : decode cX8_isWord 0 = .ok (.aload_n 0, 1) := by decide +kernel
theorem dX8_isWord_1 : decode cX8_isWord 1 = .ok (.getfield 48, 3) := by decide +kernel
theorem dX8_isWord_4 : decode cX8_isWord 4 = .ok (.iconst 1, 1) := by decide +kernel
theorem dX8_isWord_5 : decode cX8_isWord 5 = .ok (.if_icmp .ne 34, 3) := by decide +kernel
theorem dX8_isWord_8 : decode cX8_isWord 8 = .ok (.aload_n 0, 1) := by decide +kernel
theorem dX8_isWord_9 : decode cX8_isWord 9 = .ok (.getfield 51, 3) := by decide +kernel
theorem dX8_isWord_12 : decode cX8_isWord 12 = .ok (.aload_n 0, 1) := by decide +kernel
theorem dX8_isWord_13 : decode cX8_isWord 13 = .ok (.getfield 57, 3) := by decide +kernel
theorem dX8_isWord_16 : decode cX8_isWord 16 = .ok (.isub, 1) := by decide +kernel
theorem dX8_isWord_17 : decode cX8_isWord 17 = .ok (.bipush 6, 2) := by decide +kernel
theorem dX8_isWord_19 : decode cX8_isWord 19 = .ok (.if_icmp .gt 20, 3) := by decide +kernel
theorem dX8_isWord_22 : decode cX8_isWord 22 = .ok (.aload_n 0, 1) := by decide +kernel
theorem dX8_isWord_23 : decode cX8_isWord 23 = .ok (.getfield 73, 3) := by decide +kernel
theorem dX8_isWord_26 : decode cX8_isWord 26 = .ok (.aload_n 0, 1) := by decide +kernel
theorem dX8_isWord_27 : decode cX8_isWord 27 = .ok (.getfield 19, 3) := by decide +kernel
theorem dX8_isWord_30 : decode cX8_isWord 30 = .ok (.iload_n 1, 1) := by decide +kernel
theorem dX8_isWord_31 : decode cX8_isWord 31 = .ok (.iaload, 1) := by decide +kernel
theorem dX8_isWord_32 : decode cX8_isWord 32 = .ok (.if_icmp .ne 7, 3) := by decide +kernel
theorem dX8_isWord_35 : decode cX8_isWord 35 = .ok (.iconst 1, 1) := by decide +kernel
theorem dX8_isWord_36 : decode cX8_isWord 36 = .ok (.goto 4, 3) := by decide +kernel
theorem dX8_isWord_39 : decode cX8_isWord 39 = .ok (.iconst 0, 1) := by decide +kernel
theorem dX8_isWord_40 : decode cX8_isWord 40 = .ok (.ireturn, 1) := by decide +kernel
theorem dX8_word_0 : decode cX8_word 0 = .ok (.aload_n 0, 1) := by decide +kernel
theorem dX8_word_1 : decode cX8_word 1 = .ok (.getfield 48, 3) := by decide +kernel
theorem dX8_word_4 : decode cX8_word 4 = .ok (.iconst 1, 1) := by decide +kernel
theorem dX8_word_5 : decode cX8_word 5 = .ok (.if_icmp .ne 17, 3) := by decide +kernel
theorem dX8_word_8 : decode cX8_word 8 = .ok (.aload_n 0, 1) := by decide +kernel
theorem dX8_word_9 : decode cX8_word 9 = .ok (.getfield 51, 3) := by decide +kernel
theorem dX8_word_12 : decode cX8_word 12 = .ok (.aload_n 0, 1) := by decide +kernel
theorem dX8_word_13 : decode cX8_word 13 = .ok (.getfield 57, 3) := by decide +kernel
theorem dX8_word_16 : decode cX8_word 16 = .ok (.isub, 1) := by decide +kernel
theorem dX8_word_17 : decode cX8_word 17 = .ok (.bipush 6, 2) := by decide +kernel
theorem dX8_word_19 : decode cX8_word 19 = .ok (.if_icmp .le 5, 3) := by decide +kernel
theorem dX8_word_22 : decode cX8_word 22 = .ok (.iconst (-1), 1) := by decide +kernel
theorem dX8_word_23 : decode cX8_word 23 = .ok (.ireturn, 1) := by decide +kernel
theorem dX8_word_24 : decode cX8_word 24 = .ok (.iconst (-1), 1) := by decide +kernel
theorem dX8_word_25 : decode cX8_word 25 = .ok (.istore_n 1, 1) := by decide +kernel
theorem dX8_word_26 : decode cX8_word 26 = .ok (.iconst 0, 1) := by decide +kernel
theorem dX8_word_27 : decode cX8_word 27 = .ok (.istore_n 2, 1) := by decide +kernel
theorem dX8_word_28 : decode cX8_word 28 = .ok (.iload_n 2, 1) := by decide +kernel
theorem dX8_word_29 : decode cX8_word 29 = .ok (.bipush 39, 2) := by decide +kernel
theorem dX8_word_31 : decode cX8_word 31 = .ok (.if_icmp .ge 33, 3) := by decide +kernel
theorem dX8_word_34 : decode cX8_word 34 = .ok (.iload_n 1, 1) := by decide +kernel
theorem dX8_word_35 : decode cX8_word 35 = .ok (.iconst (-1), 1) := by decide +kernel
theorem dX8_word_36 : decode cX8_word 36 = .ok (.if_icmp .ne 28, 3) := by decide +kernel
theorem dX8_word_39 : decode cX8_word 39 = .ok (.aload_n 0, 1) := by decide +kernel
theorem dX8_word_40 : decode cX8_word 40 = .ok (.getfield 19, 3) := by decide +kernel
theorem dX8_word_43 : decode cX8_word 43 = .ok (.iload_n 2, 1) := by decide +kernel
theorem dX8_word_44 : decode cX8_word 44 = .ok (.iaload, 1) := by decide +kernel
theorem dX8_word_45 : decode cX8_word 45 = .ok (.aload_n 0, 1) := by decide +kernel
theorem dX8_word_46 : decode cX8_word 46 = .ok (.getfield 73, 3) := by decide +kernel
theorem dX8_word_49 : decode cX8_word 49 = .ok (.if_icmp .ne 7, 3) := by decide +kernel
theorem dX8_word_52 : decode cX8_word 52 = .ok (.iload_n 2, 1) := by decide +kernel
theorem dX8_word_53 : decode cX8_word 53 = .ok (.goto 4, 3) := by decide +kernel
theorem dX8_word_56 : decode cX8_word 56 = .ok (.iconst (-1), 1) := by decide +kernel
theorem dX8_word_57 : decode cX8_word 57 = .ok (.istore_n 1, 1) := by decide +kernel
theorem dX8_word_58 : decode cX8_word 58 = .ok (.iinc 2 1, 3) := by decide +kernel
theorem dX8_word_61 : decode cX8_word 61 = .ok (.goto (-33), 3) := by decide +kernel
theorem dX8_word_64 : decode cX8_word 64 = .ok (.iload_n 1, 1) := by decide +kernel
theorem dX8_word_65 : decode cX8_word 65 = .ok (.ireturn, 1) := by decide +kernel
theorem dX8_needSign_0 : decode cX8_needSign 0 = .ok (.aload_n 0, 1) := by decide +kernel
theorem dX8_needSign_1 : decode cX8_needSign 1 = .ok (.iload_n 1, 1) := by decide +kernel
theorem dX8_needSign_2 : decode cX8_needSign 2 = .ok (.invokevirtual 76, 3) := by decide +kernel
theorem dX8_needSign_5 : decode cX8_needSign 5 = .ok (.ifCond .eq 10, 3) := by decide +kernel
theorem dX8_needSign_8 : decode cX8_needSign 8 = .ok (.aload_n 0, 1) := by decide +kernel
theorem dX8_needSign_9 : decode cX8_needSign 9 = .ok (.invokevirtual 54, 3) := by decide +kernel
theorem dX8_needSign_12 : decode cX8_needSign 12 = .ok (.goto 12, 3) := by decide +kernel
theorem dX8_needSign_15 : decode cX8_needSign 15 = .ok (.aload_n 0, 1) := by decide +kernel
theorem dX8_needSign_16 : decode cX8_needSign 16 = .ok (.iconst 1, 1) := by decide +kernel
theorem dX8_needSign_17 : decode cX8_needSign 17 = .ok (.aload_n 0, 1) := by decide +kernel
theorem dX8_needSign_18 : decode cX8_needSign 18 = .ok (.getfield 57, 3) := by decide +kernel
theorem dX8_needSign_21 : decode cX8_needSign 21 = .ok (.invokevirtual 60, 3) := by decide +kernel
theorem dX8_needSign_24 : decode cX8_needSign 24 = .ok (.return_, 1) := by decide +kernel
theorem dX8_needWord_0 : decode cX8_needWord 0 = .ok (.aload_n 0, 1) := by decide +kernel
theorem dX8_needWord_1 : decode cX8_needWord 1 = .ok (.iload_n 1, 1) := by decide +kernel
theorem dX8_needWord_2 : decode cX8_needWord 2 = .ok (.invokevirtual 80, 3) := by decide +kernel
theorem dX8_needWord_5 : decode cX8_needWord 5 = .ok (.ifCond .eq 10, 3) := by decide +kernel
theorem dX8_needWord_8 : decode cX8_needWord 8 = .ok (.aload_n 0, 1) := by decide +kernel
theorem dX8_needWord_9 : decode cX8_needWord 9 = .ok (.invokevirtual 54, 3) := by decide +kernel
theorem dX8_needWord_12 : decode cX8_needWord 12 = .ok (.goto 12, 3) := by decide +kernel
theorem dX8_needWord_15 : decode cX8_needWord 15 = .ok (.aload_n 0, 1) := by decide +kernel
theorem dX8_needWord_16 : decode cX8_needWord 16 = .ok (.iconst 1, 1) := by decide +kernel
theorem dX8_needWord_17 : decode cX8_needWord 17 = .ok (.aload_n 0, 1) := by decide +kernel
theorem dX8_needWord_18 : decode cX8_needWord 18 = .ok (.getfield 57, 3) := by decide +kernel
theorem dX8_needWord_21 : decode cX8_needWord 21 = .ok (.invokevirtual 60, 3) := by decide +kernel
theorem dX8_needWord_24 : decode cX8_needWord 24 = .ok (.return_, 1) := by decide +kernel
theorem dX8_takeNumber_0 : decode cX8_takeNumber 0 = .ok (.aload_n 0, 1) := by decide +kernel
theorem dX8_takeNumber_1 : decode cX8_takeNumber 1 = .ok (.getfield 48, 3) := by decide +kernel
theorem dX8_takeNumber_4 : decode cX8_takeNumber 4 = .ok (.iconst 2, 1) := by decide +kernel
theorem dX8_takeNumber_5 : decode cX8_takeNumber 5 = .ok (.if_icmp .eq 15, 3) := by decide +kernel
theorem dX8_takeNumber_8 : decode cX8_takeNumber 8 = .ok (.aload_n 0, 1) := by decide +kernel
theorem dX8_takeNumber_9 : decode cX8_takeNumber 9 = .ok (.iconst 1, 1) := by decide +kernel
theorem dX8_takeNumber_10 : decode cX8_takeNumber 10 = .ok (.aload_n 0, 1) := by decide +kernel
theorem dX8_takeNumber_11 : decode cX8_takeNumber 11 = .ok (.getfield 57, 3) := by decide +kernel
theorem dX8_takeNumber_14 : decode cX8_takeNumber 14 = .ok (.invokevirtual 60, 3) := by decide +kernel
theorem dX8_takeNumber_17 : decode cX8_takeNumber 17 = .ok (.goto 69, 3) := by decide +kernel
theorem dX8_takeNumber_20 : decode cX8_takeNumber 20 = .ok (.aload_n 0, 1) := by decide +kernel
theorem dX8_takeNumber_21 : decode cX8_takeNumber 21 = .ok (.getfield 51, 3) := by decide +kernel
theorem dX8_takeNumber_24 : decode cX8_takeNumber 24 = .ok (.aload_n 0, 1) := by decide +kernel
theorem dX8_takeNumber_25 : decode cX8_takeNumber 25 = .ok (.getfield 57, 3) := by decide +kernel
theorem dX8_takeNumber_28 : decode cX8_takeNumber 28 = .ok (.isub, 1) := by decide +kernel
theorem dX8_takeNumber_29 : decode cX8_takeNumber 29 = .ok (.iconst 4, 1) := by decide +kernel
theorem dX8_takeNumber_30 : decode cX8_takeNumber 30 = .ok (.if_icmp .le 17, 3) := by decide +kernel
theorem dX8_takeNumber_33 : decode cX8_takeNumber 33 = .ok (.aload_n 0, 1) := by decide +kernel
theorem dX8_takeNumber_34 : decode cX8_takeNumber 34 = .ok (.iconst 1, 1) := by decide +kernel
theorem dX8_takeNumber_35 : decode cX8_takeNumber 35 = .ok (.aload_n 0, 1) := by decide +kernel
theorem dX8_takeNumber_36 : decode cX8_takeNumber 36 = .ok (.getfield 57, 3) := by decide +kernel
theorem dX8_takeNumber_39 : decode cX8_takeNumber 39 = .ok (.iconst 4, 1) := by decide +kernel
theorem dX8_takeNumber_40 : decode cX8_takeNumber 40 = .ok (.iadd, 1) := by decide +kernel
theorem dX8_takeNumber_41 : decode cX8_takeNumber 41 = .ok (.invokevirtual 60, 3) := by decide +kernel
theorem dX8_takeNumber_44 : decode cX8_takeNumber 44 = .ok (.goto 42, 3) := by decide +kernel
theorem dX8_takeNumber_47 : decode cX8_takeNumber 47 = .ok (.aload_n 0, 1) := by decide +kernel
theorem dX8_takeNumber_48 : decode cX8_takeNumber 48 = .ok (.getfield 73, 3) := by decide +kernel
theorem dX8_takeNumber_51 : decode cX8_takeNumber 51 = .ok (.iload_n 1, 1) := by decide +kernel
theorem dX8_takeNumber_52 : decode cX8_takeNumber 52 = .ok (.if_icmp .lt 11, 3) := by decide +kernel
theorem dX8_takeNumber_55 : decode cX8_takeNumber 55 = .ok (.aload_n 0, 1) := by decide +kernel
theorem dX8_takeNumber_56 : decode cX8_takeNumber 56 = .ok (.getfield 73, 3) := by decide +kernel
theorem dX8_takeNumber_59 : decode cX8_takeNumber 59 = .ok (.iload_n 2, 1) := by decide +kernel
theorem dX8_takeNumber_60 : decode cX8_takeNumber 60 = .ok (.if_icmp .le 15, 3) := by decide +kernel
theorem dX8_takeNumber_63 : decode cX8_takeNumber 63 = .ok (.aload_n 0, 1) := by decide +kernel
theorem dX8_takeNumber_64 : decode cX8_takeNumber 64 = .ok (.iconst 2, 1) := by decide +kernel
theorem dX8_takeNumber_65 : decode cX8_takeNumber 65 = .ok (.aload_n 0, 1) := by decide +kernel
theorem dX8_takeNumber_66 : decode cX8_takeNumber 66 = .ok (.getfield 57, 3) := by decide +kernel
theorem dX8_takeNumber_69 : decode cX8_takeNumber 69 = .ok (.invokevirtual 60, 3) := by decide +kernel
theorem dX8_takeNumber_72 : decode cX8_takeNumber 72 = .ok (.goto 14, 3) := by decide +kernel
theorem dX8_takeNumber_75 : decode cX8_takeNumber 75 = .ok (.aload_n 0, 1) := by decide +kernel
theorem dX8_takeNumber_76 : decode cX8_takeNumber 76 = .ok (.getfield 73, 3) := by decide +kernel
theorem dX8_takeNumber_79 : decode cX8_takeNumber 79 = .ok (.istore_n 3, 1) := by decide +kernel
theorem dX8_takeNumber_80 : decode cX8_takeNumber 80 = .ok (.aload_n 0, 1) := by decide +kernel
theorem dX8_takeNumber_81 : decode cX8_takeNumber 81 = .ok (.invokevirtual 54, 3) := by decide +kernel
theorem dX8_takeNumber_84 : decode cX8_takeNumber 84 = .ok (.iload_n 3, 1) := by decide +kernel
theorem dX8_takeNumber_85 : decode cX8_takeNumber 85 = .ok (.ireturn, 1) := by decide +kernel
theorem dX8_takeNumber_86 : decode cX8_takeNumber 86 = .ok (.iconst 0, 1) := by decide +kernel
theorem dX8_takeNumber_87 : decode cX8_takeNumber 87 = .ok (.ireturn, 1) := by decide +kernel
theorem dX8_takeName_0 : decode cX8_takeName 0 = .ok (.aload_n 0, 1) := by decide +kernel
theorem dX8_takeName_1 : decode cX8_takeName 1 = .ok (.invokevirtual 83, 3) := by decide +kernel
theorem dX8_takeName_4 : decode cX8_takeName 4 = .ok (.istore_n 1, 1) := by decide +kernel
theorem dX8_takeName_5 : decode cX8_takeName 5 = .ok (.aload_n 0, 1) := by decide +kernel
theorem dX8_takeName_6 : decode cX8_takeName 6 = .ok (.getfield 48, 3) := by decide +kernel
theorem dX8_takeName_9 : decode cX8_takeName 9 = .ok (.iconst 1, 1) := by decide +kernel
theorem dX8_takeName_10 : decode cX8_takeName 10 = .ok (.if_icmp .ne 14, 3) := by decide +kernel
theorem dX8_takeName_13 : decode cX8_takeName 13 = .ok (.iload_n 1, 1) := by decide +kernel
theorem dX8_takeName_14 : decode cX8_takeName 14 = .ok (.iconst (-1), 1) := by decide +kernel
theorem dX8_takeName_15 : decode cX8_takeName 15 = .ok (.if_icmp .eq 21, 3) := by decide +kernel
theorem dX8_takeName_18 : decode cX8_takeName 18 = .ok (.iload_n 1, 1) := by decide +kernel
theorem dX8_takeName_19 : decode cX8_takeName 19 = .ok (.bipush 33, 2) := by decide +kernel
theorem dX8_takeName_21 : decode cX8_takeName 21 = .ok (.if_icmp .ge 15, 3) := by decide +kernel
theorem dX8_takeName_24 : decode cX8_takeName 24 = .ok (.aload_n 0, 1) := by decide +kernel
theorem dX8_takeName_25 : decode cX8_takeName 25 = .ok (.iconst 1, 1) := by decide +kernel
theorem dX8_takeName_26 : decode cX8_takeName 26 = .ok (.aload_n 0, 1) := by decide +kernel
theorem dX8_takeName_27 : decode cX8_takeName 27 = .ok (.getfield 57, 3) := by decide +kernel
theorem dX8_takeName_30 : decode cX8_takeName 30 = .ok (.invokevirtual 60, 3) := by decide +kernel
theorem dX8_takeName_33 : decode cX8_takeName 33 = .ok (.goto 43, 3) := by decide +kernel
theorem dX8_takeName_36 : decode cX8_takeName 36 = .ok (.aload_n 0, 1) := by decide +kernel
theorem dX8_takeName_37 : decode cX8_takeName 37 = .ok (.getfield 51, 3) := by decide +kernel
theorem dX8_takeName_40 : decode cX8_takeName 40 = .ok (.aload_n 0, 1) := by decide +kernel
theorem dX8_takeName_41 : decode cX8_takeName 41 = .ok (.getfield 57, 3) := by decide +kernel
theorem dX8_takeName_44 : decode cX8_takeName 44 = .ok (.isub, 1) := by decide +kernel
theorem dX8_takeName_45 : decode cX8_takeName 45 = .ok (.bipush 6, 2) := by decide +kernel
theorem dX8_takeName_47 : decode cX8_takeName 47 = .ok (.if_icmp .le 18, 3) := by decide +kernel
theorem dX8_takeName_50 : decode cX8_takeName 50 = .ok (.aload_n 0, 1) := by decide +kernel
theorem dX8_takeName_51 : decode cX8_takeName 51 = .ok (.iconst 1, 1) := by decide +kernel
theorem dX8_takeName_52 : decode cX8_takeName 52 = .ok (.aload_n 0, 1) := by decide +kernel
theorem dX8_takeName_53 : decode cX8_takeName 53 = .ok (.getfield 57, 3) := by decide +kernel
theorem dX8_takeName_56 : decode cX8_takeName 56 = .ok (.bipush 6, 2) := by decide +kernel
theorem dX8_takeName_58 : decode cX8_takeName 58 = .ok (.iadd, 1) := by decide +kernel
theorem dX8_takeName_59 : decode cX8_takeName 59 = .ok (.invokevirtual 60, 3) := by decide +kernel
theorem dX8_takeName_62 : decode cX8_takeName 62 = .ok (.goto 14, 3) := by decide +kernel
theorem dX8_takeName_65 : decode cX8_takeName 65 = .ok (.aload_n 0, 1) := by decide +kernel
theorem dX8_takeName_66 : decode cX8_takeName 66 = .ok (.getfield 73, 3) := by decide +kernel
theorem dX8_takeName_69 : decode cX8_takeName 69 = .ok (.istore_n 2, 1) := by decide +kernel
theorem dX8_takeName_70 : decode cX8_takeName 70 = .ok (.aload_n 0, 1) := by decide +kernel
theorem dX8_takeName_71 : decode cX8_takeName 71 = .ok (.invokevirtual 54, 3) := by decide +kernel
theorem dX8_takeName_74 : decode cX8_takeName 74 = .ok (.iload_n 2, 1) := by decide +kernel
theorem dX8_takeName_75 : decode cX8_takeName 75 = .ok (.ireturn, 1) := by decide +kernel
theorem dX8_takeName_76 : decode cX8_takeName 76 = .ok (.iconst 0, 1) := by decide +kernel
theorem dX8_takeName_77 : decode cX8_takeName 77 = .ok (.ireturn, 1) := by decide +kernel
theorem dX9_init_0 : decode cX9_init 0 = .ok (.aload_n 0, 1) := by decide +kernel
theorem dX9_init_1 : decode cX9_init 1 = .ok (.invokespecial 3, 3) := by decide +kernel
theorem dX9_init_4 : decode cX9_init 4 = .ok (.aload_n 0, 1) := by decide +kernel
theorem dX9_init_5 : decode cX9_init 5 = .ok (.bipush 12, 2) := by decide +kernel
theorem dX9_init_7 : decode cX9_init 7 = .ok (.newarray .int, 2) := by decide +kernel
theorem dX9_init_9 : decode cX9_init 9 = .ok (.putfield 9, 3) := by decide +kernel
theorem dX9_init_12 : decode cX9_init 12 = .ok (.aload_n 0, 1) := by decide +kernel
theorem dX9_init_13 : decode cX9_init 13 = .ok (.aload_n 1, 1) := by decide +kernel
theorem dX9_init_14 : decode cX9_init 14 = .ok (.putfield 15, 3) := by decide +kernel
theorem dX9_init_17 : decode cX9_init 17 = .ok (.aload_n 0, 1) := by decide +kernel
theorem dX9_init_18 : decode cX9_init 18 = .ok (.aload_n 2, 1) := by decide +kernel
theorem dX9_init_19 : decode cX9_init 19 = .ok (.putfield 19, 3) := by decide +kernel
theorem dX9_init_22 : decode cX9_init 22 = .ok (.return_, 1) := by decide +kernel
theorem dX9_go_0 : decode cX9_go 0 = .ok (.aload_n 0, 1) := by decide +kernel
theorem dX9_go_1 : decode cX9_go 1 = .ok (.getfield 19, 3) := by decide +kernel
theorem dX9_go_4 : decode cX9_go 4 = .ok (.aload_n 1, 1) := by decide +kernel
theorem dX9_go_5 : decode cX9_go 5 = .ok (.if_acmp .ne 44, 3) := by decide +kernel
theorem dX9_go_8 : decode cX9_go 8 = .ok (.aload_n 0, 1) := by decide +kernel
theorem dX9_go_9 : decode cX9_go 9 = .ok (.getfield 23, 3) := by decide +kernel
theorem dX9_go_12 : decode cX9_go 12 = .ok (.lload_n 2, 1) := by decide +kernel
theorem dX9_go_13 : decode cX9_go 13 = .ok (.lcmp, 1) := by decide +kernel
theorem dX9_go_14 : decode cX9_go 14 = .ok (.ifCond .ne 35, 3) := by decide +kernel
theorem dX9_go_17 : decode cX9_go 17 = .ok (.aload_n 0, 1) := by decide +kernel
theorem dX9_go_18 : decode cX9_go 18 = .ok (.getfield 27, 3) := by decide +kernel
theorem dX9_go_21 : decode cX9_go 21 = .ok (.iload 4, 2) := by decide +kernel
theorem dX9_go_23 : decode cX9_go 23 = .ok (.if_icmp .ne 26, 3) := by decide +kernel
theorem dX9_go_26 : decode cX9_go 26 = .ok (.aload_n 0, 1) := by decide +kernel
theorem dX9_go_27 : decode cX9_go 27 = .ok (.getfield 31, 3) := by decide +kernel
theorem dX9_go_30 : decode cX9_go 30 = .ok (.iload 5, 2) := by decide +kernel
theorem dX9_go_32 : decode cX9_go 32 = .ok (.if_icmp .eq 13, 3) := by decide +kernel
theorem dX9_go_35 : decode cX9_go 35 = .ok (.aload_n 1, 1) := by decide +kernel
theorem dX9_go_36 : decode cX9_go 36 = .ok (.getfield 34, 3) := by decide +kernel
theorem dX9_go_39 : decode cX9_go 39 = .ok (.getfield 40, 3) := by decide +kernel
theorem dX9_go_42 : decode cX9_go 42 = .ok (.ifCond .ne 7, 3) := by decide +kernel
theorem dX9_go_45 : decode cX9_go 45 = .ok (.iconst 1, 1) := by decide +kernel
theorem dX9_go_46 : decode cX9_go 46 = .ok (.goto 4, 3) := by decide +kernel
theorem dX9_go_49 : decode cX9_go 49 = .ok (.iconst 0, 1) := by decide +kernel
theorem dX9_go_50 : decode cX9_go 50 = .ok (.istore 6, 2) := by decide +kernel
theorem dX9_go_52 : decode cX9_go 52 = .ok (.iload 6, 2) := by decide +kernel
theorem dX9_go_54 : decode cX9_go 54 = .ok (.ifCond .eq 4, 3) := by decide +kernel
theorem dX9_go_57 : decode cX9_go 57 = .ok (.return_, 1) := by decide +kernel
theorem dX9_go_58 : decode cX9_go 58 = .ok (.aload_n 0, 1) := by decide +kernel
theorem dX9_go_59 : decode cX9_go 59 = .ok (.aload_n 1, 1) := by decide +kernel
theorem dX9_go_60 : decode cX9_go 60 = .ok (.putfield 19, 3) := by decide +kernel
theorem dX9_go_63 : decode cX9_go 63 = .ok (.aload_n 0, 1) := by decide +kernel
theorem dX9_go_64 : decode cX9_go 64 = .ok (.lload_n 2, 1) := by decide +kernel
theorem dX9_go_65 : decode cX9_go 65 = .ok (.putfield 23, 3) := by decide +kernel
theorem dX9_go_68 : decode cX9_go 68 = .ok (.aload_n 0, 1) := by decide +kernel
theorem dX9_go_69 : decode cX9_go 69 = .ok (.iload 4, 2) := by decide +kernel
theorem dX9_go_71 : decode cX9_go 71 = .ok (.putfield 27, 3) := by decide +kernel
theorem dX9_go_74 : decode cX9_go 74 = .ok (.aload_n 0, 1) := by decide +kernel
theorem dX9_go_75 : decode cX9_go 75 = .ok (.iload 5, 2) := by decide +kernel
theorem dX9_go_77 : decode cX9_go 77 = .ok (.putfield 31, 3) := by decide +kernel
theorem dX9_go_80 : decode cX9_go 80 = .ok (.aload_n 0, 1) := by decide +kernel
theorem dX9_go_81 : decode cX9_go 81 = .ok (.lconst 0, 1) := by decide +kernel
theorem dX9_go_82 : decode cX9_go 82 = .ok (.putfield 46, 3) := by decide +kernel
theorem dX9_go_85 : decode cX9_go 85 = .ok (.aload_n 0, 1) := by decide +kernel
theorem dX9_go_86 : decode cX9_go 86 = .ok (.getfield 9, 3) := by decide +kernel
theorem dX9_go_89 : decode cX9_go 89 = .ok (.iconst 0, 1) := by decide +kernel
theorem dX9_go_90 : decode cX9_go 90 = .ok (.iload 4, 2) := by decide +kernel
theorem dX9_go_92 : decode cX9_go 92 = .ok (.iastore, 1) := by decide +kernel
theorem dX9_go_93 : decode cX9_go 93 = .ok (.iconst 1, 1) := by decide +kernel
theorem dX9_go_94 : decode cX9_go 94 = .ok (.istore 7, 2) := by decide +kernel
theorem dX9_go_96 : decode cX9_go 96 = .ok (.iload 7, 2) := by decide +kernel
theorem dX9_go_98 : decode cX9_go 98 = .ok (.bipush 12, 2) := by decide +kernel
theorem dX9_go_100 : decode cX9_go 100 = .ok (.if_icmp .ge 68, 3) := by decide +kernel
theorem dX9_go_103 : decode cX9_go 103 = .ok (.aload_n 0, 1) := by decide +kernel
theorem dX9_go_104 : decode cX9_go 104 = .ok (.aload_n 0, 1) := by decide +kernel
theorem dX9_go_105 : decode cX9_go 105 = .ok (.getfield 9, 3) := by decide +kernel
theorem dX9_go_108 : decode cX9_go 108 = .ok (.iload 7, 2) := by decide +kernel
theorem dX9_go_110 : decode cX9_go 110 = .ok (.iconst 1, 1) := by decide +kernel
theorem dX9_go_111 : decode cX9_go 111 = .ok (.isub, 1) := by decide +kernel
theorem dX9_go_112 : decode cX9_go 112 = .ok (.iaload, 1) := by decide +kernel
theorem dX9_go_113 : decode cX9_go 113 = .ok (.iload 7, 2) := by decide +kernel
theorem dX9_go_115 : decode cX9_go 115 = .ok (.iconst 1, 1) := by decide +kernel
theorem dX9_go_116 : decode cX9_go 116 = .ok (.isub, 1) := by decide +kernel
theorem dX9_go_117 : decode cX9_go 117 = .ok (.invokevirtual 49, 3) := by decide +kernel
theorem dX9_go_120 : decode cX9_go 120 = .ok (.istore 8, 2) := by decide +kernel
theorem dX9_go_122 : decode cX9_go 122 = .ok (.aload_n 0, 1) := by decide +kernel
theorem dX9_go_123 : decode cX9_go 123 = .ok (.dup, 1) := by decide +kernel
theorem dX9_go_124 : decode cX9_go 124 = .ok (.getfield 46, 3) := by decide +kernel
theorem dX9_go_127 : decode cX9_go 127 = .ok (.iload 8, 2) := by decide +kernel
theorem dX9_go_129 : decode cX9_go 129 = .ok (.aload_n 0, 1) := by decide +kernel
theorem dX9_go_130 : decode cX9_go 130 = .ok (.getfield 9, 3) := by decide +kernel
theorem dX9_go_133 : decode cX9_go 133 = .ok (.iload 7, 2) := by decide +kernel
theorem dX9_go_135 : decode cX9_go 135 = .ok (.iconst 1, 1) := by decide +kernel
theorem dX9_go_136 : decode cX9_go 136 = .ok (.isub, 1) := by decide +kernel
theorem dX9_go_137 : decode cX9_go 137 = .ok (.iaload, 1) := by decide +kernel
theorem dX9_go_138 : decode cX9_go 138 = .ok (.if_icmp .eq 10, 3) := by decide +kernel
theorem dX9_go_141 : decode cX9_go 141 = .ok (.lconst 1, 1) := by decide +kernel
theorem dX9_go_142 : decode cX9_go 142 = .ok (.iload 8, 2) := by decide +kernel
theorem dX9_go_144 : decode cX9_go 144 = .ok (.lshl, 1) := by decide +kernel
theorem dX9_go_145 : decode cX9_go 145 = .ok (.goto 4, 3) := by decide +kernel
theorem dX9_go_148 : decode cX9_go 148 = .ok (.lconst 0, 1) := by decide +kernel
theorem dX9_go_149 : decode cX9_go 149 = .ok (.lor, 1) := by decide +kernel
theorem dX9_go_150 : decode cX9_go 150 = .ok (.putfield 46, 3) := by decide +kernel
theorem dX9_go_153 : decode cX9_go 153 = .ok (.aload_n 0, 1) := by decide +kernel
theorem dX9_go_154 : decode cX9_go 154 = .ok (.getfield 9, 3) := by decide +kernel
theorem dX9_go_157 : decode cX9_go 157 = .ok (.iload 7, 2) := by decide +kernel
theorem dX9_go_159 : decode cX9_go 159 = .ok (.iload 8, 2) := by decide +kernel
theorem dX9_go_161 : decode cX9_go 161 = .ok (.iastore, 1) := by decide +kernel
theorem dX9_go_162 : decode cX9_go 162 = .ok (.iinc 7 1, 3) := by decide +kernel
theorem dX9_go_165 : decode cX9_go 165 = .ok (.goto (-69), 3) := by decide +kernel
theorem dX9_go_168 : decode cX9_go 168 = .ok (.aload_n 0, 1) := by decide +kernel
theorem dX9_go_169 : decode cX9_go 169 = .ok (.aload_n 0, 1) := by decide +kernel
theorem dX9_go_170 : decode cX9_go 170 = .ok (.getfield 46, 3) := by decide +kernel
theorem dX9_go_173 : decode cX9_go 173 = .ok (.lconst 1, 1) := by decide +kernel
theorem dX9_go_174 : decode cX9_go 174 = .ok (.iload 4, 2) := by decide +kernel
theorem dX9_go_176 : decode cX9_go 176 = .ok (.lshl, 1) := by decide +kernel
theorem dX9_go_177 : decode cX9_go 177 = .ok (.lor, 1) := by decide +kernel
theorem dX9_go_178 : decode cX9_go 178 = .ok (.putfield 53, 3) := by decide +kernel
theorem dX9_go_181 : decode cX9_go 181 = .ok (.return_, 1) := by decide +kernel
theorem dX9_next_0 : decode cX9_next 0 = .ok (.aload_n 0, 1) := by decide +kernel
theorem dX9_next_1 : decode cX9_next 1 = .ok (.getfield 19, 3) := by decide +kernel
theorem dX9_next_4 : decode cX9_next 4 = .ok (.iload_n 1, 1) := by decide +kernel
theorem dX9_next_5 : decode cX9_next 5 = .ok (.invokevirtual 56, 3) := by decide +kernel
theorem dX9_next_8 : decode cX9_next 8 = .ok (.istore_n 3, 1) := by decide +kernel
theorem dX9_next_9 : decode cX9_next 9 = .ok (.aload_n 0, 1) := by decide +kernel
theorem dX9_next_10 : decode cX9_next 10 = .ok (.getfield 19, 3) := by decide +kernel
theorem dX9_next_13 : decode cX9_next 13 = .ok (.iload_n 1, 1) := by decide +kernel
theorem dX9_next_14 : decode cX9_next 14 = .ok (.invokevirtual 60, 3) := by decide +kernel
theorem dX9_next_17 : decode cX9_next 17 = .ok (.istore 4, 2) := by decide +kernel
theorem dX9_next_19 : decode cX9_next 19 = .ok (.iconst 3, 1) := by decide +kernel
theorem dX9_next_20 : decode cX9_next 20 = .ok (.istore 5, 2) := by decide +kernel
theorem dX9_next_22 : decode cX9_next 22 = .ok (.aload_n 0, 1) := by decide +kernel
theorem dX9_next_23 : decode cX9_next 23 = .ok (.getfield 19, 3) := by decide +kernel
theorem dX9_next_26 : decode cX9_next 26 = .ok (.getfield 34, 3) := by decide +kernel
theorem dX9_next_29 : decode cX9_next 29 = .ok (.invokevirtual 63, 3) := by decide +kernel
theorem dX9_next_32 : decode cX9_next 32 = .ok (.ifCond .eq 68, 3) := by decide +kernel
theorem dX9_next_35 : decode cX9_next 35 = .ok (.aload_n 0, 1) := by decide +kernel
theorem dX9_next_36 : decode cX9_next 36 = .ok (.getfield 15, 3) := by decide +kernel
theorem dX9_next_39 : decode cX9_next 39 = .ok (.bipush 17, 2) := by decide +kernel
theorem dX9_next_41 : decode cX9_next 41 = .ok (.iload_n 2, 1) := by decide +kernel
theorem dX9_next_42 : decode cX9_next 42 = .ok (.invokevirtual 67, 3) := by decide +kernel
theorem dX9_next_45 : decode cX9_next 45 = .ok (.aload_n 0, 1) := by decide +kernel
theorem dX9_next_46 : decode cX9_next 46 = .ok (.getfield 15, 3) := by decide +kernel
theorem dX9_next_49 : decode cX9_next 49 = .ok (.bipush 18, 2) := by decide +kernel
theorem dX9_next_51 : decode cX9_next 51 = .ok (.aload_n 0, 1) := by decide +kernel
theorem dX9_next_52 : decode cX9_next 52 = .ok (.getfield 31, 3) := by decide +kernel
theorem dX9_next_55 : decode cX9_next 55 = .ok (.invokevirtual 67, 3) := by decide +kernel
theorem dX9_next_58 : decode cX9_next 58 = .ok (.aload_n 0, 1) := by decide +kernel
theorem dX9_next_59 : decode cX9_next 59 = .ok (.getfield 15, 3) := by decide +kernel
theorem dX9_next_62 : decode cX9_next 62 = .ok (.bipush 19, 2) := by decide +kernel
theorem dX9_next_64 : decode cX9_next 64 = .ok (.iload_n 3, 1) := by decide +kernel
theorem dX9_next_65 : decode cX9_next 65 = .ok (.invokevirtual 67, 3) := by decide +kernel
theorem dX9_next_68 : decode cX9_next 68 = .ok (.aload_n 0, 1) := by decide +kernel
theorem dX9_next_69 : decode cX9_next 69 = .ok (.getfield 15, 3) := by decide +kernel
theorem dX9_next_72 : decode cX9_next 72 = .ok (.bipush 20, 2) := by decide +kernel
theorem dX9_next_74 : decode cX9_next 74 = .ok (.iload 4, 2) := by decide +kernel
theorem dX9_next_76 : decode cX9_next 76 = .ok (.invokevirtual 67, 3) := by decide +kernel
theorem dX9_next_79 : decode cX9_next 79 = .ok (.aload_n 0, 1) := by decide +kernel
theorem dX9_next_80 : decode cX9_next 80 = .ok (.getfield 15, 3) := by decide +kernel
theorem dX9_next_83 : decode cX9_next 83 = .ok (.aload_n 0, 1) := by decide +kernel
theorem dX9_next_84 : decode cX9_next 84 = .ok (.getfield 19, 3) := by decide +kernel
theorem dX9_next_87 : decode cX9_next 87 = .ok (.getfield 34, 3) := by decide +kernel
theorem dX9_next_90 : decode cX9_next 90 = .ok (.invokevirtual 73, 3) := by decide +kernel
theorem dX9_next_93 : decode cX9_next 93 = .ok (.bipush 9, 2) := by decide +kernel
theorem dX9_next_95 : decode cX9_next 95 = .ok (.invokestatic 77, 3) := by decide +kernel
theorem dX9_next_98 : decode cX9_next 98 = .ok (.istore 5, 2) := by decide +kernel
theorem dX9_next_100 : decode cX9_next 100 = .ok (.iconst 0, 1) := by decide +kernel
theorem dX9_next_101 : decode cX9_next 101 = .ok (.istore 6, 2) := by decide +kernel
theorem dX9_next_103 : decode cX9_next 103 = .ok (.iload 6, 2) := by decide +kernel
theorem dX9_next_105 : decode cX9_next 105 = .ok (.bipush 8, 2) := by decide +kernel
theorem dX9_next_107 : decode cX9_next 107 = .ok (.if_icmp .ge 89, 3) := by decide +kernel
theorem dX9_next_110 : decode cX9_next 110 = .ok (.iload 5, 2) := by decide +kernel
theorem dX9_next_112 : decode cX9_next 112 = .ok (.ifCond .le 84, 3) := by decide +kernel
theorem dX9_next_115 : decode cX9_next 115 = .ok (.iload 5, 2) := by decide +kernel
theorem dX9_next_117 : decode cX9_next 117 = .ok (.iconst 1, 1) := by decide +kernel
theorem dX9_next_118 : decode cX9_next 118 = .ok (.isub, 1) := by decide +kernel
theorem dX9_next_119 : decode cX9_next 119 = .ok (.iload 6, 2) := by decide +kernel
theorem dX9_next_121 : decode cX9_next 121 = .ok (.iadd, 1) := by decide +kernel
theorem dX9_next_122 : decode cX9_next 122 = .ok (.bipush 8, 2) := by decide +kernel
theorem dX9_next_124 : decode cX9_next 124 = .ok (.irem, 1) := by decide +kernel
theorem dX9_next_125 : decode cX9_next 125 = .ok (.istore 7, 2) := by decide +kernel
theorem dX9_next_127 : decode cX9_next 127 = .ok (.iload_n 3, 1) := by decide +kernel
theorem dX9_next_128 : decode cX9_next 128 = .ok (.getstatic 82, 3) := by decide +kernel
theorem dX9_next_131 : decode cX9_next 131 = .ok (.iload 7, 2) := by decide +kernel
theorem dX9_next_133 : decode cX9_next 133 = .ok (.iaload, 1) := by decide +kernel
theorem dX9_next_134 : decode cX9_next 134 = .ok (.iadd, 1) := by decide +kernel
theorem dX9_next_135 : decode cX9_next 135 = .ok (.istore 8, 2) := by decide +kernel
theorem dX9_next_137 : decode cX9_next 137 = .ok (.iload 4, 2) := by decide +kernel
theorem dX9_next_139 : decode cX9_next 139 = .ok (.getstatic 85, 3) := by decide +kernel
theorem dX9_next_142 : decode cX9_next 142 = .ok (.iload 7, 2) := by decide +kernel
theorem dX9_next_144 : decode cX9_next 144 = .ok (.iaload, 1) := by decide +kernel
theorem dX9_next_145 : decode cX9_next 145 = .ok (.iadd, 1) := by decide +kernel
theorem dX9_next_146 : decode cX9_next 146 = .ok (.istore 9, 2) := by decide +kernel
theorem dX9_next_148 : decode cX9_next 148 = .ok (.aload_n 0, 1) := by decide +kernel
theorem dX9_next_149 : decode cX9_next 149 = .ok (.getfield 19, 3) := by decide +kernel
theorem dX9_next_152 : decode cX9_next 152 = .ok (.iload 8, 2) := by decide +kernel
theorem dX9_next_154 : decode cX9_next 154 = .ok (.iload 9, 2) := by decide +kernel
theorem dX9_next_156 : decode cX9_next 156 = .ok (.invokevirtual 88, 3) := by decide +kernel
theorem dX9_next_159 : decode cX9_next 159 = .ok (.istore 10, 2) := by decide +kernel
theorem dX9_next_161 : decode cX9_next 161 = .ok (.aload_n 0, 1) := by decide +kernel
theorem dX9_next_162 : decode cX9_next 162 = .ok (.getfield 19, 3) := by decide +kernel
theorem dX9_next_165 : decode cX9_next 165 = .ok (.iload 8, 2) := by decide +kernel
theorem dX9_next_167 : decode cX9_next 167 = .ok (.iload 9, 2) := by decide +kernel
theorem dX9_next_169 : decode cX9_next 169 = .ok (.invokevirtual 91, 3) := by decide +kernel
theorem dX9_next_172 : decode cX9_next 172 = .ok (.ifCond .eq 18, 3) := by decide +kernel
theorem dX9_next_175 : decode cX9_next 175 = .ok (.aload_n 0, 1) := by decide +kernel
theorem dX9_next_176 : decode cX9_next 176 = .ok (.getfield 23, 3) := by decide +kernel
theorem dX9_next_179 : decode cX9_next 179 = .ok (.iload 10, 2) := by decide +kernel
theorem dX9_next_181 : decode cX9_next 181 = .ok (.invokestatic 95, 3) := by decide +kernel
theorem dX9_next_184 : decode cX9_next 184 = .ok (.ifCond .ne 6, 3) := by decide +kernel
theorem dX9_next_187 : decode cX9_next 187 = .ok (.iload 10, 2) := by decide +kernel
theorem dX9_next_189 : decode cX9_next 189 = .ok (.ireturn, 1) := by decide +kernel
theorem dX9_next_190 : decode cX9_next 190 = .ok (.iinc 6 1, 3) := by decide +kernel
theorem dX9_next_193 : decode cX9_next 193 = .ok (.goto (-90), 3) := by decide +kernel
theorem dX9_next_196 : decode cX9_next 196 = .ok (.iload_n 1, 1) := by decide +kernel
theorem dX9_next_197 : decode cX9_next 197 = .ok (.ireturn, 1) := by decide +kernel
theorem dX9_hourAt_0 : decode cX9_hourAt 0 = .ok (.iconst 0, 1) := by decide +kernel
theorem dX9_hourAt_1 : decode cX9_hourAt 1 = .ok (.istore_n 2, 1) := by decide +kernel
theorem dX9_hourAt_2 : decode cX9_hourAt 2 = .ok (.iload_n 2, 1) := by decide +kernel
theorem dX9_hourAt_3 : decode cX9_hourAt 3 = .ok (.bipush 12, 2) := by decide +kernel
theorem dX9_hourAt_5 : decode cX9_hourAt 5 = .ok (.if_icmp .ge 21, 3) := by decide +kernel
theorem dX9_hourAt_8 : decode cX9_hourAt 8 = .ok (.aload_n 0, 1) := by decide +kernel
theorem dX9_hourAt_9 : decode cX9_hourAt 9 = .ok (.getfield 9, 3) := by decide +kernel
theorem dX9_hourAt_12 : decode cX9_hourAt 12 = .ok (.iload_n 2, 1) := by decide +kernel
theorem dX9_hourAt_13 : decode cX9_hourAt 13 = .ok (.iaload, 1) := by decide +kernel
theorem dX9_hourAt_14 : decode cX9_hourAt 14 = .ok (.iload_n 1, 1) := by decide +kernel
theorem dX9_hourAt_15 : decode cX9_hourAt 15 = .ok (.if_icmp .ne 5, 3) := by decide +kernel
theorem dX9_hourAt_18 : decode cX9_hourAt 18 = .ok (.iload_n 2, 1) := by decide +kernel
theorem dX9_hourAt_19 : decode cX9_hourAt 19 = .ok (.ireturn, 1) := by decide +kernel
theorem dX9_hourAt_20 : decode cX9_hourAt 20 = .ok (.iinc 2 1, 3) := by decide +kernel
theorem dX9_hourAt_23 : decode cX9_hourAt 23 = .ok (.goto (-21), 3) := by decide +kernel
theorem dX9_hourAt_26 : decode cX9_hourAt 26 = .ok (.iconst (-1), 1) := by decide +kernel
theorem dX9_hourAt_27 : decode cX9_hourAt 27 = .ok (.ireturn, 1) := by decide +kernel
theorem dX9_meetingHour_0 : decode cX9_meetingHour 0 = .ok (.aload_n 1, 1) := by decide +kernel
theorem dX9_meetingHour_1 : decode cX9_meetingHour 1 = .ok (.getfield 99, 3) := by decide +kernel
theorem dX9_meetingHour_4 : decode cX9_meetingHour 4 = .ok (.iload_n 2, 1) := by decide +kernel
theorem dX9_meetingHour_5 : decode cX9_meetingHour 5 = .ok (.iaload, 1) := by decide +kernel
theorem dX9_meetingHour_6 : decode cX9_meetingHour 6 = .ok (.ifCond .gt 12, 3) := by decide +kernel
theorem dX9_meetingHour_9 : decode cX9_meetingHour 9 = .ok (.aload_n 1, 1) := by decide +kernel
theorem dX9_meetingHour_10 : decode cX9_meetingHour 10 = .ok (.getfield 104, 3) := by decide +kernel
theorem dX9_meetingHour_13 : decode cX9_meetingHour 13 = .ok (.iload_n 2, 1) := by decide +kernel
theorem dX9_meetingHour_14 : decode cX9_meetingHour 14 = .ok (.iaload, 1) := by decide +kernel
theorem dX9_meetingHour_15 : decode cX9_meetingHour 15 = .ok (.ifCond .ne 5, 3) := by decide +kernel
theorem dX9_meetingHour_18 : decode cX9_meetingHour 18 = .ok (.iconst (-1), 1) := by decide +kernel
theorem dX9_meetingHour_19 : decode cX9_meetingHour 19 = .ok (.ireturn, 1) := by decide +kernel
theorem dX9_meetingHour_20 : decode cX9_meetingHour 20 = .ok (.iconst 0, 1) := by decide +kernel
theorem dX9_meetingHour_21 : decode cX9_meetingHour 21 = .ok (.istore_n 3, 1) := by decide +kernel
theorem dX9_meetingHour_22 : decode cX9_meetingHour 22 = .ok (.iload_n 3, 1) := by decide +kernel
theorem dX9_meetingHour_23 : decode cX9_meetingHour 23 = .ok (.bipush 12, 2) := by decide +kernel
theorem dX9_meetingHour_25 : decode cX9_meetingHour 25 = .ok (.if_icmp .ge 31, 3) := by decide +kernel
theorem dX9_meetingHour_28 : decode cX9_meetingHour 28 = .ok (.aload_n 0, 1) := by decide +kernel
theorem dX9_meetingHour_29 : decode cX9_meetingHour 29 = .ok (.getfield 9, 3) := by decide +kernel
theorem dX9_meetingHour_32 : decode cX9_meetingHour 32 = .ok (.iload_n 3, 1) := by decide +kernel
theorem dX9_meetingHour_33 : decode cX9_meetingHour 33 = .ok (.iaload, 1) := by decide +kernel
theorem dX9_meetingHour_34 : decode cX9_meetingHour 34 = .ok (.aload_n 0, 1) := by decide +kernel
theorem dX9_meetingHour_35 : decode cX9_meetingHour 35 = .ok (.getfield 19, 3) := by decide +kernel
theorem dX9_meetingHour_38 : decode cX9_meetingHour 38 = .ok (.getfield 107, 3) := by decide +kernel
theorem dX9_meetingHour_41 : decode cX9_meetingHour 41 = .ok (.iload_n 2, 1) := by decide +kernel
theorem dX9_meetingHour_42 : decode cX9_meetingHour 42 = .ok (.aaload, 1) := by decide +kernel
theorem dX9_meetingHour_43 : decode cX9_meetingHour 43 = .ok (.iload_n 3, 1) := by decide +kernel
theorem dX9_meetingHour_44 : decode cX9_meetingHour 44 = .ok (.iaload, 1) := by decide +kernel
theorem dX9_meetingHour_45 : decode cX9_meetingHour 45 = .ok (.if_icmp .ne 5, 3) := by decide +kernel
theorem dX9_meetingHour_48 : decode cX9_meetingHour 48 = .ok (.iload_n 3, 1) := by decide +kernel
theorem dX9_meetingHour_49 : decode cX9_meetingHour 49 = .ok (.ireturn, 1) := by decide +kernel
theorem dX9_meetingHour_50 : decode cX9_meetingHour 50 = .ok (.iinc 3 1, 3) := by decide +kernel
theorem dX9_meetingHour_53 : decode cX9_meetingHour 53 = .ok (.goto (-31), 3) := by decide +kernel
theorem dX9_meetingHour_56 : decode cX9_meetingHour 56 = .ok (.iconst (-1), 1) := by decide +kernel
theorem dX9_meetingHour_57 : decode cX9_meetingHour 57 = .ok (.ireturn, 1) := by decide +kernel
theorem dX9_safeHour_0 : decode cX9_safeHour 0 = .ok (.iload_n 1, 1) := by decide +kernel
theorem dX9_safeHour_1 : decode cX9_safeHour 1 = .ok (.aload_n 0, 1) := by decide +kernel
theorem dX9_safeHour_2 : decode cX9_safeHour 2 = .ok (.getfield 9, 3) := by decide +kernel
theorem dX9_safeHour_5 : decode cX9_safeHour 5 = .ok (.iconst 0, 1) := by decide +kernel
theorem dX9_safeHour_6 : decode cX9_safeHour 6 = .ok (.iaload, 1) := by decide +kernel
theorem dX9_safeHour_7 : decode cX9_safeHour 7 = .ok (.if_icmp .ne 5, 3) := by decide +kernel
theorem dX9_safeHour_10 : decode cX9_safeHour 10 = .ok (.iconst (-1), 1) := by decide +kernel
theorem dX9_safeHour_11 : decode cX9_safeHour 11 = .ok (.ireturn, 1) := by decide +kernel
theorem dX9_safeHour_12 : decode cX9_safeHour 12 = .ok (.lconst 1, 1) := by decide +kernel
theorem dX9_safeHour_13 : decode cX9_safeHour 13 = .ok (.iload_n 1, 1) := by decide +kernel
theorem dX9_safeHour_14 : decode cX9_safeHour 14 = .ok (.lshl, 1) := by decide +kernel
theorem dX9_safeHour_15 : decode cX9_safeHour 15 = .ok (.lstore_n 3, 1) := by decide +kernel
theorem dX9_safeHour_16 : decode cX9_safeHour 16 = .ok (.iconst 0, 1) := by decide +kernel
theorem dX9_safeHour_17 : decode cX9_safeHour 17 = .ok (.istore 5, 2) := by decide +kernel
theorem dX9_safeHour_19 : decode cX9_safeHour 19 = .ok (.iload 5, 2) := by decide +kernel
theorem dX9_safeHour_21 : decode cX9_safeHour 21 = .ok (.bipush 12, 2) := by decide +kernel
theorem dX9_safeHour_23 : decode cX9_safeHour 23 = .ok (.if_icmp .ge 42, 3) := by decide +kernel
theorem dX9_safeHour_26 : decode cX9_safeHour 26 = .ok (.lload_n 3, 1) := by decide +kernel
theorem dX9_safeHour_27 : decode cX9_safeHour 27 = .ok (.iload_n 2, 1) := by decide +kernel
theorem dX9_safeHour_28 : decode cX9_safeHour 28 = .ok (.invokestatic 95, 3) := by decide +kernel
theorem dX9_safeHour_31 : decode cX9_safeHour 31 = .ok (.iconst 1, 1) := by decide +kernel
theorem dX9_safeHour_32 : decode cX9_safeHour 32 = .ok (.if_icmp .ne 6, 3) := by decide +kernel
theorem dX9_safeHour_35 : decode cX9_safeHour 35 = .ok (.iload 5, 2) := by decide +kernel
theorem dX9_safeHour_37 : decode cX9_safeHour 37 = .ok (.ireturn, 1) := by decide +kernel
theorem dX9_safeHour_38 : decode cX9_safeHour 38 = .ok (.iload 5, 2) := by decide +kernel
theorem dX9_safeHour_40 : decode cX9_safeHour 40 = .ok (.iconst 1, 1) := by decide +kernel
theorem dX9_safeHour_41 : decode cX9_safeHour 41 = .ok (.iadd, 1) := by decide +kernel
theorem dX9_safeHour_42 : decode cX9_safeHour 42 = .ok (.bipush 12, 2) := by decide +kernel
theorem dX9_safeHour_44 : decode cX9_safeHour 44 = .ok (.if_icmp .ge 13, 3) := by decide +kernel
theorem dX9_safeHour_47 : decode cX9_safeHour 47 = .ok (.aload_n 0, 1) := by decide +kernel
theorem dX9_safeHour_48 : decode cX9_safeHour 48 = .ok (.lload_n 3, 1) := by decide +kernel
theorem dX9_safeHour_49 : decode cX9_safeHour 49 = .ok (.iload 5, 2) := by decide +kernel
theorem dX9_safeHour_51 : decode cX9_safeHour 51 = .ok (.invokevirtual 111, 3) := by decide +kernel
theorem dX9_safeHour_54 : decode cX9_safeHour 54 = .ok (.goto 4, 3) := by decide +kernel
theorem dX9_safeHour_57 : decode cX9_safeHour 57 = .ok (.lconst 0, 1) := by decide +kernel
theorem dX9_safeHour_58 : decode cX9_safeHour 58 = .ok (.lstore_n 3, 1) := by decide +kernel
theorem dX9_safeHour_59 : decode cX9_safeHour 59 = .ok (.iinc 5 1, 3) := by decide +kernel
theorem dX9_safeHour_62 : decode cX9_safeHour 62 = .ok (.goto (-43), 3) := by decide +kernel
theorem dX9_safeHour_65 : decode cX9_safeHour 65 = .ok (.iconst (-1), 1) := by decide +kernel
theorem dX9_safeHour_66 : decode cX9_safeHour 66 = .ok (.ireturn, 1) := by decide +kernel
theorem dX9_stepAside_0 : decode cX9_stepAside 0 = .ok (.lconst 1, 1) := by decide +kernel
theorem dX9_stepAside_1 : decode cX9_stepAside 1 = .ok (.aload_n 0, 1) := by decide +kernel
theorem dX9_stepAside_2 : decode cX9_stepAside 2 = .ok (.getfield 9, 3) := by decide +kernel
theorem dX9_stepAside_5 : decode cX9_stepAside 5 = .ok (.iload_n 3, 1) := by decide +kernel
theorem dX9_stepAside_6 : decode cX9_stepAside 6 = .ok (.iaload, 1) := by decide +kernel
theorem dX9_stepAside_7 : decode cX9_stepAside 7 = .ok (.lshl, 1) := by decide +kernel
theorem dX9_stepAside_8 : decode cX9_stepAside 8 = .ok (.lstore 4, 2) := by decide +kernel
theorem dX9_stepAside_10 : decode cX9_stepAside 10 = .ok (.lconst 1, 1) := by decide +kernel
theorem dX9_stepAside_11 : decode cX9_stepAside 11 = .ok (.aload_n 0, 1) := by decide +kernel
theorem dX9_stepAside_12 : decode cX9_stepAside 12 = .ok (.getfield 9, 3) := by decide +kernel
theorem dX9_stepAside_15 : decode cX9_stepAside 15 = .ok (.iload_n 3, 1) := by decide +kernel
theorem dX9_stepAside_16 : decode cX9_stepAside 16 = .ok (.iconst 1, 1) := by decide +kernel
theorem dX9_stepAside_17 : decode cX9_stepAside 17 = .ok (.iadd, 1) := by decide +kernel
theorem dX9_stepAside_18 : decode cX9_stepAside 18 = .ok (.iaload, 1) := by decide +kernel
theorem dX9_stepAside_19 : decode cX9_stepAside 19 = .ok (.lshl, 1) := by decide +kernel
theorem dX9_stepAside_20 : decode cX9_stepAside 20 = .ok (.lstore 6, 2) := by decide +kernel
theorem dX9_stepAside_22 : decode cX9_stepAside 22 = .ok (.lconst 0, 1) := by decide +kernel
theorem dX9_stepAside_23 : decode cX9_stepAside 23 = .ok (.lstore 8, 2) := by decide +kernel
theorem dX9_stepAside_25 : decode cX9_stepAside 25 = .ok (.iconst 0, 1) := by decide +kernel
theorem dX9_stepAside_26 : decode cX9_stepAside 26 = .ok (.istore 10, 2) := by decide +kernel
theorem dX9_stepAside_28 : decode cX9_stepAside 28 = .ok (.iload 10, 2) := by decide +kernel
theorem dX9_stepAside_30 : decode cX9_stepAside 30 = .ok (.aload_n 0, 1) := by decide +kernel
theorem dX9_stepAside_31 : decode cX9_stepAside 31 = .ok (.getfield 19, 3) := by decide +kernel
theorem dX9_stepAside_34 : decode cX9_stepAside 34 = .ok (.invokevirtual 115, 3) := by decide +kernel
theorem dX9_stepAside_37 : decode cX9_stepAside 37 = .ok (.if_icmp .ge 67, 3) := by decide +kernel
theorem dX9_stepAside_40 : decode cX9_stepAside 40 = .ok (.lload_n 1, 1) := by decide +kernel
theorem dX9_stepAside_41 : decode cX9_stepAside 41 = .ok (.iload 10, 2) := by decide +kernel
theorem dX9_stepAside_43 : decode cX9_stepAside 43 = .ok (.invokestatic 95, 3) := by decide +kernel
theorem dX9_stepAside_46 : decode cX9_stepAside 46 = .ok (.iconst 1, 1) := by decide +kernel
theorem dX9_stepAside_47 : decode cX9_stepAside 47 = .ok (.if_icmp .ne 51, 3) := by decide +kernel
theorem dX9_stepAside_50 : decode cX9_stepAside 50 = .ok (.lload 8, 2) := by decide +kernel
theorem dX9_stepAside_52 : decode cX9_stepAside 52 = .ok (.iload 10, 2) := by decide +kernel
theorem dX9_stepAside_54 : decode cX9_stepAside 54 = .ok (.aload_n 0, 1) := by decide +kernel
theorem dX9_stepAside_55 : decode cX9_stepAside 55 = .ok (.getfield 9, 3) := by decide +kernel
theorem dX9_stepAside_58 : decode cX9_stepAside 58 = .ok (.iload_n 3, 1) := by decide +kernel
theorem dX9_stepAside_59 : decode cX9_stepAside 59 = .ok (.iconst 1, 1) := by decide +kernel
theorem dX9_stepAside_60 : decode cX9_stepAside 60 = .ok (.iadd, 1) := by decide +kernel
theorem dX9_stepAside_61 : decode cX9_stepAside 61 = .ok (.iaload, 1) := by decide +kernel
theorem dX9_stepAside_62 : decode cX9_stepAside 62 = .ok (.if_icmp .ne 23, 3) := by decide +kernel
theorem dX9_stepAside_65 : decode cX9_stepAside 65 = .ok (.aload_n 0, 1) := by decide +kernel
theorem dX9_stepAside_66 : decode cX9_stepAside 66 = .ok (.getfield 19, 3) := by decide +kernel
theorem dX9_stepAside_69 : decode cX9_stepAside 69 = .ok (.getfield 119, 3) := by decide +kernel
theorem dX9_stepAside_72 : decode cX9_stepAside 72 = .ok (.iload 10, 2) := by decide +kernel
theorem dX9_stepAside_74 : decode cX9_stepAside 74 = .ok (.laload, 1) := by decide +kernel
theorem dX9_stepAside_75 : decode cX9_stepAside 75 = .ok (.lload 4, 2) := by decide +kernel
theorem dX9_stepAside_77 : decode cX9_stepAside 77 = .ok (.ldc2_w 123, 3) := by decide +kernel
theorem dX9_stepAside_80 : decode cX9_stepAside 80 = .ok (.lxor, 1) := by decide +kernel
theorem dX9_stepAside_81 : decode cX9_stepAside 81 = .ok (.land, 1) := by decide +kernel
theorem dX9_stepAside_82 : decode cX9_stepAside 82 = .ok (.goto 13, 3) := by decide +kernel
theorem dX9_stepAside_85 : decode cX9_stepAside 85 = .ok (.aload_n 0, 1) := by decide +kernel
theorem dX9_stepAside_86 : decode cX9_stepAside 86 = .ok (.getfield 19, 3) := by decide +kernel
theorem dX9_stepAside_89 : decode cX9_stepAside 89 = .ok (.getfield 119, 3) := by decide +kernel
theorem dX9_stepAside_92 : decode cX9_stepAside 92 = .ok (.iload 10, 2) := by decide +kernel
theorem dX9_stepAside_94 : decode cX9_stepAside 94 = .ok (.laload, 1) := by decide +kernel
theorem dX9_stepAside_95 : decode cX9_stepAside 95 = .ok (.lor, 1) := by decide +kernel
theorem dX9_stepAside_96 : decode cX9_stepAside 96 = .ok (.lstore 8, 2) := by decide +kernel
theorem dX9_stepAside_98 : decode cX9_stepAside 98 = .ok (.iinc 10 1, 3) := by decide +kernel
theorem dX9_stepAside_101 : decode cX9_stepAside 101 = .ok (.goto (-73), 3) := by decide +kernel
theorem dX9_stepAside_104 : decode cX9_stepAside 104 = .ok (.lload 8, 2) := by decide +kernel
theorem dX9_stepAside_106 : decode cX9_stepAside 106 = .ok (.lload 6, 2) := by decide +kernel
theorem dX9_stepAside_108 : decode cX9_stepAside 108 = .ok (.ldc2_w 123, 3) := by decide +kernel
theorem dX9_stepAside_111 : decode cX9_stepAside 111 = .ok (.lxor, 1) := by decide +kernel
theorem dX9_stepAside_112 : decode cX9_stepAside 112 = .ok (.land, 1) := by decide +kernel
theorem dX9_stepAside_113 : decode cX9_stepAside 113 = .ok (.lreturn, 1) := by decide +kernel
theorem dX10_init_0 : decode cX10_init 0 = .ok (.aload_n 0, 1) := by decide +kernel
theorem dX10_init_1 : decode cX10_init 1 = .ok (.invokespecial 3, 3) := by decide +kernel
theorem dX10_init_4 : decode cX10_init 4 = .ok (.aload_n 0, 1) := by decide +kernel
theorem dX10_init_5 : decode cX10_init 5 = .ok (.bipush 6, 2) := by decide +kernel
theorem dX10_init_7 : decode cX10_init 7 = .ok (.newarray .int, 2) := by decide +kernel
theorem dX10_init_9 : decode cX10_init 9 = .ok (.putfield 9, 3) := by decide +kernel
theorem dX10_init_12 : decode cX10_init 12 = .ok (.aload_n 0, 1) := by decide +kernel
theorem dX10_init_13 : decode cX10_init 13 = .ok (.bipush 6, 2) := by decide +kernel
theorem dX10_init_15 : decode cX10_init 15 = .ok (.newarray .int, 2) := by decide +kernel
theorem dX10_init_17 : decode cX10_init 17 = .ok (.putfield 15, 3) := by decide +kernel
theorem dX10_init_20 : decode cX10_init 20 = .ok (.aload_n 0, 1) := by decide +kernel
theorem dX10_init_21 : decode cX10_init 21 = .ok (.bipush 6, 2) := by decide +kernel
theorem dX10_init_23 : decode cX10_init 23 = .ok (.newarray .int, 2) := by decide +kernel
theorem dX10_init_25 : decode cX10_init 25 = .ok (.putfield 18, 3) := by decide +kernel
theorem dX10_init_28 : decode cX10_init 28 = .ok (.aload_n 0, 1) := by decide +kernel
theorem dX10_init_29 : decode cX10_init 29 = .ok (.bipush 6, 2) := by decide +kernel
theorem dX10_init_31 : decode cX10_init 31 = .ok (.newarray .int, 2) := by decide +kernel
theorem dX10_init_33 : decode cX10_init 33 = .ok (.putfield 21, 3) := by decide +kernel
theorem dX10_init_36 : decode cX10_init 36 = .ok (.aload_n 0, 1) := by decide +kernel
theorem dX10_init_37 : decode cX10_init 37 = .ok (.bipush 40, 2) := by decide +kernel
theorem dX10_init_39 : decode cX10_init 39 = .ok (.newarray .int, 2) := by decide +kernel
theorem dX10_init_41 : decode cX10_init 41 = .ok (.putfield 24, 3) := by decide +kernel
theorem dX10_init_44 : decode cX10_init 44 = .ok (.return_, 1) := by decide +kernel
theorem dX10_begin_0 : decode cX10_begin 0 = .ok (.iconst 0, 1) := by decide +kernel
theorem dX10_begin_1 : decode cX10_begin 1 = .ok (.istore_n 2, 1) := by decide +kernel
theorem dX10_begin_2 : decode cX10_begin 2 = .ok (.iload_n 2, 1) := by decide +kernel
theorem dX10_begin_3 : decode cX10_begin 3 = .ok (.bipush 6, 2) := by decide +kernel
theorem dX10_begin_5 : decode cX10_begin 5 = .ok (.if_icmp .ge 42, 3) := by decide +kernel
theorem dX10_begin_8 : decode cX10_begin 8 = .ok (.aload_n 0, 1) := by decide +kernel
theorem dX10_begin_9 : decode cX10_begin 9 = .ok (.getfield 9, 3) := by decide +kernel
theorem dX10_begin_12 : decode cX10_begin 12 = .ok (.iload_n 2, 1) := by decide +kernel
theorem dX10_begin_13 : decode cX10_begin 13 = .ok (.aload_n 1, 1) := by decide +kernel
theorem dX10_begin_14 : decode cX10_begin 14 = .ok (.getfield 27, 3) := by decide +kernel
theorem dX10_begin_17 : decode cX10_begin 17 = .ok (.iload_n 2, 1) := by decide +kernel
theorem dX10_begin_18 : decode cX10_begin 18 = .ok (.iaload, 1) := by decide +kernel
theorem dX10_begin_19 : decode cX10_begin 19 = .ok (.iastore, 1) := by decide +kernel
theorem dX10_begin_20 : decode cX10_begin 20 = .ok (.aload_n 0, 1) := by decide +kernel
theorem dX10_begin_21 : decode cX10_begin 21 = .ok (.getfield 15, 3) := by decide +kernel
theorem dX10_begin_24 : decode cX10_begin 24 = .ok (.iload_n 2, 1) := by decide +kernel
theorem dX10_begin_25 : decode cX10_begin 25 = .ok (.iconst 0, 1) := by decide +kernel
theorem dX10_begin_26 : decode cX10_begin 26 = .ok (.iastore, 1) := by decide +kernel
theorem dX10_begin_27 : decode cX10_begin 27 = .ok (.aload_n 0, 1) := by decide +kernel
theorem dX10_begin_28 : decode cX10_begin 28 = .ok (.getfield 18, 3) := by decide +kernel
theorem dX10_begin_31 : decode cX10_begin 31 = .ok (.iload_n 2, 1) := by decide +kernel
theorem dX10_begin_32 : decode cX10_begin 32 = .ok (.iconst 0, 1) := by decide +kernel
theorem dX10_begin_33 : decode cX10_begin 33 = .ok (.iastore, 1) := by decide +kernel
theorem dX10_begin_34 : decode cX10_begin 34 = .ok (.aload_n 0, 1) := by decide +kernel
theorem dX10_begin_35 : decode cX10_begin 35 = .ok (.getfield 21, 3) := by decide +kernel
theorem dX10_begin_38 : decode cX10_begin 38 = .ok (.iload_n 2, 1) := by decide +kernel
theorem dX10_begin_39 : decode cX10_begin 39 = .ok (.iconst 0, 1) := by decide +kernel
theorem dX10_begin_40 : decode cX10_begin 40 = .ok (.iastore, 1) := by decide +kernel
theorem dX10_begin_41 : decode cX10_begin 41 = .ok (.iinc 2 1, 3) := by decide +kernel
theorem dX10_begin_44 : decode cX10_begin 44 = .ok (.goto (-42), 3) := by decide +kernel
theorem dX10_begin_47 : decode cX10_begin 47 = .ok (.aload_n 0, 1) := by decide +kernel
theorem dX10_begin_48 : decode cX10_begin 48 = .ok (.iconst 0, 1) := by decide +kernel
theorem dX10_begin_49 : decode cX10_begin 49 = .ok (.putfield 30, 3) := by decide +kernel
theorem dX10_begin_52 : decode cX10_begin 52 = .ok (.aload_n 0, 1) := by decide +kernel
theorem dX10_begin_53 : decode cX10_begin 53 = .ok (.iconst 0, 1) := by decide +kernel
theorem dX10_begin_54 : decode cX10_begin 54 = .ok (.putfield 34, 3) := by decide +kernel
theorem dX10_begin_57 : decode cX10_begin 57 = .ok (.aload_n 0, 1) := by decide +kernel
theorem dX10_begin_58 : decode cX10_begin 58 = .ok (.iconst 0, 1) := by decide +kernel
theorem dX10_begin_59 : decode cX10_begin 59 = .ok (.putfield 37, 3) := by decide +kernel
theorem dX10_begin_62 : decode cX10_begin 62 = .ok (.aload_n 0, 1) := by decide +kernel
theorem dX10_begin_63 : decode cX10_begin 63 = .ok (.iconst 0, 1) := by decide +kernel
theorem dX10_begin_64 : decode cX10_begin 64 = .ok (.putfield 40, 3) := by decide +kernel
theorem dX10_begin_67 : decode cX10_begin 67 = .ok (.return_, 1) := by decide +kernel
theorem dX10_copyOf_0 : decode cX10_copyOf 0 = .ok (.aload_n 1, 1) := by decide +kernel
theorem dX10_copyOf_1 : decode cX10_copyOf 1 = .ok (.getfield 9, 3) := by decide +kernel
theorem dX10_copyOf_4 : decode cX10_copyOf 4 = .ok (.iconst 0, 1) := by decide +kernel
theorem dX10_copyOf_5 : decode cX10_copyOf 5 = .ok (.aload_n 0, 1) := by decide +kernel
theorem dX10_copyOf_6 : decode cX10_copyOf 6 = .ok (.getfield 9, 3) := by decide +kernel
theorem dX10_copyOf_9 : decode cX10_copyOf 9 = .ok (.iconst 0, 1) := by decide +kernel
theorem dX10_copyOf_10 : decode cX10_copyOf 10 = .ok (.bipush 6, 2) := by decide +kernel
theorem dX10_copyOf_12 : decode cX10_copyOf 12 = .ok (.invokestatic 43, 3) := by decide +kernel
theorem dX10_copyOf_15 : decode cX10_copyOf 15 = .ok (.aload_n 1, 1) := by decide +kernel
theorem dX10_copyOf_16 : decode cX10_copyOf 16 = .ok (.getfield 15, 3) := by decide +kernel
theorem dX10_copyOf_19 : decode cX10_copyOf 19 = .ok (.iconst 0, 1) := by decide +kernel
theorem dX10_copyOf_20 : decode cX10_copyOf 20 = .ok (.aload_n 0, 1) := by decide +kernel
theorem dX10_copyOf_21 : decode cX10_copyOf 21 = .ok (.getfield 15, 3) := by decide +kernel
theorem dX10_copyOf_24 : decode cX10_copyOf 24 = .ok (.iconst 0, 1) := by decide +kernel
theorem dX10_copyOf_25 : decode cX10_copyOf 25 = .ok (.bipush 6, 2) := by decide +kernel
theorem dX10_copyOf_27 : decode cX10_copyOf 27 = .ok (.invokestatic 43, 3) := by decide +kernel
theorem dX10_copyOf_30 : decode cX10_copyOf 30 = .ok (.aload_n 1, 1) := by decide +kernel
theorem dX10_copyOf_31 : decode cX10_copyOf 31 = .ok (.getfield 18, 3) := by decide +kernel
theorem dX10_copyOf_34 : decode cX10_copyOf 34 = .ok (.iconst 0, 1) := by decide +kernel
theorem dX10_copyOf_35 : decode cX10_copyOf 35 = .ok (.aload_n 0, 1) := by decide +kernel
theorem dX10_copyOf_36 : decode cX10_copyOf 36 = .ok (.getfield 18, 3) := by decide +kernel
theorem dX10_copyOf_39 : decode cX10_copyOf 39 = .ok (.iconst 0, 1) := by decide +kernel
theorem dX10_copyOf_40 : decode cX10_copyOf 40 = .ok (.bipush 6, 2) := by decide +kernel
theorem dX10_copyOf_42 : decode cX10_copyOf 42 = .ok (.invokestatic 43, 3) := by decide +kernel
theorem dX10_copyOf_45 : decode cX10_copyOf 45 = .ok (.aload_n 1, 1) := by decide +kernel
theorem dX10_copyOf_46 : decode cX10_copyOf 46 = .ok (.getfield 21, 3) := by decide +kernel
theorem dX10_copyOf_49 : decode cX10_copyOf 49 = .ok (.iconst 0, 1) := by decide +kernel
theorem dX10_copyOf_50 : decode cX10_copyOf 50 = .ok (.aload_n 0, 1) := by decide +kernel
theorem dX10_copyOf_51 : decode cX10_copyOf 51 = .ok (.getfield 21, 3) := by decide +kernel
theorem dX10_copyOf_54 : decode cX10_copyOf 54 = .ok (.iconst 0, 1) := by decide +kernel
theorem dX10_copyOf_55 : decode cX10_copyOf 55 = .ok (.bipush 6, 2) := by decide +kernel
theorem dX10_copyOf_57 : decode cX10_copyOf 57 = .ok (.invokestatic 43, 3) := by decide +kernel
theorem dX10_copyOf_60 : decode cX10_copyOf 60 = .ok (.aload_n 1, 1) := by decide +kernel
theorem dX10_copyOf_61 : decode cX10_copyOf 61 = .ok (.getfield 24, 3) := by decide +kernel
theorem dX10_copyOf_64 : decode cX10_copyOf 64 = .ok (.iconst 0, 1) := by decide +kernel
theorem dX10_copyOf_65 : decode cX10_copyOf 65 = .ok (.aload_n 0, 1) := by decide +kernel
theorem dX10_copyOf_66 : decode cX10_copyOf 66 = .ok (.getfield 24, 3) := by decide +kernel
theorem dX10_copyOf_69 : decode cX10_copyOf 69 = .ok (.iconst 0, 1) := by decide +kernel
theorem dX10_copyOf_70 : decode cX10_copyOf 70 = .ok (.bipush 40, 2) := by decide +kernel
theorem dX10_copyOf_72 : decode cX10_copyOf 72 = .ok (.invokestatic 43, 3) := by decide +kernel
theorem dX10_copyOf_75 : decode cX10_copyOf 75 = .ok (.aload_n 0, 1) := by decide +kernel
theorem dX10_copyOf_76 : decode cX10_copyOf 76 = .ok (.aload_n 1, 1) := by decide +kernel
theorem dX10_copyOf_77 : decode cX10_copyOf 77 = .ok (.getfield 30, 3) := by decide +kernel
theorem dX10_copyOf_80 : decode cX10_copyOf 80 = .ok (.putfield 30, 3) := by decide +kernel
theorem dX10_copyOf_83 : decode cX10_copyOf 83 = .ok (.aload_n 0, 1) := by decide +kernel
theorem dX10_copyOf_84 : decode cX10_copyOf 84 = .ok (.aload_n 1, 1) := by decide +kernel
theorem dX10_copyOf_85 : decode cX10_copyOf 85 = .ok (.getfield 34, 3) := by decide +kernel
theorem dX10_copyOf_88 : decode cX10_copyOf 88 = .ok (.putfield 34, 3) := by decide +kernel
theorem dX10_copyOf_91 : decode cX10_copyOf 91 = .ok (.aload_n 0, 1) := by decide +kernel
theorem dX10_copyOf_92 : decode cX10_copyOf 92 = .ok (.aload_n 1, 1) := by decide +kernel
theorem dX10_copyOf_93 : decode cX10_copyOf 93 = .ok (.getfield 37, 3) := by decide +kernel
theorem dX10_copyOf_96 : decode cX10_copyOf 96 = .ok (.putfield 37, 3) := by decide +kernel
theorem dX10_copyOf_99 : decode cX10_copyOf 99 = .ok (.aload_n 0, 1) := by decide +kernel
theorem dX10_copyOf_100 : decode cX10_copyOf 100 = .ok (.aload_n 1, 1) := by decide +kernel
theorem dX10_copyOf_101 : decode cX10_copyOf 101 = .ok (.getfield 40, 3) := by decide +kernel
theorem dX10_copyOf_104 : decode cX10_copyOf 104 = .ok (.putfield 40, 3) := by decide +kernel
theorem dX10_copyOf_107 : decode cX10_copyOf 107 = .ok (.return_, 1) := by decide +kernel
theorem dX10_goneCount_0 : decode cX10_goneCount 0 = .ok (.iconst 0, 1) := by decide +kernel
theorem dX10_goneCount_1 : decode cX10_goneCount 1 = .ok (.istore_n 1, 1) := by decide +kernel
theorem dX10_goneCount_2 : decode cX10_goneCount 2 = .ok (.iconst 0, 1) := by decide +kernel
theorem dX10_goneCount_3 : decode cX10_goneCount 3 = .ok (.istore_n 2, 1) := by decide +kernel
theorem dX10_goneCount_4 : decode cX10_goneCount 4 = .ok (.iload_n 2, 1) := by decide +kernel
theorem dX10_goneCount_5 : decode cX10_goneCount 5 = .ok (.bipush 6, 2) := by decide +kernel
theorem dX10_goneCount_7 : decode cX10_goneCount 7 = .ok (.if_icmp .ge 26, 3) := by decide +kernel
theorem dX10_goneCount_10 : decode cX10_goneCount 10 = .ok (.iload_n 1, 1) := by decide +kernel
theorem dX10_goneCount_11 : decode cX10_goneCount 11 = .ok (.aload_n 0, 1) := by decide +kernel
theorem dX10_goneCount_12 : decode cX10_goneCount 12 = .ok (.getfield 21, 3) := by decide +kernel
theorem dX10_goneCount_15 : decode cX10_goneCount 15 = .ok (.iload_n 2, 1) := by decide +kernel
theorem dX10_goneCount_16 : decode cX10_goneCount 16 = .ok (.iaload, 1) := by decide +kernel
theorem dX10_goneCount_17 : decode cX10_goneCount 17 = .ok (.ifCond .le 7, 3) := by decide +kernel
theorem dX10_goneCount_20 : decode cX10_goneCount 20 = .ok (.iconst 1, 1) := by decide +kernel
theorem dX10_goneCount_21 : decode cX10_goneCount 21 = .ok (.goto 4, 3) := by decide +kernel
theorem dX10_goneCount_24 : decode cX10_goneCount 24 = .ok (.iconst 0, 1) := by decide +kernel
theorem dX10_goneCount_25 : decode cX10_goneCount 25 = .ok (.iadd, 1) := by decide +kernel
theorem dX10_goneCount_26 : decode cX10_goneCount 26 = .ok (.istore_n 1, 1) := by decide +kernel
theorem dX10_goneCount_27 : decode cX10_goneCount 27 = .ok (.iinc 2 1, 3) := by decide +kernel
theorem dX10_goneCount_30 : decode cX10_goneCount 30 = .ok (.goto (-26), 3) := by decide +kernel
theorem dX10_goneCount_33 : decode cX10_goneCount 33 = .ok (.iload_n 1, 1) := by decide +kernel
theorem dX10_goneCount_34 : decode cX10_goneCount 34 = .ok (.ireturn, 1) := by decide +kernel
theorem dX10_allPurses_0 : decode cX10_allPurses 0 = .ok (.iconst 0, 1) := by decide +kernel
theorem dX10_allPurses_1 : decode cX10_allPurses 1 = .ok (.istore_n 1, 1) := by decide +kernel
theorem dX10_allPurses_2 : decode cX10_allPurses 2 = .ok (.iconst 0, 1) := by decide +kernel
theorem dX10_allPurses_3 : decode cX10_allPurses 3 = .ok (.istore_n 2, 1) := by decide +kernel
theorem dX10_allPurses_4 : decode cX10_allPurses 4 = .ok (.iload_n 2, 1) := by decide +kernel
theorem dX10_allPurses_5 : decode cX10_allPurses 5 = .ok (.bipush 6, 2) := by decide +kernel
theorem dX10_allPurses_7 : decode cX10_allPurses 7 = .ok (.if_icmp .ge 18, 3) := by decide +kernel
theorem dX10_allPurses_10 : decode cX10_allPurses 10 = .ok (.iload_n 1, 1) := by decide +kernel
theorem dX10_allPurses_11 : decode cX10_allPurses 11 = .ok (.aload_n 0, 1) := by decide +kernel
theorem dX10_allPurses_12 : decode cX10_allPurses 12 = .ok (.getfield 18, 3) := by decide +kernel
theorem dX10_allPurses_15 : decode cX10_allPurses 15 = .ok (.iload_n 2, 1) := by decide +kernel
theorem dX10_allPurses_16 : decode cX10_allPurses 16 = .ok (.iaload, 1) := by decide +kernel
theorem dX10_allPurses_17 : decode cX10_allPurses 17 = .ok (.iadd, 1) := by decide +kernel
theorem dX10_allPurses_18 : decode cX10_allPurses 18 = .ok (.istore_n 1, 1) := by decide +kernel
theorem dX10_allPurses_19 : decode cX10_allPurses 19 = .ok (.iinc 2 1, 3) := by decide +kernel
theorem dX10_allPurses_22 : decode cX10_allPurses 22 = .ok (.goto (-18), 3) := by decide +kernel
theorem dX10_allPurses_25 : decode cX10_allPurses 25 = .ok (.iload_n 1, 1) := by decide +kernel
theorem dX10_allPurses_26 : decode cX10_allPurses 26 = .ok (.ireturn, 1) := by decide +kernel
theorem dX10_tell_0 : decode cX10_tell 0 = .ok (.aload_n 0, 1) := by decide +kernel
theorem dX10_tell_1 : decode cX10_tell 1 = .ok (.getfield 24, 3) := by decide +kernel
theorem dX10_tell_4 : decode cX10_tell 4 = .ok (.aload_n 0, 1) := by decide +kernel
theorem dX10_tell_5 : decode cX10_tell 5 = .ok (.getfield 37, 3) := by decide +kernel
theorem dX10_tell_8 : decode cX10_tell 8 = .ok (.aload_n 0, 1) := by decide +kernel
theorem dX10_tell_9 : decode cX10_tell 9 = .ok (.getfield 40, 3) := by decide +kernel
theorem dX10_tell_12 : decode cX10_tell 12 = .ok (.iadd, 1) := by decide +kernel
theorem dX10_tell_13 : decode cX10_tell 13 = .ok (.bipush 40, 2) := by decide +kernel
theorem dX10_tell_15 : decode cX10_tell 15 = .ok (.irem, 1) := by decide +kernel
theorem dX10_tell_16 : decode cX10_tell 16 = .ok (.aload_n 0, 1) := by decide +kernel
theorem dX10_tell_17 : decode cX10_tell 17 = .ok (.getfield 30, 3) := by decide +kernel
theorem dX10_tell_20 : decode cX10_tell 20 = .ok (.bipush 8, 2) := by decide +kernel
theorem dX10_tell_22 : decode cX10_tell 22 = .ok (.ishl, 1) := by decide +kernel
theorem dX10_tell_23 : decode cX10_tell 23 = .ok (.iload_n 1, 1) := by decide +kernel
theorem dX10_tell_24 : decode cX10_tell 24 = .ok (.iconst 4, 1) := by decide +kernel
theorem dX10_tell_25 : decode cX10_tell 25 = .ok (.ishl, 1) := by decide +kernel
theorem dX10_tell_26 : decode cX10_tell 26 = .ok (.ior, 1) := by decide +kernel
theorem dX10_tell_27 : decode cX10_tell 27 = .ok (.iload_n 2, 1) := by decide +kernel
theorem dX10_tell_28 : decode cX10_tell 28 = .ok (.iconst 1, 1) := by decide +kernel
theorem dX10_tell_29 : decode cX10_tell 29 = .ok (.ishl, 1) := by decide +kernel
theorem dX10_tell_30 : decode cX10_tell 30 = .ok (.ior, 1) := by decide +kernel
theorem dX10_tell_31 : decode cX10_tell 31 = .ok (.iload_n 3, 1) := by decide +kernel
theorem dX10_tell_32 : decode cX10_tell 32 = .ok (.ior, 1) := by decide +kernel
theorem dX10_tell_33 : decode cX10_tell 33 = .ok (.iastore, 1) := by decide +kernel
theorem dX10_tell_34 : decode cX10_tell 34 = .ok (.aload_n 0, 1) := by decide +kernel
theorem dX10_tell_35 : decode cX10_tell 35 = .ok (.getfield 40, 3) := by decide +kernel
theorem dX10_tell_38 : decode cX10_tell 38 = .ok (.bipush 40, 2) := by decide +kernel
theorem dX10_tell_40 : decode cX10_tell 40 = .ok (.if_icmp .ge 16, 3) := by decide +kernel
theorem dX10_tell_43 : decode cX10_tell 43 = .ok (.aload_n 0, 1) := by decide +kernel
theorem dX10_tell_44 : decode cX10_tell 44 = .ok (.dup, 1) := by decide +kernel
theorem dX10_tell_45 : decode cX10_tell 45 = .ok (.getfield 40, 3) := by decide +kernel
theorem dX10_tell_48 : decode cX10_tell 48 = .ok (.iconst 1, 1) := by decide +kernel
theorem dX10_tell_49 : decode cX10_tell 49 = .ok (.iadd, 1) := by decide +kernel
theorem dX10_tell_50 : decode cX10_tell 50 = .ok (.putfield 40, 3) := by decide +kernel
theorem dX10_tell_53 : decode cX10_tell 53 = .ok (.goto 16, 3) := by decide +kernel
theorem dX10_tell_56 : decode cX10_tell 56 = .ok (.aload_n 0, 1) := by decide +kernel
theorem dX10_tell_57 : decode cX10_tell 57 = .ok (.aload_n 0, 1) := by decide +kernel
theorem dX10_tell_58 : decode cX10_tell 58 = .ok (.getfield 37, 3) := by decide +kernel
theorem dX10_tell_61 : decode cX10_tell 61 = .ok (.iconst 1, 1) := by decide +kernel
theorem dX10_tell_62 : decode cX10_tell 62 = .ok (.iadd, 1) := by decide +kernel
theorem dX10_tell_63 : decode cX10_tell 63 = .ok (.bipush 40, 2) := by decide +kernel
theorem dX10_tell_65 : decode cX10_tell 65 = .ok (.irem, 1) := by decide +kernel
theorem dX10_tell_66 : decode cX10_tell 66 = .ok (.putfield 37, 3) := by decide +kernel
theorem dX10_tell_69 : decode cX10_tell 69 = .ok (.return_, 1) := by decide +kernel
theorem dX10_toldOf_0 : decode cX10_toldOf 0 = .ok (.iload_n 1, 1) := by decide +kernel
theorem dX10_toldOf_1 : decode cX10_toldOf 1 = .ok (.ifCond .lt 11, 3) := by decide +kernel
theorem dX10_toldOf_4 : decode cX10_toldOf 4 = .ok (.iload_n 1, 1) := by decide +kernel
theorem dX10_toldOf_5 : decode cX10_toldOf 5 = .ok (.aload_n 0, 1) := by decide +kernel
theorem dX10_toldOf_6 : decode cX10_toldOf 6 = .ok (.getfield 40, 3) := by decide +kernel
theorem dX10_toldOf_9 : decode cX10_toldOf 9 = .ok (.if_icmp .lt 5, 3) := by decide +kernel
theorem dX10_toldOf_12 : decode cX10_toldOf 12 = .ok (.iconst (-1), 1) := by decide +kernel
theorem dX10_toldOf_13 : decode cX10_toldOf 13 = .ok (.ireturn, 1) := by decide +kernel
theorem dX10_toldOf_14 : decode cX10_toldOf 14 = .ok (.aload_n 0, 1) := by decide +kernel
theorem dX10_toldOf_15 : decode cX10_toldOf 15 = .ok (.getfield 24, 3) := by decide +kernel
theorem dX10_toldOf_18 : decode cX10_toldOf 18 = .ok (.aload_n 0, 1) := by decide +kernel
theorem dX10_toldOf_19 : decode cX10_toldOf 19 = .ok (.getfield 37, 3) := by decide +kernel
theorem dX10_toldOf_22 : decode cX10_toldOf 22 = .ok (.iload_n 1, 1) := by decide +kernel
theorem dX10_toldOf_23 : decode cX10_toldOf 23 = .ok (.iadd, 1) := by decide +kernel
theorem dX10_toldOf_24 : decode cX10_toldOf 24 = .ok (.bipush 40, 2) := by decide +kernel
theorem dX10_toldOf_26 : decode cX10_toldOf 26 = .ok (.irem, 1) := by decide +kernel
theorem dX10_toldOf_27 : decode cX10_toldOf 27 = .ok (.iaload, 1) := by decide +kernel
theorem dX10_toldOf_28 : decode cX10_toldOf 28 = .ok (.istore_n 3, 1) := by decide +kernel
theorem dX10_toldOf_29 : decode cX10_toldOf 29 = .ok (.iload_n 2, 1) := by decide +kernel
theorem dX10_toldOf_30 : decode cX10_toldOf 30 = .ok (.tableswitch 53 0 3 #[30, 35, 42, 49], 30) := by decide +kernel
theorem dX10_toldOf_60 : decode cX10_toldOf 60 = .ok (.iload_n 3, 1) := by decide +kernel
theorem dX10_toldOf_61 : decode cX10_toldOf 61 = .ok (.bipush 8, 2) := by decide +kernel
theorem dX10_toldOf_63 : decode cX10_toldOf 63 = .ok (.ishr, 1) := by decide +kernel
theorem dX10_toldOf_64 : decode cX10_toldOf 64 = .ok (.ireturn, 1) := by decide +kernel
theorem dX10_toldOf_65 : decode cX10_toldOf 65 = .ok (.iload_n 3, 1) := by decide +kernel
theorem dX10_toldOf_66 : decode cX10_toldOf 66 = .ok (.iconst 4, 1) := by decide +kernel
theorem dX10_toldOf_67 : decode cX10_toldOf 67 = .ok (.ishr, 1) := by decide +kernel
theorem dX10_toldOf_68 : decode cX10_toldOf 68 = .ok (.bipush 15, 2) := by decide +kernel
theorem dX10_toldOf_70 : decode cX10_toldOf 70 = .ok (.iand, 1) := by decide +kernel
theorem dX10_toldOf_71 : decode cX10_toldOf 71 = .ok (.ireturn, 1) := by decide +kernel
theorem dX10_toldOf_72 : decode cX10_toldOf 72 = .ok (.iload_n 3, 1) := by decide +kernel
theorem dX10_toldOf_73 : decode cX10_toldOf 73 = .ok (.iconst 1, 1) := by decide +kernel
theorem dX10_toldOf_74 : decode cX10_toldOf 74 = .ok (.ishr, 1) := by decide +kernel
theorem dX10_toldOf_75 : decode cX10_toldOf 75 = .ok (.bipush 7, 2) := by decide +kernel
theorem dX10_toldOf_77 : decode cX10_toldOf 77 = .ok (.iand, 1) := by decide +kernel
theorem dX10_toldOf_78 : decode cX10_toldOf 78 = .ok (.ireturn, 1) := by decide +kernel
theorem dX10_toldOf_79 : decode cX10_toldOf 79 = .ok (.iload_n 3, 1) := by decide +kernel
theorem dX10_toldOf_80 : decode cX10_toldOf 80 = .ok (.iconst 1, 1) := by decide +kernel
theorem dX10_toldOf_81 : decode cX10_toldOf 81 = .ok (.iand, 1) := by decide +kernel
theorem dX10_toldOf_82 : decode cX10_toldOf 82 = .ok (.ireturn, 1) := by decide +kernel
theorem dX10_toldOf_83 : decode cX10_toldOf 83 = .ok (.iconst (-1), 1) := by decide +kernel
theorem dX10_toldOf_84 : decode cX10_toldOf 84 = .ok (.ireturn, 1) := by decide +kernel
theorem dX11_init_0 : decode cX11_init 0 = .ok (.aload_n 0, 1) := by decide +kernel
theorem dX11_init_1 : decode cX11_init 1 = .ok (.invokespecial 3, 3) := by decide +kernel
theorem dX11_init_4 : decode cX11_init 4 = .ok (.aload_n 0, 1) := by decide +kernel
theorem dX11_init_5 : decode cX11_init 5 = .ok (.sipush 1600, 3) := by decide +kernel
theorem dX11_init_8 : decode cX11_init 8 = .ok (.newarray .byte, 2) := by decide +kernel
theorem dX11_init_10 : decode cX11_init 10 = .ok (.putfield 9, 3) := by decide +kernel
theorem dX11_init_13 : decode cX11_init 13 = .ok (.return_, 1) := by decide +kernel
theorem dX11_add_0 : decode cX11_add 0 = .ok (.bipush 24, 2) := by decide +kernel
theorem dX11_add_2 : decode cX11_add 2 = .ok (.istore_n 2, 1) := by decide +kernel
theorem dX11_add_3 : decode cX11_add 3 = .ok (.iload_n 2, 1) := by decide +kernel
theorem dX11_add_4 : decode cX11_add 4 = .ok (.ifCond .lt 42, 3) := by decide +kernel
theorem dX11_add_7 : decode cX11_add 7 = .ok (.aload_n 0, 1) := by decide +kernel
theorem dX11_add_8 : decode cX11_add 8 = .ok (.getfield 15, 3) := by decide +kernel
theorem dX11_add_11 : decode cX11_add 11 = .ok (.sipush 1600, 3) := by decide +kernel
theorem dX11_add_14 : decode cX11_add 14 = .ok (.if_icmp .ge 32, 3) := by decide +kernel
theorem dX11_add_17 : decode cX11_add 17 = .ok (.aload_n 0, 1) := by decide +kernel
theorem dX11_add_18 : decode cX11_add 18 = .ok (.getfield 9, 3) := by decide +kernel
theorem dX11_add_21 : decode cX11_add 21 = .ok (.aload_n 0, 1) := by decide +kernel
theorem dX11_add_22 : decode cX11_add 22 = .ok (.getfield 15, 3) := by decide +kernel
theorem dX11_add_25 : decode cX11_add 25 = .ok (.iload_n 1, 1) := by decide +kernel
theorem dX11_add_26 : decode cX11_add 26 = .ok (.iload_n 2, 1) := by decide +kernel
theorem dX11_add_27 : decode cX11_add 27 = .ok (.ishr, 1) := by decide +kernel
theorem dX11_add_28 : decode cX11_add 28 = .ok (.i2b, 1) := by decide +kernel
theorem dX11_add_29 : decode cX11_add 29 = .ok (.bastore, 1) := by decide +kernel
theorem dX11_add_30 : decode cX11_add 30 = .ok (.aload_n 0, 1) := by decide +kernel
theorem dX11_add_31 : decode cX11_add 31 = .ok (.dup, 1) := by decide +kernel
theorem dX11_add_32 : decode cX11_add 32 = .ok (.getfield 15, 3) := by decide +kernel
theorem dX11_add_35 : decode cX11_add 35 = .ok (.iconst 1, 1) := by decide +kernel
theorem dX11_add_36 : decode cX11_add 36 = .ok (.iadd, 1) := by decide +kernel
theorem dX11_add_37 : decode cX11_add 37 = .ok (.putfield 15, 3) := by decide +kernel
theorem dX11_add_40 : decode cX11_add 40 = .ok (.iinc 2 (-8), 3) := by decide +kernel
theorem dX11_add_43 : decode cX11_add 43 = .ok (.goto (-40), 3) := by decide +kernel
theorem dX11_add_46 : decode cX11_add 46 = .ok (.return_, 1) := by decide +kernel
theorem dX11_at_0 : decode cX11_at 0 = .ok (.iload_n 1, 1) := by decide +kernel
theorem dX11_at_1 : decode cX11_at 1 = .ok (.ifCond .lt 24, 3) := by decide +kernel
theorem dX11_at_4 : decode cX11_at 4 = .ok (.iload_n 1, 1) := by decide +kernel
theorem dX11_at_5 : decode cX11_at 5 = .ok (.aload_n 0, 1) := by decide +kernel
theorem dX11_at_6 : decode cX11_at 6 = .ok (.getfield 15, 3) := by decide +kernel
theorem dX11_at_9 : decode cX11_at 9 = .ok (.if_icmp .ge 16, 3) := by decide +kernel
theorem dX11_at_12 : decode cX11_at 12 = .ok (.aload_n 0, 1) := by decide +kernel
theorem dX11_at_13 : decode cX11_at 13 = .ok (.getfield 9, 3) := by decide +kernel
theorem dX11_at_16 : decode cX11_at 16 = .ok (.iload_n 1, 1) := by decide +kernel
theorem dX11_at_17 : decode cX11_at 17 = .ok (.baload, 1) := by decide +kernel
theorem dX11_at_18 : decode cX11_at 18 = .ok (.sipush 255, 3) := by decide +kernel
theorem dX11_at_21 : decode cX11_at 21 = .ok (.iand, 1) := by decide +kernel
theorem dX11_at_22 : decode cX11_at 22 = .ok (.goto 4, 3) := by decide +kernel
theorem dX11_at_25 : decode cX11_at 25 = .ok (.iconst (-1), 1) := by decide +kernel
theorem dX11_at_26 : decode cX11_at 26 = .ok (.ireturn, 1) := by decide +kernel
theorem dX11_pairAt_0 : decode cX11_pairAt 0 = .ok (.aload_n 0, 1) := by decide +kernel
theorem dX11_pairAt_1 : decode cX11_pairAt 1 = .ok (.iload_n 1, 1) := by decide +kernel
theorem dX11_pairAt_2 : decode cX11_pairAt 2 = .ok (.invokevirtual 19, 3) := by decide +kernel
theorem dX11_pairAt_5 : decode cX11_pairAt 5 = .ok (.sipush 256, 3) := by decide +kernel
theorem dX11_pairAt_8 : decode cX11_pairAt 8 = .ok (.imul, 1) := by decide +kernel
theorem dX11_pairAt_9 : decode cX11_pairAt 9 = .ok (.aload_n 0, 1) := by decide +kernel
theorem dX11_pairAt_10 : decode cX11_pairAt 10 = .ok (.iload_n 1, 1) := by decide +kernel
theorem dX11_pairAt_11 : decode cX11_pairAt 11 = .ok (.iconst 1, 1) := by decide +kernel
theorem dX11_pairAt_12 : decode cX11_pairAt 12 = .ok (.iadd, 1) := by decide +kernel
theorem dX11_pairAt_13 : decode cX11_pairAt 13 = .ok (.invokevirtual 19, 3) := by decide +kernel
theorem dX11_pairAt_16 : decode cX11_pairAt 16 = .ok (.iadd, 1) := by decide +kernel
theorem dX11_pairAt_17 : decode cX11_pairAt 17 = .ok (.ireturn, 1) := by decide +kernel
theorem dJ6_bitCount_0f7a4_0 : decode cJ6_bitCount_0f7a4 0 = .ok (.iload_n 0, 1) := by decide +kernel
theorem dJ6_bitCount_0f7a4_1 : decode cJ6_bitCount_0f7a4 1 = .ok (.iload_n 0, 1) := by decide +kernel
theorem dJ6_bitCount_0f7a4_2 : decode cJ6_bitCount_0f7a4 2 = .ok (.iconst 1, 1) := by decide +kernel
theorem dJ6_bitCount_0f7a4_3 : decode cJ6_bitCount_0f7a4 3 = .ok (.iushr, 1) := by decide +kernel
theorem dJ6_bitCount_0f7a4_4 : decode cJ6_bitCount_0f7a4 4 = .ok (.ldc_w 265, 3) := by decide +kernel
theorem dJ6_bitCount_0f7a4_7 : decode cJ6_bitCount_0f7a4 7 = .ok (.iand, 1) := by decide +kernel
theorem dJ6_bitCount_0f7a4_8 : decode cJ6_bitCount_0f7a4 8 = .ok (.isub, 1) := by decide +kernel
theorem dJ6_bitCount_0f7a4_9 : decode cJ6_bitCount_0f7a4 9 = .ok (.istore_n 0, 1) := by decide +kernel
theorem dJ6_bitCount_0f7a4_10 : decode cJ6_bitCount_0f7a4 10 = .ok (.iload_n 0, 1) := by decide +kernel
theorem dJ6_bitCount_0f7a4_11 : decode cJ6_bitCount_0f7a4 11 = .ok (.ldc_w 266, 3) := by decide +kernel
theorem dJ6_bitCount_0f7a4_14 : decode cJ6_bitCount_0f7a4 14 = .ok (.iand, 1) := by decide +kernel
theorem dJ6_bitCount_0f7a4_15 : decode cJ6_bitCount_0f7a4 15 = .ok (.iload_n 0, 1) := by decide +kernel
theorem dJ6_bitCount_0f7a4_16 : decode cJ6_bitCount_0f7a4 16 = .ok (.iconst 2, 1) := by decide +kernel
theorem dJ6_bitCount_0f7a4_17 : decode cJ6_bitCount_0f7a4 17 = .ok (.iushr, 1) := by decide +kernel
theorem dJ6_bitCount_0f7a4_18 : decode cJ6_bitCount_0f7a4 18 = .ok (.ldc_w 266, 3) := by decide +kernel
theorem dJ6_bitCount_0f7a4_21 : decode cJ6_bitCount_0f7a4 21 = .ok (.iand, 1) := by decide +kernel
theorem dJ6_bitCount_0f7a4_22 : decode cJ6_bitCount_0f7a4 22 = .ok (.iadd, 1) := by decide +kernel
theorem dJ6_bitCount_0f7a4_23 : decode cJ6_bitCount_0f7a4 23 = .ok (.istore_n 0, 1) := by decide +kernel
theorem dJ6_bitCount_0f7a4_24 : decode cJ6_bitCount_0f7a4 24 = .ok (.iload_n 0, 1) := by decide +kernel
theorem dJ6_bitCount_0f7a4_25 : decode cJ6_bitCount_0f7a4 25 = .ok (.iload_n 0, 1) := by decide +kernel
theorem dJ6_bitCount_0f7a4_26 : decode cJ6_bitCount_0f7a4 26 = .ok (.iconst 4, 1) := by decide +kernel
theorem dJ6_bitCount_0f7a4_27 : decode cJ6_bitCount_0f7a4 27 = .ok (.iushr, 1) := by decide +kernel
theorem dJ6_bitCount_0f7a4_28 : decode cJ6_bitCount_0f7a4 28 = .ok (.iadd, 1) := by decide +kernel
theorem dJ6_bitCount_0f7a4_29 : decode cJ6_bitCount_0f7a4 29 = .ok (.ldc_w 267, 3) := by decide +kernel
theorem dJ6_bitCount_0f7a4_32 : decode cJ6_bitCount_0f7a4 32 = .ok (.iand, 1) := by decide +kernel
theorem dJ6_bitCount_0f7a4_33 : decode cJ6_bitCount_0f7a4 33 = .ok (.istore_n 0, 1) := by decide +kernel
theorem dJ6_bitCount_0f7a4_34 : decode cJ6_bitCount_0f7a4 34 = .ok (.iload_n 0, 1) := by decide +kernel
theorem dJ6_bitCount_0f7a4_35 : decode cJ6_bitCount_0f7a4 35 = .ok (.iload_n 0, 1) := by decide +kernel
theorem dJ6_bitCount_0f7a4_36 : decode cJ6_bitCount_0f7a4 36 = .ok (.bipush 8, 2) := by decide +kernel
theorem dJ6_bitCount_0f7a4_38 : decode cJ6_bitCount_0f7a4 38 = .ok (.iushr, 1) := by decide +kernel
theorem dJ6_bitCount_0f7a4_39 : decode cJ6_bitCount_0f7a4 39 = .ok (.iadd, 1) := by decide +kernel
theorem dJ6_bitCount_0f7a4_40 : decode cJ6_bitCount_0f7a4 40 = .ok (.istore_n 0, 1) := by decide +kernel
theorem dJ6_bitCount_0f7a4_41 : decode cJ6_bitCount_0f7a4 41 = .ok (.iload_n 0, 1) := by decide +kernel
theorem dJ6_bitCount_0f7a4_42 : decode cJ6_bitCount_0f7a4 42 = .ok (.iload_n 0, 1) := by decide +kernel
theorem dJ6_bitCount_0f7a4_43 : decode cJ6_bitCount_0f7a4 43 = .ok (.bipush 16, 2) := by decide +kernel
theorem dJ6_bitCount_0f7a4_45 : decode cJ6_bitCount_0f7a4 45 = .ok (.iushr, 1) := by decide +kernel
theorem dJ6_bitCount_0f7a4_46 : decode cJ6_bitCount_0f7a4 46 = .ok (.iadd, 1) := by decide +kernel
theorem dJ6_bitCount_0f7a4_47 : decode cJ6_bitCount_0f7a4 47 = .ok (.istore_n 0, 1) := by decide +kernel
theorem dJ6_bitCount_0f7a4_48 : decode cJ6_bitCount_0f7a4 48 = .ok (.iload_n 0, 1) := by decide +kernel
theorem dJ6_bitCount_0f7a4_49 : decode cJ6_bitCount_0f7a4 49 = .ok (.bipush 63, 2) := by decide +kernel
theorem dJ6_bitCount_0f7a4_51 : decode cJ6_bitCount_0f7a4 51 = .ok (.iand, 1) := by decide +kernel
theorem dJ6_bitCount_0f7a4_52 : decode cJ6_bitCount_0f7a4 52 = .ok (.ireturn, 1) := by decide +kernel
theorem dJ13_bitCount_95d88_0 : decode cJ13_bitCount_95d88 0 = .ok (.lload_n 0, 1) := by decide +kernel
theorem dJ13_bitCount_95d88_1 : decode cJ13_bitCount_95d88 1 = .ok (.lload_n 0, 1) := by decide +kernel
theorem dJ13_bitCount_95d88_2 : decode cJ13_bitCount_95d88 2 = .ok (.iconst 1, 1) := by decide +kernel
theorem dJ13_bitCount_95d88_3 : decode cJ13_bitCount_95d88 3 = .ok (.lushr, 1) := by decide +kernel
theorem dJ13_bitCount_95d88_4 : decode cJ13_bitCount_95d88 4 = .ok (.ldc2_w 314, 3) := by decide +kernel
theorem dJ13_bitCount_95d88_7 : decode cJ13_bitCount_95d88 7 = .ok (.land, 1) := by decide +kernel
theorem dJ13_bitCount_95d88_8 : decode cJ13_bitCount_95d88 8 = .ok (.lsub, 1) := by decide +kernel
theorem dJ13_bitCount_95d88_9 : decode cJ13_bitCount_95d88 9 = .ok (.lstore_n 0, 1) := by decide +kernel
theorem dJ13_bitCount_95d88_10 : decode cJ13_bitCount_95d88 10 = .ok (.lload_n 0, 1) := by decide +kernel
theorem dJ13_bitCount_95d88_11 : decode cJ13_bitCount_95d88 11 = .ok (.ldc2_w 316, 3) := by decide +kernel
theorem dJ13_bitCount_95d88_14 : decode cJ13_bitCount_95d88 14 = .ok (.land, 1) := by decide +kernel
theorem dJ13_bitCount_95d88_15 : decode cJ13_bitCount_95d88 15 = .ok (.lload_n 0, 1) := by decide +kernel
theorem dJ13_bitCount_95d88_16 : decode cJ13_bitCount_95d88 16 = .ok (.iconst 2, 1) := by decide +kernel
theorem dJ13_bitCount_95d88_17 : decode cJ13_bitCount_95d88 17 = .ok (.lushr, 1) := by decide +kernel
theorem dJ13_bitCount_95d88_18 : decode cJ13_bitCount_95d88 18 = .ok (.ldc2_w 316, 3) := by decide +kernel
theorem dJ13_bitCount_95d88_21 : decode cJ13_bitCount_95d88 21 = .ok (.land, 1) := by decide +kernel
theorem dJ13_bitCount_95d88_22 : decode cJ13_bitCount_95d88 22 = .ok (.ladd, 1) := by decide +kernel
theorem dJ13_bitCount_95d88_23 : decode cJ13_bitCount_95d88 23 = .ok (.lstore_n 0, 1) := by decide +kernel
theorem dJ13_bitCount_95d88_24 : decode cJ13_bitCount_95d88 24 = .ok (.lload_n 0, 1) := by decide +kernel
theorem dJ13_bitCount_95d88_25 : decode cJ13_bitCount_95d88 25 = .ok (.lload_n 0, 1) := by decide +kernel
theorem dJ13_bitCount_95d88_26 : decode cJ13_bitCount_95d88 26 = .ok (.iconst 4, 1) := by decide +kernel
theorem dJ13_bitCount_95d88_27 : decode cJ13_bitCount_95d88 27 = .ok (.lushr, 1) := by decide +kernel
theorem dJ13_bitCount_95d88_28 : decode cJ13_bitCount_95d88 28 = .ok (.ladd, 1) := by decide +kernel
theorem dJ13_bitCount_95d88_29 : decode cJ13_bitCount_95d88 29 = .ok (.ldc2_w 318, 3) := by decide +kernel
theorem dJ13_bitCount_95d88_32 : decode cJ13_bitCount_95d88 32 = .ok (.land, 1) := by decide +kernel
theorem dJ13_bitCount_95d88_33 : decode cJ13_bitCount_95d88 33 = .ok (.lstore_n 0, 1) := by decide +kernel
theorem dJ13_bitCount_95d88_34 : decode cJ13_bitCount_95d88 34 = .ok (.lload_n 0, 1) := by decide +kernel
theorem dJ13_bitCount_95d88_35 : decode cJ13_bitCount_95d88 35 = .ok (.lload_n 0, 1) := by decide +kernel
theorem dJ13_bitCount_95d88_36 : decode cJ13_bitCount_95d88 36 = .ok (.bipush 8, 2) := by decide +kernel
theorem dJ13_bitCount_95d88_38 : decode cJ13_bitCount_95d88 38 = .ok (.lushr, 1) := by decide +kernel
theorem dJ13_bitCount_95d88_39 : decode cJ13_bitCount_95d88 39 = .ok (.ladd, 1) := by decide +kernel
theorem dJ13_bitCount_95d88_40 : decode cJ13_bitCount_95d88 40 = .ok (.lstore_n 0, 1) := by decide +kernel
theorem dJ13_bitCount_95d88_41 : decode cJ13_bitCount_95d88 41 = .ok (.lload_n 0, 1) := by decide +kernel
theorem dJ13_bitCount_95d88_42 : decode cJ13_bitCount_95d88 42 = .ok (.lload_n 0, 1) := by decide +kernel
theorem dJ13_bitCount_95d88_43 : decode cJ13_bitCount_95d88 43 = .ok (.bipush 16, 2) := by decide +kernel
theorem dJ13_bitCount_95d88_45 : decode cJ13_bitCount_95d88 45 = .ok (.lushr, 1) := by decide +kernel
theorem dJ13_bitCount_95d88_46 : decode cJ13_bitCount_95d88 46 = .ok (.ladd, 1) := by decide +kernel
theorem dJ13_bitCount_95d88_47 : decode cJ13_bitCount_95d88 47 = .ok (.lstore_n 0, 1) := by decide +kernel
theorem dJ13_bitCount_95d88_48 : decode cJ13_bitCount_95d88 48 = .ok (.lload_n 0, 1) := by decide +kernel
theorem dJ13_bitCount_95d88_49 : decode cJ13_bitCount_95d88 49 = .ok (.lload_n 0, 1) := by decide +kernel
theorem dJ13_bitCount_95d88_50 : decode cJ13_bitCount_95d88 50 = .ok (.bipush 32, 2) := by decide +kernel
theorem dJ13_bitCount_95d88_52 : decode cJ13_bitCount_95d88 52 = .ok (.lushr, 1) := by decide +kernel
theorem dJ13_bitCount_95d88_53 : decode cJ13_bitCount_95d88 53 = .ok (.ladd, 1) := by decide +kernel
theorem dJ13_bitCount_95d88_54 : decode cJ13_bitCount_95d88 54 = .ok (.lstore_n 0, 1) := by decide +kernel
theorem dJ13_bitCount_95d88_55 : decode cJ13_bitCount_95d88 55 = .ok (.lload_n 0, 1) := by decide +kernel
theorem dJ13_bitCount_95d88_56 : decode cJ13_bitCount_95d88 56 = .ok (.l2i, 1) := by decide +kernel
theorem dJ13_bitCount_95d88_57 : decode cJ13_bitCount_95d88 57 = .ok (.bipush 127, 2) := by decide +kernel
theorem dJ13_bitCount_95d88_59 : decode cJ13_bitCount_95d88 59 = .ok (.iand, 1) := by decide +kernel
theorem dJ13_bitCount_95d88_60 : decode cJ13_bitCount_95d88 60 = .ok (.ireturn, 1) := by decide +kernel
theorem dJ9_floorDiv_f86c9_0 : decode cJ9_floorDiv_f86c9 0 = .ok (.lload_n 0, 1) := by decide +kernel
theorem dJ9_floorDiv_f86c9_1 : decode cJ9_floorDiv_f86c9 1 = .ok (.lload_n 2, 1) := by decide +kernel
theorem dJ9_floorDiv_f86c9_2 : decode cJ9_floorDiv_f86c9 2 = .ok (.ldiv, 1) := by decide +kernel
theorem dJ9_floorDiv_f86c9_3 : decode cJ9_floorDiv_f86c9 3 = .ok (.lstore 4, 2) := by decide +kernel
theorem dJ9_floorDiv_f86c9_5 : decode cJ9_floorDiv_f86c9 5 = .ok (.lload_n 0, 1) := by decide +kernel
theorem dJ9_floorDiv_f86c9_6 : decode cJ9_floorDiv_f86c9 6 = .ok (.lload_n 2, 1) := by decide +kernel
theorem dJ9_floorDiv_f86c9_7 : decode cJ9_floorDiv_f86c9 7 = .ok (.lxor, 1) := by decide +kernel
theorem dJ9_floorDiv_f86c9_8 : decode cJ9_floorDiv_f86c9 8 = .ok (.lconst 0, 1) := by decide +kernel
theorem dJ9_floorDiv_f86c9_9 : decode cJ9_floorDiv_f86c9 9 = .ok (.lcmp, 1) := by decide +kernel
theorem dJ9_floorDiv_f86c9_10 : decode cJ9_floorDiv_f86c9 10 = .ok (.ifCond .ge 17, 3) := by decide +kernel
theorem dJ9_floorDiv_f86c9_13 : decode cJ9_floorDiv_f86c9 13 = .ok (.lload 4, 2) := by decide +kernel
theorem dJ9_floorDiv_f86c9_15 : decode cJ9_floorDiv_f86c9 15 = .ok (.lload_n 2, 1) := by decide +kernel
theorem dJ9_floorDiv_f86c9_16 : decode cJ9_floorDiv_f86c9 16 = .ok (.lmul, 1) := by decide +kernel
theorem dJ9_floorDiv_f86c9_17 : decode cJ9_floorDiv_f86c9 17 = .ok (.lload_n 0, 1) := by decide +kernel
theorem dJ9_floorDiv_f86c9_18 : decode cJ9_floorDiv_f86c9 18 = .ok (.lcmp, 1) := by decide +kernel
theorem dJ9_floorDiv_f86c9_19 : decode cJ9_floorDiv_f86c9 19 = .ok (.ifCond .eq 8, 3) := by decide +kernel
theorem dJ9_floorDiv_f86c9_22 : decode cJ9_floorDiv_f86c9 22 = .ok (.lload 4, 2) := by decide +kernel
theorem dJ9_floorDiv_f86c9_24 : decode cJ9_floorDiv_f86c9 24 = .ok (.lconst 1, 1) := by decide +kernel
theorem dJ9_floorDiv_f86c9_25 : decode cJ9_floorDiv_f86c9 25 = .ok (.lsub, 1) := by decide +kernel
theorem dJ9_floorDiv_f86c9_26 : decode cJ9_floorDiv_f86c9 26 = .ok (.lreturn, 1) := by decide +kernel
theorem dJ9_floorDiv_f86c9_27 : decode cJ9_floorDiv_f86c9 27 = .ok (.lload 4, 2) := by decide +kernel
theorem dJ9_floorDiv_f86c9_29 : decode cJ9_floorDiv_f86c9 29 = .ok (.lreturn, 1) := by decide +kernel
theorem dJ9_floorMod_7cf53_0 : decode cJ9_floorMod_7cf53 0 = .ok (.iload_n 0, 1) := by decide +kernel
theorem dJ9_floorMod_7cf53_1 : decode cJ9_floorMod_7cf53 1 = .ok (.iload_n 1, 1) := by decide +kernel
theorem dJ9_floorMod_7cf53_2 : decode cJ9_floorMod_7cf53 2 = .ok (.irem, 1) := by decide +kernel
theorem dJ9_floorMod_7cf53_3 : decode cJ9_floorMod_7cf53 3 = .ok (.istore_n 2, 1) := by decide +kernel
theorem dJ9_floorMod_7cf53_4 : decode cJ9_floorMod_7cf53 4 = .ok (.iload_n 0, 1) := by decide +kernel
theorem dJ9_floorMod_7cf53_5 : decode cJ9_floorMod_7cf53 5 = .ok (.iload_n 1, 1) := by decide +kernel
theorem dJ9_floorMod_7cf53_6 : decode cJ9_floorMod_7cf53 6 = .ok (.ixor, 1) := by decide +kernel
theorem dJ9_floorMod_7cf53_7 : decode cJ9_floorMod_7cf53 7 = .ok (.ifCond .ge 11, 3) := by decide +kernel
theorem dJ9_floorMod_7cf53_10 : decode cJ9_floorMod_7cf53 10 = .ok (.iload_n 2, 1) := by decide +kernel
theorem dJ9_floorMod_7cf53_11 : decode cJ9_floorMod_7cf53 11 = .ok (.ifCond .eq 7, 3) := by decide +kernel
theorem dJ9_floorMod_7cf53_14 : decode cJ9_floorMod_7cf53 14 = .ok (.iload_n 2, 1) := by decide +kernel
theorem dJ9_floorMod_7cf53_15 : decode cJ9_floorMod_7cf53 15 = .ok (.iload_n 1, 1) := by decide +kernel
theorem dJ9_floorMod_7cf53_16 : decode cJ9_floorMod_7cf53 16 = .ok (.iadd, 1) := by decide +kernel
theorem dJ9_floorMod_7cf53_17 : decode cJ9_floorMod_7cf53 17 = .ok (.ireturn, 1) := by decide +kernel
theorem dJ9_floorMod_7cf53_18 : decode cJ9_floorMod_7cf53 18 = .ok (.iload_n 2, 1) := by decide +kernel
theorem dJ9_floorMod_7cf53_19 : decode cJ9_floorMod_7cf53 19 = .ok (.ireturn, 1) := by decide +kernel
theorem dJ9_abs_0f7a4_0 : decode cJ9_abs_0f7a4 0 = .ok (.iload_n 0, 1) := by decide +kernel
theorem dJ9_abs_0f7a4_1 : decode cJ9_abs_0f7a4 1 = .ok (.ifCond .ge 8, 3) := by decide +kernel
theorem dJ9_abs_0f7a4_4 : decode cJ9_abs_0f7a4 4 = .ok (.iload_n 0, 1) := by decide +kernel
theorem dJ9_abs_0f7a4_5 : decode cJ9_abs_0f7a4 5 = .ok (.ineg, 1) := by decide +kernel
theorem dJ9_abs_0f7a4_6 : decode cJ9_abs_0f7a4 6 = .ok (.goto 4, 3) := by decide +kernel
theorem dJ9_abs_0f7a4_9 : decode cJ9_abs_0f7a4 9 = .ok (.iload_n 0, 1) := by decide +kernel
theorem dJ9_abs_0f7a4_10 : decode cJ9_abs_0f7a4 10 = .ok (.ireturn, 1) := by decide +kernel
theorem dJ9_max_7cf53_0 : decode cJ9_max_7cf53 0 = .ok (.iload_n 0, 1) := by decide +kernel
theorem dJ9_max_7cf53_1 : decode cJ9_max_7cf53 1 = .ok (.iload_n 1, 1) := by decide +kernel
theorem dJ9_max_7cf53_2 : decode cJ9_max_7cf53 2 = .ok (.if_icmp .lt 7, 3) := by decide +kernel
theorem dJ9_max_7cf53_5 : decode cJ9_max_7cf53 5 = .ok (.iload_n 0, 1) := by decide +kernel
theorem dJ9_max_7cf53_6 : decode cJ9_max_7cf53 6 = .ok (.goto 4, 3) := by decide +kernel
theorem dJ9_max_7cf53_9 : decode cJ9_max_7cf53 9 = .ok (.iload_n 1, 1) := by decide +kernel
theorem dJ9_max_7cf53_10 : decode cJ9_max_7cf53 10 = .ok (.ireturn, 1) := by decide +kernel
theorem dJ9_max_f86c9_0 : decode cJ9_max_f86c9 0 = .ok (.lload_n 0, 1) := by decide +kernel
theorem dJ9_max_f86c9_1 : decode cJ9_max_f86c9 1 = .ok (.lload_n 2, 1) := by decide +kernel
theorem dJ9_max_f86c9_2 : decode cJ9_max_f86c9 2 = .ok (.lcmp, 1) := by decide +kernel
theorem dJ9_max_f86c9_3 : decode cJ9_max_f86c9 3 = .ok (.ifCond .lt 7, 3) := by decide +kernel
theorem dJ9_max_f86c9_6 : decode cJ9_max_f86c9 6 = .ok (.lload_n 0, 1) := by decide +kernel
theorem dJ9_max_f86c9_7 : decode cJ9_max_f86c9 7 = .ok (.goto 4, 3) := by decide +kernel
theorem dJ9_max_f86c9_10 : decode cJ9_max_f86c9 10 = .ok (.lload_n 2, 1) := by decide +kernel
theorem dJ9_max_f86c9_11 : decode cJ9_max_f86c9 11 = .ok (.lreturn, 1) := by decide +kernel
theorem dJ9_min_7cf53_0 : decode cJ9_min_7cf53 0 = .ok (.iload_n 0, 1) := by decide +kernel
theorem dJ9_min_7cf53_1 : decode cJ9_min_7cf53 1 = .ok (.iload_n 1, 1) := by decide +kernel
theorem dJ9_min_7cf53_2 : decode cJ9_min_7cf53 2 = .ok (.if_icmp .gt 7, 3) := by decide +kernel
theorem dJ9_min_7cf53_5 : decode cJ9_min_7cf53 5 = .ok (.iload_n 0, 1) := by decide +kernel
theorem dJ9_min_7cf53_6 : decode cJ9_min_7cf53 6 = .ok (.goto 4, 3) := by decide +kernel
theorem dJ9_min_7cf53_9 : decode cJ9_min_7cf53 9 = .ok (.iload_n 1, 1) := by decide +kernel
theorem dJ9_min_7cf53_10 : decode cJ9_min_7cf53 10 = .ok (.ireturn, 1) := by decide +kernel
theorem dJ9_min_f86c9_0 : decode cJ9_min_f86c9 0 = .ok (.lload_n 0, 1) := by decide +kernel
theorem dJ9_min_f86c9_1 : decode cJ9_min_f86c9 1 = .ok (.lload_n 2, 1) := by decide +kernel
theorem dJ9_min_f86c9_2 : decode cJ9_min_f86c9 2 = .ok (.lcmp, 1) := by decide +kernel
theorem dJ9_min_f86c9_3 : decode cJ9_min_f86c9 3 = .ok (.ifCond .gt 7, 3) := by decide +kernel
theorem dJ9_min_f86c9_6 : decode cJ9_min_f86c9 6 = .ok (.lload_n 0, 1) := by decide +kernel
theorem dJ9_min_f86c9_7 : decode cJ9_min_f86c9 7 = .ok (.goto 4, 3) := by decide +kernel
theorem dJ9_min_f86c9_10 : decode cJ9_min_f86c9 10 = .ok (.lload_n 2, 1) := by decide +kernel
theorem dJ9_min_f86c9_11 : decode cJ9_min_f86c9 11 = .ok (.lreturn, 1) := by decide +kernel
theorem dJ0_length_8abf5_0 : decode cJ0_length_8abf5 0 = .ok (.aload_n 0, 1) := by decide +kernel
theorem dJ0_length_8abf5_1 : decode cJ0_length_8abf5 1 = .ok (.getfield 9, 3) := by decide +kernel
theorem dJ0_length_8abf5_4 : decode cJ0_length_8abf5 4 = .ok (.arraylength, 1) := by decide +kernel
theorem dJ0_length_8abf5_5 : decode cJ0_length_8abf5 5 = .ok (.aload_n 0, 1) := by decide +kernel
theorem dJ0_length_8abf5_6 : decode cJ0_length_8abf5 6 = .ok (.invokevirtual 335, 3) := by decide +kernel
theorem dJ0_length_8abf5_9 : decode cJ0_length_8abf5 9 = .ok (.ishr, 1) := by decide +kernel
theorem dJ0_length_8abf5_10 : decode cJ0_length_8abf5 10 = .ok (.ireturn, 1) := by decide +kernel
theorem dJ0_charAt_5068e_0 : decode cJ0_charAt_5068e 0 = .ok (.aload_n 0, 1) := by decide +kernel
theorem dJ0_charAt_5068e_1 : decode cJ0_charAt_5068e 1 = .ok (.invokevirtual 492, 3) := by decide +kernel
theorem dJ0_charAt_5068e_4 : decode cJ0_charAt_5068e 4 = .ok (.ifCond .eq 12, 3) := by decide +kernel
theorem dJ0_charAt_5068e_7 : decode cJ0_charAt_5068e 7 = .ok (.aload_n 0, 1) := by decide +kernel
theorem dJ0_charAt_5068e_8 : decode cJ0_charAt_5068e 8 = .ok (.getfield 9, 3) := by decide +kernel
theorem dJ0_charAt_5068e_11 : decode cJ0_charAt_5068e 11 = .ok (.iload_n 1, 1) := by decide +kernel
theorem dJ0_charAt_5068e_12 : decode cJ0_charAt_5068e 12 = .ok (.invokestatic 495, 3) := by decide +kernel
theorem dJ0_charAt_5068e_15 : decode cJ0_charAt_5068e 15 = .ok (.ireturn, 1) := by decide +kernel
theorem dJ0_charAt_5068e_16 : decode cJ0_charAt_5068e 16 = .ok (.aload_n 0, 1) := by decide +kernel
theorem dJ0_charAt_5068e_17 : decode cJ0_charAt_5068e 17 = .ok (.getfield 9, 3) := by decide +kernel
theorem dJ0_charAt_5068e_20 : decode cJ0_charAt_5068e 20 = .ok (.iload_n 1, 1) := by decide +kernel
theorem dJ0_charAt_5068e_21 : decode cJ0_charAt_5068e 21 = .ok (.invokestatic 498, 3) := by decide +kernel
theorem dJ0_charAt_5068e_24 : decode cJ0_charAt_5068e 24 = .ok (.ireturn, 1) := by decide +kernel
theorem dJ0_coder_7d493_0 : decode cJ0_coder_7d493 0 = .ok (.getstatic 38, 3) := by decide +kernel
theorem dJ0_coder_7d493_3 : decode cJ0_coder_7d493 3 = .ok (.ifCond .eq 10, 3) := by decide +kernel
theorem dJ0_coder_7d493_6 : decode cJ0_coder_7d493 6 = .ok (.aload_n 0, 1) := by decide +kernel
theorem dJ0_coder_7d493_7 : decode cJ0_coder_7d493 7 = .ok (.getfield 15, 3) := by decide +kernel
theorem dJ0_coder_7d493_10 : decode cJ0_coder_7d493 10 = .ok (.goto 4, 3) := by decide +kernel
theorem dJ0_coder_7d493_13 : decode cJ0_coder_7d493 13 = .ok (.iconst 1, 1) := by decide +kernel
theorem dJ0_coder_7d493_14 : decode cJ0_coder_7d493 14 = .ok (.ireturn, 1) := by decide +kernel
theorem dJ0_isLatin1_aae02_0 : decode cJ0_isLatin1_aae02 0 = .ok (.getstatic 38, 3) := by decide +kernel
theorem dJ0_isLatin1_aae02_3 : decode cJ0_isLatin1_aae02 3 = .ok (.ifCond .eq 14, 3) := by decide +kernel
theorem dJ0_isLatin1_aae02_6 : decode cJ0_isLatin1_aae02 6 = .ok (.aload_n 0, 1) := by decide +kernel
theorem dJ0_isLatin1_aae02_7 : decode cJ0_isLatin1_aae02 7 = .ok (.getfield 15, 3) := by decide +kernel
theorem dJ0_isLatin1_aae02_10 : decode cJ0_isLatin1_aae02 10 = .ok (.ifCond .ne 7, 3) := by decide +kernel
theorem dJ0_isLatin1_aae02_13 : decode cJ0_isLatin1_aae02 13 = .ok (.iconst 1, 1) := by decide +kernel
theorem dJ0_isLatin1_aae02_14 : decode cJ0_isLatin1_aae02 14 = .ok (.goto 4, 3) := by decide +kernel
theorem dJ0_isLatin1_aae02_17 : decode cJ0_isLatin1_aae02 17 = .ok (.iconst 0, 1) := by decide +kernel
theorem dJ0_isLatin1_aae02_18 : decode cJ0_isLatin1_aae02 18 = .ok (.ireturn, 1) := by decide +kernel
theorem dJ0_checkIndex_df160_0 : decode cJ0_checkIndex_df160 0 = .ok (.iload_n 0, 1) := by decide +kernel
theorem dJ0_checkIndex_df160_1 : decode cJ0_checkIndex_df160 1 = .ok (.iload_n 1, 1) := by decide +kernel
theorem dJ0_checkIndex_df160_2 : decode cJ0_checkIndex_df160 2 = .ok (.getstatic 1053, 3) := by decide +kernel
theorem dJ0_checkIndex_df160_5 : decode cJ0_checkIndex_df160 5 = .ok (.invokestatic 1059, 3) := by decide +kernel
theorem dJ0_checkIndex_df160_8 : decode cJ0_checkIndex_df160 8 = .ok (.pop, 1) := by decide +kernel
theorem dJ0_checkIndex_df160_9 : decode cJ0_checkIndex_df160 9 = .ok (.return_, 1) := by decide +kernel
theorem dJ1_charAt_3b067_0 : decode cJ1_charAt_3b067 0 = .ok (.iload_n 1, 1) := by decide +kernel
theorem dJ1_charAt_3b067_1 : decode cJ1_charAt_3b067 1 = .ok (.aload_n 0, 1) := by decide +kernel
theorem dJ1_charAt_3b067_2 : decode cJ1_charAt_3b067 2 = .ok (.arraylength, 1) := by decide +kernel
theorem dJ1_charAt_3b067_3 : decode cJ1_charAt_3b067 3 = .ok (.invokestatic 9, 3) := by decide +kernel
theorem dJ1_charAt_3b067_6 : decode cJ1_charAt_3b067 6 = .ok (.aload_n 0, 1) := by decide +kernel
theorem dJ1_charAt_3b067_7 : decode cJ1_charAt_3b067 7 = .ok (.iload_n 1, 1) := by decide +kernel
theorem dJ1_charAt_3b067_8 : decode cJ1_charAt_3b067 8 = .ok (.baload, 1) := by decide +kernel
theorem dJ1_charAt_3b067_9 : decode cJ1_charAt_3b067 9 = .ok (.sipush 255, 3) := by decide +kernel
theorem dJ1_charAt_3b067_12 : decode cJ1_charAt_3b067 12 = .ok (.iand, 1) := by decide +kernel
theorem dJ1_charAt_3b067_13 : decode cJ1_charAt_3b067 13 = .ok (.i2c, 1) := by decide +kernel
theorem dJ1_charAt_3b067_14 : decode cJ1_charAt_3b067 14 = .ok (.ireturn, 1) := by decide +kernel
theorem dJ2_getChar_3b067_0 : decode cJ2_getChar_3b067 0 = .ok (.getstatic 44, 3) := by decide +kernel
theorem dJ2_getChar_3b067_3 : decode cJ2_getChar_3b067 3 = .ok (.ifCond .ne 25, 3) := by decide +kernel
theorem dJ2_getChar_3b067_6 : decode cJ2_getChar_3b067 6 = .ok (.iload_n 1, 1) := by decide +kernel
theorem dJ2_getChar_3b067_7 : decode cJ2_getChar_3b067 7 = .ok (.ifCond .lt 11, 3) := by decide +kernel
theorem dJ2_getChar_3b067_10 : decode cJ2_getChar_3b067 10 = .ok (.iload_n 1, 1) := by decide +kernel
theorem dJ2_getChar_3b067_11 : decode cJ2_getChar_3b067 11 = .ok (.aload_n 0, 1) := by decide +kernel
theorem dJ2_getChar_3b067_12 : decode cJ2_getChar_3b067 12 = .ok (.invokestatic 48, 3) := by decide +kernel
theorem dJ2_getChar_3b067_15 : decode cJ2_getChar_3b067 15 = .ok (.if_icmp .lt 13, 3) := by decide +kernel
theorem dJ2_getChar_3b067_18 : decode cJ2_getChar_3b067 18 = .ok (.new 52, 3) := by decide +kernel
theorem dJ2_getChar_3b067_21 : decode cJ2_getChar_3b067 21 = .ok (.dup, 1) := by decide +kernel
theorem dJ2_getChar_3b067_22 : decode cJ2_getChar_3b067 22 = .ok (.ldc 54, 2) := by decide +kernel
theorem dJ2_getChar_3b067_24 : decode cJ2_getChar_3b067 24 = .ok (.invokespecial 56, 3) := by decide +kernel
theorem dJ2_getChar_3b067_27 : decode cJ2_getChar_3b067 27 = .ok (.athrow, 1) := by decide +kernel
theorem dJ2_getChar_3b067_28 : decode cJ2_getChar_3b067 28 = .ok (.iload_n 1, 1) := by decide +kernel
theorem dJ2_getChar_3b067_29 : decode cJ2_getChar_3b067 29 = .ok (.iconst 1, 1) := by decide +kernel
theorem dJ2_getChar_3b067_30 : decode cJ2_getChar_3b067 30 = .ok (.ishl, 1) := by decide +kernel
theorem dJ2_getChar_3b067_31 : decode cJ2_getChar_3b067 31 = .ok (.istore_n 1, 1) := by decide +kernel
theorem dJ2_getChar_3b067_32 : decode cJ2_getChar_3b067 32 = .ok (.aload_n 0, 1) := by decide +kernel
theorem dJ2_getChar_3b067_33 : decode cJ2_getChar_3b067 33 = .ok (.iload_n 1, 1) := by decide +kernel
theorem dJ2_getChar_3b067_34 : decode cJ2_getChar_3b067 34 = .ok (.iinc 1 1, 3) := by decide +kernel
theorem dJ2_getChar_3b067_37 : decode cJ2_getChar_3b067 37 = .ok (.baload, 1) := by decide +kernel
theorem dJ2_getChar_3b067_38 : decode cJ2_getChar_3b067 38 = .ok (.sipush 255, 3) := by decide +kernel
theorem dJ2_getChar_3b067_41 : decode cJ2_getChar_3b067 41 = .ok (.iand, 1) := by decide +kernel
theorem dJ2_getChar_3b067_42 : decode cJ2_getChar_3b067 42 = .ok (.getstatic 59, 3) := by decide +kernel
theorem dJ2_getChar_3b067_45 : decode cJ2_getChar_3b067 45 = .ok (.ishl, 1) := by decide +kernel
theorem dJ2_getChar_3b067_46 : decode cJ2_getChar_3b067 46 = .ok (.aload_n 0, 1) := by decide +kernel
theorem dJ2_getChar_3b067_47 : decode cJ2_getChar_3b067 47 = .ok (.iload_n 1, 1) := by decide +kernel
theorem dJ2_getChar_3b067_48 : decode cJ2_getChar_3b067 48 = .ok (.baload, 1) := by decide +kernel
theorem dJ2_getChar_3b067_49 : decode cJ2_getChar_3b067 49 = .ok (.sipush 255, 3) := by decide +kernel
theorem dJ2_getChar_3b067_52 : decode cJ2_getChar_3b067 52 = .ok (.iand, 1) := by decide +kernel
theorem dJ2_getChar_3b067_53 : decode cJ2_getChar_3b067 53 = .ok (.getstatic 63, 3) := by decide +kernel
theorem dJ2_getChar_3b067_56 : decode cJ2_getChar_3b067 56 = .ok (.ishl, 1) := by decide +kernel
theorem dJ2_getChar_3b067_57 : decode cJ2_getChar_3b067 57 = .ok (.ior, 1) := by decide +kernel
theorem dJ2_getChar_3b067_58 : decode cJ2_getChar_3b067 58 = .ok (.i2c, 1) := by decide +kernel
theorem dJ2_getChar_3b067_59 : decode cJ2_getChar_3b067 59 = .ok (.ireturn, 1) := by decide +kernel
theorem dJ2_length_9d52b_0 : decode cJ2_length_9d52b 0 = .ok (.aload_n 0, 1) := by decide +kernel
theorem dJ2_length_9d52b_1 : decode cJ2_length_9d52b 1 = .ok (.arraylength, 1) := by decide +kernel
theorem dJ2_length_9d52b_2 : decode cJ2_length_9d52b 2 = .ok (.iconst 1, 1) := by decide +kernel
theorem dJ2_length_9d52b_3 : decode cJ2_length_9d52b 3 = .ok (.ishr, 1) := by decide +kernel
theorem dJ2_length_9d52b_4 : decode cJ2_length_9d52b 4 = .ok (.ireturn, 1) := by decide +kernel
theorem dJ2_charAt_3b067_0 : decode cJ2_charAt_3b067 0 = .ok (.iload_n 1, 1) := by decide +kernel
theorem dJ2_charAt_3b067_1 : decode cJ2_charAt_3b067 1 = .ok (.aload_n 0, 1) := by decide +kernel
theorem dJ2_charAt_3b067_2 : decode cJ2_charAt_3b067 2 = .ok (.invokestatic 67, 3) := by decide +kernel
theorem dJ2_charAt_3b067_5 : decode cJ2_charAt_3b067 5 = .ok (.aload_n 0, 1) := by decide +kernel
theorem dJ2_charAt_3b067_6 : decode cJ2_charAt_3b067 6 = .ok (.iload_n 1, 1) := by decide +kernel
theorem dJ2_charAt_3b067_7 : decode cJ2_charAt_3b067 7 = .ok (.invokestatic 71, 3) := by decide +kernel
theorem dJ2_charAt_3b067_10 : decode cJ2_charAt_3b067 10 = .ok (.ireturn, 1) := by decide +kernel
theorem dJ2_checkIndex_2214a_0 : decode cJ2_checkIndex_2214a 0 = .ok (.iload_n 0, 1) := by decide +kernel
theorem dJ2_checkIndex_2214a_1 : decode cJ2_checkIndex_2214a 1 = .ok (.aload_n 1, 1) := by decide +kernel
theorem dJ2_checkIndex_2214a_2 : decode cJ2_checkIndex_2214a 2 = .ok (.invokestatic 48, 3) := by decide +kernel
theorem dJ2_checkIndex_2214a_5 : decode cJ2_checkIndex_2214a 5 = .ok (.invokestatic 414, 3) := by decide +kernel
theorem dJ2_checkIndex_2214a_8 : decode cJ2_checkIndex_2214a 8 = .ok (.return_, 1) := by decide +kernel
theorem dJ3_checkIndex_8e157_0 : decode cJ3_checkIndex_8e157 0 = .ok (.iload_n 0, 1) := by decide +kernel
theorem dJ3_checkIndex_8e157_1 : decode cJ3_checkIndex_8e157 1 = .ok (.ifCond .lt 8, 3) := by decide +kernel
theorem dJ3_checkIndex_8e157_4 : decode cJ3_checkIndex_8e157 4 = .ok (.iload_n 0, 1) := by decide +kernel
theorem dJ3_checkIndex_8e157_5 : decode cJ3_checkIndex_8e157 5 = .ok (.iload_n 1, 1) := by decide +kernel
theorem dJ3_checkIndex_8e157_6 : decode cJ3_checkIndex_8e157 6 = .ok (.if_icmp .lt 10, 3) := by decide +kernel
theorem dJ3_checkIndex_8e157_9 : decode cJ3_checkIndex_8e157 9 = .ok (.aload_n 2, 1) := by decide +kernel
theorem dJ3_checkIndex_8e157_10 : decode cJ3_checkIndex_8e157 10 = .ok (.iload_n 0, 1) := by decide +kernel
theorem dJ3_checkIndex_8e157_11 : decode cJ3_checkIndex_8e157 11 = .ok (.iload_n 1, 1) := by decide +kernel
theorem dJ3_checkIndex_8e157_12 : decode cJ3_checkIndex_8e157 12 = .ok (.invokestatic 95, 3) := by decide +kernel
theorem dJ3_checkIndex_8e157_15 : decode cJ3_checkIndex_8e157 15 = .ok (.athrow, 1) := by decide +kernel
theorem dJ3_checkIndex_8e157_16 : decode cJ3_checkIndex_8e157 16 = .ok (.iload_n 0, 1) := by decide +kernel
theorem dJ3_checkIndex_8e157_17 : decode cJ3_checkIndex_8e157 17 = .ok (.ireturn, 1) := by decide +kernel
theorem dX6_comparisonStep_0 : decode cX6_comparisonStep 0 = .ok (.aload_n 0, 1) := by decide +kernel
theorem dX6_comparisonStep_1 : decode cX6_comparisonStep 1 = .ok (.getfield 9, 3) := by decide +kernel
theorem dX6_comparisonStep_4 : decode cX6_comparisonStep 4 = .ok (.bipush 60, 2) := by decide +kernel
theorem dX6_comparisonStep_6 : decode cX6_comparisonStep 6 = .ok (.invokevirtual 77, 3) := by decide +kernel
theorem dX6_comparisonStep_9 : decode cX6_comparisonStep 9 = .ok (.ifCond .eq 6, 3) := by decide +kernel
theorem dX6_comparisonStep_12 : decode cX6_comparisonStep 12 = .ok (.bipush 8, 2) := by decide +kernel
theorem dX6_comparisonStep_14 : decode cX6_comparisonStep 14 = .ok (.ireturn, 1) := by decide +kernel
theorem dX6_comparisonStep_15 : decode cX6_comparisonStep 15 = .ok (.aload_n 0, 1) := by decide +kernel
theorem dX6_comparisonStep_16 : decode cX6_comparisonStep 16 = .ok (.getfield 9, 3) := by decide +kernel
theorem dX6_comparisonStep_19 : decode cX6_comparisonStep 19 = .ok (.bipush 62, 2) := by decide +kernel
theorem dX6_comparisonStep_21 : decode cX6_comparisonStep 21 = .ok (.invokevirtual 77, 3) := by decide +kernel
theorem dX6_comparisonStep_24 : decode cX6_comparisonStep 24 = .ok (.ifCond .eq 6, 3) := by decide +kernel
theorem dX6_comparisonStep_27 : decode cX6_comparisonStep 27 = .ok (.bipush 9, 2) := by decide +kernel
theorem dX6_comparisonStep_29 : decode cX6_comparisonStep 29 = .ok (.ireturn, 1) := by decide +kernel
theorem dX6_comparisonStep_30 : decode cX6_comparisonStep 30 = .ok (.aload_n 0, 1) := by decide +kernel
theorem dX6_comparisonStep_31 : decode cX6_comparisonStep 31 = .ok (.getfield 9, 3) := by decide +kernel
theorem dX6_comparisonStep_34 : decode cX6_comparisonStep 34 = .ok (.bipush 61, 2) := by decide +kernel
theorem dX6_comparisonStep_36 : decode cX6_comparisonStep 36 = .ok (.invokevirtual 77, 3) := by decide +kernel
theorem dX6_comparisonStep_39 : decode cX6_comparisonStep 39 = .ok (.ifCond .eq 8, 3) := by decide +kernel
theorem dX6_comparisonStep_42 : decode cX6_comparisonStep 42 = .ok (.bipush 10, 2) := by decide +kernel
theorem dX6_comparisonStep_44 : decode cX6_comparisonStep 44 = .ok (.goto 4, 3) := by decide +kernel
theorem dX6_comparisonStep_47 : decode cX6_comparisonStep 47 = .ok (.iconst (-1), 1) := by decide +kernel
theorem dX6_comparisonStep_48 : decode cX6_comparisonStep 48 = .ok (.ireturn, 1) := by decide +kernel
