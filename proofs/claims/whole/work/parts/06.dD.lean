theorem dX13_safely_99 : decode cX13_safely 99 = .ok (.getfield 160, 3) := by decide +kernel
theorem dX13_safely_102 : decode cX13_safely 102 = .ok (.iload_n 1, 1) := by decide +kernel
theorem dX13_safely_103 : decode cX13_safely 103 = .ok (.iaload, 1) := by decide +kernel
theorem dX13_safely_104 : decode cX13_safely 104 = .ok (.if_icmp .ne 19, 3) := by decide +kernel
theorem dX13_safely_107 : decode cX13_safely 107 = .ok (.iload 4, 2) := by decide +kernel
theorem dX13_safely_109 : decode cX13_safely 109 = .ok (.aload_n 0, 1) := by decide +kernel
theorem dX13_safely_110 : decode cX13_safely 110 = .ok (.getfield 160, 3) := by decide +kernel
theorem dX13_safely_113 : decode cX13_safely 113 = .ok (.iload_n 1, 1) := by decide +kernel
theorem dX13_safely_114 : decode cX13_safely 114 = .ok (.iconst 1, 1) := by decide +kernel
theorem dX13_safely_115 : decode cX13_safely 115 = .ok (.iadd, 1) := by decide +kernel
theorem dX13_safely_116 : decode cX13_safely 116 = .ok (.iaload, 1) := by decide +kernel
theorem dX13_safely_117 : decode cX13_safely 117 = .ok (.if_icmp .ne 6, 3) := by decide +kernel
theorem dX13_safely_120 : decode cX13_safely 120 = .ok (.goto 16, 3) := by decide +kernel
theorem dX13_safely_123 : decode cX13_safely 123 = .ok (.aload_n 0, 1) := by decide +kernel
theorem dX13_safely_124 : decode cX13_safely 124 = .ok (.getfield 166, 3) := by decide +kernel
theorem dX13_safely_127 : decode cX13_safely 127 = .ok (.bipush 49, 2) := by decide +kernel
theorem dX13_safely_129 : decode cX13_safely 129 = .ok (.iload_n 3, 1) := by decide +kernel
theorem dX13_safely_130 : decode cX13_safely 130 = .ok (.imul, 1) := by decide +kernel
theorem dX13_safely_131 : decode cX13_safely 131 = .ok (.iload 6, 2) := by decide +kernel
theorem dX13_safely_133 : decode cX13_safely 133 = .ok (.iadd, 1) := by decide +kernel
theorem dX13_safely_134 : decode cX13_safely 134 = .ok (.iconst 1, 1) := by decide +kernel
theorem dX13_safely_135 : decode cX13_safely 135 = .ok (.bastore, 1) := by decide +kernel
theorem dX13_safely_136 : decode cX13_safely 136 = .ok (.iinc 5 1, 3) := by decide +kernel
theorem dX13_safely_139 : decode cX13_safely 139 = .ok (.goto (-79), 3) := by decide +kernel
theorem dX13_safely_142 : decode cX13_safely 142 = .ok (.iinc 4 1, 3) := by decide +kernel
theorem dX13_safely_145 : decode cX13_safely 145 = .ok (.goto (-113), 3) := by decide +kernel
theorem dX13_safely_148 : decode cX13_safely 148 = .ok (.return_, 1) := by decide +kernel
theorem dX13_safe_0 : decode cX13_safe 0 = .ok (.aload_n 0, 1) := by decide +kernel
theorem dX13_safe_1 : decode cX13_safe 1 = .ok (.iload_n 1, 1) := by decide +kernel
theorem dX13_safe_2 : decode cX13_safe 2 = .ok (.invokevirtual 557, 3) := by decide +kernel
theorem dX13_safe_5 : decode cX13_safe 5 = .ok (.ifCond .ne 5, 3) := by decide +kernel
theorem dX13_safe_8 : decode cX13_safe 8 = .ok (.iconst (-1), 1) := by decide +kernel
theorem dX13_safe_9 : decode cX13_safe 9 = .ok (.ireturn, 1) := by decide +kernel
theorem dX13_safe_10 : decode cX13_safe 10 = .ok (.aload_n 0, 1) := by decide +kernel
theorem dX13_safe_11 : decode cX13_safe 11 = .ok (.invokevirtual 516, 3) := by decide +kernel
theorem dX13_safe_14 : decode cX13_safe 14 = .ok (.aload_n 0, 1) := by decide +kernel
theorem dX13_safe_15 : decode cX13_safe 15 = .ok (.getfield 136, 3) := by decide +kernel
theorem dX13_safe_18 : decode cX13_safe 18 = .ok (.bipush 31, 2) := by decide +kernel
theorem dX13_safe_20 : decode cX13_safe 20 = .ok (.iconst 5, 1) := by decide +kernel
theorem dX13_safe_21 : decode cX13_safe 21 = .ok (.iload_n 1, 1) := by decide +kernel
theorem dX13_safe_22 : decode cX13_safe 22 = .ok (.imul, 1) := by decide +kernel
theorem dX13_safe_23 : decode cX13_safe 23 = .ok (.iadd, 1) := by decide +kernel
theorem dX13_safe_24 : decode cX13_safe 24 = .ok (.iaload, 1) := by decide +kernel
theorem dX13_safe_25 : decode cX13_safe 25 = .ok (.istore_n 2, 1) := by decide +kernel
theorem dX13_safe_26 : decode cX13_safe 26 = .ok (.iconst 0, 1) := by decide +kernel
theorem dX13_safe_27 : decode cX13_safe 27 = .ok (.istore_n 3, 1) := by decide +kernel
theorem dX13_safe_28 : decode cX13_safe 28 = .ok (.iload_n 3, 1) := by decide +kernel
theorem dX13_safe_29 : decode cX13_safe 29 = .ok (.bipush 98, 2) := by decide +kernel
theorem dX13_safe_31 : decode cX13_safe 31 = .ok (.if_icmp .ge 16, 3) := by decide +kernel
theorem dX13_safe_34 : decode cX13_safe 34 = .ok (.aload_n 0, 1) := by decide +kernel
theorem dX13_safe_35 : decode cX13_safe 35 = .ok (.getfield 166, 3) := by decide +kernel
theorem dX13_safe_38 : decode cX13_safe 38 = .ok (.iload_n 3, 1) := by decide +kernel
theorem dX13_safe_39 : decode cX13_safe 39 = .ok (.iconst 0, 1) := by decide +kernel
theorem dX13_safe_40 : decode cX13_safe 40 = .ok (.bastore, 1) := by decide +kernel
theorem dX13_safe_41 : decode cX13_safe 41 = .ok (.iinc 3 1, 3) := by decide +kernel
theorem dX13_safe_44 : decode cX13_safe 44 = .ok (.goto (-16), 3) := by decide +kernel
theorem dX13_safe_47 : decode cX13_safe 47 = .ok (.aload_n 0, 1) := by decide +kernel
theorem dX13_safe_48 : decode cX13_safe 48 = .ok (.getfield 166, 3) := by decide +kernel
theorem dX13_safe_51 : decode cX13_safe 51 = .ok (.aload_n 0, 1) := by decide +kernel
theorem dX13_safe_52 : decode cX13_safe 52 = .ok (.getfield 136, 3) := by decide +kernel
theorem dX13_safe_55 : decode cX13_safe 55 = .ok (.bipush 30, 2) := by decide +kernel
theorem dX13_safe_57 : decode cX13_safe 57 = .ok (.iconst 5, 1) := by decide +kernel
theorem dX13_safe_58 : decode cX13_safe 58 = .ok (.iload_n 1, 1) := by decide +kernel
theorem dX13_safe_59 : decode cX13_safe 59 = .ok (.imul, 1) := by decide +kernel
theorem dX13_safe_60 : decode cX13_safe 60 = .ok (.iadd, 1) := by decide +kernel
theorem dX13_safe_61 : decode cX13_safe 61 = .ok (.iaload, 1) := by decide +kernel
theorem dX13_safe_62 : decode cX13_safe 62 = .ok (.aload_n 0, 1) := by decide +kernel
theorem dX13_safe_63 : decode cX13_safe 63 = .ok (.getfield 136, 3) := by decide +kernel
theorem dX13_safe_66 : decode cX13_safe 66 = .ok (.bipush 30, 2) := by decide +kernel
theorem dX13_safe_68 : decode cX13_safe 68 = .ok (.iconst 5, 1) := by decide +kernel
theorem dX13_safe_69 : decode cX13_safe 69 = .ok (.iload_n 1, 1) := by decide +kernel
theorem dX13_safe_70 : decode cX13_safe 70 = .ok (.imul, 1) := by decide +kernel
theorem dX13_safe_71 : decode cX13_safe 71 = .ok (.iadd, 1) := by decide +kernel
theorem dX13_safe_72 : decode cX13_safe 72 = .ok (.iaload, 1) := by decide +kernel
theorem dX13_safe_73 : decode cX13_safe 73 = .ok (.aload_n 0, 1) := by decide +kernel
theorem dX13_safe_74 : decode cX13_safe 74 = .ok (.getfield 160, 3) := by decide +kernel
theorem dX13_safe_77 : decode cX13_safe 77 = .ok (.iconst 0, 1) := by decide +kernel
theorem dX13_safe_78 : decode cX13_safe 78 = .ok (.iaload, 1) := by decide +kernel
theorem dX13_safe_79 : decode cX13_safe 79 = .ok (.if_icmp .eq 7, 3) := by decide +kernel
theorem dX13_safe_82 : decode cX13_safe 82 = .ok (.iconst 1, 1) := by decide +kernel
theorem dX13_safe_83 : decode cX13_safe 83 = .ok (.goto 4, 3) := by decide +kernel
theorem dX13_safe_86 : decode cX13_safe 86 = .ok (.iconst 0, 1) := by decide +kernel
theorem dX13_safe_87 : decode cX13_safe 87 = .ok (.bastore, 1) := by decide +kernel
theorem dX13_safe_88 : decode cX13_safe 88 = .ok (.iconst 0, 1) := by decide +kernel
theorem dX13_safe_89 : decode cX13_safe 89 = .ok (.istore_n 3, 1) := by decide +kernel
theorem dX13_safe_90 : decode cX13_safe 90 = .ok (.iload_n 3, 1) := by decide +kernel
theorem dX13_safe_91 : decode cX13_safe 91 = .ok (.bipush 12, 2) := by decide +kernel
theorem dX13_safe_93 : decode cX13_safe 93 = .ok (.if_icmp .ge 48, 3) := by decide +kernel
theorem dX13_safe_96 : decode cX13_safe 96 = .ok (.aload_n 0, 1) := by decide +kernel
theorem dX13_safe_97 : decode cX13_safe 97 = .ok (.getfield 166, 3) := by decide +kernel
theorem dX13_safe_100 : decode cX13_safe 100 = .ok (.bipush 49, 2) := by decide +kernel
theorem dX13_safe_102 : decode cX13_safe 102 = .ok (.iload_n 3, 1) := by decide +kernel
theorem dX13_safe_103 : decode cX13_safe 103 = .ok (.iconst 2, 1) := by decide +kernel
theorem dX13_safe_104 : decode cX13_safe 104 = .ok (.irem, 1) := by decide +kernel
theorem dX13_safe_105 : decode cX13_safe 105 = .ok (.imul, 1) := by decide +kernel
theorem dX13_safe_106 : decode cX13_safe 106 = .ok (.iload_n 2, 1) := by decide +kernel
theorem dX13_safe_107 : decode cX13_safe 107 = .ok (.iadd, 1) := by decide +kernel
theorem dX13_safe_108 : decode cX13_safe 108 = .ok (.baload, 1) := by decide +kernel
theorem dX13_safe_109 : decode cX13_safe 109 = .ok (.ifCond .eq 5, 3) := by decide +kernel
theorem dX13_safe_112 : decode cX13_safe 112 = .ok (.iload_n 3, 1) := by decide +kernel
theorem dX13_safe_113 : decode cX13_safe 113 = .ok (.ireturn, 1) := by decide +kernel
theorem dX13_safe_114 : decode cX13_safe 114 = .ok (.iload_n 3, 1) := by decide +kernel
theorem dX13_safe_115 : decode cX13_safe 115 = .ok (.iconst 1, 1) := by decide +kernel
theorem dX13_safe_116 : decode cX13_safe 116 = .ok (.iadd, 1) := by decide +kernel
theorem dX13_safe_117 : decode cX13_safe 117 = .ok (.bipush 12, 2) := by decide +kernel
theorem dX13_safe_119 : decode cX13_safe 119 = .ok (.if_icmp .ge 16, 3) := by decide +kernel
theorem dX13_safe_122 : decode cX13_safe 122 = .ok (.aload_n 0, 1) := by decide +kernel
theorem dX13_safe_123 : decode cX13_safe 123 = .ok (.iload_n 3, 1) := by decide +kernel
theorem dX13_safe_124 : decode cX13_safe 124 = .ok (.iload_n 3, 1) := by decide +kernel
theorem dX13_safe_125 : decode cX13_safe 125 = .ok (.iconst 2, 1) := by decide +kernel
theorem dX13_safe_126 : decode cX13_safe 126 = .ok (.irem, 1) := by decide +kernel
theorem dX13_safe_127 : decode cX13_safe 127 = .ok (.iconst 1, 1) := by decide +kernel
theorem dX13_safe_128 : decode cX13_safe 128 = .ok (.iload_n 3, 1) := by decide +kernel
theorem dX13_safe_129 : decode cX13_safe 129 = .ok (.iconst 2, 1) := by decide +kernel
theorem dX13_safe_130 : decode cX13_safe 130 = .ok (.irem, 1) := by decide +kernel
theorem dX13_safe_131 : decode cX13_safe 131 = .ok (.isub, 1) := by decide +kernel
theorem dX13_safe_132 : decode cX13_safe 132 = .ok (.invokevirtual 564, 3) := by decide +kernel
theorem dX13_safe_135 : decode cX13_safe 135 = .ok (.iinc 3 1, 3) := by decide +kernel
theorem dX13_safe_138 : decode cX13_safe 138 = .ok (.goto (-48), 3) := by decide +kernel
theorem dX13_safe_141 : decode cX13_safe 141 = .ok (.iconst (-1), 1) := by decide +kernel
theorem dX13_safe_142 : decode cX13_safe 142 = .ok (.ireturn, 1) := by decide +kernel
theorem dX13_isAnyMet_0 : decode cX13_isAnyMet 0 = .ok (.iconst 0, 1) := by decide +kernel
theorem dX13_isAnyMet_1 : decode cX13_isAnyMet 1 = .ok (.istore_n 1, 1) := by decide +kernel
theorem dX13_isAnyMet_2 : decode cX13_isAnyMet 2 = .ok (.iload_n 1, 1) := by decide +kernel
theorem dX13_isAnyMet_3 : decode cX13_isAnyMet 3 = .ok (.aload_n 0, 1) := by decide +kernel
theorem dX13_isAnyMet_4 : decode cX13_isAnyMet 4 = .ok (.invokevirtual 416, 3) := by decide +kernel
theorem dX13_isAnyMet_7 : decode cX13_isAnyMet 7 = .ok (.if_icmp .ge 20, 3) := by decide +kernel
theorem dX13_isAnyMet_10 : decode cX13_isAnyMet 10 = .ok (.aload_n 0, 1) := by decide +kernel
theorem dX13_isAnyMet_11 : decode cX13_isAnyMet 11 = .ok (.iload_n 1, 1) := by decide +kernel
theorem dX13_isAnyMet_12 : decode cX13_isAnyMet 12 = .ok (.invokevirtual 519, 3) := by decide +kernel
theorem dX13_isAnyMet_15 : decode cX13_isAnyMet 15 = .ok (.iconst (-1), 1) := by decide +kernel
theorem dX13_isAnyMet_16 : decode cX13_isAnyMet 16 = .ok (.if_icmp .eq 5, 3) := by decide +kernel
theorem dX13_isAnyMet_19 : decode cX13_isAnyMet 19 = .ok (.iconst 1, 1) := by decide +kernel
theorem dX13_isAnyMet_20 : decode cX13_isAnyMet 20 = .ok (.ireturn, 1) := by decide +kernel
theorem dX13_isAnyMet_21 : decode cX13_isAnyMet 21 = .ok (.iinc 1 1, 3) := by decide +kernel
theorem dX13_isAnyMet_24 : decode cX13_isAnyMet 24 = .ok (.goto (-22), 3) := by decide +kernel
theorem dX13_isAnyMet_27 : decode cX13_isAnyMet 27 = .ok (.iconst 0, 1) := by decide +kernel
theorem dX13_isAnyMet_28 : decode cX13_isAnyMet 28 = .ok (.ireturn, 1) := by decide +kernel
theorem dX13_peal_0 : decode cX13_peal 0 = .ok (.aload_n 0, 1) := by decide +kernel
theorem dX13_peal_1 : decode cX13_peal 1 = .ok (.getfield 403, 3) := by decide +kernel
theorem dX13_peal_4 : decode cX13_peal 4 = .ok (.ifCond .ne 5, 3) := by decide +kernel
theorem dX13_peal_7 : decode cX13_peal 7 = .ok (.iconst (-1), 1) := by decide +kernel
theorem dX13_peal_8 : decode cX13_peal 8 = .ok (.ireturn, 1) := by decide +kernel
theorem dX13_peal_9 : decode cX13_peal 9 = .ok (.iconst (-1), 1) := by decide +kernel
theorem dX13_peal_10 : decode cX13_peal 10 = .ok (.istore_n 1, 1) := by decide +kernel
theorem dX13_peal_11 : decode cX13_peal 11 = .ok (.iconst 0, 1) := by decide +kernel
theorem dX13_peal_12 : decode cX13_peal 12 = .ok (.istore_n 2, 1) := by decide +kernel
theorem dX13_peal_13 : decode cX13_peal 13 = .ok (.iload_n 2, 1) := by decide +kernel
theorem dX13_peal_14 : decode cX13_peal 14 = .ok (.iconst 1, 1) := by decide +kernel
theorem dX13_peal_15 : decode cX13_peal 15 = .ok (.aload_n 0, 1) := by decide +kernel
theorem dX13_peal_16 : decode cX13_peal 16 = .ok (.invokevirtual 413, 3) := by decide +kernel
theorem dX13_peal_19 : decode cX13_peal 19 = .ok (.ishl, 1) := by decide +kernel
theorem dX13_peal_20 : decode cX13_peal 20 = .ok (.if_icmp .ge 48, 3) := by decide +kernel
theorem dX13_peal_23 : decode cX13_peal 23 = .ok (.iload_n 1, 1) := by decide +kernel
theorem dX13_peal_24 : decode cX13_peal 24 = .ok (.iconst (-1), 1) := by decide +kernel
theorem dX13_peal_25 : decode cX13_peal 25 = .ok (.if_icmp .eq 17, 3) := by decide +kernel
theorem dX13_peal_28 : decode cX13_peal 28 = .ok (.iload_n 2, 1) := by decide +kernel
theorem dX13_peal_29 : decode cX13_peal 29 = .ok (.invokestatic 532, 3) := by decide +kernel
theorem dX13_peal_32 : decode cX13_peal 32 = .ok (.iload_n 1, 1) := by decide +kernel
theorem dX13_peal_33 : decode cX13_peal 33 = .ok (.invokestatic 532, 3) := by decide +kernel
theorem dX13_peal_36 : decode cX13_peal 36 = .ok (.if_icmp .lt 6, 3) := by decide +kernel
theorem dX13_peal_39 : decode cX13_peal 39 = .ok (.goto 23, 3) := by decide +kernel
theorem dX13_peal_42 : decode cX13_peal 42 = .ok (.aload_n 0, 1) := by decide +kernel
theorem dX13_peal_43 : decode cX13_peal 43 = .ok (.aload_n 0, 1) := by decide +kernel
theorem dX13_peal_44 : decode cX13_peal 44 = .ok (.getfield 120, 3) := by decide +kernel
theorem dX13_peal_47 : decode cX13_peal 47 = .ok (.iconst 5, 1) := by decide +kernel
theorem dX13_peal_48 : decode cX13_peal 48 = .ok (.iaload, 1) := by decide +kernel
theorem dX13_peal_49 : decode cX13_peal 49 = .ok (.iload_n 2, 1) := by decide +kernel
theorem dX13_peal_50 : decode cX13_peal 50 = .ok (.invokevirtual 480, 3) := by decide +kernel
theorem dX13_peal_53 : decode cX13_peal 53 = .ok (.aload_n 0, 1) := by decide +kernel
theorem dX13_peal_54 : decode cX13_peal 54 = .ok (.invokevirtual 567, 3) := by decide +kernel
theorem dX13_peal_57 : decode cX13_peal 57 = .ok (.ifCond .ne 5, 3) := by decide +kernel
theorem dX13_peal_60 : decode cX13_peal 60 = .ok (.iload_n 2, 1) := by decide +kernel
theorem dX13_peal_61 : decode cX13_peal 61 = .ok (.istore_n 1, 1) := by decide +kernel
theorem dX13_peal_62 : decode cX13_peal 62 = .ok (.iinc 2 1, 3) := by decide +kernel
theorem dX13_peal_65 : decode cX13_peal 65 = .ok (.goto (-52), 3) := by decide +kernel
theorem dX13_peal_68 : decode cX13_peal 68 = .ok (.iload_n 1, 1) := by decide +kernel
theorem dX13_peal_69 : decode cX13_peal 69 = .ok (.ireturn, 1) := by decide +kernel
theorem dX13_isRest_0 : decode cX13_isRest 0 = .ok (.iconst 0, 1) := by decide +kernel
theorem dX13_isRest_1 : decode cX13_isRest 1 = .ok (.istore_n 2, 1) := by decide +kernel
theorem dX13_isRest_2 : decode cX13_isRest 2 = .ok (.iload_n 2, 1) := by decide +kernel
theorem dX13_isRest_3 : decode cX13_isRest 3 = .ok (.aload_n 0, 1) := by decide +kernel
theorem dX13_isRest_4 : decode cX13_isRest 4 = .ok (.invokevirtual 413, 3) := by decide +kernel
theorem dX13_isRest_7 : decode cX13_isRest 7 = .ok (.if_icmp .ge 58, 3) := by decide +kernel
theorem dX13_isRest_10 : decode cX13_isRest 10 = .ok (.aload_n 0, 1) := by decide +kernel
theorem dX13_isRest_11 : decode cX13_isRest 11 = .ok (.aload_n 0, 1) := by decide +kernel
theorem dX13_isRest_12 : decode cX13_isRest 12 = .ok (.getfield 120, 3) := by decide +kernel
theorem dX13_isRest_15 : decode cX13_isRest 15 = .ok (.iconst 5, 1) := by decide +kernel
theorem dX13_isRest_16 : decode cX13_isRest 16 = .ok (.iaload, 1) := by decide +kernel
theorem dX13_isRest_17 : decode cX13_isRest 17 = .ok (.iload_n 1, 1) := by decide +kernel
theorem dX13_isRest_18 : decode cX13_isRest 18 = .ok (.invokevirtual 480, 3) := by decide +kernel
theorem dX13_isRest_21 : decode cX13_isRest 21 = .ok (.aload_n 0, 1) := by decide +kernel
theorem dX13_isRest_22 : decode cX13_isRest 22 = .ok (.iload_n 2, 1) := by decide +kernel
theorem dX13_isRest_23 : decode cX13_isRest 23 = .ok (.iload_n 1, 1) := by decide +kernel
theorem dX13_isRest_24 : decode cX13_isRest 24 = .ok (.invokevirtual 554, 3) := by decide +kernel
theorem dX13_isRest_27 : decode cX13_isRest 27 = .ok (.istore_n 3, 1) := by decide +kernel
theorem dX13_isRest_28 : decode cX13_isRest 28 = .ok (.aload_n 0, 1) := by decide +kernel
theorem dX13_isRest_29 : decode cX13_isRest 29 = .ok (.aload_n 0, 1) := by decide +kernel
theorem dX13_isRest_30 : decode cX13_isRest 30 = .ok (.getfield 120, 3) := by decide +kernel
theorem dX13_isRest_33 : decode cX13_isRest 33 = .ok (.iconst 5, 1) := by decide +kernel
theorem dX13_isRest_34 : decode cX13_isRest 34 = .ok (.iaload, 1) := by decide +kernel
theorem dX13_isRest_35 : decode cX13_isRest 35 = .ok (.iload_n 1, 1) := by decide +kernel
theorem dX13_isRest_36 : decode cX13_isRest 36 = .ok (.iconst 1, 1) := by decide +kernel
theorem dX13_isRest_37 : decode cX13_isRest 37 = .ok (.iload_n 2, 1) := by decide +kernel
theorem dX13_isRest_38 : decode cX13_isRest 38 = .ok (.ishl, 1) := by decide +kernel
theorem dX13_isRest_39 : decode cX13_isRest 39 = .ok (.ixor, 1) := by decide +kernel
theorem dX13_isRest_40 : decode cX13_isRest 40 = .ok (.invokevirtual 480, 3) := by decide +kernel
theorem dX13_isRest_43 : decode cX13_isRest 43 = .ok (.aload_n 0, 1) := by decide +kernel
theorem dX13_isRest_44 : decode cX13_isRest 44 = .ok (.iload_n 2, 1) := by decide +kernel
theorem dX13_isRest_45 : decode cX13_isRest 45 = .ok (.iload_n 1, 1) := by decide +kernel
theorem dX13_isRest_46 : decode cX13_isRest 46 = .ok (.iconst 1, 1) := by decide +kernel
theorem dX13_isRest_47 : decode cX13_isRest 47 = .ok (.iload_n 2, 1) := by decide +kernel
theorem dX13_isRest_48 : decode cX13_isRest 48 = .ok (.ishl, 1) := by decide +kernel
theorem dX13_isRest_49 : decode cX13_isRest 49 = .ok (.ixor, 1) := by decide +kernel
theorem dX13_isRest_50 : decode cX13_isRest 50 = .ok (.invokevirtual 554, 3) := by decide +kernel
theorem dX13_isRest_53 : decode cX13_isRest 53 = .ok (.iload_n 3, 1) := by decide +kernel
theorem dX13_isRest_54 : decode cX13_isRest 54 = .ok (.if_icmp .ge 5, 3) := by decide +kernel
theorem dX13_isRest_57 : decode cX13_isRest 57 = .ok (.iconst 0, 1) := by decide +kernel
theorem dX13_isRest_58 : decode cX13_isRest 58 = .ok (.ireturn, 1) := by decide +kernel
theorem dX13_isRest_59 : decode cX13_isRest 59 = .ok (.iinc 2 1, 3) := by decide +kernel
theorem dX13_isRest_62 : decode cX13_isRest 62 = .ok (.goto (-60), 3) := by decide +kernel
theorem dX13_isRest_65 : decode cX13_isRest 65 = .ok (.iconst 1, 1) := by decide +kernel
theorem dX13_isRest_66 : decode cX13_isRest 66 = .ok (.ireturn, 1) := by decide +kernel
theorem dX13_rest_0 : decode cX13_rest 0 = .ok (.aload_n 0, 1) := by decide +kernel
theorem dX13_rest_1 : decode cX13_rest 1 = .ok (.getfield 403, 3) := by decide +kernel
theorem dX13_rest_4 : decode cX13_rest 4 = .ok (.ifCond .ne 5, 3) := by decide +kernel
theorem dX13_rest_7 : decode cX13_rest 7 = .ok (.iconst (-1), 1) := by decide +kernel
theorem dX13_rest_8 : decode cX13_rest 8 = .ok (.ireturn, 1) := by decide +kernel
theorem dX13_rest_9 : decode cX13_rest 9 = .ok (.iconst (-1), 1) := by decide +kernel
theorem dX13_rest_10 : decode cX13_rest 10 = .ok (.istore_n 1, 1) := by decide +kernel
theorem dX13_rest_11 : decode cX13_rest 11 = .ok (.iconst 0, 1) := by decide +kernel
theorem dX13_rest_12 : decode cX13_rest 12 = .ok (.istore_n 2, 1) := by decide +kernel
theorem dX13_rest_13 : decode cX13_rest 13 = .ok (.iload_n 2, 1) := by decide +kernel
theorem dX13_rest_14 : decode cX13_rest 14 = .ok (.iconst 1, 1) := by decide +kernel
theorem dX13_rest_15 : decode cX13_rest 15 = .ok (.aload_n 0, 1) := by decide +kernel
theorem dX13_rest_16 : decode cX13_rest 16 = .ok (.invokevirtual 413, 3) := by decide +kernel
theorem dX13_rest_19 : decode cX13_rest 19 = .ok (.ishl, 1) := by decide +kernel
theorem dX13_rest_20 : decode cX13_rest 20 = .ok (.if_icmp .ge 35, 3) := by decide +kernel
theorem dX13_rest_23 : decode cX13_rest 23 = .ok (.iload_n 1, 1) := by decide +kernel
theorem dX13_rest_24 : decode cX13_rest 24 = .ok (.iconst (-1), 1) := by decide +kernel
theorem dX13_rest_25 : decode cX13_rest 25 = .ok (.if_icmp .eq 14, 3) := by decide +kernel
theorem dX13_rest_28 : decode cX13_rest 28 = .ok (.iload_n 2, 1) := by decide +kernel
theorem dX13_rest_29 : decode cX13_rest 29 = .ok (.invokestatic 532, 3) := by decide +kernel
theorem dX13_rest_32 : decode cX13_rest 32 = .ok (.iload_n 1, 1) := by decide +kernel
theorem dX13_rest_33 : decode cX13_rest 33 = .ok (.invokestatic 532, 3) := by decide +kernel
theorem dX13_rest_36 : decode cX13_rest 36 = .ok (.if_icmp .ge 13, 3) := by decide +kernel
theorem dX13_rest_39 : decode cX13_rest 39 = .ok (.aload_n 0, 1) := by decide +kernel
theorem dX13_rest_40 : decode cX13_rest 40 = .ok (.iload_n 2, 1) := by decide +kernel
theorem dX13_rest_41 : decode cX13_rest 41 = .ok (.invokevirtual 570, 3) := by decide +kernel
theorem dX13_rest_44 : decode cX13_rest 44 = .ok (.ifCond .eq 5, 3) := by decide +kernel
theorem dX13_rest_47 : decode cX13_rest 47 = .ok (.iload_n 2, 1) := by decide +kernel
theorem dX13_rest_48 : decode cX13_rest 48 = .ok (.istore_n 1, 1) := by decide +kernel
theorem dX13_rest_49 : decode cX13_rest 49 = .ok (.iinc 2 1, 3) := by decide +kernel
theorem dX13_rest_52 : decode cX13_rest 52 = .ok (.goto (-39), 3) := by decide +kernel
theorem dX13_rest_55 : decode cX13_rest 55 = .ok (.iload_n 1, 1) := by decide +kernel
theorem dX13_rest_56 : decode cX13_rest 56 = .ok (.ireturn, 1) := by decide +kernel
theorem dX13_later_0 : decode cX13_later 0 = .ok (.aload_n 0, 1) := by decide +kernel
theorem dX13_later_1 : decode cX13_later 1 = .ok (.iload_n 1, 1) := by decide +kernel
theorem dX13_later_2 : decode cX13_later 2 = .ok (.iconst 0, 1) := by decide +kernel
theorem dX13_later_3 : decode cX13_later 3 = .ok (.bipush 60, 2) := by decide +kernel
theorem dX13_later_5 : decode cX13_later 5 = .ok (.invokevirtual 573, 3) := by decide +kernel
theorem dX13_later_8 : decode cX13_later 8 = .ok (.ifCond .eq 15, 3) := by decide +kernel
theorem dX13_later_11 : decode cX13_later 11 = .ok (.iload_n 2, 1) := by decide +kernel
theorem dX13_later_12 : decode cX13_later 12 = .ok (.i2l, 1) := by decide +kernel
theorem dX13_later_13 : decode cX13_later 13 = .ok (.lconst 0, 1) := by decide +kernel
theorem dX13_later_14 : decode cX13_later 14 = .ok (.ldc2_w 560, 3) := by decide +kernel
theorem dX13_later_17 : decode cX13_later 17 = .ok (.invokestatic 307, 3) := by decide +kernel
theorem dX13_later_20 : decode cX13_later 20 = .ok (.ifCond .ne 5, 3) := by decide +kernel
theorem dX13_later_23 : decode cX13_later 23 = .ok (.iconst (-1), 1) := by decide +kernel
theorem dX13_later_24 : decode cX13_later 24 = .ok (.ireturn, 1) := by decide +kernel
theorem dX13_later_25 : decode cX13_later 25 = .ok (.aload_n 0, 1) := by decide +kernel
theorem dX13_later_26 : decode cX13_later 26 = .ok (.invokevirtual 576, 3) := by decide +kernel
theorem dX13_later_29 : decode cX13_later 29 = .ok (.aload_n 0, 1) := by decide +kernel
theorem dX13_later_30 : decode cX13_later 30 = .ok (.iload_n 1, 1) := by decide +kernel
theorem dX13_later_31 : decode cX13_later 31 = .ok (.invokevirtual 579, 3) := by decide +kernel
theorem dX13_later_34 : decode cX13_later 34 = .ok (.iload_n 2, 1) := by decide +kernel
theorem dX13_later_35 : decode cX13_later 35 = .ok (.ifCond .ne 10, 3) := by decide +kernel
theorem dX13_later_38 : decode cX13_later 38 = .ok (.aload_n 0, 1) := by decide +kernel
theorem dX13_later_39 : decode cX13_later 39 = .ok (.getfield 503, 3) := by decide +kernel
theorem dX13_later_42 : decode cX13_later 42 = .ok (.goto 31, 3) := by decide +kernel
theorem dX13_later_45 : decode cX13_later 45 = .ok (.iload_n 2, 1) := by decide +kernel
theorem dX13_later_46 : decode cX13_later 46 = .ok (.iconst 1, 1) := by decide +kernel
theorem dX13_later_47 : decode cX13_later 47 = .ok (.if_icmp .ne 10, 3) := by decide +kernel
theorem dX13_later_50 : decode cX13_later 50 = .ok (.aload_n 0, 1) := by decide +kernel
theorem dX13_later_51 : decode cX13_later 51 = .ok (.invokevirtual 535, 3) := by decide +kernel
theorem dX13_later_54 : decode cX13_later 54 = .ok (.goto 19, 3) := by decide +kernel
theorem dX13_later_57 : decode cX13_later 57 = .ok (.iload_n 2, 1) := by decide +kernel
theorem dX13_later_58 : decode cX13_later 58 = .ok (.iconst 2, 1) := by decide +kernel
theorem dX13_later_59 : decode cX13_later 59 = .ok (.if_icmp .ne 10, 3) := by decide +kernel
theorem dX13_later_62 : decode cX13_later 62 = .ok (.aload_n 0, 1) := by decide +kernel
theorem dX13_later_63 : decode cX13_later 63 = .ok (.invokevirtual 538, 3) := by decide +kernel
theorem dX13_later_66 : decode cX13_later 66 = .ok (.goto 7, 3) := by decide +kernel
theorem dX13_later_69 : decode cX13_later 69 = .ok (.aload_n 0, 1) := by decide +kernel
theorem dX13_later_70 : decode cX13_later 70 = .ok (.getfield 509, 3) := by decide +kernel
theorem dX13_later_73 : decode cX13_later 73 = .ok (.istore_n 3, 1) := by decide +kernel
theorem dX13_later_74 : decode cX13_later 74 = .ok (.aload_n 0, 1) := by decide +kernel
theorem dX13_later_75 : decode cX13_later 75 = .ok (.invokevirtual 582, 3) := by decide +kernel
theorem dX13_later_78 : decode cX13_later 78 = .ok (.iload_n 3, 1) := by decide +kernel
theorem dX13_later_79 : decode cX13_later 79 = .ok (.ireturn, 1) := by decide +kernel
theorem dX13_chapel_0 : decode cX13_chapel 0 = .ok (.aload_n 0, 1) := by decide +kernel
theorem dX13_chapel_1 : decode cX13_chapel 1 = .ok (.iload_n 1, 1) := by decide +kernel
theorem dX13_chapel_2 : decode cX13_chapel 2 = .ok (.iconst 1, 1) := by decide +kernel
theorem dX13_chapel_3 : decode cX13_chapel 3 = .ok (.bipush 20, 2) := by decide +kernel
theorem dX13_chapel_5 : decode cX13_chapel 5 = .ok (.invokevirtual 573, 3) := by decide +kernel
theorem dX13_chapel_8 : decode cX13_chapel 8 = .ok (.ifCond .eq 15, 3) := by decide +kernel
theorem dX13_chapel_11 : decode cX13_chapel 11 = .ok (.iload_n 2, 1) := by decide +kernel
theorem dX13_chapel_12 : decode cX13_chapel 12 = .ok (.i2l, 1) := by decide +kernel
theorem dX13_chapel_13 : decode cX13_chapel 13 = .ok (.lconst 0, 1) := by decide +kernel
theorem dX13_chapel_14 : decode cX13_chapel 14 = .ok (.ldc2_w 546, 3) := by decide +kernel
theorem dX13_chapel_17 : decode cX13_chapel 17 = .ok (.invokestatic 307, 3) := by decide +kernel
theorem dX13_chapel_20 : decode cX13_chapel 20 = .ok (.ifCond .ne 5, 3) := by decide +kernel
theorem dX13_chapel_23 : decode cX13_chapel 23 = .ok (.iconst (-1), 1) := by decide +kernel
theorem dX13_chapel_24 : decode cX13_chapel 24 = .ok (.ireturn, 1) := by decide +kernel
theorem dX13_chapel_25 : decode cX13_chapel 25 = .ok (.aload_n 0, 1) := by decide +kernel
theorem dX13_chapel_26 : decode cX13_chapel 26 = .ok (.invokevirtual 576, 3) := by decide +kernel
theorem dX13_chapel_29 : decode cX13_chapel 29 = .ok (.aload_n 0, 1) := by decide +kernel
theorem dX13_chapel_30 : decode cX13_chapel 30 = .ok (.iload_n 1, 1) := by decide +kernel
theorem dX13_chapel_31 : decode cX13_chapel 31 = .ok (.invokevirtual 579, 3) := by decide +kernel
theorem dX13_chapel_34 : decode cX13_chapel 34 = .ok (.aload_n 0, 1) := by decide +kernel
theorem dX13_chapel_35 : decode cX13_chapel 35 = .ok (.getfield 503, 3) := by decide +kernel
theorem dX13_chapel_38 : decode cX13_chapel 38 = .ok (.istore_n 3, 1) := by decide +kernel
theorem dX13_chapel_39 : decode cX13_chapel 39 = .ok (.aload_n 0, 1) := by decide +kernel
theorem dX13_chapel_40 : decode cX13_chapel 40 = .ok (.invokevirtual 529, 3) := by decide +kernel
theorem dX13_chapel_43 : decode cX13_chapel 43 = .ok (.iload_n 3, 1) := by decide +kernel
theorem dX13_chapel_44 : decode cX13_chapel 44 = .ok (.istore 4, 2) := by decide +kernel
theorem dX13_chapel_46 : decode cX13_chapel 46 = .ok (.iconst (-1), 1) := by decide +kernel
theorem dX13_chapel_47 : decode cX13_chapel 47 = .ok (.istore 5, 2) := by decide +kernel
theorem dX13_chapel_49 : decode cX13_chapel 49 = .ok (.iconst 0, 1) := by decide +kernel
theorem dX13_chapel_50 : decode cX13_chapel 50 = .ok (.istore 6, 2) := by decide +kernel
theorem dX13_chapel_52 : decode cX13_chapel 52 = .ok (.iload 6, 2) := by decide +kernel
theorem dX13_chapel_54 : decode cX13_chapel 54 = .ok (.aload_n 0, 1) := by decide +kernel
theorem dX13_chapel_55 : decode cX13_chapel 55 = .ok (.getfield 120, 3) := by decide +kernel
theorem dX13_chapel_58 : decode cX13_chapel 58 = .ok (.iconst 4, 1) := by decide +kernel
theorem dX13_chapel_59 : decode cX13_chapel 59 = .ok (.iaload, 1) := by decide +kernel
theorem dX13_chapel_60 : decode cX13_chapel 60 = .ok (.if_icmp .ge 104, 3) := by decide +kernel
theorem dX13_chapel_63 : decode cX13_chapel 63 = .ok (.iconst 0, 1) := by decide +kernel
theorem dX13_chapel_64 : decode cX13_chapel 64 = .ok (.istore 7, 2) := by decide +kernel
theorem dX13_chapel_66 : decode cX13_chapel 66 = .ok (.iload 7, 2) := by decide +kernel
theorem dX13_chapel_68 : decode cX13_chapel 68 = .ok (.aload_n 0, 1) := by decide +kernel
theorem dX13_chapel_69 : decode cX13_chapel 69 = .ok (.getfield 120, 3) := by decide +kernel
theorem dX13_chapel_72 : decode cX13_chapel 72 = .ok (.iconst 3, 1) := by decide +kernel
theorem dX13_chapel_73 : decode cX13_chapel 73 = .ok (.iaload, 1) := by decide +kernel
theorem dX13_chapel_74 : decode cX13_chapel 74 = .ok (.if_icmp .ge 84, 3) := by decide +kernel
theorem dX13_chapel_77 : decode cX13_chapel 77 = .ok (.iload 7, 2) := by decide +kernel
theorem dX13_chapel_79 : decode cX13_chapel 79 = .ok (.bipush 7, 2) := by decide +kernel
theorem dX13_chapel_81 : decode cX13_chapel 81 = .ok (.iload 6, 2) := by decide +kernel
theorem dX13_chapel_83 : decode cX13_chapel 83 = .ok (.imul, 1) := by decide +kernel
theorem dX13_chapel_84 : decode cX13_chapel 84 = .ok (.iadd, 1) := by decide +kernel
theorem dX13_chapel_85 : decode cX13_chapel 85 = .ok (.istore 8, 2) := by decide +kernel
theorem dX13_chapel_87 : decode cX13_chapel 87 = .ok (.aload_n 0, 1) := by decide +kernel
theorem dX13_chapel_88 : decode cX13_chapel 88 = .ok (.iload 8, 2) := by decide +kernel
theorem dX13_chapel_90 : decode cX13_chapel 90 = .ok (.invokevirtual 470, 3) := by decide +kernel
theorem dX13_chapel_93 : decode cX13_chapel 93 = .ok (.ifCond .ne 59, 3) := by decide +kernel
theorem dX13_chapel_96 : decode cX13_chapel 96 = .ok (.iload 8, 2) := by decide +kernel
theorem dX13_chapel_98 : decode cX13_chapel 98 = .ok (.aload_n 0, 1) := by decide +kernel
theorem dX13_chapel_99 : decode cX13_chapel 99 = .ok (.getfield 120, 3) := by decide +kernel
theorem dX13_chapel_102 : decode cX13_chapel 102 = .ok (.iconst 5, 1) := by decide +kernel
theorem dX13_chapel_103 : decode cX13_chapel 103 = .ok (.iaload, 1) := by decide +kernel
theorem dX13_chapel_104 : decode cX13_chapel 104 = .ok (.if_icmp .ne 6, 3) := by decide +kernel
theorem dX13_chapel_107 : decode cX13_chapel 107 = .ok (.goto 45, 3) := by decide +kernel
theorem dX13_chapel_110 : decode cX13_chapel 110 = .ok (.aload_n 0, 1) := by decide +kernel
theorem dX13_chapel_111 : decode cX13_chapel 111 = .ok (.iload 8, 2) := by decide +kernel
theorem dX13_chapel_113 : decode cX13_chapel 113 = .ok (.putfield 163, 3) := by decide +kernel
theorem dX13_chapel_116 : decode cX13_chapel 116 = .ok (.aload_n 0, 1) := by decide +kernel
theorem dX13_chapel_117 : decode cX13_chapel 117 = .ok (.iload_n 1, 1) := by decide +kernel
theorem dX13_chapel_118 : decode cX13_chapel 118 = .ok (.invokevirtual 579, 3) := by decide +kernel
theorem dX13_chapel_121 : decode cX13_chapel 121 = .ok (.aload_n 0, 1) := by decide +kernel
theorem dX13_chapel_122 : decode cX13_chapel 122 = .ok (.iconst (-1), 1) := by decide +kernel
theorem dX13_chapel_123 : decode cX13_chapel 123 = .ok (.putfield 163, 3) := by decide +kernel
theorem dX13_chapel_126 : decode cX13_chapel 126 = .ok (.aload_n 0, 1) := by decide +kernel
theorem dX13_chapel_127 : decode cX13_chapel 127 = .ok (.invokevirtual 529, 3) := by decide +kernel
theorem dX13_chapel_130 : decode cX13_chapel 130 = .ok (.aload_n 0, 1) := by decide +kernel
theorem dX13_chapel_131 : decode cX13_chapel 131 = .ok (.getfield 503, 3) := by decide +kernel
theorem dX13_chapel_134 : decode cX13_chapel 134 = .ok (.iload 4, 2) := by decide +kernel
theorem dX13_chapel_136 : decode cX13_chapel 136 = .ok (.if_icmp .lt 6, 3) := by decide +kernel
theorem dX13_chapel_139 : decode cX13_chapel 139 = .ok (.goto 13, 3) := by decide +kernel
theorem dX13_chapel_142 : decode cX13_chapel 142 = .ok (.aload_n 0, 1) := by decide +kernel
theorem dX13_chapel_143 : decode cX13_chapel 143 = .ok (.getfield 503, 3) := by decide +kernel
theorem dX13_chapel_146 : decode cX13_chapel 146 = .ok (.istore 4, 2) := by decide +kernel
theorem dX13_chapel_148 : decode cX13_chapel 148 = .ok (.iload 8, 2) := by decide +kernel
theorem dX13_chapel_150 : decode cX13_chapel 150 = .ok (.istore 5, 2) := by decide +kernel
theorem dX13_chapel_152 : decode cX13_chapel 152 = .ok (.iinc 7 1, 3) := by decide +kernel
theorem dX13_chapel_155 : decode cX13_chapel 155 = .ok (.goto (-89), 3) := by decide +kernel
theorem dX13_chapel_158 : decode cX13_chapel 158 = .ok (.iinc 6 1, 3) := by decide +kernel
theorem dX13_chapel_161 : decode cX13_chapel 161 = .ok (.goto (-109), 3) := by decide +kernel
theorem dX13_chapel_164 : decode cX13_chapel 164 = .ok (.aload_n 0, 1) := by decide +kernel
theorem dX13_chapel_165 : decode cX13_chapel 165 = .ok (.invokevirtual 582, 3) := by decide +kernel
theorem dX13_chapel_168 : decode cX13_chapel 168 = .ok (.iload 5, 2) := by decide +kernel
theorem dX13_chapel_170 : decode cX13_chapel 170 = .ok (.iconst (-1), 1) := by decide +kernel
theorem dX13_chapel_171 : decode cX13_chapel 171 = .ok (.if_icmp .ne 7, 3) := by decide +kernel
theorem dX13_chapel_174 : decode cX13_chapel 174 = .ok (.iconst (-1), 1) := by decide +kernel
theorem dX13_chapel_175 : decode cX13_chapel 175 = .ok (.goto 32, 3) := by decide +kernel
theorem dX13_chapel_178 : decode cX13_chapel 178 = .ok (.iload_n 2, 1) := by decide +kernel
theorem dX13_chapel_179 : decode cX13_chapel 179 = .ok (.ifCond .ne 11, 3) := by decide +kernel
theorem dX13_chapel_182 : decode cX13_chapel 182 = .ok (.iload 5, 2) := by decide +kernel
theorem dX13_chapel_184 : decode cX13_chapel 184 = .ok (.bipush 7, 2) := by decide +kernel
theorem dX13_chapel_186 : decode cX13_chapel 186 = .ok (.irem, 1) := by decide +kernel
theorem dX13_chapel_187 : decode cX13_chapel 187 = .ok (.goto 20, 3) := by decide +kernel
theorem dX13_chapel_190 : decode cX13_chapel 190 = .ok (.iload_n 2, 1) := by decide +kernel
theorem dX13_chapel_191 : decode cX13_chapel 191 = .ok (.iconst 1, 1) := by decide +kernel
theorem dX13_chapel_192 : decode cX13_chapel 192 = .ok (.if_icmp .ne 11, 3) := by decide +kernel
theorem dX13_chapel_195 : decode cX13_chapel 195 = .ok (.iload 5, 2) := by decide +kernel
theorem dX13_chapel_197 : decode cX13_chapel 197 = .ok (.bipush 7, 2) := by decide +kernel
theorem dX13_chapel_199 : decode cX13_chapel 199 = .ok (.idiv, 1) := by decide +kernel
theorem dX13_chapel_200 : decode cX13_chapel 200 = .ok (.goto 7, 3) := by decide +kernel
theorem dX13_chapel_203 : decode cX13_chapel 203 = .ok (.iload_n 3, 1) := by decide +kernel
theorem dX13_chapel_204 : decode cX13_chapel 204 = .ok (.iload 4, 2) := by decide +kernel
theorem dX13_chapel_206 : decode cX13_chapel 206 = .ok (.isub, 1) := by decide +kernel
theorem dX13_chapel_207 : decode cX13_chapel 207 = .ok (.ireturn, 1) := by decide +kernel
theorem dX13_first_0 : decode cX13_first 0 = .ok (.aload_n 0, 1) := by decide +kernel
theorem dX13_first_1 : decode cX13_first 1 = .ok (.iload_n 1, 1) := by decide +kernel
theorem dX13_first_2 : decode cX13_first 2 = .ok (.invokevirtual 557, 3) := by decide +kernel
theorem dX13_first_5 : decode cX13_first 5 = .ok (.ifCond .ne 5, 3) := by decide +kernel
theorem dX13_first_8 : decode cX13_first 8 = .ok (.iconst (-1), 1) := by decide +kernel
theorem dX13_first_9 : decode cX13_first 9 = .ok (.ireturn, 1) := by decide +kernel
theorem dX13_first_10 : decode cX13_first 10 = .ok (.iconst (-1), 1) := by decide +kernel
theorem dX13_first_11 : decode cX13_first 11 = .ok (.istore_n 2, 1) := by decide +kernel
theorem dX13_first_12 : decode cX13_first 12 = .ok (.aload_n 0, 1) := by decide +kernel
theorem dX13_first_13 : decode cX13_first 13 = .ok (.invokevirtual 576, 3) := by decide +kernel
theorem dX13_first_16 : decode cX13_first 16 = .ok (.aload_n 0, 1) := by decide +kernel
theorem dX13_first_17 : decode cX13_first 17 = .ok (.iconst 0, 1) := by decide +kernel
theorem dX13_first_18 : decode cX13_first 18 = .ok (.putfield 506, 3) := by decide +kernel
theorem dX13_first_21 : decode cX13_first 21 = .ok (.iconst 1, 1) := by decide +kernel
theorem dX13_first_22 : decode cX13_first 22 = .ok (.istore_n 3, 1) := by decide +kernel
theorem dX13_first_23 : decode cX13_first 23 = .ok (.iload_n 3, 1) := by decide +kernel
theorem dX13_first_24 : decode cX13_first 24 = .ok (.bipush 60, 2) := by decide +kernel
theorem dX13_first_26 : decode cX13_first 26 = .ok (.if_icmp .gt 45, 3) := by decide +kernel
theorem dX13_first_29 : decode cX13_first 29 = .ok (.iload_n 2, 1) := by decide +kernel
theorem dX13_first_30 : decode cX13_first 30 = .ok (.iconst (-1), 1) := by decide +kernel
theorem dX13_first_31 : decode cX13_first 31 = .ok (.if_icmp .ne 40, 3) := by decide +kernel
theorem dX13_first_34 : decode cX13_first 34 = .ok (.aload_n 0, 1) := by decide +kernel
theorem dX13_first_35 : decode cX13_first 35 = .ok (.getfield 151, 3) := by decide +kernel
theorem dX13_first_38 : decode cX13_first 38 = .ok (.iconst 0, 1) := by decide +kernel
theorem dX13_first_39 : decode cX13_first 39 = .ok (.iaload, 1) := by decide +kernel
theorem dX13_first_40 : decode cX13_first 40 = .ok (.sipush 999, 3) := by decide +kernel
theorem dX13_first_43 : decode cX13_first 43 = .ok (.if_icmp .ge 28, 3) := by decide +kernel
theorem dX13_first_46 : decode cX13_first 46 = .ok (.aload_n 0, 1) := by decide +kernel
theorem dX13_first_47 : decode cX13_first 47 = .ok (.iconst 0, 1) := by decide +kernel
theorem dX13_first_48 : decode cX13_first 48 = .ok (.invokevirtual 525, 3) := by decide +kernel
theorem dX13_first_51 : decode cX13_first 51 = .ok (.aload_n 0, 1) := by decide +kernel
theorem dX13_first_52 : decode cX13_first 52 = .ok (.getfield 506, 3) := by decide +kernel
theorem dX13_first_55 : decode cX13_first 55 = .ok (.iload_n 1, 1) := by decide +kernel
theorem dX13_first_56 : decode cX13_first 56 = .ok (.ishr, 1) := by decide +kernel
theorem dX13_first_57 : decode cX13_first 57 = .ok (.iconst 1, 1) := by decide +kernel
theorem dX13_first_58 : decode cX13_first 58 = .ok (.iand, 1) := by decide +kernel
theorem dX13_first_59 : decode cX13_first 59 = .ok (.iconst 1, 1) := by decide +kernel
theorem dX13_first_60 : decode cX13_first 60 = .ok (.if_icmp .ne 5, 3) := by decide +kernel
theorem dX13_first_63 : decode cX13_first 63 = .ok (.iload_n 3, 1) := by decide +kernel
theorem dX13_first_64 : decode cX13_first 64 = .ok (.istore_n 2, 1) := by decide +kernel
theorem dX13_first_65 : decode cX13_first 65 = .ok (.iinc 3 1, 3) := by decide +kernel
theorem dX13_first_68 : decode cX13_first 68 = .ok (.goto (-45), 3) := by decide +kernel
theorem dX13_first_71 : decode cX13_first 71 = .ok (.aload_n 0, 1) := by decide +kernel
theorem dX13_first_72 : decode cX13_first 72 = .ok (.invokevirtual 582, 3) := by decide +kernel
theorem dX13_first_75 : decode cX13_first 75 = .ok (.iload_n 2, 1) := by decide +kernel
theorem dX13_first_76 : decode cX13_first 76 = .ok (.ireturn, 1) := by decide +kernel
theorem dX13_see_0 : decode cX13_see 0 = .ok (.aload_n 0, 1) := by decide +kernel
theorem dX13_see_1 : decode cX13_see 1 = .ok (.getfield 261, 3) := by decide +kernel
theorem dX13_see_4 : decode cX13_see 4 = .ok (.istore_n 1, 1) := by decide +kernel
theorem dX13_see_5 : decode cX13_see 5 = .ok (.aload_n 0, 1) := by decide +kernel
theorem dX13_see_6 : decode cX13_see 6 = .ok (.iconst 0, 1) := by decide +kernel
theorem dX13_see_7 : decode cX13_see 7 = .ok (.putfield 261, 3) := by decide +kernel
theorem dX13_see_10 : decode cX13_see 10 = .ok (.aload_n 0, 1) := by decide +kernel
theorem dX13_see_11 : decode cX13_see 11 = .ok (.getfield 403, 3) := by decide +kernel
theorem dX13_see_14 : decode cX13_see 14 = .ok (.ifCond .eq 25, 3) := by decide +kernel
theorem dX13_see_17 : decode cX13_see 17 = .ok (.iload_n 1, 1) := by decide +kernel
theorem dX13_see_18 : decode cX13_see 18 = .ok (.ifCond .le 21, 3) := by decide +kernel
theorem dX13_see_21 : decode cX13_see 21 = .ok (.iload_n 1, 1) := by decide +kernel
theorem dX13_see_22 : decode cX13_see 22 = .ok (.iconst 3, 1) := by decide +kernel
theorem dX13_see_23 : decode cX13_see 23 = .ok (.irem, 1) := by decide +kernel
theorem dX13_see_24 : decode cX13_see 24 = .ok (.ifCond .ne 15, 3) := by decide +kernel
theorem dX13_see_27 : decode cX13_see 27 = .ok (.iload_n 1, 1) := by decide +kernel
theorem dX13_see_28 : decode cX13_see 28 = .ok (.iconst 3, 1) := by decide +kernel
theorem dX13_see_29 : decode cX13_see 29 = .ok (.idiv, 1) := by decide +kernel
theorem dX13_see_30 : decode cX13_see 30 = .ok (.bipush 12, 2) := by decide +kernel
theorem dX13_see_32 : decode cX13_see 32 = .ok (.if_icmp .gt 7, 3) := by decide +kernel
theorem dX13_see_35 : decode cX13_see 35 = .ok (.iconst 1, 1) := by decide +kernel
theorem dX13_see_36 : decode cX13_see 36 = .ok (.goto 4, 3) := by decide +kernel
theorem dX13_see_39 : decode cX13_see 39 = .ok (.iconst 0, 1) := by decide +kernel
theorem dX13_see_40 : decode cX13_see 40 = .ok (.istore_n 2, 1) := by decide +kernel
theorem dX13_see_41 : decode cX13_see 41 = .ok (.iconst 0, 1) := by decide +kernel
theorem dX13_see_42 : decode cX13_see 42 = .ok (.istore_n 3, 1) := by decide +kernel
theorem dX13_see_43 : decode cX13_see 43 = .ok (.iload_n 3, 1) := by decide +kernel
theorem dX13_see_44 : decode cX13_see 44 = .ok (.iload_n 1, 1) := by decide +kernel
theorem dX13_see_45 : decode cX13_see 45 = .ok (.if_icmp .ge 53, 3) := by decide +kernel
theorem dX13_see_48 : decode cX13_see 48 = .ok (.iload_n 2, 1) := by decide +kernel
theorem dX13_see_49 : decode cX13_see 49 = .ok (.ifCond .eq 49, 3) := by decide +kernel
theorem dX13_see_52 : decode cX13_see 52 = .ok (.aload_n 0, 1) := by decide +kernel
theorem dX13_see_53 : decode cX13_see 53 = .ok (.getfield 7, 3) := by decide +kernel
theorem dX13_see_56 : decode cX13_see 56 = .ok (.iload_n 3, 1) := by decide +kernel
theorem dX13_see_57 : decode cX13_see 57 = .ok (.iaload, 1) := by decide +kernel
theorem dX13_see_58 : decode cX13_see 58 = .ok (.bipush 12, 2) := by decide +kernel
theorem dX13_see_60 : decode cX13_see 60 = .ok (.if_icmp .ge 30, 3) := by decide +kernel
theorem dX13_see_63 : decode cX13_see 63 = .ok (.aload_n 0, 1) := by decide +kernel
theorem dX13_see_64 : decode cX13_see 64 = .ok (.aload_n 0, 1) := by decide +kernel
theorem dX13_see_65 : decode cX13_see 65 = .ok (.getfield 7, 3) := by decide +kernel
theorem dX13_see_68 : decode cX13_see 68 = .ok (.iload_n 3, 1) := by decide +kernel
theorem dX13_see_69 : decode cX13_see 69 = .ok (.iconst 1, 1) := by decide +kernel
theorem dX13_see_70 : decode cX13_see 70 = .ok (.iadd, 1) := by decide +kernel
theorem dX13_see_71 : decode cX13_see 71 = .ok (.iaload, 1) := by decide +kernel
theorem dX13_see_72 : decode cX13_see 72 = .ok (.aload_n 0, 1) := by decide +kernel
theorem dX13_see_73 : decode cX13_see 73 = .ok (.getfield 7, 3) := by decide +kernel
theorem dX13_see_76 : decode cX13_see 76 = .ok (.iload_n 3, 1) := by decide +kernel
theorem dX13_see_77 : decode cX13_see 77 = .ok (.iconst 2, 1) := by decide +kernel
theorem dX13_see_78 : decode cX13_see 78 = .ok (.iadd, 1) := by decide +kernel
theorem dX13_see_79 : decode cX13_see 79 = .ok (.iaload, 1) := by decide +kernel
theorem dX13_see_80 : decode cX13_see 80 = .ok (.invokevirtual 426, 3) := by decide +kernel
theorem dX13_see_83 : decode cX13_see 83 = .ok (.ifCond .eq 7, 3) := by decide +kernel
theorem dX13_see_86 : decode cX13_see 86 = .ok (.iconst 1, 1) := by decide +kernel
theorem dX13_see_87 : decode cX13_see 87 = .ok (.goto 4, 3) := by decide +kernel
theorem dX13_see_90 : decode cX13_see 90 = .ok (.iconst 0, 1) := by decide +kernel
theorem dX13_see_91 : decode cX13_see 91 = .ok (.istore_n 2, 1) := by decide +kernel
theorem dX13_see_92 : decode cX13_see 92 = .ok (.iinc 3 3, 3) := by decide +kernel
theorem dX13_see_95 : decode cX13_see 95 = .ok (.goto (-52), 3) := by decide +kernel
theorem dX13_see_98 : decode cX13_see 98 = .ok (.iload_n 2, 1) := by decide +kernel
theorem dX13_see_99 : decode cX13_see 99 = .ok (.ifCond .ne 15, 3) := by decide +kernel
theorem dX13_see_102 : decode cX13_see 102 = .ok (.aload_n 0, 1) := by decide +kernel
theorem dX13_see_103 : decode cX13_see 103 = .ok (.getfield 17, 3) := by decide +kernel
theorem dX13_see_106 : decode cX13_see 106 = .ok (.iconst 1, 1) := by decide +kernel
theorem dX13_see_107 : decode cX13_see 107 = .ok (.dup2, 1) := by decide +kernel
theorem dX13_see_108 : decode cX13_see 108 = .ok (.iaload, 1) := by decide +kernel
theorem dX13_see_109 : decode cX13_see 109 = .ok (.iconst 1, 1) := by decide +kernel
theorem dX13_see_110 : decode cX13_see 110 = .ok (.iadd, 1) := by decide +kernel
theorem dX13_see_111 : decode cX13_see 111 = .ok (.iastore, 1) := by decide +kernel
theorem dX13_see_112 : decode cX13_see 112 = .ok (.iconst (-1), 1) := by decide +kernel
theorem dX13_see_113 : decode cX13_see 113 = .ok (.ireturn, 1) := by decide +kernel
theorem dX13_see_114 : decode cX13_see 114 = .ok (.iconst 0, 1) := by decide +kernel
theorem dX13_see_115 : decode cX13_see 115 = .ok (.istore_n 3, 1) := by decide +kernel
theorem dX13_see_116 : decode cX13_see 116 = .ok (.iload_n 3, 1) := by decide +kernel
theorem dX13_see_117 : decode cX13_see 117 = .ok (.iload_n 1, 1) := by decide +kernel
theorem dX13_see_118 : decode cX13_see 118 = .ok (.iconst 3, 1) := by decide +kernel
theorem dX13_see_119 : decode cX13_see 119 = .ok (.idiv, 1) := by decide +kernel
theorem dX13_see_120 : decode cX13_see 120 = .ok (.if_icmp .ge 59, 3) := by decide +kernel
theorem dX13_see_123 : decode cX13_see 123 = .ok (.aload_n 0, 1) := by decide +kernel
theorem dX13_see_124 : decode cX13_see 124 = .ok (.getfield 170, 3) := by decide +kernel
theorem dX13_see_127 : decode cX13_see 127 = .ok (.iconst 2, 1) := by decide +kernel
theorem dX13_see_128 : decode cX13_see 128 = .ok (.iload_n 3, 1) := by decide +kernel
theorem dX13_see_129 : decode cX13_see 129 = .ok (.imul, 1) := by decide +kernel
theorem dX13_see_130 : decode cX13_see 130 = .ok (.aload_n 0, 1) := by decide +kernel
theorem dX13_see_131 : decode cX13_see 131 = .ok (.getfield 7, 3) := by decide +kernel
theorem dX13_see_134 : decode cX13_see 134 = .ok (.iconst 3, 1) := by decide +kernel
theorem dX13_see_135 : decode cX13_see 135 = .ok (.iload_n 3, 1) := by decide +kernel
theorem dX13_see_136 : decode cX13_see 136 = .ok (.imul, 1) := by decide +kernel
theorem dX13_see_137 : decode cX13_see 137 = .ok (.iaload, 1) := by decide +kernel
theorem dX13_see_138 : decode cX13_see 138 = .ok (.iastore, 1) := by decide +kernel
theorem dX13_see_139 : decode cX13_see 139 = .ok (.aload_n 0, 1) := by decide +kernel
theorem dX13_see_140 : decode cX13_see 140 = .ok (.getfield 170, 3) := by decide +kernel
theorem dX13_see_143 : decode cX13_see 143 = .ok (.iconst 2, 1) := by decide +kernel
theorem dX13_see_144 : decode cX13_see 144 = .ok (.iload_n 3, 1) := by decide +kernel
theorem dX13_see_145 : decode cX13_see 145 = .ok (.imul, 1) := by decide +kernel
theorem dX13_see_146 : decode cX13_see 146 = .ok (.iconst 1, 1) := by decide +kernel
theorem dX13_see_147 : decode cX13_see 147 = .ok (.iadd, 1) := by decide +kernel
theorem dX13_see_148 : decode cX13_see 148 = .ok (.aload_n 0, 1) := by decide +kernel
theorem dX13_see_149 : decode cX13_see 149 = .ok (.getfield 7, 3) := by decide +kernel
theorem dX13_see_152 : decode cX13_see 152 = .ok (.iconst 3, 1) := by decide +kernel
theorem dX13_see_153 : decode cX13_see 153 = .ok (.iload_n 3, 1) := by decide +kernel
theorem dX13_see_154 : decode cX13_see 154 = .ok (.imul, 1) := by decide +kernel
theorem dX13_see_155 : decode cX13_see 155 = .ok (.iconst 1, 1) := by decide +kernel
theorem dX13_see_156 : decode cX13_see 156 = .ok (.iadd, 1) := by decide +kernel
theorem dX13_see_157 : decode cX13_see 157 = .ok (.iaload, 1) := by decide +kernel
theorem dX13_see_158 : decode cX13_see 158 = .ok (.bipush 7, 2) := by decide +kernel
theorem dX13_see_160 : decode cX13_see 160 = .ok (.aload_n 0, 1) := by decide +kernel
theorem dX13_see_161 : decode cX13_see 161 = .ok (.getfield 7, 3) := by decide +kernel
theorem dX13_see_164 : decode cX13_see 164 = .ok (.iconst 3, 1) := by decide +kernel
theorem dX13_see_165 : decode cX13_see 165 = .ok (.iload_n 3, 1) := by decide +kernel
theorem dX13_see_166 : decode cX13_see 166 = .ok (.imul, 1) := by decide +kernel
theorem dX13_see_167 : decode cX13_see 167 = .ok (.iconst 2, 1) := by decide +kernel
theorem dX13_see_168 : decode cX13_see 168 = .ok (.iadd, 1) := by decide +kernel
theorem dX13_see_169 : decode cX13_see 169 = .ok (.iaload, 1) := by decide +kernel
theorem dX13_see_170 : decode cX13_see 170 = .ok (.imul, 1) := by decide +kernel
theorem dX13_see_171 : decode cX13_see 171 = .ok (.iadd, 1) := by decide +kernel
theorem dX13_see_172 : decode cX13_see 172 = .ok (.iastore, 1) := by decide +kernel
theorem dX13_see_173 : decode cX13_see 173 = .ok (.iinc 3 1, 3) := by decide +kernel
theorem dX13_see_176 : decode cX13_see 176 = .ok (.goto (-60), 3) := by decide +kernel
theorem dX13_see_179 : decode cX13_see 179 = .ok (.aload_n 0, 1) := by decide +kernel
theorem dX13_see_180 : decode cX13_see 180 = .ok (.iload_n 1, 1) := by decide +kernel
theorem dX13_see_181 : decode cX13_see 181 = .ok (.iconst 3, 1) := by decide +kernel
theorem dX13_see_182 : decode cX13_see 182 = .ok (.idiv, 1) := by decide +kernel
theorem dX13_see_183 : decode cX13_see 183 = .ok (.putfield 410, 3) := by decide +kernel
theorem dX13_see_186 : decode cX13_see 186 = .ok (.aload_n 0, 1) := by decide +kernel
theorem dX13_see_187 : decode cX13_see 187 = .ok (.getfield 410, 3) := by decide +kernel
theorem dX13_see_190 : decode cX13_see 190 = .ok (.ireturn, 1) := by decide +kernel
theorem dX13_canBegin_0 : decode cX13_canBegin 0 = .ok (.aload_n 0, 1) := by decide +kernel
theorem dX13_canBegin_1 : decode cX13_canBegin 1 = .ok (.iload_n 1, 1) := by decide +kernel
theorem dX13_canBegin_2 : decode cX13_canBegin 2 = .ok (.invokevirtual 470, 3) := by decide +kernel
theorem dX13_canBegin_5 : decode cX13_canBegin 5 = .ok (.ifCond .eq 5, 3) := by decide +kernel
theorem dX13_canBegin_8 : decode cX13_canBegin 8 = .ok (.iconst 0, 1) := by decide +kernel
theorem dX13_canBegin_9 : decode cX13_canBegin 9 = .ok (.ireturn, 1) := by decide +kernel
theorem dX13_canBegin_10 : decode cX13_canBegin 10 = .ok (.aload_n 0, 1) := by decide +kernel
theorem dX13_canBegin_11 : decode cX13_canBegin 11 = .ok (.iload_n 1, 1) := by decide +kernel
theorem dX13_canBegin_12 : decode cX13_canBegin 12 = .ok (.aload_n 0, 1) := by decide +kernel
theorem dX13_canBegin_13 : decode cX13_canBegin 13 = .ok (.getfield 151, 3) := by decide +kernel
theorem dX13_canBegin_16 : decode cX13_canBegin 16 = .ok (.iconst 1, 1) := by decide +kernel
theorem dX13_canBegin_17 : decode cX13_canBegin 17 = .ok (.iaload, 1) := by decide +kernel
theorem dX13_canBegin_18 : decode cX13_canBegin 18 = .ok (.invokevirtual 480, 3) := by decide +kernel
theorem dX13_canBegin_21 : decode cX13_canBegin 21 = .ok (.iconst 0, 1) := by decide +kernel
theorem dX13_canBegin_22 : decode cX13_canBegin 22 = .ok (.istore_n 2, 1) := by decide +kernel
theorem dX13_canBegin_23 : decode cX13_canBegin 23 = .ok (.iload_n 2, 1) := by decide +kernel
theorem dX13_canBegin_24 : decode cX13_canBegin 24 = .ok (.aload_n 0, 1) := by decide +kernel
theorem dX13_canBegin_25 : decode cX13_canBegin 25 = .ok (.getfield 410, 3) := by decide +kernel
theorem dX13_canBegin_28 : decode cX13_canBegin 28 = .ok (.if_icmp .ge 37, 3) := by decide +kernel
theorem dX13_canBegin_31 : decode cX13_canBegin 31 = .ok (.aload_n 0, 1) := by decide +kernel
theorem dX13_canBegin_32 : decode cX13_canBegin 32 = .ok (.getfield 160, 3) := by decide +kernel
theorem dX13_canBegin_35 : decode cX13_canBegin 35 = .ok (.aload_n 0, 1) := by decide +kernel
theorem dX13_canBegin_36 : decode cX13_canBegin 36 = .ok (.getfield 170, 3) := by decide +kernel
theorem dX13_canBegin_39 : decode cX13_canBegin 39 = .ok (.iconst 2, 1) := by decide +kernel
theorem dX13_canBegin_40 : decode cX13_canBegin 40 = .ok (.iload_n 2, 1) := by decide +kernel
theorem dX13_canBegin_41 : decode cX13_canBegin 41 = .ok (.imul, 1) := by decide +kernel
theorem dX13_canBegin_42 : decode cX13_canBegin 42 = .ok (.iaload, 1) := by decide +kernel
theorem dX13_canBegin_43 : decode cX13_canBegin 43 = .ok (.iaload, 1) := by decide +kernel
theorem dX13_canBegin_44 : decode cX13_canBegin 44 = .ok (.aload_n 0, 1) := by decide +kernel
theorem dX13_canBegin_45 : decode cX13_canBegin 45 = .ok (.getfield 170, 3) := by decide +kernel
theorem dX13_canBegin_48 : decode cX13_canBegin 48 = .ok (.iconst 2, 1) := by decide +kernel
theorem dX13_canBegin_49 : decode cX13_canBegin 49 = .ok (.iload_n 2, 1) := by decide +kernel
theorem dX13_canBegin_50 : decode cX13_canBegin 50 = .ok (.imul, 1) := by decide +kernel
theorem dX13_canBegin_51 : decode cX13_canBegin 51 = .ok (.iconst 1, 1) := by decide +kernel
theorem dX13_canBegin_52 : decode cX13_canBegin 52 = .ok (.iadd, 1) := by decide +kernel
theorem dX13_canBegin_53 : decode cX13_canBegin 53 = .ok (.iaload, 1) := by decide +kernel
theorem dX13_canBegin_54 : decode cX13_canBegin 54 = .ok (.if_icmp .eq 5, 3) := by decide +kernel
theorem dX13_canBegin_57 : decode cX13_canBegin 57 = .ok (.iconst 0, 1) := by decide +kernel
theorem dX13_canBegin_58 : decode cX13_canBegin 58 = .ok (.ireturn, 1) := by decide +kernel
theorem dX13_canBegin_59 : decode cX13_canBegin 59 = .ok (.iinc 2 1, 3) := by decide +kernel
theorem dX13_canBegin_62 : decode cX13_canBegin 62 = .ok (.goto (-39), 3) := by decide +kernel
theorem dX13_canBegin_65 : decode cX13_canBegin 65 = .ok (.iconst 1, 1) := by decide +kernel
theorem dX13_canBegin_66 : decode cX13_canBegin 66 = .ok (.ireturn, 1) := by decide +kernel
theorem dX13_began_0 : decode cX13_began 0 = .ok (.aload_n 0, 1) := by decide +kernel
theorem dX13_began_1 : decode cX13_began 1 = .ok (.getfield 403, 3) := by decide +kernel
theorem dX13_began_4 : decode cX13_began 4 = .ok (.ifCond .eq 15, 3) := by decide +kernel
theorem dX13_began_7 : decode cX13_began 7 = .ok (.iload_n 1, 1) := by decide +kernel
theorem dX13_began_8 : decode cX13_began 8 = .ok (.i2l, 1) := by decide +kernel
theorem dX13_began_9 : decode cX13_began 9 = .ok (.lconst 0, 1) := by decide +kernel
theorem dX13_began_10 : decode cX13_began 10 = .ok (.ldc2_w 546, 3) := by decide +kernel
theorem dX13_began_13 : decode cX13_began 13 = .ok (.invokestatic 307, 3) := by decide +kernel
theorem dX13_began_16 : decode cX13_began 16 = .ok (.ifCond .ne 5, 3) := by decide +kernel
theorem dX13_began_19 : decode cX13_began 19 = .ok (.iconst (-1), 1) := by decide +kernel
theorem dX13_began_20 : decode cX13_began 20 = .ok (.ireturn, 1) := by decide +kernel
theorem dX13_began_21 : decode cX13_began 21 = .ok (.iconst 0, 1) := by decide +kernel
theorem dX13_began_22 : decode cX13_began 22 = .ok (.istore_n 2, 1) := by decide +kernel
theorem dX13_began_23 : decode cX13_began 23 = .ok (.iconst (-1), 1) := by decide +kernel
theorem dX13_began_24 : decode cX13_began 24 = .ok (.istore_n 3, 1) := by decide +kernel
theorem dX13_began_25 : decode cX13_began 25 = .ok (.iconst (-1), 1) := by decide +kernel
theorem dX13_began_26 : decode cX13_began 26 = .ok (.istore 4, 2) := by decide +kernel
theorem dX13_began_28 : decode cX13_began 28 = .ok (.iconst 0, 1) := by decide +kernel
theorem dX13_began_29 : decode cX13_began 29 = .ok (.istore 5, 2) := by decide +kernel
theorem dX13_began_31 : decode cX13_began 31 = .ok (.iload 5, 2) := by decide +kernel
theorem dX13_began_33 : decode cX13_began 33 = .ok (.aload_n 0, 1) := by decide +kernel
theorem dX13_began_34 : decode cX13_began 34 = .ok (.getfield 120, 3) := by decide +kernel
theorem dX13_began_37 : decode cX13_began 37 = .ok (.iconst 3, 1) := by decide +kernel
theorem dX13_began_38 : decode cX13_began 38 = .ok (.iaload, 1) := by decide +kernel
theorem dX13_began_39 : decode cX13_began 39 = .ok (.aload_n 0, 1) := by decide +kernel
theorem dX13_began_40 : decode cX13_began 40 = .ok (.getfield 120, 3) := by decide +kernel
theorem dX13_began_43 : decode cX13_began 43 = .ok (.iconst 4, 1) := by decide +kernel
theorem dX13_began_44 : decode cX13_began 44 = .ok (.iaload, 1) := by decide +kernel
theorem dX13_began_45 : decode cX13_began 45 = .ok (.imul, 1) := by decide +kernel
theorem dX13_began_46 : decode cX13_began 46 = .ok (.if_icmp .ge 56, 3) := by decide +kernel
theorem dX13_began_49 : decode cX13_began 49 = .ok (.aload_n 0, 1) := by decide +kernel
theorem dX13_began_50 : decode cX13_began 50 = .ok (.iload 5, 2) := by decide +kernel
theorem dX13_began_52 : decode cX13_began 52 = .ok (.aload_n 0, 1) := by decide +kernel
theorem dX13_began_53 : decode cX13_began 53 = .ok (.getfield 120, 3) := by decide +kernel
theorem dX13_began_56 : decode cX13_began 56 = .ok (.iconst 3, 1) := by decide +kernel
theorem dX13_began_57 : decode cX13_began 57 = .ok (.iaload, 1) := by decide +kernel
theorem dX13_began_58 : decode cX13_began 58 = .ok (.irem, 1) := by decide +kernel
theorem dX13_began_59 : decode cX13_began 59 = .ok (.bipush 7, 2) := by decide +kernel
theorem dX13_began_61 : decode cX13_began 61 = .ok (.iload 5, 2) := by decide +kernel
theorem dX13_began_63 : decode cX13_began 63 = .ok (.aload_n 0, 1) := by decide +kernel
theorem dX13_began_64 : decode cX13_began 64 = .ok (.getfield 120, 3) := by decide +kernel
theorem dX13_began_67 : decode cX13_began 67 = .ok (.iconst 3, 1) := by decide +kernel
theorem dX13_began_68 : decode cX13_began 68 = .ok (.iaload, 1) := by decide +kernel
theorem dX13_began_69 : decode cX13_began 69 = .ok (.idiv, 1) := by decide +kernel
theorem dX13_began_70 : decode cX13_began 70 = .ok (.imul, 1) := by decide +kernel
theorem dX13_began_71 : decode cX13_began 71 = .ok (.iadd, 1) := by decide +kernel
theorem dX13_began_72 : decode cX13_began 72 = .ok (.invokevirtual 585, 3) := by decide +kernel
theorem dX13_began_75 : decode cX13_began 75 = .ok (.ifCond .ne 6, 3) := by decide +kernel
theorem dX13_began_78 : decode cX13_began 78 = .ok (.goto 18, 3) := by decide +kernel
theorem dX13_began_81 : decode cX13_began 81 = .ok (.iinc 2 1, 3) := by decide +kernel
theorem dX13_began_84 : decode cX13_began 84 = .ok (.iload_n 3, 1) := by decide +kernel
theorem dX13_began_85 : decode cX13_began 85 = .ok (.iconst (-1), 1) := by decide +kernel
theorem dX13_began_86 : decode cX13_began 86 = .ok (.if_icmp .ne 6, 3) := by decide +kernel
theorem dX13_began_89 : decode cX13_began 89 = .ok (.iload 5, 2) := by decide +kernel
theorem dX13_began_91 : decode cX13_began 91 = .ok (.istore_n 3, 1) := by decide +kernel
theorem dX13_began_92 : decode cX13_began 92 = .ok (.iload 5, 2) := by decide +kernel
theorem dX13_began_94 : decode cX13_began 94 = .ok (.istore 4, 2) := by decide +kernel
theorem dX13_began_96 : decode cX13_began 96 = .ok (.iinc 5 1, 3) := by decide +kernel
theorem dX13_began_99 : decode cX13_began 99 = .ok (.goto (-68), 3) := by decide +kernel
theorem dX13_began_102 : decode cX13_began 102 = .ok (.iload_n 1, 1) := by decide +kernel
theorem dX13_began_103 : decode cX13_began 103 = .ok (.ifCond .ne 7, 3) := by decide +kernel
theorem dX13_began_106 : decode cX13_began 106 = .ok (.iload_n 2, 1) := by decide +kernel
theorem dX13_began_107 : decode cX13_began 107 = .ok (.goto 14, 3) := by decide +kernel
theorem dX13_began_110 : decode cX13_began 110 = .ok (.iload_n 1, 1) := by decide +kernel
theorem dX13_began_111 : decode cX13_began 111 = .ok (.iconst 1, 1) := by decide +kernel
theorem dX13_began_112 : decode cX13_began 112 = .ok (.if_icmp .ne 7, 3) := by decide +kernel
theorem dX13_began_115 : decode cX13_began 115 = .ok (.iload_n 3, 1) := by decide +kernel
theorem dX13_began_116 : decode cX13_began 116 = .ok (.goto 5, 3) := by decide +kernel
theorem dX13_began_119 : decode cX13_began 119 = .ok (.iload 4, 2) := by decide +kernel
theorem dX13_began_121 : decode cX13_began 121 = .ok (.ireturn, 1) := by decide +kernel
theorem dX13_tells_0 : decode cX13_tells 0 = .ok (.aload_n 0, 1) := by decide +kernel
theorem dX13_tells_1 : decode cX13_tells 1 = .ok (.getfield 403, 3) := by decide +kernel
theorem dX13_tells_4 : decode cX13_tells 4 = .ok (.ifCond .eq 13, 3) := by decide +kernel
theorem dX13_tells_7 : decode cX13_tells 7 = .ok (.iload_n 1, 1) := by decide +kernel
theorem dX13_tells_8 : decode cX13_tells 8 = .ok (.i2l, 1) := by decide +kernel
theorem dX13_tells_9 : decode cX13_tells 9 = .ok (.lconst 0, 1) := by decide +kernel
theorem dX13_tells_10 : decode cX13_tells 10 = .ok (.lconst 1, 1) := by decide +kernel
theorem dX13_tells_11 : decode cX13_tells 11 = .ok (.invokestatic 307, 3) := by decide +kernel
theorem dX13_tells_14 : decode cX13_tells 14 = .ok (.ifCond .ne 5, 3) := by decide +kernel
theorem dX13_tells_17 : decode cX13_tells 17 = .ok (.iconst (-1), 1) := by decide +kernel
theorem dX13_tells_18 : decode cX13_tells 18 = .ok (.ireturn, 1) := by decide +kernel
theorem dX13_tells_19 : decode cX13_tells 19 = .ok (.iconst 0, 1) := by decide +kernel
theorem dX13_tells_20 : decode cX13_tells 20 = .ok (.istore_n 2, 1) := by decide +kernel
theorem dX13_tells_21 : decode cX13_tells 21 = .ok (.iconst 0, 1) := by decide +kernel
theorem dX13_tells_22 : decode cX13_tells 22 = .ok (.istore_n 3, 1) := by decide +kernel
theorem dX13_tells_23 : decode cX13_tells 23 = .ok (.iload_n 3, 1) := by decide +kernel
theorem dX13_tells_24 : decode cX13_tells 24 = .ok (.sipush 588, 3) := by decide +kernel
theorem dX13_tells_27 : decode cX13_tells 27 = .ok (.if_icmp .ge 16, 3) := by decide +kernel
theorem dX13_tells_30 : decode cX13_tells 30 = .ok (.aload_n 0, 1) := by decide +kernel
theorem dX13_tells_31 : decode cX13_tells 31 = .ok (.getfield 173, 3) := by decide +kernel
theorem dX13_tells_34 : decode cX13_tells 34 = .ok (.iload_n 3, 1) := by decide +kernel
theorem dX13_tells_35 : decode cX13_tells 35 = .ok (.iconst 0, 1) := by decide +kernel
theorem dX13_tells_36 : decode cX13_tells 36 = .ok (.iastore, 1) := by decide +kernel
theorem dX13_tells_37 : decode cX13_tells 37 = .ok (.iinc 3 1, 3) := by decide +kernel
theorem dX13_tells_40 : decode cX13_tells 40 = .ok (.goto (-17), 3) := by decide +kernel
theorem dX13_tells_43 : decode cX13_tells 43 = .ok (.iconst 0, 1) := by decide +kernel
theorem dX13_tells_44 : decode cX13_tells 44 = .ok (.istore_n 3, 1) := by decide +kernel
theorem dX13_tells_45 : decode cX13_tells 45 = .ok (.iload_n 3, 1) := by decide +kernel
theorem dX13_tells_46 : decode cX13_tells 46 = .ok (.aload_n 0, 1) := by decide +kernel
theorem dX13_tells_47 : decode cX13_tells 47 = .ok (.getfield 120, 3) := by decide +kernel
theorem dX13_tells_50 : decode cX13_tells 50 = .ok (.iconst 3, 1) := by decide +kernel
theorem dX13_tells_51 : decode cX13_tells 51 = .ok (.iaload, 1) := by decide +kernel
theorem dX13_tells_52 : decode cX13_tells 52 = .ok (.aload_n 0, 1) := by decide +kernel
theorem dX13_tells_53 : decode cX13_tells 53 = .ok (.getfield 120, 3) := by decide +kernel
theorem dX13_tells_56 : decode cX13_tells 56 = .ok (.iconst 4, 1) := by decide +kernel
theorem dX13_tells_57 : decode cX13_tells 57 = .ok (.iaload, 1) := by decide +kernel
theorem dX13_tells_58 : decode cX13_tells 58 = .ok (.imul, 1) := by decide +kernel
theorem dX13_tells_59 : decode cX13_tells 59 = .ok (.if_icmp .ge 80, 3) := by decide +kernel
theorem dX13_tells_62 : decode cX13_tells 62 = .ok (.aload_n 0, 1) := by decide +kernel
theorem dX13_tells_63 : decode cX13_tells 63 = .ok (.iload_n 3, 1) := by decide +kernel
theorem dX13_tells_64 : decode cX13_tells 64 = .ok (.aload_n 0, 1) := by decide +kernel
theorem dX13_tells_65 : decode cX13_tells 65 = .ok (.getfield 120, 3) := by decide +kernel
theorem dX13_tells_68 : decode cX13_tells 68 = .ok (.iconst 3, 1) := by decide +kernel
theorem dX13_tells_69 : decode cX13_tells 69 = .ok (.iaload, 1) := by decide +kernel
theorem dX13_tells_70 : decode cX13_tells 70 = .ok (.irem, 1) := by decide +kernel
theorem dX13_tells_71 : decode cX13_tells 71 = .ok (.bipush 7, 2) := by decide +kernel
theorem dX13_tells_73 : decode cX13_tells 73 = .ok (.iload_n 3, 1) := by decide +kernel
theorem dX13_tells_74 : decode cX13_tells 74 = .ok (.aload_n 0, 1) := by decide +kernel
theorem dX13_tells_75 : decode cX13_tells 75 = .ok (.getfield 120, 3) := by decide +kernel
theorem dX13_tells_78 : decode cX13_tells 78 = .ok (.iconst 3, 1) := by decide +kernel
theorem dX13_tells_79 : decode cX13_tells 79 = .ok (.iaload, 1) := by decide +kernel
theorem dX13_tells_80 : decode cX13_tells 80 = .ok (.idiv, 1) := by decide +kernel
theorem dX13_tells_81 : decode cX13_tells 81 = .ok (.imul, 1) := by decide +kernel
theorem dX13_tells_82 : decode cX13_tells 82 = .ok (.iadd, 1) := by decide +kernel
theorem dX13_tells_83 : decode cX13_tells 83 = .ok (.invokevirtual 585, 3) := by decide +kernel
theorem dX13_tells_86 : decode cX13_tells 86 = .ok (.ifCond .ne 6, 3) := by decide +kernel
theorem dX13_tells_89 : decode cX13_tells 89 = .ok (.goto 44, 3) := by decide +kernel
theorem dX13_tells_92 : decode cX13_tells 92 = .ok (.iinc 2 1, 3) := by decide +kernel
theorem dX13_tells_95 : decode cX13_tells 95 = .ok (.iconst 0, 1) := by decide +kernel
theorem dX13_tells_96 : decode cX13_tells 96 = .ok (.istore 4, 2) := by decide +kernel
theorem dX13_tells_98 : decode cX13_tells 98 = .ok (.iload 4, 2) := by decide +kernel
theorem dX13_tells_100 : decode cX13_tells 100 = .ok (.bipush 12, 2) := by decide +kernel
theorem dX13_tells_102 : decode cX13_tells 102 = .ok (.if_icmp .ge 31, 3) := by decide +kernel
theorem dX13_tells_105 : decode cX13_tells 105 = .ok (.aload_n 0, 1) := by decide +kernel
theorem dX13_tells_106 : decode cX13_tells 106 = .ok (.getfield 173, 3) := by decide +kernel
theorem dX13_tells_109 : decode cX13_tells 109 = .ok (.bipush 49, 2) := by decide +kernel
theorem dX13_tells_111 : decode cX13_tells 111 = .ok (.iload 4, 2) := by decide +kernel
theorem dX13_tells_113 : decode cX13_tells 113 = .ok (.imul, 1) := by decide +kernel
theorem dX13_tells_114 : decode cX13_tells 114 = .ok (.aload_n 0, 1) := by decide +kernel
theorem dX13_tells_115 : decode cX13_tells 115 = .ok (.getfield 160, 3) := by decide +kernel
theorem dX13_tells_118 : decode cX13_tells 118 = .ok (.iload 4, 2) := by decide +kernel
theorem dX13_tells_120 : decode cX13_tells 120 = .ok (.iaload, 1) := by decide +kernel
theorem dX13_tells_121 : decode cX13_tells 121 = .ok (.iadd, 1) := by decide +kernel
theorem dX13_tells_122 : decode cX13_tells 122 = .ok (.dup2, 1) := by decide +kernel
theorem dX13_tells_123 : decode cX13_tells 123 = .ok (.iaload, 1) := by decide +kernel
theorem dX13_tells_124 : decode cX13_tells 124 = .ok (.iconst 1, 1) := by decide +kernel
theorem dX13_tells_125 : decode cX13_tells 125 = .ok (.iadd, 1) := by decide +kernel
theorem dX13_tells_126 : decode cX13_tells 126 = .ok (.iastore, 1) := by decide +kernel
theorem dX13_tells_127 : decode cX13_tells 127 = .ok (.iinc 4 1, 3) := by decide +kernel
theorem dX13_tells_130 : decode cX13_tells 130 = .ok (.goto (-32), 3) := by decide +kernel
theorem dX13_tells_133 : decode cX13_tells 133 = .ok (.iinc 3 1, 3) := by decide +kernel
theorem dX13_tells_136 : decode cX13_tells 136 = .ok (.goto (-91), 3) := by decide +kernel
theorem dX13_tells_139 : decode cX13_tells 139 = .ok (.iconst (-1), 1) := by decide +kernel
theorem dX13_tells_140 : decode cX13_tells 140 = .ok (.istore_n 3, 1) := by decide +kernel
theorem dX13_tells_141 : decode cX13_tells 141 = .ok (.iconst 0, 1) := by decide +kernel
theorem dX13_tells_142 : decode cX13_tells 142 = .ok (.istore 4, 2) := by decide +kernel
theorem dX13_tells_144 : decode cX13_tells 144 = .ok (.iconst 0, 1) := by decide +kernel
theorem dX13_tells_145 : decode cX13_tells 145 = .ok (.istore 5, 2) := by decide +kernel
theorem dX13_tells_147 : decode cX13_tells 147 = .ok (.iload 5, 2) := by decide +kernel
theorem dX13_tells_149 : decode cX13_tells 149 = .ok (.bipush 12, 2) := by decide +kernel
theorem dX13_tells_151 : decode cX13_tells 151 = .ok (.if_icmp .ge 87, 3) := by decide +kernel
theorem dX13_tells_154 : decode cX13_tells 154 = .ok (.iload_n 2, 1) := by decide +kernel
theorem dX13_tells_155 : decode cX13_tells 155 = .ok (.ifCond .le 83, 3) := by decide +kernel
theorem dX13_tells_158 : decode cX13_tells 158 = .ok (.iconst 0, 1) := by decide +kernel
theorem dX13_tells_159 : decode cX13_tells 159 = .ok (.istore 6, 2) := by decide +kernel
theorem dX13_tells_161 : decode cX13_tells 161 = .ok (.iconst 0, 1) := by decide +kernel
theorem dX13_tells_162 : decode cX13_tells 162 = .ok (.istore 7, 2) := by decide +kernel
theorem dX13_tells_164 : decode cX13_tells 164 = .ok (.iload 7, 2) := by decide +kernel
theorem dX13_tells_166 : decode cX13_tells 166 = .ok (.bipush 49, 2) := by decide +kernel
theorem dX13_tells_168 : decode cX13_tells 168 = .ok (.if_icmp .ge 42, 3) := by decide +kernel
theorem dX13_tells_171 : decode cX13_tells 171 = .ok (.aload_n 0, 1) := by decide +kernel
theorem dX13_tells_172 : decode cX13_tells 172 = .ok (.getfield 173, 3) := by decide +kernel
theorem dX13_tells_175 : decode cX13_tells 175 = .ok (.bipush 49, 2) := by decide +kernel
theorem dX13_tells_177 : decode cX13_tells 177 = .ok (.iload 5, 2) := by decide +kernel
theorem dX13_tells_179 : decode cX13_tells 179 = .ok (.imul, 1) := by decide +kernel
theorem dX13_tells_180 : decode cX13_tells 180 = .ok (.iload 7, 2) := by decide +kernel
theorem dX13_tells_182 : decode cX13_tells 182 = .ok (.iadd, 1) := by decide +kernel
theorem dX13_tells_183 : decode cX13_tells 183 = .ok (.iaload, 1) := by decide +kernel
theorem dX13_tells_184 : decode cX13_tells 184 = .ok (.iload 6, 2) := by decide +kernel
theorem dX13_tells_186 : decode cX13_tells 186 = .ok (.if_icmp .le 18, 3) := by decide +kernel
theorem dX13_tells_189 : decode cX13_tells 189 = .ok (.aload_n 0, 1) := by decide +kernel
theorem dX13_tells_190 : decode cX13_tells 190 = .ok (.getfield 173, 3) := by decide +kernel
theorem dX13_tells_193 : decode cX13_tells 193 = .ok (.bipush 49, 2) := by decide +kernel
theorem dX13_tells_195 : decode cX13_tells 195 = .ok (.iload 5, 2) := by decide +kernel
theorem dX13_tells_197 : decode cX13_tells 197 = .ok (.imul, 1) := by decide +kernel
theorem dX13_tells_198 : decode cX13_tells 198 = .ok (.iload 7, 2) := by decide +kernel
theorem dX13_tells_200 : decode cX13_tells 200 = .ok (.iadd, 1) := by decide +kernel
theorem dX13_tells_201 : decode cX13_tells 201 = .ok (.iaload, 1) := by decide +kernel
theorem dX13_tells_202 : decode cX13_tells 202 = .ok (.istore 6, 2) := by decide +kernel
theorem dX13_tells_204 : decode cX13_tells 204 = .ok (.iinc 7 1, 3) := by decide +kernel
theorem dX13_tells_207 : decode cX13_tells 207 = .ok (.goto (-43), 3) := by decide +kernel
theorem dX13_tells_210 : decode cX13_tells 210 = .ok (.iload_n 3, 1) := by decide +kernel
theorem dX13_tells_211 : decode cX13_tells 211 = .ok (.iconst (-1), 1) := by decide +kernel
theorem dX13_tells_212 : decode cX13_tells 212 = .ok (.if_icmp .eq 13, 3) := by decide +kernel
theorem dX13_tells_215 : decode cX13_tells 215 = .ok (.iload 6, 2) := by decide +kernel
theorem dX13_tells_217 : decode cX13_tells 217 = .ok (.iload 4, 2) := by decide +kernel
theorem dX13_tells_219 : decode cX13_tells 219 = .ok (.if_icmp .lt 6, 3) := by decide +kernel
theorem dX13_tells_222 : decode cX13_tells 222 = .ok (.goto 10, 3) := by decide +kernel
theorem dX13_tells_225 : decode cX13_tells 225 = .ok (.iload 5, 2) := by decide +kernel
theorem dX13_tells_227 : decode cX13_tells 227 = .ok (.istore_n 3, 1) := by decide +kernel
theorem dX13_tells_228 : decode cX13_tells 228 = .ok (.iload 6, 2) := by decide +kernel
theorem dX13_tells_230 : decode cX13_tells 230 = .ok (.istore 4, 2) := by decide +kernel
theorem dX13_tells_232 : decode cX13_tells 232 = .ok (.iinc 5 1, 3) := by decide +kernel
theorem dX13_tells_235 : decode cX13_tells 235 = .ok (.goto (-88), 3) := by decide +kernel
theorem dX13_tells_238 : decode cX13_tells 238 = .ok (.iload_n 3, 1) := by decide +kernel
theorem dX13_tells_239 : decode cX13_tells 239 = .ok (.iconst (-1), 1) := by decide +kernel
theorem dX13_tells_240 : decode cX13_tells 240 = .ok (.if_icmp .ne 7, 3) := by decide +kernel
theorem dX13_tells_243 : decode cX13_tells 243 = .ok (.iconst (-1), 1) := by decide +kernel
theorem dX13_tells_244 : decode cX13_tells 244 = .ok (.goto 13, 3) := by decide +kernel
theorem dX13_tells_247 : decode cX13_tells 247 = .ok (.iload_n 1, 1) := by decide +kernel
theorem dX13_tells_248 : decode cX13_tells 248 = .ok (.ifCond .ne 7, 3) := by decide +kernel
theorem dX13_tells_251 : decode cX13_tells 251 = .ok (.iload_n 3, 1) := by decide +kernel
theorem dX13_tells_252 : decode cX13_tells 252 = .ok (.goto 5, 3) := by decide +kernel
theorem dX13_tells_255 : decode cX13_tells 255 = .ok (.iload 4, 2) := by decide +kernel
theorem dX13_tells_257 : decode cX13_tells 257 = .ok (.ireturn, 1) := by decide +kernel
theorem dX13_keeps_0 : decode cX13_keeps 0 = .ok (.aload_n 0, 1) := by decide +kernel
theorem dX13_keeps_1 : decode cX13_keeps 1 = .ok (.aload_n 0, 1) := by decide +kernel
theorem dX13_keeps_2 : decode cX13_keeps 2 = .ok (.getfield 588, 3) := by decide +kernel
theorem dX13_keeps_5 : decode cX13_keeps 5 = .ok (.iconst 1, 1) := by decide +kernel
theorem dX13_keeps_6 : decode cX13_keeps 6 = .ok (.iadd, 1) := by decide +kernel
theorem dX13_keeps_7 : decode cX13_keeps 7 = .ok (.bipush 20, 2) := by decide +kernel
theorem dX13_keeps_9 : decode cX13_keeps 9 = .ok (.irem, 1) := by decide +kernel
theorem dX13_keeps_10 : decode cX13_keeps 10 = .ok (.putfield 588, 3) := by decide +kernel
theorem dX13_keeps_13 : decode cX13_keeps 13 = .ok (.iconst 0, 1) := by decide +kernel
theorem dX13_keeps_14 : decode cX13_keeps 14 = .ok (.istore_n 1, 1) := by decide +kernel
theorem dX13_keeps_15 : decode cX13_keeps 15 = .ok (.iload_n 1, 1) := by decide +kernel
theorem dX13_keeps_16 : decode cX13_keeps 16 = .ok (.sipush 187, 3) := by decide +kernel
theorem dX13_keeps_19 : decode cX13_keeps 19 = .ok (.if_icmp .ge 30, 3) := by decide +kernel
theorem dX13_keeps_22 : decode cX13_keeps 22 = .ok (.aload_n 0, 1) := by decide +kernel
theorem dX13_keeps_23 : decode cX13_keeps 23 = .ok (.getfield 176, 3) := by decide +kernel
theorem dX13_keeps_26 : decode cX13_keeps 26 = .ok (.sipush 187, 3) := by decide +kernel
theorem dX13_keeps_29 : decode cX13_keeps 29 = .ok (.aload_n 0, 1) := by decide +kernel
theorem dX13_keeps_30 : decode cX13_keeps 30 = .ok (.getfield 588, 3) := by decide +kernel
theorem dX13_keeps_33 : decode cX13_keeps 33 = .ok (.imul, 1) := by decide +kernel
theorem dX13_keeps_34 : decode cX13_keeps 34 = .ok (.iload_n 1, 1) := by decide +kernel
theorem dX13_keeps_35 : decode cX13_keeps 35 = .ok (.iadd, 1) := by decide +kernel
theorem dX13_keeps_36 : decode cX13_keeps 36 = .ok (.aload_n 0, 1) := by decide +kernel
theorem dX13_keeps_37 : decode cX13_keeps 37 = .ok (.getfield 151, 3) := by decide +kernel
theorem dX13_keeps_40 : decode cX13_keeps 40 = .ok (.iload_n 1, 1) := by decide +kernel
theorem dX13_keeps_41 : decode cX13_keeps 41 = .ok (.iaload, 1) := by decide +kernel
theorem dX13_keeps_42 : decode cX13_keeps 42 = .ok (.iastore, 1) := by decide +kernel
theorem dX13_keeps_43 : decode cX13_keeps 43 = .ok (.iinc 1 1, 3) := by decide +kernel
theorem dX13_keeps_46 : decode cX13_keeps 46 = .ok (.goto (-31), 3) := by decide +kernel
theorem dX13_keeps_49 : decode cX13_keeps 49 = .ok (.aload_n 0, 1) := by decide +kernel
theorem dX13_keeps_50 : decode cX13_keeps 50 = .ok (.getfield 407, 3) := by decide +kernel
theorem dX13_keeps_53 : decode cX13_keeps 53 = .ok (.bipush 20, 2) := by decide +kernel
theorem dX13_keeps_55 : decode cX13_keeps 55 = .ok (.if_icmp .ge 13, 3) := by decide +kernel
theorem dX13_keeps_58 : decode cX13_keeps 58 = .ok (.aload_n 0, 1) := by decide +kernel
theorem dX13_keeps_59 : decode cX13_keeps 59 = .ok (.dup, 1) := by decide +kernel
theorem dX13_keeps_60 : decode cX13_keeps 60 = .ok (.getfield 407, 3) := by decide +kernel
theorem dX13_keeps_63 : decode cX13_keeps 63 = .ok (.iconst 1, 1) := by decide +kernel
theorem dX13_keeps_64 : decode cX13_keeps 64 = .ok (.iadd, 1) := by decide +kernel
theorem dX13_keeps_65 : decode cX13_keeps 65 = .ok (.putfield 407, 3) := by decide +kernel
theorem dX13_keeps_68 : decode cX13_keeps 68 = .ok (.return_, 1) := by decide +kernel
theorem dX13_undo_0 : decode cX13_undo 0 = .ok (.aload_n 0, 1) := by decide +kernel
theorem dX13_undo_1 : decode cX13_undo 1 = .ok (.getfield 407, 3) := by decide +kernel
theorem dX13_undo_4 : decode cX13_undo 4 = .ok (.ifCond .ne 15, 3) := by decide +kernel
theorem dX13_undo_7 : decode cX13_undo 7 = .ok (.aload_n 0, 1) := by decide +kernel
theorem dX13_undo_8 : decode cX13_undo 8 = .ok (.getfield 17, 3) := by decide +kernel
theorem dX13_undo_11 : decode cX13_undo 11 = .ok (.iconst 4, 1) := by decide +kernel
theorem dX13_undo_12 : decode cX13_undo 12 = .ok (.dup2, 1) := by decide +kernel
theorem dX13_undo_13 : decode cX13_undo 13 = .ok (.iaload, 1) := by decide +kernel
theorem dX13_undo_14 : decode cX13_undo 14 = .ok (.iconst 1, 1) := by decide +kernel
theorem dX13_undo_15 : decode cX13_undo 15 = .ok (.iadd, 1) := by decide +kernel
theorem dX13_undo_16 : decode cX13_undo 16 = .ok (.iastore, 1) := by decide +kernel
theorem dX13_undo_17 : decode cX13_undo 17 = .ok (.iconst 0, 1) := by decide +kernel
theorem dX13_undo_18 : decode cX13_undo 18 = .ok (.ireturn, 1) := by decide +kernel
theorem dX13_undo_19 : decode cX13_undo 19 = .ok (.iconst 0, 1) := by decide +kernel
theorem dX13_undo_20 : decode cX13_undo 20 = .ok (.istore_n 1, 1) := by decide +kernel
theorem dX13_undo_21 : decode cX13_undo 21 = .ok (.iload_n 1, 1) := by decide +kernel
theorem dX13_undo_22 : decode cX13_undo 22 = .ok (.sipush 187, 3) := by decide +kernel
theorem dX13_undo_25 : decode cX13_undo 25 = .ok (.if_icmp .ge 30, 3) := by decide +kernel
theorem dX13_undo_28 : decode cX13_undo 28 = .ok (.aload_n 0, 1) := by decide +kernel
theorem dX13_undo_29 : decode cX13_undo 29 = .ok (.getfield 151, 3) := by decide +kernel
theorem dX13_undo_32 : decode cX13_undo 32 = .ok (.iload_n 1, 1) := by decide +kernel
theorem dX13_undo_33 : decode cX13_undo 33 = .ok (.aload_n 0, 1) := by decide +kernel
theorem dX13_undo_34 : decode cX13_undo 34 = .ok (.getfield 176, 3) := by decide +kernel
theorem dX13_undo_37 : decode cX13_undo 37 = .ok (.sipush 187, 3) := by decide +kernel
theorem dX13_undo_40 : decode cX13_undo 40 = .ok (.aload_n 0, 1) := by decide +kernel
theorem dX13_undo_41 : decode cX13_undo 41 = .ok (.getfield 588, 3) := by decide +kernel
theorem dX13_undo_44 : decode cX13_undo 44 = .ok (.imul, 1) := by decide +kernel
theorem dX13_undo_45 : decode cX13_undo 45 = .ok (.iload_n 1, 1) := by decide +kernel
theorem dX13_undo_46 : decode cX13_undo 46 = .ok (.iadd, 1) := by decide +kernel
theorem dX13_undo_47 : decode cX13_undo 47 = .ok (.iaload, 1) := by decide +kernel
theorem dX13_undo_48 : decode cX13_undo 48 = .ok (.iastore, 1) := by decide +kernel
theorem dX13_undo_49 : decode cX13_undo 49 = .ok (.iinc 1 1, 3) := by decide +kernel
theorem dX13_undo_52 : decode cX13_undo 52 = .ok (.goto (-31), 3) := by decide +kernel
theorem dX13_undo_55 : decode cX13_undo 55 = .ok (.aload_n 0, 1) := by decide +kernel
theorem dX13_undo_56 : decode cX13_undo 56 = .ok (.aload_n 0, 1) := by decide +kernel
theorem dX13_undo_57 : decode cX13_undo 57 = .ok (.getfield 588, 3) := by decide +kernel
theorem dX13_undo_60 : decode cX13_undo 60 = .ok (.bipush 20, 2) := by decide +kernel
theorem dX13_undo_62 : decode cX13_undo 62 = .ok (.iadd, 1) := by decide +kernel
theorem dX13_undo_63 : decode cX13_undo 63 = .ok (.iconst 1, 1) := by decide +kernel
theorem dX13_undo_64 : decode cX13_undo 64 = .ok (.isub, 1) := by decide +kernel
theorem dX13_undo_65 : decode cX13_undo 65 = .ok (.bipush 20, 2) := by decide +kernel
theorem dX13_undo_67 : decode cX13_undo 67 = .ok (.irem, 1) := by decide +kernel
theorem dX13_undo_68 : decode cX13_undo 68 = .ok (.putfield 588, 3) := by decide +kernel
theorem dX13_undo_71 : decode cX13_undo 71 = .ok (.aload_n 0, 1) := by decide +kernel
theorem dX13_undo_72 : decode cX13_undo 72 = .ok (.dup, 1) := by decide +kernel
theorem dX13_undo_73 : decode cX13_undo 73 = .ok (.getfield 407, 3) := by decide +kernel
theorem dX13_undo_76 : decode cX13_undo 76 = .ok (.iconst 1, 1) := by decide +kernel
theorem dX13_undo_77 : decode cX13_undo 77 = .ok (.isub, 1) := by decide +kernel
theorem dX13_undo_78 : decode cX13_undo 78 = .ok (.putfield 407, 3) := by decide +kernel
theorem dX13_undo_81 : decode cX13_undo 81 = .ok (.iconst 1, 1) := by decide +kernel
theorem dX13_undo_82 : decode cX13_undo 82 = .ok (.ireturn, 1) := by decide +kernel
theorem dX13_ring_0 : decode cX13_ring 0 = .ok (.aload_n 0, 1) := by decide +kernel
theorem dX13_ring_1 : decode cX13_ring 1 = .ok (.iload_n 1, 1) := by decide +kernel
theorem dX13_ring_2 : decode cX13_ring 2 = .ok (.invokevirtual 551, 3) := by decide +kernel
theorem dX13_ring_5 : decode cX13_ring 5 = .ok (.ifCond .eq 27, 3) := by decide +kernel
theorem dX13_ring_8 : decode cX13_ring 8 = .ok (.iload_n 2, 1) := by decide +kernel
theorem dX13_ring_9 : decode cX13_ring 9 = .ok (.i2l, 1) := by decide +kernel
theorem dX13_ring_10 : decode cX13_ring 10 = .ok (.lconst 0, 1) := by decide +kernel
theorem dX13_ring_11 : decode cX13_ring 11 = .ok (.lconst 1, 1) := by decide +kernel
theorem dX13_ring_12 : decode cX13_ring 12 = .ok (.invokestatic 307, 3) := by decide +kernel
theorem dX13_ring_15 : decode cX13_ring 15 = .ok (.ifCond .eq 17, 3) := by decide +kernel
theorem dX13_ring_18 : decode cX13_ring 18 = .ok (.aload_n 0, 1) := by decide +kernel
theorem dX13_ring_19 : decode cX13_ring 19 = .ok (.getfield 151, 3) := by decide +kernel
theorem dX13_ring_22 : decode cX13_ring 22 = .ok (.iconst 1, 1) := by decide +kernel
theorem dX13_ring_23 : decode cX13_ring 23 = .ok (.iaload, 1) := by decide +kernel
theorem dX13_ring_24 : decode cX13_ring 24 = .ok (.iload_n 1, 1) := by decide +kernel
theorem dX13_ring_25 : decode cX13_ring 25 = .ok (.ishr, 1) := by decide +kernel
theorem dX13_ring_26 : decode cX13_ring 26 = .ok (.iconst 1, 1) := by decide +kernel
theorem dX13_ring_27 : decode cX13_ring 27 = .ok (.iand, 1) := by decide +kernel
theorem dX13_ring_28 : decode cX13_ring 28 = .ok (.iload_n 2, 1) := by decide +kernel
theorem dX13_ring_29 : decode cX13_ring 29 = .ok (.if_icmp .ne 15, 3) := by decide +kernel
theorem dX13_ring_32 : decode cX13_ring 32 = .ok (.aload_n 0, 1) := by decide +kernel
theorem dX13_ring_33 : decode cX13_ring 33 = .ok (.getfield 17, 3) := by decide +kernel
theorem dX13_ring_36 : decode cX13_ring 36 = .ok (.iconst 2, 1) := by decide +kernel
theorem dX13_ring_37 : decode cX13_ring 37 = .ok (.dup2, 1) := by decide +kernel
theorem dX13_ring_38 : decode cX13_ring 38 = .ok (.iaload, 1) := by decide +kernel
theorem dX13_ring_39 : decode cX13_ring 39 = .ok (.iconst 1, 1) := by decide +kernel
theorem dX13_ring_40 : decode cX13_ring 40 = .ok (.iadd, 1) := by decide +kernel
theorem dX13_ring_41 : decode cX13_ring 41 = .ok (.iastore, 1) := by decide +kernel
theorem dX13_ring_42 : decode cX13_ring 42 = .ok (.iconst 0, 1) := by decide +kernel
theorem dX13_ring_43 : decode cX13_ring 43 = .ok (.ireturn, 1) := by decide +kernel
theorem dX13_ring_44 : decode cX13_ring 44 = .ok (.aload_n 0, 1) := by decide +kernel
theorem dX13_ring_45 : decode cX13_ring 45 = .ok (.invokevirtual 591, 3) := by decide +kernel
theorem dX13_ring_48 : decode cX13_ring 48 = .ok (.aload_n 0, 1) := by decide +kernel
theorem dX13_ring_49 : decode cX13_ring 49 = .ok (.getfield 151, 3) := by decide +kernel
theorem dX13_ring_52 : decode cX13_ring 52 = .ok (.iconst 1, 1) := by decide +kernel
theorem dX13_ring_53 : decode cX13_ring 53 = .ok (.dup2, 1) := by decide +kernel
theorem dX13_ring_54 : decode cX13_ring 54 = .ok (.iaload, 1) := by decide +kernel
theorem dX13_ring_55 : decode cX13_ring 55 = .ok (.iconst 1, 1) := by decide +kernel
theorem dX13_ring_56 : decode cX13_ring 56 = .ok (.iload_n 1, 1) := by decide +kernel
theorem dX13_ring_57 : decode cX13_ring 57 = .ok (.ishl, 1) := by decide +kernel
theorem dX13_ring_58 : decode cX13_ring 58 = .ok (.ixor, 1) := by decide +kernel
theorem dX13_ring_59 : decode cX13_ring 59 = .ok (.iastore, 1) := by decide +kernel
theorem dX13_ring_60 : decode cX13_ring 60 = .ok (.iconst 1, 1) := by decide +kernel
theorem dX13_ring_61 : decode cX13_ring 61 = .ok (.ireturn, 1) := by decide +kernel
theorem dX13_does_0 : decode cX13_does 0 = .ok (.aload_n 0, 1) := by decide +kernel
theorem dX13_does_1 : decode cX13_does 1 = .ok (.iload_n 1, 1) := by decide +kernel
theorem dX13_does_2 : decode cX13_does 2 = .ok (.invokevirtual 557, 3) := by decide +kernel
theorem dX13_does_5 : decode cX13_does 5 = .ok (.ifCond .eq 24, 3) := by decide +kernel
theorem dX13_does_8 : decode cX13_does 8 = .ok (.iload_n 2, 1) := by decide +kernel
theorem dX13_does_9 : decode cX13_does 9 = .ok (.i2l, 1) := by decide +kernel
theorem dX13_does_10 : decode cX13_does 10 = .ok (.lconst 0, 1) := by decide +kernel
theorem dX13_does_11 : decode cX13_does 11 = .ok (.ldc2_w 560, 3) := by decide +kernel
theorem dX13_does_14 : decode cX13_does 14 = .ok (.invokestatic 307, 3) := by decide +kernel
theorem dX13_does_17 : decode cX13_does 17 = .ok (.ifCond .eq 12, 3) := by decide +kernel
theorem dX13_does_20 : decode cX13_does 20 = .ok (.aload_n 0, 1) := by decide +kernel
theorem dX13_does_21 : decode cX13_does 21 = .ok (.iload_n 1, 1) := by decide +kernel
theorem dX13_does_22 : decode cX13_does 22 = .ok (.invokevirtual 486, 3) := by decide +kernel
theorem dX13_does_25 : decode cX13_does 25 = .ok (.iload_n 2, 1) := by decide +kernel
theorem dX13_does_26 : decode cX13_does 26 = .ok (.if_icmp .ne 15, 3) := by decide +kernel
theorem dX13_does_29 : decode cX13_does 29 = .ok (.aload_n 0, 1) := by decide +kernel
theorem dX13_does_30 : decode cX13_does 30 = .ok (.getfield 17, 3) := by decide +kernel
theorem dX13_does_33 : decode cX13_does 33 = .ok (.iconst 2, 1) := by decide +kernel
theorem dX13_does_34 : decode cX13_does 34 = .ok (.dup2, 1) := by decide +kernel
theorem dX13_does_35 : decode cX13_does 35 = .ok (.iaload, 1) := by decide +kernel
theorem dX13_does_36 : decode cX13_does 36 = .ok (.iconst 1, 1) := by decide +kernel
theorem dX13_does_37 : decode cX13_does 37 = .ok (.iadd, 1) := by decide +kernel
theorem dX13_does_38 : decode cX13_does 38 = .ok (.iastore, 1) := by decide +kernel
theorem dX13_does_39 : decode cX13_does 39 = .ok (.iconst 0, 1) := by decide +kernel
theorem dX13_does_40 : decode cX13_does 40 = .ok (.ireturn, 1) := by decide +kernel
theorem dX13_does_41 : decode cX13_does 41 = .ok (.aload_n 0, 1) := by decide +kernel
theorem dX13_does_42 : decode cX13_does 42 = .ok (.invokevirtual 591, 3) := by decide +kernel
theorem dX13_does_45 : decode cX13_does 45 = .ok (.aload_n 0, 1) := by decide +kernel
theorem dX13_does_46 : decode cX13_does 46 = .ok (.getfield 151, 3) := by decide +kernel
theorem dX13_does_49 : decode cX13_does 49 = .ok (.iconst 2, 1) := by decide +kernel
theorem dX13_does_50 : decode cX13_does 50 = .ok (.iconst 4, 1) := by decide +kernel
theorem dX13_does_51 : decode cX13_does 51 = .ok (.iload_n 1, 1) := by decide +kernel
theorem dX13_does_52 : decode cX13_does 52 = .ok (.imul, 1) := by decide +kernel
theorem dX13_does_53 : decode cX13_does 53 = .ok (.iadd, 1) := by decide +kernel
theorem dX13_does_54 : decode cX13_does 54 = .ok (.iload_n 2, 1) := by decide +kernel
theorem dX13_does_55 : decode cX13_does 55 = .ok (.iastore, 1) := by decide +kernel
theorem dX13_does_56 : decode cX13_does 56 = .ok (.iconst 1, 1) := by decide +kernel
theorem dX13_does_57 : decode cX13_does 57 = .ok (.ireturn, 1) := by decide +kernel
theorem dX13_refuses_0 : decode cX13_refuses 0 = .ok (.aload_n 0, 1) := by decide +kernel
theorem dX13_refuses_1 : decode cX13_refuses 1 = .ok (.getfield 17, 3) := by decide +kernel
theorem dX13_refuses_4 : decode cX13_refuses 4 = .ok (.iload_n 1, 1) := by decide +kernel
theorem dX13_refuses_5 : decode cX13_refuses 5 = .ok (.dup2, 1) := by decide +kernel
theorem dX13_refuses_6 : decode cX13_refuses 6 = .ok (.iaload, 1) := by decide +kernel
theorem dX13_refuses_7 : decode cX13_refuses 7 = .ok (.iconst 1, 1) := by decide +kernel
theorem dX13_refuses_8 : decode cX13_refuses 8 = .ok (.iadd, 1) := by decide +kernel
theorem dX13_refuses_9 : decode cX13_refuses 9 = .ok (.iastore, 1) := by decide +kernel
theorem dX13_refuses_10 : decode cX13_refuses 10 = .ok (.iconst (-1), 1) := by decide +kernel
theorem dX13_refuses_11 : decode cX13_refuses 11 = .ok (.ireturn, 1) := by decide +kernel
theorem dX13_nights_0 : decode cX13_nights 0 = .ok (.aload_n 0, 1) := by decide +kernel
theorem dX13_nights_1 : decode cX13_nights 1 = .ok (.iload_n 1, 1) := by decide +kernel
theorem dX13_nights_2 : decode cX13_nights 2 = .ok (.iconst 1, 1) := by decide +kernel
theorem dX13_nights_3 : decode cX13_nights 3 = .ok (.bipush 100, 2) := by decide +kernel
theorem dX13_nights_5 : decode cX13_nights 5 = .ok (.invokevirtual 573, 3) := by decide +kernel
theorem dX13_nights_8 : decode cX13_nights 8 = .ok (.ifCond .ne 9, 3) := by decide +kernel
theorem dX13_nights_11 : decode cX13_nights 11 = .ok (.aload_n 0, 1) := by decide +kernel
theorem dX13_nights_12 : decode cX13_nights 12 = .ok (.iconst 3, 1) := by decide +kernel
theorem dX13_nights_13 : decode cX13_nights 13 = .ok (.invokevirtual 594, 3) := by decide +kernel
theorem dX13_nights_16 : decode cX13_nights 16 = .ok (.ireturn, 1) := by decide +kernel
theorem dX13_nights_17 : decode cX13_nights 17 = .ok (.aload_n 0, 1) := by decide +kernel
theorem dX13_nights_18 : decode cX13_nights 18 = .ok (.invokevirtual 591, 3) := by decide +kernel
theorem dX13_nights_21 : decode cX13_nights 21 = .ok (.aload_n 0, 1) := by decide +kernel
theorem dX13_nights_22 : decode cX13_nights 22 = .ok (.iload_n 1, 1) := by decide +kernel
theorem dX13_nights_23 : decode cX13_nights 23 = .ok (.invokevirtual 579, 3) := by decide +kernel
theorem dX13_nights_26 : decode cX13_nights 26 = .ok (.aload_n 0, 1) := by decide +kernel
theorem dX13_nights_27 : decode cX13_nights 27 = .ok (.getfield 503, 3) := by decide +kernel
theorem dX13_nights_30 : decode cX13_nights 30 = .ok (.ireturn, 1) := by decide +kernel
theorem dX13_seed_0 : decode cX13_seed 0 = .ok (.iload_n 1, 1) := by decide +kernel
theorem dX13_seed_1 : decode cX13_seed 1 = .ok (.ifCond .ge 15, 3) := by decide +kernel
theorem dX13_seed_4 : decode cX13_seed 4 = .ok (.aload_n 0, 1) := by decide +kernel
theorem dX13_seed_5 : decode cX13_seed 5 = .ok (.getfield 17, 3) := by decide +kernel
theorem dX13_seed_8 : decode cX13_seed 8 = .ok (.iconst 5, 1) := by decide +kernel
theorem dX13_seed_9 : decode cX13_seed 9 = .ok (.dup2, 1) := by decide +kernel
theorem dX13_seed_10 : decode cX13_seed 10 = .ok (.iaload, 1) := by decide +kernel
theorem dX13_seed_11 : decode cX13_seed 11 = .ok (.iconst 1, 1) := by decide +kernel
theorem dX13_seed_12 : decode cX13_seed 12 = .ok (.iadd, 1) := by decide +kernel
theorem dX13_seed_13 : decode cX13_seed 13 = .ok (.iastore, 1) := by decide +kernel
theorem dX13_seed_14 : decode cX13_seed 14 = .ok (.iconst 0, 1) := by decide +kernel
theorem dX13_seed_15 : decode cX13_seed 15 = .ok (.ireturn, 1) := by decide +kernel
theorem dX13_seed_16 : decode cX13_seed 16 = .ok (.aload_n 0, 1) := by decide +kernel
theorem dX13_seed_17 : decode cX13_seed 17 = .ok (.iload_n 1, 1) := by decide +kernel
theorem dX13_seed_18 : decode cX13_seed 18 = .ok (.i2l, 1) := by decide +kernel
theorem dX13_seed_19 : decode cX13_seed 19 = .ok (.putfield 179, 3) := by decide +kernel
theorem dX13_seed_22 : decode cX13_seed 22 = .ok (.iconst 1, 1) := by decide +kernel
theorem dX13_seed_23 : decode cX13_seed 23 = .ok (.ireturn, 1) := by decide +kernel
theorem dX13_drawOf_0 : decode cX13_drawOf 0 = .ok (.aload_n 0, 1) := by decide +kernel
theorem dX13_drawOf_1 : decode cX13_drawOf 1 = .ok (.ldc2_w 597, 3) := by decide +kernel
theorem dX13_drawOf_4 : decode cX13_drawOf 4 = .ok (.aload_n 0, 1) := by decide +kernel
theorem dX13_drawOf_5 : decode cX13_drawOf 5 = .ok (.getfield 179, 3) := by decide +kernel
theorem dX13_drawOf_8 : decode cX13_drawOf 8 = .ok (.lmul, 1) := by decide +kernel
theorem dX13_drawOf_9 : decode cX13_drawOf 9 = .ok (.ldc2_w 599, 3) := by decide +kernel
theorem dX13_drawOf_12 : decode cX13_drawOf 12 = .ok (.ladd, 1) := by decide +kernel
theorem dX13_drawOf_13 : decode cX13_drawOf 13 = .ok (.ldc2_w 601, 3) := by decide +kernel
theorem dX13_drawOf_16 : decode cX13_drawOf 16 = .ok (.lrem, 1) := by decide +kernel
theorem dX13_drawOf_17 : decode cX13_drawOf 17 = .ok (.putfield 179, 3) := by decide +kernel
theorem dX13_drawOf_20 : decode cX13_drawOf 20 = .ok (.aload_n 0, 1) := by decide +kernel
theorem dX13_drawOf_21 : decode cX13_drawOf 21 = .ok (.getfield 179, 3) := by decide +kernel
theorem dX13_drawOf_24 : decode cX13_drawOf 24 = .ok (.ldc2_w 603, 3) := by decide +kernel
theorem dX13_drawOf_27 : decode cX13_drawOf 27 = .ok (.ldiv, 1) := by decide +kernel
theorem dX13_drawOf_28 : decode cX13_drawOf 28 = .ok (.iload_n 1, 1) := by decide +kernel
theorem dX13_drawOf_29 : decode cX13_drawOf 29 = .ok (.i2l, 1) := by decide +kernel
theorem dX13_drawOf_30 : decode cX13_drawOf 30 = .ok (.lrem, 1) := by decide +kernel
theorem dX13_drawOf_31 : decode cX13_drawOf 31 = .ok (.l2i, 1) := by decide +kernel
theorem dX13_drawOf_32 : decode cX13_drawOf 32 = .ok (.ireturn, 1) := by decide +kernel
theorem dX13_chance_0 : decode cX13_chance 0 = .ok (.aload_n 0, 1) := by decide +kernel
theorem dX13_chance_1 : decode cX13_chance 1 = .ok (.iload_n 1, 1) := by decide +kernel
theorem dX13_chance_2 : decode cX13_chance 2 = .ok (.iconst 1, 1) := by decide +kernel
theorem dX13_chance_3 : decode cX13_chance 3 = .ok (.bipush 100, 2) := by decide +kernel
theorem dX13_chance_5 : decode cX13_chance 5 = .ok (.invokevirtual 573, 3) := by decide +kernel
theorem dX13_chance_8 : decode cX13_chance 8 = .ok (.ifCond .ne 9, 3) := by decide +kernel
theorem dX13_chance_11 : decode cX13_chance 11 = .ok (.aload_n 0, 1) := by decide +kernel
theorem dX13_chance_12 : decode cX13_chance 12 = .ok (.iconst 3, 1) := by decide +kernel
theorem dX13_chance_13 : decode cX13_chance 13 = .ok (.invokevirtual 594, 3) := by decide +kernel
theorem dX13_chance_16 : decode cX13_chance 16 = .ok (.ireturn, 1) := by decide +kernel
theorem dX13_chance_17 : decode cX13_chance 17 = .ok (.aload_n 0, 1) := by decide +kernel
theorem dX13_chance_18 : decode cX13_chance 18 = .ok (.invokevirtual 591, 3) := by decide +kernel
theorem dX13_chance_21 : decode cX13_chance 21 = .ok (.iconst 0, 1) := by decide +kernel
theorem dX13_chance_22 : decode cX13_chance 22 = .ok (.istore_n 2, 1) := by decide +kernel
theorem dX13_chance_23 : decode cX13_chance 23 = .ok (.iconst 0, 1) := by decide +kernel
theorem dX13_chance_24 : decode cX13_chance 24 = .ok (.istore_n 3, 1) := by decide +kernel
theorem dX13_chance_25 : decode cX13_chance 25 = .ok (.iload_n 3, 1) := by decide +kernel
theorem dX13_chance_26 : decode cX13_chance 26 = .ok (.iload_n 1, 1) := by decide +kernel
theorem dX13_chance_27 : decode cX13_chance 27 = .ok (.if_icmp .ge 45, 3) := by decide +kernel
theorem dX13_chance_30 : decode cX13_chance 30 = .ok (.aload_n 0, 1) := by decide +kernel
theorem dX13_chance_31 : decode cX13_chance 31 = .ok (.bipush 100, 2) := by decide +kernel
theorem dX13_chance_33 : decode cX13_chance 33 = .ok (.invokevirtual 605, 3) := by decide +kernel
theorem dX13_chance_36 : decode cX13_chance 36 = .ok (.aload_n 0, 1) := by decide +kernel
theorem dX13_chance_37 : decode cX13_chance 37 = .ok (.getfield 139, 3) := by decide +kernel
theorem dX13_chance_40 : decode cX13_chance 40 = .ok (.iconst 5, 1) := by decide +kernel
theorem dX13_chance_41 : decode cX13_chance 41 = .ok (.iaload, 1) := by decide +kernel
theorem dX13_chance_42 : decode cX13_chance 42 = .ok (.if_icmp .ge 7, 3) := by decide +kernel
theorem dX13_chance_45 : decode cX13_chance 45 = .ok (.iconst 1, 1) := by decide +kernel
theorem dX13_chance_46 : decode cX13_chance 46 = .ok (.goto 4, 3) := by decide +kernel
theorem dX13_chance_49 : decode cX13_chance 49 = .ok (.iconst 0, 1) := by decide +kernel
theorem dX13_chance_50 : decode cX13_chance 50 = .ok (.istore 4, 2) := by decide +kernel
theorem dX13_chance_52 : decode cX13_chance 52 = .ok (.iload 4, 2) := by decide +kernel
theorem dX13_chance_54 : decode cX13_chance 54 = .ok (.ifCond .eq 6, 3) := by decide +kernel
theorem dX13_chance_57 : decode cX13_chance 57 = .ok (.iinc 2 1, 3) := by decide +kernel
theorem dX13_chance_60 : decode cX13_chance 60 = .ok (.aload_n 0, 1) := by decide +kernel
theorem dX13_chance_61 : decode cX13_chance 61 = .ok (.iload 4, 2) := by decide +kernel
theorem dX13_chance_63 : decode cX13_chance 63 = .ok (.invokevirtual 525, 3) := by decide +kernel
theorem dX13_chance_66 : decode cX13_chance 66 = .ok (.iinc 3 1, 3) := by decide +kernel
theorem dX13_chance_69 : decode cX13_chance 69 = .ok (.goto (-44), 3) := by decide +kernel
theorem dX13_chance_72 : decode cX13_chance 72 = .ok (.iload_n 2, 1) := by decide +kernel
theorem dX13_chance_73 : decode cX13_chance 73 = .ok (.ireturn, 1) := by decide +kernel
theorem dX13_qCode_0 : decode cX13_qCode 0 = .ok (.aload_n 0, 1) := by decide +kernel
theorem dX13_qCode_1 : decode cX13_qCode 1 = .ok (.getfield 249, 3) := by decide +kernel
theorem dX13_qCode_4 : decode cX13_qCode 4 = .ok (.aload_n 0, 1) := by decide +kernel
theorem dX13_qCode_5 : decode cX13_qCode 5 = .ok (.getfield 355, 3) := by decide +kernel
theorem dX13_qCode_8 : decode cX13_qCode 8 = .ok (.iload_n 1, 1) := by decide +kernel
theorem dX13_qCode_9 : decode cX13_qCode 9 = .ok (.iastore, 1) := by decide +kernel
theorem dX13_qCode_10 : decode cX13_qCode 10 = .ok (.aload_n 0, 1) := by decide +kernel
theorem dX13_qCode_11 : decode cX13_qCode 11 = .ok (.dup, 1) := by decide +kernel
theorem dX13_qCode_12 : decode cX13_qCode 12 = .ok (.getfield 355, 3) := by decide +kernel
theorem dX13_qCode_15 : decode cX13_qCode 15 = .ok (.iconst 1, 1) := by decide +kernel
theorem dX13_qCode_16 : decode cX13_qCode 16 = .ok (.iadd, 1) := by decide +kernel
theorem dX13_qCode_17 : decode cX13_qCode 17 = .ok (.putfield 355, 3) := by decide +kernel
theorem dX13_qCode_20 : decode cX13_qCode 20 = .ok (.return_, 1) := by decide +kernel
theorem dX13_qOpens_0 : decode cX13_qOpens 0 = .ok (.aload_n 0, 1) := by decide +kernel
theorem dX13_qOpens_1 : decode cX13_qOpens 1 = .ok (.getfield 264, 3) := by decide +kernel
theorem dX13_qOpens_4 : decode cX13_qOpens 4 = .ok (.ifCond .eq 4, 3) := by decide +kernel
theorem dX13_qOpens_7 : decode cX13_qOpens 7 = .ok (.return_, 1) := by decide +kernel
theorem dX13_qOpens_8 : decode cX13_qOpens 8 = .ok (.aload_n 0, 1) := by decide +kernel
theorem dX13_qOpens_9 : decode cX13_qOpens 9 = .ok (.getfield 361, 3) := by decide +kernel
theorem dX13_qOpens_12 : decode cX13_qOpens 12 = .ok (.bipush 6, 2) := by decide +kernel
theorem dX13_qOpens_14 : decode cX13_qOpens 14 = .ok (.if_icmp .ne 10, 3) := by decide +kernel
theorem dX13_qOpens_17 : decode cX13_qOpens 17 = .ok (.aload_n 0, 1) := by decide +kernel
theorem dX13_qOpens_18 : decode cX13_qOpens 18 = .ok (.iconst 4, 1) := by decide +kernel
theorem dX13_qOpens_19 : decode cX13_qOpens 19 = .ok (.iload_n 2, 1) := by decide +kernel
theorem dX13_qOpens_20 : decode cX13_qOpens 20 = .ok (.invokevirtual 294, 3) := by decide +kernel
theorem dX13_qOpens_23 : decode cX13_qOpens 23 = .ok (.return_, 1) := by decide +kernel
theorem dX13_qOpens_24 : decode cX13_qOpens 24 = .ok (.aload_n 0, 1) := by decide +kernel
theorem dX13_qOpens_25 : decode cX13_qOpens 25 = .ok (.dup, 1) := by decide +kernel
theorem dX13_qOpens_26 : decode cX13_qOpens 26 = .ok (.getfield 361, 3) := by decide +kernel
theorem dX13_qOpens_29 : decode cX13_qOpens 29 = .ok (.iconst 1, 1) := by decide +kernel
theorem dX13_qOpens_30 : decode cX13_qOpens 30 = .ok (.iadd, 1) := by decide +kernel
theorem dX13_qOpens_31 : decode cX13_qOpens 31 = .ok (.putfield 361, 3) := by decide +kernel
theorem dX13_qOpens_34 : decode cX13_qOpens 34 = .ok (.aload_n 0, 1) := by decide +kernel
theorem dX13_qOpens_35 : decode cX13_qOpens 35 = .ok (.getfield 252, 3) := by decide +kernel
theorem dX13_qOpens_38 : decode cX13_qOpens 38 = .ok (.aload_n 0, 1) := by decide +kernel
theorem dX13_qOpens_39 : decode cX13_qOpens 39 = .ok (.getfield 358, 3) := by decide +kernel
theorem dX13_qOpens_42 : decode cX13_qOpens 42 = .ok (.iload_n 1, 1) := by decide +kernel
theorem dX13_qOpens_43 : decode cX13_qOpens 43 = .ok (.iastore, 1) := by decide +kernel
theorem dX13_qOpens_44 : decode cX13_qOpens 44 = .ok (.aload_n 0, 1) := by decide +kernel
theorem dX13_qOpens_45 : decode cX13_qOpens 45 = .ok (.dup, 1) := by decide +kernel
theorem dX13_qOpens_46 : decode cX13_qOpens 46 = .ok (.getfield 358, 3) := by decide +kernel
theorem dX13_qOpens_49 : decode cX13_qOpens 49 = .ok (.iconst 1, 1) := by decide +kernel
theorem dX13_qOpens_50 : decode cX13_qOpens 50 = .ok (.iadd, 1) := by decide +kernel
theorem dX13_qOpens_51 : decode cX13_qOpens 51 = .ok (.putfield 358, 3) := by decide +kernel
theorem dX13_qOpens_54 : decode cX13_qOpens 54 = .ok (.return_, 1) := by decide +kernel
theorem dX13_qIsOn_0 : decode cX13_qIsOn 0 = .ok (.aload_n 0, 1) := by decide +kernel
theorem dX13_qIsOn_1 : decode cX13_qIsOn 1 = .ok (.getfield 358, 3) := by decide +kernel
theorem dX13_qIsOn_4 : decode cX13_qIsOn 4 = .ok (.ifCond .le 22, 3) := by decide +kernel
theorem dX13_qIsOn_7 : decode cX13_qIsOn 7 = .ok (.aload_n 0, 1) := by decide +kernel
theorem dX13_qIsOn_8 : decode cX13_qIsOn 8 = .ok (.getfield 252, 3) := by decide +kernel
theorem dX13_qIsOn_11 : decode cX13_qIsOn 11 = .ok (.aload_n 0, 1) := by decide +kernel
theorem dX13_qIsOn_12 : decode cX13_qIsOn 12 = .ok (.getfield 358, 3) := by decide +kernel
theorem dX13_qIsOn_15 : decode cX13_qIsOn 15 = .ok (.iconst 1, 1) := by decide +kernel
theorem dX13_qIsOn_16 : decode cX13_qIsOn 16 = .ok (.isub, 1) := by decide +kernel
theorem dX13_qIsOn_17 : decode cX13_qIsOn 17 = .ok (.iaload, 1) := by decide +kernel
theorem dX13_qIsOn_18 : decode cX13_qIsOn 18 = .ok (.iload_n 1, 1) := by decide +kernel
theorem dX13_qIsOn_19 : decode cX13_qIsOn 19 = .ok (.if_icmp .ne 7, 3) := by decide +kernel
theorem dX13_qIsOn_22 : decode cX13_qIsOn 22 = .ok (.iconst 1, 1) := by decide +kernel
theorem dX13_qIsOn_23 : decode cX13_qIsOn 23 = .ok (.goto 4, 3) := by decide +kernel
theorem dX13_qIsOn_26 : decode cX13_qIsOn 26 = .ok (.iconst 0, 1) := by decide +kernel
theorem dX13_qIsOn_27 : decode cX13_qIsOn 27 = .ok (.ireturn, 1) := by decide +kernel
theorem dX13_qDrops_0 : decode cX13_qDrops 0 = .ok (.aload_n 0, 1) := by decide +kernel
theorem dX13_qDrops_1 : decode cX13_qDrops 1 = .ok (.dup, 1) := by decide +kernel
theorem dX13_qDrops_2 : decode cX13_qDrops 2 = .ok (.getfield 358, 3) := by decide +kernel
theorem dX13_qDrops_5 : decode cX13_qDrops 5 = .ok (.iconst 1, 1) := by decide +kernel
theorem dX13_qDrops_6 : decode cX13_qDrops 6 = .ok (.isub, 1) := by decide +kernel
theorem dX13_qDrops_7 : decode cX13_qDrops 7 = .ok (.putfield 358, 3) := by decide +kernel
theorem dX13_qDrops_10 : decode cX13_qDrops 10 = .ok (.aload_n 0, 1) := by decide +kernel
theorem dX13_qDrops_11 : decode cX13_qDrops 11 = .ok (.aload_n 0, 1) := by decide +kernel
theorem dX13_qDrops_12 : decode cX13_qDrops 12 = .ok (.getfield 252, 3) := by decide +kernel
theorem dX13_qDrops_15 : decode cX13_qDrops 15 = .ok (.aload_n 0, 1) := by decide +kernel
theorem dX13_qDrops_16 : decode cX13_qDrops 16 = .ok (.getfield 358, 3) := by decide +kernel
theorem dX13_qDrops_19 : decode cX13_qDrops 19 = .ok (.iaload, 1) := by decide +kernel
theorem dX13_qDrops_20 : decode cX13_qDrops 20 = .ok (.invokevirtual 608, 3) := by decide +kernel
theorem dX13_qDrops_23 : decode cX13_qDrops 23 = .ok (.return_, 1) := by decide +kernel
theorem dX13_qIsBracket_0 : decode cX13_qIsBracket 0 = .ok (.iload_n 0, 1) := by decide +kernel
theorem dX13_qIsBracket_1 : decode cX13_qIsBracket 1 = .ok (.bipush 20, 2) := by decide +kernel
theorem dX13_qIsBracket_3 : decode cX13_qIsBracket 3 = .ok (.if_icmp .lt 13, 3) := by decide +kernel
theorem dX13_qIsBracket_6 : decode cX13_qIsBracket 6 = .ok (.iload_n 0, 1) := by decide +kernel
theorem dX13_qIsBracket_7 : decode cX13_qIsBracket 7 = .ok (.bipush 24, 2) := by decide +kernel
theorem dX13_qIsBracket_9 : decode cX13_qIsBracket 9 = .ok (.if_icmp .gt 7, 3) := by decide +kernel
theorem dX13_qIsBracket_12 : decode cX13_qIsBracket 12 = .ok (.iconst 1, 1) := by decide +kernel
theorem dX13_qIsBracket_13 : decode cX13_qIsBracket 13 = .ok (.goto 4, 3) := by decide +kernel
theorem dX13_qIsBracket_16 : decode cX13_qIsBracket 16 = .ok (.iconst 0, 1) := by decide +kernel
theorem dX13_qIsBracket_17 : decode cX13_qIsBracket 17 = .ok (.ireturn, 1) := by decide +kernel
theorem dX13_qBracket_0 : decode cX13_qBracket 0 = .ok (.aload_n 0, 1) := by decide +kernel
theorem dX13_qBracket_1 : decode cX13_qBracket 1 = .ok (.getfield 358, 3) := by decide +kernel
theorem dX13_qBracket_4 : decode cX13_qBracket 4 = .ok (.iconst 1, 1) := by decide +kernel
theorem dX13_qBracket_5 : decode cX13_qBracket 5 = .ok (.isub, 1) := by decide +kernel
theorem dX13_qBracket_6 : decode cX13_qBracket 6 = .ok (.istore_n 1, 1) := by decide +kernel
theorem dX13_qBracket_7 : decode cX13_qBracket 7 = .ok (.iload_n 1, 1) := by decide +kernel
theorem dX13_qBracket_8 : decode cX13_qBracket 8 = .ok (.aload_n 0, 1) := by decide +kernel
theorem dX13_qBracket_9 : decode cX13_qBracket 9 = .ok (.getfield 364, 3) := by decide +kernel
theorem dX13_qBracket_12 : decode cX13_qBracket 12 = .ok (.if_icmp .lt 21, 3) := by decide +kernel
theorem dX13_qBracket_15 : decode cX13_qBracket 15 = .ok (.aload_n 0, 1) := by decide +kernel
theorem dX13_qBracket_16 : decode cX13_qBracket 16 = .ok (.getfield 252, 3) := by decide +kernel
theorem dX13_qBracket_19 : decode cX13_qBracket 19 = .ok (.iload_n 1, 1) := by decide +kernel
theorem dX13_qBracket_20 : decode cX13_qBracket 20 = .ok (.iaload, 1) := by decide +kernel
theorem dX13_qBracket_21 : decode cX13_qBracket 21 = .ok (.invokestatic 611, 3) := by decide +kernel
theorem dX13_qBracket_24 : decode cX13_qBracket 24 = .ok (.ifCond .ne 9, 3) := by decide +kernel
theorem dX13_qBracket_27 : decode cX13_qBracket 27 = .ok (.iinc 1 (-1), 3) := by decide +kernel
theorem dX13_qBracket_30 : decode cX13_qBracket 30 = .ok (.goto (-23), 3) := by decide +kernel
theorem dX13_qBracket_33 : decode cX13_qBracket 33 = .ok (.iload_n 1, 1) := by decide +kernel
theorem dX13_qBracket_34 : decode cX13_qBracket 34 = .ok (.aload_n 0, 1) := by decide +kernel
theorem dX13_qBracket_35 : decode cX13_qBracket 35 = .ok (.getfield 364, 3) := by decide +kernel
theorem dX13_qBracket_38 : decode cX13_qBracket 38 = .ok (.if_icmp .lt 12, 3) := by decide +kernel
theorem dX13_qBracket_41 : decode cX13_qBracket 41 = .ok (.aload_n 0, 1) := by decide +kernel
theorem dX13_qBracket_42 : decode cX13_qBracket 42 = .ok (.getfield 252, 3) := by decide +kernel
theorem dX13_qBracket_45 : decode cX13_qBracket 45 = .ok (.iload_n 1, 1) := by decide +kernel
theorem dX13_qBracket_46 : decode cX13_qBracket 46 = .ok (.iaload, 1) := by decide +kernel
theorem dX13_qBracket_47 : decode cX13_qBracket 47 = .ok (.goto 4, 3) := by decide +kernel
theorem dX13_qBracket_50 : decode cX13_qBracket 50 = .ok (.iconst (-1), 1) := by decide +kernel
theorem dX13_qBracket_51 : decode cX13_qBracket 51 = .ok (.ireturn, 1) := by decide +kernel
theorem dX13_qDropsToBracket_0 : decode cX13_qDropsToBracket 0 = .ok (.aload_n 0, 1) := by decide +kernel
theorem dX13_qDropsToBracket_1 : decode cX13_qDropsToBracket 1 = .ok (.getfield 358, 3) := by decide +kernel
theorem dX13_qDropsToBracket_4 : decode cX13_qDropsToBracket 4 = .ok (.aload_n 0, 1) := by decide +kernel
theorem dX13_qDropsToBracket_5 : decode cX13_qDropsToBracket 5 = .ok (.getfield 364, 3) := by decide +kernel
theorem dX13_qDropsToBracket_8 : decode cX13_qDropsToBracket 8 = .ok (.if_icmp .le 27, 3) := by decide +kernel
theorem dX13_qDropsToBracket_11 : decode cX13_qDropsToBracket 11 = .ok (.aload_n 0, 1) := by decide +kernel
theorem dX13_qDropsToBracket_12 : decode cX13_qDropsToBracket 12 = .ok (.getfield 252, 3) := by decide +kernel
theorem dX13_qDropsToBracket_15 : decode cX13_qDropsToBracket 15 = .ok (.aload_n 0, 1) := by decide +kernel
theorem dX13_qDropsToBracket_16 : decode cX13_qDropsToBracket 16 = .ok (.getfield 358, 3) := by decide +kernel
theorem dX13_qDropsToBracket_19 : decode cX13_qDropsToBracket 19 = .ok (.iconst 1, 1) := by decide +kernel
theorem dX13_qDropsToBracket_20 : decode cX13_qDropsToBracket 20 = .ok (.isub, 1) := by decide +kernel
theorem dX13_qDropsToBracket_21 : decode cX13_qDropsToBracket 21 = .ok (.iaload, 1) := by decide +kernel
theorem dX13_qDropsToBracket_22 : decode cX13_qDropsToBracket 22 = .ok (.invokestatic 611, 3) := by decide +kernel
theorem dX13_qDropsToBracket_25 : decode cX13_qDropsToBracket 25 = .ok (.ifCond .ne 10, 3) := by decide +kernel
theorem dX13_qDropsToBracket_28 : decode cX13_qDropsToBracket 28 = .ok (.aload_n 0, 1) := by decide +kernel
theorem dX13_qDropsToBracket_29 : decode cX13_qDropsToBracket 29 = .ok (.invokevirtual 614, 3) := by decide +kernel
theorem dX13_qDropsToBracket_32 : decode cX13_qDropsToBracket 32 = .ok (.goto (-32), 3) := by decide +kernel
theorem dX13_qDropsToBracket_35 : decode cX13_qDropsToBracket 35 = .ok (.return_, 1) := by decide +kernel
theorem dX13_qWordHere_0 : decode cX13_qWordHere 0 = .ok (.aload_n 0, 1) := by decide +kernel
theorem dX13_qWordHere_1 : decode cX13_qWordHere 1 = .ok (.aload_n 0, 1) := by decide +kernel
theorem dX13_qWordHere_2 : decode cX13_qWordHere 2 = .ok (.getfield 219, 3) := by decide +kernel
theorem dX13_qWordHere_5 : decode cX13_qWordHere 5 = .ok (.invokevirtual 287, 3) := by decide +kernel
theorem dX13_qWordHere_8 : decode cX13_qWordHere 8 = .ok (.ifCond .eq 5, 3) := by decide +kernel
theorem dX13_qWordHere_11 : decode cX13_qWordHere 11 = .ok (.iconst 0, 1) := by decide +kernel
theorem dX13_qWordHere_12 : decode cX13_qWordHere 12 = .ok (.ireturn, 1) := by decide +kernel
theorem dX13_qWordHere_13 : decode cX13_qWordHere 13 = .ok (.aload_n 0, 1) := by decide +kernel
theorem dX13_qWordHere_14 : decode cX13_qWordHere 14 = .ok (.aload_n 0, 1) := by decide +kernel
theorem dX13_qWordHere_15 : decode cX13_qWordHere 15 = .ok (.getfield 222, 3) := by decide +kernel
theorem dX13_qWordHere_18 : decode cX13_qWordHere 18 = .ok (.invokevirtual 287, 3) := by decide +kernel
theorem dX13_qWordHere_21 : decode cX13_qWordHere 21 = .ok (.ifCond .eq 5, 3) := by decide +kernel
theorem dX13_qWordHere_24 : decode cX13_qWordHere 24 = .ok (.iconst 1, 1) := by decide +kernel
theorem dX13_qWordHere_25 : decode cX13_qWordHere 25 = .ok (.ireturn, 1) := by decide +kernel
theorem dX13_qWordHere_26 : decode cX13_qWordHere 26 = .ok (.aload_n 0, 1) := by decide +kernel
theorem dX13_qWordHere_27 : decode cX13_qWordHere 27 = .ok (.aload_n 0, 1) := by decide +kernel
theorem dX13_qWordHere_28 : decode cX13_qWordHere 28 = .ok (.getfield 225, 3) := by decide +kernel
theorem dX13_qWordHere_31 : decode cX13_qWordHere 31 = .ok (.invokevirtual 287, 3) := by decide +kernel
theorem dX13_qWordHere_34 : decode cX13_qWordHere 34 = .ok (.ifCond .eq 5, 3) := by decide +kernel
theorem dX13_qWordHere_37 : decode cX13_qWordHere 37 = .ok (.iconst 2, 1) := by decide +kernel
theorem dX13_qWordHere_38 : decode cX13_qWordHere 38 = .ok (.ireturn, 1) := by decide +kernel
theorem dX13_qWordHere_39 : decode cX13_qWordHere 39 = .ok (.aload_n 0, 1) := by decide +kernel
theorem dX13_qWordHere_40 : decode cX13_qWordHere 40 = .ok (.aload_n 0, 1) := by decide +kernel
theorem dX13_qWordHere_41 : decode cX13_qWordHere 41 = .ok (.getfield 228, 3) := by decide +kernel
theorem dX13_qWordHere_44 : decode cX13_qWordHere 44 = .ok (.invokevirtual 287, 3) := by decide +kernel
theorem dX13_qWordHere_47 : decode cX13_qWordHere 47 = .ok (.ifCond .eq 5, 3) := by decide +kernel
theorem dX13_qWordHere_50 : decode cX13_qWordHere 50 = .ok (.iconst 3, 1) := by decide +kernel
theorem dX13_qWordHere_51 : decode cX13_qWordHere 51 = .ok (.ireturn, 1) := by decide +kernel
theorem dX13_qWordHere_52 : decode cX13_qWordHere 52 = .ok (.aload_n 0, 1) := by decide +kernel
theorem dX13_qWordHere_53 : decode cX13_qWordHere 53 = .ok (.aload_n 0, 1) := by decide +kernel
theorem dX13_qWordHere_54 : decode cX13_qWordHere 54 = .ok (.getfield 231, 3) := by decide +kernel
theorem dX13_qWordHere_57 : decode cX13_qWordHere 57 = .ok (.invokevirtual 287, 3) := by decide +kernel
theorem dX13_qWordHere_60 : decode cX13_qWordHere 60 = .ok (.ifCond .eq 5, 3) := by decide +kernel
theorem dX13_qWordHere_63 : decode cX13_qWordHere 63 = .ok (.iconst 4, 1) := by decide +kernel
theorem dX13_qWordHere_64 : decode cX13_qWordHere 64 = .ok (.ireturn, 1) := by decide +kernel
theorem dX13_qWordHere_65 : decode cX13_qWordHere 65 = .ok (.aload_n 0, 1) := by decide +kernel
theorem dX13_qWordHere_66 : decode cX13_qWordHere 66 = .ok (.aload_n 0, 1) := by decide +kernel
theorem dX13_qWordHere_67 : decode cX13_qWordHere 67 = .ok (.getfield 234, 3) := by decide +kernel
theorem dX13_qWordHere_70 : decode cX13_qWordHere 70 = .ok (.invokevirtual 287, 3) := by decide +kernel
theorem dX13_qWordHere_73 : decode cX13_qWordHere 73 = .ok (.ifCond .eq 5, 3) := by decide +kernel
theorem dX13_qWordHere_76 : decode cX13_qWordHere 76 = .ok (.iconst 5, 1) := by decide +kernel
theorem dX13_qWordHere_77 : decode cX13_qWordHere 77 = .ok (.ireturn, 1) := by decide +kernel
theorem dX13_qWordHere_78 : decode cX13_qWordHere 78 = .ok (.aload_n 0, 1) := by decide +kernel
theorem dX13_qWordHere_79 : decode cX13_qWordHere 79 = .ok (.aload_n 0, 1) := by decide +kernel
theorem dX13_qWordHere_80 : decode cX13_qWordHere 80 = .ok (.getfield 237, 3) := by decide +kernel
theorem dX13_qWordHere_83 : decode cX13_qWordHere 83 = .ok (.invokevirtual 287, 3) := by decide +kernel
theorem dX13_qWordHere_86 : decode cX13_qWordHere 86 = .ok (.ifCond .eq 6, 3) := by decide +kernel
theorem dX13_qWordHere_89 : decode cX13_qWordHere 89 = .ok (.bipush 6, 2) := by decide +kernel
theorem dX13_qWordHere_91 : decode cX13_qWordHere 91 = .ok (.ireturn, 1) := by decide +kernel
theorem dX13_qWordHere_92 : decode cX13_qWordHere 92 = .ok (.aload_n 0, 1) := by decide +kernel
theorem dX13_qWordHere_93 : decode cX13_qWordHere 93 = .ok (.aload_n 0, 1) := by decide +kernel
theorem dX13_qWordHere_94 : decode cX13_qWordHere 94 = .ok (.getfield 240, 3) := by decide +kernel
theorem dX13_qWordHere_97 : decode cX13_qWordHere 97 = .ok (.invokevirtual 287, 3) := by decide +kernel
theorem dX13_qWordHere_100 : decode cX13_qWordHere 100 = .ok (.ifCond .eq 6, 3) := by decide +kernel
theorem dX13_qWordHere_103 : decode cX13_qWordHere 103 = .ok (.bipush 7, 2) := by decide +kernel
theorem dX13_qWordHere_105 : decode cX13_qWordHere 105 = .ok (.ireturn, 1) := by decide +kernel
theorem dX13_qWordHere_106 : decode cX13_qWordHere 106 = .ok (.aload_n 0, 1) := by decide +kernel
theorem dX13_qWordHere_107 : decode cX13_qWordHere 107 = .ok (.aload_n 0, 1) := by decide +kernel
theorem dX13_qWordHere_108 : decode cX13_qWordHere 108 = .ok (.getfield 243, 3) := by decide +kernel
theorem dX13_qWordHere_111 : decode cX13_qWordHere 111 = .ok (.invokevirtual 287, 3) := by decide +kernel
theorem dX13_qWordHere_114 : decode cX13_qWordHere 114 = .ok (.ifCond .eq 6, 3) := by decide +kernel
theorem dX13_qWordHere_117 : decode cX13_qWordHere 117 = .ok (.bipush 8, 2) := by decide +kernel
theorem dX13_qWordHere_119 : decode cX13_qWordHere 119 = .ok (.ireturn, 1) := by decide +kernel
theorem dX13_qWordHere_120 : decode cX13_qWordHere 120 = .ok (.aload_n 0, 1) := by decide +kernel
theorem dX13_qWordHere_121 : decode cX13_qWordHere 121 = .ok (.aload_n 0, 1) := by decide +kernel
theorem dX13_qWordHere_122 : decode cX13_qWordHere 122 = .ok (.getfield 246, 3) := by decide +kernel
theorem dX13_qWordHere_125 : decode cX13_qWordHere 125 = .ok (.invokevirtual 287, 3) := by decide +kernel
theorem dX13_qWordHere_128 : decode cX13_qWordHere 128 = .ok (.ifCond .eq 6, 3) := by decide +kernel
theorem dX13_qWordHere_131 : decode cX13_qWordHere 131 = .ok (.bipush 9, 2) := by decide +kernel
theorem dX13_qWordHere_133 : decode cX13_qWordHere 133 = .ok (.ireturn, 1) := by decide +kernel
theorem dX13_qWordHere_134 : decode cX13_qWordHere 134 = .ok (.iconst (-1), 1) := by decide +kernel
theorem dX13_qWordHere_135 : decode cX13_qWordHere 135 = .ok (.ireturn, 1) := by decide +kernel
theorem dX13_qWordOf_0 : decode cX13_qWordOf 0 = .ok (.aload_n 0, 1) := by decide +kernel
theorem dX13_qWordOf_1 : decode cX13_qWordOf 1 = .ok (.invokevirtual 617, 3) := by decide +kernel
theorem dX13_qWordOf_4 : decode cX13_qWordOf 4 = .ok (.istore_n 3, 1) := by decide +kernel
theorem dX13_qWordOf_5 : decode cX13_qWordOf 5 = .ok (.iload_n 3, 1) := by decide +kernel
theorem dX13_qWordOf_6 : decode cX13_qWordOf 6 = .ok (.iload_n 1, 1) := by decide +kernel
theorem dX13_qWordOf_7 : decode cX13_qWordOf 7 = .ok (.if_icmp .lt 20, 3) := by decide +kernel
theorem dX13_qWordOf_10 : decode cX13_qWordOf 10 = .ok (.iload_n 3, 1) := by decide +kernel
theorem dX13_qWordOf_11 : decode cX13_qWordOf 11 = .ok (.iload_n 2, 1) := by decide +kernel
theorem dX13_qWordOf_12 : decode cX13_qWordOf 12 = .ok (.if_icmp .ge 15, 3) := by decide +kernel
theorem dX13_qWordOf_15 : decode cX13_qWordOf 15 = .ok (.aload_n 0, 1) := by decide +kernel
theorem dX13_qWordOf_16 : decode cX13_qWordOf 16 = .ok (.iload_n 3, 1) := by decide +kernel
theorem dX13_qWordOf_17 : decode cX13_qWordOf 17 = .ok (.invokevirtual 620, 3) := by decide +kernel
theorem dX13_qWordOf_20 : decode cX13_qWordOf 20 = .ok (.ifCond .eq 7, 3) := by decide +kernel
theorem dX13_qWordOf_23 : decode cX13_qWordOf 23 = .ok (.iload_n 3, 1) := by decide +kernel
theorem dX13_qWordOf_24 : decode cX13_qWordOf 24 = .ok (.goto 4, 3) := by decide +kernel
theorem dX13_qWordOf_27 : decode cX13_qWordOf 27 = .ok (.iconst (-1), 1) := by decide +kernel
theorem dX13_qWordOf_28 : decode cX13_qWordOf 28 = .ok (.ireturn, 1) := by decide +kernel
theorem dX13_qAsksWord_0 : decode cX13_qAsksWord 0 = .ok (.iload_n 1, 1) := by decide +kernel
theorem dX13_qAsksWord_1 : decode cX13_qAsksWord 1 = .ok (.tableswitch 150 0 8 #[51, 62, 73, 84, 95, 106, 117, 128, 139], 51) := by decide +kernel
theorem dX13_qAsksWord_52 : decode cX13_qAsksWord 52 = .ok (.aload_n 0, 1) := by decide +kernel
theorem dX13_qAsksWord_53 : decode cX13_qAsksWord 53 = .ok (.aload_n 0, 1) := by decide +kernel
theorem dX13_qAsksWord_54 : decode cX13_qAsksWord 54 = .ok (.getfield 219, 3) := by decide +kernel
theorem dX13_qAsksWord_57 : decode cX13_qAsksWord 57 = .ok (.invokevirtual 337, 3) := by decide +kernel
theorem dX13_qAsksWord_60 : decode cX13_qAsksWord 60 = .ok (.goto 99, 3) := by decide +kernel
theorem dX13_qAsksWord_63 : decode cX13_qAsksWord 63 = .ok (.aload_n 0, 1) := by decide +kernel
theorem dX13_qAsksWord_64 : decode cX13_qAsksWord 64 = .ok (.aload_n 0, 1) := by decide +kernel
theorem dX13_qAsksWord_65 : decode cX13_qAsksWord 65 = .ok (.getfield 222, 3) := by decide +kernel
theorem dX13_qAsksWord_68 : decode cX13_qAsksWord 68 = .ok (.invokevirtual 337, 3) := by decide +kernel
theorem dX13_qAsksWord_71 : decode cX13_qAsksWord 71 = .ok (.goto 88, 3) := by decide +kernel
theorem dX13_qAsksWord_74 : decode cX13_qAsksWord 74 = .ok (.aload_n 0, 1) := by decide +kernel
theorem dX13_qAsksWord_75 : decode cX13_qAsksWord 75 = .ok (.aload_n 0, 1) := by decide +kernel
theorem dX13_qAsksWord_76 : decode cX13_qAsksWord 76 = .ok (.getfield 225, 3) := by decide +kernel
theorem dX13_qAsksWord_79 : decode cX13_qAsksWord 79 = .ok (.invokevirtual 337, 3) := by decide +kernel
theorem dX13_qAsksWord_82 : decode cX13_qAsksWord 82 = .ok (.goto 77, 3) := by decide +kernel
theorem dX13_qAsksWord_85 : decode cX13_qAsksWord 85 = .ok (.aload_n 0, 1) := by decide +kernel
theorem dX13_qAsksWord_86 : decode cX13_qAsksWord 86 = .ok (.aload_n 0, 1) := by decide +kernel
theorem dX13_qAsksWord_87 : decode cX13_qAsksWord 87 = .ok (.getfield 228, 3) := by decide +kernel
theorem dX13_qAsksWord_90 : decode cX13_qAsksWord 90 = .ok (.invokevirtual 337, 3) := by decide +kernel
theorem dX13_qAsksWord_93 : decode cX13_qAsksWord 93 = .ok (.goto 66, 3) := by decide +kernel
theorem dX13_qAsksWord_96 : decode cX13_qAsksWord 96 = .ok (.aload_n 0, 1) := by decide +kernel
theorem dX13_qAsksWord_97 : decode cX13_qAsksWord 97 = .ok (.aload_n 0, 1) := by decide +kernel
theorem dX13_qAsksWord_98 : decode cX13_qAsksWord 98 = .ok (.getfield 231, 3) := by decide +kernel
theorem dX13_qAsksWord_101 : decode cX13_qAsksWord 101 = .ok (.invokevirtual 337, 3) := by decide +kernel
theorem dX13_qAsksWord_104 : decode cX13_qAsksWord 104 = .ok (.goto 55, 3) := by decide +kernel
theorem dX13_qAsksWord_107 : decode cX13_qAsksWord 107 = .ok (.aload_n 0, 1) := by decide +kernel
theorem dX13_qAsksWord_108 : decode cX13_qAsksWord 108 = .ok (.aload_n 0, 1) := by decide +kernel
theorem dX13_qAsksWord_109 : decode cX13_qAsksWord 109 = .ok (.getfield 234, 3) := by decide +kernel
theorem dX13_qAsksWord_112 : decode cX13_qAsksWord 112 = .ok (.invokevirtual 337, 3) := by decide +kernel
theorem dX13_qAsksWord_115 : decode cX13_qAsksWord 115 = .ok (.goto 44, 3) := by decide +kernel
theorem dX13_qAsksWord_118 : decode cX13_qAsksWord 118 = .ok (.aload_n 0, 1) := by decide +kernel
theorem dX13_qAsksWord_119 : decode cX13_qAsksWord 119 = .ok (.aload_n 0, 1) := by decide +kernel
theorem dX13_qAsksWord_120 : decode cX13_qAsksWord 120 = .ok (.getfield 237, 3) := by decide +kernel
theorem dX13_qAsksWord_123 : decode cX13_qAsksWord 123 = .ok (.invokevirtual 337, 3) := by decide +kernel
theorem dX13_qAsksWord_126 : decode cX13_qAsksWord 126 = .ok (.goto 33, 3) := by decide +kernel
theorem dX13_qAsksWord_129 : decode cX13_qAsksWord 129 = .ok (.aload_n 0, 1) := by decide +kernel
theorem dX13_qAsksWord_130 : decode cX13_qAsksWord 130 = .ok (.aload_n 0, 1) := by decide +kernel
theorem dX13_qAsksWord_131 : decode cX13_qAsksWord 131 = .ok (.getfield 240, 3) := by decide +kernel
theorem dX13_qAsksWord_134 : decode cX13_qAsksWord 134 = .ok (.invokevirtual 337, 3) := by decide +kernel
theorem dX13_qAsksWord_137 : decode cX13_qAsksWord 137 = .ok (.goto 22, 3) := by decide +kernel
theorem dX13_qAsksWord_140 : decode cX13_qAsksWord 140 = .ok (.aload_n 0, 1) := by decide +kernel
theorem dX13_qAsksWord_141 : decode cX13_qAsksWord 141 = .ok (.aload_n 0, 1) := by decide +kernel
theorem dX13_qAsksWord_142 : decode cX13_qAsksWord 142 = .ok (.getfield 243, 3) := by decide +kernel
theorem dX13_qAsksWord_145 : decode cX13_qAsksWord 145 = .ok (.invokevirtual 337, 3) := by decide +kernel
theorem dX13_qAsksWord_148 : decode cX13_qAsksWord 148 = .ok (.goto 11, 3) := by decide +kernel
theorem dX13_qAsksWord_151 : decode cX13_qAsksWord 151 = .ok (.aload_n 0, 1) := by decide +kernel
theorem dX13_qAsksWord_152 : decode cX13_qAsksWord 152 = .ok (.aload_n 0, 1) := by decide +kernel
theorem dX13_qAsksWord_153 : decode cX13_qAsksWord 153 = .ok (.getfield 246, 3) := by decide +kernel
theorem dX13_qAsksWord_156 : decode cX13_qAsksWord 156 = .ok (.invokevirtual 337, 3) := by decide +kernel
theorem dX13_qAsksWord_159 : decode cX13_qAsksWord 159 = .ok (.return_, 1) := by decide +kernel
theorem dX13_qEndsPart_0 : decode cX13_qEndsPart 0 = .ok (.aload_n 0, 1) := by decide +kernel
theorem dX13_qEndsPart_1 : decode cX13_qEndsPart 1 = .ok (.getfield 264, 3) := by decide +kernel
theorem dX13_qEndsPart_4 : decode cX13_qEndsPart 4 = .ok (.ifCond .ne 47, 3) := by decide +kernel
theorem dX13_qEndsPart_7 : decode cX13_qEndsPart 7 = .ok (.aload_n 0, 1) := by decide +kernel
theorem dX13_qEndsPart_8 : decode cX13_qEndsPart 8 = .ok (.getfield 358, 3) := by decide +kernel
theorem dX13_qEndsPart_11 : decode cX13_qEndsPart 11 = .ok (.aload_n 0, 1) := by decide +kernel
theorem dX13_qEndsPart_12 : decode cX13_qEndsPart 12 = .ok (.getfield 364, 3) := by decide +kernel
theorem dX13_qEndsPart_15 : decode cX13_qEndsPart 15 = .ok (.if_icmp .le 36, 3) := by decide +kernel
theorem dX13_qEndsPart_18 : decode cX13_qEndsPart 18 = .ok (.aload_n 0, 1) := by decide +kernel
theorem dX13_qEndsPart_19 : decode cX13_qEndsPart 19 = .ok (.getfield 252, 3) := by decide +kernel
theorem dX13_qEndsPart_22 : decode cX13_qEndsPart 22 = .ok (.aload_n 0, 1) := by decide +kernel
theorem dX13_qEndsPart_23 : decode cX13_qEndsPart 23 = .ok (.getfield 358, 3) := by decide +kernel
theorem dX13_qEndsPart_26 : decode cX13_qEndsPart 26 = .ok (.iconst 1, 1) := by decide +kernel
theorem dX13_qEndsPart_27 : decode cX13_qEndsPart 27 = .ok (.isub, 1) := by decide +kernel
theorem dX13_qEndsPart_28 : decode cX13_qEndsPart 28 = .ok (.iaload, 1) := by decide +kernel
theorem dX13_qEndsPart_29 : decode cX13_qEndsPart 29 = .ok (.bipush 60, 2) := by decide +kernel
theorem dX13_qEndsPart_31 : decode cX13_qEndsPart 31 = .ok (.if_icmp .lt 20, 3) := by decide +kernel
theorem dX13_qEndsPart_34 : decode cX13_qEndsPart 34 = .ok (.aload_n 0, 1) := by decide +kernel
theorem dX13_qEndsPart_35 : decode cX13_qEndsPart 35 = .ok (.dup, 1) := by decide +kernel
theorem dX13_qEndsPart_36 : decode cX13_qEndsPart 36 = .ok (.getfield 361, 3) := by decide +kernel
theorem dX13_qEndsPart_39 : decode cX13_qEndsPart 39 = .ok (.iconst 1, 1) := by decide +kernel
theorem dX13_qEndsPart_40 : decode cX13_qEndsPart 40 = .ok (.isub, 1) := by decide +kernel
theorem dX13_qEndsPart_41 : decode cX13_qEndsPart 41 = .ok (.putfield 361, 3) := by decide +kernel
theorem dX13_qEndsPart_44 : decode cX13_qEndsPart 44 = .ok (.aload_n 0, 1) := by decide +kernel
theorem dX13_qEndsPart_45 : decode cX13_qEndsPart 45 = .ok (.invokevirtual 614, 3) := by decide +kernel
theorem dX13_qEndsPart_48 : decode cX13_qEndsPart 48 = .ok (.goto (-48), 3) := by decide +kernel
theorem dX13_qEndsPart_51 : decode cX13_qEndsPart 51 = .ok (.return_, 1) := by decide +kernel
theorem dX13_qPartTold_0 : decode cX13_qPartTold 0 = .ok (.iconst 1, 1) := by decide +kernel
theorem dX13_qPartTold_1 : decode cX13_qPartTold 1 = .ok (.istore_n 1, 1) := by decide +kernel
theorem dX13_qPartTold_2 : decode cX13_qPartTold 2 = .ok (.iload_n 1, 1) := by decide +kernel
theorem dX13_qPartTold_3 : decode cX13_qPartTold 3 = .ok (.ifCond .eq 183, 3) := by decide +kernel
theorem dX13_qPartTold_6 : decode cX13_qPartTold 6 = .ok (.aload_n 0, 1) := by decide +kernel
theorem dX13_qPartTold_7 : decode cX13_qPartTold 7 = .ok (.getfield 264, 3) := by decide +kernel
theorem dX13_qPartTold_10 : decode cX13_qPartTold 10 = .ok (.ifCond .ne 176, 3) := by decide +kernel
theorem dX13_qPartTold_13 : decode cX13_qPartTold 13 = .ok (.aload_n 0, 1) := by decide +kernel
theorem dX13_qPartTold_14 : decode cX13_qPartTold 14 = .ok (.invokevirtual 276, 3) := by decide +kernel
theorem dX13_qPartTold_17 : decode cX13_qPartTold 17 = .ok (.istore_n 2, 1) := by decide +kernel
theorem dX13_qPartTold_18 : decode cX13_qPartTold 18 = .ok (.aload_n 0, 1) := by decide +kernel
theorem dX13_qPartTold_19 : decode cX13_qPartTold 19 = .ok (.bipush 9, 2) := by decide +kernel
theorem dX13_qPartTold_21 : decode cX13_qPartTold 21 = .ok (.bipush 10, 2) := by decide +kernel
theorem dX13_qPartTold_23 : decode cX13_qPartTold 23 = .ok (.invokevirtual 623, 3) := by decide +kernel
theorem dX13_qPartTold_26 : decode cX13_qPartTold 26 = .ok (.istore_n 3, 1) := by decide +kernel
theorem dX13_qPartTold_27 : decode cX13_qPartTold 27 = .ok (.iload_n 2, 1) := by decide +kernel
theorem dX13_qPartTold_28 : decode cX13_qPartTold 28 = .ok (.bipush 40, 2) := by decide +kernel
theorem dX13_qPartTold_30 : decode cX13_qPartTold 30 = .ok (.if_icmp .ne 26, 3) := by decide +kernel
theorem dX13_qPartTold_33 : decode cX13_qPartTold 33 = .ok (.aload_n 0, 1) := by decide +kernel
theorem dX13_qPartTold_34 : decode cX13_qPartTold 34 = .ok (.bipush 20, 2) := by decide +kernel
theorem dX13_qPartTold_36 : decode cX13_qPartTold 36 = .ok (.aload_n 0, 1) := by decide +kernel
theorem dX13_qPartTold_37 : decode cX13_qPartTold 37 = .ok (.getfield 270, 3) := by decide +kernel
theorem dX13_qPartTold_40 : decode cX13_qPartTold 40 = .ok (.invokevirtual 626, 3) := by decide +kernel
theorem dX13_qPartTold_43 : decode cX13_qPartTold 43 = .ok (.aload_n 0, 1) := by decide +kernel
theorem dX13_qPartTold_44 : decode cX13_qPartTold 44 = .ok (.dup, 1) := by decide +kernel
theorem dX13_qPartTold_45 : decode cX13_qPartTold 45 = .ok (.getfield 270, 3) := by decide +kernel
theorem dX13_qPartTold_48 : decode cX13_qPartTold 48 = .ok (.iconst 1, 1) := by decide +kernel
theorem dX13_qPartTold_49 : decode cX13_qPartTold 49 = .ok (.iadd, 1) := by decide +kernel
theorem dX13_qPartTold_50 : decode cX13_qPartTold 50 = .ok (.putfield 270, 3) := by decide +kernel
theorem dX13_qPartTold_53 : decode cX13_qPartTold 53 = .ok (.goto 130, 3) := by decide +kernel
theorem dX13_qPartTold_56 : decode cX13_qPartTold 56 = .ok (.aload_n 0, 1) := by decide +kernel
theorem dX13_qPartTold_57 : decode cX13_qPartTold 57 = .ok (.aload_n 0, 1) := by decide +kernel
theorem dX13_qPartTold_58 : decode cX13_qPartTold 58 = .ok (.getfield 213, 3) := by decide +kernel
theorem dX13_qPartTold_61 : decode cX13_qPartTold 61 = .ok (.invokevirtual 287, 3) := by decide +kernel
theorem dX13_qPartTold_64 : decode cX13_qPartTold 64 = .ok (.ifCond .ne 14, 3) := by decide +kernel
theorem dX13_qPartTold_67 : decode cX13_qPartTold 67 = .ok (.aload_n 0, 1) := by decide +kernel
theorem dX13_qPartTold_68 : decode cX13_qPartTold 68 = .ok (.aload_n 0, 1) := by decide +kernel
theorem dX13_qPartTold_69 : decode cX13_qPartTold 69 = .ok (.getfield 216, 3) := by decide +kernel
theorem dX13_qPartTold_72 : decode cX13_qPartTold 72 = .ok (.invokevirtual 287, 3) := by decide +kernel
theorem dX13_qPartTold_75 : decode cX13_qPartTold 75 = .ok (.ifCond .eq 78, 3) := by decide +kernel
theorem dX13_qPartTold_78 : decode cX13_qPartTold 78 = .ok (.aload_n 0, 1) := by decide +kernel
theorem dX13_qPartTold_79 : decode cX13_qPartTold 79 = .ok (.aload_n 0, 1) := by decide +kernel
theorem dX13_qPartTold_80 : decode cX13_qPartTold 80 = .ok (.getfield 213, 3) := by decide +kernel
theorem dX13_qPartTold_83 : decode cX13_qPartTold 83 = .ok (.invokevirtual 291, 3) := by decide +kernel
theorem dX13_qPartTold_86 : decode cX13_qPartTold 86 = .ok (.istore 4, 2) := by decide +kernel
theorem dX13_qPartTold_88 : decode cX13_qPartTold 88 = .ok (.iload 4, 2) := by decide +kernel
theorem dX13_qPartTold_90 : decode cX13_qPartTold 90 = .ok (.ifCond .ne 11, 3) := by decide +kernel
theorem dX13_qPartTold_93 : decode cX13_qPartTold 93 = .ok (.aload_n 0, 1) := by decide +kernel
theorem dX13_qPartTold_94 : decode cX13_qPartTold 94 = .ok (.aload_n 0, 1) := by decide +kernel
theorem dX13_qPartTold_95 : decode cX13_qPartTold 95 = .ok (.getfield 216, 3) := by decide +kernel
theorem dX13_qPartTold_98 : decode cX13_qPartTold 98 = .ok (.invokevirtual 337, 3) := by decide +kernel
theorem dX13_qPartTold_101 : decode cX13_qPartTold 101 = .ok (.aload_n 0, 1) := by decide +kernel
theorem dX13_qPartTold_102 : decode cX13_qPartTold 102 = .ok (.invokevirtual 276, 3) := by decide +kernel
theorem dX13_qPartTold_105 : decode cX13_qPartTold 105 = .ok (.bipush 40, 2) := by decide +kernel
theorem dX13_qPartTold_107 : decode cX13_qPartTold 107 = .ok (.if_icmp .ne 10, 3) := by decide +kernel
theorem dX13_qPartTold_110 : decode cX13_qPartTold 110 = .ok (.aload_n 0, 1) := by decide +kernel
theorem dX13_qPartTold_111 : decode cX13_qPartTold 111 = .ok (.getfield 270, 3) := by decide +kernel
theorem dX13_qPartTold_114 : decode cX13_qPartTold 114 = .ok (.goto 4, 3) := by decide +kernel
theorem dX13_qPartTold_117 : decode cX13_qPartTold 117 = .ok (.iconst (-1), 1) := by decide +kernel
theorem dX13_qPartTold_118 : decode cX13_qPartTold 118 = .ok (.istore 5, 2) := by decide +kernel
theorem dX13_qPartTold_120 : decode cX13_qPartTold 120 = .ok (.iload 5, 2) := by decide +kernel
theorem dX13_qPartTold_122 : decode cX13_qPartTold 122 = .ok (.iconst (-1), 1) := by decide +kernel
theorem dX13_qPartTold_123 : decode cX13_qPartTold 123 = .ok (.if_icmp .eq 21, 3) := by decide +kernel
theorem dX13_qPartTold_126 : decode cX13_qPartTold 126 = .ok (.aload_n 0, 1) := by decide +kernel
theorem dX13_qPartTold_127 : decode cX13_qPartTold 127 = .ok (.iload 4, 2) := by decide +kernel
theorem dX13_qPartTold_129 : decode cX13_qPartTold 129 = .ok (.ifCond .eq 8, 3) := by decide +kernel
theorem dX13_qPartTold_132 : decode cX13_qPartTold 132 = .ok (.bipush 21, 2) := by decide +kernel
theorem dX13_qPartTold_134 : decode cX13_qPartTold 134 = .ok (.goto 5, 3) := by decide +kernel
theorem dX13_qPartTold_137 : decode cX13_qPartTold 137 = .ok (.bipush 22, 2) := by decide +kernel
theorem dX13_qPartTold_139 : decode cX13_qPartTold 139 = .ok (.iload 5, 2) := by decide +kernel
theorem dX13_qPartTold_141 : decode cX13_qPartTold 141 = .ok (.invokevirtual 626, 3) := by decide +kernel
theorem dX13_qPartTold_144 : decode cX13_qPartTold 144 = .ok (.aload_n 0, 1) := by decide +kernel
theorem dX13_qPartTold_145 : decode cX13_qPartTold 145 = .ok (.bipush 40, 2) := by decide +kernel
theorem dX13_qPartTold_147 : decode cX13_qPartTold 147 = .ok (.invokevirtual 344, 3) := by decide +kernel
theorem dX13_qPartTold_150 : decode cX13_qPartTold 150 = .ok (.goto 33, 3) := by decide +kernel
theorem dX13_qPartTold_153 : decode cX13_qPartTold 153 = .ok (.iload_n 3, 1) := by decide +kernel
theorem dX13_qPartTold_154 : decode cX13_qPartTold 154 = .ok (.iconst (-1), 1) := by decide +kernel
theorem dX13_qPartTold_155 : decode cX13_qPartTold 155 = .ok (.if_icmp .eq 26, 3) := by decide +kernel
theorem dX13_qPartTold_158 : decode cX13_qPartTold 158 = .ok (.aload_n 0, 1) := by decide +kernel
theorem dX13_qPartTold_159 : decode cX13_qPartTold 159 = .ok (.bipush 60, 2) := by decide +kernel
theorem dX13_qPartTold_161 : decode cX13_qPartTold 161 = .ok (.iload_n 3, 1) := by decide +kernel
theorem dX13_qPartTold_162 : decode cX13_qPartTold 162 = .ok (.iadd, 1) := by decide +kernel
theorem dX13_qPartTold_163 : decode cX13_qPartTold 163 = .ok (.bipush 9, 2) := by decide +kernel
theorem dX13_qPartTold_165 : decode cX13_qPartTold 165 = .ok (.isub, 1) := by decide +kernel
theorem dX13_qPartTold_166 : decode cX13_qPartTold 166 = .ok (.aload_n 0, 1) := by decide +kernel
theorem dX13_qPartTold_167 : decode cX13_qPartTold 167 = .ok (.getfield 270, 3) := by decide +kernel
theorem dX13_qPartTold_170 : decode cX13_qPartTold 170 = .ok (.invokevirtual 626, 3) := by decide +kernel
theorem dX13_qPartTold_173 : decode cX13_qPartTold 173 = .ok (.aload_n 0, 1) := by decide +kernel
theorem dX13_qPartTold_174 : decode cX13_qPartTold 174 = .ok (.iload_n 3, 1) := by decide +kernel
theorem dX13_qPartTold_175 : decode cX13_qPartTold 175 = .ok (.invokevirtual 629, 3) := by decide +kernel
theorem dX13_qPartTold_178 : decode cX13_qPartTold 178 = .ok (.goto 5, 3) := by decide +kernel
theorem dX13_qPartTold_181 : decode cX13_qPartTold 181 = .ok (.iconst 0, 1) := by decide +kernel
theorem dX13_qPartTold_182 : decode cX13_qPartTold 182 = .ok (.istore_n 1, 1) := by decide +kernel
theorem dX13_qPartTold_183 : decode cX13_qPartTold 183 = .ok (.goto (-181), 3) := by decide +kernel
theorem dX13_qPartTold_186 : decode cX13_qPartTold 186 = .ok (.aload_n 0, 1) := by decide +kernel
theorem dX13_qPartTold_187 : decode cX13_qPartTold 187 = .ok (.getfield 264, 3) := by decide +kernel
theorem dX13_qPartTold_190 : decode cX13_qPartTold 190 = .ok (.ifCond .eq 4, 3) := by decide +kernel
theorem dX13_qPartTold_193 : decode cX13_qPartTold 193 = .ok (.return_, 1) := by decide +kernel
theorem dX13_qPartTold_194 : decode cX13_qPartTold 194 = .ok (.aload_n 0, 1) := by decide +kernel
theorem dX13_qPartTold_195 : decode cX13_qPartTold 195 = .ok (.iconst 0, 1) := by decide +kernel
theorem dX13_qPartTold_196 : decode cX13_qPartTold 196 = .ok (.bipush 9, 2) := by decide +kernel
theorem dX13_qPartTold_198 : decode cX13_qPartTold 198 = .ok (.invokevirtual 623, 3) := by decide +kernel
theorem dX13_qPartTold_201 : decode cX13_qPartTold 201 = .ok (.istore_n 2, 1) := by decide +kernel
theorem dX13_qPartTold_202 : decode cX13_qPartTold 202 = .ok (.iload_n 2, 1) := by decide +kernel
theorem dX13_qPartTold_203 : decode cX13_qPartTold 203 = .ok (.iconst (-1), 1) := by decide +kernel
theorem dX13_qPartTold_204 : decode cX13_qPartTold 204 = .ok (.if_icmp .eq 8, 3) := by decide +kernel
theorem dX13_qPartTold_207 : decode cX13_qPartTold 207 = .ok (.aload_n 0, 1) := by decide +kernel
theorem dX13_qPartTold_208 : decode cX13_qPartTold 208 = .ok (.iload_n 2, 1) := by decide +kernel
theorem dX13_qPartTold_209 : decode cX13_qPartTold 209 = .ok (.invokevirtual 629, 3) := by decide +kernel
theorem dX13_qPartTold_212 : decode cX13_qPartTold 212 = .ok (.aload_n 0, 1) := by decide +kernel
theorem dX13_qPartTold_213 : decode cX13_qPartTold 213 = .ok (.iload_n 2, 1) := by decide +kernel
theorem dX13_qPartTold_214 : decode cX13_qPartTold 214 = .ok (.iconst (-1), 1) := by decide +kernel
theorem dX13_qPartTold_215 : decode cX13_qPartTold 215 = .ok (.if_icmp .eq 10, 3) := by decide +kernel
theorem dX13_qPartTold_218 : decode cX13_qPartTold 218 = .ok (.bipush 40, 2) := by decide +kernel
theorem dX13_qPartTold_220 : decode cX13_qPartTold 220 = .ok (.iload_n 2, 1) := by decide +kernel
theorem dX13_qPartTold_221 : decode cX13_qPartTold 221 = .ok (.iadd, 1) := by decide +kernel
theorem dX13_qPartTold_222 : decode cX13_qPartTold 222 = .ok (.goto 15, 3) := by decide +kernel
theorem dX13_qPartTold_225 : decode cX13_qPartTold 225 = .ok (.sipush 1000, 3) := by decide +kernel
theorem dX13_qPartTold_228 : decode cX13_qPartTold 228 = .ok (.aload_n 0, 1) := by decide +kernel
theorem dX13_qPartTold_229 : decode cX13_qPartTold 229 = .ok (.iconst 0, 1) := by decide +kernel
theorem dX13_qPartTold_230 : decode cX13_qPartTold 230 = .ok (.sipush 9999, 3) := by decide +kernel
theorem dX13_qPartTold_233 : decode cX13_qPartTold 233 = .ok (.invokevirtual 333, 3) := by decide +kernel
theorem dX13_qPartTold_236 : decode cX13_qPartTold 236 = .ok (.iadd, 1) := by decide +kernel
theorem dX13_qPartTold_237 : decode cX13_qPartTold 237 = .ok (.invokevirtual 608, 3) := by decide +kernel
theorem dX13_qPartTold_240 : decode cX13_qPartTold 240 = .ok (.aload_n 0, 1) := by decide +kernel
theorem dX13_qPartTold_241 : decode cX13_qPartTold 241 = .ok (.invokevirtual 632, 3) := by decide +kernel
theorem dX13_qPartTold_244 : decode cX13_qPartTold 244 = .ok (.return_, 1) := by decide +kernel
theorem dX13_qGoesOn_0 : decode cX13_qGoesOn 0 = .ok (.aload_n 0, 1) := by decide +kernel
theorem dX13_qGoesOn_1 : decode cX13_qGoesOn 1 = .ok (.getfield 264, 3) := by decide +kernel
theorem dX13_qGoesOn_4 : decode cX13_qGoesOn 4 = .ok (.ifCond .ne 118, 3) := by decide +kernel
theorem dX13_qGoesOn_7 : decode cX13_qGoesOn 7 = .ok (.aload_n 0, 1) := by decide +kernel
theorem dX13_qGoesOn_8 : decode cX13_qGoesOn 8 = .ok (.invokevirtual 276, 3) := by decide +kernel
theorem dX13_qGoesOn_11 : decode cX13_qGoesOn 11 = .ok (.bipush 41, 2) := by decide +kernel
theorem dX13_qGoesOn_13 : decode cX13_qGoesOn 13 = .ok (.if_icmp .ne 109, 3) := by decide +kernel
theorem dX13_qGoesOn_16 : decode cX13_qGoesOn 16 = .ok (.aload_n 0, 1) := by decide +kernel
theorem dX13_qGoesOn_17 : decode cX13_qGoesOn 17 = .ok (.invokevirtual 635, 3) := by decide +kernel
theorem dX13_qGoesOn_20 : decode cX13_qGoesOn 20 = .ok (.bipush 20, 2) := by decide +kernel
theorem dX13_qGoesOn_22 : decode cX13_qGoesOn 22 = .ok (.if_icmp .eq 21, 3) := by decide +kernel
theorem dX13_qGoesOn_25 : decode cX13_qGoesOn 25 = .ok (.aload_n 0, 1) := by decide +kernel
theorem dX13_qGoesOn_26 : decode cX13_qGoesOn 26 = .ok (.invokevirtual 635, 3) := by decide +kernel
theorem dX13_qGoesOn_29 : decode cX13_qGoesOn 29 = .ok (.bipush 23, 2) := by decide +kernel
theorem dX13_qGoesOn_31 : decode cX13_qGoesOn 31 = .ok (.if_icmp .eq 12, 3) := by decide +kernel
theorem dX13_qGoesOn_34 : decode cX13_qGoesOn 34 = .ok (.aload_n 0, 1) := by decide +kernel
theorem dX13_qGoesOn_35 : decode cX13_qGoesOn 35 = .ok (.invokevirtual 635, 3) := by decide +kernel
theorem dX13_qGoesOn_38 : decode cX13_qGoesOn 38 = .ok (.bipush 24, 2) := by decide +kernel
theorem dX13_qGoesOn_40 : decode cX13_qGoesOn 40 = .ok (.if_icmp .ne 82, 3) := by decide +kernel
theorem dX13_qGoesOn_43 : decode cX13_qGoesOn 43 = .ok (.aload_n 0, 1) := by decide +kernel
theorem dX13_qGoesOn_44 : decode cX13_qGoesOn 44 = .ok (.dup, 1) := by decide +kernel
theorem dX13_qGoesOn_45 : decode cX13_qGoesOn 45 = .ok (.getfield 270, 3) := by decide +kernel
theorem dX13_qGoesOn_48 : decode cX13_qGoesOn 48 = .ok (.iconst 1, 1) := by decide +kernel
theorem dX13_qGoesOn_49 : decode cX13_qGoesOn 49 = .ok (.iadd, 1) := by decide +kernel
theorem dX13_qGoesOn_50 : decode cX13_qGoesOn 50 = .ok (.putfield 270, 3) := by decide +kernel
theorem dX13_qGoesOn_53 : decode cX13_qGoesOn 53 = .ok (.aload_n 0, 1) := by decide +kernel
theorem dX13_qGoesOn_54 : decode cX13_qGoesOn 54 = .ok (.invokevirtual 638, 3) := by decide +kernel
theorem dX13_qGoesOn_57 : decode cX13_qGoesOn 57 = .ok (.aload_n 0, 1) := by decide +kernel
theorem dX13_qGoesOn_58 : decode cX13_qGoesOn 58 = .ok (.dup, 1) := by decide +kernel
theorem dX13_qGoesOn_59 : decode cX13_qGoesOn 59 = .ok (.getfield 358, 3) := by decide +kernel
theorem dX13_qGoesOn_62 : decode cX13_qGoesOn 62 = .ok (.iconst 1, 1) := by decide +kernel
theorem dX13_qGoesOn_63 : decode cX13_qGoesOn 63 = .ok (.isub, 1) := by decide +kernel
theorem dX13_qGoesOn_64 : decode cX13_qGoesOn 64 = .ok (.putfield 358, 3) := by decide +kernel
theorem dX13_qGoesOn_67 : decode cX13_qGoesOn 67 = .ok (.aload_n 0, 1) := by decide +kernel
theorem dX13_qGoesOn_68 : decode cX13_qGoesOn 68 = .ok (.dup, 1) := by decide +kernel
theorem dX13_qGoesOn_69 : decode cX13_qGoesOn 69 = .ok (.getfield 361, 3) := by decide +kernel
theorem dX13_qGoesOn_72 : decode cX13_qGoesOn 72 = .ok (.iconst 1, 1) := by decide +kernel
theorem dX13_qGoesOn_73 : decode cX13_qGoesOn 73 = .ok (.isub, 1) := by decide +kernel
theorem dX13_qGoesOn_74 : decode cX13_qGoesOn 74 = .ok (.putfield 361, 3) := by decide +kernel
theorem dX13_qGoesOn_77 : decode cX13_qGoesOn 77 = .ok (.aload_n 0, 1) := by decide +kernel
theorem dX13_qGoesOn_78 : decode cX13_qGoesOn 78 = .ok (.getfield 252, 3) := by decide +kernel
theorem dX13_qGoesOn_81 : decode cX13_qGoesOn 81 = .ok (.aload_n 0, 1) := by decide +kernel
theorem dX13_qGoesOn_82 : decode cX13_qGoesOn 82 = .ok (.getfield 358, 3) := by decide +kernel
theorem dX13_qGoesOn_85 : decode cX13_qGoesOn 85 = .ok (.iaload, 1) := by decide +kernel
theorem dX13_qGoesOn_86 : decode cX13_qGoesOn 86 = .ok (.bipush 20, 2) := by decide +kernel
theorem dX13_qGoesOn_88 : decode cX13_qGoesOn 88 = .ok (.if_icmp .eq 27, 3) := by decide +kernel
theorem dX13_qGoesOn_91 : decode cX13_qGoesOn 91 = .ok (.aload_n 0, 1) := by decide +kernel
theorem dX13_qGoesOn_92 : decode cX13_qGoesOn 92 = .ok (.aload_n 0, 1) := by decide +kernel
theorem dX13_qGoesOn_93 : decode cX13_qGoesOn 93 = .ok (.getfield 252, 3) := by decide +kernel
theorem dX13_qGoesOn_96 : decode cX13_qGoesOn 96 = .ok (.aload_n 0, 1) := by decide +kernel
theorem dX13_qGoesOn_97 : decode cX13_qGoesOn 97 = .ok (.getfield 358, 3) := by decide +kernel
theorem dX13_qGoesOn_100 : decode cX13_qGoesOn 100 = .ok (.iaload, 1) := by decide +kernel
theorem dX13_qGoesOn_101 : decode cX13_qGoesOn 101 = .ok (.bipush 23, 2) := by decide +kernel
theorem dX13_qGoesOn_103 : decode cX13_qGoesOn 103 = .ok (.if_icmp .ne 7, 3) := by decide +kernel
theorem dX13_qGoesOn_106 : decode cX13_qGoesOn 106 = .ok (.iconst 5, 1) := by decide +kernel
theorem dX13_qGoesOn_107 : decode cX13_qGoesOn 107 = .ok (.goto 5, 3) := by decide +kernel
theorem dX13_qGoesOn_110 : decode cX13_qGoesOn 110 = .ok (.bipush 6, 2) := by decide +kernel
theorem dX13_qGoesOn_112 : decode cX13_qGoesOn 112 = .ok (.invokevirtual 608, 3) := by decide +kernel
theorem dX13_qGoesOn_115 : decode cX13_qGoesOn 115 = .ok (.aload_n 0, 1) := by decide +kernel
theorem dX13_qGoesOn_116 : decode cX13_qGoesOn 116 = .ok (.invokevirtual 632, 3) := by decide +kernel
theorem dX13_qGoesOn_119 : decode cX13_qGoesOn 119 = .ok (.goto (-119), 3) := by decide +kernel
theorem dX13_qGoesOn_122 : decode cX13_qGoesOn 122 = .ok (.aload_n 0, 1) := by decide +kernel
theorem dX13_qGoesOn_123 : decode cX13_qGoesOn 123 = .ok (.bipush 42, 2) := by decide +kernel
theorem dX13_qGoesOn_125 : decode cX13_qGoesOn 125 = .ok (.invokevirtual 298, 3) := by decide +kernel
theorem dX13_qGoesOn_128 : decode cX13_qGoesOn 128 = .ok (.ifCond .ne 12, 3) := by decide +kernel
theorem dX13_qGoesOn_131 : decode cX13_qGoesOn 131 = .ok (.aload_n 0, 1) := by decide +kernel
theorem dX13_qGoesOn_132 : decode cX13_qGoesOn 132 = .ok (.bipush 47, 2) := by decide +kernel
theorem dX13_qGoesOn_134 : decode cX13_qGoesOn 134 = .ok (.invokevirtual 298, 3) := by decide +kernel
theorem dX13_qGoesOn_137 : decode cX13_qGoesOn 137 = .ok (.ifCond .eq 70, 3) := by decide +kernel
theorem dX13_qGoesOn_140 : decode cX13_qGoesOn 140 = .ok (.aload_n 0, 1) := by decide +kernel
theorem dX13_qGoesOn_141 : decode cX13_qGoesOn 141 = .ok (.getfield 7, 3) := by decide +kernel
theorem dX13_qGoesOn_144 : decode cX13_qGoesOn 144 = .ok (.aload_n 0, 1) := by decide +kernel
theorem dX13_qGoesOn_145 : decode cX13_qGoesOn 145 = .ok (.getfield 270, 3) := by decide +kernel
theorem dX13_qGoesOn_148 : decode cX13_qGoesOn 148 = .ok (.iconst 1, 1) := by decide +kernel
theorem dX13_qGoesOn_149 : decode cX13_qGoesOn 149 = .ok (.isub, 1) := by decide +kernel
theorem dX13_qGoesOn_150 : decode cX13_qGoesOn 150 = .ok (.iaload, 1) := by decide +kernel
theorem dX13_qGoesOn_151 : decode cX13_qGoesOn 151 = .ok (.bipush 42, 2) := by decide +kernel
theorem dX13_qGoesOn_153 : decode cX13_qGoesOn 153 = .ok (.if_icmp .ne 7, 3) := by decide +kernel
theorem dX13_qGoesOn_156 : decode cX13_qGoesOn 156 = .ok (.iconst 3, 1) := by decide +kernel
theorem dX13_qGoesOn_157 : decode cX13_qGoesOn 157 = .ok (.goto 4, 3) := by decide +kernel
theorem dX13_qGoesOn_160 : decode cX13_qGoesOn 160 = .ok (.iconst 4, 1) := by decide +kernel
theorem dX13_qGoesOn_161 : decode cX13_qGoesOn 161 = .ok (.istore_n 1, 1) := by decide +kernel
theorem dX13_qGoesOn_162 : decode cX13_qGoesOn 162 = .ok (.aload_n 0, 1) := by decide +kernel
theorem dX13_qGoesOn_163 : decode cX13_qGoesOn 163 = .ok (.iconst 3, 1) := by decide +kernel
theorem dX13_qGoesOn_164 : decode cX13_qGoesOn 164 = .ok (.invokevirtual 641, 3) := by decide +kernel
theorem dX13_qGoesOn_167 : decode cX13_qGoesOn 167 = .ok (.ifCond .ne 11, 3) := by decide +kernel
theorem dX13_qGoesOn_170 : decode cX13_qGoesOn 170 = .ok (.aload_n 0, 1) := by decide +kernel
theorem dX13_qGoesOn_171 : decode cX13_qGoesOn 171 = .ok (.iconst 4, 1) := by decide +kernel
theorem dX13_qGoesOn_172 : decode cX13_qGoesOn 172 = .ok (.invokevirtual 641, 3) := by decide +kernel
theorem dX13_qGoesOn_175 : decode cX13_qGoesOn 175 = .ok (.ifCond .eq 10, 3) := by decide +kernel
theorem dX13_qGoesOn_178 : decode cX13_qGoesOn 178 = .ok (.aload_n 0, 1) := by decide +kernel
theorem dX13_qGoesOn_179 : decode cX13_qGoesOn 179 = .ok (.invokevirtual 614, 3) := by decide +kernel
theorem dX13_qGoesOn_182 : decode cX13_qGoesOn 182 = .ok (.goto (-20), 3) := by decide +kernel
theorem dX13_qGoesOn_185 : decode cX13_qGoesOn 185 = .ok (.aload_n 0, 1) := by decide +kernel
theorem dX13_qGoesOn_186 : decode cX13_qGoesOn 186 = .ok (.getfield 252, 3) := by decide +kernel
theorem dX13_qGoesOn_189 : decode cX13_qGoesOn 189 = .ok (.aload_n 0, 1) := by decide +kernel
theorem dX13_qGoesOn_190 : decode cX13_qGoesOn 190 = .ok (.getfield 358, 3) := by decide +kernel
theorem dX13_qGoesOn_193 : decode cX13_qGoesOn 193 = .ok (.iload_n 1, 1) := by decide +kernel
theorem dX13_qGoesOn_194 : decode cX13_qGoesOn 194 = .ok (.iastore, 1) := by decide +kernel
theorem dX13_qGoesOn_195 : decode cX13_qGoesOn 195 = .ok (.aload_n 0, 1) := by decide +kernel
theorem dX13_qGoesOn_196 : decode cX13_qGoesOn 196 = .ok (.dup, 1) := by decide +kernel
theorem dX13_qGoesOn_197 : decode cX13_qGoesOn 197 = .ok (.getfield 358, 3) := by decide +kernel
theorem dX13_qGoesOn_200 : decode cX13_qGoesOn 200 = .ok (.iconst 1, 1) := by decide +kernel
theorem dX13_qGoesOn_201 : decode cX13_qGoesOn 201 = .ok (.iadd, 1) := by decide +kernel
theorem dX13_qGoesOn_202 : decode cX13_qGoesOn 202 = .ok (.putfield 358, 3) := by decide +kernel
theorem dX13_qGoesOn_205 : decode cX13_qGoesOn 205 = .ok (.iconst 1, 1) := by decide +kernel
theorem dX13_qGoesOn_206 : decode cX13_qGoesOn 206 = .ok (.ireturn, 1) := by decide +kernel
theorem dX13_qGoesOn_207 : decode cX13_qGoesOn 207 = .ok (.aload_n 0, 1) := by decide +kernel
theorem dX13_qGoesOn_208 : decode cX13_qGoesOn 208 = .ok (.bipush 43, 2) := by decide +kernel
theorem dX13_qGoesOn_210 : decode cX13_qGoesOn 210 = .ok (.invokevirtual 298, 3) := by decide +kernel
theorem dX13_qGoesOn_213 : decode cX13_qGoesOn 213 = .ok (.ifCond .ne 12, 3) := by decide +kernel
theorem dX13_qGoesOn_216 : decode cX13_qGoesOn 216 = .ok (.aload_n 0, 1) := by decide +kernel
theorem dX13_qGoesOn_217 : decode cX13_qGoesOn 217 = .ok (.bipush 45, 2) := by decide +kernel
theorem dX13_qGoesOn_219 : decode cX13_qGoesOn 219 = .ok (.invokevirtual 298, 3) := by decide +kernel
theorem dX13_qGoesOn_222 : decode cX13_qGoesOn 222 = .ok (.ifCond .eq 86, 3) := by decide +kernel
theorem dX13_qGoesOn_225 : decode cX13_qGoesOn 225 = .ok (.aload_n 0, 1) := by decide +kernel
theorem dX13_qGoesOn_226 : decode cX13_qGoesOn 226 = .ok (.getfield 7, 3) := by decide +kernel
theorem dX13_qGoesOn_229 : decode cX13_qGoesOn 229 = .ok (.aload_n 0, 1) := by decide +kernel
theorem dX13_qGoesOn_230 : decode cX13_qGoesOn 230 = .ok (.getfield 270, 3) := by decide +kernel
theorem dX13_qGoesOn_233 : decode cX13_qGoesOn 233 = .ok (.iconst 1, 1) := by decide +kernel
theorem dX13_qGoesOn_234 : decode cX13_qGoesOn 234 = .ok (.isub, 1) := by decide +kernel
theorem dX13_qGoesOn_235 : decode cX13_qGoesOn 235 = .ok (.iaload, 1) := by decide +kernel
theorem dX13_qGoesOn_236 : decode cX13_qGoesOn 236 = .ok (.bipush 43, 2) := by decide +kernel
theorem dX13_qGoesOn_238 : decode cX13_qGoesOn 238 = .ok (.if_icmp .ne 7, 3) := by decide +kernel
theorem dX13_qGoesOn_241 : decode cX13_qGoesOn 241 = .ok (.iconst 1, 1) := by decide +kernel
theorem dX13_qGoesOn_242 : decode cX13_qGoesOn 242 = .ok (.goto 4, 3) := by decide +kernel
theorem dX13_qGoesOn_245 : decode cX13_qGoesOn 245 = .ok (.iconst 2, 1) := by decide +kernel
theorem dX13_qGoesOn_246 : decode cX13_qGoesOn 246 = .ok (.istore_n 1, 1) := by decide +kernel
theorem dX13_qGoesOn_247 : decode cX13_qGoesOn 247 = .ok (.aload_n 0, 1) := by decide +kernel
theorem dX13_qGoesOn_248 : decode cX13_qGoesOn 248 = .ok (.iconst 3, 1) := by decide +kernel
theorem dX13_qGoesOn_249 : decode cX13_qGoesOn 249 = .ok (.invokevirtual 641, 3) := by decide +kernel
theorem dX13_qGoesOn_252 : decode cX13_qGoesOn 252 = .ok (.ifCond .ne 27, 3) := by decide +kernel
theorem dX13_qGoesOn_255 : decode cX13_qGoesOn 255 = .ok (.aload_n 0, 1) := by decide +kernel
theorem dX13_qGoesOn_256 : decode cX13_qGoesOn 256 = .ok (.iconst 4, 1) := by decide +kernel
theorem dX13_qGoesOn_257 : decode cX13_qGoesOn 257 = .ok (.invokevirtual 641, 3) := by decide +kernel
theorem dX13_qGoesOn_260 : decode cX13_qGoesOn 260 = .ok (.ifCond .ne 19, 3) := by decide +kernel
theorem dX13_qGoesOn_263 : decode cX13_qGoesOn 263 = .ok (.aload_n 0, 1) := by decide +kernel
theorem dX13_qGoesOn_264 : decode cX13_qGoesOn 264 = .ok (.iconst 1, 1) := by decide +kernel
theorem dX13_qGoesOn_265 : decode cX13_qGoesOn 265 = .ok (.invokevirtual 641, 3) := by decide +kernel
theorem dX13_qGoesOn_268 : decode cX13_qGoesOn 268 = .ok (.ifCond .ne 11, 3) := by decide +kernel
theorem dX13_qGoesOn_271 : decode cX13_qGoesOn 271 = .ok (.aload_n 0, 1) := by decide +kernel
theorem dX13_qGoesOn_272 : decode cX13_qGoesOn 272 = .ok (.iconst 2, 1) := by decide +kernel
theorem dX13_qGoesOn_273 : decode cX13_qGoesOn 273 = .ok (.invokevirtual 641, 3) := by decide +kernel
theorem dX13_qGoesOn_276 : decode cX13_qGoesOn 276 = .ok (.ifCond .eq 10, 3) := by decide +kernel
theorem dX13_qGoesOn_279 : decode cX13_qGoesOn 279 = .ok (.aload_n 0, 1) := by decide +kernel
theorem dX13_qGoesOn_280 : decode cX13_qGoesOn 280 = .ok (.invokevirtual 614, 3) := by decide +kernel
theorem dX13_qGoesOn_283 : decode cX13_qGoesOn 283 = .ok (.goto (-36), 3) := by decide +kernel
theorem dX13_qGoesOn_286 : decode cX13_qGoesOn 286 = .ok (.aload_n 0, 1) := by decide +kernel
theorem dX13_qGoesOn_287 : decode cX13_qGoesOn 287 = .ok (.getfield 252, 3) := by decide +kernel
theorem dX13_qGoesOn_290 : decode cX13_qGoesOn 290 = .ok (.aload_n 0, 1) := by decide +kernel
theorem dX13_qGoesOn_291 : decode cX13_qGoesOn 291 = .ok (.getfield 358, 3) := by decide +kernel
theorem dX13_qGoesOn_294 : decode cX13_qGoesOn 294 = .ok (.iload_n 1, 1) := by decide +kernel
theorem dX13_qGoesOn_295 : decode cX13_qGoesOn 295 = .ok (.iastore, 1) := by decide +kernel
theorem dX13_qGoesOn_296 : decode cX13_qGoesOn 296 = .ok (.aload_n 0, 1) := by decide +kernel
theorem dX13_qGoesOn_297 : decode cX13_qGoesOn 297 = .ok (.dup, 1) := by decide +kernel
theorem dX13_qGoesOn_298 : decode cX13_qGoesOn 298 = .ok (.getfield 358, 3) := by decide +kernel
theorem dX13_qGoesOn_301 : decode cX13_qGoesOn 301 = .ok (.iconst 1, 1) := by decide +kernel
theorem dX13_qGoesOn_302 : decode cX13_qGoesOn 302 = .ok (.iadd, 1) := by decide +kernel
theorem dX13_qGoesOn_303 : decode cX13_qGoesOn 303 = .ok (.putfield 358, 3) := by decide +kernel
theorem dX13_qGoesOn_306 : decode cX13_qGoesOn 306 = .ok (.iconst 1, 1) := by decide +kernel
theorem dX13_qGoesOn_307 : decode cX13_qGoesOn 307 = .ok (.ireturn, 1) := by decide +kernel
theorem dX13_qGoesOn_308 : decode cX13_qGoesOn 308 = .ok (.aload_n 0, 1) := by decide +kernel
theorem dX13_qGoesOn_309 : decode cX13_qGoesOn 309 = .ok (.invokevirtual 635, 3) := by decide +kernel
theorem dX13_qGoesOn_312 : decode cX13_qGoesOn 312 = .ok (.bipush 21, 2) := by decide +kernel
theorem dX13_qGoesOn_314 : decode cX13_qGoesOn 314 = .ok (.if_icmp .eq 12, 3) := by decide +kernel
theorem dX13_qGoesOn_317 : decode cX13_qGoesOn 317 = .ok (.aload_n 0, 1) := by decide +kernel
theorem dX13_qGoesOn_318 : decode cX13_qGoesOn 318 = .ok (.invokevirtual 635, 3) := by decide +kernel
theorem dX13_qGoesOn_321 : decode cX13_qGoesOn 321 = .ok (.bipush 22, 2) := by decide +kernel
theorem dX13_qGoesOn_323 : decode cX13_qGoesOn 323 = .ok (.if_icmp .ne 39, 3) := by decide +kernel
theorem dX13_qGoesOn_326 : decode cX13_qGoesOn 326 = .ok (.aload_n 0, 1) := by decide +kernel
theorem dX13_qGoesOn_327 : decode cX13_qGoesOn 327 = .ok (.bipush 44, 2) := by decide +kernel
theorem dX13_qGoesOn_329 : decode cX13_qGoesOn 329 = .ok (.invokevirtual 344, 3) := by decide +kernel
theorem dX13_qGoesOn_332 : decode cX13_qGoesOn 332 = .ok (.aload_n 0, 1) := by decide +kernel
theorem dX13_qGoesOn_333 : decode cX13_qGoesOn 333 = .ok (.getfield 264, 3) := by decide +kernel
theorem dX13_qGoesOn_336 : decode cX13_qGoesOn 336 = .ok (.ifCond .eq 5, 3) := by decide +kernel
theorem dX13_qGoesOn_339 : decode cX13_qGoesOn 339 = .ok (.iconst 0, 1) := by decide +kernel
theorem dX13_qGoesOn_340 : decode cX13_qGoesOn 340 = .ok (.ireturn, 1) := by decide +kernel
theorem dX13_qGoesOn_341 : decode cX13_qGoesOn 341 = .ok (.aload_n 0, 1) := by decide +kernel
theorem dX13_qGoesOn_342 : decode cX13_qGoesOn 342 = .ok (.invokevirtual 638, 3) := by decide +kernel
theorem dX13_qGoesOn_345 : decode cX13_qGoesOn 345 = .ok (.aload_n 0, 1) := by decide +kernel
theorem dX13_qGoesOn_346 : decode cX13_qGoesOn 346 = .ok (.getfield 252, 3) := by decide +kernel
theorem dX13_qGoesOn_349 : decode cX13_qGoesOn 349 = .ok (.aload_n 0, 1) := by decide +kernel
theorem dX13_qGoesOn_350 : decode cX13_qGoesOn 350 = .ok (.getfield 358, 3) := by decide +kernel
theorem dX13_qGoesOn_353 : decode cX13_qGoesOn 353 = .ok (.iconst 1, 1) := by decide +kernel
theorem dX13_qGoesOn_354 : decode cX13_qGoesOn 354 = .ok (.isub, 1) := by decide +kernel
theorem dX13_qGoesOn_355 : decode cX13_qGoesOn 355 = .ok (.dup2, 1) := by decide +kernel
theorem dX13_qGoesOn_356 : decode cX13_qGoesOn 356 = .ok (.iaload, 1) := by decide +kernel
theorem dX13_qGoesOn_357 : decode cX13_qGoesOn 357 = .ok (.iconst 2, 1) := by decide +kernel
theorem dX13_qGoesOn_358 : decode cX13_qGoesOn 358 = .ok (.iadd, 1) := by decide +kernel
theorem dX13_qGoesOn_359 : decode cX13_qGoesOn 359 = .ok (.iastore, 1) := by decide +kernel
theorem dX13_qGoesOn_360 : decode cX13_qGoesOn 360 = .ok (.iconst 1, 1) := by decide +kernel
theorem dX13_qGoesOn_361 : decode cX13_qGoesOn 361 = .ok (.ireturn, 1) := by decide +kernel
theorem dX13_qGoesOn_362 : decode cX13_qGoesOn 362 = .ok (.aload_n 0, 1) := by decide +kernel
theorem dX13_qGoesOn_363 : decode cX13_qGoesOn 363 = .ok (.invokevirtual 635, 3) := by decide +kernel
theorem dX13_qGoesOn_366 : decode cX13_qGoesOn 366 = .ok (.iconst (-1), 1) := by decide +kernel
theorem dX13_qGoesOn_367 : decode cX13_qGoesOn 367 = .ok (.if_icmp .eq 19, 3) := by decide +kernel
theorem dX13_qGoesOn_370 : decode cX13_qGoesOn 370 = .ok (.aload_n 0, 1) := by decide +kernel
theorem dX13_qGoesOn_371 : decode cX13_qGoesOn 371 = .ok (.getfield 264, 3) := by decide +kernel
theorem dX13_qGoesOn_374 : decode cX13_qGoesOn 374 = .ok (.ifCond .ne 12, 3) := by decide +kernel
theorem dX13_qGoesOn_377 : decode cX13_qGoesOn 377 = .ok (.aload_n 0, 1) := by decide +kernel
theorem dX13_qGoesOn_378 : decode cX13_qGoesOn 378 = .ok (.iconst 1, 1) := by decide +kernel
theorem dX13_qGoesOn_379 : decode cX13_qGoesOn 379 = .ok (.aload_n 0, 1) := by decide +kernel
theorem dX13_qGoesOn_380 : decode cX13_qGoesOn 380 = .ok (.getfield 270, 3) := by decide +kernel
theorem dX13_qGoesOn_383 : decode cX13_qGoesOn 383 = .ok (.invokevirtual 294, 3) := by decide +kernel
theorem dX13_qGoesOn_386 : decode cX13_qGoesOn 386 = .ok (.iconst 0, 1) := by decide +kernel
theorem dX13_qGoesOn_387 : decode cX13_qGoesOn 387 = .ok (.ireturn, 1) := by decide +kernel
theorem dX13_qSums_0 : decode cX13_qSums 0 = .ok (.aload_n 0, 1) := by decide +kernel
theorem dX13_qSums_1 : decode cX13_qSums 1 = .ok (.getfield 364, 3) := by decide +kernel
theorem dX13_qSums_4 : decode cX13_qSums 4 = .ok (.istore_n 1, 1) := by decide +kernel
theorem dX13_qSums_5 : decode cX13_qSums 5 = .ok (.aload_n 0, 1) := by decide +kernel
theorem dX13_qSums_6 : decode cX13_qSums 6 = .ok (.aload_n 0, 1) := by decide +kernel
theorem dX13_qSums_7 : decode cX13_qSums 7 = .ok (.getfield 358, 3) := by decide +kernel
theorem dX13_qSums_10 : decode cX13_qSums 10 = .ok (.putfield 364, 3) := by decide +kernel
theorem dX13_qSums_13 : decode cX13_qSums 13 = .ok (.iconst 1, 1) := by decide +kernel
theorem dX13_qSums_14 : decode cX13_qSums 14 = .ok (.istore_n 2, 1) := by decide +kernel
theorem dX13_qSums_15 : decode cX13_qSums 15 = .ok (.iload_n 2, 1) := by decide +kernel
theorem dX13_qSums_16 : decode cX13_qSums 16 = .ok (.ifCond .eq 37, 3) := by decide +kernel
theorem dX13_qSums_19 : decode cX13_qSums 19 = .ok (.aload_n 0, 1) := by decide +kernel
theorem dX13_qSums_20 : decode cX13_qSums 20 = .ok (.getfield 264, 3) := by decide +kernel
theorem dX13_qSums_23 : decode cX13_qSums 23 = .ok (.ifCond .ne 30, 3) := by decide +kernel
theorem dX13_qSums_26 : decode cX13_qSums 26 = .ok (.aload_n 0, 1) := by decide +kernel
theorem dX13_qSums_27 : decode cX13_qSums 27 = .ok (.invokevirtual 644, 3) := by decide +kernel
theorem dX13_qSums_30 : decode cX13_qSums 30 = .ok (.aload_n 0, 1) := by decide +kernel
theorem dX13_qSums_31 : decode cX13_qSums 31 = .ok (.getfield 264, 3) := by decide +kernel
theorem dX13_qSums_34 : decode cX13_qSums 34 = .ok (.ifCond .ne 14, 3) := by decide +kernel
theorem dX13_qSums_37 : decode cX13_qSums 37 = .ok (.aload_n 0, 1) := by decide +kernel
theorem dX13_qSums_38 : decode cX13_qSums 38 = .ok (.invokevirtual 647, 3) := by decide +kernel
theorem dX13_qSums_41 : decode cX13_qSums 41 = .ok (.ifCond .eq 7, 3) := by decide +kernel
theorem dX13_qSums_44 : decode cX13_qSums 44 = .ok (.iconst 1, 1) := by decide +kernel
theorem dX13_qSums_45 : decode cX13_qSums 45 = .ok (.goto 4, 3) := by decide +kernel
theorem dX13_qSums_48 : decode cX13_qSums 48 = .ok (.iconst 0, 1) := by decide +kernel
theorem dX13_qSums_49 : decode cX13_qSums 49 = .ok (.istore_n 2, 1) := by decide +kernel
theorem dX13_qSums_50 : decode cX13_qSums 50 = .ok (.goto (-35), 3) := by decide +kernel
theorem dX13_qSums_53 : decode cX13_qSums 53 = .ok (.aload_n 0, 1) := by decide +kernel
theorem dX13_qSums_54 : decode cX13_qSums 54 = .ok (.getfield 264, 3) := by decide +kernel
theorem dX13_qSums_57 : decode cX13_qSums 57 = .ok (.ifCond .ne 21, 3) := by decide +kernel
theorem dX13_qSums_60 : decode cX13_qSums 60 = .ok (.aload_n 0, 1) := by decide +kernel
theorem dX13_qSums_61 : decode cX13_qSums 61 = .ok (.getfield 358, 3) := by decide +kernel
theorem dX13_qSums_64 : decode cX13_qSums 64 = .ok (.aload_n 0, 1) := by decide +kernel
theorem dX13_qSums_65 : decode cX13_qSums 65 = .ok (.getfield 364, 3) := by decide +kernel
theorem dX13_qSums_68 : decode cX13_qSums 68 = .ok (.if_icmp .le 10, 3) := by decide +kernel
theorem dX13_qSums_71 : decode cX13_qSums 71 = .ok (.aload_n 0, 1) := by decide +kernel
theorem dX13_qSums_72 : decode cX13_qSums 72 = .ok (.invokevirtual 614, 3) := by decide +kernel
theorem dX13_qSums_75 : decode cX13_qSums 75 = .ok (.goto (-22), 3) := by decide +kernel
theorem dX13_qSums_78 : decode cX13_qSums 78 = .ok (.aload_n 0, 1) := by decide +kernel
theorem dX13_qSums_79 : decode cX13_qSums 79 = .ok (.iload_n 1, 1) := by decide +kernel
theorem dX13_qSums_80 : decode cX13_qSums 80 = .ok (.putfield 364, 3) := by decide +kernel
theorem dX13_qSums_83 : decode cX13_qSums 83 = .ok (.return_, 1) := by decide +kernel
theorem dX13_qFact_0 : decode cX13_qFact 0 = .ok (.aload_n 0, 1) := by decide +kernel
theorem dX13_qFact_1 : decode cX13_qFact 1 = .ok (.aload_n 0, 1) := by decide +kernel
theorem dX13_qFact_2 : decode cX13_qFact 2 = .ok (.getfield 210, 3) := by decide +kernel
theorem dX13_qFact_5 : decode cX13_qFact 5 = .ok (.invokevirtual 291, 3) := by decide +kernel
theorem dX13_qFact_8 : decode cX13_qFact 8 = .ok (.ifCond .eq 10, 3) := by decide +kernel
theorem dX13_qFact_11 : decode cX13_qFact 11 = .ok (.aload_n 0, 1) := by decide +kernel
theorem dX13_qFact_12 : decode cX13_qFact 12 = .ok (.bipush 13, 2) := by decide +kernel
theorem dX13_qFact_14 : decode cX13_qFact 14 = .ok (.invokevirtual 608, 3) := by decide +kernel
theorem dX13_qFact_17 : decode cX13_qFact 17 = .ok (.return_, 1) := by decide +kernel
theorem dX13_qFact_18 : decode cX13_qFact 18 = .ok (.aload_n 0, 1) := by decide +kernel
theorem dX13_qFact_19 : decode cX13_qFact 19 = .ok (.invokevirtual 370, 3) := by decide +kernel
theorem dX13_qFact_22 : decode cX13_qFact 22 = .ok (.aload_n 0, 1) := by decide +kernel
theorem dX13_qFact_23 : decode cX13_qFact 23 = .ok (.getfield 264, 3) := by decide +kernel
theorem dX13_qFact_26 : decode cX13_qFact 26 = .ok (.ifCond .eq 4, 3) := by decide +kernel
theorem dX13_qFact_29 : decode cX13_qFact 29 = .ok (.return_, 1) := by decide +kernel
theorem dX13_qFact_30 : decode cX13_qFact 30 = .ok (.aload_n 0, 1) := by decide +kernel
theorem dX13_qFact_31 : decode cX13_qFact 31 = .ok (.invokevirtual 276, 3) := by decide +kernel
theorem dX13_qFact_34 : decode cX13_qFact 34 = .ok (.istore_n 1, 1) := by decide +kernel
theorem dX13_qFact_35 : decode cX13_qFact 35 = .ok (.iload_n 1, 1) := by decide +kernel
theorem dX13_qFact_36 : decode cX13_qFact 36 = .ok (.bipush 60, 2) := by decide +kernel
theorem dX13_qFact_38 : decode cX13_qFact 38 = .ok (.if_icmp .eq 25, 3) := by decide +kernel
theorem dX13_qFact_41 : decode cX13_qFact 41 = .ok (.iload_n 1, 1) := by decide +kernel
theorem dX13_qFact_42 : decode cX13_qFact 42 = .ok (.bipush 62, 2) := by decide +kernel
theorem dX13_qFact_44 : decode cX13_qFact 44 = .ok (.if_icmp .eq 19, 3) := by decide +kernel
theorem dX13_qFact_47 : decode cX13_qFact 47 = .ok (.iload_n 1, 1) := by decide +kernel
theorem dX13_qFact_48 : decode cX13_qFact 48 = .ok (.bipush 61, 2) := by decide +kernel
theorem dX13_qFact_50 : decode cX13_qFact 50 = .ok (.if_icmp .eq 13, 3) := by decide +kernel
theorem dX13_qFact_53 : decode cX13_qFact 53 = .ok (.aload_n 0, 1) := by decide +kernel
theorem dX13_qFact_54 : decode cX13_qFact 54 = .ok (.iconst 1, 1) := by decide +kernel
theorem dX13_qFact_55 : decode cX13_qFact 55 = .ok (.aload_n 0, 1) := by decide +kernel
theorem dX13_qFact_56 : decode cX13_qFact 56 = .ok (.getfield 270, 3) := by decide +kernel
theorem dX13_qFact_59 : decode cX13_qFact 59 = .ok (.invokevirtual 294, 3) := by decide +kernel
theorem dX13_qFact_62 : decode cX13_qFact 62 = .ok (.return_, 1) := by decide +kernel
theorem dX13_qFact_63 : decode cX13_qFact 63 = .ok (.aload_n 0, 1) := by decide +kernel
theorem dX13_qFact_64 : decode cX13_qFact 64 = .ok (.dup, 1) := by decide +kernel
theorem dX13_qFact_65 : decode cX13_qFact 65 = .ok (.getfield 270, 3) := by decide +kernel
theorem dX13_qFact_68 : decode cX13_qFact 68 = .ok (.iconst 1, 1) := by decide +kernel
theorem dX13_qFact_69 : decode cX13_qFact 69 = .ok (.iadd, 1) := by decide +kernel
theorem dX13_qFact_70 : decode cX13_qFact 70 = .ok (.putfield 270, 3) := by decide +kernel
theorem dX13_qFact_73 : decode cX13_qFact 73 = .ok (.aload_n 0, 1) := by decide +kernel
theorem dX13_qFact_74 : decode cX13_qFact 74 = .ok (.invokevirtual 370, 3) := by decide +kernel
theorem dX13_qFact_77 : decode cX13_qFact 77 = .ok (.aload_n 0, 1) := by decide +kernel
theorem dX13_qFact_78 : decode cX13_qFact 78 = .ok (.iload_n 1, 1) := by decide +kernel
theorem dX13_qFact_79 : decode cX13_qFact 79 = .ok (.bipush 60, 2) := by decide +kernel
theorem dX13_qFact_81 : decode cX13_qFact 81 = .ok (.if_icmp .ne 8, 3) := by decide +kernel
theorem dX13_qFact_84 : decode cX13_qFact 84 = .ok (.bipush 7, 2) := by decide +kernel
theorem dX13_qFact_86 : decode cX13_qFact 86 = .ok (.goto 16, 3) := by decide +kernel
theorem dX13_qFact_89 : decode cX13_qFact 89 = .ok (.iload_n 1, 1) := by decide +kernel
theorem dX13_qFact_90 : decode cX13_qFact 90 = .ok (.bipush 62, 2) := by decide +kernel
theorem dX13_qFact_92 : decode cX13_qFact 92 = .ok (.if_icmp .ne 8, 3) := by decide +kernel
theorem dX13_qFact_95 : decode cX13_qFact 95 = .ok (.bipush 8, 2) := by decide +kernel
theorem dX13_qFact_97 : decode cX13_qFact 97 = .ok (.goto 5, 3) := by decide +kernel
theorem dX13_qFact_100 : decode cX13_qFact 100 = .ok (.bipush 9, 2) := by decide +kernel
theorem dX13_qFact_102 : decode cX13_qFact 102 = .ok (.invokevirtual 608, 3) := by decide +kernel
theorem dX13_qFact_105 : decode cX13_qFact 105 = .ok (.return_, 1) := by decide +kernel
theorem dX13_qHasSquare_0 : decode cX13_qHasSquare 0 = .ok (.iconst 0, 1) := by decide +kernel
theorem dX13_qHasSquare_1 : decode cX13_qHasSquare 1 = .ok (.istore_n 1, 1) := by decide +kernel
theorem dX13_qHasSquare_2 : decode cX13_qHasSquare 2 = .ok (.iload_n 1, 1) := by decide +kernel
theorem dX13_qHasSquare_3 : decode cX13_qHasSquare 3 = .ok (.aload_n 0, 1) := by decide +kernel
theorem dX13_qHasSquare_4 : decode cX13_qHasSquare 4 = .ok (.getfield 358, 3) := by decide +kernel
theorem dX13_qHasSquare_7 : decode cX13_qHasSquare 7 = .ok (.if_icmp .ge 22, 3) := by decide +kernel
theorem dX13_qHasSquare_10 : decode cX13_qHasSquare 10 = .ok (.aload_n 0, 1) := by decide +kernel
theorem dX13_qHasSquare_11 : decode cX13_qHasSquare 11 = .ok (.getfield 252, 3) := by decide +kernel
theorem dX13_qHasSquare_14 : decode cX13_qHasSquare 14 = .ok (.iload_n 1, 1) := by decide +kernel
theorem dX13_qHasSquare_15 : decode cX13_qHasSquare 15 = .ok (.iaload, 1) := by decide +kernel
theorem dX13_qHasSquare_16 : decode cX13_qHasSquare 16 = .ok (.bipush 25, 2) := by decide +kernel
theorem dX13_qHasSquare_18 : decode cX13_qHasSquare 18 = .ok (.if_icmp .ne 5, 3) := by decide +kernel
theorem dX13_qHasSquare_21 : decode cX13_qHasSquare 21 = .ok (.iconst 1, 1) := by decide +kernel
theorem dX13_qHasSquare_22 : decode cX13_qHasSquare 22 = .ok (.ireturn, 1) := by decide +kernel
theorem dX13_qHasSquare_23 : decode cX13_qHasSquare 23 = .ok (.iinc 1 1, 3) := by decide +kernel
theorem dX13_qHasSquare_26 : decode cX13_qHasSquare 26 = .ok (.goto (-24), 3) := by decide +kernel
theorem dX13_qHasSquare_29 : decode cX13_qHasSquare 29 = .ok (.iconst 0, 1) := by decide +kernel
theorem dX13_qHasSquare_30 : decode cX13_qHasSquare 30 = .ok (.ireturn, 1) := by decide +kernel
theorem dX13_qDropsNots_0 : decode cX13_qDropsNots 0 = .ok (.aload_n 0, 1) := by decide +kernel
theorem dX13_qDropsNots_1 : decode cX13_qDropsNots 1 = .ok (.getfield 264, 3) := by decide +kernel
theorem dX13_qDropsNots_4 : decode cX13_qDropsNots 4 = .ok (.ifCond .ne 29, 3) := by decide +kernel
theorem dX13_qDropsNots_7 : decode cX13_qDropsNots 7 = .ok (.aload_n 0, 1) := by decide +kernel
theorem dX13_qDropsNots_8 : decode cX13_qDropsNots 8 = .ok (.bipush 12, 2) := by decide +kernel
theorem dX13_qDropsNots_10 : decode cX13_qDropsNots 10 = .ok (.invokevirtual 641, 3) := by decide +kernel
theorem dX13_qDropsNots_13 : decode cX13_qDropsNots 13 = .ok (.ifCond .eq 20, 3) := by decide +kernel
theorem dX13_qDropsNots_16 : decode cX13_qDropsNots 16 = .ok (.aload_n 0, 1) := by decide +kernel
theorem dX13_qDropsNots_17 : decode cX13_qDropsNots 17 = .ok (.dup, 1) := by decide +kernel
theorem dX13_qDropsNots_18 : decode cX13_qDropsNots 18 = .ok (.getfield 361, 3) := by decide +kernel
theorem dX13_qDropsNots_21 : decode cX13_qDropsNots 21 = .ok (.iconst 1, 1) := by decide +kernel
theorem dX13_qDropsNots_22 : decode cX13_qDropsNots 22 = .ok (.isub, 1) := by decide +kernel
theorem dX13_qDropsNots_23 : decode cX13_qDropsNots 23 = .ok (.putfield 361, 3) := by decide +kernel
theorem dX13_qDropsNots_26 : decode cX13_qDropsNots 26 = .ok (.aload_n 0, 1) := by decide +kernel
theorem dX13_qDropsNots_27 : decode cX13_qDropsNots 27 = .ok (.invokevirtual 614, 3) := by decide +kernel
theorem dX13_qDropsNots_30 : decode cX13_qDropsNots 30 = .ok (.goto (-30), 3) := by decide +kernel
theorem dX13_qDropsNots_33 : decode cX13_qDropsNots 33 = .ok (.return_, 1) := by decide +kernel
theorem dX13_qTest_0 : decode cX13_qTest 0 = .ok (.iconst 1, 1) := by decide +kernel
theorem dX13_qTest_1 : decode cX13_qTest 1 = .ok (.istore_n 1, 1) := by decide +kernel
theorem dX13_qTest_2 : decode cX13_qTest 2 = .ok (.iload_n 1, 1) := by decide +kernel
theorem dX13_qTest_3 : decode cX13_qTest 3 = .ok (.ifCond .eq 107, 3) := by decide +kernel
theorem dX13_qTest_6 : decode cX13_qTest 6 = .ok (.aload_n 0, 1) := by decide +kernel
theorem dX13_qTest_7 : decode cX13_qTest 7 = .ok (.getfield 264, 3) := by decide +kernel
theorem dX13_qTest_10 : decode cX13_qTest 10 = .ok (.ifCond .ne 100, 3) := by decide +kernel
theorem dX13_qTest_13 : decode cX13_qTest 13 = .ok (.aload_n 0, 1) := by decide +kernel
theorem dX13_qTest_14 : decode cX13_qTest 14 = .ok (.invokevirtual 276, 3) := by decide +kernel
theorem dX13_qTest_17 : decode cX13_qTest 17 = .ok (.istore_n 2, 1) := by decide +kernel
theorem dX13_qTest_18 : decode cX13_qTest 18 = .ok (.iload_n 2, 1) := by decide +kernel
theorem dX13_qTest_19 : decode cX13_qTest 19 = .ok (.bipush 91, 2) := by decide +kernel
theorem dX13_qTest_21 : decode cX13_qTest 21 = .ok (.if_icmp .ne 26, 3) := by decide +kernel
theorem dX13_qTest_24 : decode cX13_qTest 24 = .ok (.aload_n 0, 1) := by decide +kernel
theorem dX13_qTest_25 : decode cX13_qTest 25 = .ok (.bipush 25, 2) := by decide +kernel
theorem dX13_qTest_27 : decode cX13_qTest 27 = .ok (.aload_n 0, 1) := by decide +kernel
theorem dX13_qTest_28 : decode cX13_qTest 28 = .ok (.getfield 270, 3) := by decide +kernel
theorem dX13_qTest_31 : decode cX13_qTest 31 = .ok (.invokevirtual 626, 3) := by decide +kernel
theorem dX13_qTest_34 : decode cX13_qTest 34 = .ok (.aload_n 0, 1) := by decide +kernel
theorem dX13_qTest_35 : decode cX13_qTest 35 = .ok (.dup, 1) := by decide +kernel
theorem dX13_qTest_36 : decode cX13_qTest 36 = .ok (.getfield 270, 3) := by decide +kernel
theorem dX13_qTest_39 : decode cX13_qTest 39 = .ok (.iconst 1, 1) := by decide +kernel
theorem dX13_qTest_40 : decode cX13_qTest 40 = .ok (.iadd, 1) := by decide +kernel
theorem dX13_qTest_41 : decode cX13_qTest 41 = .ok (.putfield 270, 3) := by decide +kernel
theorem dX13_qTest_44 : decode cX13_qTest 44 = .ok (.goto (-42), 3) := by decide +kernel
theorem dX13_qTest_47 : decode cX13_qTest 47 = .ok (.aload_n 0, 1) := by decide +kernel
theorem dX13_qTest_48 : decode cX13_qTest 48 = .ok (.aload_n 0, 1) := by decide +kernel
theorem dX13_qTest_49 : decode cX13_qTest 49 = .ok (.getfield 201, 3) := by decide +kernel
theorem dX13_qTest_52 : decode cX13_qTest 52 = .ok (.invokevirtual 287, 3) := by decide +kernel
theorem dX13_qTest_55 : decode cX13_qTest 55 = .ok (.ifCond .eq 24, 3) := by decide +kernel
theorem dX13_qTest_58 : decode cX13_qTest 58 = .ok (.aload_n 0, 1) := by decide +kernel
theorem dX13_qTest_59 : decode cX13_qTest 59 = .ok (.bipush 12, 2) := by decide +kernel
theorem dX13_qTest_61 : decode cX13_qTest 61 = .ok (.aload_n 0, 1) := by decide +kernel
theorem dX13_qTest_62 : decode cX13_qTest 62 = .ok (.getfield 270, 3) := by decide +kernel
theorem dX13_qTest_65 : decode cX13_qTest 65 = .ok (.invokevirtual 626, 3) := by decide +kernel
theorem dX13_qTest_68 : decode cX13_qTest 68 = .ok (.aload_n 0, 1) := by decide +kernel
theorem dX13_qTest_69 : decode cX13_qTest 69 = .ok (.aload_n 0, 1) := by decide +kernel
theorem dX13_qTest_70 : decode cX13_qTest 70 = .ok (.getfield 201, 3) := by decide +kernel
theorem dX13_qTest_73 : decode cX13_qTest 73 = .ok (.invokevirtual 337, 3) := by decide +kernel
theorem dX13_qTest_76 : decode cX13_qTest 76 = .ok (.goto (-74), 3) := by decide +kernel
theorem dX13_qTest_79 : decode cX13_qTest 79 = .ok (.aload_n 0, 1) := by decide +kernel
theorem dX13_qTest_80 : decode cX13_qTest 80 = .ok (.invokevirtual 650, 3) := by decide +kernel
theorem dX13_qTest_83 : decode cX13_qTest 83 = .ok (.aload_n 0, 1) := by decide +kernel
theorem dX13_qTest_84 : decode cX13_qTest 84 = .ok (.invokevirtual 653, 3) := by decide +kernel
theorem dX13_qTest_87 : decode cX13_qTest 87 = .ok (.aload_n 0, 1) := by decide +kernel
theorem dX13_qTest_88 : decode cX13_qTest 88 = .ok (.getfield 264, 3) := by decide +kernel
theorem dX13_qTest_91 : decode cX13_qTest 91 = .ok (.ifCond .ne 14, 3) := by decide +kernel
theorem dX13_qTest_94 : decode cX13_qTest 94 = .ok (.aload_n 0, 1) := by decide +kernel
theorem dX13_qTest_95 : decode cX13_qTest 95 = .ok (.invokevirtual 656, 3) := by decide +kernel
theorem dX13_qTest_98 : decode cX13_qTest 98 = .ok (.ifCond .eq 7, 3) := by decide +kernel
theorem dX13_qTest_101 : decode cX13_qTest 101 = .ok (.iconst 1, 1) := by decide +kernel
theorem dX13_qTest_102 : decode cX13_qTest 102 = .ok (.goto 4, 3) := by decide +kernel
theorem dX13_qTest_105 : decode cX13_qTest 105 = .ok (.iconst 0, 1) := by decide +kernel
theorem dX13_qTest_106 : decode cX13_qTest 106 = .ok (.istore_n 1, 1) := by decide +kernel
theorem dX13_qTest_107 : decode cX13_qTest 107 = .ok (.goto (-105), 3) := by decide +kernel
theorem dX13_qTest_110 : decode cX13_qTest 110 = .ok (.aload_n 0, 1) := by decide +kernel
theorem dX13_qTest_111 : decode cX13_qTest 111 = .ok (.getfield 264, 3) := by decide +kernel
theorem dX13_qTest_114 : decode cX13_qTest 114 = .ok (.ifCond .ne 17, 3) := by decide +kernel
theorem dX13_qTest_117 : decode cX13_qTest 117 = .ok (.aload_n 0, 1) := by decide +kernel
theorem dX13_qTest_118 : decode cX13_qTest 118 = .ok (.getfield 358, 3) := by decide +kernel
theorem dX13_qTest_121 : decode cX13_qTest 121 = .ok (.ifCond .le 10, 3) := by decide +kernel
theorem dX13_qTest_124 : decode cX13_qTest 124 = .ok (.aload_n 0, 1) := by decide +kernel
theorem dX13_qTest_125 : decode cX13_qTest 125 = .ok (.invokevirtual 614, 3) := by decide +kernel
theorem dX13_qTest_128 : decode cX13_qTest 128 = .ok (.goto (-18), 3) := by decide +kernel
theorem dX13_qTest_131 : decode cX13_qTest 131 = .ok (.return_, 1) := by decide +kernel
theorem dX13_qGoesOnTest_0 : decode cX13_qGoesOnTest 0 = .ok (.aload_n 0, 1) := by decide +kernel
theorem dX13_qGoesOnTest_1 : decode cX13_qGoesOnTest 1 = .ok (.getfield 264, 3) := by decide +kernel
theorem dX13_qGoesOnTest_4 : decode cX13_qGoesOnTest 4 = .ok (.ifCond .ne 72, 3) := by decide +kernel
theorem dX13_qGoesOnTest_7 : decode cX13_qGoesOnTest 7 = .ok (.aload_n 0, 1) := by decide +kernel
theorem dX13_qGoesOnTest_8 : decode cX13_qGoesOnTest 8 = .ok (.invokevirtual 276, 3) := by decide +kernel
theorem dX13_qGoesOnTest_11 : decode cX13_qGoesOnTest 11 = .ok (.bipush 93, 2) := by decide +kernel
theorem dX13_qGoesOnTest_13 : decode cX13_qGoesOnTest 13 = .ok (.if_icmp .ne 63, 3) := by decide +kernel
theorem dX13_qGoesOnTest_16 : decode cX13_qGoesOnTest 16 = .ok (.aload_n 0, 1) := by decide +kernel
theorem dX13_qGoesOnTest_17 : decode cX13_qGoesOnTest 17 = .ok (.invokevirtual 659, 3) := by decide +kernel
theorem dX13_qGoesOnTest_20 : decode cX13_qGoesOnTest 20 = .ok (.ifCond .eq 56, 3) := by decide +kernel
theorem dX13_qGoesOnTest_23 : decode cX13_qGoesOnTest 23 = .ok (.aload_n 0, 1) := by decide +kernel
theorem dX13_qGoesOnTest_24 : decode cX13_qGoesOnTest 24 = .ok (.dup, 1) := by decide +kernel
theorem dX13_qGoesOnTest_25 : decode cX13_qGoesOnTest 25 = .ok (.getfield 270, 3) := by decide +kernel
theorem dX13_qGoesOnTest_28 : decode cX13_qGoesOnTest 28 = .ok (.iconst 1, 1) := by decide +kernel
theorem dX13_qGoesOnTest_29 : decode cX13_qGoesOnTest 29 = .ok (.iadd, 1) := by decide +kernel
theorem dX13_qGoesOnTest_30 : decode cX13_qGoesOnTest 30 = .ok (.putfield 270, 3) := by decide +kernel
theorem dX13_qGoesOnTest_33 : decode cX13_qGoesOnTest 33 = .ok (.aload_n 0, 1) := by decide +kernel
theorem dX13_qGoesOnTest_34 : decode cX13_qGoesOnTest 34 = .ok (.bipush 25, 2) := by decide +kernel
theorem dX13_qGoesOnTest_36 : decode cX13_qGoesOnTest 36 = .ok (.invokevirtual 641, 3) := by decide +kernel
theorem dX13_qGoesOnTest_39 : decode cX13_qGoesOnTest 39 = .ok (.ifCond .ne 10, 3) := by decide +kernel
theorem dX13_qGoesOnTest_42 : decode cX13_qGoesOnTest 42 = .ok (.aload_n 0, 1) := by decide +kernel
theorem dX13_qGoesOnTest_43 : decode cX13_qGoesOnTest 43 = .ok (.invokevirtual 614, 3) := by decide +kernel
theorem dX13_qGoesOnTest_46 : decode cX13_qGoesOnTest 46 = .ok (.goto (-13), 3) := by decide +kernel
theorem dX13_qGoesOnTest_49 : decode cX13_qGoesOnTest 49 = .ok (.aload_n 0, 1) := by decide +kernel
theorem dX13_qGoesOnTest_50 : decode cX13_qGoesOnTest 50 = .ok (.dup, 1) := by decide +kernel
theorem dX13_qGoesOnTest_51 : decode cX13_qGoesOnTest 51 = .ok (.getfield 358, 3) := by decide +kernel
theorem dX13_qGoesOnTest_54 : decode cX13_qGoesOnTest 54 = .ok (.iconst 1, 1) := by decide +kernel
theorem dX13_qGoesOnTest_55 : decode cX13_qGoesOnTest 55 = .ok (.isub, 1) := by decide +kernel
theorem dX13_qGoesOnTest_56 : decode cX13_qGoesOnTest 56 = .ok (.putfield 358, 3) := by decide +kernel
theorem dX13_qGoesOnTest_59 : decode cX13_qGoesOnTest 59 = .ok (.aload_n 0, 1) := by decide +kernel
theorem dX13_qGoesOnTest_60 : decode cX13_qGoesOnTest 60 = .ok (.dup, 1) := by decide +kernel
theorem dX13_qGoesOnTest_61 : decode cX13_qGoesOnTest 61 = .ok (.getfield 361, 3) := by decide +kernel
theorem dX13_qGoesOnTest_64 : decode cX13_qGoesOnTest 64 = .ok (.iconst 1, 1) := by decide +kernel
theorem dX13_qGoesOnTest_65 : decode cX13_qGoesOnTest 65 = .ok (.isub, 1) := by decide +kernel
theorem dX13_qGoesOnTest_66 : decode cX13_qGoesOnTest 66 = .ok (.putfield 361, 3) := by decide +kernel
theorem dX13_qGoesOnTest_69 : decode cX13_qGoesOnTest 69 = .ok (.aload_n 0, 1) := by decide +kernel
theorem dX13_qGoesOnTest_70 : decode cX13_qGoesOnTest 70 = .ok (.invokevirtual 653, 3) := by decide +kernel
theorem dX13_qGoesOnTest_73 : decode cX13_qGoesOnTest 73 = .ok (.goto (-73), 3) := by decide +kernel
theorem dX13_qGoesOnTest_76 : decode cX13_qGoesOnTest 76 = .ok (.aload_n 0, 1) := by decide +kernel
theorem dX13_qGoesOnTest_77 : decode cX13_qGoesOnTest 77 = .ok (.aload_n 0, 1) := by decide +kernel
theorem dX13_qGoesOnTest_78 : decode cX13_qGoesOnTest 78 = .ok (.getfield 204, 3) := by decide +kernel
theorem dX13_qGoesOnTest_81 : decode cX13_qGoesOnTest 81 = .ok (.invokevirtual 291, 3) := by decide +kernel
theorem dX13_qGoesOnTest_84 : decode cX13_qGoesOnTest 84 = .ok (.ifCond .eq 42, 3) := by decide +kernel
theorem dX13_qGoesOnTest_87 : decode cX13_qGoesOnTest 87 = .ok (.aload_n 0, 1) := by decide +kernel
theorem dX13_qGoesOnTest_88 : decode cX13_qGoesOnTest 88 = .ok (.bipush 10, 2) := by decide +kernel
theorem dX13_qGoesOnTest_90 : decode cX13_qGoesOnTest 90 = .ok (.invokevirtual 641, 3) := by decide +kernel
theorem dX13_qGoesOnTest_93 : decode cX13_qGoesOnTest 93 = .ok (.ifCond .eq 10, 3) := by decide +kernel
theorem dX13_qGoesOnTest_96 : decode cX13_qGoesOnTest 96 = .ok (.aload_n 0, 1) := by decide +kernel
theorem dX13_qGoesOnTest_97 : decode cX13_qGoesOnTest 97 = .ok (.invokevirtual 614, 3) := by decide +kernel
theorem dX13_qGoesOnTest_100 : decode cX13_qGoesOnTest 100 = .ok (.goto (-13), 3) := by decide +kernel
theorem dX13_qGoesOnTest_103 : decode cX13_qGoesOnTest 103 = .ok (.aload_n 0, 1) := by decide +kernel
theorem dX13_qGoesOnTest_104 : decode cX13_qGoesOnTest 104 = .ok (.getfield 252, 3) := by decide +kernel
theorem dX13_qGoesOnTest_107 : decode cX13_qGoesOnTest 107 = .ok (.aload_n 0, 1) := by decide +kernel
theorem dX13_qGoesOnTest_108 : decode cX13_qGoesOnTest 108 = .ok (.getfield 358, 3) := by decide +kernel
theorem dX13_qGoesOnTest_111 : decode cX13_qGoesOnTest 111 = .ok (.bipush 10, 2) := by decide +kernel
theorem dX13_qGoesOnTest_113 : decode cX13_qGoesOnTest 113 = .ok (.iastore, 1) := by decide +kernel
theorem dX13_qGoesOnTest_114 : decode cX13_qGoesOnTest 114 = .ok (.aload_n 0, 1) := by decide +kernel
theorem dX13_qGoesOnTest_115 : decode cX13_qGoesOnTest 115 = .ok (.dup, 1) := by decide +kernel
theorem dX13_qGoesOnTest_116 : decode cX13_qGoesOnTest 116 = .ok (.getfield 358, 3) := by decide +kernel
theorem dX13_qGoesOnTest_119 : decode cX13_qGoesOnTest 119 = .ok (.iconst 1, 1) := by decide +kernel
theorem dX13_qGoesOnTest_120 : decode cX13_qGoesOnTest 120 = .ok (.iadd, 1) := by decide +kernel
theorem dX13_qGoesOnTest_121 : decode cX13_qGoesOnTest 121 = .ok (.putfield 358, 3) := by decide +kernel
theorem dX13_qGoesOnTest_124 : decode cX13_qGoesOnTest 124 = .ok (.iconst 1, 1) := by decide +kernel
theorem dX13_qGoesOnTest_125 : decode cX13_qGoesOnTest 125 = .ok (.ireturn, 1) := by decide +kernel
theorem dX13_qGoesOnTest_126 : decode cX13_qGoesOnTest 126 = .ok (.aload_n 0, 1) := by decide +kernel
theorem dX13_qGoesOnTest_127 : decode cX13_qGoesOnTest 127 = .ok (.aload_n 0, 1) := by decide +kernel
theorem dX13_qGoesOnTest_128 : decode cX13_qGoesOnTest 128 = .ok (.getfield 207, 3) := by decide +kernel
theorem dX13_qGoesOnTest_131 : decode cX13_qGoesOnTest 131 = .ok (.invokevirtual 291, 3) := by decide +kernel
theorem dX13_qGoesOnTest_134 : decode cX13_qGoesOnTest 134 = .ok (.ifCond .eq 51, 3) := by decide +kernel
theorem dX13_qGoesOnTest_137 : decode cX13_qGoesOnTest 137 = .ok (.aload_n 0, 1) := by decide +kernel
theorem dX13_qGoesOnTest_138 : decode cX13_qGoesOnTest 138 = .ok (.bipush 10, 2) := by decide +kernel
theorem dX13_qGoesOnTest_140 : decode cX13_qGoesOnTest 140 = .ok (.invokevirtual 641, 3) := by decide +kernel
theorem dX13_qGoesOnTest_143 : decode cX13_qGoesOnTest 143 = .ok (.ifCond .ne 12, 3) := by decide +kernel
theorem dX13_qGoesOnTest_146 : decode cX13_qGoesOnTest 146 = .ok (.aload_n 0, 1) := by decide +kernel
theorem dX13_qGoesOnTest_147 : decode cX13_qGoesOnTest 147 = .ok (.bipush 11, 2) := by decide +kernel
theorem dX13_qGoesOnTest_149 : decode cX13_qGoesOnTest 149 = .ok (.invokevirtual 641, 3) := by decide +kernel
theorem dX13_qGoesOnTest_152 : decode cX13_qGoesOnTest 152 = .ok (.ifCond .eq 10, 3) := by decide +kernel
theorem dX13_qGoesOnTest_155 : decode cX13_qGoesOnTest 155 = .ok (.aload_n 0, 1) := by decide +kernel
theorem dX13_qGoesOnTest_156 : decode cX13_qGoesOnTest 156 = .ok (.invokevirtual 614, 3) := by decide +kernel
theorem dX13_qGoesOnTest_159 : decode cX13_qGoesOnTest 159 = .ok (.goto (-22), 3) := by decide +kernel
theorem dX13_qGoesOnTest_162 : decode cX13_qGoesOnTest 162 = .ok (.aload_n 0, 1) := by decide +kernel
theorem dX13_qGoesOnTest_163 : decode cX13_qGoesOnTest 163 = .ok (.getfield 252, 3) := by decide +kernel
theorem dX13_qGoesOnTest_166 : decode cX13_qGoesOnTest 166 = .ok (.aload_n 0, 1) := by decide +kernel
theorem dX13_qGoesOnTest_167 : decode cX13_qGoesOnTest 167 = .ok (.getfield 358, 3) := by decide +kernel
theorem dX13_qGoesOnTest_170 : decode cX13_qGoesOnTest 170 = .ok (.bipush 11, 2) := by decide +kernel
theorem dX13_qGoesOnTest_172 : decode cX13_qGoesOnTest 172 = .ok (.iastore, 1) := by decide +kernel
theorem dX13_qGoesOnTest_173 : decode cX13_qGoesOnTest 173 = .ok (.aload_n 0, 1) := by decide +kernel
theorem dX13_qGoesOnTest_174 : decode cX13_qGoesOnTest 174 = .ok (.dup, 1) := by decide +kernel
theorem dX13_qGoesOnTest_175 : decode cX13_qGoesOnTest 175 = .ok (.getfield 358, 3) := by decide +kernel
theorem dX13_qGoesOnTest_178 : decode cX13_qGoesOnTest 178 = .ok (.iconst 1, 1) := by decide +kernel
theorem dX13_qGoesOnTest_179 : decode cX13_qGoesOnTest 179 = .ok (.iadd, 1) := by decide +kernel
theorem dX13_qGoesOnTest_180 : decode cX13_qGoesOnTest 180 = .ok (.putfield 358, 3) := by decide +kernel
theorem dX13_qGoesOnTest_183 : decode cX13_qGoesOnTest 183 = .ok (.iconst 1, 1) := by decide +kernel
theorem dX13_qGoesOnTest_184 : decode cX13_qGoesOnTest 184 = .ok (.ireturn, 1) := by decide +kernel
theorem dX13_qGoesOnTest_185 : decode cX13_qGoesOnTest 185 = .ok (.aload_n 0, 1) := by decide +kernel
theorem dX13_qGoesOnTest_186 : decode cX13_qGoesOnTest 186 = .ok (.getfield 264, 3) := by decide +kernel
theorem dX13_qGoesOnTest_189 : decode cX13_qGoesOnTest 189 = .ok (.ifCond .ne 19, 3) := by decide +kernel
theorem dX13_qGoesOnTest_192 : decode cX13_qGoesOnTest 192 = .ok (.aload_n 0, 1) := by decide +kernel
theorem dX13_qGoesOnTest_193 : decode cX13_qGoesOnTest 193 = .ok (.invokevirtual 659, 3) := by decide +kernel
theorem dX13_qGoesOnTest_196 : decode cX13_qGoesOnTest 196 = .ok (.ifCond .eq 12, 3) := by decide +kernel
theorem dX13_qGoesOnTest_199 : decode cX13_qGoesOnTest 199 = .ok (.aload_n 0, 1) := by decide +kernel
theorem dX13_qGoesOnTest_200 : decode cX13_qGoesOnTest 200 = .ok (.iconst 1, 1) := by decide +kernel
theorem dX13_qGoesOnTest_201 : decode cX13_qGoesOnTest 201 = .ok (.aload_n 0, 1) := by decide +kernel
theorem dX13_qGoesOnTest_202 : decode cX13_qGoesOnTest 202 = .ok (.getfield 270, 3) := by decide +kernel
theorem dX13_qGoesOnTest_205 : decode cX13_qGoesOnTest 205 = .ok (.invokevirtual 294, 3) := by decide +kernel
theorem dX13_qGoesOnTest_208 : decode cX13_qGoesOnTest 208 = .ok (.iconst 0, 1) := by decide +kernel
theorem dX13_qGoesOnTest_209 : decode cX13_qGoesOnTest 209 = .ok (.ireturn, 1) := by decide +kernel
theorem dX13_qClip_0 : decode cX13_qClip 0 = .ok (.lload_n 0, 1) := by decide +kernel
theorem dX13_qClip_1 : decode cX13_qClip 1 = .ok (.ldc2_w 662, 3) := by decide +kernel
theorem dX13_qClip_4 : decode cX13_qClip 4 = .ok (.lcmp, 1) := by decide +kernel
theorem dX13_qClip_5 : decode cX13_qClip 5 = .ok (.ifCond .le 9, 3) := by decide +kernel
theorem dX13_qClip_8 : decode cX13_qClip 8 = .ok (.ldc2_w 662, 3) := by decide +kernel
theorem dX13_qClip_11 : decode cX13_qClip 11 = .ok (.goto 18, 3) := by decide +kernel
theorem dX13_qClip_14 : decode cX13_qClip 14 = .ok (.lload_n 0, 1) := by decide +kernel
theorem dX13_qClip_15 : decode cX13_qClip 15 = .ok (.ldc2_w 664, 3) := by decide +kernel
theorem dX13_qClip_18 : decode cX13_qClip 18 = .ok (.lcmp, 1) := by decide +kernel
theorem dX13_qClip_19 : decode cX13_qClip 19 = .ok (.ifCond .ge 9, 3) := by decide +kernel
theorem dX13_qClip_22 : decode cX13_qClip 22 = .ok (.ldc2_w 664, 3) := by decide +kernel
theorem dX13_qClip_25 : decode cX13_qClip 25 = .ok (.goto 4, 3) := by decide +kernel
theorem dX13_qClip_28 : decode cX13_qClip 28 = .ok (.lload_n 0, 1) := by decide +kernel
theorem dX13_qClip_29 : decode cX13_qClip 29 = .ok (.lreturn, 1) := by decide +kernel
theorem dX13_qFloor_0 : decode cX13_qFloor 0 = .ok (.lload_n 2, 1) := by decide +kernel
theorem dX13_qFloor_1 : decode cX13_qFloor 1 = .ok (.lconst 0, 1) := by decide +kernel
theorem dX13_qFloor_2 : decode cX13_qFloor 2 = .ok (.lcmp, 1) := by decide +kernel
theorem dX13_qFloor_3 : decode cX13_qFloor 3 = .ok (.ifCond .ne 5, 3) := by decide +kernel
theorem dX13_qFloor_6 : decode cX13_qFloor 6 = .ok (.lconst 0, 1) := by decide +kernel
theorem dX13_qFloor_7 : decode cX13_qFloor 7 = .ok (.lreturn, 1) := by decide +kernel
theorem dX13_qFloor_8 : decode cX13_qFloor 8 = .ok (.lload_n 0, 1) := by decide +kernel
theorem dX13_qFloor_9 : decode cX13_qFloor 9 = .ok (.lload_n 2, 1) := by decide +kernel
theorem dX13_qFloor_10 : decode cX13_qFloor 10 = .ok (.ldiv, 1) := by decide +kernel
theorem dX13_qFloor_11 : decode cX13_qFloor 11 = .ok (.lstore 4, 2) := by decide +kernel
theorem dX13_qFloor_13 : decode cX13_qFloor 13 = .ok (.lload_n 0, 1) := by decide +kernel
theorem dX13_qFloor_14 : decode cX13_qFloor 14 = .ok (.lload_n 2, 1) := by decide +kernel
theorem dX13_qFloor_15 : decode cX13_qFloor 15 = .ok (.lrem, 1) := by decide +kernel
theorem dX13_qFloor_16 : decode cX13_qFloor 16 = .ok (.lconst 0, 1) := by decide +kernel
theorem dX13_qFloor_17 : decode cX13_qFloor 17 = .ok (.lcmp, 1) := by decide +kernel
theorem dX13_qFloor_18 : decode cX13_qFloor 18 = .ok (.ifCond .eq 35, 3) := by decide +kernel
theorem dX13_qFloor_21 : decode cX13_qFloor 21 = .ok (.lload_n 0, 1) := by decide +kernel
theorem dX13_qFloor_22 : decode cX13_qFloor 22 = .ok (.lconst 0, 1) := by decide +kernel
theorem dX13_qFloor_23 : decode cX13_qFloor 23 = .ok (.lcmp, 1) := by decide +kernel
theorem dX13_qFloor_24 : decode cX13_qFloor 24 = .ok (.ifCond .ge 7, 3) := by decide +kernel
theorem dX13_qFloor_27 : decode cX13_qFloor 27 = .ok (.iconst 1, 1) := by decide +kernel
theorem dX13_qFloor_28 : decode cX13_qFloor 28 = .ok (.goto 4, 3) := by decide +kernel
theorem dX13_qFloor_31 : decode cX13_qFloor 31 = .ok (.iconst 0, 1) := by decide +kernel
theorem dX13_qFloor_32 : decode cX13_qFloor 32 = .ok (.lload_n 2, 1) := by decide +kernel
theorem dX13_qFloor_33 : decode cX13_qFloor 33 = .ok (.lconst 0, 1) := by decide +kernel
theorem dX13_qFloor_34 : decode cX13_qFloor 34 = .ok (.lcmp, 1) := by decide +kernel
theorem dX13_qFloor_35 : decode cX13_qFloor 35 = .ok (.ifCond .ge 7, 3) := by decide +kernel
theorem dX13_qFloor_38 : decode cX13_qFloor 38 = .ok (.iconst 1, 1) := by decide +kernel
theorem dX13_qFloor_39 : decode cX13_qFloor 39 = .ok (.goto 4, 3) := by decide +kernel
theorem dX13_qFloor_42 : decode cX13_qFloor 42 = .ok (.iconst 0, 1) := by decide +kernel
theorem dX13_qFloor_43 : decode cX13_qFloor 43 = .ok (.if_icmp .eq 10, 3) := by decide +kernel
theorem dX13_qFloor_46 : decode cX13_qFloor 46 = .ok (.lload 4, 2) := by decide +kernel
theorem dX13_qFloor_48 : decode cX13_qFloor 48 = .ok (.lconst 1, 1) := by decide +kernel
theorem dX13_qFloor_49 : decode cX13_qFloor 49 = .ok (.lsub, 1) := by decide +kernel
theorem dX13_qFloor_50 : decode cX13_qFloor 50 = .ok (.goto 5, 3) := by decide +kernel
theorem dX13_qFloor_53 : decode cX13_qFloor 53 = .ok (.lload 4, 2) := by decide +kernel
theorem dX13_qFloor_55 : decode cX13_qFloor 55 = .ok (.lreturn, 1) := by decide +kernel
theorem dX13_qPuts_0 : decode cX13_qPuts 0 = .ok (.aload_n 0, 1) := by decide +kernel
theorem dX13_qPuts_1 : decode cX13_qPuts 1 = .ok (.getfield 255, 3) := by decide +kernel
theorem dX13_qPuts_4 : decode cX13_qPuts 4 = .ok (.aload_n 0, 1) := by decide +kernel
theorem dX13_qPuts_5 : decode cX13_qPuts 5 = .ok (.getfield 436, 3) := by decide +kernel
theorem dX13_qPuts_8 : decode cX13_qPuts 8 = .ok (.lload_n 1, 1) := by decide +kernel
theorem dX13_qPuts_9 : decode cX13_qPuts 9 = .ok (.lastore, 1) := by decide +kernel
theorem dX13_qPuts_10 : decode cX13_qPuts 10 = .ok (.aload_n 0, 1) := by decide +kernel
theorem dX13_qPuts_11 : decode cX13_qPuts 11 = .ok (.dup, 1) := by decide +kernel
theorem dX13_qPuts_12 : decode cX13_qPuts 12 = .ok (.getfield 436, 3) := by decide +kernel
theorem dX13_qPuts_15 : decode cX13_qPuts 15 = .ok (.iconst 1, 1) := by decide +kernel
theorem dX13_qPuts_16 : decode cX13_qPuts 16 = .ok (.iadd, 1) := by decide +kernel
theorem dX13_qPuts_17 : decode cX13_qPuts 17 = .ok (.putfield 436, 3) := by decide +kernel
theorem dX13_qPuts_20 : decode cX13_qPuts 20 = .ok (.return_, 1) := by decide +kernel
theorem dX13_qJoins_0 : decode cX13_qJoins 0 = .ok (.aload_n 0, 1) := by decide +kernel
theorem dX13_qJoins_1 : decode cX13_qJoins 1 = .ok (.getfield 255, 3) := by decide +kernel
theorem dX13_qJoins_4 : decode cX13_qJoins 4 = .ok (.aload_n 0, 1) := by decide +kernel
theorem dX13_qJoins_5 : decode cX13_qJoins 5 = .ok (.getfield 436, 3) := by decide +kernel
theorem dX13_qJoins_8 : decode cX13_qJoins 8 = .ok (.iconst 1, 1) := by decide +kernel
theorem dX13_qJoins_9 : decode cX13_qJoins 9 = .ok (.isub, 1) := by decide +kernel
theorem dX13_qJoins_10 : decode cX13_qJoins 10 = .ok (.laload, 1) := by decide +kernel
theorem dX13_qJoins_11 : decode cX13_qJoins 11 = .ok (.lstore_n 2, 1) := by decide +kernel
theorem dX13_qJoins_12 : decode cX13_qJoins 12 = .ok (.aload_n 0, 1) := by decide +kernel
theorem dX13_qJoins_13 : decode cX13_qJoins 13 = .ok (.getfield 255, 3) := by decide +kernel
theorem dX13_qJoins_16 : decode cX13_qJoins 16 = .ok (.aload_n 0, 1) := by decide +kernel
theorem dX13_qJoins_17 : decode cX13_qJoins 17 = .ok (.getfield 436, 3) := by decide +kernel
theorem dX13_qJoins_20 : decode cX13_qJoins 20 = .ok (.iconst 2, 1) := by decide +kernel
theorem dX13_qJoins_21 : decode cX13_qJoins 21 = .ok (.isub, 1) := by decide +kernel
theorem dX13_qJoins_22 : decode cX13_qJoins 22 = .ok (.laload, 1) := by decide +kernel
theorem dX13_qJoins_23 : decode cX13_qJoins 23 = .ok (.lstore 4, 2) := by decide +kernel
theorem dX13_qJoins_25 : decode cX13_qJoins 25 = .ok (.aload_n 0, 1) := by decide +kernel
theorem dX13_qJoins_26 : decode cX13_qJoins 26 = .ok (.dup, 1) := by decide +kernel
theorem dX13_qJoins_27 : decode cX13_qJoins 27 = .ok (.getfield 436, 3) := by decide +kernel
theorem dX13_qJoins_30 : decode cX13_qJoins 30 = .ok (.iconst 2, 1) := by decide +kernel
theorem dX13_qJoins_31 : decode cX13_qJoins 31 = .ok (.isub, 1) := by decide +kernel
theorem dX13_qJoins_32 : decode cX13_qJoins 32 = .ok (.putfield 436, 3) := by decide +kernel
theorem dX13_qJoins_35 : decode cX13_qJoins 35 = .ok (.iload_n 1, 1) := by decide +kernel
theorem dX13_qJoins_36 : decode cX13_qJoins 36 = .ok (.tableswitch 219 1 10 #[56, 70, 84, 98, 111, 131, 151, 170, 189, 208], 56) := by decide +kernel
theorem dX13_qJoins_92 : decode cX13_qJoins 92 = .ok (.aload_n 0, 1) := by decide +kernel
theorem dX13_qJoins_93 : decode cX13_qJoins 93 = .ok (.lload 4, 2) := by decide +kernel
theorem dX13_qJoins_95 : decode cX13_qJoins 95 = .ok (.lload_n 2, 1) := by decide +kernel
theorem dX13_qJoins_96 : decode cX13_qJoins 96 = .ok (.ladd, 1) := by decide +kernel
theorem dX13_qJoins_97 : decode cX13_qJoins 97 = .ok (.invokestatic 666, 3) := by decide +kernel
theorem dX13_qJoins_100 : decode cX13_qJoins 100 = .ok (.invokevirtual 439, 3) := by decide +kernel
theorem dX13_qJoins_103 : decode cX13_qJoins 103 = .ok (.goto 170, 3) := by decide +kernel
theorem dX13_qJoins_106 : decode cX13_qJoins 106 = .ok (.aload_n 0, 1) := by decide +kernel
theorem dX13_qJoins_107 : decode cX13_qJoins 107 = .ok (.lload 4, 2) := by decide +kernel
theorem dX13_qJoins_109 : decode cX13_qJoins 109 = .ok (.lload_n 2, 1) := by decide +kernel
theorem dX13_qJoins_110 : decode cX13_qJoins 110 = .ok (.lsub, 1) := by decide +kernel
theorem dX13_qJoins_111 : decode cX13_qJoins 111 = .ok (.invokestatic 666, 3) := by decide +kernel
theorem dX13_qJoins_114 : decode cX13_qJoins 114 = .ok (.invokevirtual 439, 3) := by decide +kernel
theorem dX13_qJoins_117 : decode cX13_qJoins 117 = .ok (.goto 156, 3) := by decide +kernel
theorem dX13_qJoins_120 : decode cX13_qJoins 120 = .ok (.aload_n 0, 1) := by decide +kernel
theorem dX13_qJoins_121 : decode cX13_qJoins 121 = .ok (.lload 4, 2) := by decide +kernel
theorem dX13_qJoins_123 : decode cX13_qJoins 123 = .ok (.lload_n 2, 1) := by decide +kernel
theorem dX13_qJoins_124 : decode cX13_qJoins 124 = .ok (.lmul, 1) := by decide +kernel
theorem dX13_qJoins_125 : decode cX13_qJoins 125 = .ok (.invokestatic 666, 3) := by decide +kernel
theorem dX13_qJoins_128 : decode cX13_qJoins 128 = .ok (.invokevirtual 439, 3) := by decide +kernel
theorem dX13_qJoins_131 : decode cX13_qJoins 131 = .ok (.goto 142, 3) := by decide +kernel
theorem dX13_qJoins_134 : decode cX13_qJoins 134 = .ok (.aload_n 0, 1) := by decide +kernel
theorem dX13_qJoins_135 : decode cX13_qJoins 135 = .ok (.lload 4, 2) := by decide +kernel
theorem dX13_qJoins_137 : decode cX13_qJoins 137 = .ok (.lload_n 2, 1) := by decide +kernel
theorem dX13_qJoins_138 : decode cX13_qJoins 138 = .ok (.invokestatic 670, 3) := by decide +kernel
theorem dX13_qJoins_141 : decode cX13_qJoins 141 = .ok (.invokevirtual 439, 3) := by decide +kernel
theorem dX13_qJoins_144 : decode cX13_qJoins 144 = .ok (.goto 129, 3) := by decide +kernel
theorem dX13_qJoins_147 : decode cX13_qJoins 147 = .ok (.aload_n 0, 1) := by decide +kernel
theorem dX13_qJoins_148 : decode cX13_qJoins 148 = .ok (.lload 4, 2) := by decide +kernel
theorem dX13_qJoins_150 : decode cX13_qJoins 150 = .ok (.lload_n 2, 1) := by decide +kernel
theorem dX13_qJoins_151 : decode cX13_qJoins 151 = .ok (.lcmp, 1) := by decide +kernel
theorem dX13_qJoins_152 : decode cX13_qJoins 152 = .ok (.ifCond .ge 8, 3) := by decide +kernel
theorem dX13_qJoins_155 : decode cX13_qJoins 155 = .ok (.lload 4, 2) := by decide +kernel
theorem dX13_qJoins_157 : decode cX13_qJoins 157 = .ok (.goto 4, 3) := by decide +kernel
theorem dX13_qJoins_160 : decode cX13_qJoins 160 = .ok (.lload_n 2, 1) := by decide +kernel
theorem dX13_qJoins_161 : decode cX13_qJoins 161 = .ok (.invokevirtual 439, 3) := by decide +kernel
theorem dX13_qJoins_164 : decode cX13_qJoins 164 = .ok (.goto 109, 3) := by decide +kernel
theorem dX13_qJoins_167 : decode cX13_qJoins 167 = .ok (.aload_n 0, 1) := by decide +kernel
theorem dX13_qJoins_168 : decode cX13_qJoins 168 = .ok (.lload 4, 2) := by decide +kernel
theorem dX13_qJoins_170 : decode cX13_qJoins 170 = .ok (.lload_n 2, 1) := by decide +kernel
theorem dX13_qJoins_171 : decode cX13_qJoins 171 = .ok (.lcmp, 1) := by decide +kernel
theorem dX13_qJoins_172 : decode cX13_qJoins 172 = .ok (.ifCond .le 8, 3) := by decide +kernel
theorem dX13_qJoins_175 : decode cX13_qJoins 175 = .ok (.lload 4, 2) := by decide +kernel
theorem dX13_qJoins_177 : decode cX13_qJoins 177 = .ok (.goto 4, 3) := by decide +kernel
theorem dX13_qJoins_180 : decode cX13_qJoins 180 = .ok (.lload_n 2, 1) := by decide +kernel
theorem dX13_qJoins_181 : decode cX13_qJoins 181 = .ok (.invokevirtual 439, 3) := by decide +kernel
theorem dX13_qJoins_184 : decode cX13_qJoins 184 = .ok (.goto 89, 3) := by decide +kernel
theorem dX13_qJoins_187 : decode cX13_qJoins 187 = .ok (.aload_n 0, 1) := by decide +kernel
theorem dX13_qJoins_188 : decode cX13_qJoins 188 = .ok (.lload 4, 2) := by decide +kernel
theorem dX13_qJoins_190 : decode cX13_qJoins 190 = .ok (.lload_n 2, 1) := by decide +kernel
theorem dX13_qJoins_191 : decode cX13_qJoins 191 = .ok (.lcmp, 1) := by decide +kernel
theorem dX13_qJoins_192 : decode cX13_qJoins 192 = .ok (.ifCond .ge 7, 3) := by decide +kernel
theorem dX13_qJoins_195 : decode cX13_qJoins 195 = .ok (.lconst 1, 1) := by decide +kernel
theorem dX13_qJoins_196 : decode cX13_qJoins 196 = .ok (.goto 4, 3) := by decide +kernel
theorem dX13_qJoins_199 : decode cX13_qJoins 199 = .ok (.lconst 0, 1) := by decide +kernel
theorem dX13_qJoins_200 : decode cX13_qJoins 200 = .ok (.invokevirtual 439, 3) := by decide +kernel
theorem dX13_qJoins_203 : decode cX13_qJoins 203 = .ok (.goto 70, 3) := by decide +kernel
theorem dX13_qJoins_206 : decode cX13_qJoins 206 = .ok (.aload_n 0, 1) := by decide +kernel
theorem dX13_qJoins_207 : decode cX13_qJoins 207 = .ok (.lload 4, 2) := by decide +kernel
theorem dX13_qJoins_209 : decode cX13_qJoins 209 = .ok (.lload_n 2, 1) := by decide +kernel
theorem dX13_qJoins_210 : decode cX13_qJoins 210 = .ok (.lcmp, 1) := by decide +kernel
theorem dX13_qJoins_211 : decode cX13_qJoins 211 = .ok (.ifCond .le 7, 3) := by decide +kernel
theorem dX13_qJoins_214 : decode cX13_qJoins 214 = .ok (.lconst 1, 1) := by decide +kernel
theorem dX13_qJoins_215 : decode cX13_qJoins 215 = .ok (.goto 4, 3) := by decide +kernel
theorem dX13_qJoins_218 : decode cX13_qJoins 218 = .ok (.lconst 0, 1) := by decide +kernel
theorem dX13_qJoins_219 : decode cX13_qJoins 219 = .ok (.invokevirtual 439, 3) := by decide +kernel
theorem dX13_qJoins_222 : decode cX13_qJoins 222 = .ok (.goto 51, 3) := by decide +kernel
theorem dX13_qJoins_225 : decode cX13_qJoins 225 = .ok (.aload_n 0, 1) := by decide +kernel
theorem dX13_qJoins_226 : decode cX13_qJoins 226 = .ok (.lload 4, 2) := by decide +kernel
theorem dX13_qJoins_228 : decode cX13_qJoins 228 = .ok (.lload_n 2, 1) := by decide +kernel
theorem dX13_qJoins_229 : decode cX13_qJoins 229 = .ok (.lcmp, 1) := by decide +kernel
theorem dX13_qJoins_230 : decode cX13_qJoins 230 = .ok (.ifCond .ne 7, 3) := by decide +kernel
theorem dX13_qJoins_233 : decode cX13_qJoins 233 = .ok (.lconst 1, 1) := by decide +kernel
theorem dX13_qJoins_234 : decode cX13_qJoins 234 = .ok (.goto 4, 3) := by decide +kernel
theorem dX13_qJoins_237 : decode cX13_qJoins 237 = .ok (.lconst 0, 1) := by decide +kernel
theorem dX13_qJoins_238 : decode cX13_qJoins 238 = .ok (.invokevirtual 439, 3) := by decide +kernel
theorem dX13_qJoins_241 : decode cX13_qJoins 241 = .ok (.goto 32, 3) := by decide +kernel
theorem dX13_qJoins_244 : decode cX13_qJoins 244 = .ok (.aload_n 0, 1) := by decide +kernel
theorem dX13_qJoins_245 : decode cX13_qJoins 245 = .ok (.lload 4, 2) := by decide +kernel
theorem dX13_qJoins_247 : decode cX13_qJoins 247 = .ok (.lload_n 2, 1) := by decide +kernel
theorem dX13_qJoins_248 : decode cX13_qJoins 248 = .ok (.lmul, 1) := by decide +kernel
theorem dX13_qJoins_249 : decode cX13_qJoins 249 = .ok (.invokevirtual 439, 3) := by decide +kernel
theorem dX13_qJoins_252 : decode cX13_qJoins 252 = .ok (.goto 21, 3) := by decide +kernel
theorem dX13_qJoins_255 : decode cX13_qJoins 255 = .ok (.aload_n 0, 1) := by decide +kernel
theorem dX13_qJoins_256 : decode cX13_qJoins 256 = .ok (.lload 4, 2) := by decide +kernel
theorem dX13_qJoins_258 : decode cX13_qJoins 258 = .ok (.lload_n 2, 1) := by decide +kernel
theorem dX13_qJoins_259 : decode cX13_qJoins 259 = .ok (.ladd, 1) := by decide +kernel
theorem dX13_qJoins_260 : decode cX13_qJoins 260 = .ok (.lconst 0, 1) := by decide +kernel
theorem dX13_qJoins_261 : decode cX13_qJoins 261 = .ok (.lcmp, 1) := by decide +kernel
theorem dX13_qJoins_262 : decode cX13_qJoins 262 = .ok (.ifCond .le 7, 3) := by decide +kernel
theorem dX13_qJoins_265 : decode cX13_qJoins 265 = .ok (.lconst 1, 1) := by decide +kernel
theorem dX13_qJoins_266 : decode cX13_qJoins 266 = .ok (.goto 4, 3) := by decide +kernel
theorem dX13_qJoins_269 : decode cX13_qJoins 269 = .ok (.lconst 0, 1) := by decide +kernel
theorem dX13_qJoins_270 : decode cX13_qJoins 270 = .ok (.invokevirtual 439, 3) := by decide +kernel
theorem dX13_qJoins_273 : decode cX13_qJoins 273 = .ok (.return_, 1) := by decide +kernel
theorem dX13_qPartOf_0 : decode cX13_qPartOf 0 = .ok (.iload_n 1, 1) := by decide +kernel
theorem dX13_qPartOf_1 : decode cX13_qPartOf 1 = .ok (.tableswitch 171 0 7 #[47, 71, 77, 112, 147, 154, 161, 168], 47) := by decide +kernel
theorem dX13_qPartOf_48 : decode cX13_qPartOf 48 = .ok (.aload_n 0, 1) := by decide +kernel
theorem dX13_qPartOf_49 : decode cX13_qPartOf 49 = .ok (.getfield 322, 3) := by decide +kernel
theorem dX13_qPartOf_52 : decode cX13_qPartOf 52 = .ok (.iconst 2, 1) := by decide +kernel
theorem dX13_qPartOf_53 : decode cX13_qPartOf 53 = .ok (.if_icmp .ne 13, 3) := by decide +kernel
theorem dX13_qPartOf_56 : decode cX13_qPartOf 56 = .ok (.aload_n 0, 1) := by decide +kernel
theorem dX13_qPartOf_57 : decode cX13_qPartOf 57 = .ok (.getfield 157, 3) := by decide +kernel
theorem dX13_qPartOf_60 : decode cX13_qPartOf 60 = .ok (.iload_n 2, 1) := by decide +kernel
theorem dX13_qPartOf_61 : decode cX13_qPartOf 61 = .ok (.iaload, 1) := by decide +kernel
theorem dX13_qPartOf_62 : decode cX13_qPartOf 62 = .ok (.i2l, 1) := by decide +kernel
theorem dX13_qPartOf_63 : decode cX13_qPartOf 63 = .ok (.goto 8, 3) := by decide +kernel
theorem dX13_qPartOf_66 : decode cX13_qPartOf 66 = .ok (.aload_n 0, 1) := by decide +kernel
theorem dX13_qPartOf_67 : decode cX13_qPartOf 67 = .ok (.getfield 450, 3) := by decide +kernel
theorem dX13_qPartOf_70 : decode cX13_qPartOf 70 = .ok (.i2l, 1) := by decide +kernel
theorem dX13_qPartOf_71 : decode cX13_qPartOf 71 = .ok (.lreturn, 1) := by decide +kernel
theorem dX13_qPartOf_72 : decode cX13_qPartOf 72 = .ok (.aload_n 0, 1) := by decide +kernel
theorem dX13_qPartOf_73 : decode cX13_qPartOf 73 = .ok (.getfield 453, 3) := by decide +kernel
theorem dX13_qPartOf_76 : decode cX13_qPartOf 76 = .ok (.i2l, 1) := by decide +kernel
theorem dX13_qPartOf_77 : decode cX13_qPartOf 77 = .ok (.lreturn, 1) := by decide +kernel
theorem dX13_qPartOf_78 : decode cX13_qPartOf 78 = .ok (.aload_n 0, 1) := by decide +kernel
theorem dX13_qPartOf_79 : decode cX13_qPartOf 79 = .ok (.getfield 322, 3) := by decide +kernel
theorem dX13_qPartOf_82 : decode cX13_qPartOf 82 = .ok (.iconst 2, 1) := by decide +kernel
theorem dX13_qPartOf_83 : decode cX13_qPartOf 83 = .ok (.if_icmp .ne 21, 3) := by decide +kernel
theorem dX13_qPartOf_86 : decode cX13_qPartOf 86 = .ok (.aload_n 0, 1) := by decide +kernel
theorem dX13_qPartOf_87 : decode cX13_qPartOf 87 = .ok (.getfield 136, 3) := by decide +kernel
theorem dX13_qPartOf_90 : decode cX13_qPartOf 90 = .ok (.bipush 30, 2) := by decide +kernel
theorem dX13_qPartOf_92 : decode cX13_qPartOf 92 = .ok (.iconst 5, 1) := by decide +kernel
theorem dX13_qPartOf_93 : decode cX13_qPartOf 93 = .ok (.iload_n 2, 1) := by decide +kernel
theorem dX13_qPartOf_94 : decode cX13_qPartOf 94 = .ok (.imul, 1) := by decide +kernel
theorem dX13_qPartOf_95 : decode cX13_qPartOf 95 = .ok (.iadd, 1) := by decide +kernel
theorem dX13_qPartOf_96 : decode cX13_qPartOf 96 = .ok (.iaload, 1) := by decide +kernel
theorem dX13_qPartOf_97 : decode cX13_qPartOf 97 = .ok (.bipush 7, 2) := by decide +kernel
theorem dX13_qPartOf_99 : decode cX13_qPartOf 99 = .ok (.irem, 1) := by decide +kernel
theorem dX13_qPartOf_100 : decode cX13_qPartOf 100 = .ok (.i2l, 1) := by decide +kernel
theorem dX13_qPartOf_101 : decode cX13_qPartOf 101 = .ok (.goto 11, 3) := by decide +kernel
theorem dX13_qPartOf_104 : decode cX13_qPartOf 104 = .ok (.aload_n 0, 1) := by decide +kernel
theorem dX13_qPartOf_105 : decode cX13_qPartOf 105 = .ok (.getfield 456, 3) := by decide +kernel
theorem dX13_qPartOf_108 : decode cX13_qPartOf 108 = .ok (.bipush 7, 2) := by decide +kernel
theorem dX13_qPartOf_110 : decode cX13_qPartOf 110 = .ok (.irem, 1) := by decide +kernel
theorem dX13_qPartOf_111 : decode cX13_qPartOf 111 = .ok (.i2l, 1) := by decide +kernel
theorem dX13_qPartOf_112 : decode cX13_qPartOf 112 = .ok (.lreturn, 1) := by decide +kernel
theorem dX13_qPartOf_113 : decode cX13_qPartOf 113 = .ok (.aload_n 0, 1) := by decide +kernel
theorem dX13_qPartOf_114 : decode cX13_qPartOf 114 = .ok (.getfield 322, 3) := by decide +kernel
theorem dX13_qPartOf_117 : decode cX13_qPartOf 117 = .ok (.iconst 2, 1) := by decide +kernel
theorem dX13_qPartOf_118 : decode cX13_qPartOf 118 = .ok (.if_icmp .ne 21, 3) := by decide +kernel
theorem dX13_qPartOf_121 : decode cX13_qPartOf 121 = .ok (.aload_n 0, 1) := by decide +kernel
theorem dX13_qPartOf_122 : decode cX13_qPartOf 122 = .ok (.getfield 136, 3) := by decide +kernel
theorem dX13_qPartOf_125 : decode cX13_qPartOf 125 = .ok (.bipush 30, 2) := by decide +kernel
theorem dX13_qPartOf_127 : decode cX13_qPartOf 127 = .ok (.iconst 5, 1) := by decide +kernel
theorem dX13_qPartOf_128 : decode cX13_qPartOf 128 = .ok (.iload_n 2, 1) := by decide +kernel
theorem dX13_qPartOf_129 : decode cX13_qPartOf 129 = .ok (.imul, 1) := by decide +kernel
theorem dX13_qPartOf_130 : decode cX13_qPartOf 130 = .ok (.iadd, 1) := by decide +kernel
theorem dX13_qPartOf_131 : decode cX13_qPartOf 131 = .ok (.iaload, 1) := by decide +kernel
theorem dX13_qPartOf_132 : decode cX13_qPartOf 132 = .ok (.bipush 7, 2) := by decide +kernel
theorem dX13_qPartOf_134 : decode cX13_qPartOf 134 = .ok (.idiv, 1) := by decide +kernel
theorem dX13_qPartOf_135 : decode cX13_qPartOf 135 = .ok (.i2l, 1) := by decide +kernel
theorem dX13_qPartOf_136 : decode cX13_qPartOf 136 = .ok (.goto 11, 3) := by decide +kernel
theorem dX13_qPartOf_139 : decode cX13_qPartOf 139 = .ok (.aload_n 0, 1) := by decide +kernel
theorem dX13_qPartOf_140 : decode cX13_qPartOf 140 = .ok (.getfield 456, 3) := by decide +kernel
theorem dX13_qPartOf_143 : decode cX13_qPartOf 143 = .ok (.bipush 7, 2) := by decide +kernel
theorem dX13_qPartOf_145 : decode cX13_qPartOf 145 = .ok (.idiv, 1) := by decide +kernel
theorem dX13_qPartOf_146 : decode cX13_qPartOf 146 = .ok (.i2l, 1) := by decide +kernel
theorem dX13_qPartOf_147 : decode cX13_qPartOf 147 = .ok (.lreturn, 1) := by decide +kernel
theorem dX13_qPartOf_148 : decode cX13_qPartOf 148 = .ok (.aload_n 0, 1) := by decide +kernel
theorem dX13_qPartOf_149 : decode cX13_qPartOf 149 = .ok (.iload_n 2, 1) := by decide +kernel
theorem dX13_qPartOf_150 : decode cX13_qPartOf 150 = .ok (.invokevirtual 486, 3) := by decide +kernel
theorem dX13_qPartOf_153 : decode cX13_qPartOf 153 = .ok (.i2l, 1) := by decide +kernel
theorem dX13_qPartOf_154 : decode cX13_qPartOf 154 = .ok (.lreturn, 1) := by decide +kernel
theorem dX13_qPartOf_155 : decode cX13_qPartOf 155 = .ok (.aload_n 0, 1) := by decide +kernel
theorem dX13_qPartOf_156 : decode cX13_qPartOf 156 = .ok (.iload_n 2, 1) := by decide +kernel
theorem dX13_qPartOf_157 : decode cX13_qPartOf 157 = .ok (.invokevirtual 674, 3) := by decide +kernel
theorem dX13_qPartOf_160 : decode cX13_qPartOf 160 = .ok (.i2l, 1) := by decide +kernel
theorem dX13_qPartOf_161 : decode cX13_qPartOf 161 = .ok (.lreturn, 1) := by decide +kernel
theorem dX13_qPartOf_162 : decode cX13_qPartOf 162 = .ok (.aload_n 0, 1) := by decide +kernel
theorem dX13_qPartOf_163 : decode cX13_qPartOf 163 = .ok (.iload_n 2, 1) := by decide +kernel
theorem dX13_qPartOf_164 : decode cX13_qPartOf 164 = .ok (.invokevirtual 498, 3) := by decide +kernel
theorem dX13_qPartOf_167 : decode cX13_qPartOf 167 = .ok (.i2l, 1) := by decide +kernel
theorem dX13_qPartOf_168 : decode cX13_qPartOf 168 = .ok (.lreturn, 1) := by decide +kernel
theorem dX13_qPartOf_169 : decode cX13_qPartOf 169 = .ok (.iload_n 2, 1) := by decide +kernel
theorem dX13_qPartOf_170 : decode cX13_qPartOf 170 = .ok (.i2l, 1) := by decide +kernel
theorem dX13_qPartOf_171 : decode cX13_qPartOf 171 = .ok (.lreturn, 1) := by decide +kernel
theorem dX13_qPartOf_172 : decode cX13_qPartOf 172 = .ok (.aload_n 0, 1) := by decide +kernel
theorem dX13_qPartOf_173 : decode cX13_qPartOf 173 = .ok (.iload_n 2, 1) := by decide +kernel
theorem dX13_qPartOf_174 : decode cX13_qPartOf 174 = .ok (.invokevirtual 489, 3) := by decide +kernel
theorem dX13_qPartOf_177 : decode cX13_qPartOf 177 = .ok (.i2l, 1) := by decide +kernel
theorem dX13_qPartOf_178 : decode cX13_qPartOf 178 = .ok (.lreturn, 1) := by decide +kernel
theorem dX13_qOf_0 : decode cX13_qOf 0 = .ok (.iload_n 1, 1) := by decide +kernel
theorem dX13_qOf_1 : decode cX13_qOf 1 = .ok (.lookupswitch 11 #[], 11) := by decide +kernel
theorem dX13_qOf_12 : decode cX13_qOf 12 = .ok (.lload_n 2, 1) := by decide +kernel
theorem dX13_qOf_13 : decode cX13_qOf 13 = .ok (.lconst 0, 1) := by decide +kernel
theorem dX13_qOf_14 : decode cX13_qOf 14 = .ok (.ldc2_w 562, 3) := by decide +kernel
theorem dX13_qOf_17 : decode cX13_qOf 17 = .ok (.invokestatic 307, 3) := by decide +kernel
theorem dX13_qOf_20 : decode cX13_qOf 20 = .ok (.ifCond .eq 29, 3) := by decide +kernel
theorem dX13_qOf_23 : decode cX13_qOf 23 = .ok (.aload_n 0, 1) := by decide +kernel
theorem dX13_qOf_24 : decode cX13_qOf 24 = .ok (.getfield 136, 3) := by decide +kernel
theorem dX13_qOf_27 : decode cX13_qOf 27 = .ok (.bipush 30, 2) := by decide +kernel
theorem dX13_qOf_29 : decode cX13_qOf 29 = .ok (.iconst 5, 1) := by decide +kernel
theorem dX13_qOf_30 : decode cX13_qOf 30 = .ok (.iload 4, 2) := by decide +kernel
theorem dX13_qOf_32 : decode cX13_qOf 32 = .ok (.imul, 1) := by decide +kernel
theorem dX13_qOf_33 : decode cX13_qOf 33 = .ok (.iadd, 1) := by decide +kernel
theorem dX13_qOf_34 : decode cX13_qOf 34 = .ok (.iaload, 1) := by decide +kernel
theorem dX13_qOf_35 : decode cX13_qOf 35 = .ok (.aload_n 0, 1) := by decide +kernel
theorem dX13_qOf_36 : decode cX13_qOf 36 = .ok (.getfield 160, 3) := by decide +kernel
theorem dX13_qOf_39 : decode cX13_qOf 39 = .ok (.lload_n 2, 1) := by decide +kernel
theorem dX13_qOf_40 : decode cX13_qOf 40 = .ok (.l2i, 1) := by decide +kernel
theorem dX13_qOf_41 : decode cX13_qOf 41 = .ok (.iaload, 1) := by decide +kernel
theorem dX13_qOf_42 : decode cX13_qOf 42 = .ok (.invokestatic 433, 3) := by decide +kernel
theorem dX13_qOf_45 : decode cX13_qOf 45 = .ok (.i2l, 1) := by decide +kernel
theorem dX13_qOf_46 : decode cX13_qOf 46 = .ok (.goto 4, 3) := by decide +kernel
theorem dX13_qOf_49 : decode cX13_qOf 49 = .ok (.lconst 0, 1) := by decide +kernel
theorem dX13_qOf_50 : decode cX13_qOf 50 = .ok (.lreturn, 1) := by decide +kernel
theorem dX13_qTold_0 : decode cX13_qTold 0 = .ok (.aload_n 0, 1) := by decide +kernel
theorem dX13_qTold_1 : decode cX13_qTold 1 = .ok (.iconst 0, 1) := by decide +kernel
theorem dX13_qTold_2 : decode cX13_qTold 2 = .ok (.putfield 436, 3) := by decide +kernel
theorem dX13_qTold_5 : decode cX13_qTold 5 = .ok (.iconst 0, 1) := by decide +kernel
theorem dX13_qTold_6 : decode cX13_qTold 6 = .ok (.istore_n 2, 1) := by decide +kernel
theorem dX13_qTold_7 : decode cX13_qTold 7 = .ok (.iload_n 2, 1) := by decide +kernel
theorem dX13_qTold_8 : decode cX13_qTold 8 = .ok (.aload_n 0, 1) := by decide +kernel
theorem dX13_qTold_9 : decode cX13_qTold 9 = .ok (.getfield 355, 3) := by decide +kernel
theorem dX13_qTold_12 : decode cX13_qTold 12 = .ok (.if_icmp .ge 156, 3) := by decide +kernel
theorem dX13_qTold_15 : decode cX13_qTold 15 = .ok (.aload_n 0, 1) := by decide +kernel
theorem dX13_qTold_16 : decode cX13_qTold 16 = .ok (.getfield 249, 3) := by decide +kernel
theorem dX13_qTold_19 : decode cX13_qTold 19 = .ok (.iload_n 2, 1) := by decide +kernel
theorem dX13_qTold_20 : decode cX13_qTold 20 = .ok (.iaload, 1) := by decide +kernel
theorem dX13_qTold_21 : decode cX13_qTold 21 = .ok (.istore_n 3, 1) := by decide +kernel
theorem dX13_qTold_22 : decode cX13_qTold 22 = .ok (.iload_n 3, 1) := by decide +kernel
theorem dX13_qTold_23 : decode cX13_qTold 23 = .ok (.sipush 1000, 3) := by decide +kernel
theorem dX13_qTold_26 : decode cX13_qTold 26 = .ok (.if_icmp .lt 16, 3) := by decide +kernel
theorem dX13_qTold_29 : decode cX13_qTold 29 = .ok (.aload_n 0, 1) := by decide +kernel
theorem dX13_qTold_30 : decode cX13_qTold 30 = .ok (.iload_n 3, 1) := by decide +kernel
theorem dX13_qTold_31 : decode cX13_qTold 31 = .ok (.sipush 1000, 3) := by decide +kernel
theorem dX13_qTold_34 : decode cX13_qTold 34 = .ok (.isub, 1) := by decide +kernel
theorem dX13_qTold_35 : decode cX13_qTold 35 = .ok (.i2l, 1) := by decide +kernel
theorem dX13_qTold_36 : decode cX13_qTold 36 = .ok (.invokevirtual 439, 3) := by decide +kernel
theorem dX13_qTold_39 : decode cX13_qTold 39 = .ok (.goto 123, 3) := by decide +kernel
theorem dX13_qTold_42 : decode cX13_qTold 42 = .ok (.iload_n 3, 1) := by decide +kernel
theorem dX13_qTold_43 : decode cX13_qTold 43 = .ok (.bipush 60, 2) := by decide +kernel
theorem dX13_qTold_45 : decode cX13_qTold 45 = .ok (.if_icmp .lt 40, 3) := by decide +kernel
theorem dX13_qTold_48 : decode cX13_qTold 48 = .ok (.aload_n 0, 1) := by decide +kernel
theorem dX13_qTold_49 : decode cX13_qTold 49 = .ok (.getfield 255, 3) := by decide +kernel
theorem dX13_qTold_52 : decode cX13_qTold 52 = .ok (.aload_n 0, 1) := by decide +kernel
theorem dX13_qTold_53 : decode cX13_qTold 53 = .ok (.getfield 436, 3) := by decide +kernel
theorem dX13_qTold_56 : decode cX13_qTold 56 = .ok (.iconst 1, 1) := by decide +kernel
theorem dX13_qTold_57 : decode cX13_qTold 57 = .ok (.isub, 1) := by decide +kernel
theorem dX13_qTold_58 : decode cX13_qTold 58 = .ok (.aload_n 0, 1) := by decide +kernel
theorem dX13_qTold_59 : decode cX13_qTold 59 = .ok (.iload_n 3, 1) := by decide +kernel
theorem dX13_qTold_60 : decode cX13_qTold 60 = .ok (.bipush 60, 2) := by decide +kernel
theorem dX13_qTold_62 : decode cX13_qTold 62 = .ok (.isub, 1) := by decide +kernel
theorem dX13_qTold_63 : decode cX13_qTold 63 = .ok (.aload_n 0, 1) := by decide +kernel
theorem dX13_qTold_64 : decode cX13_qTold 64 = .ok (.getfield 255, 3) := by decide +kernel
theorem dX13_qTold_67 : decode cX13_qTold 67 = .ok (.aload_n 0, 1) := by decide +kernel
theorem dX13_qTold_68 : decode cX13_qTold 68 = .ok (.getfield 436, 3) := by decide +kernel
theorem dX13_qTold_71 : decode cX13_qTold 71 = .ok (.iconst 1, 1) := by decide +kernel
theorem dX13_qTold_72 : decode cX13_qTold 72 = .ok (.isub, 1) := by decide +kernel
theorem dX13_qTold_73 : decode cX13_qTold 73 = .ok (.laload, 1) := by decide +kernel
theorem dX13_qTold_74 : decode cX13_qTold 74 = .ok (.iload_n 1, 1) := by decide +kernel
theorem dX13_qTold_75 : decode cX13_qTold 75 = .ok (.invokevirtual 677, 3) := by decide +kernel
theorem dX13_qTold_78 : decode cX13_qTold 78 = .ok (.invokestatic 666, 3) := by decide +kernel
theorem dX13_qTold_81 : decode cX13_qTold 81 = .ok (.lastore, 1) := by decide +kernel
theorem dX13_qTold_82 : decode cX13_qTold 82 = .ok (.goto 80, 3) := by decide +kernel
theorem dX13_qTold_85 : decode cX13_qTold 85 = .ok (.iload_n 3, 1) := by decide +kernel
theorem dX13_qTold_86 : decode cX13_qTold 86 = .ok (.bipush 40, 2) := by decide +kernel
theorem dX13_qTold_88 : decode cX13_qTold 88 = .ok (.if_icmp .lt 22, 3) := by decide +kernel
theorem dX13_qTold_91 : decode cX13_qTold 91 = .ok (.aload_n 0, 1) := by decide +kernel
theorem dX13_qTold_92 : decode cX13_qTold 92 = .ok (.aload_n 0, 1) := by decide +kernel
theorem dX13_qTold_93 : decode cX13_qTold 93 = .ok (.iload_n 3, 1) := by decide +kernel
theorem dX13_qTold_94 : decode cX13_qTold 94 = .ok (.bipush 40, 2) := by decide +kernel
theorem dX13_qTold_96 : decode cX13_qTold 96 = .ok (.isub, 1) := by decide +kernel
theorem dX13_qTold_97 : decode cX13_qTold 97 = .ok (.iload_n 1, 1) := by decide +kernel
theorem dX13_qTold_98 : decode cX13_qTold 98 = .ok (.invokevirtual 443, 3) := by decide +kernel
theorem dX13_qTold_101 : decode cX13_qTold 101 = .ok (.invokestatic 666, 3) := by decide +kernel
theorem dX13_qTold_104 : decode cX13_qTold 104 = .ok (.invokevirtual 439, 3) := by decide +kernel
theorem dX13_qTold_107 : decode cX13_qTold 107 = .ok (.goto 55, 3) := by decide +kernel
theorem dX13_qTold_110 : decode cX13_qTold 110 = .ok (.iload_n 3, 1) := by decide +kernel
theorem dX13_qTold_111 : decode cX13_qTold 111 = .ok (.bipush 13, 2) := by decide +kernel
theorem dX13_qTold_113 : decode cX13_qTold 113 = .ok (.if_icmp .ne 11, 3) := by decide +kernel
theorem dX13_qTold_116 : decode cX13_qTold 116 = .ok (.aload_n 0, 1) := by decide +kernel
theorem dX13_qTold_117 : decode cX13_qTold 117 = .ok (.lconst 1, 1) := by decide +kernel
theorem dX13_qTold_118 : decode cX13_qTold 118 = .ok (.invokevirtual 439, 3) := by decide +kernel
theorem dX13_qTold_121 : decode cX13_qTold 121 = .ok (.goto 41, 3) := by decide +kernel
theorem dX13_qTold_124 : decode cX13_qTold 124 = .ok (.iload_n 3, 1) := by decide +kernel
theorem dX13_qTold_125 : decode cX13_qTold 125 = .ok (.bipush 12, 2) := by decide +kernel
theorem dX13_qTold_127 : decode cX13_qTold 127 = .ok (.if_icmp .ne 30, 3) := by decide +kernel
theorem dX13_qTold_130 : decode cX13_qTold 130 = .ok (.aload_n 0, 1) := by decide +kernel
theorem dX13_qTold_131 : decode cX13_qTold 131 = .ok (.getfield 255, 3) := by decide +kernel
theorem dX13_qTold_134 : decode cX13_qTold 134 = .ok (.aload_n 0, 1) := by decide +kernel
theorem dX13_qTold_135 : decode cX13_qTold 135 = .ok (.getfield 436, 3) := by decide +kernel
theorem dX13_qTold_138 : decode cX13_qTold 138 = .ok (.iconst 1, 1) := by decide +kernel
theorem dX13_qTold_139 : decode cX13_qTold 139 = .ok (.isub, 1) := by decide +kernel
theorem dX13_qTold_140 : decode cX13_qTold 140 = .ok (.lconst 1, 1) := by decide +kernel
theorem dX13_qTold_141 : decode cX13_qTold 141 = .ok (.aload_n 0, 1) := by decide +kernel
theorem dX13_qTold_142 : decode cX13_qTold 142 = .ok (.getfield 255, 3) := by decide +kernel
theorem dX13_qTold_145 : decode cX13_qTold 145 = .ok (.aload_n 0, 1) := by decide +kernel
theorem dX13_qTold_146 : decode cX13_qTold 146 = .ok (.getfield 436, 3) := by decide +kernel
theorem dX13_qTold_149 : decode cX13_qTold 149 = .ok (.iconst 1, 1) := by decide +kernel
theorem dX13_qTold_150 : decode cX13_qTold 150 = .ok (.isub, 1) := by decide +kernel
theorem dX13_qTold_151 : decode cX13_qTold 151 = .ok (.laload, 1) := by decide +kernel
theorem dX13_qTold_152 : decode cX13_qTold 152 = .ok (.lsub, 1) := by decide +kernel
theorem dX13_qTold_153 : decode cX13_qTold 153 = .ok (.lastore, 1) := by decide +kernel
theorem dX13_qTold_154 : decode cX13_qTold 154 = .ok (.goto 8, 3) := by decide +kernel
theorem dX13_qTold_157 : decode cX13_qTold 157 = .ok (.aload_n 0, 1) := by decide +kernel
theorem dX13_qTold_158 : decode cX13_qTold 158 = .ok (.iload_n 3, 1) := by decide +kernel
theorem dX13_qTold_159 : decode cX13_qTold 159 = .ok (.invokevirtual 447, 3) := by decide +kernel
theorem dX13_qTold_162 : decode cX13_qTold 162 = .ok (.iinc 2 1, 3) := by decide +kernel
theorem dX13_qTold_165 : decode cX13_qTold 165 = .ok (.goto (-158), 3) := by decide +kernel
theorem dX13_qTold_168 : decode cX13_qTold 168 = .ok (.aload_n 0, 1) := by decide +kernel
theorem dX13_qTold_169 : decode cX13_qTold 169 = .ok (.getfield 255, 3) := by decide +kernel
theorem dX13_qTold_172 : decode cX13_qTold 172 = .ok (.iconst 0, 1) := by decide +kernel
theorem dX13_qTold_173 : decode cX13_qTold 173 = .ok (.laload, 1) := by decide +kernel
theorem dX13_qTold_174 : decode cX13_qTold 174 = .ok (.lreturn, 1) := by decide +kernel
theorem dX13_qKind_0 : decode cX13_qKind 0 = .ok (.aload_n 0, 1) := by decide +kernel
theorem dX13_qKind_1 : decode cX13_qKind 1 = .ok (.aload_n 0, 1) := by decide +kernel
theorem dX13_qKind_2 : decode cX13_qKind 2 = .ok (.getfield 183, 3) := by decide +kernel
theorem dX13_qKind_5 : decode cX13_qKind 5 = .ok (.invokevirtual 291, 3) := by decide +kernel
theorem dX13_qKind_8 : decode cX13_qKind 8 = .ok (.ifCond .eq 7, 3) := by decide +kernel
theorem dX13_qKind_11 : decode cX13_qKind 11 = .ok (.iconst 0, 1) := by decide +kernel
theorem dX13_qKind_12 : decode cX13_qKind 12 = .ok (.goto 64, 3) := by decide +kernel
theorem dX13_qKind_15 : decode cX13_qKind 15 = .ok (.aload_n 0, 1) := by decide +kernel
theorem dX13_qKind_16 : decode cX13_qKind 16 = .ok (.aload_n 0, 1) := by decide +kernel
theorem dX13_qKind_17 : decode cX13_qKind 17 = .ok (.getfield 186, 3) := by decide +kernel
theorem dX13_qKind_20 : decode cX13_qKind 20 = .ok (.invokevirtual 291, 3) := by decide +kernel
theorem dX13_qKind_23 : decode cX13_qKind 23 = .ok (.ifCond .eq 7, 3) := by decide +kernel
theorem dX13_qKind_26 : decode cX13_qKind 26 = .ok (.iconst 1, 1) := by decide +kernel
theorem dX13_qKind_27 : decode cX13_qKind 27 = .ok (.goto 49, 3) := by decide +kernel
theorem dX13_qKind_30 : decode cX13_qKind 30 = .ok (.aload_n 0, 1) := by decide +kernel
theorem dX13_qKind_31 : decode cX13_qKind 31 = .ok (.aload_n 0, 1) := by decide +kernel
theorem dX13_qKind_32 : decode cX13_qKind 32 = .ok (.getfield 189, 3) := by decide +kernel
theorem dX13_qKind_35 : decode cX13_qKind 35 = .ok (.invokevirtual 291, 3) := by decide +kernel
theorem dX13_qKind_38 : decode cX13_qKind 38 = .ok (.ifCond .eq 7, 3) := by decide +kernel
theorem dX13_qKind_41 : decode cX13_qKind 41 = .ok (.iconst 2, 1) := by decide +kernel
theorem dX13_qKind_42 : decode cX13_qKind 42 = .ok (.goto 34, 3) := by decide +kernel
theorem dX13_qKind_45 : decode cX13_qKind 45 = .ok (.aload_n 0, 1) := by decide +kernel
theorem dX13_qKind_46 : decode cX13_qKind 46 = .ok (.aload_n 0, 1) := by decide +kernel
theorem dX13_qKind_47 : decode cX13_qKind 47 = .ok (.getfield 192, 3) := by decide +kernel
theorem dX13_qKind_50 : decode cX13_qKind 50 = .ok (.invokevirtual 291, 3) := by decide +kernel
theorem dX13_qKind_53 : decode cX13_qKind 53 = .ok (.ifCond .eq 7, 3) := by decide +kernel
theorem dX13_qKind_56 : decode cX13_qKind 56 = .ok (.iconst 3, 1) := by decide +kernel
theorem dX13_qKind_57 : decode cX13_qKind 57 = .ok (.goto 19, 3) := by decide +kernel
theorem dX13_qKind_60 : decode cX13_qKind 60 = .ok (.aload_n 0, 1) := by decide +kernel
theorem dX13_qKind_61 : decode cX13_qKind 61 = .ok (.aload_n 0, 1) := by decide +kernel
theorem dX13_qKind_62 : decode cX13_qKind 62 = .ok (.getfield 195, 3) := by decide +kernel
theorem dX13_qKind_65 : decode cX13_qKind 65 = .ok (.invokevirtual 291, 3) := by decide +kernel
theorem dX13_qKind_68 : decode cX13_qKind 68 = .ok (.ifCond .eq 7, 3) := by decide +kernel
theorem dX13_qKind_71 : decode cX13_qKind 71 = .ok (.iconst 4, 1) := by decide +kernel
theorem dX13_qKind_72 : decode cX13_qKind 72 = .ok (.goto 4, 3) := by decide +kernel
theorem dX13_qKind_75 : decode cX13_qKind 75 = .ok (.iconst 5, 1) := by decide +kernel
theorem dX13_qKind_76 : decode cX13_qKind 76 = .ok (.istore_n 1, 1) := by decide +kernel
theorem dX13_qKind_77 : decode cX13_qKind 77 = .ok (.iload_n 1, 1) := by decide +kernel
theorem dX13_qKind_78 : decode cX13_qKind 78 = .ok (.iconst 5, 1) := by decide +kernel
theorem dX13_qKind_79 : decode cX13_qKind 79 = .ok (.if_icmp .ne 11, 3) := by decide +kernel
theorem dX13_qKind_82 : decode cX13_qKind 82 = .ok (.aload_n 0, 1) := by decide +kernel
theorem dX13_qKind_83 : decode cX13_qKind 83 = .ok (.aload_n 0, 1) := by decide +kernel
theorem dX13_qKind_84 : decode cX13_qKind 84 = .ok (.getfield 198, 3) := by decide +kernel
theorem dX13_qKind_87 : decode cX13_qKind 87 = .ok (.invokevirtual 337, 3) := by decide +kernel
theorem dX13_qKind_90 : decode cX13_qKind 90 = .ok (.iload_n 1, 1) := by decide +kernel
theorem dX13_qKind_91 : decode cX13_qKind 91 = .ok (.ireturn, 1) := by decide +kernel
theorem dX13_qTakes_0 : decode cX13_qTakes 0 = .ok (.iload_n 1, 1) := by decide +kernel
theorem dX13_qTakes_1 : decode cX13_qTakes 1 = .ok (.iconst 3, 1) := by decide +kernel
theorem dX13_qTakes_2 : decode cX13_qTakes 2 = .ok (.if_icmp .ge 13, 3) := by decide +kernel
theorem dX13_qTakes_5 : decode cX13_qTakes 5 = .ok (.lload_n 2, 1) := by decide +kernel
theorem dX13_qTakes_6 : decode cX13_qTakes 6 = .ok (.lconst 1, 1) := by decide +kernel
theorem dX13_qTakes_7 : decode cX13_qTakes 7 = .ok (.lcmp, 1) := by decide +kernel
theorem dX13_qTakes_8 : decode cX13_qTakes 8 = .ok (.ifCond .ne 7, 3) := by decide +kernel
theorem dX13_qTakes_11 : decode cX13_qTakes 11 = .ok (.iconst 1, 1) := by decide +kernel
theorem dX13_qTakes_12 : decode cX13_qTakes 12 = .ok (.goto 4, 3) := by decide +kernel
theorem dX13_qTakes_15 : decode cX13_qTakes 15 = .ok (.iconst 0, 1) := by decide +kernel
theorem dX13_qTakes_16 : decode cX13_qTakes 16 = .ok (.istore 5, 2) := by decide +kernel
theorem dX13_qTakes_18 : decode cX13_qTakes 18 = .ok (.iload_n 1, 1) := by decide +kernel
theorem dX13_qTakes_19 : decode cX13_qTakes 19 = .ok (.ifCond .ne 19, 3) := by decide +kernel
theorem dX13_qTakes_22 : decode cX13_qTakes 22 = .ok (.iload 5, 2) := by decide +kernel
theorem dX13_qTakes_24 : decode cX13_qTakes 24 = .ok (.ifCond .eq 14, 3) := by decide +kernel
theorem dX13_qTakes_27 : decode cX13_qTakes 27 = .ok (.aload_n 0, 1) := by decide +kernel
theorem dX13_qTakes_28 : decode cX13_qTakes 28 = .ok (.getfield 681, 3) := by decide +kernel
theorem dX13_qTakes_31 : decode cX13_qTakes 31 = .ok (.ldc2_w 684, 3) := by decide +kernel
theorem dX13_qTakes_34 : decode cX13_qTakes 34 = .ok (.lcmp, 1) := by decide +kernel
theorem dX13_qTakes_35 : decode cX13_qTakes 35 = .ok (.ifCond .eq 13, 3) := by decide +kernel
theorem dX13_qTakes_38 : decode cX13_qTakes 38 = .ok (.iload_n 1, 1) := by decide +kernel
theorem dX13_qTakes_39 : decode cX13_qTakes 39 = .ok (.iconst 1, 1) := by decide +kernel
theorem dX13_qTakes_40 : decode cX13_qTakes 40 = .ok (.if_icmp .ne 15, 3) := by decide +kernel
theorem dX13_qTakes_43 : decode cX13_qTakes 43 = .ok (.iload 5, 2) := by decide +kernel
theorem dX13_qTakes_45 : decode cX13_qTakes 45 = .ok (.ifCond .eq 10, 3) := by decide +kernel
theorem dX13_qTakes_48 : decode cX13_qTakes 48 = .ok (.aload_n 0, 1) := by decide +kernel
theorem dX13_qTakes_49 : decode cX13_qTakes 49 = .ok (.iload 4, 2) := by decide +kernel
theorem dX13_qTakes_51 : decode cX13_qTakes 51 = .ok (.i2l, 1) := by decide +kernel
theorem dX13_qTakes_52 : decode cX13_qTakes 52 = .ok (.putfield 681, 3) := by decide +kernel
theorem dX13_qTakes_55 : decode cX13_qTakes 55 = .ok (.iload_n 1, 1) := by decide +kernel
theorem dX13_qTakes_56 : decode cX13_qTakes 56 = .ok (.iconst 2, 1) := by decide +kernel
theorem dX13_qTakes_57 : decode cX13_qTakes 57 = .ok (.if_icmp .ne 18, 3) := by decide +kernel
theorem dX13_qTakes_60 : decode cX13_qTakes 60 = .ok (.iload 5, 2) := by decide +kernel
theorem dX13_qTakes_62 : decode cX13_qTakes 62 = .ok (.ifCond .eq 13, 3) := by decide +kernel
theorem dX13_qTakes_65 : decode cX13_qTakes 65 = .ok (.aload_n 0, 1) := by decide +kernel
theorem dX13_qTakes_66 : decode cX13_qTakes 66 = .ok (.dup, 1) := by decide +kernel
theorem dX13_qTakes_67 : decode cX13_qTakes 67 = .ok (.getfield 681, 3) := by decide +kernel
theorem dX13_qTakes_70 : decode cX13_qTakes 70 = .ok (.lconst 1, 1) := by decide +kernel
theorem dX13_qTakes_71 : decode cX13_qTakes 71 = .ok (.ladd, 1) := by decide +kernel
theorem dX13_qTakes_72 : decode cX13_qTakes 72 = .ok (.putfield 681, 3) := by decide +kernel
theorem dX13_qTakes_75 : decode cX13_qTakes 75 = .ok (.iload_n 1, 1) := by decide +kernel
theorem dX13_qTakes_76 : decode cX13_qTakes 76 = .ok (.iconst 3, 1) := by decide +kernel
theorem dX13_qTakes_77 : decode cX13_qTakes 77 = .ok (.if_icmp .ne 13, 3) := by decide +kernel
theorem dX13_qTakes_80 : decode cX13_qTakes 80 = .ok (.aload_n 0, 1) := by decide +kernel
theorem dX13_qTakes_81 : decode cX13_qTakes 81 = .ok (.dup, 1) := by decide +kernel
theorem dX13_qTakes_82 : decode cX13_qTakes 82 = .ok (.getfield 681, 3) := by decide +kernel
theorem dX13_qTakes_85 : decode cX13_qTakes 85 = .ok (.lload_n 2, 1) := by decide +kernel
theorem dX13_qTakes_86 : decode cX13_qTakes 86 = .ok (.ladd, 1) := by decide +kernel
theorem dX13_qTakes_87 : decode cX13_qTakes 87 = .ok (.putfield 681, 3) := by decide +kernel
theorem dX13_qTakes_90 : decode cX13_qTakes 90 = .ok (.iload_n 1, 1) := by decide +kernel
theorem dX13_qTakes_91 : decode cX13_qTakes 91 = .ok (.iconst 3, 1) := by decide +kernel
theorem dX13_qTakes_92 : decode cX13_qTakes 92 = .ok (.if_icmp .le 41, 3) := by decide +kernel
theorem dX13_qTakes_95 : decode cX13_qTakes 95 = .ok (.aload_n 0, 1) := by decide +kernel
theorem dX13_qTakes_96 : decode cX13_qTakes 96 = .ok (.getfield 686, 3) := by decide +kernel
theorem dX13_qTakes_99 : decode cX13_qTakes 99 = .ok (.ifCond .ne 29, 3) := by decide +kernel
theorem dX13_qTakes_102 : decode cX13_qTakes 102 = .ok (.iload_n 1, 1) := by decide +kernel
theorem dX13_qTakes_103 : decode cX13_qTakes 103 = .ok (.iconst 4, 1) := by decide +kernel
theorem dX13_qTakes_104 : decode cX13_qTakes 104 = .ok (.if_icmp .ne 15, 3) := by decide +kernel
theorem dX13_qTakes_107 : decode cX13_qTakes 107 = .ok (.lload_n 2, 1) := by decide +kernel
theorem dX13_qTakes_108 : decode cX13_qTakes 108 = .ok (.aload_n 0, 1) := by decide +kernel
theorem dX13_qTakes_109 : decode cX13_qTakes 109 = .ok (.getfield 681, 3) := by decide +kernel
theorem dX13_qTakes_112 : decode cX13_qTakes 112 = .ok (.lcmp, 1) := by decide +kernel
theorem dX13_qTakes_113 : decode cX13_qTakes 113 = .ok (.ifCond .le 20, 3) := by decide +kernel
theorem dX13_qTakes_116 : decode cX13_qTakes 116 = .ok (.goto 12, 3) := by decide +kernel
theorem dX13_qTakes_119 : decode cX13_qTakes 119 = .ok (.lload_n 2, 1) := by decide +kernel
theorem dX13_qTakes_120 : decode cX13_qTakes 120 = .ok (.aload_n 0, 1) := by decide +kernel
theorem dX13_qTakes_121 : decode cX13_qTakes 121 = .ok (.getfield 681, 3) := by decide +kernel
theorem dX13_qTakes_124 : decode cX13_qTakes 124 = .ok (.lcmp, 1) := by decide +kernel
theorem dX13_qTakes_125 : decode cX13_qTakes 125 = .ok (.ifCond .ge 8, 3) := by decide +kernel
theorem dX13_qTakes_128 : decode cX13_qTakes 128 = .ok (.aload_n 0, 1) := by decide +kernel
theorem dX13_qTakes_129 : decode cX13_qTakes 129 = .ok (.lload_n 2, 1) := by decide +kernel
theorem dX13_qTakes_130 : decode cX13_qTakes 130 = .ok (.putfield 681, 3) := by decide +kernel
theorem dX13_qTakes_133 : decode cX13_qTakes 133 = .ok (.aload_n 0, 1) := by decide +kernel
theorem dX13_qTakes_134 : decode cX13_qTakes 134 = .ok (.iconst 0, 1) := by decide +kernel
theorem dX13_qTakes_135 : decode cX13_qTakes 135 = .ok (.putfield 686, 3) := by decide +kernel
theorem dX13_qTakes_138 : decode cX13_qTakes 138 = .ok (.return_, 1) := by decide +kernel
theorem dX13_ask_0 : decode cX13_ask 0 = .ok (.aload_n 0, 1) := by decide +kernel
theorem dX13_ask_1 : decode cX13_ask 1 = .ok (.getfield 403, 3) := by decide +kernel
theorem dX13_ask_4 : decode cX13_ask 4 = .ok (.ifCond .ne 12, 3) := by decide +kernel
theorem dX13_ask_7 : decode cX13_ask 7 = .ok (.aload_n 0, 1) := by decide +kernel
theorem dX13_ask_8 : decode cX13_ask 8 = .ok (.iconst 0, 1) := by decide +kernel
theorem dX13_ask_9 : decode cX13_ask 9 = .ok (.putfield 261, 3) := by decide +kernel
theorem dX13_ask_12 : decode cX13_ask 12 = .ok (.ldc2_w 689, 3) := by decide +kernel
theorem dX13_ask_15 : decode cX13_ask 15 = .ok (.lreturn, 1) := by decide +kernel
theorem dX13_ask_16 : decode cX13_ask 16 = .ok (.aload_n 0, 1) := by decide +kernel
theorem dX13_ask_17 : decode cX13_ask 17 = .ok (.aload_n 0, 1) := by decide +kernel
theorem dX13_ask_18 : decode cX13_ask 18 = .ok (.getfield 261, 3) := by decide +kernel
theorem dX13_ask_21 : decode cX13_ask 21 = .ok (.putfield 273, 3) := by decide +kernel
theorem dX13_ask_24 : decode cX13_ask 24 = .ok (.aload_n 0, 1) := by decide +kernel
theorem dX13_ask_25 : decode cX13_ask 25 = .ok (.iconst 0, 1) := by decide +kernel
theorem dX13_ask_26 : decode cX13_ask 26 = .ok (.putfield 261, 3) := by decide +kernel
theorem dX13_ask_29 : decode cX13_ask 29 = .ok (.aload_n 0, 1) := by decide +kernel
theorem dX13_ask_30 : decode cX13_ask 30 = .ok (.iconst 0, 1) := by decide +kernel
theorem dX13_ask_31 : decode cX13_ask 31 = .ok (.putfield 270, 3) := by decide +kernel
theorem dX13_ask_34 : decode cX13_ask 34 = .ok (.aload_n 0, 1) := by decide +kernel
theorem dX13_ask_35 : decode cX13_ask 35 = .ok (.iconst (-1), 1) := by decide +kernel
theorem dX13_ask_36 : decode cX13_ask 36 = .ok (.putfield 284, 3) := by decide +kernel
theorem dX13_ask_39 : decode cX13_ask 39 = .ok (.aload_n 0, 1) := by decide +kernel
theorem dX13_ask_40 : decode cX13_ask 40 = .ok (.iconst 0, 1) := by decide +kernel
theorem dX13_ask_41 : decode cX13_ask 41 = .ok (.putfield 264, 3) := by decide +kernel
theorem dX13_ask_44 : decode cX13_ask 44 = .ok (.aload_n 0, 1) := by decide +kernel
theorem dX13_ask_45 : decode cX13_ask 45 = .ok (.iconst (-1), 1) := by decide +kernel
theorem dX13_ask_46 : decode cX13_ask 46 = .ok (.putfield 267, 3) := by decide +kernel
theorem dX13_ask_49 : decode cX13_ask 49 = .ok (.aload_n 0, 1) := by decide +kernel
theorem dX13_ask_50 : decode cX13_ask 50 = .ok (.iconst 2, 1) := by decide +kernel
theorem dX13_ask_51 : decode cX13_ask 51 = .ok (.putfield 322, 3) := by decide +kernel
theorem dX13_ask_54 : decode cX13_ask 54 = .ok (.aload_n 0, 1) := by decide +kernel
theorem dX13_ask_55 : decode cX13_ask 55 = .ok (.iconst 0, 1) := by decide +kernel
theorem dX13_ask_56 : decode cX13_ask 56 = .ok (.putfield 355, 3) := by decide +kernel
theorem dX13_ask_59 : decode cX13_ask 59 = .ok (.aload_n 0, 1) := by decide +kernel
theorem dX13_ask_60 : decode cX13_ask 60 = .ok (.iconst 0, 1) := by decide +kernel
theorem dX13_ask_61 : decode cX13_ask 61 = .ok (.putfield 358, 3) := by decide +kernel
theorem dX13_ask_64 : decode cX13_ask 64 = .ok (.aload_n 0, 1) := by decide +kernel
theorem dX13_ask_65 : decode cX13_ask 65 = .ok (.iconst 0, 1) := by decide +kernel
theorem dX13_ask_66 : decode cX13_ask 66 = .ok (.putfield 361, 3) := by decide +kernel
theorem dX13_ask_69 : decode cX13_ask 69 = .ok (.aload_n 0, 1) := by decide +kernel
theorem dX13_ask_70 : decode cX13_ask 70 = .ok (.iconst 0, 1) := by decide +kernel
theorem dX13_ask_71 : decode cX13_ask 71 = .ok (.putfield 364, 3) := by decide +kernel
theorem dX13_ask_74 : decode cX13_ask 74 = .ok (.aload_n 0, 1) := by decide +kernel
theorem dX13_ask_75 : decode cX13_ask 75 = .ok (.invokevirtual 691, 3) := by decide +kernel
theorem dX13_ask_78 : decode cX13_ask 78 = .ok (.istore_n 1, 1) := by decide +kernel
theorem dX13_ask_79 : decode cX13_ask 79 = .ok (.aload_n 0, 1) := by decide +kernel
theorem dX13_ask_80 : decode cX13_ask 80 = .ok (.getfield 264, 3) := by decide +kernel
theorem dX13_ask_83 : decode cX13_ask 83 = .ok (.ifCond .ne 15, 3) := by decide +kernel
theorem dX13_ask_86 : decode cX13_ask 86 = .ok (.iload_n 1, 1) := by decide +kernel
theorem dX13_ask_87 : decode cX13_ask 87 = .ok (.iconst 3, 1) := by decide +kernel
theorem dX13_ask_88 : decode cX13_ask 88 = .ok (.if_icmp .ge 10, 3) := by decide +kernel
theorem dX13_ask_91 : decode cX13_ask 91 = .ok (.aload_n 0, 1) := by decide +kernel
theorem dX13_ask_92 : decode cX13_ask 92 = .ok (.invokevirtual 367, 3) := by decide +kernel
theorem dX13_ask_95 : decode cX13_ask 95 = .ok (.goto 14, 3) := by decide +kernel
theorem dX13_ask_98 : decode cX13_ask 98 = .ok (.aload_n 0, 1) := by decide +kernel
theorem dX13_ask_99 : decode cX13_ask 99 = .ok (.getfield 264, 3) := by decide +kernel
theorem dX13_ask_102 : decode cX13_ask 102 = .ok (.ifCond .ne 7, 3) := by decide +kernel
theorem dX13_ask_105 : decode cX13_ask 105 = .ok (.aload_n 0, 1) := by decide +kernel
theorem dX13_ask_106 : decode cX13_ask 106 = .ok (.invokevirtual 370, 3) := by decide +kernel
theorem dX13_ask_109 : decode cX13_ask 109 = .ok (.aload_n 0, 1) := by decide +kernel
theorem dX13_ask_110 : decode cX13_ask 110 = .ok (.getfield 264, 3) := by decide +kernel
theorem dX13_ask_113 : decode cX13_ask 113 = .ok (.ifCond .ne 20, 3) := by decide +kernel
theorem dX13_ask_116 : decode cX13_ask 116 = .ok (.aload_n 0, 1) := by decide +kernel
theorem dX13_ask_117 : decode cX13_ask 117 = .ok (.invokevirtual 276, 3) := by decide +kernel
theorem dX13_ask_120 : decode cX13_ask 120 = .ok (.iconst (-1), 1) := by decide +kernel
theorem dX13_ask_121 : decode cX13_ask 121 = .ok (.if_icmp .eq 12, 3) := by decide +kernel
theorem dX13_ask_124 : decode cX13_ask 124 = .ok (.aload_n 0, 1) := by decide +kernel
theorem dX13_ask_125 : decode cX13_ask 125 = .ok (.iconst 1, 1) := by decide +kernel
theorem dX13_ask_126 : decode cX13_ask 126 = .ok (.aload_n 0, 1) := by decide +kernel
theorem dX13_ask_127 : decode cX13_ask 127 = .ok (.getfield 270, 3) := by decide +kernel
theorem dX13_ask_130 : decode cX13_ask 130 = .ok (.invokevirtual 294, 3) := by decide +kernel
theorem dX13_ask_133 : decode cX13_ask 133 = .ok (.aload_n 0, 1) := by decide +kernel
theorem dX13_ask_134 : decode cX13_ask 134 = .ok (.aload_n 0, 1) := by decide +kernel
theorem dX13_ask_135 : decode cX13_ask 135 = .ok (.getfield 264, 3) := by decide +kernel
theorem dX13_ask_138 : decode cX13_ask 138 = .ok (.putfield 397, 3) := by decide +kernel
theorem dX13_ask_141 : decode cX13_ask 141 = .ok (.aload_n 0, 1) := by decide +kernel
theorem dX13_ask_142 : decode cX13_ask 142 = .ok (.aload_n 0, 1) := by decide +kernel
theorem dX13_ask_143 : decode cX13_ask 143 = .ok (.getfield 267, 3) := by decide +kernel
theorem dX13_ask_146 : decode cX13_ask 146 = .ok (.putfield 13, 3) := by decide +kernel
theorem dX13_ask_149 : decode cX13_ask 149 = .ok (.aload_n 0, 1) := by decide +kernel
theorem dX13_ask_150 : decode cX13_ask 150 = .ok (.getfield 264, 3) := by decide +kernel
theorem dX13_ask_153 : decode cX13_ask 153 = .ok (.ifCond .eq 7, 3) := by decide +kernel
theorem dX13_ask_156 : decode cX13_ask 156 = .ok (.ldc2_w 689, 3) := by decide +kernel
theorem dX13_ask_159 : decode cX13_ask 159 = .ok (.lreturn, 1) := by decide +kernel
theorem dX13_ask_160 : decode cX13_ask 160 = .ok (.aload_n 0, 1) := by decide +kernel
theorem dX13_ask_161 : decode cX13_ask 161 = .ok (.iload_n 1, 1) := by decide +kernel
theorem dX13_ask_162 : decode cX13_ask 162 = .ok (.iconst 2, 1) := by decide +kernel
theorem dX13_ask_163 : decode cX13_ask 163 = .ok (.if_icmp .ge 9, 3) := by decide +kernel
theorem dX13_ask_166 : decode cX13_ask 166 = .ok (.ldc2_w 684, 3) := by decide +kernel
theorem dX13_ask_169 : decode cX13_ask 169 = .ok (.goto 4, 3) := by decide +kernel
theorem dX13_ask_172 : decode cX13_ask 172 = .ok (.lconst 0, 1) := by decide +kernel
theorem dX13_ask_173 : decode cX13_ask 173 = .ok (.putfield 681, 3) := by decide +kernel
theorem dX13_ask_176 : decode cX13_ask 176 = .ok (.aload_n 0, 1) := by decide +kernel
theorem dX13_ask_177 : decode cX13_ask 177 = .ok (.iconst 1, 1) := by decide +kernel
theorem dX13_ask_178 : decode cX13_ask 178 = .ok (.putfield 686, 3) := by decide +kernel
theorem dX13_ask_181 : decode cX13_ask 181 = .ok (.aload_n 0, 1) := by decide +kernel
theorem dX13_ask_182 : decode cX13_ask 182 = .ok (.invokevirtual 516, 3) := by decide +kernel
theorem dX13_ask_185 : decode cX13_ask 185 = .ok (.iconst 0, 1) := by decide +kernel
theorem dX13_ask_186 : decode cX13_ask 186 = .ok (.istore_n 2, 1) := by decide +kernel
theorem dX13_ask_187 : decode cX13_ask 187 = .ok (.iload_n 2, 1) := by decide +kernel
theorem dX13_ask_188 : decode cX13_ask 188 = .ok (.aload_n 0, 1) := by decide +kernel
theorem dX13_ask_189 : decode cX13_ask 189 = .ok (.invokevirtual 416, 3) := by decide +kernel
theorem dX13_ask_192 : decode cX13_ask 192 = .ok (.if_icmp .ge 32, 3) := by decide +kernel
theorem dX13_ask_195 : decode cX13_ask 195 = .ok (.aload_n 0, 1) := by decide +kernel
theorem dX13_ask_196 : decode cX13_ask 196 = .ok (.iload_n 2, 1) := by decide +kernel
theorem dX13_ask_197 : decode cX13_ask 197 = .ok (.invokevirtual 519, 3) := by decide +kernel
theorem dX13_ask_200 : decode cX13_ask 200 = .ok (.istore_n 3, 1) := by decide +kernel
theorem dX13_ask_201 : decode cX13_ask 201 = .ok (.aload_n 0, 1) := by decide +kernel
theorem dX13_ask_202 : decode cX13_ask 202 = .ok (.getfield 157, 3) := by decide +kernel
theorem dX13_ask_205 : decode cX13_ask 205 = .ok (.iload_n 2, 1) := by decide +kernel
theorem dX13_ask_206 : decode cX13_ask 206 = .ok (.iload_n 3, 1) := by decide +kernel
theorem dX13_ask_207 : decode cX13_ask 207 = .ok (.iconst (-1), 1) := by decide +kernel
theorem dX13_ask_208 : decode cX13_ask 208 = .ok (.if_icmp .ne 8, 3) := by decide +kernel
theorem dX13_ask_211 : decode cX13_ask 211 = .ok (.bipush 12, 2) := by decide +kernel
theorem dX13_ask_213 : decode cX13_ask 213 = .ok (.goto 4, 3) := by decide +kernel
theorem dX13_ask_216 : decode cX13_ask 216 = .ok (.iload_n 3, 1) := by decide +kernel
theorem dX13_ask_217 : decode cX13_ask 217 = .ok (.iastore, 1) := by decide +kernel
theorem dX13_ask_218 : decode cX13_ask 218 = .ok (.iinc 2 1, 3) := by decide +kernel
theorem dX13_ask_221 : decode cX13_ask 221 = .ok (.goto (-34), 3) := by decide +kernel
theorem dX13_ask_224 : decode cX13_ask 224 = .ok (.aload_n 0, 1) := by decide +kernel
theorem dX13_ask_225 : decode cX13_ask 225 = .ok (.aload_n 0, 1) := by decide +kernel
theorem dX13_ask_226 : decode cX13_ask 226 = .ok (.getfield 151, 3) := by decide +kernel
theorem dX13_ask_229 : decode cX13_ask 229 = .ok (.iconst 0, 1) := by decide +kernel
theorem dX13_ask_230 : decode cX13_ask 230 = .ok (.iaload, 1) := by decide +kernel
theorem dX13_ask_231 : decode cX13_ask 231 = .ok (.putfield 453, 3) := by decide +kernel
theorem dX13_ask_234 : decode cX13_ask 234 = .ok (.aload_n 0, 1) := by decide +kernel
theorem dX13_ask_235 : decode cX13_ask 235 = .ok (.iconst 2, 1) := by decide +kernel
theorem dX13_ask_236 : decode cX13_ask 236 = .ok (.putfield 322, 3) := by decide +kernel
theorem dX13_ask_239 : decode cX13_ask 239 = .ok (.iconst 0, 1) := by decide +kernel
theorem dX13_ask_240 : decode cX13_ask 240 = .ok (.istore_n 2, 1) := by decide +kernel
theorem dX13_ask_241 : decode cX13_ask 241 = .ok (.iload_n 2, 1) := by decide +kernel
theorem dX13_ask_242 : decode cX13_ask 242 = .ok (.aload_n 0, 1) := by decide +kernel
theorem dX13_ask_243 : decode cX13_ask 243 = .ok (.invokevirtual 416, 3) := by decide +kernel
theorem dX13_ask_246 : decode cX13_ask 246 = .ok (.if_icmp .ge 20, 3) := by decide +kernel
theorem dX13_ask_249 : decode cX13_ask 249 = .ok (.aload_n 0, 1) := by decide +kernel
theorem dX13_ask_250 : decode cX13_ask 250 = .ok (.iload_n 1, 1) := by decide +kernel
theorem dX13_ask_251 : decode cX13_ask 251 = .ok (.aload_n 0, 1) := by decide +kernel
theorem dX13_ask_252 : decode cX13_ask 252 = .ok (.iload_n 2, 1) := by decide +kernel
theorem dX13_ask_253 : decode cX13_ask 253 = .ok (.invokevirtual 694, 3) := by decide +kernel
theorem dX13_ask_256 : decode cX13_ask 256 = .ok (.iload_n 2, 1) := by decide +kernel
theorem dX13_ask_257 : decode cX13_ask 257 = .ok (.invokevirtual 698, 3) := by decide +kernel
theorem dX13_ask_260 : decode cX13_ask 260 = .ok (.iinc 2 1, 3) := by decide +kernel
theorem dX13_ask_263 : decode cX13_ask 263 = .ok (.goto (-22), 3) := by decide +kernel
theorem dX13_ask_266 : decode cX13_ask 266 = .ok (.aload_n 0, 1) := by decide +kernel
theorem dX13_ask_267 : decode cX13_ask 267 = .ok (.getfield 681, 3) := by decide +kernel
theorem dX13_ask_270 : decode cX13_ask 270 = .ok (.lreturn, 1) := by decide +kernel
theorem dX13_checked_0 : decode cX13_checked 0 = .ok (.bipush 79, 2) := by decide +kernel
theorem dX13_checked_2 : decode cX13_checked 2 = .ok (.istore_n 2, 1) := by decide +kernel
theorem dX13_checked_3 : decode cX13_checked 3 = .ok (.iconst 0, 1) := by decide +kernel
theorem dX13_checked_4 : decode cX13_checked 4 = .ok (.istore_n 3, 1) := by decide +kernel
theorem dX13_checked_5 : decode cX13_checked 5 = .ok (.iload_n 3, 1) := by decide +kernel
theorem dX13_checked_6 : decode cX13_checked 6 = .ok (.iload_n 1, 1) := by decide +kernel
theorem dX13_checked_7 : decode cX13_checked 7 = .ok (.if_icmp .ge 21, 3) := by decide +kernel
theorem dX13_checked_10 : decode cX13_checked 10 = .ok (.iconst 3, 1) := by decide +kernel
theorem dX13_checked_11 : decode cX13_checked 11 = .ok (.iload_n 2, 1) := by decide +kernel
theorem dX13_checked_12 : decode cX13_checked 12 = .ok (.imul, 1) := by decide +kernel
theorem dX13_checked_13 : decode cX13_checked 13 = .ok (.aload_n 0, 1) := by decide +kernel
theorem dX13_checked_14 : decode cX13_checked 14 = .ok (.iload_n 3, 1) := by decide +kernel
theorem dX13_checked_15 : decode cX13_checked 15 = .ok (.iaload, 1) := by decide +kernel
theorem dX13_checked_16 : decode cX13_checked 16 = .ok (.iadd, 1) := by decide +kernel
theorem dX13_checked_17 : decode cX13_checked 17 = .ok (.sipush 251, 3) := by decide +kernel
theorem dX13_checked_20 : decode cX13_checked 20 = .ok (.irem, 1) := by decide +kernel
theorem dX13_checked_21 : decode cX13_checked 21 = .ok (.istore_n 2, 1) := by decide +kernel
theorem dX13_checked_22 : decode cX13_checked 22 = .ok (.iinc 3 1, 3) := by decide +kernel
theorem dX13_checked_25 : decode cX13_checked 25 = .ok (.goto (-20), 3) := by decide +kernel
theorem dX13_checked_28 : decode cX13_checked 28 = .ok (.iload_n 2, 1) := by decide +kernel
theorem dX13_checked_29 : decode cX13_checked 29 = .ok (.ireturn, 1) := by decide +kernel
theorem dX13_writes_0 : decode cX13_writes 0 = .ok (.aload_n 0, 1) := by decide +kernel
theorem dX13_writes_1 : decode cX13_writes 1 = .ok (.getfield 258, 3) := by decide +kernel
theorem dX13_writes_4 : decode cX13_writes 4 = .ok (.aload_n 0, 1) := by decide +kernel
theorem dX13_writes_5 : decode cX13_writes 5 = .ok (.getfield 702, 3) := by decide +kernel
theorem dX13_writes_8 : decode cX13_writes 8 = .ok (.iload_n 1, 1) := by decide +kernel
theorem dX13_writes_9 : decode cX13_writes 9 = .ok (.iastore, 1) := by decide +kernel
theorem dX13_writes_10 : decode cX13_writes 10 = .ok (.aload_n 0, 1) := by decide +kernel
theorem dX13_writes_11 : decode cX13_writes 11 = .ok (.dup, 1) := by decide +kernel
theorem dX13_writes_12 : decode cX13_writes 12 = .ok (.getfield 702, 3) := by decide +kernel
theorem dX13_writes_15 : decode cX13_writes 15 = .ok (.iconst 1, 1) := by decide +kernel
theorem dX13_writes_16 : decode cX13_writes 16 = .ok (.iadd, 1) := by decide +kernel
theorem dX13_writes_17 : decode cX13_writes 17 = .ok (.putfield 702, 3) := by decide +kernel
theorem dX13_writes_20 : decode cX13_writes 20 = .ok (.return_, 1) := by decide +kernel
theorem dX13_writesTwo_0 : decode cX13_writesTwo 0 = .ok (.aload_n 0, 1) := by decide +kernel
theorem dX13_writesTwo_1 : decode cX13_writesTwo 1 = .ok (.iload_n 1, 1) := by decide +kernel
theorem dX13_writesTwo_2 : decode cX13_writesTwo 2 = .ok (.sipush 256, 3) := by decide +kernel
theorem dX13_writesTwo_5 : decode cX13_writesTwo 5 = .ok (.idiv, 1) := by decide +kernel
theorem dX13_writesTwo_6 : decode cX13_writesTwo 6 = .ok (.invokevirtual 705, 3) := by decide +kernel
theorem dX13_writesTwo_9 : decode cX13_writesTwo 9 = .ok (.aload_n 0, 1) := by decide +kernel
theorem dX13_writesTwo_10 : decode cX13_writesTwo 10 = .ok (.iload_n 1, 1) := by decide +kernel
theorem dX13_writesTwo_11 : decode cX13_writesTwo 11 = .ok (.sipush 256, 3) := by decide +kernel
theorem dX13_writesTwo_14 : decode cX13_writesTwo 14 = .ok (.irem, 1) := by decide +kernel
theorem dX13_writesTwo_15 : decode cX13_writesTwo 15 = .ok (.invokevirtual 705, 3) := by decide +kernel
theorem dX13_writesTwo_18 : decode cX13_writesTwo 18 = .ok (.return_, 1) := by decide +kernel
theorem dX13_image_0 : decode cX13_image 0 = .ok (.aload_n 0, 1) := by decide +kernel
theorem dX13_image_1 : decode cX13_image 1 = .ok (.iconst 0, 1) := by decide +kernel
theorem dX13_image_2 : decode cX13_image 2 = .ok (.putfield 702, 3) := by decide +kernel
theorem dX13_image_5 : decode cX13_image 5 = .ok (.aload_n 0, 1) := by decide +kernel
theorem dX13_image_6 : decode cX13_image 6 = .ok (.aload_n 0, 1) := by decide +kernel
theorem dX13_image_7 : decode cX13_image 7 = .ok (.getfield 151, 3) := by decide +kernel
theorem dX13_image_10 : decode cX13_image 10 = .ok (.iconst 0, 1) := by decide +kernel
theorem dX13_image_11 : decode cX13_image 11 = .ok (.iaload, 1) := by decide +kernel
theorem dX13_image_12 : decode cX13_image 12 = .ok (.invokevirtual 708, 3) := by decide +kernel
theorem dX13_image_15 : decode cX13_image 15 = .ok (.aload_n 0, 1) := by decide +kernel
theorem dX13_image_16 : decode cX13_image 16 = .ok (.aload_n 0, 1) := by decide +kernel
theorem dX13_image_17 : decode cX13_image 17 = .ok (.getfield 151, 3) := by decide +kernel
theorem dX13_image_20 : decode cX13_image 20 = .ok (.iconst 1, 1) := by decide +kernel
theorem dX13_image_21 : decode cX13_image 21 = .ok (.iaload, 1) := by decide +kernel
theorem dX13_image_22 : decode cX13_image 22 = .ok (.invokevirtual 705, 3) := by decide +kernel
theorem dX13_image_25 : decode cX13_image 25 = .ok (.iconst 0, 1) := by decide +kernel
theorem dX13_image_26 : decode cX13_image 26 = .ok (.istore_n 1, 1) := by decide +kernel
theorem dX13_image_27 : decode cX13_image 27 = .ok (.iload_n 1, 1) := by decide +kernel
theorem dX13_image_28 : decode cX13_image 28 = .ok (.aload_n 0, 1) := by decide +kernel
theorem dX13_image_29 : decode cX13_image 29 = .ok (.invokevirtual 416, 3) := by decide +kernel
theorem dX13_image_32 : decode cX13_image 32 = .ok (.if_icmp .ge 45, 3) := by decide +kernel
theorem dX13_image_35 : decode cX13_image 35 = .ok (.aload_n 0, 1) := by decide +kernel
theorem dX13_image_36 : decode cX13_image 36 = .ok (.aload_n 0, 1) := by decide +kernel
theorem dX13_image_37 : decode cX13_image 37 = .ok (.iload_n 1, 1) := by decide +kernel
theorem dX13_image_38 : decode cX13_image 38 = .ok (.invokevirtual 486, 3) := by decide +kernel
theorem dX13_image_41 : decode cX13_image 41 = .ok (.invokevirtual 705, 3) := by decide +kernel
theorem dX13_image_44 : decode cX13_image 44 = .ok (.aload_n 0, 1) := by decide +kernel
theorem dX13_image_45 : decode cX13_image 45 = .ok (.aload_n 0, 1) := by decide +kernel
theorem dX13_image_46 : decode cX13_image 46 = .ok (.iload_n 1, 1) := by decide +kernel
theorem dX13_image_47 : decode cX13_image 47 = .ok (.invokevirtual 674, 3) := by decide +kernel
theorem dX13_image_50 : decode cX13_image 50 = .ok (.invokevirtual 708, 3) := by decide +kernel
theorem dX13_image_53 : decode cX13_image 53 = .ok (.aload_n 0, 1) := by decide +kernel
theorem dX13_image_54 : decode cX13_image 54 = .ok (.aload_n 0, 1) := by decide +kernel
theorem dX13_image_55 : decode cX13_image 55 = .ok (.iload_n 1, 1) := by decide +kernel
theorem dX13_image_56 : decode cX13_image 56 = .ok (.invokevirtual 498, 3) := by decide +kernel
theorem dX13_image_59 : decode cX13_image 59 = .ok (.invokevirtual 708, 3) := by decide +kernel
theorem dX13_image_62 : decode cX13_image 62 = .ok (.aload_n 0, 1) := by decide +kernel
theorem dX13_image_63 : decode cX13_image 63 = .ok (.aload_n 0, 1) := by decide +kernel
theorem dX13_image_64 : decode cX13_image 64 = .ok (.iload_n 1, 1) := by decide +kernel
theorem dX13_image_65 : decode cX13_image 65 = .ok (.invokevirtual 489, 3) := by decide +kernel
theorem dX13_image_68 : decode cX13_image 68 = .ok (.invokevirtual 705, 3) := by decide +kernel
theorem dX13_image_71 : decode cX13_image 71 = .ok (.iinc 1 1, 3) := by decide +kernel
theorem dX13_image_74 : decode cX13_image 74 = .ok (.goto (-47), 3) := by decide +kernel
theorem dX13_image_77 : decode cX13_image 77 = .ok (.aload_n 0, 1) := by decide +kernel
theorem dX13_image_78 : decode cX13_image 78 = .ok (.aload_n 0, 1) := by decide +kernel
theorem dX13_image_79 : decode cX13_image 79 = .ok (.getfield 258, 3) := by decide +kernel
theorem dX13_image_82 : decode cX13_image 82 = .ok (.aload_n 0, 1) := by decide +kernel
theorem dX13_image_83 : decode cX13_image 83 = .ok (.getfield 702, 3) := by decide +kernel
theorem dX13_image_86 : decode cX13_image 86 = .ok (.invokestatic 711, 3) := by decide +kernel
theorem dX13_image_89 : decode cX13_image 89 = .ok (.invokevirtual 705, 3) := by decide +kernel
theorem dX13_image_92 : decode cX13_image 92 = .ok (.aload_n 0, 1) := by decide +kernel
theorem dX13_image_93 : decode cX13_image 93 = .ok (.getfield 702, 3) := by decide +kernel
theorem dX13_image_96 : decode cX13_image 96 = .ok (.ireturn, 1) := by decide +kernel
theorem dX13_octet_0 : decode cX13_octet 0 = .ok (.iload_n 1, 1) := by decide +kernel
theorem dX13_octet_1 : decode cX13_octet 1 = .ok (.ifCond .lt 20, 3) := by decide +kernel
theorem dX13_octet_4 : decode cX13_octet 4 = .ok (.iload_n 1, 1) := by decide +kernel
theorem dX13_octet_5 : decode cX13_octet 5 = .ok (.aload_n 0, 1) := by decide +kernel
theorem dX13_octet_6 : decode cX13_octet 6 = .ok (.getfield 702, 3) := by decide +kernel
theorem dX13_octet_9 : decode cX13_octet 9 = .ok (.if_icmp .ge 12, 3) := by decide +kernel
theorem dX13_octet_12 : decode cX13_octet 12 = .ok (.aload_n 0, 1) := by decide +kernel
theorem dX13_octet_13 : decode cX13_octet 13 = .ok (.getfield 258, 3) := by decide +kernel
theorem dX13_octet_16 : decode cX13_octet 16 = .ok (.iload_n 1, 1) := by decide +kernel
theorem dX13_octet_17 : decode cX13_octet 17 = .ok (.iaload, 1) := by decide +kernel
theorem dX13_octet_18 : decode cX13_octet 18 = .ok (.goto 4, 3) := by decide +kernel
theorem dX13_octet_21 : decode cX13_octet 21 = .ok (.iconst (-1), 1) := by decide +kernel
theorem dX13_octet_22 : decode cX13_octet 22 = .ok (.ireturn, 1) := by decide +kernel
theorem dX13_twoAt_0 : decode cX13_twoAt 0 = .ok (.sipush 256, 3) := by decide +kernel
theorem dX13_twoAt_3 : decode cX13_twoAt 3 = .ok (.aload_n 0, 1) := by decide +kernel
theorem dX13_twoAt_4 : decode cX13_twoAt 4 = .ok (.getfield 7, 3) := by decide +kernel
theorem dX13_twoAt_7 : decode cX13_twoAt 7 = .ok (.iload_n 1, 1) := by decide +kernel
theorem dX13_twoAt_8 : decode cX13_twoAt 8 = .ok (.iaload, 1) := by decide +kernel
theorem dX13_twoAt_9 : decode cX13_twoAt 9 = .ok (.imul, 1) := by decide +kernel
theorem dX13_twoAt_10 : decode cX13_twoAt 10 = .ok (.aload_n 0, 1) := by decide +kernel
theorem dX13_twoAt_11 : decode cX13_twoAt 11 = .ok (.getfield 7, 3) := by decide +kernel
theorem dX13_twoAt_14 : decode cX13_twoAt 14 = .ok (.iload_n 1, 1) := by decide +kernel
theorem dX13_twoAt_15 : decode cX13_twoAt 15 = .ok (.iconst 1, 1) := by decide +kernel
theorem dX13_twoAt_16 : decode cX13_twoAt 16 = .ok (.iadd, 1) := by decide +kernel
theorem dX13_twoAt_17 : decode cX13_twoAt 17 = .ok (.iaload, 1) := by decide +kernel
theorem dX13_twoAt_18 : decode cX13_twoAt 18 = .ok (.iadd, 1) := by decide +kernel
theorem dX13_twoAt_19 : decode cX13_twoAt 19 = .ok (.ireturn, 1) := by decide +kernel
theorem dX13_isImage_0 : decode cX13_isImage 0 = .ok (.aload_n 0, 1) := by decide +kernel
theorem dX13_isImage_1 : decode cX13_isImage 1 = .ok (.getfield 403, 3) := by decide +kernel
theorem dX13_isImage_4 : decode cX13_isImage 4 = .ok (.ifCond .eq 63, 3) := by decide +kernel
theorem dX13_isImage_7 : decode cX13_isImage 7 = .ok (.iload_n 1, 1) := by decide +kernel
theorem dX13_isImage_8 : decode cX13_isImage 8 = .ok (.iconst 4, 1) := by decide +kernel
theorem dX13_isImage_9 : decode cX13_isImage 9 = .ok (.bipush 6, 2) := by decide +kernel
theorem dX13_isImage_11 : decode cX13_isImage 11 = .ok (.aload_n 0, 1) := by decide +kernel
theorem dX13_isImage_12 : decode cX13_isImage 12 = .ok (.invokevirtual 416, 3) := by decide +kernel
theorem dX13_isImage_15 : decode cX13_isImage 15 = .ok (.imul, 1) := by decide +kernel
theorem dX13_isImage_16 : decode cX13_isImage 16 = .ok (.iadd, 1) := by decide +kernel
theorem dX13_isImage_17 : decode cX13_isImage 17 = .ok (.if_icmp .ne 50, 3) := by decide +kernel
theorem dX13_isImage_20 : decode cX13_isImage 20 = .ok (.aload_n 0, 1) := by decide +kernel
theorem dX13_isImage_21 : decode cX13_isImage 21 = .ok (.getfield 7, 3) := by decide +kernel
theorem dX13_isImage_24 : decode cX13_isImage 24 = .ok (.iload_n 1, 1) := by decide +kernel
theorem dX13_isImage_25 : decode cX13_isImage 25 = .ok (.iconst 1, 1) := by decide +kernel
theorem dX13_isImage_26 : decode cX13_isImage 26 = .ok (.isub, 1) := by decide +kernel
theorem dX13_isImage_27 : decode cX13_isImage 27 = .ok (.iaload, 1) := by decide +kernel
theorem dX13_isImage_28 : decode cX13_isImage 28 = .ok (.aload_n 0, 1) := by decide +kernel
theorem dX13_isImage_29 : decode cX13_isImage 29 = .ok (.getfield 7, 3) := by decide +kernel
theorem dX13_isImage_32 : decode cX13_isImage 32 = .ok (.iload_n 1, 1) := by decide +kernel
theorem dX13_isImage_33 : decode cX13_isImage 33 = .ok (.iconst 1, 1) := by decide +kernel
theorem dX13_isImage_34 : decode cX13_isImage 34 = .ok (.isub, 1) := by decide +kernel
theorem dX13_isImage_35 : decode cX13_isImage 35 = .ok (.invokestatic 711, 3) := by decide +kernel
theorem dX13_isImage_38 : decode cX13_isImage 38 = .ok (.if_icmp .ne 29, 3) := by decide +kernel
theorem dX13_isImage_41 : decode cX13_isImage 41 = .ok (.aload_n 0, 1) := by decide +kernel
theorem dX13_isImage_42 : decode cX13_isImage 42 = .ok (.iconst 0, 1) := by decide +kernel
theorem dX13_isImage_43 : decode cX13_isImage 43 = .ok (.invokevirtual 715, 3) := by decide +kernel
theorem dX13_isImage_46 : decode cX13_isImage 46 = .ok (.sipush 999, 3) := by decide +kernel
theorem dX13_isImage_49 : decode cX13_isImage 49 = .ok (.if_icmp .gt 18, 3) := by decide +kernel
theorem dX13_isImage_52 : decode cX13_isImage 52 = .ok (.aload_n 0, 1) := by decide +kernel
theorem dX13_isImage_53 : decode cX13_isImage 53 = .ok (.getfield 7, 3) := by decide +kernel
theorem dX13_isImage_56 : decode cX13_isImage 56 = .ok (.iconst 2, 1) := by decide +kernel
theorem dX13_isImage_57 : decode cX13_isImage 57 = .ok (.iaload, 1) := by decide +kernel
theorem dX13_isImage_58 : decode cX13_isImage 58 = .ok (.iconst 1, 1) := by decide +kernel
theorem dX13_isImage_59 : decode cX13_isImage 59 = .ok (.aload_n 0, 1) := by decide +kernel
theorem dX13_isImage_60 : decode cX13_isImage 60 = .ok (.invokevirtual 413, 3) := by decide +kernel
theorem dX13_isImage_63 : decode cX13_isImage 63 = .ok (.ishl, 1) := by decide +kernel
theorem dX13_isImage_64 : decode cX13_isImage 64 = .ok (.if_icmp .lt 5, 3) := by decide +kernel
theorem dX13_isImage_67 : decode cX13_isImage 67 = .ok (.iconst 0, 1) := by decide +kernel
theorem dX13_isImage_68 : decode cX13_isImage 68 = .ok (.ireturn, 1) := by decide +kernel
theorem dX13_isImage_69 : decode cX13_isImage 69 = .ok (.iconst 3, 1) := by decide +kernel
theorem dX13_isImage_70 : decode cX13_isImage 70 = .ok (.istore_n 2, 1) := by decide +kernel
theorem dX13_isImage_71 : decode cX13_isImage 71 = .ok (.iload_n 2, 1) := by decide +kernel
theorem dX13_isImage_72 : decode cX13_isImage 72 = .ok (.iload_n 1, 1) := by decide +kernel
theorem dX13_isImage_73 : decode cX13_isImage 73 = .ok (.iconst 1, 1) := by decide +kernel
theorem dX13_isImage_74 : decode cX13_isImage 74 = .ok (.isub, 1) := by decide +kernel
theorem dX13_isImage_75 : decode cX13_isImage 75 = .ok (.if_icmp .ge 60, 3) := by decide +kernel
theorem dX13_isImage_78 : decode cX13_isImage 78 = .ok (.aload_n 0, 1) := by decide +kernel
theorem dX13_isImage_79 : decode cX13_isImage 79 = .ok (.getfield 7, 3) := by decide +kernel
theorem dX13_isImage_82 : decode cX13_isImage 82 = .ok (.iload_n 2, 1) := by decide +kernel
theorem dX13_isImage_83 : decode cX13_isImage 83 = .ok (.iaload, 1) := by decide +kernel
theorem dX13_isImage_84 : decode cX13_isImage 84 = .ok (.iconst 3, 1) := by decide +kernel
theorem dX13_isImage_85 : decode cX13_isImage 85 = .ok (.if_icmp .gt 42, 3) := by decide +kernel
theorem dX13_isImage_88 : decode cX13_isImage 88 = .ok (.aload_n 0, 1) := by decide +kernel
theorem dX13_isImage_89 : decode cX13_isImage 89 = .ok (.iload_n 2, 1) := by decide +kernel
theorem dX13_isImage_90 : decode cX13_isImage 90 = .ok (.iconst 1, 1) := by decide +kernel
theorem dX13_isImage_91 : decode cX13_isImage 91 = .ok (.iadd, 1) := by decide +kernel
theorem dX13_isImage_92 : decode cX13_isImage 92 = .ok (.invokevirtual 715, 3) := by decide +kernel
theorem dX13_isImage_95 : decode cX13_isImage 95 = .ok (.sipush 9999, 3) := by decide +kernel
theorem dX13_isImage_98 : decode cX13_isImage 98 = .ok (.if_icmp .gt 29, 3) := by decide +kernel
theorem dX13_isImage_101 : decode cX13_isImage 101 = .ok (.aload_n 0, 1) := by decide +kernel
theorem dX13_isImage_102 : decode cX13_isImage 102 = .ok (.iload_n 2, 1) := by decide +kernel
theorem dX13_isImage_103 : decode cX13_isImage 103 = .ok (.iconst 3, 1) := by decide +kernel
theorem dX13_isImage_104 : decode cX13_isImage 104 = .ok (.iadd, 1) := by decide +kernel
theorem dX13_isImage_105 : decode cX13_isImage 105 = .ok (.invokevirtual 715, 3) := by decide +kernel
theorem dX13_isImage_108 : decode cX13_isImage 108 = .ok (.sipush 9999, 3) := by decide +kernel
theorem dX13_isImage_111 : decode cX13_isImage 111 = .ok (.if_icmp .gt 16, 3) := by decide +kernel
theorem dX13_isImage_114 : decode cX13_isImage 114 = .ok (.aload_n 0, 1) := by decide +kernel
theorem dX13_isImage_115 : decode cX13_isImage 115 = .ok (.getfield 7, 3) := by decide +kernel
theorem dX13_isImage_118 : decode cX13_isImage 118 = .ok (.iload_n 2, 1) := by decide +kernel
theorem dX13_isImage_119 : decode cX13_isImage 119 = .ok (.iconst 5, 1) := by decide +kernel
theorem dX13_isImage_120 : decode cX13_isImage 120 = .ok (.iadd, 1) := by decide +kernel
theorem dX13_isImage_121 : decode cX13_isImage 121 = .ok (.iaload, 1) := by decide +kernel
theorem dX13_isImage_122 : decode cX13_isImage 122 = .ok (.bipush 99, 2) := by decide +kernel
theorem dX13_isImage_124 : decode cX13_isImage 124 = .ok (.if_icmp .le 5, 3) := by decide +kernel
theorem dX13_isImage_127 : decode cX13_isImage 127 = .ok (.iconst 0, 1) := by decide +kernel
theorem dX13_isImage_128 : decode cX13_isImage 128 = .ok (.ireturn, 1) := by decide +kernel
theorem dX13_isImage_129 : decode cX13_isImage 129 = .ok (.iinc 2 6, 3) := by decide +kernel
theorem dX13_isImage_132 : decode cX13_isImage 132 = .ok (.goto (-61), 3) := by decide +kernel
theorem dX13_isImage_135 : decode cX13_isImage 135 = .ok (.iconst 1, 1) := by decide +kernel
theorem dX13_isImage_136 : decode cX13_isImage 136 = .ok (.ireturn, 1) := by decide +kernel
theorem dX13_on_0 : decode cX13_on 0 = .ok (.aload_n 0, 1) := by decide +kernel
theorem dX13_on_1 : decode cX13_on 1 = .ok (.getfield 261, 3) := by decide +kernel
theorem dX13_on_4 : decode cX13_on 4 = .ok (.istore_n 1, 1) := by decide +kernel
theorem dX13_on_5 : decode cX13_on 5 = .ok (.aload_n 0, 1) := by decide +kernel
theorem dX13_on_6 : decode cX13_on 6 = .ok (.iconst 0, 1) := by decide +kernel
theorem dX13_on_7 : decode cX13_on 7 = .ok (.putfield 261, 3) := by decide +kernel
theorem dX13_on_10 : decode cX13_on 10 = .ok (.aload_n 0, 1) := by decide +kernel
theorem dX13_on_11 : decode cX13_on 11 = .ok (.iload_n 1, 1) := by decide +kernel
theorem dX13_on_12 : decode cX13_on 12 = .ok (.invokevirtual 718, 3) := by decide +kernel
theorem dX13_on_15 : decode cX13_on 15 = .ok (.ifCond .ne 15, 3) := by decide +kernel
theorem dX13_on_18 : decode cX13_on 18 = .ok (.aload_n 0, 1) := by decide +kernel
theorem dX13_on_19 : decode cX13_on 19 = .ok (.getfield 17, 3) := by decide +kernel
theorem dX13_on_22 : decode cX13_on 22 = .ok (.iconst 5, 1) := by decide +kernel
theorem dX13_on_23 : decode cX13_on 23 = .ok (.dup2, 1) := by decide +kernel
theorem dX13_on_24 : decode cX13_on 24 = .ok (.iaload, 1) := by decide +kernel
theorem dX13_on_25 : decode cX13_on 25 = .ok (.iconst 1, 1) := by decide +kernel
theorem dX13_on_26 : decode cX13_on 26 = .ok (.iadd, 1) := by decide +kernel
theorem dX13_on_27 : decode cX13_on 27 = .ok (.iastore, 1) := by decide +kernel
theorem dX13_on_28 : decode cX13_on 28 = .ok (.iconst 0, 1) := by decide +kernel
theorem dX13_on_29 : decode cX13_on 29 = .ok (.ireturn, 1) := by decide +kernel
theorem dX13_on_30 : decode cX13_on 30 = .ok (.aload_n 0, 1) := by decide +kernel
theorem dX13_on_31 : decode cX13_on 31 = .ok (.getfield 151, 3) := by decide +kernel
theorem dX13_on_34 : decode cX13_on 34 = .ok (.iconst 0, 1) := by decide +kernel
theorem dX13_on_35 : decode cX13_on 35 = .ok (.aload_n 0, 1) := by decide +kernel
theorem dX13_on_36 : decode cX13_on 36 = .ok (.iconst 0, 1) := by decide +kernel
theorem dX13_on_37 : decode cX13_on 37 = .ok (.invokevirtual 715, 3) := by decide +kernel
theorem dX13_on_40 : decode cX13_on 40 = .ok (.iastore, 1) := by decide +kernel
theorem dX13_on_41 : decode cX13_on 41 = .ok (.aload_n 0, 1) := by decide +kernel
theorem dX13_on_42 : decode cX13_on 42 = .ok (.getfield 151, 3) := by decide +kernel
theorem dX13_on_45 : decode cX13_on 45 = .ok (.iconst 1, 1) := by decide +kernel
theorem dX13_on_46 : decode cX13_on 46 = .ok (.aload_n 0, 1) := by decide +kernel
theorem dX13_on_47 : decode cX13_on 47 = .ok (.getfield 7, 3) := by decide +kernel
theorem dX13_on_50 : decode cX13_on 50 = .ok (.iconst 2, 1) := by decide +kernel
theorem dX13_on_51 : decode cX13_on 51 = .ok (.iaload, 1) := by decide +kernel
theorem dX13_on_52 : decode cX13_on 52 = .ok (.iastore, 1) := by decide +kernel
theorem dX13_on_53 : decode cX13_on 53 = .ok (.iconst 0, 1) := by decide +kernel
theorem dX13_on_54 : decode cX13_on 54 = .ok (.istore_n 2, 1) := by decide +kernel
theorem dX13_on_55 : decode cX13_on 55 = .ok (.iload_n 2, 1) := by decide +kernel
theorem dX13_on_56 : decode cX13_on 56 = .ok (.aload_n 0, 1) := by decide +kernel
theorem dX13_on_57 : decode cX13_on 57 = .ok (.invokevirtual 416, 3) := by decide +kernel
theorem dX13_on_60 : decode cX13_on 60 = .ok (.if_icmp .ge 90, 3) := by decide +kernel
theorem dX13_on_63 : decode cX13_on 63 = .ok (.iconst 3, 1) := by decide +kernel
theorem dX13_on_64 : decode cX13_on 64 = .ok (.bipush 6, 2) := by decide +kernel
theorem dX13_on_66 : decode cX13_on 66 = .ok (.iload_n 2, 1) := by decide +kernel
theorem dX13_on_67 : decode cX13_on 67 = .ok (.imul, 1) := by decide +kernel
theorem dX13_on_68 : decode cX13_on 68 = .ok (.iadd, 1) := by decide +kernel
theorem dX13_on_69 : decode cX13_on 69 = .ok (.istore_n 3, 1) := by decide +kernel
theorem dX13_on_70 : decode cX13_on 70 = .ok (.aload_n 0, 1) := by decide +kernel
theorem dX13_on_71 : decode cX13_on 71 = .ok (.getfield 151, 3) := by decide +kernel
theorem dX13_on_74 : decode cX13_on 74 = .ok (.iconst 2, 1) := by decide +kernel
theorem dX13_on_75 : decode cX13_on 75 = .ok (.iconst 4, 1) := by decide +kernel
theorem dX13_on_76 : decode cX13_on 76 = .ok (.iload_n 2, 1) := by decide +kernel
theorem dX13_on_77 : decode cX13_on 77 = .ok (.imul, 1) := by decide +kernel
theorem dX13_on_78 : decode cX13_on 78 = .ok (.iadd, 1) := by decide +kernel
theorem dX13_on_79 : decode cX13_on 79 = .ok (.aload_n 0, 1) := by decide +kernel
theorem dX13_on_80 : decode cX13_on 80 = .ok (.getfield 7, 3) := by decide +kernel
theorem dX13_on_83 : decode cX13_on 83 = .ok (.iload_n 3, 1) := by decide +kernel
theorem dX13_on_84 : decode cX13_on 84 = .ok (.iaload, 1) := by decide +kernel
theorem dX13_on_85 : decode cX13_on 85 = .ok (.iastore, 1) := by decide +kernel
theorem dX13_on_86 : decode cX13_on 86 = .ok (.aload_n 0, 1) := by decide +kernel
theorem dX13_on_87 : decode cX13_on 87 = .ok (.getfield 151, 3) := by decide +kernel
theorem dX13_on_90 : decode cX13_on 90 = .ok (.iconst 2, 1) := by decide +kernel
theorem dX13_on_91 : decode cX13_on 91 = .ok (.iconst 4, 1) := by decide +kernel
theorem dX13_on_92 : decode cX13_on 92 = .ok (.iload_n 2, 1) := by decide +kernel
theorem dX13_on_93 : decode cX13_on 93 = .ok (.imul, 1) := by decide +kernel
theorem dX13_on_94 : decode cX13_on 94 = .ok (.iadd, 1) := by decide +kernel
theorem dX13_on_95 : decode cX13_on 95 = .ok (.iconst 1, 1) := by decide +kernel
theorem dX13_on_96 : decode cX13_on 96 = .ok (.iadd, 1) := by decide +kernel
theorem dX13_on_97 : decode cX13_on 97 = .ok (.aload_n 0, 1) := by decide +kernel
theorem dX13_on_98 : decode cX13_on 98 = .ok (.iload_n 3, 1) := by decide +kernel
theorem dX13_on_99 : decode cX13_on 99 = .ok (.iconst 1, 1) := by decide +kernel
theorem dX13_on_100 : decode cX13_on 100 = .ok (.iadd, 1) := by decide +kernel
theorem dX13_on_101 : decode cX13_on 101 = .ok (.invokevirtual 715, 3) := by decide +kernel
theorem dX13_on_104 : decode cX13_on 104 = .ok (.iastore, 1) := by decide +kernel
theorem dX13_on_105 : decode cX13_on 105 = .ok (.aload_n 0, 1) := by decide +kernel
theorem dX13_on_106 : decode cX13_on 106 = .ok (.getfield 151, 3) := by decide +kernel
theorem dX13_on_109 : decode cX13_on 109 = .ok (.iconst 2, 1) := by decide +kernel
theorem dX13_on_110 : decode cX13_on 110 = .ok (.iconst 4, 1) := by decide +kernel
theorem dX13_on_111 : decode cX13_on 111 = .ok (.iload_n 2, 1) := by decide +kernel
theorem dX13_on_112 : decode cX13_on 112 = .ok (.imul, 1) := by decide +kernel
theorem dX13_on_113 : decode cX13_on 113 = .ok (.iadd, 1) := by decide +kernel
theorem dX13_on_114 : decode cX13_on 114 = .ok (.iconst 2, 1) := by decide +kernel
theorem dX13_on_115 : decode cX13_on 115 = .ok (.iadd, 1) := by decide +kernel
theorem dX13_on_116 : decode cX13_on 116 = .ok (.aload_n 0, 1) := by decide +kernel
theorem dX13_on_117 : decode cX13_on 117 = .ok (.iload_n 3, 1) := by decide +kernel
theorem dX13_on_118 : decode cX13_on 118 = .ok (.iconst 3, 1) := by decide +kernel
theorem dX13_on_119 : decode cX13_on 119 = .ok (.iadd, 1) := by decide +kernel
theorem dX13_on_120 : decode cX13_on 120 = .ok (.invokevirtual 715, 3) := by decide +kernel
theorem dX13_on_123 : decode cX13_on 123 = .ok (.iastore, 1) := by decide +kernel
theorem dX13_on_124 : decode cX13_on 124 = .ok (.aload_n 0, 1) := by decide +kernel
theorem dX13_on_125 : decode cX13_on 125 = .ok (.getfield 151, 3) := by decide +kernel
theorem dX13_on_128 : decode cX13_on 128 = .ok (.iconst 2, 1) := by decide +kernel
theorem dX13_on_129 : decode cX13_on 129 = .ok (.iconst 4, 1) := by decide +kernel
theorem dX13_on_130 : decode cX13_on 130 = .ok (.iload_n 2, 1) := by decide +kernel
theorem dX13_on_131 : decode cX13_on 131 = .ok (.imul, 1) := by decide +kernel
theorem dX13_on_132 : decode cX13_on 132 = .ok (.iadd, 1) := by decide +kernel
theorem dX13_on_133 : decode cX13_on 133 = .ok (.iconst 3, 1) := by decide +kernel
theorem dX13_on_134 : decode cX13_on 134 = .ok (.iadd, 1) := by decide +kernel
theorem dX13_on_135 : decode cX13_on 135 = .ok (.aload_n 0, 1) := by decide +kernel
theorem dX13_on_136 : decode cX13_on 136 = .ok (.getfield 7, 3) := by decide +kernel
theorem dX13_on_139 : decode cX13_on 139 = .ok (.iload_n 3, 1) := by decide +kernel
theorem dX13_on_140 : decode cX13_on 140 = .ok (.iconst 5, 1) := by decide +kernel
theorem dX13_on_141 : decode cX13_on 141 = .ok (.iadd, 1) := by decide +kernel
theorem dX13_on_142 : decode cX13_on 142 = .ok (.iaload, 1) := by decide +kernel
theorem dX13_on_143 : decode cX13_on 143 = .ok (.iastore, 1) := by decide +kernel
theorem dX13_on_144 : decode cX13_on 144 = .ok (.iinc 2 1, 3) := by decide +kernel
theorem dX13_on_147 : decode cX13_on 147 = .ok (.goto (-92), 3) := by decide +kernel
theorem dX13_on_150 : decode cX13_on 150 = .ok (.aload_n 0, 1) := by decide +kernel
theorem dX13_on_151 : decode cX13_on 151 = .ok (.getfield 151, 3) := by decide +kernel
theorem dX13_on_154 : decode cX13_on 154 = .ok (.bipush 26, 2) := by decide +kernel
theorem dX13_on_156 : decode cX13_on 156 = .ok (.iconst 0, 1) := by decide +kernel
theorem dX13_on_157 : decode cX13_on 157 = .ok (.iastore, 1) := by decide +kernel
theorem dX13_on_158 : decode cX13_on 158 = .ok (.aload_n 0, 1) := by decide +kernel
theorem dX13_on_159 : decode cX13_on 159 = .ok (.iconst 0, 1) := by decide +kernel
theorem dX13_on_160 : decode cX13_on 160 = .ok (.putfield 407, 3) := by decide +kernel
theorem dX13_on_163 : decode cX13_on 163 = .ok (.iconst 1, 1) := by decide +kernel
theorem dX13_on_164 : decode cX13_on 164 = .ok (.ireturn, 1) := by decide +kernel
theorem dX13_status_0 : decode cX13_status 0 = .ok (.iload_n 1, 1) := by decide +kernel
theorem dX13_status_1 : decode cX13_status 1 = .ok (.i2l, 1) := by decide +kernel
theorem dX13_status_2 : decode cX13_status 2 = .ok (.lconst 0, 1) := by decide +kernel
theorem dX13_status_3 : decode cX13_status 3 = .ok (.ldc2_w 541, 3) := by decide +kernel
theorem dX13_status_6 : decode cX13_status 6 = .ok (.invokestatic 307, 3) := by decide +kernel
theorem dX13_status_9 : decode cX13_status 9 = .ok (.ifCond .eq 12, 3) := by decide +kernel
theorem dX13_status_12 : decode cX13_status 12 = .ok (.aload_n 0, 1) := by decide +kernel
theorem dX13_status_13 : decode cX13_status 13 = .ok (.getfield 17, 3) := by decide +kernel
theorem dX13_status_16 : decode cX13_status 16 = .ok (.iload_n 1, 1) := by decide +kernel
theorem dX13_status_17 : decode cX13_status 17 = .ok (.iaload, 1) := by decide +kernel
theorem dX13_status_18 : decode cX13_status 18 = .ok (.goto 4, 3) := by decide +kernel
theorem dX13_status_21 : decode cX13_status 21 = .ok (.iconst (-1), 1) := by decide +kernel
theorem dX13_status_22 : decode cX13_status 22 = .ok (.ireturn, 1) := by decide +kernel
