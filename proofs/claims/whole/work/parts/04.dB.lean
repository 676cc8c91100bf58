theorem dX12_init_0 : decode cX12_init 0 = .ok (.aload_n 0, 1) := by decide +kernel
theorem dX12_init_1 : decode cX12_init 1 = .ok (.invokespecial 3, 3) := by decide +kernel
theorem dX12_init_4 : decode cX12_init 4 = .ok (.aload_n 0, 1) := by decide +kernel
theorem dX12_init_5 : decode cX12_init 5 = .ok (.new 9, 3) := by decide +kernel
theorem dX12_init_8 : decode cX12_init 8 = .ok (.dup, 1) := by decide +kernel
theorem dX12_init_9 : decode cX12_init 9 = .ok (.invokespecial 11, 3) := by decide +kernel
theorem dX12_init_12 : decode cX12_init 12 = .ok (.putfield 12, 3) := by decide +kernel
theorem dX12_init_15 : decode cX12_init 15 = .ok (.aload_n 0, 1) := by decide +kernel
theorem dX12_init_16 : decode cX12_init 16 = .ok (.new 16, 3) := by decide +kernel
theorem dX12_init_19 : decode cX12_init 19 = .ok (.dup, 1) := by decide +kernel
theorem dX12_init_20 : decode cX12_init 20 = .ok (.aload_n 0, 1) := by decide +kernel
theorem dX12_init_21 : decode cX12_init 21 = .ok (.getfield 12, 3) := by decide +kernel
theorem dX12_init_24 : decode cX12_init 24 = .ok (.invokespecial 18, 3) := by decide +kernel
theorem dX12_init_27 : decode cX12_init 27 = .ok (.putfield 21, 3) := by decide +kernel
theorem dX12_init_30 : decode cX12_init 30 = .ok (.new 25, 3) := by decide +kernel
theorem dX12_init_33 : decode cX12_init 33 = .ok (.dup, 1) := by decide +kernel
theorem dX12_init_34 : decode cX12_init 34 = .ok (.aload_n 0, 1) := by decide +kernel
theorem dX12_init_35 : decode cX12_init 35 = .ok (.getfield 21, 3) := by decide +kernel
theorem dX12_init_38 : decode cX12_init 38 = .ok (.invokespecial 27, 3) := by decide +kernel
theorem dX12_init_41 : decode cX12_init 41 = .ok (.astore_n 1, 1) := by decide +kernel
theorem dX12_init_42 : decode cX12_init 42 = .ok (.aload_n 0, 1) := by decide +kernel
theorem dX12_init_43 : decode cX12_init 43 = .ok (.new 30, 3) := by decide +kernel
theorem dX12_init_46 : decode cX12_init 46 = .ok (.dup, 1) := by decide +kernel
theorem dX12_init_47 : decode cX12_init 47 = .ok (.aload_n 0, 1) := by decide +kernel
theorem dX12_init_48 : decode cX12_init 48 = .ok (.getfield 21, 3) := by decide +kernel
theorem dX12_init_51 : decode cX12_init 51 = .ok (.aload_n 1, 1) := by decide +kernel
theorem dX12_init_52 : decode cX12_init 52 = .ok (.invokespecial 32, 3) := by decide +kernel
theorem dX12_init_55 : decode cX12_init 55 = .ok (.putfield 35, 3) := by decide +kernel
theorem dX12_init_58 : decode cX12_init 58 = .ok (.aload_n 0, 1) := by decide +kernel
theorem dX12_init_59 : decode cX12_init 59 = .ok (.new 39, 3) := by decide +kernel
theorem dX12_init_62 : decode cX12_init 62 = .ok (.dup, 1) := by decide +kernel
theorem dX12_init_63 : decode cX12_init 63 = .ok (.aload_n 0, 1) := by decide +kernel
theorem dX12_init_64 : decode cX12_init 64 = .ok (.getfield 21, 3) := by decide +kernel
theorem dX12_init_67 : decode cX12_init 67 = .ok (.aload_n 1, 1) := by decide +kernel
theorem dX12_init_68 : decode cX12_init 68 = .ok (.invokespecial 41, 3) := by decide +kernel
theorem dX12_init_71 : decode cX12_init 71 = .ok (.putfield 42, 3) := by decide +kernel
theorem dX12_init_74 : decode cX12_init 74 = .ok (.new 46, 3) := by decide +kernel
theorem dX12_init_77 : decode cX12_init 77 = .ok (.dup, 1) := by decide +kernel
theorem dX12_init_78 : decode cX12_init 78 = .ok (.invokespecial 48, 3) := by decide +kernel
theorem dX12_init_81 : decode cX12_init 81 = .ok (.astore_n 2, 1) := by decide +kernel
theorem dX12_init_82 : decode cX12_init 82 = .ok (.aload_n 0, 1) := by decide +kernel
theorem dX12_init_83 : decode cX12_init 83 = .ok (.new 49, 3) := by decide +kernel
theorem dX12_init_86 : decode cX12_init 86 = .ok (.dup, 1) := by decide +kernel
theorem dX12_init_87 : decode cX12_init 87 = .ok (.iconst 0, 1) := by decide +kernel
theorem dX12_init_88 : decode cX12_init 88 = .ok (.iconst 0, 1) := by decide +kernel
theorem dX12_init_89 : decode cX12_init 89 = .ok (.iconst 0, 1) := by decide +kernel
theorem dX12_init_90 : decode cX12_init 90 = .ok (.invokespecial 51, 3) := by decide +kernel
theorem dX12_init_93 : decode cX12_init 93 = .ok (.putfield 54, 3) := by decide +kernel
theorem dX12_init_96 : decode cX12_init 96 = .ok (.aload_n 0, 1) := by decide +kernel
theorem dX12_init_97 : decode cX12_init 97 = .ok (.new 58, 3) := by decide +kernel
theorem dX12_init_100 : decode cX12_init 100 = .ok (.dup, 1) := by decide +kernel
theorem dX12_init_101 : decode cX12_init 101 = .ok (.aload_n 2, 1) := by decide +kernel
theorem dX12_init_102 : decode cX12_init 102 = .ok (.aload_n 0, 1) := by decide +kernel
theorem dX12_init_103 : decode cX12_init 103 = .ok (.getfield 54, 3) := by decide +kernel
theorem dX12_init_106 : decode cX12_init 106 = .ok (.invokespecial 60, 3) := by decide +kernel
theorem dX12_init_109 : decode cX12_init 109 = .ok (.putfield 63, 3) := by decide +kernel
theorem dX12_init_112 : decode cX12_init 112 = .ok (.aload_n 0, 1) := by decide +kernel
theorem dX12_init_113 : decode cX12_init 113 = .ok (.new 58, 3) := by decide +kernel
theorem dX12_init_116 : decode cX12_init 116 = .ok (.dup, 1) := by decide +kernel
theorem dX12_init_117 : decode cX12_init 117 = .ok (.aload_n 2, 1) := by decide +kernel
theorem dX12_init_118 : decode cX12_init 118 = .ok (.aload_n 0, 1) := by decide +kernel
theorem dX12_init_119 : decode cX12_init 119 = .ok (.getfield 54, 3) := by decide +kernel
theorem dX12_init_122 : decode cX12_init 122 = .ok (.invokespecial 60, 3) := by decide +kernel
theorem dX12_init_125 : decode cX12_init 125 = .ok (.putfield 67, 3) := by decide +kernel
theorem dX12_init_128 : decode cX12_init 128 = .ok (.aload_n 0, 1) := by decide +kernel
theorem dX12_init_129 : decode cX12_init 129 = .ok (.new 70, 3) := by decide +kernel
theorem dX12_init_132 : decode cX12_init 132 = .ok (.dup, 1) := by decide +kernel
theorem dX12_init_133 : decode cX12_init 133 = .ok (.aload_n 2, 1) := by decide +kernel
theorem dX12_init_134 : decode cX12_init 134 = .ok (.aload_n 0, 1) := by decide +kernel
theorem dX12_init_135 : decode cX12_init 135 = .ok (.getfield 54, 3) := by decide +kernel
theorem dX12_init_138 : decode cX12_init 138 = .ok (.invokespecial 72, 3) := by decide +kernel
theorem dX12_init_141 : decode cX12_init 141 = .ok (.putfield 73, 3) := by decide +kernel
theorem dX12_init_144 : decode cX12_init 144 = .ok (.aload_n 0, 1) := by decide +kernel
theorem dX12_init_145 : decode cX12_init 145 = .ok (.new 77, 3) := by decide +kernel
theorem dX12_init_148 : decode cX12_init 148 = .ok (.dup, 1) := by decide +kernel
theorem dX12_init_149 : decode cX12_init 149 = .ok (.invokespecial 79, 3) := by decide +kernel
theorem dX12_init_152 : decode cX12_init 152 = .ok (.putfield 80, 3) := by decide +kernel
theorem dX12_init_155 : decode cX12_init 155 = .ok (.aload_n 0, 1) := by decide +kernel
theorem dX12_init_156 : decode cX12_init 156 = .ok (.new 77, 3) := by decide +kernel
theorem dX12_init_159 : decode cX12_init 159 = .ok (.dup, 1) := by decide +kernel
theorem dX12_init_160 : decode cX12_init 160 = .ok (.invokespecial 79, 3) := by decide +kernel
theorem dX12_init_163 : decode cX12_init 163 = .ok (.putfield 84, 3) := by decide +kernel
theorem dX12_init_166 : decode cX12_init 166 = .ok (.aload_n 0, 1) := by decide +kernel
theorem dX12_init_167 : decode cX12_init 167 = .ok (.new 87, 3) := by decide +kernel
theorem dX12_init_170 : decode cX12_init 170 = .ok (.dup, 1) := by decide +kernel
theorem dX12_init_171 : decode cX12_init 171 = .ok (.invokespecial 89, 3) := by decide +kernel
theorem dX12_init_174 : decode cX12_init 174 = .ok (.putfield 90, 3) := by decide +kernel
theorem dX12_init_177 : decode cX12_init 177 = .ok (.aload_n 0, 1) := by decide +kernel
theorem dX12_init_178 : decode cX12_init 178 = .ok (.bipush 24, 2) := by decide +kernel
theorem dX12_init_180 : decode cX12_init 180 = .ok (.newarray .int, 2) := by decide +kernel
theorem dX12_init_182 : decode cX12_init 182 = .ok (.putfield 94, 3) := by decide +kernel
theorem dX12_init_185 : decode cX12_init 185 = .ok (.aload_n 0, 1) := by decide +kernel
theorem dX12_init_186 : decode cX12_init 186 = .ok (.bipush 49, 2) := by decide +kernel
theorem dX12_init_188 : decode cX12_init 188 = .ok (.newarray .int, 2) := by decide +kernel
theorem dX12_init_190 : decode cX12_init 190 = .ok (.putfield 98, 3) := by decide +kernel
theorem dX12_init_193 : decode cX12_init 193 = .ok (.aload_n 0, 1) := by decide +kernel
theorem dX12_init_194 : decode cX12_init 194 = .ok (.bipush 32, 2) := by decide +kernel
theorem dX12_init_196 : decode cX12_init 196 = .ok (.newarray .long, 2) := by decide +kernel
theorem dX12_init_198 : decode cX12_init 198 = .ok (.putfield 101, 3) := by decide +kernel
theorem dX12_init_201 : decode cX12_init 201 = .ok (.aload_n 0, 1) := by decide +kernel
theorem dX12_init_202 : decode cX12_init 202 = .ok (.bipush 40, 2) := by decide +kernel
theorem dX12_init_204 : decode cX12_init 204 = .ok (.newarray .int, 2) := by decide +kernel
theorem dX12_init_206 : decode cX12_init 206 = .ok (.putfield 105, 3) := by decide +kernel
theorem dX12_init_209 : decode cX12_init 209 = .ok (.aload_n 0, 1) := by decide +kernel
theorem dX12_init_210 : decode cX12_init 210 = .ok (.bipush 6, 2) := by decide +kernel
theorem dX12_init_212 : decode cX12_init 212 = .ok (.newarray .int, 2) := by decide +kernel
theorem dX12_init_214 : decode cX12_init 214 = .ok (.putfield 108, 3) := by decide +kernel
theorem dX12_init_217 : decode cX12_init 217 = .ok (.aload_n 0, 1) := by decide +kernel
theorem dX12_init_218 : decode cX12_init 218 = .ok (.iconst 1, 1) := by decide +kernel
theorem dX12_init_219 : decode cX12_init 219 = .ok (.putfield 111, 3) := by decide +kernel
theorem dX12_init_222 : decode cX12_init 222 = .ok (.return_, 1) := by decide +kernel
theorem dX12_feed_0 : decode cX12_feed 0 = .ok (.aload_n 0, 1) := by decide +kernel
theorem dX12_feed_1 : decode cX12_feed 1 = .ok (.getfield 12, 3) := by decide +kernel
theorem dX12_feed_4 : decode cX12_feed 4 = .ok (.getfield 115, 3) := by decide +kernel
theorem dX12_feed_7 : decode cX12_feed 7 = .ok (.bipush 20, 2) := by decide +kernel
theorem dX12_feed_9 : decode cX12_feed 9 = .ok (.iadd, 1) := by decide +kernel
theorem dX12_feed_10 : decode cX12_feed 10 = .ok (.sipush 1600, 3) := by decide +kernel
theorem dX12_feed_13 : decode cX12_feed 13 = .ok (.if_icmp .le 9, 3) := by decide +kernel
theorem dX12_feed_16 : decode cX12_feed 16 = .ok (.aload_n 0, 1) := by decide +kernel
theorem dX12_feed_17 : decode cX12_feed 17 = .ok (.iconst 0, 1) := by decide +kernel
theorem dX12_feed_18 : decode cX12_feed 18 = .ok (.invokevirtual 118, 3) := by decide +kernel
theorem dX12_feed_21 : decode cX12_feed 21 = .ok (.ireturn, 1) := by decide +kernel
theorem dX12_feed_22 : decode cX12_feed 22 = .ok (.aload_n 0, 1) := by decide +kernel
theorem dX12_feed_23 : decode cX12_feed 23 = .ok (.getfield 12, 3) := by decide +kernel
theorem dX12_feed_26 : decode cX12_feed 26 = .ok (.iload_n 1, 1) := by decide +kernel
theorem dX12_feed_27 : decode cX12_feed 27 = .ok (.invokevirtual 122, 3) := by decide +kernel
theorem dX12_feed_30 : decode cX12_feed 30 = .ok (.aload_n 0, 1) := by decide +kernel
theorem dX12_feed_31 : decode cX12_feed 31 = .ok (.getfield 12, 3) := by decide +kernel
theorem dX12_feed_34 : decode cX12_feed 34 = .ok (.iload_n 2, 1) := by decide +kernel
theorem dX12_feed_35 : decode cX12_feed 35 = .ok (.invokevirtual 122, 3) := by decide +kernel
theorem dX12_feed_38 : decode cX12_feed 38 = .ok (.aload_n 0, 1) := by decide +kernel
theorem dX12_feed_39 : decode cX12_feed 39 = .ok (.getfield 12, 3) := by decide +kernel
theorem dX12_feed_42 : decode cX12_feed 42 = .ok (.iload_n 3, 1) := by decide +kernel
theorem dX12_feed_43 : decode cX12_feed 43 = .ok (.invokevirtual 122, 3) := by decide +kernel
theorem dX12_feed_46 : decode cX12_feed 46 = .ok (.aload_n 0, 1) := by decide +kernel
theorem dX12_feed_47 : decode cX12_feed 47 = .ok (.getfield 12, 3) := by decide +kernel
theorem dX12_feed_50 : decode cX12_feed 50 = .ok (.iload 4, 2) := by decide +kernel
theorem dX12_feed_52 : decode cX12_feed 52 = .ok (.invokevirtual 122, 3) := by decide +kernel
theorem dX12_feed_55 : decode cX12_feed 55 = .ok (.aload_n 0, 1) := by decide +kernel
theorem dX12_feed_56 : decode cX12_feed 56 = .ok (.getfield 12, 3) := by decide +kernel
theorem dX12_feed_59 : decode cX12_feed 59 = .ok (.iload 5, 2) := by decide +kernel
theorem dX12_feed_61 : decode cX12_feed 61 = .ok (.invokevirtual 122, 3) := by decide +kernel
theorem dX12_feed_64 : decode cX12_feed 64 = .ok (.aload_n 0, 1) := by decide +kernel
theorem dX12_feed_65 : decode cX12_feed 65 = .ok (.getfield 12, 3) := by decide +kernel
theorem dX12_feed_68 : decode cX12_feed 68 = .ok (.getfield 115, 3) := by decide +kernel
theorem dX12_feed_71 : decode cX12_feed 71 = .ok (.ireturn, 1) := by decide +kernel
theorem dX12_end_0 : decode cX12_end 0 = .ok (.iload_n 1, 1) := by decide +kernel
theorem dX12_end_1 : decode cX12_end 1 = .ok (.ifCond .lt 14, 3) := by decide +kernel
theorem dX12_end_4 : decode cX12_end 4 = .ok (.iload_n 1, 1) := by decide +kernel
theorem dX12_end_5 : decode cX12_end 5 = .ok (.aload_n 0, 1) := by decide +kernel
theorem dX12_end_6 : decode cX12_end 6 = .ok (.getfield 12, 3) := by decide +kernel
theorem dX12_end_9 : decode cX12_end 9 = .ok (.getfield 115, 3) := by decide +kernel
theorem dX12_end_12 : decode cX12_end 12 = .ok (.if_icmp .le 9, 3) := by decide +kernel
theorem dX12_end_15 : decode cX12_end 15 = .ok (.aload_n 0, 1) := by decide +kernel
theorem dX12_end_16 : decode cX12_end 16 = .ok (.iconst 0, 1) := by decide +kernel
theorem dX12_end_17 : decode cX12_end 17 = .ok (.invokevirtual 126, 3) := by decide +kernel
theorem dX12_end_20 : decode cX12_end 20 = .ok (.ireturn, 1) := by decide +kernel
theorem dX12_end_21 : decode cX12_end 21 = .ok (.aload_n 0, 1) := by decide +kernel
theorem dX12_end_22 : decode cX12_end 22 = .ok (.getfield 12, 3) := by decide +kernel
theorem dX12_end_25 : decode cX12_end 25 = .ok (.iload_n 1, 1) := by decide +kernel
theorem dX12_end_26 : decode cX12_end 26 = .ok (.putfield 115, 3) := by decide +kernel
theorem dX12_end_29 : decode cX12_end 29 = .ok (.iconst 1, 1) := by decide +kernel
theorem dX12_end_30 : decode cX12_end 30 = .ok (.ireturn, 1) := by decide +kernel
theorem dX12_land_0 : decode cX12_land 0 = .ok (.aload_n 0, 1) := by decide +kernel
theorem dX12_land_1 : decode cX12_land 1 = .ok (.getfield 35, 3) := by decide +kernel
theorem dX12_land_4 : decode cX12_land 4 = .ok (.invokevirtual 130, 3) := by decide +kernel
theorem dX12_land_7 : decode cX12_land 7 = .ok (.astore_n 1, 1) := by decide +kernel
theorem dX12_land_8 : decode cX12_land 8 = .ok (.aload_n 0, 1) := by decide +kernel
theorem dX12_land_9 : decode cX12_land 9 = .ok (.getfield 12, 3) := by decide +kernel
theorem dX12_land_12 : decode cX12_land 12 = .ok (.iconst 0, 1) := by decide +kernel
theorem dX12_land_13 : decode cX12_land 13 = .ok (.putfield 115, 3) := by decide +kernel
theorem dX12_land_16 : decode cX12_land 16 = .ok (.aload_n 0, 1) := by decide +kernel
theorem dX12_land_17 : decode cX12_land 17 = .ok (.getfield 21, 3) := by decide +kernel
theorem dX12_land_20 : decode cX12_land 20 = .ok (.getfield 134, 3) := by decide +kernel
theorem dX12_land_23 : decode cX12_land 23 = .ok (.ifCond .eq 9, 3) := by decide +kernel
theorem dX12_land_26 : decode cX12_land 26 = .ok (.aload_n 0, 1) := by decide +kernel
theorem dX12_land_27 : decode cX12_land 27 = .ok (.iconst 1, 1) := by decide +kernel
theorem dX12_land_28 : decode cX12_land 28 = .ok (.invokevirtual 118, 3) := by decide +kernel
theorem dX12_land_31 : decode cX12_land 31 = .ok (.ireturn, 1) := by decide +kernel
theorem dX12_land_32 : decode cX12_land 32 = .ok (.aload_n 0, 1) := by decide +kernel
theorem dX12_land_33 : decode cX12_land 33 = .ok (.aload_n 1, 1) := by decide +kernel
theorem dX12_land_34 : decode cX12_land 34 = .ok (.putfield 54, 3) := by decide +kernel
theorem dX12_land_37 : decode cX12_land 37 = .ok (.aload_n 0, 1) := by decide +kernel
theorem dX12_land_38 : decode cX12_land 38 = .ok (.getfield 80, 3) := by decide +kernel
theorem dX12_land_41 : decode cX12_land 41 = .ok (.aload_n 1, 1) := by decide +kernel
theorem dX12_land_42 : decode cX12_land 42 = .ok (.invokevirtual 137, 3) := by decide +kernel
theorem dX12_land_45 : decode cX12_land 45 = .ok (.aload_n 0, 1) := by decide +kernel
theorem dX12_land_46 : decode cX12_land 46 = .ok (.getfield 90, 3) := by decide +kernel
theorem dX12_land_49 : decode cX12_land 49 = .ok (.iconst 0, 1) := by decide +kernel
theorem dX12_land_50 : decode cX12_land 50 = .ok (.putfield 141, 3) := by decide +kernel
theorem dX12_land_53 : decode cX12_land 53 = .ok (.aload_n 0, 1) := by decide +kernel
theorem dX12_land_54 : decode cX12_land 54 = .ok (.iconst 0, 1) := by decide +kernel
theorem dX12_land_55 : decode cX12_land 55 = .ok (.putfield 144, 3) := by decide +kernel
theorem dX12_land_58 : decode cX12_land 58 = .ok (.aload_n 1, 1) := by decide +kernel
theorem dX12_land_59 : decode cX12_land 59 = .ok (.getfield 147, 3) := by decide +kernel
theorem dX12_land_62 : decode cX12_land 62 = .ok (.ireturn, 1) := by decide +kernel
theorem dX12_fault_0 : decode cX12_fault 0 = .ok (.iload_n 1, 1) := by decide +kernel
theorem dX12_fault_1 : decode cX12_fault 1 = .ok (.ifCond .ne 11, 3) := by decide +kernel
theorem dX12_fault_4 : decode cX12_fault 4 = .ok (.aload_n 0, 1) := by decide +kernel
theorem dX12_fault_5 : decode cX12_fault 5 = .ok (.getfield 21, 3) := by decide +kernel
theorem dX12_fault_8 : decode cX12_fault 8 = .ok (.getfield 134, 3) := by decide +kernel
theorem dX12_fault_11 : decode cX12_fault 11 = .ok (.ireturn, 1) := by decide +kernel
theorem dX12_fault_12 : decode cX12_fault 12 = .ok (.iload_n 1, 1) := by decide +kernel
theorem dX12_fault_13 : decode cX12_fault 13 = .ok (.iconst 1, 1) := by decide +kernel
theorem dX12_fault_14 : decode cX12_fault 14 = .ok (.if_icmp .ne 13, 3) := by decide +kernel
theorem dX12_fault_17 : decode cX12_fault 17 = .ok (.aload_n 0, 1) := by decide +kernel
theorem dX12_fault_18 : decode cX12_fault 18 = .ok (.getfield 21, 3) := by decide +kernel
theorem dX12_fault_21 : decode cX12_fault 21 = .ok (.getfield 150, 3) := by decide +kernel
theorem dX12_fault_24 : decode cX12_fault 24 = .ok (.goto 4, 3) := by decide +kernel
theorem dX12_fault_27 : decode cX12_fault 27 = .ok (.iconst (-1), 1) := by decide +kernel
theorem dX12_fault_28 : decode cX12_fault 28 = .ok (.ireturn, 1) := by decide +kernel
theorem dX12_has_0 : decode cX12_has 0 = .ok (.iload_n 1, 1) := by decide +kernel
theorem dX12_has_1 : decode cX12_has 1 = .ok (.tableswitch 162 0 11 #[63, 71, 79, 90, 98, 106, 114, 125, 133, 141, 149, 154], 63) := by decide +kernel
theorem dX12_has_64 : decode cX12_has 64 = .ok (.aload_n 0, 1) := by decide +kernel
theorem dX12_has_65 : decode cX12_has 65 = .ok (.getfield 54, 3) := by decide +kernel
theorem dX12_has_68 : decode cX12_has 68 = .ok (.getfield 153, 3) := by decide +kernel
theorem dX12_has_71 : decode cX12_has 71 = .ok (.ireturn, 1) := by decide +kernel
theorem dX12_has_72 : decode cX12_has 72 = .ok (.aload_n 0, 1) := by decide +kernel
theorem dX12_has_73 : decode cX12_has 73 = .ok (.getfield 54, 3) := by decide +kernel
theorem dX12_has_76 : decode cX12_has 76 = .ok (.getfield 156, 3) := by decide +kernel
theorem dX12_has_79 : decode cX12_has 79 = .ok (.ireturn, 1) := by decide +kernel
theorem dX12_has_80 : decode cX12_has 80 = .ok (.aload_n 0, 1) := by decide +kernel
theorem dX12_has_81 : decode cX12_has 81 = .ok (.getfield 54, 3) := by decide +kernel
theorem dX12_has_84 : decode cX12_has 84 = .ok (.getfield 159, 3) := by decide +kernel
theorem dX12_has_87 : decode cX12_has 87 = .ok (.invokestatic 163, 3) := by decide +kernel
theorem dX12_has_90 : decode cX12_has 90 = .ok (.ireturn, 1) := by decide +kernel
theorem dX12_has_91 : decode cX12_has 91 = .ok (.aload_n 0, 1) := by decide +kernel
theorem dX12_has_92 : decode cX12_has 92 = .ok (.getfield 54, 3) := by decide +kernel
theorem dX12_has_95 : decode cX12_has 95 = .ok (.getfield 169, 3) := by decide +kernel
theorem dX12_has_98 : decode cX12_has 98 = .ok (.ireturn, 1) := by decide +kernel
theorem dX12_has_99 : decode cX12_has 99 = .ok (.aload_n 0, 1) := by decide +kernel
theorem dX12_has_100 : decode cX12_has 100 = .ok (.getfield 54, 3) := by decide +kernel
theorem dX12_has_103 : decode cX12_has 103 = .ok (.getfield 172, 3) := by decide +kernel
theorem dX12_has_106 : decode cX12_has 106 = .ok (.ireturn, 1) := by decide +kernel
theorem dX12_has_107 : decode cX12_has 107 = .ok (.aload_n 0, 1) := by decide +kernel
theorem dX12_has_108 : decode cX12_has 108 = .ok (.getfield 80, 3) := by decide +kernel
theorem dX12_has_111 : decode cX12_has 111 = .ok (.getfield 175, 3) := by decide +kernel
theorem dX12_has_114 : decode cX12_has 114 = .ok (.ireturn, 1) := by decide +kernel
theorem dX12_has_115 : decode cX12_has 115 = .ok (.aload_n 0, 1) := by decide +kernel
theorem dX12_has_116 : decode cX12_has 116 = .ok (.getfield 80, 3) := by decide +kernel
theorem dX12_has_119 : decode cX12_has 119 = .ok (.getfield 178, 3) := by decide +kernel
theorem dX12_has_122 : decode cX12_has 122 = .ok (.invokestatic 181, 3) := by decide +kernel
theorem dX12_has_125 : decode cX12_has 125 = .ok (.ireturn, 1) := by decide +kernel
theorem dX12_has_126 : decode cX12_has 126 = .ok (.aload_n 0, 1) := by decide +kernel
theorem dX12_has_127 : decode cX12_has 127 = .ok (.getfield 80, 3) := by decide +kernel
theorem dX12_has_130 : decode cX12_has 130 = .ok (.invokevirtual 185, 3) := by decide +kernel
theorem dX12_has_133 : decode cX12_has 133 = .ok (.ireturn, 1) := by decide +kernel
theorem dX12_has_134 : decode cX12_has 134 = .ok (.aload_n 0, 1) := by decide +kernel
theorem dX12_has_135 : decode cX12_has 135 = .ok (.getfield 80, 3) := by decide +kernel
theorem dX12_has_138 : decode cX12_has 138 = .ok (.invokevirtual 189, 3) := by decide +kernel
theorem dX12_has_141 : decode cX12_has 141 = .ok (.ireturn, 1) := by decide +kernel
theorem dX12_has_142 : decode cX12_has 142 = .ok (.aload_n 0, 1) := by decide +kernel
theorem dX12_has_143 : decode cX12_has 143 = .ok (.getfield 80, 3) := by decide +kernel
theorem dX12_has_146 : decode cX12_has 146 = .ok (.getfield 192, 3) := by decide +kernel
theorem dX12_has_149 : decode cX12_has 149 = .ok (.ireturn, 1) := by decide +kernel
theorem dX12_has_150 : decode cX12_has 150 = .ok (.aload_n 0, 1) := by decide +kernel
theorem dX12_has_151 : decode cX12_has 151 = .ok (.getfield 144, 3) := by decide +kernel
theorem dX12_has_154 : decode cX12_has 154 = .ok (.ireturn, 1) := by decide +kernel
theorem dX12_has_155 : decode cX12_has 155 = .ok (.aload_n 0, 1) := by decide +kernel
theorem dX12_has_156 : decode cX12_has 156 = .ok (.getfield 90, 3) := by decide +kernel
theorem dX12_has_159 : decode cX12_has 159 = .ok (.getfield 141, 3) := by decide +kernel
theorem dX12_has_162 : decode cX12_has 162 = .ok (.ireturn, 1) := by decide +kernel
theorem dX12_has_163 : decode cX12_has 163 = .ok (.iconst (-1), 1) := by decide +kernel
theorem dX12_has_164 : decode cX12_has 164 = .ok (.ireturn, 1) := by decide +kernel
theorem dX12_letter_0 : decode cX12_letter 0 = .ok (.iload_n 1, 1) := by decide +kernel
theorem dX12_letter_1 : decode cX12_letter 1 = .ok (.ifCond .ne 14, 3) := by decide +kernel
theorem dX12_letter_4 : decode cX12_letter 4 = .ok (.aload_n 0, 1) := by decide +kernel
theorem dX12_letter_5 : decode cX12_letter 5 = .ok (.getfield 54, 3) := by decide +kernel
theorem dX12_letter_8 : decode cX12_letter 8 = .ok (.iload_n 2, 1) := by decide +kernel
theorem dX12_letter_9 : decode cX12_letter 9 = .ok (.invokevirtual 195, 3) := by decide +kernel
theorem dX12_letter_12 : decode cX12_letter 12 = .ok (.ifCond .ne 19, 3) := by decide +kernel
theorem dX12_letter_15 : decode cX12_letter 15 = .ok (.iload_n 1, 1) := by decide +kernel
theorem dX12_letter_16 : decode cX12_letter 16 = .ok (.iconst 1, 1) := by decide +kernel
theorem dX12_letter_17 : decode cX12_letter 17 = .ok (.if_icmp .ne 18, 3) := by decide +kernel
theorem dX12_letter_20 : decode cX12_letter 20 = .ok (.aload_n 0, 1) := by decide +kernel
theorem dX12_letter_21 : decode cX12_letter 21 = .ok (.getfield 54, 3) := by decide +kernel
theorem dX12_letter_24 : decode cX12_letter 24 = .ok (.iload_n 2, 1) := by decide +kernel
theorem dX12_letter_25 : decode cX12_letter 25 = .ok (.invokevirtual 198, 3) := by decide +kernel
theorem dX12_letter_28 : decode cX12_letter 28 = .ok (.ifCond .eq 7, 3) := by decide +kernel
theorem dX12_letter_31 : decode cX12_letter 31 = .ok (.iconst 1, 1) := by decide +kernel
theorem dX12_letter_32 : decode cX12_letter 32 = .ok (.goto 4, 3) := by decide +kernel
theorem dX12_letter_35 : decode cX12_letter 35 = .ok (.iconst 0, 1) := by decide +kernel
theorem dX12_letter_36 : decode cX12_letter 36 = .ok (.istore 4, 2) := by decide +kernel
theorem dX12_letter_38 : decode cX12_letter 38 = .ok (.iload 4, 2) := by decide +kernel
theorem dX12_letter_40 : decode cX12_letter 40 = .ok (.ifCond .eq 13, 3) := by decide +kernel
theorem dX12_letter_43 : decode cX12_letter 43 = .ok (.iload_n 3, 1) := by decide +kernel
theorem dX12_letter_44 : decode cX12_letter 44 = .ok (.ifCond .lt 9, 3) := by decide +kernel
theorem dX12_letter_47 : decode cX12_letter 47 = .ok (.iload_n 3, 1) := by decide +kernel
theorem dX12_letter_48 : decode cX12_letter 48 = .ok (.bipush 6, 2) := by decide +kernel
theorem dX12_letter_50 : decode cX12_letter 50 = .ok (.if_icmp .lt 5, 3) := by decide +kernel
theorem dX12_letter_53 : decode cX12_letter 53 = .ok (.iconst (-1), 1) := by decide +kernel
theorem dX12_letter_54 : decode cX12_letter 54 = .ok (.ireturn, 1) := by decide +kernel
theorem dX12_letter_55 : decode cX12_letter 55 = .ok (.aload_n 0, 1) := by decide +kernel
theorem dX12_letter_56 : decode cX12_letter 56 = .ok (.getfield 54, 3) := by decide +kernel
theorem dX12_letter_59 : decode cX12_letter 59 = .ok (.getfield 201, 3) := by decide +kernel
theorem dX12_letter_62 : decode cX12_letter 62 = .ok (.iload_n 1, 1) := by decide +kernel
theorem dX12_letter_63 : decode cX12_letter 63 = .ok (.aaload, 1) := by decide +kernel
theorem dX12_letter_64 : decode cX12_letter 64 = .ok (.iload_n 2, 1) := by decide +kernel
theorem dX12_letter_65 : decode cX12_letter 65 = .ok (.iaload, 1) := by decide +kernel
theorem dX12_letter_66 : decode cX12_letter 66 = .ok (.iload_n 3, 1) := by decide +kernel
theorem dX12_letter_67 : decode cX12_letter 67 = .ok (.invokestatic 205, 3) := by decide +kernel
theorem dX12_letter_70 : decode cX12_letter 70 = .ok (.ireturn, 1) := by decide +kernel
theorem dX12_cell_0 : decode cX12_cell 0 = .ok (.aload_n 0, 1) := by decide +kernel
theorem dX12_cell_1 : decode cX12_cell 1 = .ok (.getfield 54, 3) := by decide +kernel
theorem dX12_cell_4 : decode cX12_cell 4 = .ok (.iload_n 1, 1) := by decide +kernel
theorem dX12_cell_5 : decode cX12_cell 5 = .ok (.iload_n 2, 1) := by decide +kernel
theorem dX12_cell_6 : decode cX12_cell 6 = .ok (.invokevirtual 209, 3) := by decide +kernel
theorem dX12_cell_9 : decode cX12_cell 9 = .ok (.ifCond .ne 5, 3) := by decide +kernel
theorem dX12_cell_12 : decode cX12_cell 12 = .ok (.iconst (-1), 1) := by decide +kernel
theorem dX12_cell_13 : decode cX12_cell 13 = .ok (.ireturn, 1) := by decide +kernel
theorem dX12_cell_14 : decode cX12_cell 14 = .ok (.aload_n 0, 1) := by decide +kernel
theorem dX12_cell_15 : decode cX12_cell 15 = .ok (.getfield 54, 3) := by decide +kernel
theorem dX12_cell_18 : decode cX12_cell 18 = .ok (.iload_n 1, 1) := by decide +kernel
theorem dX12_cell_19 : decode cX12_cell 19 = .ok (.iload_n 2, 1) := by decide +kernel
theorem dX12_cell_20 : decode cX12_cell 20 = .ok (.invokevirtual 213, 3) := by decide +kernel
theorem dX12_cell_23 : decode cX12_cell 23 = .ok (.istore 4, 2) := by decide +kernel
theorem dX12_cell_25 : decode cX12_cell 25 = .ok (.iload_n 3, 1) := by decide +kernel
theorem dX12_cell_26 : decode cX12_cell 26 = .ok (.tableswitch 69 0 2 #[26, 39, 59], 26) := by decide +kernel
theorem dX12_cell_52 : decode cX12_cell 52 = .ok (.aload_n 0, 1) := by decide +kernel
theorem dX12_cell_53 : decode cX12_cell 53 = .ok (.getfield 54, 3) := by decide +kernel
theorem dX12_cell_56 : decode cX12_cell 56 = .ok (.getfield 159, 3) := by decide +kernel
theorem dX12_cell_59 : decode cX12_cell 59 = .ok (.iload 4, 2) := by decide +kernel
theorem dX12_cell_61 : decode cX12_cell 61 = .ok (.invokestatic 216, 3) := by decide +kernel
theorem dX12_cell_64 : decode cX12_cell 64 = .ok (.ireturn, 1) := by decide +kernel
theorem dX12_cell_65 : decode cX12_cell 65 = .ok (.aload_n 0, 1) := by decide +kernel
theorem dX12_cell_66 : decode cX12_cell 66 = .ok (.getfield 54, 3) := by decide +kernel
theorem dX12_cell_69 : decode cX12_cell 69 = .ok (.aload_n 0, 1) := by decide +kernel
theorem dX12_cell_70 : decode cX12_cell 70 = .ok (.getfield 80, 3) := by decide +kernel
theorem dX12_cell_73 : decode cX12_cell 73 = .ok (.getfield 178, 3) := by decide +kernel
theorem dX12_cell_76 : decode cX12_cell 76 = .ok (.invokevirtual 220, 3) := by decide +kernel
theorem dX12_cell_79 : decode cX12_cell 79 = .ok (.iload 4, 2) := by decide +kernel
theorem dX12_cell_81 : decode cX12_cell 81 = .ok (.invokestatic 216, 3) := by decide +kernel
theorem dX12_cell_84 : decode cX12_cell 84 = .ok (.ireturn, 1) := by decide +kernel
theorem dX12_cell_85 : decode cX12_cell 85 = .ok (.aload_n 0, 1) := by decide +kernel
theorem dX12_cell_86 : decode cX12_cell 86 = .ok (.invokevirtual 224, 3) := by decide +kernel
theorem dX12_cell_89 : decode cX12_cell 89 = .ok (.iload 4, 2) := by decide +kernel
theorem dX12_cell_91 : decode cX12_cell 91 = .ok (.invokevirtual 228, 3) := by decide +kernel
theorem dX12_cell_94 : decode cX12_cell 94 = .ok (.ireturn, 1) := by decide +kernel
theorem dX12_cell_95 : decode cX12_cell 95 = .ok (.iconst (-1), 1) := by decide +kernel
theorem dX12_cell_96 : decode cX12_cell 96 = .ok (.ireturn, 1) := by decide +kernel
theorem dX12_bell_0 : decode cX12_bell 0 = .ok (.aload_n 0, 1) := by decide +kernel
theorem dX12_bell_1 : decode cX12_bell 1 = .ok (.getfield 54, 3) := by decide +kernel
theorem dX12_bell_4 : decode cX12_bell 4 = .ok (.iload_n 1, 1) := by decide +kernel
theorem dX12_bell_5 : decode cX12_bell 5 = .ok (.invokevirtual 195, 3) := by decide +kernel
theorem dX12_bell_8 : decode cX12_bell 8 = .ok (.ifCond .ne 5, 3) := by decide +kernel
theorem dX12_bell_11 : decode cX12_bell 11 = .ok (.iconst (-1), 1) := by decide +kernel
theorem dX12_bell_12 : decode cX12_bell 12 = .ok (.ireturn, 1) := by decide +kernel
theorem dX12_bell_13 : decode cX12_bell 13 = .ok (.iload_n 2, 1) := by decide +kernel
theorem dX12_bell_14 : decode cX12_bell 14 = .ok (.tableswitch 113 0 4 #[34, 51, 68, 78, 90], 34) := by decide +kernel
theorem dX12_bell_48 : decode cX12_bell 48 = .ok (.aload_n 0, 1) := by decide +kernel
theorem dX12_bell_49 : decode cX12_bell 49 = .ok (.getfield 54, 3) := by decide +kernel
theorem dX12_bell_52 : decode cX12_bell 52 = .ok (.aload_n 0, 1) := by decide +kernel
theorem dX12_bell_53 : decode cX12_bell 53 = .ok (.getfield 54, 3) := by decide +kernel
theorem dX12_bell_56 : decode cX12_bell 56 = .ok (.getfield 231, 3) := by decide +kernel
theorem dX12_bell_59 : decode cX12_bell 59 = .ok (.iload_n 1, 1) := by decide +kernel
theorem dX12_bell_60 : decode cX12_bell 60 = .ok (.iaload, 1) := by decide +kernel
theorem dX12_bell_61 : decode cX12_bell 61 = .ok (.invokevirtual 234, 3) := by decide +kernel
theorem dX12_bell_64 : decode cX12_bell 64 = .ok (.ireturn, 1) := by decide +kernel
theorem dX12_bell_65 : decode cX12_bell 65 = .ok (.aload_n 0, 1) := by decide +kernel
theorem dX12_bell_66 : decode cX12_bell 66 = .ok (.getfield 54, 3) := by decide +kernel
theorem dX12_bell_69 : decode cX12_bell 69 = .ok (.aload_n 0, 1) := by decide +kernel
theorem dX12_bell_70 : decode cX12_bell 70 = .ok (.getfield 54, 3) := by decide +kernel
theorem dX12_bell_73 : decode cX12_bell 73 = .ok (.getfield 231, 3) := by decide +kernel
theorem dX12_bell_76 : decode cX12_bell 76 = .ok (.iload_n 1, 1) := by decide +kernel
theorem dX12_bell_77 : decode cX12_bell 77 = .ok (.iaload, 1) := by decide +kernel
theorem dX12_bell_78 : decode cX12_bell 78 = .ok (.invokevirtual 237, 3) := by decide +kernel
theorem dX12_bell_81 : decode cX12_bell 81 = .ok (.ireturn, 1) := by decide +kernel
theorem dX12_bell_82 : decode cX12_bell 82 = .ok (.aload_n 0, 1) := by decide +kernel
theorem dX12_bell_83 : decode cX12_bell 83 = .ok (.getfield 54, 3) := by decide +kernel
theorem dX12_bell_86 : decode cX12_bell 86 = .ok (.getfield 240, 3) := by decide +kernel
theorem dX12_bell_89 : decode cX12_bell 89 = .ok (.iload_n 1, 1) := by decide +kernel
theorem dX12_bell_90 : decode cX12_bell 90 = .ok (.iaload, 1) := by decide +kernel
theorem dX12_bell_91 : decode cX12_bell 91 = .ok (.ireturn, 1) := by decide +kernel
theorem dX12_bell_92 : decode cX12_bell 92 = .ok (.aload_n 0, 1) := by decide +kernel
theorem dX12_bell_93 : decode cX12_bell 93 = .ok (.getfield 80, 3) := by decide +kernel
theorem dX12_bell_96 : decode cX12_bell 96 = .ok (.getfield 178, 3) := by decide +kernel
theorem dX12_bell_99 : decode cX12_bell 99 = .ok (.iload_n 1, 1) := by decide +kernel
theorem dX12_bell_100 : decode cX12_bell 100 = .ok (.ishr, 1) := by decide +kernel
theorem dX12_bell_101 : decode cX12_bell 101 = .ok (.iconst 1, 1) := by decide +kernel
theorem dX12_bell_102 : decode cX12_bell 102 = .ok (.iand, 1) := by decide +kernel
theorem dX12_bell_103 : decode cX12_bell 103 = .ok (.ireturn, 1) := by decide +kernel
theorem dX12_bell_104 : decode cX12_bell 104 = .ok (.aload_n 0, 1) := by decide +kernel
theorem dX12_bell_105 : decode cX12_bell 105 = .ok (.getfield 54, 3) := by decide +kernel
theorem dX12_bell_108 : decode cX12_bell 108 = .ok (.iload_n 1, 1) := by decide +kernel
theorem dX12_bell_109 : decode cX12_bell 109 = .ok (.aload_n 0, 1) := by decide +kernel
theorem dX12_bell_110 : decode cX12_bell 110 = .ok (.getfield 80, 3) := by decide +kernel
theorem dX12_bell_113 : decode cX12_bell 113 = .ok (.getfield 178, 3) := by decide +kernel
theorem dX12_bell_116 : decode cX12_bell 116 = .ok (.aload_n 0, 1) := by decide +kernel
theorem dX12_bell_117 : decode cX12_bell 117 = .ok (.invokevirtual 224, 3) := by decide +kernel
theorem dX12_bell_120 : decode cX12_bell 120 = .ok (.getfield 243, 3) := by decide +kernel
theorem dX12_bell_123 : decode cX12_bell 123 = .ok (.invokevirtual 246, 3) := by decide +kernel
theorem dX12_bell_126 : decode cX12_bell 126 = .ok (.ireturn, 1) := by decide +kernel
theorem dX12_bell_127 : decode cX12_bell 127 = .ok (.iconst (-1), 1) := by decide +kernel
theorem dX12_bell_128 : decode cX12_bell 128 = .ok (.ireturn, 1) := by decide +kernel
theorem dX12_walker_0 : decode cX12_walker 0 = .ok (.aload_n 0, 1) := by decide +kernel
theorem dX12_walker_1 : decode cX12_walker 1 = .ok (.getfield 54, 3) := by decide +kernel
theorem dX12_walker_4 : decode cX12_walker 4 = .ok (.iload_n 1, 1) := by decide +kernel
theorem dX12_walker_5 : decode cX12_walker 5 = .ok (.invokevirtual 198, 3) := by decide +kernel
theorem dX12_walker_8 : decode cX12_walker 8 = .ok (.ifCond .ne 5, 3) := by decide +kernel
theorem dX12_walker_11 : decode cX12_walker 11 = .ok (.iconst (-1), 1) := by decide +kernel
theorem dX12_walker_12 : decode cX12_walker 12 = .ok (.ireturn, 1) := by decide +kernel
theorem dX12_walker_13 : decode cX12_walker 13 = .ok (.iload_n 2, 1) := by decide +kernel
theorem dX12_walker_14 : decode cX12_walker 14 = .ok (.tableswitch 158 0 7 #[46, 65, 84, 101, 118, 128, 138, 148], 46) := by decide +kernel
theorem dX12_walker_60 : decode cX12_walker 60 = .ok (.aload_n 0, 1) := by decide +kernel
theorem dX12_walker_61 : decode cX12_walker 61 = .ok (.getfield 54, 3) := by decide +kernel
theorem dX12_walker_64 : decode cX12_walker 64 = .ok (.aload_n 0, 1) := by decide +kernel
theorem dX12_walker_65 : decode cX12_walker 65 = .ok (.getfield 54, 3) := by decide +kernel
theorem dX12_walker_68 : decode cX12_walker 68 = .ok (.getfield 250, 3) := by decide +kernel
theorem dX12_walker_71 : decode cX12_walker 71 = .ok (.iload_n 1, 1) := by decide +kernel
theorem dX12_walker_72 : decode cX12_walker 72 = .ok (.aaload, 1) := by decide +kernel
theorem dX12_walker_73 : decode cX12_walker 73 = .ok (.iconst 0, 1) := by decide +kernel
theorem dX12_walker_74 : decode cX12_walker 74 = .ok (.iaload, 1) := by decide +kernel
theorem dX12_walker_75 : decode cX12_walker 75 = .ok (.invokevirtual 234, 3) := by decide +kernel
theorem dX12_walker_78 : decode cX12_walker 78 = .ok (.ireturn, 1) := by decide +kernel
theorem dX12_walker_79 : decode cX12_walker 79 = .ok (.aload_n 0, 1) := by decide +kernel
theorem dX12_walker_80 : decode cX12_walker 80 = .ok (.getfield 54, 3) := by decide +kernel
theorem dX12_walker_83 : decode cX12_walker 83 = .ok (.aload_n 0, 1) := by decide +kernel
theorem dX12_walker_84 : decode cX12_walker 84 = .ok (.getfield 54, 3) := by decide +kernel
theorem dX12_walker_87 : decode cX12_walker 87 = .ok (.getfield 250, 3) := by decide +kernel
theorem dX12_walker_90 : decode cX12_walker 90 = .ok (.iload_n 1, 1) := by decide +kernel
theorem dX12_walker_91 : decode cX12_walker 91 = .ok (.aaload, 1) := by decide +kernel
theorem dX12_walker_92 : decode cX12_walker 92 = .ok (.iconst 0, 1) := by decide +kernel
theorem dX12_walker_93 : decode cX12_walker 93 = .ok (.iaload, 1) := by decide +kernel
theorem dX12_walker_94 : decode cX12_walker 94 = .ok (.invokevirtual 237, 3) := by decide +kernel
theorem dX12_walker_97 : decode cX12_walker 97 = .ok (.ireturn, 1) := by decide +kernel
theorem dX12_walker_98 : decode cX12_walker 98 = .ok (.aload_n 0, 1) := by decide +kernel
theorem dX12_walker_99 : decode cX12_walker 99 = .ok (.getfield 54, 3) := by decide +kernel
theorem dX12_walker_102 : decode cX12_walker 102 = .ok (.aload_n 0, 1) := by decide +kernel
theorem dX12_walker_103 : decode cX12_walker 103 = .ok (.getfield 54, 3) := by decide +kernel
theorem dX12_walker_106 : decode cX12_walker 106 = .ok (.getfield 253, 3) := by decide +kernel
theorem dX12_walker_109 : decode cX12_walker 109 = .ok (.iload_n 1, 1) := by decide +kernel
theorem dX12_walker_110 : decode cX12_walker 110 = .ok (.iaload, 1) := by decide +kernel
theorem dX12_walker_111 : decode cX12_walker 111 = .ok (.invokevirtual 234, 3) := by decide +kernel
theorem dX12_walker_114 : decode cX12_walker 114 = .ok (.ireturn, 1) := by decide +kernel
theorem dX12_walker_115 : decode cX12_walker 115 = .ok (.aload_n 0, 1) := by decide +kernel
theorem dX12_walker_116 : decode cX12_walker 116 = .ok (.getfield 54, 3) := by decide +kernel
theorem dX12_walker_119 : decode cX12_walker 119 = .ok (.aload_n 0, 1) := by decide +kernel
theorem dX12_walker_120 : decode cX12_walker 120 = .ok (.getfield 54, 3) := by decide +kernel
theorem dX12_walker_123 : decode cX12_walker 123 = .ok (.getfield 253, 3) := by decide +kernel
theorem dX12_walker_126 : decode cX12_walker 126 = .ok (.iload_n 1, 1) := by decide +kernel
theorem dX12_walker_127 : decode cX12_walker 127 = .ok (.iaload, 1) := by decide +kernel
theorem dX12_walker_128 : decode cX12_walker 128 = .ok (.invokevirtual 237, 3) := by decide +kernel
theorem dX12_walker_131 : decode cX12_walker 131 = .ok (.ireturn, 1) := by decide +kernel
theorem dX12_walker_132 : decode cX12_walker 132 = .ok (.aload_n 0, 1) := by decide +kernel
theorem dX12_walker_133 : decode cX12_walker 133 = .ok (.getfield 80, 3) := by decide +kernel
theorem dX12_walker_136 : decode cX12_walker 136 = .ok (.getfield 256, 3) := by decide +kernel
theorem dX12_walker_139 : decode cX12_walker 139 = .ok (.iload_n 1, 1) := by decide +kernel
theorem dX12_walker_140 : decode cX12_walker 140 = .ok (.iaload, 1) := by decide +kernel
theorem dX12_walker_141 : decode cX12_walker 141 = .ok (.ireturn, 1) := by decide +kernel
theorem dX12_walker_142 : decode cX12_walker 142 = .ok (.aload_n 0, 1) := by decide +kernel
theorem dX12_walker_143 : decode cX12_walker 143 = .ok (.getfield 80, 3) := by decide +kernel
theorem dX12_walker_146 : decode cX12_walker 146 = .ok (.getfield 259, 3) := by decide +kernel
theorem dX12_walker_149 : decode cX12_walker 149 = .ok (.iload_n 1, 1) := by decide +kernel
theorem dX12_walker_150 : decode cX12_walker 150 = .ok (.iaload, 1) := by decide +kernel
theorem dX12_walker_151 : decode cX12_walker 151 = .ok (.ireturn, 1) := by decide +kernel
theorem dX12_walker_152 : decode cX12_walker 152 = .ok (.aload_n 0, 1) := by decide +kernel
theorem dX12_walker_153 : decode cX12_walker 153 = .ok (.getfield 80, 3) := by decide +kernel
theorem dX12_walker_156 : decode cX12_walker 156 = .ok (.getfield 262, 3) := by decide +kernel
theorem dX12_walker_159 : decode cX12_walker 159 = .ok (.iload_n 1, 1) := by decide +kernel
theorem dX12_walker_160 : decode cX12_walker 160 = .ok (.iaload, 1) := by decide +kernel
theorem dX12_walker_161 : decode cX12_walker 161 = .ok (.ireturn, 1) := by decide +kernel
theorem dX12_walker_162 : decode cX12_walker 162 = .ok (.aload_n 0, 1) := by decide +kernel
theorem dX12_walker_163 : decode cX12_walker 163 = .ok (.getfield 80, 3) := by decide +kernel
theorem dX12_walker_166 : decode cX12_walker 166 = .ok (.getfield 265, 3) := by decide +kernel
theorem dX12_walker_169 : decode cX12_walker 169 = .ok (.iload_n 1, 1) := by decide +kernel
theorem dX12_walker_170 : decode cX12_walker 170 = .ok (.iaload, 1) := by decide +kernel
theorem dX12_walker_171 : decode cX12_walker 171 = .ok (.ireturn, 1) := by decide +kernel
theorem dX12_walker_172 : decode cX12_walker 172 = .ok (.iconst (-1), 1) := by decide +kernel
theorem dX12_walker_173 : decode cX12_walker 173 = .ok (.ireturn, 1) := by decide +kernel
theorem dX12_told_0 : decode cX12_told 0 = .ok (.aload_n 0, 1) := by decide +kernel
theorem dX12_told_1 : decode cX12_told 1 = .ok (.getfield 80, 3) := by decide +kernel
theorem dX12_told_4 : decode cX12_told 4 = .ok (.iload_n 1, 1) := by decide +kernel
theorem dX12_told_5 : decode cX12_told 5 = .ok (.iload_n 2, 1) := by decide +kernel
theorem dX12_told_6 : decode cX12_told 6 = .ok (.invokevirtual 268, 3) := by decide +kernel
theorem dX12_told_9 : decode cX12_told 9 = .ok (.ireturn, 1) := by decide +kernel
theorem dX12_hunt_0 : decode cX12_hunt 0 = .ok (.aload_n 0, 1) := by decide +kernel
theorem dX12_hunt_1 : decode cX12_hunt 1 = .ok (.getfield 54, 3) := by decide +kernel
theorem dX12_hunt_4 : decode cX12_hunt 4 = .ok (.invokevirtual 271, 3) := by decide +kernel
theorem dX12_hunt_7 : decode cX12_hunt 7 = .ok (.ifCond .eq 13, 3) := by decide +kernel
theorem dX12_hunt_10 : decode cX12_hunt 10 = .ok (.iload_n 1, 1) := by decide +kernel
theorem dX12_hunt_11 : decode cX12_hunt 11 = .ok (.ifCond .lt 9, 3) := by decide +kernel
theorem dX12_hunt_14 : decode cX12_hunt 14 = .ok (.iload_n 1, 1) := by decide +kernel
theorem dX12_hunt_15 : decode cX12_hunt 15 = .ok (.bipush 12, 2) := by decide +kernel
theorem dX12_hunt_17 : decode cX12_hunt 17 = .ok (.if_icmp .lt 5, 3) := by decide +kernel
theorem dX12_hunt_20 : decode cX12_hunt 20 = .ok (.iconst (-1), 1) := by decide +kernel
theorem dX12_hunt_21 : decode cX12_hunt 21 = .ok (.ireturn, 1) := by decide +kernel
theorem dX12_hunt_22 : decode cX12_hunt 22 = .ok (.aload_n 0, 1) := by decide +kernel
theorem dX12_hunt_23 : decode cX12_hunt 23 = .ok (.aload_n 0, 1) := by decide +kernel
theorem dX12_hunt_24 : decode cX12_hunt 24 = .ok (.invokevirtual 224, 3) := by decide +kernel
theorem dX12_hunt_27 : decode cX12_hunt 27 = .ok (.getfield 275, 3) := by decide +kernel
theorem dX12_hunt_30 : decode cX12_hunt 30 = .ok (.iload_n 1, 1) := by decide +kernel
theorem dX12_hunt_31 : decode cX12_hunt 31 = .ok (.iaload, 1) := by decide +kernel
theorem dX12_hunt_32 : decode cX12_hunt 32 = .ok (.iload_n 2, 1) := by decide +kernel
theorem dX12_hunt_33 : decode cX12_hunt 33 = .ok (.invokevirtual 278, 3) := by decide +kernel
theorem dX12_hunt_36 : decode cX12_hunt 36 = .ok (.ireturn, 1) := by decide +kernel
theorem dX12_meets_0 : decode cX12_meets 0 = .ok (.aload_n 0, 1) := by decide +kernel
theorem dX12_meets_1 : decode cX12_meets 1 = .ok (.getfield 54, 3) := by decide +kernel
theorem dX12_meets_4 : decode cX12_meets 4 = .ok (.iload_n 1, 1) := by decide +kernel
theorem dX12_meets_5 : decode cX12_meets 5 = .ok (.invokevirtual 198, 3) := by decide +kernel
theorem dX12_meets_8 : decode cX12_meets 8 = .ok (.ifCond .ne 5, 3) := by decide +kernel
theorem dX12_meets_11 : decode cX12_meets 11 = .ok (.iconst (-1), 1) := by decide +kernel
theorem dX12_meets_12 : decode cX12_meets 12 = .ok (.ireturn, 1) := by decide +kernel
theorem dX12_meets_13 : decode cX12_meets 13 = .ok (.aload_n 0, 1) := by decide +kernel
theorem dX12_meets_14 : decode cX12_meets 14 = .ok (.invokevirtual 224, 3) := by decide +kernel
theorem dX12_meets_17 : decode cX12_meets 17 = .ok (.aload_n 0, 1) := by decide +kernel
theorem dX12_meets_18 : decode cX12_meets 18 = .ok (.getfield 80, 3) := by decide +kernel
theorem dX12_meets_21 : decode cX12_meets 21 = .ok (.iload_n 1, 1) := by decide +kernel
theorem dX12_meets_22 : decode cX12_meets 22 = .ok (.invokevirtual 281, 3) := by decide +kernel
theorem dX12_meets_25 : decode cX12_meets 25 = .ok (.ireturn, 1) := by decide +kernel
theorem dX12_safe_0 : decode cX12_safe 0 = .ok (.aload_n 0, 1) := by decide +kernel
theorem dX12_safe_1 : decode cX12_safe 1 = .ok (.getfield 54, 3) := by decide +kernel
theorem dX12_safe_4 : decode cX12_safe 4 = .ok (.iload_n 1, 1) := by decide +kernel
theorem dX12_safe_5 : decode cX12_safe 5 = .ok (.invokevirtual 198, 3) := by decide +kernel
theorem dX12_safe_8 : decode cX12_safe 8 = .ok (.ifCond .ne 5, 3) := by decide +kernel
theorem dX12_safe_11 : decode cX12_safe 11 = .ok (.iconst (-1), 1) := by decide +kernel
theorem dX12_safe_12 : decode cX12_safe 12 = .ok (.ireturn, 1) := by decide +kernel
theorem dX12_safe_13 : decode cX12_safe 13 = .ok (.aload_n 0, 1) := by decide +kernel
theorem dX12_safe_14 : decode cX12_safe 14 = .ok (.invokevirtual 224, 3) := by decide +kernel
theorem dX12_safe_17 : decode cX12_safe 17 = .ok (.aload_n 0, 1) := by decide +kernel
theorem dX12_safe_18 : decode cX12_safe 18 = .ok (.getfield 54, 3) := by decide +kernel
theorem dX12_safe_21 : decode cX12_safe 21 = .ok (.getfield 250, 3) := by decide +kernel
theorem dX12_safe_24 : decode cX12_safe 24 = .ok (.iload_n 1, 1) := by decide +kernel
theorem dX12_safe_25 : decode cX12_safe 25 = .ok (.aaload, 1) := by decide +kernel
theorem dX12_safe_26 : decode cX12_safe 26 = .ok (.iconst 0, 1) := by decide +kernel
theorem dX12_safe_27 : decode cX12_safe 27 = .ok (.iaload, 1) := by decide +kernel
theorem dX12_safe_28 : decode cX12_safe 28 = .ok (.aload_n 0, 1) := by decide +kernel
theorem dX12_safe_29 : decode cX12_safe 29 = .ok (.getfield 54, 3) := by decide +kernel
theorem dX12_safe_32 : decode cX12_safe 32 = .ok (.getfield 253, 3) := by decide +kernel
theorem dX12_safe_35 : decode cX12_safe 35 = .ok (.iload_n 1, 1) := by decide +kernel
theorem dX12_safe_36 : decode cX12_safe 36 = .ok (.iaload, 1) := by decide +kernel
theorem dX12_safe_37 : decode cX12_safe 37 = .ok (.invokevirtual 285, 3) := by decide +kernel
theorem dX12_safe_40 : decode cX12_safe 40 = .ok (.ireturn, 1) := by decide +kernel
theorem dX12_peal_0 : decode cX12_peal 0 = .ok (.aload_n 0, 1) := by decide +kernel
theorem dX12_peal_1 : decode cX12_peal 1 = .ok (.getfield 54, 3) := by decide +kernel
theorem dX12_peal_4 : decode cX12_peal 4 = .ok (.invokevirtual 271, 3) := by decide +kernel
theorem dX12_peal_7 : decode cX12_peal 7 = .ok (.ifCond .ne 5, 3) := by decide +kernel
theorem dX12_peal_10 : decode cX12_peal 10 = .ok (.iconst (-1), 1) := by decide +kernel
theorem dX12_peal_11 : decode cX12_peal 11 = .ok (.ireturn, 1) := by decide +kernel
theorem dX12_peal_12 : decode cX12_peal 12 = .ok (.iconst (-1), 1) := by decide +kernel
theorem dX12_peal_13 : decode cX12_peal 13 = .ok (.istore_n 1, 1) := by decide +kernel
theorem dX12_peal_14 : decode cX12_peal 14 = .ok (.bipush 6, 2) := by decide +kernel
theorem dX12_peal_16 : decode cX12_peal 16 = .ok (.istore_n 2, 1) := by decide +kernel
theorem dX12_peal_17 : decode cX12_peal 17 = .ok (.iconst 0, 1) := by decide +kernel
theorem dX12_peal_18 : decode cX12_peal 18 = .ok (.istore_n 3, 1) := by decide +kernel
theorem dX12_peal_19 : decode cX12_peal 19 = .ok (.iload_n 3, 1) := by decide +kernel
theorem dX12_peal_20 : decode cX12_peal 20 = .ok (.iconst 1, 1) := by decide +kernel
theorem dX12_peal_21 : decode cX12_peal 21 = .ok (.aload_n 0, 1) := by decide +kernel
theorem dX12_peal_22 : decode cX12_peal 22 = .ok (.getfield 54, 3) := by decide +kernel
theorem dX12_peal_25 : decode cX12_peal 25 = .ok (.getfield 169, 3) := by decide +kernel
theorem dX12_peal_28 : decode cX12_peal 28 = .ok (.ishl, 1) := by decide +kernel
theorem dX12_peal_29 : decode cX12_peal 29 = .ok (.if_icmp .ge 32, 3) := by decide +kernel
theorem dX12_peal_32 : decode cX12_peal 32 = .ok (.iload_n 3, 1) := by decide +kernel
theorem dX12_peal_33 : decode cX12_peal 33 = .ok (.invokestatic 181, 3) := by decide +kernel
theorem dX12_peal_36 : decode cX12_peal 36 = .ok (.iload_n 2, 1) := by decide +kernel
theorem dX12_peal_37 : decode cX12_peal 37 = .ok (.if_icmp .ge 18, 3) := by decide +kernel
theorem dX12_peal_40 : decode cX12_peal 40 = .ok (.aload_n 0, 1) := by decide +kernel
theorem dX12_peal_41 : decode cX12_peal 41 = .ok (.iload_n 3, 1) := by decide +kernel
theorem dX12_peal_42 : decode cX12_peal 42 = .ok (.invokevirtual 288, 3) := by decide +kernel
theorem dX12_peal_45 : decode cX12_peal 45 = .ok (.ifCond .eq 10, 3) := by decide +kernel
theorem dX12_peal_48 : decode cX12_peal 48 = .ok (.iload_n 3, 1) := by decide +kernel
theorem dX12_peal_49 : decode cX12_peal 49 = .ok (.istore_n 1, 1) := by decide +kernel
theorem dX12_peal_50 : decode cX12_peal 50 = .ok (.iload_n 3, 1) := by decide +kernel
theorem dX12_peal_51 : decode cX12_peal 51 = .ok (.invokestatic 181, 3) := by decide +kernel
theorem dX12_peal_54 : decode cX12_peal 54 = .ok (.istore_n 2, 1) := by decide +kernel
theorem dX12_peal_55 : decode cX12_peal 55 = .ok (.iinc 3 1, 3) := by decide +kernel
theorem dX12_peal_58 : decode cX12_peal 58 = .ok (.goto (-39), 3) := by decide +kernel
theorem dX12_peal_61 : decode cX12_peal 61 = .ok (.iload_n 1, 1) := by decide +kernel
theorem dX12_peal_62 : decode cX12_peal 62 = .ok (.ireturn, 1) := by decide +kernel
theorem dX12_rest_0 : decode cX12_rest 0 = .ok (.aload_n 0, 1) := by decide +kernel
theorem dX12_rest_1 : decode cX12_rest 1 = .ok (.getfield 54, 3) := by decide +kernel
theorem dX12_rest_4 : decode cX12_rest 4 = .ok (.invokevirtual 271, 3) := by decide +kernel
theorem dX12_rest_7 : decode cX12_rest 7 = .ok (.ifCond .ne 5, 3) := by decide +kernel
theorem dX12_rest_10 : decode cX12_rest 10 = .ok (.iconst (-1), 1) := by decide +kernel
theorem dX12_rest_11 : decode cX12_rest 11 = .ok (.ireturn, 1) := by decide +kernel
theorem dX12_rest_12 : decode cX12_rest 12 = .ok (.iconst 1, 1) := by decide +kernel
theorem dX12_rest_13 : decode cX12_rest 13 = .ok (.aload_n 0, 1) := by decide +kernel
theorem dX12_rest_14 : decode cX12_rest 14 = .ok (.getfield 54, 3) := by decide +kernel
theorem dX12_rest_17 : decode cX12_rest 17 = .ok (.getfield 169, 3) := by decide +kernel
theorem dX12_rest_20 : decode cX12_rest 20 = .ok (.ishl, 1) := by decide +kernel
theorem dX12_rest_21 : decode cX12_rest 21 = .ok (.istore_n 1, 1) := by decide +kernel
theorem dX12_rest_22 : decode cX12_rest 22 = .ok (.iconst 0, 1) := by decide +kernel
theorem dX12_rest_23 : decode cX12_rest 23 = .ok (.istore_n 2, 1) := by decide +kernel
theorem dX12_rest_24 : decode cX12_rest 24 = .ok (.iload_n 2, 1) := by decide +kernel
theorem dX12_rest_25 : decode cX12_rest 25 = .ok (.iload_n 1, 1) := by decide +kernel
theorem dX12_rest_26 : decode cX12_rest 26 = .ok (.if_icmp .ge 55, 3) := by decide +kernel
theorem dX12_rest_29 : decode cX12_rest 29 = .ok (.aload_n 0, 1) := by decide +kernel
theorem dX12_rest_30 : decode cX12_rest 30 = .ok (.getfield 67, 3) := by decide +kernel
theorem dX12_rest_33 : decode cX12_rest 33 = .ok (.aload_n 0, 1) := by decide +kernel
theorem dX12_rest_34 : decode cX12_rest 34 = .ok (.getfield 54, 3) := by decide +kernel
theorem dX12_rest_37 : decode cX12_rest 37 = .ok (.aload_n 0, 1) := by decide +kernel
theorem dX12_rest_38 : decode cX12_rest 38 = .ok (.getfield 54, 3) := by decide +kernel
theorem dX12_rest_41 : decode cX12_rest 41 = .ok (.iload_n 2, 1) := by decide +kernel
theorem dX12_rest_42 : decode cX12_rest 42 = .ok (.invokevirtual 291, 3) := by decide +kernel
theorem dX12_rest_45 : decode cX12_rest 45 = .ok (.aload_n 0, 1) := by decide +kernel
theorem dX12_rest_46 : decode cX12_rest 46 = .ok (.getfield 54, 3) := by decide +kernel
theorem dX12_rest_49 : decode cX12_rest 49 = .ok (.getfield 294, 3) := by decide +kernel
theorem dX12_rest_52 : decode cX12_rest 52 = .ok (.aload_n 0, 1) := by decide +kernel
theorem dX12_rest_53 : decode cX12_rest 53 = .ok (.getfield 80, 3) := by decide +kernel
theorem dX12_rest_56 : decode cX12_rest 56 = .ok (.getfield 175, 3) := by decide +kernel
theorem dX12_rest_59 : decode cX12_rest 59 = .ok (.invokevirtual 296, 3) := by decide +kernel
theorem dX12_rest_62 : decode cX12_rest 62 = .ok (.aload_n 0, 1) := by decide +kernel
theorem dX12_rest_63 : decode cX12_rest 63 = .ok (.getfield 101, 3) := by decide +kernel
theorem dX12_rest_66 : decode cX12_rest 66 = .ok (.iload_n 2, 1) := by decide +kernel
theorem dX12_rest_67 : decode cX12_rest 67 = .ok (.aload_n 0, 1) := by decide +kernel
theorem dX12_rest_68 : decode cX12_rest 68 = .ok (.getfield 67, 3) := by decide +kernel
theorem dX12_rest_71 : decode cX12_rest 71 = .ok (.getfield 243, 3) := by decide +kernel
theorem dX12_rest_74 : decode cX12_rest 74 = .ok (.lastore, 1) := by decide +kernel
theorem dX12_rest_75 : decode cX12_rest 75 = .ok (.iinc 2 1, 3) := by decide +kernel
theorem dX12_rest_78 : decode cX12_rest 78 = .ok (.goto (-54), 3) := by decide +kernel
theorem dX12_rest_81 : decode cX12_rest 81 = .ok (.iconst (-1), 1) := by decide +kernel
theorem dX12_rest_82 : decode cX12_rest 82 = .ok (.istore_n 2, 1) := by decide +kernel
theorem dX12_rest_83 : decode cX12_rest 83 = .ok (.bipush 6, 2) := by decide +kernel
theorem dX12_rest_85 : decode cX12_rest 85 = .ok (.istore_n 3, 1) := by decide +kernel
theorem dX12_rest_86 : decode cX12_rest 86 = .ok (.iconst 0, 1) := by decide +kernel
theorem dX12_rest_87 : decode cX12_rest 87 = .ok (.istore 4, 2) := by decide +kernel
theorem dX12_rest_89 : decode cX12_rest 89 = .ok (.iload 4, 2) := by decide +kernel
theorem dX12_rest_91 : decode cX12_rest 91 = .ok (.iload_n 1, 1) := by decide +kernel
theorem dX12_rest_92 : decode cX12_rest 92 = .ok (.if_icmp .ge 36, 3) := by decide +kernel
theorem dX12_rest_95 : decode cX12_rest 95 = .ok (.iload 4, 2) := by decide +kernel
theorem dX12_rest_97 : decode cX12_rest 97 = .ok (.invokestatic 181, 3) := by decide +kernel
theorem dX12_rest_100 : decode cX12_rest 100 = .ok (.iload_n 3, 1) := by decide +kernel
theorem dX12_rest_101 : decode cX12_rest 101 = .ok (.if_icmp .ge 21, 3) := by decide +kernel
theorem dX12_rest_104 : decode cX12_rest 104 = .ok (.aload_n 0, 1) := by decide +kernel
theorem dX12_rest_105 : decode cX12_rest 105 = .ok (.iload 4, 2) := by decide +kernel
theorem dX12_rest_107 : decode cX12_rest 107 = .ok (.invokevirtual 300, 3) := by decide +kernel
theorem dX12_rest_110 : decode cX12_rest 110 = .ok (.ifCond .eq 12, 3) := by decide +kernel
theorem dX12_rest_113 : decode cX12_rest 113 = .ok (.iload 4, 2) := by decide +kernel
theorem dX12_rest_115 : decode cX12_rest 115 = .ok (.istore_n 2, 1) := by decide +kernel
theorem dX12_rest_116 : decode cX12_rest 116 = .ok (.iload 4, 2) := by decide +kernel
theorem dX12_rest_118 : decode cX12_rest 118 = .ok (.invokestatic 181, 3) := by decide +kernel
theorem dX12_rest_121 : decode cX12_rest 121 = .ok (.istore_n 3, 1) := by decide +kernel
theorem dX12_rest_122 : decode cX12_rest 122 = .ok (.iinc 4 1, 3) := by decide +kernel
theorem dX12_rest_125 : decode cX12_rest 125 = .ok (.goto (-36), 3) := by decide +kernel
theorem dX12_rest_128 : decode cX12_rest 128 = .ok (.iload_n 2, 1) := by decide +kernel
theorem dX12_rest_129 : decode cX12_rest 129 = .ok (.ireturn, 1) := by decide +kernel
theorem dX12_later_0 : decode cX12_later 0 = .ok (.aload_n 0, 1) := by decide +kernel
theorem dX12_later_1 : decode cX12_later 1 = .ok (.iload_n 1, 1) := by decide +kernel
theorem dX12_later_2 : decode cX12_later 2 = .ok (.iconst 0, 1) := by decide +kernel
theorem dX12_later_3 : decode cX12_later 3 = .ok (.bipush 60, 2) := by decide +kernel
theorem dX12_later_5 : decode cX12_later 5 = .ok (.invokevirtual 303, 3) := by decide +kernel
theorem dX12_later_8 : decode cX12_later 8 = .ok (.ifCond .ne 5, 3) := by decide +kernel
theorem dX12_later_11 : decode cX12_later 11 = .ok (.iconst (-1), 1) := by decide +kernel
theorem dX12_later_12 : decode cX12_later 12 = .ok (.ireturn, 1) := by decide +kernel
theorem dX12_later_13 : decode cX12_later 13 = .ok (.aload_n 0, 1) := by decide +kernel
theorem dX12_later_14 : decode cX12_later 14 = .ok (.iload_n 1, 1) := by decide +kernel
theorem dX12_later_15 : decode cX12_later 15 = .ok (.lconst 0, 1) := by decide +kernel
theorem dX12_later_16 : decode cX12_later 16 = .ok (.invokevirtual 307, 3) := by decide +kernel
theorem dX12_later_19 : decode cX12_later 19 = .ok (.iload_n 2, 1) := by decide +kernel
theorem dX12_later_20 : decode cX12_later 20 = .ok (.tableswitch 64 0 3 #[32, 40, 48, 56], 32) := by decide +kernel
theorem dX12_later_52 : decode cX12_later 52 = .ok (.aload_n 0, 1) := by decide +kernel
theorem dX12_later_53 : decode cX12_later 53 = .ok (.getfield 73, 3) := by decide +kernel
theorem dX12_later_56 : decode cX12_later 56 = .ok (.getfield 311, 3) := by decide +kernel
theorem dX12_later_59 : decode cX12_later 59 = .ok (.ireturn, 1) := by decide +kernel
theorem dX12_later_60 : decode cX12_later 60 = .ok (.aload_n 0, 1) := by decide +kernel
theorem dX12_later_61 : decode cX12_later 61 = .ok (.getfield 84, 3) := by decide +kernel
theorem dX12_later_64 : decode cX12_later 64 = .ok (.invokevirtual 185, 3) := by decide +kernel
theorem dX12_later_67 : decode cX12_later 67 = .ok (.ireturn, 1) := by decide +kernel
theorem dX12_later_68 : decode cX12_later 68 = .ok (.aload_n 0, 1) := by decide +kernel
theorem dX12_later_69 : decode cX12_later 69 = .ok (.getfield 84, 3) := by decide +kernel
theorem dX12_later_72 : decode cX12_later 72 = .ok (.invokevirtual 189, 3) := by decide +kernel
theorem dX12_later_75 : decode cX12_later 75 = .ok (.ireturn, 1) := by decide +kernel
theorem dX12_later_76 : decode cX12_later 76 = .ok (.aload_n 0, 1) := by decide +kernel
theorem dX12_later_77 : decode cX12_later 77 = .ok (.getfield 73, 3) := by decide +kernel
theorem dX12_later_80 : decode cX12_later 80 = .ok (.getfield 314, 3) := by decide +kernel
theorem dX12_later_83 : decode cX12_later 83 = .ok (.ireturn, 1) := by decide +kernel
theorem dX12_later_84 : decode cX12_later 84 = .ok (.iconst (-1), 1) := by decide +kernel
theorem dX12_later_85 : decode cX12_later 85 = .ok (.ireturn, 1) := by decide +kernel
theorem dX12_chapel_0 : decode cX12_chapel 0 = .ok (.iload_n 2, 1) := by decide +kernel
theorem dX12_chapel_1 : decode cX12_chapel 1 = .ok (.ifCond .lt 19, 3) := by decide +kernel
theorem dX12_chapel_4 : decode cX12_chapel 4 = .ok (.iload_n 2, 1) := by decide +kernel
theorem dX12_chapel_5 : decode cX12_chapel 5 = .ok (.iconst 2, 1) := by decide +kernel
theorem dX12_chapel_6 : decode cX12_chapel 6 = .ok (.if_icmp .gt 14, 3) := by decide +kernel
theorem dX12_chapel_9 : decode cX12_chapel 9 = .ok (.aload_n 0, 1) := by decide +kernel
theorem dX12_chapel_10 : decode cX12_chapel 10 = .ok (.iload_n 1, 1) := by decide +kernel
theorem dX12_chapel_11 : decode cX12_chapel 11 = .ok (.iconst 1, 1) := by decide +kernel
theorem dX12_chapel_12 : decode cX12_chapel 12 = .ok (.bipush 20, 2) := by decide +kernel
theorem dX12_chapel_14 : decode cX12_chapel 14 = .ok (.invokevirtual 303, 3) := by decide +kernel
theorem dX12_chapel_17 : decode cX12_chapel 17 = .ok (.ifCond .ne 5, 3) := by decide +kernel
theorem dX12_chapel_20 : decode cX12_chapel 20 = .ok (.iconst (-1), 1) := by decide +kernel
theorem dX12_chapel_21 : decode cX12_chapel 21 = .ok (.ireturn, 1) := by decide +kernel
theorem dX12_chapel_22 : decode cX12_chapel 22 = .ok (.aload_n 0, 1) := by decide +kernel
theorem dX12_chapel_23 : decode cX12_chapel 23 = .ok (.iload_n 1, 1) := by decide +kernel
theorem dX12_chapel_24 : decode cX12_chapel 24 = .ok (.lconst 0, 1) := by decide +kernel
theorem dX12_chapel_25 : decode cX12_chapel 25 = .ok (.invokevirtual 307, 3) := by decide +kernel
theorem dX12_chapel_28 : decode cX12_chapel 28 = .ok (.aload_n 0, 1) := by decide +kernel
theorem dX12_chapel_29 : decode cX12_chapel 29 = .ok (.getfield 73, 3) := by decide +kernel
theorem dX12_chapel_32 : decode cX12_chapel 32 = .ok (.getfield 311, 3) := by decide +kernel
theorem dX12_chapel_35 : decode cX12_chapel 35 = .ok (.istore_n 3, 1) := by decide +kernel
theorem dX12_chapel_36 : decode cX12_chapel 36 = .ok (.aload_n 0, 1) := by decide +kernel
theorem dX12_chapel_37 : decode cX12_chapel 37 = .ok (.getfield 73, 3) := by decide +kernel
theorem dX12_chapel_40 : decode cX12_chapel 40 = .ok (.getfield 317, 3) := by decide +kernel
theorem dX12_chapel_43 : decode cX12_chapel 43 = .ok (.lstore 4, 2) := by decide +kernel
theorem dX12_chapel_45 : decode cX12_chapel 45 = .ok (.iconst (-1), 1) := by decide +kernel
theorem dX12_chapel_46 : decode cX12_chapel 46 = .ok (.istore 6, 2) := by decide +kernel
theorem dX12_chapel_48 : decode cX12_chapel 48 = .ok (.iload_n 3, 1) := by decide +kernel
theorem dX12_chapel_49 : decode cX12_chapel 49 = .ok (.istore 7, 2) := by decide +kernel
theorem dX12_chapel_51 : decode cX12_chapel 51 = .ok (.iconst 0, 1) := by decide +kernel
theorem dX12_chapel_52 : decode cX12_chapel 52 = .ok (.istore 8, 2) := by decide +kernel
theorem dX12_chapel_54 : decode cX12_chapel 54 = .ok (.iload 8, 2) := by decide +kernel
theorem dX12_chapel_56 : decode cX12_chapel 56 = .ok (.aload_n 0, 1) := by decide +kernel
theorem dX12_chapel_57 : decode cX12_chapel 57 = .ok (.getfield 54, 3) := by decide +kernel
theorem dX12_chapel_60 : decode cX12_chapel 60 = .ok (.invokevirtual 320, 3) := by decide +kernel
theorem dX12_chapel_63 : decode cX12_chapel 63 = .ok (.if_icmp .ge 66, 3) := by decide +kernel
theorem dX12_chapel_66 : decode cX12_chapel 66 = .ok (.iload 8, 2) := by decide +kernel
theorem dX12_chapel_68 : decode cX12_chapel 68 = .ok (.aload_n 0, 1) := by decide +kernel
theorem dX12_chapel_69 : decode cX12_chapel 69 = .ok (.getfield 54, 3) := by decide +kernel
theorem dX12_chapel_72 : decode cX12_chapel 72 = .ok (.getfield 294, 3) := by decide +kernel
theorem dX12_chapel_75 : decode cX12_chapel 75 = .ok (.if_icmp .eq 48, 3) := by decide +kernel
theorem dX12_chapel_78 : decode cX12_chapel 78 = .ok (.lload 4, 2) := by decide +kernel
theorem dX12_chapel_80 : decode cX12_chapel 80 = .ok (.iload 8, 2) := by decide +kernel
theorem dX12_chapel_82 : decode cX12_chapel 82 = .ok (.invokestatic 216, 3) := by decide +kernel
theorem dX12_chapel_85 : decode cX12_chapel 85 = .ok (.iconst 1, 1) := by decide +kernel
theorem dX12_chapel_86 : decode cX12_chapel 86 = .ok (.if_icmp .ne 37, 3) := by decide +kernel
theorem dX12_chapel_89 : decode cX12_chapel 89 = .ok (.aload_n 0, 1) := by decide +kernel
theorem dX12_chapel_90 : decode cX12_chapel 90 = .ok (.iload_n 1, 1) := by decide +kernel
theorem dX12_chapel_91 : decode cX12_chapel 91 = .ok (.lconst 1, 1) := by decide +kernel
theorem dX12_chapel_92 : decode cX12_chapel 92 = .ok (.iload 8, 2) := by decide +kernel
theorem dX12_chapel_94 : decode cX12_chapel 94 = .ok (.lshl, 1) := by decide +kernel
theorem dX12_chapel_95 : decode cX12_chapel 95 = .ok (.invokevirtual 307, 3) := by decide +kernel
theorem dX12_chapel_98 : decode cX12_chapel 98 = .ok (.aload_n 0, 1) := by decide +kernel
theorem dX12_chapel_99 : decode cX12_chapel 99 = .ok (.getfield 73, 3) := by decide +kernel
theorem dX12_chapel_102 : decode cX12_chapel 102 = .ok (.getfield 311, 3) := by decide +kernel
theorem dX12_chapel_105 : decode cX12_chapel 105 = .ok (.iload 7, 2) := by decide +kernel
theorem dX12_chapel_107 : decode cX12_chapel 107 = .ok (.if_icmp .ge 16, 3) := by decide +kernel
theorem dX12_chapel_110 : decode cX12_chapel 110 = .ok (.iload 8, 2) := by decide +kernel
theorem dX12_chapel_112 : decode cX12_chapel 112 = .ok (.istore 6, 2) := by decide +kernel
theorem dX12_chapel_114 : decode cX12_chapel 114 = .ok (.aload_n 0, 1) := by decide +kernel
theorem dX12_chapel_115 : decode cX12_chapel 115 = .ok (.getfield 73, 3) := by decide +kernel
theorem dX12_chapel_118 : decode cX12_chapel 118 = .ok (.getfield 311, 3) := by decide +kernel
theorem dX12_chapel_121 : decode cX12_chapel 121 = .ok (.istore 7, 2) := by decide +kernel
theorem dX12_chapel_123 : decode cX12_chapel 123 = .ok (.iinc 8 1, 3) := by decide +kernel
theorem dX12_chapel_126 : decode cX12_chapel 126 = .ok (.goto (-72), 3) := by decide +kernel
theorem dX12_chapel_129 : decode cX12_chapel 129 = .ok (.iload 6, 2) := by decide +kernel
theorem dX12_chapel_131 : decode cX12_chapel 131 = .ok (.iconst (-1), 1) := by decide +kernel
theorem dX12_chapel_132 : decode cX12_chapel 132 = .ok (.if_icmp .ne 5, 3) := by decide +kernel
theorem dX12_chapel_135 : decode cX12_chapel 135 = .ok (.iconst (-1), 1) := by decide +kernel
theorem dX12_chapel_136 : decode cX12_chapel 136 = .ok (.ireturn, 1) := by decide +kernel
theorem dX12_chapel_137 : decode cX12_chapel 137 = .ok (.iload_n 2, 1) := by decide +kernel
theorem dX12_chapel_138 : decode cX12_chapel 138 = .ok (.iconst 2, 1) := by decide +kernel
theorem dX12_chapel_139 : decode cX12_chapel 139 = .ok (.if_icmp .ne 10, 3) := by decide +kernel
theorem dX12_chapel_142 : decode cX12_chapel 142 = .ok (.iload_n 3, 1) := by decide +kernel
theorem dX12_chapel_143 : decode cX12_chapel 143 = .ok (.iload 7, 2) := by decide +kernel
theorem dX12_chapel_145 : decode cX12_chapel 145 = .ok (.isub, 1) := by decide +kernel
theorem dX12_chapel_146 : decode cX12_chapel 146 = .ok (.goto 10, 3) := by decide +kernel
theorem dX12_chapel_149 : decode cX12_chapel 149 = .ok (.aload_n 0, 1) := by decide +kernel
theorem dX12_chapel_150 : decode cX12_chapel 150 = .ok (.iload 6, 2) := by decide +kernel
theorem dX12_chapel_152 : decode cX12_chapel 152 = .ok (.iload_n 2, 1) := by decide +kernel
theorem dX12_chapel_153 : decode cX12_chapel 153 = .ok (.invokevirtual 278, 3) := by decide +kernel
theorem dX12_chapel_156 : decode cX12_chapel 156 = .ok (.ireturn, 1) := by decide +kernel
theorem dX12_first_0 : decode cX12_first 0 = .ok (.aload_n 0, 1) := by decide +kernel
theorem dX12_first_1 : decode cX12_first 1 = .ok (.getfield 54, 3) := by decide +kernel
theorem dX12_first_4 : decode cX12_first 4 = .ok (.iload_n 1, 1) := by decide +kernel
theorem dX12_first_5 : decode cX12_first 5 = .ok (.invokevirtual 198, 3) := by decide +kernel
theorem dX12_first_8 : decode cX12_first 8 = .ok (.ifCond .ne 5, 3) := by decide +kernel
theorem dX12_first_11 : decode cX12_first 11 = .ok (.iconst (-1), 1) := by decide +kernel
theorem dX12_first_12 : decode cX12_first 12 = .ok (.ireturn, 1) := by decide +kernel
theorem dX12_first_13 : decode cX12_first 13 = .ok (.aload_n 0, 1) := by decide +kernel
theorem dX12_first_14 : decode cX12_first 14 = .ok (.getfield 73, 3) := by decide +kernel
theorem dX12_first_17 : decode cX12_first 17 = .ok (.invokevirtual 323, 3) := by decide +kernel
theorem dX12_first_20 : decode cX12_first 20 = .ok (.aload_n 0, 1) := by decide +kernel
theorem dX12_first_21 : decode cX12_first 21 = .ok (.getfield 84, 3) := by decide +kernel
theorem dX12_first_24 : decode cX12_first 24 = .ok (.aload_n 0, 1) := by decide +kernel
theorem dX12_first_25 : decode cX12_first 25 = .ok (.getfield 80, 3) := by decide +kernel
theorem dX12_first_28 : decode cX12_first 28 = .ok (.invokevirtual 326, 3) := by decide +kernel
theorem dX12_first_31 : decode cX12_first 31 = .ok (.bipush 60, 2) := by decide +kernel
theorem dX12_first_33 : decode cX12_first 33 = .ok (.sipush 999, 3) := by decide +kernel
theorem dX12_first_36 : decode cX12_first 36 = .ok (.aload_n 0, 1) := by decide +kernel
theorem dX12_first_37 : decode cX12_first 37 = .ok (.getfield 80, 3) := by decide +kernel
theorem dX12_first_40 : decode cX12_first 40 = .ok (.getfield 175, 3) := by decide +kernel
theorem dX12_first_43 : decode cX12_first 43 = .ok (.isub, 1) := by decide +kernel
theorem dX12_first_44 : decode cX12_first 44 = .ok (.invokestatic 330, 3) := by decide +kernel
theorem dX12_first_47 : decode cX12_first 47 = .ok (.istore_n 2, 1) := by decide +kernel
theorem dX12_first_48 : decode cX12_first 48 = .ok (.iconst 1, 1) := by decide +kernel
theorem dX12_first_49 : decode cX12_first 49 = .ok (.istore_n 3, 1) := by decide +kernel
theorem dX12_first_50 : decode cX12_first 50 = .ok (.iload_n 3, 1) := by decide +kernel
theorem dX12_first_51 : decode cX12_first 51 = .ok (.iload_n 2, 1) := by decide +kernel
theorem dX12_first_52 : decode cX12_first 52 = .ok (.if_icmp .gt 42, 3) := by decide +kernel
theorem dX12_first_55 : decode cX12_first 55 = .ok (.aload_n 0, 1) := by decide +kernel
theorem dX12_first_56 : decode cX12_first 56 = .ok (.getfield 73, 3) := by decide +kernel
theorem dX12_first_59 : decode cX12_first 59 = .ok (.aload_n 0, 1) := by decide +kernel
theorem dX12_first_60 : decode cX12_first 60 = .ok (.getfield 54, 3) := by decide +kernel
theorem dX12_first_63 : decode cX12_first 63 = .ok (.aload_n 0, 1) := by decide +kernel
theorem dX12_first_64 : decode cX12_first 64 = .ok (.getfield 84, 3) := by decide +kernel
theorem dX12_first_67 : decode cX12_first 67 = .ok (.lconst 0, 1) := by decide +kernel
theorem dX12_first_68 : decode cX12_first 68 = .ok (.invokevirtual 335, 3) := by decide +kernel
theorem dX12_first_71 : decode cX12_first 71 = .ok (.aload_n 0, 1) := by decide +kernel
theorem dX12_first_72 : decode cX12_first 72 = .ok (.getfield 73, 3) := by decide +kernel
theorem dX12_first_75 : decode cX12_first 75 = .ok (.getfield 339, 3) := by decide +kernel
theorem dX12_first_78 : decode cX12_first 78 = .ok (.iload_n 1, 1) := by decide +kernel
theorem dX12_first_79 : decode cX12_first 79 = .ok (.ishr, 1) := by decide +kernel
theorem dX12_first_80 : decode cX12_first 80 = .ok (.iconst 1, 1) := by decide +kernel
theorem dX12_first_81 : decode cX12_first 81 = .ok (.iand, 1) := by decide +kernel
theorem dX12_first_82 : decode cX12_first 82 = .ok (.iconst 1, 1) := by decide +kernel
theorem dX12_first_83 : decode cX12_first 83 = .ok (.if_icmp .ne 5, 3) := by decide +kernel
theorem dX12_first_86 : decode cX12_first 86 = .ok (.iload_n 3, 1) := by decide +kernel
theorem dX12_first_87 : decode cX12_first 87 = .ok (.ireturn, 1) := by decide +kernel
theorem dX12_first_88 : decode cX12_first 88 = .ok (.iinc 3 1, 3) := by decide +kernel
theorem dX12_first_91 : decode cX12_first 91 = .ok (.goto (-41), 3) := by decide +kernel
theorem dX12_first_94 : decode cX12_first 94 = .ok (.iconst (-1), 1) := by decide +kernel
theorem dX12_first_95 : decode cX12_first 95 = .ok (.ireturn, 1) := by decide +kernel
theorem dX12_see_0 : decode cX12_see 0 = .ok (.aload_n 0, 1) := by decide +kernel
theorem dX12_see_1 : decode cX12_see 1 = .ok (.getfield 12, 3) := by decide +kernel
theorem dX12_see_4 : decode cX12_see 4 = .ok (.getfield 115, 3) := by decide +kernel
theorem dX12_see_7 : decode cX12_see 7 = .ok (.iconst 3, 1) := by decide +kernel
theorem dX12_see_8 : decode cX12_see 8 = .ok (.idiv, 1) := by decide +kernel
theorem dX12_see_9 : decode cX12_see 9 = .ok (.istore_n 1, 1) := by decide +kernel
theorem dX12_see_10 : decode cX12_see 10 = .ok (.aload_n 0, 1) := by decide +kernel
theorem dX12_see_11 : decode cX12_see 11 = .ok (.getfield 54, 3) := by decide +kernel
theorem dX12_see_14 : decode cX12_see 14 = .ok (.invokevirtual 271, 3) := by decide +kernel
theorem dX12_see_17 : decode cX12_see 17 = .ok (.ifCond .eq 31, 3) := by decide +kernel
theorem dX12_see_20 : decode cX12_see 20 = .ok (.iload_n 1, 1) := by decide +kernel
theorem dX12_see_21 : decode cX12_see 21 = .ok (.iconst 1, 1) := by decide +kernel
theorem dX12_see_22 : decode cX12_see 22 = .ok (.if_icmp .lt 26, 3) := by decide +kernel
theorem dX12_see_25 : decode cX12_see 25 = .ok (.iload_n 1, 1) := by decide +kernel
theorem dX12_see_26 : decode cX12_see 26 = .ok (.bipush 12, 2) := by decide +kernel
theorem dX12_see_28 : decode cX12_see 28 = .ok (.if_icmp .gt 20, 3) := by decide +kernel
theorem dX12_see_31 : decode cX12_see 31 = .ok (.iload_n 1, 1) := by decide +kernel
theorem dX12_see_32 : decode cX12_see 32 = .ok (.iconst 3, 1) := by decide +kernel
theorem dX12_see_33 : decode cX12_see 33 = .ok (.imul, 1) := by decide +kernel
theorem dX12_see_34 : decode cX12_see 34 = .ok (.aload_n 0, 1) := by decide +kernel
theorem dX12_see_35 : decode cX12_see 35 = .ok (.getfield 12, 3) := by decide +kernel
theorem dX12_see_38 : decode cX12_see 38 = .ok (.getfield 115, 3) := by decide +kernel
theorem dX12_see_41 : decode cX12_see 41 = .ok (.if_icmp .ne 7, 3) := by decide +kernel
theorem dX12_see_44 : decode cX12_see 44 = .ok (.iconst 1, 1) := by decide +kernel
theorem dX12_see_45 : decode cX12_see 45 = .ok (.goto 4, 3) := by decide +kernel
theorem dX12_see_48 : decode cX12_see 48 = .ok (.iconst 0, 1) := by decide +kernel
theorem dX12_see_49 : decode cX12_see 49 = .ok (.istore_n 2, 1) := by decide +kernel
theorem dX12_see_50 : decode cX12_see 50 = .ok (.iconst 0, 1) := by decide +kernel
theorem dX12_see_51 : decode cX12_see 51 = .ok (.istore_n 3, 1) := by decide +kernel
theorem dX12_see_52 : decode cX12_see 52 = .ok (.iload_n 3, 1) := by decide +kernel
theorem dX12_see_53 : decode cX12_see 53 = .ok (.iload_n 1, 1) := by decide +kernel
theorem dX12_see_54 : decode cX12_see 54 = .ok (.if_icmp .ge 68, 3) := by decide +kernel
theorem dX12_see_57 : decode cX12_see 57 = .ok (.iload_n 2, 1) := by decide +kernel
theorem dX12_see_58 : decode cX12_see 58 = .ok (.ifCond .eq 64, 3) := by decide +kernel
theorem dX12_see_61 : decode cX12_see 61 = .ok (.aload_n 0, 1) := by decide +kernel
theorem dX12_see_62 : decode cX12_see 62 = .ok (.getfield 12, 3) := by decide +kernel
theorem dX12_see_65 : decode cX12_see 65 = .ok (.iload_n 3, 1) := by decide +kernel
theorem dX12_see_66 : decode cX12_see 66 = .ok (.iconst 3, 1) := by decide +kernel
theorem dX12_see_67 : decode cX12_see 67 = .ok (.imul, 1) := by decide +kernel
theorem dX12_see_68 : decode cX12_see 68 = .ok (.invokevirtual 342, 3) := by decide +kernel
theorem dX12_see_71 : decode cX12_see 71 = .ok (.bipush 12, 2) := by decide +kernel
theorem dX12_see_73 : decode cX12_see 73 = .ok (.if_icmp .ge 41, 3) := by decide +kernel
theorem dX12_see_76 : decode cX12_see 76 = .ok (.aload_n 0, 1) := by decide +kernel
theorem dX12_see_77 : decode cX12_see 77 = .ok (.getfield 54, 3) := by decide +kernel
theorem dX12_see_80 : decode cX12_see 80 = .ok (.aload_n 0, 1) := by decide +kernel
theorem dX12_see_81 : decode cX12_see 81 = .ok (.getfield 12, 3) := by decide +kernel
theorem dX12_see_84 : decode cX12_see 84 = .ok (.iload_n 3, 1) := by decide +kernel
theorem dX12_see_85 : decode cX12_see 85 = .ok (.iconst 3, 1) := by decide +kernel
theorem dX12_see_86 : decode cX12_see 86 = .ok (.imul, 1) := by decide +kernel
theorem dX12_see_87 : decode cX12_see 87 = .ok (.iconst 1, 1) := by decide +kernel
theorem dX12_see_88 : decode cX12_see 88 = .ok (.iadd, 1) := by decide +kernel
theorem dX12_see_89 : decode cX12_see 89 = .ok (.invokevirtual 342, 3) := by decide +kernel
theorem dX12_see_92 : decode cX12_see 92 = .ok (.aload_n 0, 1) := by decide +kernel
theorem dX12_see_93 : decode cX12_see 93 = .ok (.getfield 12, 3) := by decide +kernel
theorem dX12_see_96 : decode cX12_see 96 = .ok (.iload_n 3, 1) := by decide +kernel
theorem dX12_see_97 : decode cX12_see 97 = .ok (.iconst 3, 1) := by decide +kernel
theorem dX12_see_98 : decode cX12_see 98 = .ok (.imul, 1) := by decide +kernel
theorem dX12_see_99 : decode cX12_see 99 = .ok (.iconst 2, 1) := by decide +kernel
theorem dX12_see_100 : decode cX12_see 100 = .ok (.iadd, 1) := by decide +kernel
theorem dX12_see_101 : decode cX12_see 101 = .ok (.invokevirtual 342, 3) := by decide +kernel
theorem dX12_see_104 : decode cX12_see 104 = .ok (.invokevirtual 209, 3) := by decide +kernel
theorem dX12_see_107 : decode cX12_see 107 = .ok (.ifCond .eq 7, 3) := by decide +kernel
theorem dX12_see_110 : decode cX12_see 110 = .ok (.iconst 1, 1) := by decide +kernel
theorem dX12_see_111 : decode cX12_see 111 = .ok (.goto 4, 3) := by decide +kernel
theorem dX12_see_114 : decode cX12_see 114 = .ok (.iconst 0, 1) := by decide +kernel
theorem dX12_see_115 : decode cX12_see 115 = .ok (.istore_n 2, 1) := by decide +kernel
theorem dX12_see_116 : decode cX12_see 116 = .ok (.iinc 3 1, 3) := by decide +kernel
theorem dX12_see_119 : decode cX12_see 119 = .ok (.goto (-67), 3) := by decide +kernel
theorem dX12_see_122 : decode cX12_see 122 = .ok (.iload_n 2, 1) := by decide +kernel
theorem dX12_see_123 : decode cX12_see 123 = .ok (.ifCond .eq 8, 3) := by decide +kernel
theorem dX12_see_126 : decode cX12_see 126 = .ok (.aload_n 0, 1) := by decide +kernel
theorem dX12_see_127 : decode cX12_see 127 = .ok (.iload_n 1, 1) := by decide +kernel
theorem dX12_see_128 : decode cX12_see 128 = .ok (.invokevirtual 345, 3) := by decide +kernel
theorem dX12_see_131 : decode cX12_see 131 = .ok (.aload_n 0, 1) := by decide +kernel
theorem dX12_see_132 : decode cX12_see 132 = .ok (.getfield 12, 3) := by decide +kernel
theorem dX12_see_135 : decode cX12_see 135 = .ok (.iconst 0, 1) := by decide +kernel
theorem dX12_see_136 : decode cX12_see 136 = .ok (.putfield 115, 3) := by decide +kernel
theorem dX12_see_139 : decode cX12_see 139 = .ok (.iload_n 2, 1) := by decide +kernel
theorem dX12_see_140 : decode cX12_see 140 = .ok (.ifCond .eq 7, 3) := by decide +kernel
theorem dX12_see_143 : decode cX12_see 143 = .ok (.iload_n 1, 1) := by decide +kernel
theorem dX12_see_144 : decode cX12_see 144 = .ok (.goto 8, 3) := by decide +kernel
theorem dX12_see_147 : decode cX12_see 147 = .ok (.aload_n 0, 1) := by decide +kernel
theorem dX12_see_148 : decode cX12_see 148 = .ok (.iconst 1, 1) := by decide +kernel
theorem dX12_see_149 : decode cX12_see 149 = .ok (.invokevirtual 118, 3) := by decide +kernel
theorem dX12_see_152 : decode cX12_see 152 = .ok (.ireturn, 1) := by decide +kernel
theorem dX12_began_0 : decode cX12_began 0 = .ok (.aload_n 0, 1) := by decide +kernel
theorem dX12_began_1 : decode cX12_began 1 = .ok (.getfield 54, 3) := by decide +kernel
theorem dX12_began_4 : decode cX12_began 4 = .ok (.invokevirtual 271, 3) := by decide +kernel
theorem dX12_began_7 : decode cX12_began 7 = .ok (.ifCond .ne 5, 3) := by decide +kernel
theorem dX12_began_10 : decode cX12_began 10 = .ok (.iconst (-1), 1) := by decide +kernel
theorem dX12_began_11 : decode cX12_began 11 = .ok (.ireturn, 1) := by decide +kernel
theorem dX12_began_12 : decode cX12_began 12 = .ok (.iconst 0, 1) := by decide +kernel
theorem dX12_began_13 : decode cX12_began 13 = .ok (.istore_n 2, 1) := by decide +kernel
theorem dX12_began_14 : decode cX12_began 14 = .ok (.iconst (-1), 1) := by decide +kernel
theorem dX12_began_15 : decode cX12_began 15 = .ok (.istore_n 3, 1) := by decide +kernel
theorem dX12_began_16 : decode cX12_began 16 = .ok (.iconst (-1), 1) := by decide +kernel
theorem dX12_began_17 : decode cX12_began 17 = .ok (.istore 4, 2) := by decide +kernel
theorem dX12_began_19 : decode cX12_began 19 = .ok (.iconst 0, 1) := by decide +kernel
theorem dX12_began_20 : decode cX12_began 20 = .ok (.istore 5, 2) := by decide +kernel
theorem dX12_began_22 : decode cX12_began 22 = .ok (.iload 5, 2) := by decide +kernel
theorem dX12_began_24 : decode cX12_began 24 = .ok (.aload_n 0, 1) := by decide +kernel
theorem dX12_began_25 : decode cX12_began 25 = .ok (.getfield 54, 3) := by decide +kernel
theorem dX12_began_28 : decode cX12_began 28 = .ok (.invokevirtual 320, 3) := by decide +kernel
theorem dX12_began_31 : decode cX12_began 31 = .ok (.if_icmp .ge 37, 3) := by decide +kernel
theorem dX12_began_34 : decode cX12_began 34 = .ok (.aload_n 0, 1) := by decide +kernel
theorem dX12_began_35 : decode cX12_began 35 = .ok (.iload 5, 2) := by decide +kernel
theorem dX12_began_37 : decode cX12_began 37 = .ok (.invokevirtual 348, 3) := by decide +kernel
theorem dX12_began_40 : decode cX12_began 40 = .ok (.ifCond .eq 22, 3) := by decide +kernel
theorem dX12_began_43 : decode cX12_began 43 = .ok (.iinc 2 1, 3) := by decide +kernel
theorem dX12_began_46 : decode cX12_began 46 = .ok (.iload_n 3, 1) := by decide +kernel
theorem dX12_began_47 : decode cX12_began 47 = .ok (.iconst (-1), 1) := by decide +kernel
theorem dX12_began_48 : decode cX12_began 48 = .ok (.if_icmp .ne 8, 3) := by decide +kernel
theorem dX12_began_51 : decode cX12_began 51 = .ok (.iload 5, 2) := by decide +kernel
theorem dX12_began_53 : decode cX12_began 53 = .ok (.goto 4, 3) := by decide +kernel
theorem dX12_began_56 : decode cX12_began 56 = .ok (.iload_n 3, 1) := by decide +kernel
theorem dX12_began_57 : decode cX12_began 57 = .ok (.istore_n 3, 1) := by decide +kernel
theorem dX12_began_58 : decode cX12_began 58 = .ok (.iload 5, 2) := by decide +kernel
theorem dX12_began_60 : decode cX12_began 60 = .ok (.istore 4, 2) := by decide +kernel
theorem dX12_began_62 : decode cX12_began 62 = .ok (.iinc 5 1, 3) := by decide +kernel
theorem dX12_began_65 : decode cX12_began 65 = .ok (.goto (-43), 3) := by decide +kernel
theorem dX12_began_68 : decode cX12_began 68 = .ok (.iload_n 1, 1) := by decide +kernel
theorem dX12_began_69 : decode cX12_began 69 = .ok (.tableswitch 34 0 2 #[27, 29, 31], 27) := by decide +kernel
theorem dX12_began_96 : decode cX12_began 96 = .ok (.iload_n 2, 1) := by decide +kernel
theorem dX12_began_97 : decode cX12_began 97 = .ok (.ireturn, 1) := by decide +kernel
theorem dX12_began_98 : decode cX12_began 98 = .ok (.iload_n 3, 1) := by decide +kernel
theorem dX12_began_99 : decode cX12_began 99 = .ok (.ireturn, 1) := by decide +kernel
theorem dX12_began_100 : decode cX12_began 100 = .ok (.iload 4, 2) := by decide +kernel
theorem dX12_began_102 : decode cX12_began 102 = .ok (.ireturn, 1) := by decide +kernel
theorem dX12_began_103 : decode cX12_began 103 = .ok (.iconst (-1), 1) := by decide +kernel
theorem dX12_began_104 : decode cX12_began 104 = .ok (.ireturn, 1) := by decide +kernel
theorem dX12_tells_0 : decode cX12_tells 0 = .ok (.aload_n 0, 1) := by decide +kernel
theorem dX12_tells_1 : decode cX12_tells 1 = .ok (.getfield 54, 3) := by decide +kernel
theorem dX12_tells_4 : decode cX12_tells 4 = .ok (.invokevirtual 271, 3) := by decide +kernel
theorem dX12_tells_7 : decode cX12_tells 7 = .ok (.ifCond .eq 12, 3) := by decide +kernel
theorem dX12_tells_10 : decode cX12_tells 10 = .ok (.iload_n 1, 1) := by decide +kernel
theorem dX12_tells_11 : decode cX12_tells 11 = .ok (.ifCond .eq 10, 3) := by decide +kernel
theorem dX12_tells_14 : decode cX12_tells 14 = .ok (.iload_n 1, 1) := by decide +kernel
theorem dX12_tells_15 : decode cX12_tells 15 = .ok (.iconst 1, 1) := by decide +kernel
theorem dX12_tells_16 : decode cX12_tells 16 = .ok (.if_icmp .eq 5, 3) := by decide +kernel
theorem dX12_tells_19 : decode cX12_tells 19 = .ok (.iconst (-1), 1) := by decide +kernel
theorem dX12_tells_20 : decode cX12_tells 20 = .ok (.ireturn, 1) := by decide +kernel
theorem dX12_tells_21 : decode cX12_tells 21 = .ok (.iconst (-1), 1) := by decide +kernel
theorem dX12_tells_22 : decode cX12_tells 22 = .ok (.istore_n 2, 1) := by decide +kernel
theorem dX12_tells_23 : decode cX12_tells 23 = .ok (.aload_n 0, 1) := by decide +kernel
theorem dX12_tells_24 : decode cX12_tells 24 = .ok (.getfield 54, 3) := by decide +kernel
theorem dX12_tells_27 : decode cX12_tells 27 = .ok (.invokevirtual 320, 3) := by decide +kernel
theorem dX12_tells_30 : decode cX12_tells 30 = .ok (.iconst 1, 1) := by decide +kernel
theorem dX12_tells_31 : decode cX12_tells 31 = .ok (.iadd, 1) := by decide +kernel
theorem dX12_tells_32 : decode cX12_tells 32 = .ok (.istore_n 3, 1) := by decide +kernel
theorem dX12_tells_33 : decode cX12_tells 33 = .ok (.iconst 0, 1) := by decide +kernel
theorem dX12_tells_34 : decode cX12_tells 34 = .ok (.istore 4, 2) := by decide +kernel
theorem dX12_tells_36 : decode cX12_tells 36 = .ok (.iload 4, 2) := by decide +kernel
theorem dX12_tells_38 : decode cX12_tells 38 = .ok (.bipush 12, 2) := by decide +kernel
theorem dX12_tells_40 : decode cX12_tells 40 = .ok (.if_icmp .ge 39, 3) := by decide +kernel
theorem dX12_tells_43 : decode cX12_tells 43 = .ok (.iload_n 3, 1) := by decide +kernel
theorem dX12_tells_44 : decode cX12_tells 44 = .ok (.iconst 1, 1) := by decide +kernel
theorem dX12_tells_45 : decode cX12_tells 45 = .ok (.if_icmp .le 34, 3) := by decide +kernel
theorem dX12_tells_48 : decode cX12_tells 48 = .ok (.aload_n 0, 1) := by decide +kernel
theorem dX12_tells_49 : decode cX12_tells 49 = .ok (.iload 4, 2) := by decide +kernel
theorem dX12_tells_51 : decode cX12_tells 51 = .ok (.invokevirtual 351, 3) := by decide +kernel
theorem dX12_tells_54 : decode cX12_tells 54 = .ok (.istore 5, 2) := by decide +kernel
theorem dX12_tells_56 : decode cX12_tells 56 = .ok (.iload 5, 2) := by decide +kernel
theorem dX12_tells_58 : decode cX12_tells 58 = .ok (.ifCond .le 15, 3) := by decide +kernel
theorem dX12_tells_61 : decode cX12_tells 61 = .ok (.iload 5, 2) := by decide +kernel
theorem dX12_tells_63 : decode cX12_tells 63 = .ok (.iload_n 3, 1) := by decide +kernel
theorem dX12_tells_64 : decode cX12_tells 64 = .ok (.if_icmp .ge 9, 3) := by decide +kernel
theorem dX12_tells_67 : decode cX12_tells 67 = .ok (.iload 4, 2) := by decide +kernel
theorem dX12_tells_69 : decode cX12_tells 69 = .ok (.istore_n 2, 1) := by decide +kernel
theorem dX12_tells_70 : decode cX12_tells 70 = .ok (.iload 5, 2) := by decide +kernel
theorem dX12_tells_72 : decode cX12_tells 72 = .ok (.istore_n 3, 1) := by decide +kernel
theorem dX12_tells_73 : decode cX12_tells 73 = .ok (.iinc 4 1, 3) := by decide +kernel
theorem dX12_tells_76 : decode cX12_tells 76 = .ok (.goto (-40), 3) := by decide +kernel
theorem dX12_tells_79 : decode cX12_tells 79 = .ok (.iload_n 1, 1) := by decide +kernel
theorem dX12_tells_80 : decode cX12_tells 80 = .ok (.ifCond .eq 8, 3) := by decide +kernel
theorem dX12_tells_83 : decode cX12_tells 83 = .ok (.iload_n 2, 1) := by decide +kernel
theorem dX12_tells_84 : decode cX12_tells 84 = .ok (.iconst (-1), 1) := by decide +kernel
theorem dX12_tells_85 : decode cX12_tells 85 = .ok (.if_icmp .ne 7, 3) := by decide +kernel
theorem dX12_tells_88 : decode cX12_tells 88 = .ok (.iload_n 2, 1) := by decide +kernel
theorem dX12_tells_89 : decode cX12_tells 89 = .ok (.goto 4, 3) := by decide +kernel
theorem dX12_tells_92 : decode cX12_tells 92 = .ok (.iload_n 3, 1) := by decide +kernel
theorem dX12_tells_93 : decode cX12_tells 93 = .ok (.ireturn, 1) := by decide +kernel
theorem dX12_ring_0 : decode cX12_ring 0 = .ok (.aload_n 0, 1) := by decide +kernel
theorem dX12_ring_1 : decode cX12_ring 1 = .ok (.getfield 54, 3) := by decide +kernel
theorem dX12_ring_4 : decode cX12_ring 4 = .ok (.iload_n 1, 1) := by decide +kernel
theorem dX12_ring_5 : decode cX12_ring 5 = .ok (.invokevirtual 195, 3) := by decide +kernel
theorem dX12_ring_8 : decode cX12_ring 8 = .ok (.ifCond .eq 31, 3) := by decide +kernel
theorem dX12_ring_11 : decode cX12_ring 11 = .ok (.iload_n 2, 1) := by decide +kernel
theorem dX12_ring_12 : decode cX12_ring 12 = .ok (.ifCond .eq 8, 3) := by decide +kernel
theorem dX12_ring_15 : decode cX12_ring 15 = .ok (.iload_n 2, 1) := by decide +kernel
theorem dX12_ring_16 : decode cX12_ring 16 = .ok (.iconst 1, 1) := by decide +kernel
theorem dX12_ring_17 : decode cX12_ring 17 = .ok (.if_icmp .ne 22, 3) := by decide +kernel
theorem dX12_ring_20 : decode cX12_ring 20 = .ok (.aload_n 0, 1) := by decide +kernel
theorem dX12_ring_21 : decode cX12_ring 21 = .ok (.getfield 80, 3) := by decide +kernel
theorem dX12_ring_24 : decode cX12_ring 24 = .ok (.getfield 178, 3) := by decide +kernel
theorem dX12_ring_27 : decode cX12_ring 27 = .ok (.iload_n 1, 1) := by decide +kernel
theorem dX12_ring_28 : decode cX12_ring 28 = .ok (.ishr, 1) := by decide +kernel
theorem dX12_ring_29 : decode cX12_ring 29 = .ok (.iconst 1, 1) := by decide +kernel
theorem dX12_ring_30 : decode cX12_ring 30 = .ok (.iand, 1) := by decide +kernel
theorem dX12_ring_31 : decode cX12_ring 31 = .ok (.iload_n 2, 1) := by decide +kernel
theorem dX12_ring_32 : decode cX12_ring 32 = .ok (.if_icmp .eq 7, 3) := by decide +kernel
theorem dX12_ring_35 : decode cX12_ring 35 = .ok (.iconst 1, 1) := by decide +kernel
theorem dX12_ring_36 : decode cX12_ring 36 = .ok (.goto 4, 3) := by decide +kernel
theorem dX12_ring_39 : decode cX12_ring 39 = .ok (.iconst 0, 1) := by decide +kernel
theorem dX12_ring_40 : decode cX12_ring 40 = .ok (.istore_n 3, 1) := by decide +kernel
theorem dX12_ring_41 : decode cX12_ring 41 = .ok (.iload_n 3, 1) := by decide +kernel
theorem dX12_ring_42 : decode cX12_ring 42 = .ok (.ifCond .ne 9, 3) := by decide +kernel
theorem dX12_ring_45 : decode cX12_ring 45 = .ok (.aload_n 0, 1) := by decide +kernel
theorem dX12_ring_46 : decode cX12_ring 46 = .ok (.iconst 2, 1) := by decide +kernel
theorem dX12_ring_47 : decode cX12_ring 47 = .ok (.invokevirtual 126, 3) := by decide +kernel
theorem dX12_ring_50 : decode cX12_ring 50 = .ok (.ireturn, 1) := by decide +kernel
theorem dX12_ring_51 : decode cX12_ring 51 = .ok (.aload_n 0, 1) := by decide +kernel
theorem dX12_ring_52 : decode cX12_ring 52 = .ok (.getfield 90, 3) := by decide +kernel
theorem dX12_ring_55 : decode cX12_ring 55 = .ok (.aload_n 0, 1) := by decide +kernel
theorem dX12_ring_56 : decode cX12_ring 56 = .ok (.getfield 80, 3) := by decide +kernel
theorem dX12_ring_59 : decode cX12_ring 59 = .ok (.invokevirtual 354, 3) := by decide +kernel
theorem dX12_ring_62 : decode cX12_ring 62 = .ok (.aload_n 0, 1) := by decide +kernel
theorem dX12_ring_63 : decode cX12_ring 63 = .ok (.getfield 80, 3) := by decide +kernel
theorem dX12_ring_66 : decode cX12_ring 66 = .ok (.dup, 1) := by decide +kernel
theorem dX12_ring_67 : decode cX12_ring 67 = .ok (.getfield 178, 3) := by decide +kernel
theorem dX12_ring_70 : decode cX12_ring 70 = .ok (.iconst 1, 1) := by decide +kernel
theorem dX12_ring_71 : decode cX12_ring 71 = .ok (.iload_n 1, 1) := by decide +kernel
theorem dX12_ring_72 : decode cX12_ring 72 = .ok (.ishl, 1) := by decide +kernel
theorem dX12_ring_73 : decode cX12_ring 73 = .ok (.ixor, 1) := by decide +kernel
theorem dX12_ring_74 : decode cX12_ring 74 = .ok (.putfield 178, 3) := by decide +kernel
theorem dX12_ring_77 : decode cX12_ring 77 = .ok (.iconst 1, 1) := by decide +kernel
theorem dX12_ring_78 : decode cX12_ring 78 = .ok (.ireturn, 1) := by decide +kernel
theorem dX12_does_0 : decode cX12_does 0 = .ok (.aload_n 0, 1) := by decide +kernel
theorem dX12_does_1 : decode cX12_does 1 = .ok (.getfield 54, 3) := by decide +kernel
theorem dX12_does_4 : decode cX12_does 4 = .ok (.iload_n 1, 1) := by decide +kernel
theorem dX12_does_5 : decode cX12_does 5 = .ok (.invokevirtual 198, 3) := by decide +kernel
theorem dX12_does_8 : decode cX12_does 8 = .ok (.ifCond .eq 29, 3) := by decide +kernel
theorem dX12_does_11 : decode cX12_does 11 = .ok (.iload_n 2, 1) := by decide +kernel
theorem dX12_does_12 : decode cX12_does 12 = .ok (.ifCond .lt 25, 3) := by decide +kernel
theorem dX12_does_15 : decode cX12_does 15 = .ok (.iload_n 2, 1) := by decide +kernel
theorem dX12_does_16 : decode cX12_does 16 = .ok (.iconst 3, 1) := by decide +kernel
theorem dX12_does_17 : decode cX12_does 17 = .ok (.if_icmp .gt 20, 3) := by decide +kernel
theorem dX12_does_20 : decode cX12_does 20 = .ok (.aload_n 0, 1) := by decide +kernel
theorem dX12_does_21 : decode cX12_does 21 = .ok (.getfield 80, 3) := by decide +kernel
theorem dX12_does_24 : decode cX12_does 24 = .ok (.getfield 256, 3) := by decide +kernel
theorem dX12_does_27 : decode cX12_does 27 = .ok (.iload_n 1, 1) := by decide +kernel
theorem dX12_does_28 : decode cX12_does 28 = .ok (.iaload, 1) := by decide +kernel
theorem dX12_does_29 : decode cX12_does 29 = .ok (.iload_n 2, 1) := by decide +kernel
theorem dX12_does_30 : decode cX12_does 30 = .ok (.if_icmp .eq 7, 3) := by decide +kernel
theorem dX12_does_33 : decode cX12_does 33 = .ok (.iconst 1, 1) := by decide +kernel
theorem dX12_does_34 : decode cX12_does 34 = .ok (.goto 4, 3) := by decide +kernel
theorem dX12_does_37 : decode cX12_does 37 = .ok (.iconst 0, 1) := by decide +kernel
theorem dX12_does_38 : decode cX12_does 38 = .ok (.istore_n 3, 1) := by decide +kernel
theorem dX12_does_39 : decode cX12_does 39 = .ok (.iload_n 3, 1) := by decide +kernel
theorem dX12_does_40 : decode cX12_does 40 = .ok (.ifCond .ne 9, 3) := by decide +kernel
theorem dX12_does_43 : decode cX12_does 43 = .ok (.aload_n 0, 1) := by decide +kernel
theorem dX12_does_44 : decode cX12_does 44 = .ok (.iconst 2, 1) := by decide +kernel
theorem dX12_does_45 : decode cX12_does 45 = .ok (.invokevirtual 126, 3) := by decide +kernel
theorem dX12_does_48 : decode cX12_does 48 = .ok (.ireturn, 1) := by decide +kernel
theorem dX12_does_49 : decode cX12_does 49 = .ok (.aload_n 0, 1) := by decide +kernel
theorem dX12_does_50 : decode cX12_does 50 = .ok (.getfield 90, 3) := by decide +kernel
theorem dX12_does_53 : decode cX12_does 53 = .ok (.aload_n 0, 1) := by decide +kernel
theorem dX12_does_54 : decode cX12_does 54 = .ok (.getfield 80, 3) := by decide +kernel
theorem dX12_does_57 : decode cX12_does 57 = .ok (.invokevirtual 354, 3) := by decide +kernel
theorem dX12_does_60 : decode cX12_does 60 = .ok (.aload_n 0, 1) := by decide +kernel
theorem dX12_does_61 : decode cX12_does 61 = .ok (.getfield 80, 3) := by decide +kernel
theorem dX12_does_64 : decode cX12_does 64 = .ok (.getfield 256, 3) := by decide +kernel
theorem dX12_does_67 : decode cX12_does 67 = .ok (.iload_n 1, 1) := by decide +kernel
theorem dX12_does_68 : decode cX12_does 68 = .ok (.iload_n 2, 1) := by decide +kernel
theorem dX12_does_69 : decode cX12_does 69 = .ok (.iastore, 1) := by decide +kernel
theorem dX12_does_70 : decode cX12_does 70 = .ok (.iconst 1, 1) := by decide +kernel
theorem dX12_does_71 : decode cX12_does 71 = .ok (.ireturn, 1) := by decide +kernel
theorem dX12_nights_0 : decode cX12_nights 0 = .ok (.aload_n 0, 1) := by decide +kernel
theorem dX12_nights_1 : decode cX12_nights 1 = .ok (.iload_n 1, 1) := by decide +kernel
theorem dX12_nights_2 : decode cX12_nights 2 = .ok (.iconst 1, 1) := by decide +kernel
theorem dX12_nights_3 : decode cX12_nights 3 = .ok (.bipush 100, 2) := by decide +kernel
theorem dX12_nights_5 : decode cX12_nights 5 = .ok (.invokevirtual 303, 3) := by decide +kernel
theorem dX12_nights_8 : decode cX12_nights 8 = .ok (.ifCond .ne 9, 3) := by decide +kernel
theorem dX12_nights_11 : decode cX12_nights 11 = .ok (.aload_n 0, 1) := by decide +kernel
theorem dX12_nights_12 : decode cX12_nights 12 = .ok (.iconst 3, 1) := by decide +kernel
theorem dX12_nights_13 : decode cX12_nights 13 = .ok (.invokevirtual 118, 3) := by decide +kernel
theorem dX12_nights_16 : decode cX12_nights 16 = .ok (.ireturn, 1) := by decide +kernel
theorem dX12_nights_17 : decode cX12_nights 17 = .ok (.aload_n 0, 1) := by decide +kernel
theorem dX12_nights_18 : decode cX12_nights 18 = .ok (.getfield 90, 3) := by decide +kernel
theorem dX12_nights_21 : decode cX12_nights 21 = .ok (.aload_n 0, 1) := by decide +kernel
theorem dX12_nights_22 : decode cX12_nights 22 = .ok (.getfield 80, 3) := by decide +kernel
theorem dX12_nights_25 : decode cX12_nights 25 = .ok (.invokevirtual 354, 3) := by decide +kernel
theorem dX12_nights_28 : decode cX12_nights 28 = .ok (.aload_n 0, 1) := by decide +kernel
theorem dX12_nights_29 : decode cX12_nights 29 = .ok (.getfield 73, 3) := by decide +kernel
theorem dX12_nights_32 : decode cX12_nights 32 = .ok (.invokevirtual 323, 3) := by decide +kernel
theorem dX12_nights_35 : decode cX12_nights 35 = .ok (.iconst 0, 1) := by decide +kernel
theorem dX12_nights_36 : decode cX12_nights 36 = .ok (.istore_n 2, 1) := by decide +kernel
theorem dX12_nights_37 : decode cX12_nights 37 = .ok (.iload_n 2, 1) := by decide +kernel
theorem dX12_nights_38 : decode cX12_nights 38 = .ok (.iload_n 1, 1) := by decide +kernel
theorem dX12_nights_39 : decode cX12_nights 39 = .ok (.if_icmp .ge 25, 3) := by decide +kernel
theorem dX12_nights_42 : decode cX12_nights 42 = .ok (.aload_n 0, 1) := by decide +kernel
theorem dX12_nights_43 : decode cX12_nights 43 = .ok (.getfield 73, 3) := by decide +kernel
theorem dX12_nights_46 : decode cX12_nights 46 = .ok (.aload_n 0, 1) := by decide +kernel
theorem dX12_nights_47 : decode cX12_nights 47 = .ok (.getfield 54, 3) := by decide +kernel
theorem dX12_nights_50 : decode cX12_nights 50 = .ok (.aload_n 0, 1) := by decide +kernel
theorem dX12_nights_51 : decode cX12_nights 51 = .ok (.getfield 80, 3) := by decide +kernel
theorem dX12_nights_54 : decode cX12_nights 54 = .ok (.lconst 0, 1) := by decide +kernel
theorem dX12_nights_55 : decode cX12_nights 55 = .ok (.invokevirtual 335, 3) := by decide +kernel
theorem dX12_nights_58 : decode cX12_nights 58 = .ok (.iinc 2 1, 3) := by decide +kernel
theorem dX12_nights_61 : decode cX12_nights 61 = .ok (.goto (-24), 3) := by decide +kernel
theorem dX12_nights_64 : decode cX12_nights 64 = .ok (.aload_n 0, 1) := by decide +kernel
theorem dX12_nights_65 : decode cX12_nights 65 = .ok (.getfield 73, 3) := by decide +kernel
theorem dX12_nights_68 : decode cX12_nights 68 = .ok (.getfield 311, 3) := by decide +kernel
theorem dX12_nights_71 : decode cX12_nights 71 = .ok (.ireturn, 1) := by decide +kernel
theorem dX12_chance_0 : decode cX12_chance 0 = .ok (.aload_n 0, 1) := by decide +kernel
theorem dX12_chance_1 : decode cX12_chance 1 = .ok (.iload_n 1, 1) := by decide +kernel
theorem dX12_chance_2 : decode cX12_chance 2 = .ok (.iconst 1, 1) := by decide +kernel
theorem dX12_chance_3 : decode cX12_chance 3 = .ok (.bipush 100, 2) := by decide +kernel
theorem dX12_chance_5 : decode cX12_chance 5 = .ok (.invokevirtual 303, 3) := by decide +kernel
theorem dX12_chance_8 : decode cX12_chance 8 = .ok (.ifCond .ne 9, 3) := by decide +kernel
theorem dX12_chance_11 : decode cX12_chance 11 = .ok (.aload_n 0, 1) := by decide +kernel
theorem dX12_chance_12 : decode cX12_chance 12 = .ok (.iconst 3, 1) := by decide +kernel
theorem dX12_chance_13 : decode cX12_chance 13 = .ok (.invokevirtual 118, 3) := by decide +kernel
theorem dX12_chance_16 : decode cX12_chance 16 = .ok (.ireturn, 1) := by decide +kernel
theorem dX12_chance_17 : decode cX12_chance 17 = .ok (.aload_n 0, 1) := by decide +kernel
theorem dX12_chance_18 : decode cX12_chance 18 = .ok (.getfield 90, 3) := by decide +kernel
theorem dX12_chance_21 : decode cX12_chance 21 = .ok (.aload_n 0, 1) := by decide +kernel
theorem dX12_chance_22 : decode cX12_chance 22 = .ok (.getfield 80, 3) := by decide +kernel
theorem dX12_chance_25 : decode cX12_chance 25 = .ok (.invokevirtual 354, 3) := by decide +kernel
theorem dX12_chance_28 : decode cX12_chance 28 = .ok (.aload_n 0, 1) := by decide +kernel
theorem dX12_chance_29 : decode cX12_chance 29 = .ok (.getfield 73, 3) := by decide +kernel
theorem dX12_chance_32 : decode cX12_chance 32 = .ok (.invokevirtual 323, 3) := by decide +kernel
theorem dX12_chance_35 : decode cX12_chance 35 = .ok (.iconst 0, 1) := by decide +kernel
theorem dX12_chance_36 : decode cX12_chance 36 = .ok (.istore_n 2, 1) := by decide +kernel
theorem dX12_chance_37 : decode cX12_chance 37 = .ok (.iconst 0, 1) := by decide +kernel
theorem dX12_chance_38 : decode cX12_chance 38 = .ok (.istore_n 3, 1) := by decide +kernel
theorem dX12_chance_39 : decode cX12_chance 39 = .ok (.iload_n 3, 1) := by decide +kernel
theorem dX12_chance_40 : decode cX12_chance 40 = .ok (.iload_n 1, 1) := by decide +kernel
theorem dX12_chance_41 : decode cX12_chance 41 = .ok (.if_icmp .ge 56, 3) := by decide +kernel
theorem dX12_chance_44 : decode cX12_chance 44 = .ok (.aload_n 0, 1) := by decide +kernel
theorem dX12_chance_45 : decode cX12_chance 45 = .ok (.invokevirtual 357, 3) := by decide +kernel
theorem dX12_chance_48 : decode cX12_chance 48 = .ok (.aload_n 0, 1) := by decide +kernel
theorem dX12_chance_49 : decode cX12_chance 49 = .ok (.getfield 54, 3) := by decide +kernel
theorem dX12_chance_52 : decode cX12_chance 52 = .ok (.getfield 360, 3) := by decide +kernel
theorem dX12_chance_55 : decode cX12_chance 55 = .ok (.if_icmp .ge 20, 3) := by decide +kernel
theorem dX12_chance_58 : decode cX12_chance 58 = .ok (.iinc 2 1, 3) := by decide +kernel
theorem dX12_chance_61 : decode cX12_chance 61 = .ok (.aload_n 0, 1) := by decide +kernel
theorem dX12_chance_62 : decode cX12_chance 62 = .ok (.getfield 73, 3) := by decide +kernel
theorem dX12_chance_65 : decode cX12_chance 65 = .ok (.aload_n 0, 1) := by decide +kernel
theorem dX12_chance_66 : decode cX12_chance 66 = .ok (.getfield 80, 3) := by decide +kernel
theorem dX12_chance_69 : decode cX12_chance 69 = .ok (.invokevirtual 363, 3) := by decide +kernel
theorem dX12_chance_72 : decode cX12_chance 72 = .ok (.goto 19, 3) := by decide +kernel
theorem dX12_chance_75 : decode cX12_chance 75 = .ok (.aload_n 0, 1) := by decide +kernel
theorem dX12_chance_76 : decode cX12_chance 76 = .ok (.getfield 73, 3) := by decide +kernel
theorem dX12_chance_79 : decode cX12_chance 79 = .ok (.aload_n 0, 1) := by decide +kernel
theorem dX12_chance_80 : decode cX12_chance 80 = .ok (.getfield 54, 3) := by decide +kernel
theorem dX12_chance_83 : decode cX12_chance 83 = .ok (.aload_n 0, 1) := by decide +kernel
theorem dX12_chance_84 : decode cX12_chance 84 = .ok (.getfield 80, 3) := by decide +kernel
theorem dX12_chance_87 : decode cX12_chance 87 = .ok (.lconst 0, 1) := by decide +kernel
theorem dX12_chance_88 : decode cX12_chance 88 = .ok (.invokevirtual 335, 3) := by decide +kernel
theorem dX12_chance_91 : decode cX12_chance 91 = .ok (.iinc 3 1, 3) := by decide +kernel
theorem dX12_chance_94 : decode cX12_chance 94 = .ok (.goto (-55), 3) := by decide +kernel
theorem dX12_chance_97 : decode cX12_chance 97 = .ok (.iload_n 2, 1) := by decide +kernel
theorem dX12_chance_98 : decode cX12_chance 98 = .ok (.ireturn, 1) := by decide +kernel
theorem dX12_undo_0 : decode cX12_undo 0 = .ok (.aload_n 0, 1) := by decide +kernel
theorem dX12_undo_1 : decode cX12_undo 1 = .ok (.getfield 90, 3) := by decide +kernel
theorem dX12_undo_4 : decode cX12_undo 4 = .ok (.getfield 141, 3) := by decide +kernel
theorem dX12_undo_7 : decode cX12_undo 7 = .ok (.ifCond .ne 9, 3) := by decide +kernel
theorem dX12_undo_10 : decode cX12_undo 10 = .ok (.aload_n 0, 1) := by decide +kernel
theorem dX12_undo_11 : decode cX12_undo 11 = .ok (.iconst 4, 1) := by decide +kernel
theorem dX12_undo_12 : decode cX12_undo 12 = .ok (.invokevirtual 126, 3) := by decide +kernel
theorem dX12_undo_15 : decode cX12_undo 15 = .ok (.ireturn, 1) := by decide +kernel
theorem dX12_undo_16 : decode cX12_undo 16 = .ok (.aload_n 0, 1) := by decide +kernel
theorem dX12_undo_17 : decode cX12_undo 17 = .ok (.getfield 90, 3) := by decide +kernel
theorem dX12_undo_20 : decode cX12_undo 20 = .ok (.aload_n 0, 1) := by decide +kernel
theorem dX12_undo_21 : decode cX12_undo 21 = .ok (.getfield 80, 3) := by decide +kernel
theorem dX12_undo_24 : decode cX12_undo 24 = .ok (.invokevirtual 366, 3) := by decide +kernel
theorem dX12_undo_27 : decode cX12_undo 27 = .ok (.iconst 1, 1) := by decide +kernel
theorem dX12_undo_28 : decode cX12_undo 28 = .ok (.ireturn, 1) := by decide +kernel
theorem dX12_seed_0 : decode cX12_seed 0 = .ok (.iload_n 1, 1) := by decide +kernel
theorem dX12_seed_1 : decode cX12_seed 1 = .ok (.ifCond .ge 9, 3) := by decide +kernel
theorem dX12_seed_4 : decode cX12_seed 4 = .ok (.aload_n 0, 1) := by decide +kernel
theorem dX12_seed_5 : decode cX12_seed 5 = .ok (.iconst 5, 1) := by decide +kernel
theorem dX12_seed_6 : decode cX12_seed 6 = .ok (.invokevirtual 126, 3) := by decide +kernel
theorem dX12_seed_9 : decode cX12_seed 9 = .ok (.ireturn, 1) := by decide +kernel
theorem dX12_seed_10 : decode cX12_seed 10 = .ok (.aload_n 0, 1) := by decide +kernel
theorem dX12_seed_11 : decode cX12_seed 11 = .ok (.iload_n 1, 1) := by decide +kernel
theorem dX12_seed_12 : decode cX12_seed 12 = .ok (.putfield 111, 3) := by decide +kernel
theorem dX12_seed_15 : decode cX12_seed 15 = .ok (.iconst 1, 1) := by decide +kernel
theorem dX12_seed_16 : decode cX12_seed 16 = .ok (.ireturn, 1) := by decide +kernel
theorem dX12_ask_0 : decode cX12_ask 0 = .ok (.ldc2_w 369, 3) := by decide +kernel
theorem dX12_ask_3 : decode cX12_ask 3 = .ok (.lstore_n 1, 1) := by decide +kernel
theorem dX12_ask_4 : decode cX12_ask 4 = .ok (.aload_n 0, 1) := by decide +kernel
theorem dX12_ask_5 : decode cX12_ask 5 = .ok (.getfield 54, 3) := by decide +kernel
theorem dX12_ask_8 : decode cX12_ask 8 = .ok (.invokevirtual 271, 3) := by decide +kernel
theorem dX12_ask_11 : decode cX12_ask 11 = .ok (.ifCond .eq 36, 3) := by decide +kernel
theorem dX12_ask_14 : decode cX12_ask 14 = .ok (.aload_n 0, 1) := by decide +kernel
theorem dX12_ask_15 : decode cX12_ask 15 = .ok (.getfield 42, 3) := by decide +kernel
theorem dX12_ask_18 : decode cX12_ask 18 = .ok (.invokevirtual 371, 3) := by decide +kernel
theorem dX12_ask_21 : decode cX12_ask 21 = .ok (.aload_n 0, 1) := by decide +kernel
theorem dX12_ask_22 : decode cX12_ask 22 = .ok (.getfield 21, 3) := by decide +kernel
theorem dX12_ask_25 : decode cX12_ask 25 = .ok (.getfield 134, 3) := by decide +kernel
theorem dX12_ask_28 : decode cX12_ask 28 = .ok (.ifCond .ne 19, 3) := by decide +kernel
theorem dX12_ask_31 : decode cX12_ask 31 = .ok (.aload_n 0, 1) := by decide +kernel
theorem dX12_ask_32 : decode cX12_ask 32 = .ok (.getfield 42, 3) := by decide +kernel
theorem dX12_ask_35 : decode cX12_ask 35 = .ok (.aload_n 0, 1) := by decide +kernel
theorem dX12_ask_36 : decode cX12_ask 36 = .ok (.invokevirtual 224, 3) := by decide +kernel
theorem dX12_ask_39 : decode cX12_ask 39 = .ok (.aload_n 0, 1) := by decide +kernel
theorem dX12_ask_40 : decode cX12_ask 40 = .ok (.getfield 80, 3) := by decide +kernel
theorem dX12_ask_43 : decode cX12_ask 43 = .ok (.invokevirtual 373, 3) := by decide +kernel
theorem dX12_ask_46 : decode cX12_ask 46 = .ok (.lstore_n 1, 1) := by decide +kernel
theorem dX12_ask_47 : decode cX12_ask 47 = .ok (.aload_n 0, 1) := by decide +kernel
theorem dX12_ask_48 : decode cX12_ask 48 = .ok (.getfield 12, 3) := by decide +kernel
theorem dX12_ask_51 : decode cX12_ask 51 = .ok (.iconst 0, 1) := by decide +kernel
theorem dX12_ask_52 : decode cX12_ask 52 = .ok (.putfield 115, 3) := by decide +kernel
theorem dX12_ask_55 : decode cX12_ask 55 = .ok (.lload_n 1, 1) := by decide +kernel
theorem dX12_ask_56 : decode cX12_ask 56 = .ok (.lreturn, 1) := by decide +kernel
theorem dX12_image_0 : decode cX12_image 0 = .ok (.aload_n 0, 1) := by decide +kernel
theorem dX12_image_1 : decode cX12_image 1 = .ok (.iconst 0, 1) := by decide +kernel
theorem dX12_image_2 : decode cX12_image 2 = .ok (.aload_n 0, 1) := by decide +kernel
theorem dX12_image_3 : decode cX12_image 3 = .ok (.getfield 80, 3) := by decide +kernel
theorem dX12_image_6 : decode cX12_image 6 = .ok (.getfield 175, 3) := by decide +kernel
theorem dX12_image_9 : decode cX12_image 9 = .ok (.invokevirtual 377, 3) := by decide +kernel
theorem dX12_image_12 : decode cX12_image 12 = .ok (.aload_n 0, 1) := by decide +kernel
theorem dX12_image_13 : decode cX12_image 13 = .ok (.getfield 105, 3) := by decide +kernel
theorem dX12_image_16 : decode cX12_image 16 = .ok (.iconst 2, 1) := by decide +kernel
theorem dX12_image_17 : decode cX12_image 17 = .ok (.aload_n 0, 1) := by decide +kernel
theorem dX12_image_18 : decode cX12_image 18 = .ok (.getfield 80, 3) := by decide +kernel
theorem dX12_image_21 : decode cX12_image 21 = .ok (.getfield 178, 3) := by decide +kernel
theorem dX12_image_24 : decode cX12_image 24 = .ok (.iastore, 1) := by decide +kernel
theorem dX12_image_25 : decode cX12_image 25 = .ok (.iconst 3, 1) := by decide +kernel
theorem dX12_image_26 : decode cX12_image 26 = .ok (.istore_n 1, 1) := by decide +kernel
theorem dX12_image_27 : decode cX12_image 27 = .ok (.iconst 0, 1) := by decide +kernel
theorem dX12_image_28 : decode cX12_image 28 = .ok (.istore_n 2, 1) := by decide +kernel
theorem dX12_image_29 : decode cX12_image 29 = .ok (.iload_n 2, 1) := by decide +kernel
theorem dX12_image_30 : decode cX12_image 30 = .ok (.aload_n 0, 1) := by decide +kernel
theorem dX12_image_31 : decode cX12_image 31 = .ok (.getfield 54, 3) := by decide +kernel
theorem dX12_image_34 : decode cX12_image 34 = .ok (.getfield 172, 3) := by decide +kernel
theorem dX12_image_37 : decode cX12_image 37 = .ok (.if_icmp .ge 76, 3) := by decide +kernel
theorem dX12_image_40 : decode cX12_image 40 = .ok (.aload_n 0, 1) := by decide +kernel
theorem dX12_image_41 : decode cX12_image 41 = .ok (.getfield 105, 3) := by decide +kernel
theorem dX12_image_44 : decode cX12_image 44 = .ok (.iload_n 1, 1) := by decide +kernel
theorem dX12_image_45 : decode cX12_image 45 = .ok (.aload_n 0, 1) := by decide +kernel
theorem dX12_image_46 : decode cX12_image 46 = .ok (.getfield 80, 3) := by decide +kernel
theorem dX12_image_49 : decode cX12_image 49 = .ok (.getfield 256, 3) := by decide +kernel
theorem dX12_image_52 : decode cX12_image 52 = .ok (.iload_n 2, 1) := by decide +kernel
theorem dX12_image_53 : decode cX12_image 53 = .ok (.iaload, 1) := by decide +kernel
theorem dX12_image_54 : decode cX12_image 54 = .ok (.iastore, 1) := by decide +kernel
theorem dX12_image_55 : decode cX12_image 55 = .ok (.aload_n 0, 1) := by decide +kernel
theorem dX12_image_56 : decode cX12_image 56 = .ok (.iload_n 1, 1) := by decide +kernel
theorem dX12_image_57 : decode cX12_image 57 = .ok (.iconst 1, 1) := by decide +kernel
theorem dX12_image_58 : decode cX12_image 58 = .ok (.iadd, 1) := by decide +kernel
theorem dX12_image_59 : decode cX12_image 59 = .ok (.aload_n 0, 1) := by decide +kernel
theorem dX12_image_60 : decode cX12_image 60 = .ok (.getfield 80, 3) := by decide +kernel
theorem dX12_image_63 : decode cX12_image 63 = .ok (.getfield 259, 3) := by decide +kernel
theorem dX12_image_66 : decode cX12_image 66 = .ok (.iload_n 2, 1) := by decide +kernel
theorem dX12_image_67 : decode cX12_image 67 = .ok (.iaload, 1) := by decide +kernel
theorem dX12_image_68 : decode cX12_image 68 = .ok (.invokevirtual 377, 3) := by decide +kernel
theorem dX12_image_71 : decode cX12_image 71 = .ok (.aload_n 0, 1) := by decide +kernel
theorem dX12_image_72 : decode cX12_image 72 = .ok (.iload_n 1, 1) := by decide +kernel
theorem dX12_image_73 : decode cX12_image 73 = .ok (.iconst 3, 1) := by decide +kernel
theorem dX12_image_74 : decode cX12_image 74 = .ok (.iadd, 1) := by decide +kernel
theorem dX12_image_75 : decode cX12_image 75 = .ok (.aload_n 0, 1) := by decide +kernel
theorem dX12_image_76 : decode cX12_image 76 = .ok (.getfield 80, 3) := by decide +kernel
theorem dX12_image_79 : decode cX12_image 79 = .ok (.getfield 262, 3) := by decide +kernel
theorem dX12_image_82 : decode cX12_image 82 = .ok (.iload_n 2, 1) := by decide +kernel
theorem dX12_image_83 : decode cX12_image 83 = .ok (.iaload, 1) := by decide +kernel
theorem dX12_image_84 : decode cX12_image 84 = .ok (.invokevirtual 377, 3) := by decide +kernel
theorem dX12_image_87 : decode cX12_image 87 = .ok (.aload_n 0, 1) := by decide +kernel
theorem dX12_image_88 : decode cX12_image 88 = .ok (.getfield 105, 3) := by decide +kernel
theorem dX12_image_91 : decode cX12_image 91 = .ok (.iload_n 1, 1) := by decide +kernel
theorem dX12_image_92 : decode cX12_image 92 = .ok (.iconst 5, 1) := by decide +kernel
theorem dX12_image_93 : decode cX12_image 93 = .ok (.iadd, 1) := by decide +kernel
theorem dX12_image_94 : decode cX12_image 94 = .ok (.aload_n 0, 1) := by decide +kernel
theorem dX12_image_95 : decode cX12_image 95 = .ok (.getfield 80, 3) := by decide +kernel
theorem dX12_image_98 : decode cX12_image 98 = .ok (.getfield 265, 3) := by decide +kernel
theorem dX12_image_101 : decode cX12_image 101 = .ok (.iload_n 2, 1) := by decide +kernel
theorem dX12_image_102 : decode cX12_image 102 = .ok (.iaload, 1) := by decide +kernel
theorem dX12_image_103 : decode cX12_image 103 = .ok (.iastore, 1) := by decide +kernel
theorem dX12_image_104 : decode cX12_image 104 = .ok (.iinc 1 6, 3) := by decide +kernel
theorem dX12_image_107 : decode cX12_image 107 = .ok (.iinc 2 1, 3) := by decide +kernel
theorem dX12_image_110 : decode cX12_image 110 = .ok (.goto (-81), 3) := by decide +kernel
theorem dX12_image_113 : decode cX12_image 113 = .ok (.bipush 79, 2) := by decide +kernel
theorem dX12_image_115 : decode cX12_image 115 = .ok (.istore_n 2, 1) := by decide +kernel
theorem dX12_image_116 : decode cX12_image 116 = .ok (.iconst 0, 1) := by decide +kernel
theorem dX12_image_117 : decode cX12_image 117 = .ok (.istore_n 3, 1) := by decide +kernel
theorem dX12_image_118 : decode cX12_image 118 = .ok (.iload_n 3, 1) := by decide +kernel
theorem dX12_image_119 : decode cX12_image 119 = .ok (.iload_n 1, 1) := by decide +kernel
theorem dX12_image_120 : decode cX12_image 120 = .ok (.if_icmp .ge 24, 3) := by decide +kernel
theorem dX12_image_123 : decode cX12_image 123 = .ok (.iconst 3, 1) := by decide +kernel
theorem dX12_image_124 : decode cX12_image 124 = .ok (.iload_n 2, 1) := by decide +kernel
theorem dX12_image_125 : decode cX12_image 125 = .ok (.imul, 1) := by decide +kernel
theorem dX12_image_126 : decode cX12_image 126 = .ok (.aload_n 0, 1) := by decide +kernel
theorem dX12_image_127 : decode cX12_image 127 = .ok (.getfield 105, 3) := by decide +kernel
theorem dX12_image_130 : decode cX12_image 130 = .ok (.iload_n 3, 1) := by decide +kernel
theorem dX12_image_131 : decode cX12_image 131 = .ok (.iaload, 1) := by decide +kernel
theorem dX12_image_132 : decode cX12_image 132 = .ok (.iadd, 1) := by decide +kernel
theorem dX12_image_133 : decode cX12_image 133 = .ok (.sipush 251, 3) := by decide +kernel
theorem dX12_image_136 : decode cX12_image 136 = .ok (.irem, 1) := by decide +kernel
theorem dX12_image_137 : decode cX12_image 137 = .ok (.istore_n 2, 1) := by decide +kernel
theorem dX12_image_138 : decode cX12_image 138 = .ok (.iinc 3 1, 3) := by decide +kernel
theorem dX12_image_141 : decode cX12_image 141 = .ok (.goto (-23), 3) := by decide +kernel
theorem dX12_image_144 : decode cX12_image 144 = .ok (.aload_n 0, 1) := by decide +kernel
theorem dX12_image_145 : decode cX12_image 145 = .ok (.getfield 105, 3) := by decide +kernel
theorem dX12_image_148 : decode cX12_image 148 = .ok (.iload_n 1, 1) := by decide +kernel
theorem dX12_image_149 : decode cX12_image 149 = .ok (.iload_n 2, 1) := by decide +kernel
theorem dX12_image_150 : decode cX12_image 150 = .ok (.iastore, 1) := by decide +kernel
theorem dX12_image_151 : decode cX12_image 151 = .ok (.aload_n 0, 1) := by decide +kernel
theorem dX12_image_152 : decode cX12_image 152 = .ok (.iload_n 1, 1) := by decide +kernel
theorem dX12_image_153 : decode cX12_image 153 = .ok (.iconst 1, 1) := by decide +kernel
theorem dX12_image_154 : decode cX12_image 154 = .ok (.iadd, 1) := by decide +kernel
theorem dX12_image_155 : decode cX12_image 155 = .ok (.putfield 381, 3) := by decide +kernel
theorem dX12_image_158 : decode cX12_image 158 = .ok (.aload_n 0, 1) := by decide +kernel
theorem dX12_image_159 : decode cX12_image 159 = .ok (.getfield 381, 3) := by decide +kernel
theorem dX12_image_162 : decode cX12_image 162 = .ok (.ireturn, 1) := by decide +kernel
theorem dX12_octet_0 : decode cX12_octet 0 = .ok (.iload_n 1, 1) := by decide +kernel
theorem dX12_octet_1 : decode cX12_octet 1 = .ok (.ifCond .lt 20, 3) := by decide +kernel
theorem dX12_octet_4 : decode cX12_octet 4 = .ok (.iload_n 1, 1) := by decide +kernel
theorem dX12_octet_5 : decode cX12_octet 5 = .ok (.aload_n 0, 1) := by decide +kernel
theorem dX12_octet_6 : decode cX12_octet 6 = .ok (.getfield 381, 3) := by decide +kernel
theorem dX12_octet_9 : decode cX12_octet 9 = .ok (.if_icmp .ge 12, 3) := by decide +kernel
theorem dX12_octet_12 : decode cX12_octet 12 = .ok (.aload_n 0, 1) := by decide +kernel
theorem dX12_octet_13 : decode cX12_octet 13 = .ok (.getfield 105, 3) := by decide +kernel
theorem dX12_octet_16 : decode cX12_octet 16 = .ok (.iload_n 1, 1) := by decide +kernel
theorem dX12_octet_17 : decode cX12_octet 17 = .ok (.iaload, 1) := by decide +kernel
theorem dX12_octet_18 : decode cX12_octet 18 = .ok (.goto 4, 3) := by decide +kernel
theorem dX12_octet_21 : decode cX12_octet 21 = .ok (.iconst (-1), 1) := by decide +kernel
theorem dX12_octet_22 : decode cX12_octet 22 = .ok (.ireturn, 1) := by decide +kernel
theorem dX12_on_0 : decode cX12_on 0 = .ok (.aload_n 0, 1) := by decide +kernel
theorem dX12_on_1 : decode cX12_on 1 = .ok (.getfield 54, 3) := by decide +kernel
theorem dX12_on_4 : decode cX12_on 4 = .ok (.invokevirtual 271, 3) := by decide +kernel
theorem dX12_on_7 : decode cX12_on 7 = .ok (.ifCond .eq 14, 3) := by decide +kernel
theorem dX12_on_10 : decode cX12_on 10 = .ok (.aload_n 0, 1) := by decide +kernel
theorem dX12_on_11 : decode cX12_on 11 = .ok (.invokevirtual 384, 3) := by decide +kernel
theorem dX12_on_14 : decode cX12_on 14 = .ok (.ifCond .eq 7, 3) := by decide +kernel
theorem dX12_on_17 : decode cX12_on 17 = .ok (.iconst 1, 1) := by decide +kernel
theorem dX12_on_18 : decode cX12_on 18 = .ok (.goto 4, 3) := by decide +kernel
theorem dX12_on_21 : decode cX12_on 21 = .ok (.iconst 0, 1) := by decide +kernel
theorem dX12_on_22 : decode cX12_on 22 = .ok (.istore_n 1, 1) := by decide +kernel
theorem dX12_on_23 : decode cX12_on 23 = .ok (.iload_n 1, 1) := by decide +kernel
theorem dX12_on_24 : decode cX12_on 24 = .ok (.ifCond .eq 7, 3) := by decide +kernel
theorem dX12_on_27 : decode cX12_on 27 = .ok (.aload_n 0, 1) := by decide +kernel
theorem dX12_on_28 : decode cX12_on 28 = .ok (.invokevirtual 387, 3) := by decide +kernel
theorem dX12_on_31 : decode cX12_on 31 = .ok (.aload_n 0, 1) := by decide +kernel
theorem dX12_on_32 : decode cX12_on 32 = .ok (.getfield 12, 3) := by decide +kernel
theorem dX12_on_35 : decode cX12_on 35 = .ok (.iconst 0, 1) := by decide +kernel
theorem dX12_on_36 : decode cX12_on 36 = .ok (.putfield 115, 3) := by decide +kernel
theorem dX12_on_39 : decode cX12_on 39 = .ok (.iload_n 1, 1) := by decide +kernel
theorem dX12_on_40 : decode cX12_on 40 = .ok (.ifCond .ne 11, 3) := by decide +kernel
theorem dX12_on_43 : decode cX12_on 43 = .ok (.aload_n 0, 1) := by decide +kernel
theorem dX12_on_44 : decode cX12_on 44 = .ok (.iconst 5, 1) := by decide +kernel
theorem dX12_on_45 : decode cX12_on 45 = .ok (.invokevirtual 126, 3) := by decide +kernel
theorem dX12_on_48 : decode cX12_on 48 = .ok (.ifCond .eq 7, 3) := by decide +kernel
theorem dX12_on_51 : decode cX12_on 51 = .ok (.iconst 1, 1) := by decide +kernel
theorem dX12_on_52 : decode cX12_on 52 = .ok (.goto 4, 3) := by decide +kernel
theorem dX12_on_55 : decode cX12_on 55 = .ok (.iconst 0, 1) := by decide +kernel
theorem dX12_on_56 : decode cX12_on 56 = .ok (.ireturn, 1) := by decide +kernel
theorem dX12_status_0 : decode cX12_status 0 = .ok (.iload_n 1, 1) := by decide +kernel
theorem dX12_status_1 : decode cX12_status 1 = .ok (.ifCond .lt 18, 3) := by decide +kernel
theorem dX12_status_4 : decode cX12_status 4 = .ok (.iload_n 1, 1) := by decide +kernel
theorem dX12_status_5 : decode cX12_status 5 = .ok (.bipush 6, 2) := by decide +kernel
theorem dX12_status_7 : decode cX12_status 7 = .ok (.if_icmp .ge 12, 3) := by decide +kernel
theorem dX12_status_10 : decode cX12_status 10 = .ok (.aload_n 0, 1) := by decide +kernel
theorem dX12_status_11 : decode cX12_status 11 = .ok (.getfield 108, 3) := by decide +kernel
theorem dX12_status_14 : decode cX12_status 14 = .ok (.iload_n 1, 1) := by decide +kernel
theorem dX12_status_15 : decode cX12_status 15 = .ok (.iaload, 1) := by decide +kernel
theorem dX12_status_16 : decode cX12_status 16 = .ok (.goto 4, 3) := by decide +kernel
theorem dX12_status_19 : decode cX12_status 19 = .ok (.iconst (-1), 1) := by decide +kernel
theorem dX12_status_20 : decode cX12_status 20 = .ok (.ireturn, 1) := by decide +kernel
theorem dX12_refuse_0 : decode cX12_refuse 0 = .ok (.aload_n 0, 1) := by decide +kernel
theorem dX12_refuse_1 : decode cX12_refuse 1 = .ok (.getfield 108, 3) := by decide +kernel
theorem dX12_refuse_4 : decode cX12_refuse 4 = .ok (.iload_n 1, 1) := by decide +kernel
theorem dX12_refuse_5 : decode cX12_refuse 5 = .ok (.dup2, 1) := by decide +kernel
theorem dX12_refuse_6 : decode cX12_refuse 6 = .ok (.iaload, 1) := by decide +kernel
theorem dX12_refuse_7 : decode cX12_refuse 7 = .ok (.iconst 1, 1) := by decide +kernel
theorem dX12_refuse_8 : decode cX12_refuse 8 = .ok (.iadd, 1) := by decide +kernel
theorem dX12_refuse_9 : decode cX12_refuse 9 = .ok (.iastore, 1) := by decide +kernel
theorem dX12_refuse_10 : decode cX12_refuse 10 = .ok (.iconst (-1), 1) := by decide +kernel
theorem dX12_refuse_11 : decode cX12_refuse 11 = .ok (.ireturn, 1) := by decide +kernel
theorem dX12_denies_0 : decode cX12_denies 0 = .ok (.aload_n 0, 1) := by decide +kernel
theorem dX12_denies_1 : decode cX12_denies 1 = .ok (.getfield 108, 3) := by decide +kernel
theorem dX12_denies_4 : decode cX12_denies 4 = .ok (.iload_n 1, 1) := by decide +kernel
theorem dX12_denies_5 : decode cX12_denies 5 = .ok (.dup2, 1) := by decide +kernel
theorem dX12_denies_6 : decode cX12_denies 6 = .ok (.iaload, 1) := by decide +kernel
theorem dX12_denies_7 : decode cX12_denies 7 = .ok (.iconst 1, 1) := by decide +kernel
theorem dX12_denies_8 : decode cX12_denies 8 = .ok (.iadd, 1) := by decide +kernel
theorem dX12_denies_9 : decode cX12_denies 9 = .ok (.iastore, 1) := by decide +kernel
theorem dX12_denies_10 : decode cX12_denies 10 = .ok (.iconst 0, 1) := by decide +kernel
theorem dX12_denies_11 : decode cX12_denies 11 = .ok (.ireturn, 1) := by decide +kernel
theorem dX12_bitOf_0 : decode cX12_bitOf 0 = .ok (.lload_n 0, 1) := by decide +kernel
theorem dX12_bitOf_1 : decode cX12_bitOf 1 = .ok (.iload_n 2, 1) := by decide +kernel
theorem dX12_bitOf_2 : decode cX12_bitOf 2 = .ok (.lshr, 1) := by decide +kernel
theorem dX12_bitOf_3 : decode cX12_bitOf 3 = .ok (.lconst 1, 1) := by decide +kernel
theorem dX12_bitOf_4 : decode cX12_bitOf 4 = .ok (.land, 1) := by decide +kernel
theorem dX12_bitOf_5 : decode cX12_bitOf 5 = .ok (.l2i, 1) := by decide +kernel
theorem dX12_bitOf_6 : decode cX12_bitOf 6 = .ok (.ireturn, 1) := by decide +kernel
theorem dX12_coordinate_0 : decode cX12_coordinate 0 = .ok (.iload_n 2, 1) := by decide +kernel
theorem dX12_coordinate_1 : decode cX12_coordinate 1 = .ok (.ifCond .ne 12, 3) := by decide +kernel
theorem dX12_coordinate_4 : decode cX12_coordinate 4 = .ok (.aload_n 0, 1) := by decide +kernel
theorem dX12_coordinate_5 : decode cX12_coordinate 5 = .ok (.getfield 54, 3) := by decide +kernel
theorem dX12_coordinate_8 : decode cX12_coordinate 8 = .ok (.iload_n 1, 1) := by decide +kernel
theorem dX12_coordinate_9 : decode cX12_coordinate 9 = .ok (.invokevirtual 234, 3) := by decide +kernel
theorem dX12_coordinate_12 : decode cX12_coordinate 12 = .ok (.ireturn, 1) := by decide +kernel
theorem dX12_coordinate_13 : decode cX12_coordinate 13 = .ok (.iload_n 2, 1) := by decide +kernel
theorem dX12_coordinate_14 : decode cX12_coordinate 14 = .ok (.iconst 1, 1) := by decide +kernel
theorem dX12_coordinate_15 : decode cX12_coordinate 15 = .ok (.if_icmp .ne 14, 3) := by decide +kernel
theorem dX12_coordinate_18 : decode cX12_coordinate 18 = .ok (.aload_n 0, 1) := by decide +kernel
theorem dX12_coordinate_19 : decode cX12_coordinate 19 = .ok (.getfield 54, 3) := by decide +kernel
theorem dX12_coordinate_22 : decode cX12_coordinate 22 = .ok (.iload_n 1, 1) := by decide +kernel
theorem dX12_coordinate_23 : decode cX12_coordinate 23 = .ok (.invokevirtual 237, 3) := by decide +kernel
theorem dX12_coordinate_26 : decode cX12_coordinate 26 = .ok (.goto 4, 3) := by decide +kernel
theorem dX12_coordinate_29 : decode cX12_coordinate 29 = .ok (.iconst (-1), 1) := by decide +kernel
theorem dX12_coordinate_30 : decode cX12_coordinate 30 = .ok (.ireturn, 1) := by decide +kernel
theorem dX12_rideTonight_0 : decode cX12_rideTonight 0 = .ok (.aload_n 0, 1) := by decide +kernel
theorem dX12_rideTonight_1 : decode cX12_rideTonight 1 = .ok (.getfield 63, 3) := by decide +kernel
theorem dX12_rideTonight_4 : decode cX12_rideTonight 4 = .ok (.aload_n 0, 1) := by decide +kernel
theorem dX12_rideTonight_5 : decode cX12_rideTonight 5 = .ok (.getfield 54, 3) := by decide +kernel
theorem dX12_rideTonight_8 : decode cX12_rideTonight 8 = .ok (.aload_n 0, 1) := by decide +kernel
theorem dX12_rideTonight_9 : decode cX12_rideTonight 9 = .ok (.getfield 54, 3) := by decide +kernel
theorem dX12_rideTonight_12 : decode cX12_rideTonight 12 = .ok (.aload_n 0, 1) := by decide +kernel
theorem dX12_rideTonight_13 : decode cX12_rideTonight 13 = .ok (.getfield 80, 3) := by decide +kernel
theorem dX12_rideTonight_16 : decode cX12_rideTonight 16 = .ok (.getfield 178, 3) := by decide +kernel
theorem dX12_rideTonight_19 : decode cX12_rideTonight 19 = .ok (.invokevirtual 291, 3) := by decide +kernel
theorem dX12_rideTonight_22 : decode cX12_rideTonight 22 = .ok (.aload_n 0, 1) := by decide +kernel
theorem dX12_rideTonight_23 : decode cX12_rideTonight 23 = .ok (.getfield 54, 3) := by decide +kernel
theorem dX12_rideTonight_26 : decode cX12_rideTonight 26 = .ok (.getfield 294, 3) := by decide +kernel
theorem dX12_rideTonight_29 : decode cX12_rideTonight 29 = .ok (.aload_n 0, 1) := by decide +kernel
theorem dX12_rideTonight_30 : decode cX12_rideTonight 30 = .ok (.getfield 80, 3) := by decide +kernel
theorem dX12_rideTonight_33 : decode cX12_rideTonight 33 = .ok (.getfield 175, 3) := by decide +kernel
theorem dX12_rideTonight_36 : decode cX12_rideTonight 36 = .ok (.invokevirtual 296, 3) := by decide +kernel
theorem dX12_rideTonight_39 : decode cX12_rideTonight 39 = .ok (.aload_n 0, 1) := by decide +kernel
theorem dX12_rideTonight_40 : decode cX12_rideTonight 40 = .ok (.getfield 63, 3) := by decide +kernel
theorem dX12_rideTonight_43 : decode cX12_rideTonight 43 = .ok (.areturn, 1) := by decide +kernel
theorem dX12_meetsNobody_0 : decode cX12_meetsNobody 0 = .ok (.aload_n 0, 1) := by decide +kernel
theorem dX12_meetsNobody_1 : decode cX12_meetsNobody 1 = .ok (.getfield 67, 3) := by decide +kernel
theorem dX12_meetsNobody_4 : decode cX12_meetsNobody 4 = .ok (.aload_n 0, 1) := by decide +kernel
theorem dX12_meetsNobody_5 : decode cX12_meetsNobody 5 = .ok (.getfield 54, 3) := by decide +kernel
theorem dX12_meetsNobody_8 : decode cX12_meetsNobody 8 = .ok (.aload_n 0, 1) := by decide +kernel
theorem dX12_meetsNobody_9 : decode cX12_meetsNobody 9 = .ok (.getfield 54, 3) := by decide +kernel
theorem dX12_meetsNobody_12 : decode cX12_meetsNobody 12 = .ok (.iload_n 1, 1) := by decide +kernel
theorem dX12_meetsNobody_13 : decode cX12_meetsNobody 13 = .ok (.invokevirtual 291, 3) := by decide +kernel
theorem dX12_meetsNobody_16 : decode cX12_meetsNobody 16 = .ok (.aload_n 0, 1) := by decide +kernel
theorem dX12_meetsNobody_17 : decode cX12_meetsNobody 17 = .ok (.getfield 54, 3) := by decide +kernel
theorem dX12_meetsNobody_20 : decode cX12_meetsNobody 20 = .ok (.getfield 294, 3) := by decide +kernel
theorem dX12_meetsNobody_23 : decode cX12_meetsNobody 23 = .ok (.aload_n 0, 1) := by decide +kernel
theorem dX12_meetsNobody_24 : decode cX12_meetsNobody 24 = .ok (.getfield 80, 3) := by decide +kernel
theorem dX12_meetsNobody_27 : decode cX12_meetsNobody 27 = .ok (.getfield 175, 3) := by decide +kernel
theorem dX12_meetsNobody_30 : decode cX12_meetsNobody 30 = .ok (.invokevirtual 296, 3) := by decide +kernel
theorem dX12_meetsNobody_33 : decode cX12_meetsNobody 33 = .ok (.iconst 1, 1) := by decide +kernel
theorem dX12_meetsNobody_34 : decode cX12_meetsNobody 34 = .ok (.istore_n 2, 1) := by decide +kernel
theorem dX12_meetsNobody_35 : decode cX12_meetsNobody 35 = .ok (.iconst 0, 1) := by decide +kernel
theorem dX12_meetsNobody_36 : decode cX12_meetsNobody 36 = .ok (.istore_n 3, 1) := by decide +kernel
theorem dX12_meetsNobody_37 : decode cX12_meetsNobody 37 = .ok (.iload_n 3, 1) := by decide +kernel
theorem dX12_meetsNobody_38 : decode cX12_meetsNobody 38 = .ok (.aload_n 0, 1) := by decide +kernel
theorem dX12_meetsNobody_39 : decode cX12_meetsNobody 39 = .ok (.getfield 54, 3) := by decide +kernel
theorem dX12_meetsNobody_42 : decode cX12_meetsNobody 42 = .ok (.getfield 172, 3) := by decide +kernel
theorem dX12_meetsNobody_45 : decode cX12_meetsNobody 45 = .ok (.if_icmp .ge 35, 3) := by decide +kernel
theorem dX12_meetsNobody_48 : decode cX12_meetsNobody 48 = .ok (.iload_n 2, 1) := by decide +kernel
theorem dX12_meetsNobody_49 : decode cX12_meetsNobody 49 = .ok (.ifCond .eq 31, 3) := by decide +kernel
theorem dX12_meetsNobody_52 : decode cX12_meetsNobody 52 = .ok (.aload_n 0, 1) := by decide +kernel
theorem dX12_meetsNobody_53 : decode cX12_meetsNobody 53 = .ok (.getfield 67, 3) := by decide +kernel
theorem dX12_meetsNobody_56 : decode cX12_meetsNobody 56 = .ok (.aload_n 0, 1) := by decide +kernel
theorem dX12_meetsNobody_57 : decode cX12_meetsNobody 57 = .ok (.getfield 80, 3) := by decide +kernel
theorem dX12_meetsNobody_60 : decode cX12_meetsNobody 60 = .ok (.iload_n 3, 1) := by decide +kernel
theorem dX12_meetsNobody_61 : decode cX12_meetsNobody 61 = .ok (.invokevirtual 281, 3) := by decide +kernel
theorem dX12_meetsNobody_64 : decode cX12_meetsNobody 64 = .ok (.iconst (-1), 1) := by decide +kernel
theorem dX12_meetsNobody_65 : decode cX12_meetsNobody 65 = .ok (.if_icmp .ne 7, 3) := by decide +kernel
theorem dX12_meetsNobody_68 : decode cX12_meetsNobody 68 = .ok (.iconst 1, 1) := by decide +kernel
theorem dX12_meetsNobody_69 : decode cX12_meetsNobody 69 = .ok (.goto 4, 3) := by decide +kernel
theorem dX12_meetsNobody_72 : decode cX12_meetsNobody 72 = .ok (.iconst 0, 1) := by decide +kernel
theorem dX12_meetsNobody_73 : decode cX12_meetsNobody 73 = .ok (.istore_n 2, 1) := by decide +kernel
theorem dX12_meetsNobody_74 : decode cX12_meetsNobody 74 = .ok (.iinc 3 1, 3) := by decide +kernel
theorem dX12_meetsNobody_77 : decode cX12_meetsNobody 77 = .ok (.goto (-40), 3) := by decide +kernel
theorem dX12_meetsNobody_80 : decode cX12_meetsNobody 80 = .ok (.iload_n 2, 1) := by decide +kernel
theorem dX12_meetsNobody_81 : decode cX12_meetsNobody 81 = .ok (.ireturn, 1) := by decide +kernel
theorem dX12_isAtRest_0 : decode cX12_isAtRest 0 = .ok (.iconst 1, 1) := by decide +kernel
theorem dX12_isAtRest_1 : decode cX12_isAtRest 1 = .ok (.istore_n 2, 1) := by decide +kernel
theorem dX12_isAtRest_2 : decode cX12_isAtRest 2 = .ok (.iconst 0, 1) := by decide +kernel
theorem dX12_isAtRest_3 : decode cX12_isAtRest 3 = .ok (.istore_n 3, 1) := by decide +kernel
theorem dX12_isAtRest_4 : decode cX12_isAtRest 4 = .ok (.iload_n 3, 1) := by decide +kernel
theorem dX12_isAtRest_5 : decode cX12_isAtRest 5 = .ok (.aload_n 0, 1) := by decide +kernel
theorem dX12_isAtRest_6 : decode cX12_isAtRest 6 = .ok (.getfield 54, 3) := by decide +kernel
theorem dX12_isAtRest_9 : decode cX12_isAtRest 9 = .ok (.getfield 169, 3) := by decide +kernel
theorem dX12_isAtRest_12 : decode cX12_isAtRest 12 = .ok (.if_icmp .ge 65, 3) := by decide +kernel
theorem dX12_isAtRest_15 : decode cX12_isAtRest 15 = .ok (.iload_n 2, 1) := by decide +kernel
theorem dX12_isAtRest_16 : decode cX12_isAtRest 16 = .ok (.ifCond .eq 61, 3) := by decide +kernel
theorem dX12_isAtRest_19 : decode cX12_isAtRest 19 = .ok (.iload_n 1, 1) := by decide +kernel
theorem dX12_isAtRest_20 : decode cX12_isAtRest 20 = .ok (.iconst 1, 1) := by decide +kernel
theorem dX12_isAtRest_21 : decode cX12_isAtRest 21 = .ok (.iload_n 3, 1) := by decide +kernel
theorem dX12_isAtRest_22 : decode cX12_isAtRest 22 = .ok (.ishl, 1) := by decide +kernel
theorem dX12_isAtRest_23 : decode cX12_isAtRest 23 = .ok (.ixor, 1) := by decide +kernel
theorem dX12_isAtRest_24 : decode cX12_isAtRest 24 = .ok (.istore 4, 2) := by decide +kernel
theorem dX12_isAtRest_26 : decode cX12_isAtRest 26 = .ok (.aload_n 0, 1) := by decide +kernel
theorem dX12_isAtRest_27 : decode cX12_isAtRest 27 = .ok (.getfield 54, 3) := by decide +kernel
theorem dX12_isAtRest_30 : decode cX12_isAtRest 30 = .ok (.iload_n 3, 1) := by decide +kernel
theorem dX12_isAtRest_31 : decode cX12_isAtRest 31 = .ok (.iload_n 1, 1) := by decide +kernel
theorem dX12_isAtRest_32 : decode cX12_isAtRest 32 = .ok (.aload_n 0, 1) := by decide +kernel
theorem dX12_isAtRest_33 : decode cX12_isAtRest 33 = .ok (.getfield 101, 3) := by decide +kernel
theorem dX12_isAtRest_36 : decode cX12_isAtRest 36 = .ok (.iload_n 1, 1) := by decide +kernel
theorem dX12_isAtRest_37 : decode cX12_isAtRest 37 = .ok (.laload, 1) := by decide +kernel
theorem dX12_isAtRest_38 : decode cX12_isAtRest 38 = .ok (.invokevirtual 246, 3) := by decide +kernel
theorem dX12_isAtRest_41 : decode cX12_isAtRest 41 = .ok (.istore 5, 2) := by decide +kernel
theorem dX12_isAtRest_43 : decode cX12_isAtRest 43 = .ok (.iload 5, 2) := by decide +kernel
theorem dX12_isAtRest_45 : decode cX12_isAtRest 45 = .ok (.aload_n 0, 1) := by decide +kernel
theorem dX12_isAtRest_46 : decode cX12_isAtRest 46 = .ok (.getfield 54, 3) := by decide +kernel
theorem dX12_isAtRest_49 : decode cX12_isAtRest 49 = .ok (.iload_n 3, 1) := by decide +kernel
theorem dX12_isAtRest_50 : decode cX12_isAtRest 50 = .ok (.iload 4, 2) := by decide +kernel
theorem dX12_isAtRest_52 : decode cX12_isAtRest 52 = .ok (.aload_n 0, 1) := by decide +kernel
theorem dX12_isAtRest_53 : decode cX12_isAtRest 53 = .ok (.getfield 101, 3) := by decide +kernel
theorem dX12_isAtRest_56 : decode cX12_isAtRest 56 = .ok (.iload 4, 2) := by decide +kernel
theorem dX12_isAtRest_58 : decode cX12_isAtRest 58 = .ok (.laload, 1) := by decide +kernel
theorem dX12_isAtRest_59 : decode cX12_isAtRest 59 = .ok (.invokevirtual 246, 3) := by decide +kernel
theorem dX12_isAtRest_62 : decode cX12_isAtRest 62 = .ok (.if_icmp .gt 7, 3) := by decide +kernel
theorem dX12_isAtRest_65 : decode cX12_isAtRest 65 = .ok (.iconst 1, 1) := by decide +kernel
theorem dX12_isAtRest_66 : decode cX12_isAtRest 66 = .ok (.goto 4, 3) := by decide +kernel
theorem dX12_isAtRest_69 : decode cX12_isAtRest 69 = .ok (.iconst 0, 1) := by decide +kernel
theorem dX12_isAtRest_70 : decode cX12_isAtRest 70 = .ok (.istore_n 2, 1) := by decide +kernel
theorem dX12_isAtRest_71 : decode cX12_isAtRest 71 = .ok (.iinc 3 1, 3) := by decide +kernel
theorem dX12_isAtRest_74 : decode cX12_isAtRest 74 = .ok (.goto (-70), 3) := by decide +kernel
theorem dX12_isAtRest_77 : decode cX12_isAtRest 77 = .ok (.iload_n 2, 1) := by decide +kernel
theorem dX12_isAtRest_78 : decode cX12_isAtRest 78 = .ok (.ireturn, 1) := by decide +kernel
theorem dX12_canGoAhead_0 : decode cX12_canGoAhead 0 = .ok (.aload_n 0, 1) := by decide +kernel
theorem dX12_canGoAhead_1 : decode cX12_canGoAhead 1 = .ok (.getfield 54, 3) := by decide +kernel
theorem dX12_canGoAhead_4 : decode cX12_canGoAhead 4 = .ok (.invokevirtual 271, 3) := by decide +kernel
theorem dX12_canGoAhead_7 : decode cX12_canGoAhead 7 = .ok (.ifCond .eq 32, 3) := by decide +kernel
theorem dX12_canGoAhead_10 : decode cX12_canGoAhead 10 = .ok (.iload_n 1, 1) := by decide +kernel
theorem dX12_canGoAhead_11 : decode cX12_canGoAhead 11 = .ok (.iload_n 2, 1) := by decide +kernel
theorem dX12_canGoAhead_12 : decode cX12_canGoAhead 12 = .ok (.if_icmp .lt 27, 3) := by decide +kernel
theorem dX12_canGoAhead_15 : decode cX12_canGoAhead 15 = .ok (.iload_n 1, 1) := by decide +kernel
theorem dX12_canGoAhead_16 : decode cX12_canGoAhead 16 = .ok (.iload_n 3, 1) := by decide +kernel
theorem dX12_canGoAhead_17 : decode cX12_canGoAhead 17 = .ok (.if_icmp .gt 22, 3) := by decide +kernel
theorem dX12_canGoAhead_20 : decode cX12_canGoAhead 20 = .ok (.aload_n 0, 1) := by decide +kernel
theorem dX12_canGoAhead_21 : decode cX12_canGoAhead 21 = .ok (.getfield 80, 3) := by decide +kernel
theorem dX12_canGoAhead_24 : decode cX12_canGoAhead 24 = .ok (.getfield 175, 3) := by decide +kernel
theorem dX12_canGoAhead_27 : decode cX12_canGoAhead 27 = .ok (.iload_n 1, 1) := by decide +kernel
theorem dX12_canGoAhead_28 : decode cX12_canGoAhead 28 = .ok (.iadd, 1) := by decide +kernel
theorem dX12_canGoAhead_29 : decode cX12_canGoAhead 29 = .ok (.sipush 999, 3) := by decide +kernel
theorem dX12_canGoAhead_32 : decode cX12_canGoAhead 32 = .ok (.if_icmp .gt 7, 3) := by decide +kernel
theorem dX12_canGoAhead_35 : decode cX12_canGoAhead 35 = .ok (.iconst 1, 1) := by decide +kernel
theorem dX12_canGoAhead_36 : decode cX12_canGoAhead 36 = .ok (.goto 4, 3) := by decide +kernel
theorem dX12_canGoAhead_39 : decode cX12_canGoAhead 39 = .ok (.iconst 0, 1) := by decide +kernel
theorem dX12_canGoAhead_40 : decode cX12_canGoAhead 40 = .ok (.ireturn, 1) := by decide +kernel
theorem dX12_goAhead_0 : decode cX12_goAhead 0 = .ok (.aload_n 0, 1) := by decide +kernel
theorem dX12_goAhead_1 : decode cX12_goAhead 1 = .ok (.getfield 73, 3) := by decide +kernel
theorem dX12_goAhead_4 : decode cX12_goAhead 4 = .ok (.invokevirtual 323, 3) := by decide +kernel
theorem dX12_goAhead_7 : decode cX12_goAhead 7 = .ok (.aload_n 0, 1) := by decide +kernel
theorem dX12_goAhead_8 : decode cX12_goAhead 8 = .ok (.getfield 84, 3) := by decide +kernel
theorem dX12_goAhead_11 : decode cX12_goAhead 11 = .ok (.aload_n 0, 1) := by decide +kernel
theorem dX12_goAhead_12 : decode cX12_goAhead 12 = .ok (.getfield 80, 3) := by decide +kernel
theorem dX12_goAhead_15 : decode cX12_goAhead 15 = .ok (.invokevirtual 326, 3) := by decide +kernel
theorem dX12_goAhead_18 : decode cX12_goAhead 18 = .ok (.iconst 0, 1) := by decide +kernel
theorem dX12_goAhead_19 : decode cX12_goAhead 19 = .ok (.istore 4, 2) := by decide +kernel
theorem dX12_goAhead_21 : decode cX12_goAhead 21 = .ok (.iload 4, 2) := by decide +kernel
theorem dX12_goAhead_23 : decode cX12_goAhead 23 = .ok (.iload_n 1, 1) := by decide +kernel
theorem dX12_goAhead_24 : decode cX12_goAhead 24 = .ok (.if_icmp .ge 25, 3) := by decide +kernel
theorem dX12_goAhead_27 : decode cX12_goAhead 27 = .ok (.aload_n 0, 1) := by decide +kernel
theorem dX12_goAhead_28 : decode cX12_goAhead 28 = .ok (.getfield 73, 3) := by decide +kernel
theorem dX12_goAhead_31 : decode cX12_goAhead 31 = .ok (.aload_n 0, 1) := by decide +kernel
theorem dX12_goAhead_32 : decode cX12_goAhead 32 = .ok (.getfield 54, 3) := by decide +kernel
theorem dX12_goAhead_35 : decode cX12_goAhead 35 = .ok (.aload_n 0, 1) := by decide +kernel
theorem dX12_goAhead_36 : decode cX12_goAhead 36 = .ok (.getfield 84, 3) := by decide +kernel
theorem dX12_goAhead_39 : decode cX12_goAhead 39 = .ok (.lload_n 2, 1) := by decide +kernel
theorem dX12_goAhead_40 : decode cX12_goAhead 40 = .ok (.invokevirtual 335, 3) := by decide +kernel
theorem dX12_goAhead_43 : decode cX12_goAhead 43 = .ok (.iinc 4 1, 3) := by decide +kernel
theorem dX12_goAhead_46 : decode cX12_goAhead 46 = .ok (.goto (-25), 3) := by decide +kernel
theorem dX12_goAhead_49 : decode cX12_goAhead 49 = .ok (.return_, 1) := by decide +kernel
theorem dX12_keepSeen_0 : decode cX12_keepSeen 0 = .ok (.iconst 0, 1) := by decide +kernel
theorem dX12_keepSeen_1 : decode cX12_keepSeen 1 = .ok (.istore_n 2, 1) := by decide +kernel
theorem dX12_keepSeen_2 : decode cX12_keepSeen 2 = .ok (.iload_n 2, 1) := by decide +kernel
theorem dX12_keepSeen_3 : decode cX12_keepSeen 3 = .ok (.iload_n 1, 1) := by decide +kernel
theorem dX12_keepSeen_4 : decode cX12_keepSeen 4 = .ok (.if_icmp .ge 68, 3) := by decide +kernel
theorem dX12_keepSeen_7 : decode cX12_keepSeen 7 = .ok (.aload_n 0, 1) := by decide +kernel
theorem dX12_keepSeen_8 : decode cX12_keepSeen 8 = .ok (.getfield 94, 3) := by decide +kernel
theorem dX12_keepSeen_11 : decode cX12_keepSeen 11 = .ok (.iload_n 2, 1) := by decide +kernel
theorem dX12_keepSeen_12 : decode cX12_keepSeen 12 = .ok (.iconst 2, 1) := by decide +kernel
theorem dX12_keepSeen_13 : decode cX12_keepSeen 13 = .ok (.imul, 1) := by decide +kernel
theorem dX12_keepSeen_14 : decode cX12_keepSeen 14 = .ok (.aload_n 0, 1) := by decide +kernel
theorem dX12_keepSeen_15 : decode cX12_keepSeen 15 = .ok (.getfield 12, 3) := by decide +kernel
theorem dX12_keepSeen_18 : decode cX12_keepSeen 18 = .ok (.iload_n 2, 1) := by decide +kernel
theorem dX12_keepSeen_19 : decode cX12_keepSeen 19 = .ok (.iconst 3, 1) := by decide +kernel
theorem dX12_keepSeen_20 : decode cX12_keepSeen 20 = .ok (.imul, 1) := by decide +kernel
theorem dX12_keepSeen_21 : decode cX12_keepSeen 21 = .ok (.invokevirtual 342, 3) := by decide +kernel
theorem dX12_keepSeen_24 : decode cX12_keepSeen 24 = .ok (.iastore, 1) := by decide +kernel
theorem dX12_keepSeen_25 : decode cX12_keepSeen 25 = .ok (.aload_n 0, 1) := by decide +kernel
theorem dX12_keepSeen_26 : decode cX12_keepSeen 26 = .ok (.getfield 94, 3) := by decide +kernel
theorem dX12_keepSeen_29 : decode cX12_keepSeen 29 = .ok (.iload_n 2, 1) := by decide +kernel
theorem dX12_keepSeen_30 : decode cX12_keepSeen 30 = .ok (.iconst 2, 1) := by decide +kernel
theorem dX12_keepSeen_31 : decode cX12_keepSeen 31 = .ok (.imul, 1) := by decide +kernel
theorem dX12_keepSeen_32 : decode cX12_keepSeen 32 = .ok (.iconst 1, 1) := by decide +kernel
theorem dX12_keepSeen_33 : decode cX12_keepSeen 33 = .ok (.iadd, 1) := by decide +kernel
theorem dX12_keepSeen_34 : decode cX12_keepSeen 34 = .ok (.aload_n 0, 1) := by decide +kernel
theorem dX12_keepSeen_35 : decode cX12_keepSeen 35 = .ok (.getfield 54, 3) := by decide +kernel
theorem dX12_keepSeen_38 : decode cX12_keepSeen 38 = .ok (.aload_n 0, 1) := by decide +kernel
theorem dX12_keepSeen_39 : decode cX12_keepSeen 39 = .ok (.getfield 12, 3) := by decide +kernel
theorem dX12_keepSeen_42 : decode cX12_keepSeen 42 = .ok (.iload_n 2, 1) := by decide +kernel
theorem dX12_keepSeen_43 : decode cX12_keepSeen 43 = .ok (.iconst 3, 1) := by decide +kernel
theorem dX12_keepSeen_44 : decode cX12_keepSeen 44 = .ok (.imul, 1) := by decide +kernel
theorem dX12_keepSeen_45 : decode cX12_keepSeen 45 = .ok (.iconst 1, 1) := by decide +kernel
theorem dX12_keepSeen_46 : decode cX12_keepSeen 46 = .ok (.iadd, 1) := by decide +kernel
theorem dX12_keepSeen_47 : decode cX12_keepSeen 47 = .ok (.invokevirtual 342, 3) := by decide +kernel
theorem dX12_keepSeen_50 : decode cX12_keepSeen 50 = .ok (.aload_n 0, 1) := by decide +kernel
theorem dX12_keepSeen_51 : decode cX12_keepSeen 51 = .ok (.getfield 12, 3) := by decide +kernel
theorem dX12_keepSeen_54 : decode cX12_keepSeen 54 = .ok (.iload_n 2, 1) := by decide +kernel
theorem dX12_keepSeen_55 : decode cX12_keepSeen 55 = .ok (.iconst 3, 1) := by decide +kernel
theorem dX12_keepSeen_56 : decode cX12_keepSeen 56 = .ok (.imul, 1) := by decide +kernel
theorem dX12_keepSeen_57 : decode cX12_keepSeen 57 = .ok (.iconst 2, 1) := by decide +kernel
theorem dX12_keepSeen_58 : decode cX12_keepSeen 58 = .ok (.iadd, 1) := by decide +kernel
theorem dX12_keepSeen_59 : decode cX12_keepSeen 59 = .ok (.invokevirtual 342, 3) := by decide +kernel
theorem dX12_keepSeen_62 : decode cX12_keepSeen 62 = .ok (.invokevirtual 213, 3) := by decide +kernel
theorem dX12_keepSeen_65 : decode cX12_keepSeen 65 = .ok (.iastore, 1) := by decide +kernel
theorem dX12_keepSeen_66 : decode cX12_keepSeen 66 = .ok (.iinc 2 1, 3) := by decide +kernel
theorem dX12_keepSeen_69 : decode cX12_keepSeen 69 = .ok (.goto (-67), 3) := by decide +kernel
theorem dX12_keepSeen_72 : decode cX12_keepSeen 72 = .ok (.aload_n 0, 1) := by decide +kernel
theorem dX12_keepSeen_73 : decode cX12_keepSeen 73 = .ok (.iload_n 1, 1) := by decide +kernel
theorem dX12_keepSeen_74 : decode cX12_keepSeen 74 = .ok (.putfield 144, 3) := by decide +kernel
theorem dX12_keepSeen_77 : decode cX12_keepSeen 77 = .ok (.return_, 1) := by decide +kernel
theorem dX12_canHaveBegun_0 : decode cX12_canHaveBegun 0 = .ok (.aload_n 0, 1) := by decide +kernel
theorem dX12_canHaveBegun_1 : decode cX12_canHaveBegun 1 = .ok (.getfield 54, 3) := by decide +kernel
theorem dX12_canHaveBegun_4 : decode cX12_canHaveBegun 4 = .ok (.getfield 159, 3) := by decide +kernel
theorem dX12_canHaveBegun_7 : decode cX12_canHaveBegun 7 = .ok (.iload_n 1, 1) := by decide +kernel
theorem dX12_canHaveBegun_8 : decode cX12_canHaveBegun 8 = .ok (.invokestatic 216, 3) := by decide +kernel
theorem dX12_canHaveBegun_11 : decode cX12_canHaveBegun 11 = .ok (.iconst 1, 1) := by decide +kernel
theorem dX12_canHaveBegun_12 : decode cX12_canHaveBegun 12 = .ok (.if_icmp .ne 5, 3) := by decide +kernel
theorem dX12_canHaveBegun_15 : decode cX12_canHaveBegun 15 = .ok (.iconst 0, 1) := by decide +kernel
theorem dX12_canHaveBegun_16 : decode cX12_canHaveBegun 16 = .ok (.ireturn, 1) := by decide +kernel
theorem dX12_canHaveBegun_17 : decode cX12_canHaveBegun 17 = .ok (.aload_n 0, 1) := by decide +kernel
theorem dX12_canHaveBegun_18 : decode cX12_canHaveBegun 18 = .ok (.getfield 67, 3) := by decide +kernel
theorem dX12_canHaveBegun_21 : decode cX12_canHaveBegun 21 = .ok (.aload_n 0, 1) := by decide +kernel
theorem dX12_canHaveBegun_22 : decode cX12_canHaveBegun 22 = .ok (.getfield 54, 3) := by decide +kernel
theorem dX12_canHaveBegun_25 : decode cX12_canHaveBegun 25 = .ok (.aload_n 0, 1) := by decide +kernel
theorem dX12_canHaveBegun_26 : decode cX12_canHaveBegun 26 = .ok (.getfield 54, 3) := by decide +kernel
theorem dX12_canHaveBegun_29 : decode cX12_canHaveBegun 29 = .ok (.aload_n 0, 1) := by decide +kernel
theorem dX12_canHaveBegun_30 : decode cX12_canHaveBegun 30 = .ok (.getfield 80, 3) := by decide +kernel
theorem dX12_canHaveBegun_33 : decode cX12_canHaveBegun 33 = .ok (.getfield 178, 3) := by decide +kernel
theorem dX12_canHaveBegun_36 : decode cX12_canHaveBegun 36 = .ok (.invokevirtual 291, 3) := by decide +kernel
theorem dX12_canHaveBegun_39 : decode cX12_canHaveBegun 39 = .ok (.iload_n 1, 1) := by decide +kernel
theorem dX12_canHaveBegun_40 : decode cX12_canHaveBegun 40 = .ok (.aload_n 0, 1) := by decide +kernel
theorem dX12_canHaveBegun_41 : decode cX12_canHaveBegun 41 = .ok (.getfield 80, 3) := by decide +kernel
theorem dX12_canHaveBegun_44 : decode cX12_canHaveBegun 44 = .ok (.getfield 175, 3) := by decide +kernel
theorem dX12_canHaveBegun_47 : decode cX12_canHaveBegun 47 = .ok (.invokevirtual 296, 3) := by decide +kernel
theorem dX12_canHaveBegun_50 : decode cX12_canHaveBegun 50 = .ok (.iconst 1, 1) := by decide +kernel
theorem dX12_canHaveBegun_51 : decode cX12_canHaveBegun 51 = .ok (.istore_n 2, 1) := by decide +kernel
theorem dX12_canHaveBegun_52 : decode cX12_canHaveBegun 52 = .ok (.iconst 0, 1) := by decide +kernel
theorem dX12_canHaveBegun_53 : decode cX12_canHaveBegun 53 = .ok (.istore_n 3, 1) := by decide +kernel
theorem dX12_canHaveBegun_54 : decode cX12_canHaveBegun 54 = .ok (.iload_n 3, 1) := by decide +kernel
theorem dX12_canHaveBegun_55 : decode cX12_canHaveBegun 55 = .ok (.aload_n 0, 1) := by decide +kernel
theorem dX12_canHaveBegun_56 : decode cX12_canHaveBegun 56 = .ok (.getfield 144, 3) := by decide +kernel
theorem dX12_canHaveBegun_59 : decode cX12_canHaveBegun 59 = .ok (.if_icmp .ge 48, 3) := by decide +kernel
theorem dX12_canHaveBegun_62 : decode cX12_canHaveBegun 62 = .ok (.iload_n 2, 1) := by decide +kernel
theorem dX12_canHaveBegun_63 : decode cX12_canHaveBegun 63 = .ok (.ifCond .eq 44, 3) := by decide +kernel
theorem dX12_canHaveBegun_66 : decode cX12_canHaveBegun 66 = .ok (.aload_n 0, 1) := by decide +kernel
theorem dX12_canHaveBegun_67 : decode cX12_canHaveBegun 67 = .ok (.getfield 67, 3) := by decide +kernel
theorem dX12_canHaveBegun_70 : decode cX12_canHaveBegun 70 = .ok (.getfield 275, 3) := by decide +kernel
theorem dX12_canHaveBegun_73 : decode cX12_canHaveBegun 73 = .ok (.aload_n 0, 1) := by decide +kernel
theorem dX12_canHaveBegun_74 : decode cX12_canHaveBegun 74 = .ok (.getfield 94, 3) := by decide +kernel
theorem dX12_canHaveBegun_77 : decode cX12_canHaveBegun 77 = .ok (.iload_n 3, 1) := by decide +kernel
theorem dX12_canHaveBegun_78 : decode cX12_canHaveBegun 78 = .ok (.iconst 2, 1) := by decide +kernel
theorem dX12_canHaveBegun_79 : decode cX12_canHaveBegun 79 = .ok (.imul, 1) := by decide +kernel
theorem dX12_canHaveBegun_80 : decode cX12_canHaveBegun 80 = .ok (.iaload, 1) := by decide +kernel
theorem dX12_canHaveBegun_81 : decode cX12_canHaveBegun 81 = .ok (.iaload, 1) := by decide +kernel
theorem dX12_canHaveBegun_82 : decode cX12_canHaveBegun 82 = .ok (.aload_n 0, 1) := by decide +kernel
theorem dX12_canHaveBegun_83 : decode cX12_canHaveBegun 83 = .ok (.getfield 94, 3) := by decide +kernel
theorem dX12_canHaveBegun_86 : decode cX12_canHaveBegun 86 = .ok (.iload_n 3, 1) := by decide +kernel
theorem dX12_canHaveBegun_87 : decode cX12_canHaveBegun 87 = .ok (.iconst 2, 1) := by decide +kernel
theorem dX12_canHaveBegun_88 : decode cX12_canHaveBegun 88 = .ok (.imul, 1) := by decide +kernel
theorem dX12_canHaveBegun_89 : decode cX12_canHaveBegun 89 = .ok (.iconst 1, 1) := by decide +kernel
theorem dX12_canHaveBegun_90 : decode cX12_canHaveBegun 90 = .ok (.iadd, 1) := by decide +kernel
theorem dX12_canHaveBegun_91 : decode cX12_canHaveBegun 91 = .ok (.iaload, 1) := by decide +kernel
theorem dX12_canHaveBegun_92 : decode cX12_canHaveBegun 92 = .ok (.if_icmp .ne 7, 3) := by decide +kernel
theorem dX12_canHaveBegun_95 : decode cX12_canHaveBegun 95 = .ok (.iconst 1, 1) := by decide +kernel
theorem dX12_canHaveBegun_96 : decode cX12_canHaveBegun 96 = .ok (.goto 4, 3) := by decide +kernel
theorem dX12_canHaveBegun_99 : decode cX12_canHaveBegun 99 = .ok (.iconst 0, 1) := by decide +kernel
theorem dX12_canHaveBegun_100 : decode cX12_canHaveBegun 100 = .ok (.istore_n 2, 1) := by decide +kernel
theorem dX12_canHaveBegun_101 : decode cX12_canHaveBegun 101 = .ok (.iinc 3 1, 3) := by decide +kernel
theorem dX12_canHaveBegun_104 : decode cX12_canHaveBegun 104 = .ok (.goto (-50), 3) := by decide +kernel
theorem dX12_canHaveBegun_107 : decode cX12_canHaveBegun 107 = .ok (.iload_n 2, 1) := by decide +kernel
theorem dX12_canHaveBegun_108 : decode cX12_canHaveBegun 108 = .ok (.ireturn, 1) := by decide +kernel
theorem dX12_mostLeft_0 : decode cX12_mostLeft 0 = .ok (.bipush 49, 2) := by decide +kernel
theorem dX12_mostLeft_2 : decode cX12_mostLeft 2 = .ok (.aload_n 0, 1) := by decide +kernel
theorem dX12_mostLeft_3 : decode cX12_mostLeft 3 = .ok (.getfield 54, 3) := by decide +kernel
theorem dX12_mostLeft_6 : decode cX12_mostLeft 6 = .ok (.invokevirtual 320, 3) := by decide +kernel
theorem dX12_mostLeft_9 : decode cX12_mostLeft 9 = .ok (.invokestatic 330, 3) := by decide +kernel
theorem dX12_mostLeft_12 : decode cX12_mostLeft 12 = .ok (.istore_n 2, 1) := by decide +kernel
theorem dX12_mostLeft_13 : decode cX12_mostLeft 13 = .ok (.iconst 0, 1) := by decide +kernel
theorem dX12_mostLeft_14 : decode cX12_mostLeft 14 = .ok (.istore_n 3, 1) := by decide +kernel
theorem dX12_mostLeft_15 : decode cX12_mostLeft 15 = .ok (.iload_n 3, 1) := by decide +kernel
theorem dX12_mostLeft_16 : decode cX12_mostLeft 16 = .ok (.iload_n 2, 1) := by decide +kernel
theorem dX12_mostLeft_17 : decode cX12_mostLeft 17 = .ok (.if_icmp .ge 16, 3) := by decide +kernel
theorem dX12_mostLeft_20 : decode cX12_mostLeft 20 = .ok (.aload_n 0, 1) := by decide +kernel
theorem dX12_mostLeft_21 : decode cX12_mostLeft 21 = .ok (.getfield 98, 3) := by decide +kernel
theorem dX12_mostLeft_24 : decode cX12_mostLeft 24 = .ok (.iload_n 3, 1) := by decide +kernel
theorem dX12_mostLeft_25 : decode cX12_mostLeft 25 = .ok (.iconst 0, 1) := by decide +kernel
theorem dX12_mostLeft_26 : decode cX12_mostLeft 26 = .ok (.iastore, 1) := by decide +kernel
theorem dX12_mostLeft_27 : decode cX12_mostLeft 27 = .ok (.iinc 3 1, 3) := by decide +kernel
theorem dX12_mostLeft_30 : decode cX12_mostLeft 30 = .ok (.goto (-15), 3) := by decide +kernel
theorem dX12_mostLeft_33 : decode cX12_mostLeft 33 = .ok (.iconst 0, 1) := by decide +kernel
theorem dX12_mostLeft_34 : decode cX12_mostLeft 34 = .ok (.istore_n 3, 1) := by decide +kernel
theorem dX12_mostLeft_35 : decode cX12_mostLeft 35 = .ok (.iconst 0, 1) := by decide +kernel
theorem dX12_mostLeft_36 : decode cX12_mostLeft 36 = .ok (.istore 4, 2) := by decide +kernel
theorem dX12_mostLeft_38 : decode cX12_mostLeft 38 = .ok (.iload 4, 2) := by decide +kernel
theorem dX12_mostLeft_40 : decode cX12_mostLeft 40 = .ok (.iload_n 2, 1) := by decide +kernel
theorem dX12_mostLeft_41 : decode cX12_mostLeft 41 = .ok (.if_icmp .ge 52, 3) := by decide +kernel
theorem dX12_mostLeft_44 : decode cX12_mostLeft 44 = .ok (.aload_n 0, 1) := by decide +kernel
theorem dX12_mostLeft_45 : decode cX12_mostLeft 45 = .ok (.iload 4, 2) := by decide +kernel
theorem dX12_mostLeft_47 : decode cX12_mostLeft 47 = .ok (.invokevirtual 348, 3) := by decide +kernel
theorem dX12_mostLeft_50 : decode cX12_mostLeft 50 = .ok (.ifCond .eq 37, 3) := by decide +kernel
theorem dX12_mostLeft_53 : decode cX12_mostLeft 53 = .ok (.aload_n 0, 1) := by decide +kernel
theorem dX12_mostLeft_54 : decode cX12_mostLeft 54 = .ok (.getfield 67, 3) := by decide +kernel
theorem dX12_mostLeft_57 : decode cX12_mostLeft 57 = .ok (.getfield 275, 3) := by decide +kernel
theorem dX12_mostLeft_60 : decode cX12_mostLeft 60 = .ok (.iload_n 1, 1) := by decide +kernel
theorem dX12_mostLeft_61 : decode cX12_mostLeft 61 = .ok (.iaload, 1) := by decide +kernel
theorem dX12_mostLeft_62 : decode cX12_mostLeft 62 = .ok (.istore 5, 2) := by decide +kernel
theorem dX12_mostLeft_64 : decode cX12_mostLeft 64 = .ok (.aload_n 0, 1) := by decide +kernel
theorem dX12_mostLeft_65 : decode cX12_mostLeft 65 = .ok (.getfield 98, 3) := by decide +kernel
theorem dX12_mostLeft_68 : decode cX12_mostLeft 68 = .ok (.iload 5, 2) := by decide +kernel
theorem dX12_mostLeft_70 : decode cX12_mostLeft 70 = .ok (.dup2, 1) := by decide +kernel
theorem dX12_mostLeft_71 : decode cX12_mostLeft 71 = .ok (.iaload, 1) := by decide +kernel
theorem dX12_mostLeft_72 : decode cX12_mostLeft 72 = .ok (.iconst 1, 1) := by decide +kernel
theorem dX12_mostLeft_73 : decode cX12_mostLeft 73 = .ok (.iadd, 1) := by decide +kernel
theorem dX12_mostLeft_74 : decode cX12_mostLeft 74 = .ok (.iastore, 1) := by decide +kernel
theorem dX12_mostLeft_75 : decode cX12_mostLeft 75 = .ok (.iload_n 3, 1) := by decide +kernel
theorem dX12_mostLeft_76 : decode cX12_mostLeft 76 = .ok (.aload_n 0, 1) := by decide +kernel
theorem dX12_mostLeft_77 : decode cX12_mostLeft 77 = .ok (.getfield 98, 3) := by decide +kernel
theorem dX12_mostLeft_80 : decode cX12_mostLeft 80 = .ok (.iload 5, 2) := by decide +kernel
theorem dX12_mostLeft_82 : decode cX12_mostLeft 82 = .ok (.iaload, 1) := by decide +kernel
theorem dX12_mostLeft_83 : decode cX12_mostLeft 83 = .ok (.invokestatic 390, 3) := by decide +kernel
theorem dX12_mostLeft_86 : decode cX12_mostLeft 86 = .ok (.istore_n 3, 1) := by decide +kernel
theorem dX12_mostLeft_87 : decode cX12_mostLeft 87 = .ok (.iinc 4 1, 3) := by decide +kernel
theorem dX12_mostLeft_90 : decode cX12_mostLeft 90 = .ok (.goto (-52), 3) := by decide +kernel
theorem dX12_mostLeft_93 : decode cX12_mostLeft 93 = .ok (.iload_n 3, 1) := by decide +kernel
theorem dX12_mostLeft_94 : decode cX12_mostLeft 94 = .ok (.ireturn, 1) := by decide +kernel
theorem dX12_drawOfHundred_0 : decode cX12_drawOfHundred 0 = .ok (.aload_n 0, 1) := by decide +kernel
theorem dX12_drawOfHundred_1 : decode cX12_drawOfHundred 1 = .ok (.ldc2_w 393, 3) := by decide +kernel
theorem dX12_drawOfHundred_4 : decode cX12_drawOfHundred 4 = .ok (.aload_n 0, 1) := by decide +kernel
theorem dX12_drawOfHundred_5 : decode cX12_drawOfHundred 5 = .ok (.getfield 111, 3) := by decide +kernel
theorem dX12_drawOfHundred_8 : decode cX12_drawOfHundred 8 = .ok (.i2l, 1) := by decide +kernel
theorem dX12_drawOfHundred_9 : decode cX12_drawOfHundred 9 = .ok (.lmul, 1) := by decide +kernel
theorem dX12_drawOfHundred_10 : decode cX12_drawOfHundred 10 = .ok (.ldc2_w 395, 3) := by decide +kernel
theorem dX12_drawOfHundred_13 : decode cX12_drawOfHundred 13 = .ok (.ladd, 1) := by decide +kernel
theorem dX12_drawOfHundred_14 : decode cX12_drawOfHundred 14 = .ok (.ldc2_w 397, 3) := by decide +kernel
theorem dX12_drawOfHundred_17 : decode cX12_drawOfHundred 17 = .ok (.lrem, 1) := by decide +kernel
theorem dX12_drawOfHundred_18 : decode cX12_drawOfHundred 18 = .ok (.l2i, 1) := by decide +kernel
theorem dX12_drawOfHundred_19 : decode cX12_drawOfHundred 19 = .ok (.putfield 111, 3) := by decide +kernel
theorem dX12_drawOfHundred_22 : decode cX12_drawOfHundred 22 = .ok (.aload_n 0, 1) := by decide +kernel
theorem dX12_drawOfHundred_23 : decode cX12_drawOfHundred 23 = .ok (.getfield 111, 3) := by decide +kernel
theorem dX12_drawOfHundred_26 : decode cX12_drawOfHundred 26 = .ok (.bipush 64, 2) := by decide +kernel
theorem dX12_drawOfHundred_28 : decode cX12_drawOfHundred 28 = .ok (.idiv, 1) := by decide +kernel
theorem dX12_drawOfHundred_29 : decode cX12_drawOfHundred 29 = .ok (.bipush 100, 2) := by decide +kernel
theorem dX12_drawOfHundred_31 : decode cX12_drawOfHundred 31 = .ok (.irem, 1) := by decide +kernel
theorem dX12_drawOfHundred_32 : decode cX12_drawOfHundred 32 = .ok (.ireturn, 1) := by decide +kernel
theorem dX12_putPair_0 : decode cX12_putPair 0 = .ok (.aload_n 0, 1) := by decide +kernel
theorem dX12_putPair_1 : decode cX12_putPair 1 = .ok (.getfield 105, 3) := by decide +kernel
theorem dX12_putPair_4 : decode cX12_putPair 4 = .ok (.iload_n 1, 1) := by decide +kernel
theorem dX12_putPair_5 : decode cX12_putPair 5 = .ok (.iload_n 2, 1) := by decide +kernel
theorem dX12_putPair_6 : decode cX12_putPair 6 = .ok (.bipush 8, 2) := by decide +kernel
theorem dX12_putPair_8 : decode cX12_putPair 8 = .ok (.ishr, 1) := by decide +kernel
theorem dX12_putPair_9 : decode cX12_putPair 9 = .ok (.iastore, 1) := by decide +kernel
theorem dX12_putPair_10 : decode cX12_putPair 10 = .ok (.aload_n 0, 1) := by decide +kernel
theorem dX12_putPair_11 : decode cX12_putPair 11 = .ok (.getfield 105, 3) := by decide +kernel
theorem dX12_putPair_14 : decode cX12_putPair 14 = .ok (.iload_n 1, 1) := by decide +kernel
theorem dX12_putPair_15 : decode cX12_putPair 15 = .ok (.iconst 1, 1) := by decide +kernel
theorem dX12_putPair_16 : decode cX12_putPair 16 = .ok (.iadd, 1) := by decide +kernel
theorem dX12_putPair_17 : decode cX12_putPair 17 = .ok (.iload_n 2, 1) := by decide +kernel
theorem dX12_putPair_18 : decode cX12_putPair 18 = .ok (.sipush 255, 3) := by decide +kernel
theorem dX12_putPair_21 : decode cX12_putPair 21 = .ok (.iand, 1) := by decide +kernel
theorem dX12_putPair_22 : decode cX12_putPair 22 = .ok (.iastore, 1) := by decide +kernel
theorem dX12_putPair_23 : decode cX12_putPair 23 = .ok (.return_, 1) := by decide +kernel
theorem dX12_tapeIsImage_0 : decode cX12_tapeIsImage 0 = .ok (.iconst 3, 1) := by decide +kernel
theorem dX12_tapeIsImage_1 : decode cX12_tapeIsImage 1 = .ok (.bipush 6, 2) := by decide +kernel
theorem dX12_tapeIsImage_3 : decode cX12_tapeIsImage 3 = .ok (.aload_n 0, 1) := by decide +kernel
theorem dX12_tapeIsImage_4 : decode cX12_tapeIsImage 4 = .ok (.getfield 54, 3) := by decide +kernel
theorem dX12_tapeIsImage_7 : decode cX12_tapeIsImage 7 = .ok (.getfield 172, 3) := by decide +kernel
theorem dX12_tapeIsImage_10 : decode cX12_tapeIsImage 10 = .ok (.imul, 1) := by decide +kernel
theorem dX12_tapeIsImage_11 : decode cX12_tapeIsImage 11 = .ok (.iadd, 1) := by decide +kernel
theorem dX12_tapeIsImage_12 : decode cX12_tapeIsImage 12 = .ok (.istore_n 1, 1) := by decide +kernel
theorem dX12_tapeIsImage_13 : decode cX12_tapeIsImage 13 = .ok (.aload_n 0, 1) := by decide +kernel
theorem dX12_tapeIsImage_14 : decode cX12_tapeIsImage 14 = .ok (.getfield 12, 3) := by decide +kernel
theorem dX12_tapeIsImage_17 : decode cX12_tapeIsImage 17 = .ok (.getfield 115, 3) := by decide +kernel
theorem dX12_tapeIsImage_20 : decode cX12_tapeIsImage 20 = .ok (.iload_n 1, 1) := by decide +kernel
theorem dX12_tapeIsImage_21 : decode cX12_tapeIsImage 21 = .ok (.iconst 1, 1) := by decide +kernel
theorem dX12_tapeIsImage_22 : decode cX12_tapeIsImage 22 = .ok (.iadd, 1) := by decide +kernel
theorem dX12_tapeIsImage_23 : decode cX12_tapeIsImage 23 = .ok (.if_icmp .ne 37, 3) := by decide +kernel
theorem dX12_tapeIsImage_26 : decode cX12_tapeIsImage 26 = .ok (.aload_n 0, 1) := by decide +kernel
theorem dX12_tapeIsImage_27 : decode cX12_tapeIsImage 27 = .ok (.getfield 12, 3) := by decide +kernel
theorem dX12_tapeIsImage_30 : decode cX12_tapeIsImage 30 = .ok (.iconst 0, 1) := by decide +kernel
theorem dX12_tapeIsImage_31 : decode cX12_tapeIsImage 31 = .ok (.invokevirtual 399, 3) := by decide +kernel
theorem dX12_tapeIsImage_34 : decode cX12_tapeIsImage 34 = .ok (.sipush 999, 3) := by decide +kernel
theorem dX12_tapeIsImage_37 : decode cX12_tapeIsImage 37 = .ok (.if_icmp .gt 23, 3) := by decide +kernel
theorem dX12_tapeIsImage_40 : decode cX12_tapeIsImage 40 = .ok (.aload_n 0, 1) := by decide +kernel
theorem dX12_tapeIsImage_41 : decode cX12_tapeIsImage 41 = .ok (.getfield 12, 3) := by decide +kernel
theorem dX12_tapeIsImage_44 : decode cX12_tapeIsImage 44 = .ok (.iconst 2, 1) := by decide +kernel
theorem dX12_tapeIsImage_45 : decode cX12_tapeIsImage 45 = .ok (.invokevirtual 342, 3) := by decide +kernel
theorem dX12_tapeIsImage_48 : decode cX12_tapeIsImage 48 = .ok (.iconst 1, 1) := by decide +kernel
theorem dX12_tapeIsImage_49 : decode cX12_tapeIsImage 49 = .ok (.aload_n 0, 1) := by decide +kernel
theorem dX12_tapeIsImage_50 : decode cX12_tapeIsImage 50 = .ok (.getfield 54, 3) := by decide +kernel
theorem dX12_tapeIsImage_53 : decode cX12_tapeIsImage 53 = .ok (.getfield 169, 3) := by decide +kernel
theorem dX12_tapeIsImage_56 : decode cX12_tapeIsImage 56 = .ok (.ishl, 1) := by decide +kernel
theorem dX12_tapeIsImage_57 : decode cX12_tapeIsImage 57 = .ok (.if_icmp .lt 5, 3) := by decide +kernel
theorem dX12_tapeIsImage_60 : decode cX12_tapeIsImage 60 = .ok (.iconst 0, 1) := by decide +kernel
theorem dX12_tapeIsImage_61 : decode cX12_tapeIsImage 61 = .ok (.ireturn, 1) := by decide +kernel
theorem dX12_tapeIsImage_62 : decode cX12_tapeIsImage 62 = .ok (.iconst 1, 1) := by decide +kernel
theorem dX12_tapeIsImage_63 : decode cX12_tapeIsImage 63 = .ok (.istore_n 2, 1) := by decide +kernel
theorem dX12_tapeIsImage_64 : decode cX12_tapeIsImage 64 = .ok (.iconst 3, 1) := by decide +kernel
theorem dX12_tapeIsImage_65 : decode cX12_tapeIsImage 65 = .ok (.istore_n 3, 1) := by decide +kernel
theorem dX12_tapeIsImage_66 : decode cX12_tapeIsImage 66 = .ok (.iload_n 3, 1) := by decide +kernel
theorem dX12_tapeIsImage_67 : decode cX12_tapeIsImage 67 = .ok (.iload_n 1, 1) := by decide +kernel
theorem dX12_tapeIsImage_68 : decode cX12_tapeIsImage 68 = .ok (.if_icmp .ge 78, 3) := by decide +kernel
theorem dX12_tapeIsImage_71 : decode cX12_tapeIsImage 71 = .ok (.iload_n 2, 1) := by decide +kernel
theorem dX12_tapeIsImage_72 : decode cX12_tapeIsImage 72 = .ok (.ifCond .eq 74, 3) := by decide +kernel
theorem dX12_tapeIsImage_75 : decode cX12_tapeIsImage 75 = .ok (.aload_n 0, 1) := by decide +kernel
theorem dX12_tapeIsImage_76 : decode cX12_tapeIsImage 76 = .ok (.getfield 12, 3) := by decide +kernel
theorem dX12_tapeIsImage_79 : decode cX12_tapeIsImage 79 = .ok (.iload_n 3, 1) := by decide +kernel
theorem dX12_tapeIsImage_80 : decode cX12_tapeIsImage 80 = .ok (.invokevirtual 342, 3) := by decide +kernel
theorem dX12_tapeIsImage_83 : decode cX12_tapeIsImage 83 = .ok (.iconst 3, 1) := by decide +kernel
theorem dX12_tapeIsImage_84 : decode cX12_tapeIsImage 84 = .ok (.if_icmp .gt 54, 3) := by decide +kernel
theorem dX12_tapeIsImage_87 : decode cX12_tapeIsImage 87 = .ok (.aload_n 0, 1) := by decide +kernel
theorem dX12_tapeIsImage_88 : decode cX12_tapeIsImage 88 = .ok (.getfield 12, 3) := by decide +kernel
theorem dX12_tapeIsImage_91 : decode cX12_tapeIsImage 91 = .ok (.iload_n 3, 1) := by decide +kernel
theorem dX12_tapeIsImage_92 : decode cX12_tapeIsImage 92 = .ok (.iconst 1, 1) := by decide +kernel
theorem dX12_tapeIsImage_93 : decode cX12_tapeIsImage 93 = .ok (.iadd, 1) := by decide +kernel
theorem dX12_tapeIsImage_94 : decode cX12_tapeIsImage 94 = .ok (.invokevirtual 399, 3) := by decide +kernel
theorem dX12_tapeIsImage_97 : decode cX12_tapeIsImage 97 = .ok (.sipush 9999, 3) := by decide +kernel
theorem dX12_tapeIsImage_100 : decode cX12_tapeIsImage 100 = .ok (.if_icmp .gt 38, 3) := by decide +kernel
theorem dX12_tapeIsImage_103 : decode cX12_tapeIsImage 103 = .ok (.aload_n 0, 1) := by decide +kernel
theorem dX12_tapeIsImage_104 : decode cX12_tapeIsImage 104 = .ok (.getfield 12, 3) := by decide +kernel
theorem dX12_tapeIsImage_107 : decode cX12_tapeIsImage 107 = .ok (.iload_n 3, 1) := by decide +kernel
theorem dX12_tapeIsImage_108 : decode cX12_tapeIsImage 108 = .ok (.iconst 3, 1) := by decide +kernel
theorem dX12_tapeIsImage_109 : decode cX12_tapeIsImage 109 = .ok (.iadd, 1) := by decide +kernel
theorem dX12_tapeIsImage_110 : decode cX12_tapeIsImage 110 = .ok (.invokevirtual 399, 3) := by decide +kernel
theorem dX12_tapeIsImage_113 : decode cX12_tapeIsImage 113 = .ok (.sipush 9999, 3) := by decide +kernel
theorem dX12_tapeIsImage_116 : decode cX12_tapeIsImage 116 = .ok (.if_icmp .gt 22, 3) := by decide +kernel
theorem dX12_tapeIsImage_119 : decode cX12_tapeIsImage 119 = .ok (.aload_n 0, 1) := by decide +kernel
theorem dX12_tapeIsImage_120 : decode cX12_tapeIsImage 120 = .ok (.getfield 12, 3) := by decide +kernel
theorem dX12_tapeIsImage_123 : decode cX12_tapeIsImage 123 = .ok (.iload_n 3, 1) := by decide +kernel
theorem dX12_tapeIsImage_124 : decode cX12_tapeIsImage 124 = .ok (.iconst 5, 1) := by decide +kernel
theorem dX12_tapeIsImage_125 : decode cX12_tapeIsImage 125 = .ok (.iadd, 1) := by decide +kernel
theorem dX12_tapeIsImage_126 : decode cX12_tapeIsImage 126 = .ok (.invokevirtual 342, 3) := by decide +kernel
theorem dX12_tapeIsImage_129 : decode cX12_tapeIsImage 129 = .ok (.bipush 99, 2) := by decide +kernel
theorem dX12_tapeIsImage_131 : decode cX12_tapeIsImage 131 = .ok (.if_icmp .gt 7, 3) := by decide +kernel
theorem dX12_tapeIsImage_134 : decode cX12_tapeIsImage 134 = .ok (.iconst 1, 1) := by decide +kernel
theorem dX12_tapeIsImage_135 : decode cX12_tapeIsImage 135 = .ok (.goto 4, 3) := by decide +kernel
theorem dX12_tapeIsImage_138 : decode cX12_tapeIsImage 138 = .ok (.iconst 0, 1) := by decide +kernel
theorem dX12_tapeIsImage_139 : decode cX12_tapeIsImage 139 = .ok (.istore_n 2, 1) := by decide +kernel
theorem dX12_tapeIsImage_140 : decode cX12_tapeIsImage 140 = .ok (.iinc 3 6, 3) := by decide +kernel
theorem dX12_tapeIsImage_143 : decode cX12_tapeIsImage 143 = .ok (.goto (-77), 3) := by decide +kernel
theorem dX12_tapeIsImage_146 : decode cX12_tapeIsImage 146 = .ok (.bipush 79, 2) := by decide +kernel
theorem dX12_tapeIsImage_148 : decode cX12_tapeIsImage 148 = .ok (.istore_n 3, 1) := by decide +kernel
theorem dX12_tapeIsImage_149 : decode cX12_tapeIsImage 149 = .ok (.iconst 0, 1) := by decide +kernel
theorem dX12_tapeIsImage_150 : decode cX12_tapeIsImage 150 = .ok (.istore 4, 2) := by decide +kernel
theorem dX12_tapeIsImage_152 : decode cX12_tapeIsImage 152 = .ok (.iload 4, 2) := by decide +kernel
theorem dX12_tapeIsImage_154 : decode cX12_tapeIsImage 154 = .ok (.iload_n 1, 1) := by decide +kernel
theorem dX12_tapeIsImage_155 : decode cX12_tapeIsImage 155 = .ok (.if_icmp .ge 27, 3) := by decide +kernel
theorem dX12_tapeIsImage_158 : decode cX12_tapeIsImage 158 = .ok (.iconst 3, 1) := by decide +kernel
theorem dX12_tapeIsImage_159 : decode cX12_tapeIsImage 159 = .ok (.iload_n 3, 1) := by decide +kernel
theorem dX12_tapeIsImage_160 : decode cX12_tapeIsImage 160 = .ok (.imul, 1) := by decide +kernel
theorem dX12_tapeIsImage_161 : decode cX12_tapeIsImage 161 = .ok (.aload_n 0, 1) := by decide +kernel
theorem dX12_tapeIsImage_162 : decode cX12_tapeIsImage 162 = .ok (.getfield 12, 3) := by decide +kernel
theorem dX12_tapeIsImage_165 : decode cX12_tapeIsImage 165 = .ok (.iload 4, 2) := by decide +kernel
theorem dX12_tapeIsImage_167 : decode cX12_tapeIsImage 167 = .ok (.invokevirtual 342, 3) := by decide +kernel
theorem dX12_tapeIsImage_170 : decode cX12_tapeIsImage 170 = .ok (.iadd, 1) := by decide +kernel
theorem dX12_tapeIsImage_171 : decode cX12_tapeIsImage 171 = .ok (.sipush 251, 3) := by decide +kernel
theorem dX12_tapeIsImage_174 : decode cX12_tapeIsImage 174 = .ok (.irem, 1) := by decide +kernel
theorem dX12_tapeIsImage_175 : decode cX12_tapeIsImage 175 = .ok (.istore_n 3, 1) := by decide +kernel
theorem dX12_tapeIsImage_176 : decode cX12_tapeIsImage 176 = .ok (.iinc 4 1, 3) := by decide +kernel
theorem dX12_tapeIsImage_179 : decode cX12_tapeIsImage 179 = .ok (.goto (-27), 3) := by decide +kernel
theorem dX12_tapeIsImage_182 : decode cX12_tapeIsImage 182 = .ok (.iload_n 2, 1) := by decide +kernel
theorem dX12_tapeIsImage_183 : decode cX12_tapeIsImage 183 = .ok (.ifCond .eq 19, 3) := by decide +kernel
theorem dX12_tapeIsImage_186 : decode cX12_tapeIsImage 186 = .ok (.aload_n 0, 1) := by decide +kernel
theorem dX12_tapeIsImage_187 : decode cX12_tapeIsImage 187 = .ok (.getfield 12, 3) := by decide +kernel
theorem dX12_tapeIsImage_190 : decode cX12_tapeIsImage 190 = .ok (.iload_n 1, 1) := by decide +kernel
theorem dX12_tapeIsImage_191 : decode cX12_tapeIsImage 191 = .ok (.invokevirtual 342, 3) := by decide +kernel
theorem dX12_tapeIsImage_194 : decode cX12_tapeIsImage 194 = .ok (.iload_n 3, 1) := by decide +kernel
theorem dX12_tapeIsImage_195 : decode cX12_tapeIsImage 195 = .ok (.if_icmp .ne 7, 3) := by decide +kernel
theorem dX12_tapeIsImage_198 : decode cX12_tapeIsImage 198 = .ok (.iconst 1, 1) := by decide +kernel
theorem dX12_tapeIsImage_199 : decode cX12_tapeIsImage 199 = .ok (.goto 4, 3) := by decide +kernel
theorem dX12_tapeIsImage_202 : decode cX12_tapeIsImage 202 = .ok (.iconst 0, 1) := by decide +kernel
theorem dX12_tapeIsImage_203 : decode cX12_tapeIsImage 203 = .ok (.ireturn, 1) := by decide +kernel
theorem dX12_takeImage_0 : decode cX12_takeImage 0 = .ok (.aload_n 0, 1) := by decide +kernel
theorem dX12_takeImage_1 : decode cX12_takeImage 1 = .ok (.getfield 80, 3) := by decide +kernel
theorem dX12_takeImage_4 : decode cX12_takeImage 4 = .ok (.aload_n 0, 1) := by decide +kernel
theorem dX12_takeImage_5 : decode cX12_takeImage 5 = .ok (.getfield 54, 3) := by decide +kernel
theorem dX12_takeImage_8 : decode cX12_takeImage 8 = .ok (.invokevirtual 137, 3) := by decide +kernel
theorem dX12_takeImage_11 : decode cX12_takeImage 11 = .ok (.aload_n 0, 1) := by decide +kernel
theorem dX12_takeImage_12 : decode cX12_takeImage 12 = .ok (.getfield 80, 3) := by decide +kernel
theorem dX12_takeImage_15 : decode cX12_takeImage 15 = .ok (.aload_n 0, 1) := by decide +kernel
theorem dX12_takeImage_16 : decode cX12_takeImage 16 = .ok (.getfield 12, 3) := by decide +kernel
theorem dX12_takeImage_19 : decode cX12_takeImage 19 = .ok (.iconst 0, 1) := by decide +kernel
theorem dX12_takeImage_20 : decode cX12_takeImage 20 = .ok (.invokevirtual 399, 3) := by decide +kernel
theorem dX12_takeImage_23 : decode cX12_takeImage 23 = .ok (.putfield 175, 3) := by decide +kernel
theorem dX12_takeImage_26 : decode cX12_takeImage 26 = .ok (.aload_n 0, 1) := by decide +kernel
theorem dX12_takeImage_27 : decode cX12_takeImage 27 = .ok (.getfield 80, 3) := by decide +kernel
theorem dX12_takeImage_30 : decode cX12_takeImage 30 = .ok (.aload_n 0, 1) := by decide +kernel
theorem dX12_takeImage_31 : decode cX12_takeImage 31 = .ok (.getfield 12, 3) := by decide +kernel
theorem dX12_takeImage_34 : decode cX12_takeImage 34 = .ok (.iconst 2, 1) := by decide +kernel
theorem dX12_takeImage_35 : decode cX12_takeImage 35 = .ok (.invokevirtual 342, 3) := by decide +kernel
theorem dX12_takeImage_38 : decode cX12_takeImage 38 = .ok (.putfield 178, 3) := by decide +kernel
theorem dX12_takeImage_41 : decode cX12_takeImage 41 = .ok (.iconst 0, 1) := by decide +kernel
theorem dX12_takeImage_42 : decode cX12_takeImage 42 = .ok (.istore_n 1, 1) := by decide +kernel
theorem dX12_takeImage_43 : decode cX12_takeImage 43 = .ok (.iload_n 1, 1) := by decide +kernel
theorem dX12_takeImage_44 : decode cX12_takeImage 44 = .ok (.aload_n 0, 1) := by decide +kernel
theorem dX12_takeImage_45 : decode cX12_takeImage 45 = .ok (.getfield 54, 3) := by decide +kernel
theorem dX12_takeImage_48 : decode cX12_takeImage 48 = .ok (.getfield 172, 3) := by decide +kernel
theorem dX12_takeImage_51 : decode cX12_takeImage 51 = .ok (.if_icmp .ge 90, 3) := by decide +kernel
theorem dX12_takeImage_54 : decode cX12_takeImage 54 = .ok (.iconst 3, 1) := by decide +kernel
theorem dX12_takeImage_55 : decode cX12_takeImage 55 = .ok (.bipush 6, 2) := by decide +kernel
theorem dX12_takeImage_57 : decode cX12_takeImage 57 = .ok (.iload_n 1, 1) := by decide +kernel
theorem dX12_takeImage_58 : decode cX12_takeImage 58 = .ok (.imul, 1) := by decide +kernel
theorem dX12_takeImage_59 : decode cX12_takeImage 59 = .ok (.iadd, 1) := by decide +kernel
theorem dX12_takeImage_60 : decode cX12_takeImage 60 = .ok (.istore_n 2, 1) := by decide +kernel
theorem dX12_takeImage_61 : decode cX12_takeImage 61 = .ok (.aload_n 0, 1) := by decide +kernel
theorem dX12_takeImage_62 : decode cX12_takeImage 62 = .ok (.getfield 80, 3) := by decide +kernel
theorem dX12_takeImage_65 : decode cX12_takeImage 65 = .ok (.getfield 256, 3) := by decide +kernel
theorem dX12_takeImage_68 : decode cX12_takeImage 68 = .ok (.iload_n 1, 1) := by decide +kernel
theorem dX12_takeImage_69 : decode cX12_takeImage 69 = .ok (.aload_n 0, 1) := by decide +kernel
theorem dX12_takeImage_70 : decode cX12_takeImage 70 = .ok (.getfield 12, 3) := by decide +kernel
theorem dX12_takeImage_73 : decode cX12_takeImage 73 = .ok (.iload_n 2, 1) := by decide +kernel
theorem dX12_takeImage_74 : decode cX12_takeImage 74 = .ok (.invokevirtual 342, 3) := by decide +kernel
theorem dX12_takeImage_77 : decode cX12_takeImage 77 = .ok (.iastore, 1) := by decide +kernel
theorem dX12_takeImage_78 : decode cX12_takeImage 78 = .ok (.aload_n 0, 1) := by decide +kernel
theorem dX12_takeImage_79 : decode cX12_takeImage 79 = .ok (.getfield 80, 3) := by decide +kernel
theorem dX12_takeImage_82 : decode cX12_takeImage 82 = .ok (.getfield 259, 3) := by decide +kernel
theorem dX12_takeImage_85 : decode cX12_takeImage 85 = .ok (.iload_n 1, 1) := by decide +kernel
theorem dX12_takeImage_86 : decode cX12_takeImage 86 = .ok (.aload_n 0, 1) := by decide +kernel
theorem dX12_takeImage_87 : decode cX12_takeImage 87 = .ok (.getfield 12, 3) := by decide +kernel
theorem dX12_takeImage_90 : decode cX12_takeImage 90 = .ok (.iload_n 2, 1) := by decide +kernel
theorem dX12_takeImage_91 : decode cX12_takeImage 91 = .ok (.iconst 1, 1) := by decide +kernel
theorem dX12_takeImage_92 : decode cX12_takeImage 92 = .ok (.iadd, 1) := by decide +kernel
theorem dX12_takeImage_93 : decode cX12_takeImage 93 = .ok (.invokevirtual 399, 3) := by decide +kernel
theorem dX12_takeImage_96 : decode cX12_takeImage 96 = .ok (.iastore, 1) := by decide +kernel
theorem dX12_takeImage_97 : decode cX12_takeImage 97 = .ok (.aload_n 0, 1) := by decide +kernel
theorem dX12_takeImage_98 : decode cX12_takeImage 98 = .ok (.getfield 80, 3) := by decide +kernel
theorem dX12_takeImage_101 : decode cX12_takeImage 101 = .ok (.getfield 262, 3) := by decide +kernel
theorem dX12_takeImage_104 : decode cX12_takeImage 104 = .ok (.iload_n 1, 1) := by decide +kernel
theorem dX12_takeImage_105 : decode cX12_takeImage 105 = .ok (.aload_n 0, 1) := by decide +kernel
theorem dX12_takeImage_106 : decode cX12_takeImage 106 = .ok (.getfield 12, 3) := by decide +kernel
theorem dX12_takeImage_109 : decode cX12_takeImage 109 = .ok (.iload_n 2, 1) := by decide +kernel
theorem dX12_takeImage_110 : decode cX12_takeImage 110 = .ok (.iconst 3, 1) := by decide +kernel
theorem dX12_takeImage_111 : decode cX12_takeImage 111 = .ok (.iadd, 1) := by decide +kernel
theorem dX12_takeImage_112 : decode cX12_takeImage 112 = .ok (.invokevirtual 399, 3) := by decide +kernel
theorem dX12_takeImage_115 : decode cX12_takeImage 115 = .ok (.iastore, 1) := by decide +kernel
theorem dX12_takeImage_116 : decode cX12_takeImage 116 = .ok (.aload_n 0, 1) := by decide +kernel
theorem dX12_takeImage_117 : decode cX12_takeImage 117 = .ok (.getfield 80, 3) := by decide +kernel
theorem dX12_takeImage_120 : decode cX12_takeImage 120 = .ok (.getfield 265, 3) := by decide +kernel
theorem dX12_takeImage_123 : decode cX12_takeImage 123 = .ok (.iload_n 1, 1) := by decide +kernel
theorem dX12_takeImage_124 : decode cX12_takeImage 124 = .ok (.aload_n 0, 1) := by decide +kernel
theorem dX12_takeImage_125 : decode cX12_takeImage 125 = .ok (.getfield 12, 3) := by decide +kernel
theorem dX12_takeImage_128 : decode cX12_takeImage 128 = .ok (.iload_n 2, 1) := by decide +kernel
theorem dX12_takeImage_129 : decode cX12_takeImage 129 = .ok (.iconst 5, 1) := by decide +kernel
theorem dX12_takeImage_130 : decode cX12_takeImage 130 = .ok (.iadd, 1) := by decide +kernel
theorem dX12_takeImage_131 : decode cX12_takeImage 131 = .ok (.invokevirtual 342, 3) := by decide +kernel
theorem dX12_takeImage_134 : decode cX12_takeImage 134 = .ok (.iastore, 1) := by decide +kernel
theorem dX12_takeImage_135 : decode cX12_takeImage 135 = .ok (.iinc 1 1, 3) := by decide +kernel
theorem dX12_takeImage_138 : decode cX12_takeImage 138 = .ok (.goto (-95), 3) := by decide +kernel
theorem dX12_takeImage_141 : decode cX12_takeImage 141 = .ok (.aload_n 0, 1) := by decide +kernel
theorem dX12_takeImage_142 : decode cX12_takeImage 142 = .ok (.getfield 90, 3) := by decide +kernel
theorem dX12_takeImage_145 : decode cX12_takeImage 145 = .ok (.iconst 0, 1) := by decide +kernel
theorem dX12_takeImage_146 : decode cX12_takeImage 146 = .ok (.putfield 141, 3) := by decide +kernel
theorem dX12_takeImage_149 : decode cX12_takeImage 149 = .ok (.return_, 1) := by decide +kernel
theorem dL_law_0 : decode cL_law 0 = .ok (.new 7, 3) := by decide +kernel
theorem dL_law_3 : decode cL_law 3 = .ok (.dup, 1) := by decide +kernel
theorem dL_law_4 : decode cL_law 4 = .ok (.invokespecial 9, 3) := by decide +kernel
theorem dL_law_7 : decode cL_law 7 = .ok (.astore_n 1, 1) := by decide +kernel
theorem dL_law_8 : decode cL_law 8 = .ok (.new 10, 3) := by decide +kernel
theorem dL_law_11 : decode cL_law 11 = .ok (.dup, 1) := by decide +kernel
theorem dL_law_12 : decode cL_law 12 = .ok (.invokespecial 12, 3) := by decide +kernel
theorem dL_law_15 : decode cL_law 15 = .ok (.astore_n 2, 1) := by decide +kernel
theorem dL_law_16 : decode cL_law 16 = .ok (.iconst 0, 1) := by decide +kernel
theorem dL_law_17 : decode cL_law 17 = .ok (.istore_n 3, 1) := by decide +kernel
theorem dL_law_18 : decode cL_law 18 = .ok (.iload_n 3, 1) := by decide +kernel
theorem dL_law_19 : decode cL_law 19 = .ok (.aload_n 0, 1) := by decide +kernel
theorem dL_law_20 : decode cL_law 20 = .ok (.arraylength, 1) := by decide +kernel
theorem dL_law_21 : decode cL_law 21 = .ok (.bipush 6, 2) := by decide +kernel
theorem dL_law_23 : decode cL_law 23 = .ok (.isub, 1) := by decide +kernel
theorem dL_law_24 : decode cL_law 24 = .ok (.if_icmp .gt 975, 3) := by decide +kernel
theorem dL_law_27 : decode cL_law 27 = .ok (.aload_n 0, 1) := by decide +kernel
theorem dL_law_28 : decode cL_law 28 = .ok (.iload_n 3, 1) := by decide +kernel
theorem dL_law_29 : decode cL_law 29 = .ok (.iaload, 1) := by decide +kernel
theorem dL_law_30 : decode cL_law 30 = .ok (.bipush 31, 2) := by decide +kernel
theorem dL_law_32 : decode cL_law 32 = .ok (.iand, 1) := by decide +kernel
theorem dL_law_33 : decode cL_law 33 = .ok (.tableswitch 960 0 31 #[143, 206, 229, 242, 265, 288, 331, 374, 407, 440, 473, 506, 529, 552, 565, 578, 611, 644, 667, 680, 703, 726, 759, 792, 815, 838, 851, 874, 888, 901, 924, 937], 143) := by decide +kernel
theorem dL_law_176 : decode cL_law 176 = .ok (.aload_n 1, 1) := by decide +kernel
theorem dL_law_177 : decode cL_law 177 = .ok (.aload_n 0, 1) := by decide +kernel
theorem dL_law_178 : decode cL_law 178 = .ok (.iload_n 3, 1) := by decide +kernel
theorem dL_law_179 : decode cL_law 179 = .ok (.iconst 1, 1) := by decide +kernel
theorem dL_law_180 : decode cL_law 180 = .ok (.iadd, 1) := by decide +kernel
theorem dL_law_181 : decode cL_law 181 = .ok (.iaload, 1) := by decide +kernel
theorem dL_law_182 : decode cL_law 182 = .ok (.aload_n 0, 1) := by decide +kernel
theorem dL_law_183 : decode cL_law 183 = .ok (.iload_n 3, 1) := by decide +kernel
theorem dL_law_184 : decode cL_law 184 = .ok (.iconst 2, 1) := by decide +kernel
theorem dL_law_185 : decode cL_law 185 = .ok (.iadd, 1) := by decide +kernel
theorem dL_law_186 : decode cL_law 186 = .ok (.iaload, 1) := by decide +kernel
theorem dL_law_187 : decode cL_law 187 = .ok (.aload_n 0, 1) := by decide +kernel
theorem dL_law_188 : decode cL_law 188 = .ok (.iload_n 3, 1) := by decide +kernel
theorem dL_law_189 : decode cL_law 189 = .ok (.iconst 3, 1) := by decide +kernel
theorem dL_law_190 : decode cL_law 190 = .ok (.iadd, 1) := by decide +kernel
theorem dL_law_191 : decode cL_law 191 = .ok (.iaload, 1) := by decide +kernel
theorem dL_law_192 : decode cL_law 192 = .ok (.aload_n 0, 1) := by decide +kernel
theorem dL_law_193 : decode cL_law 193 = .ok (.iload_n 3, 1) := by decide +kernel
theorem dL_law_194 : decode cL_law 194 = .ok (.iconst 4, 1) := by decide +kernel
theorem dL_law_195 : decode cL_law 195 = .ok (.iadd, 1) := by decide +kernel
theorem dL_law_196 : decode cL_law 196 = .ok (.iaload, 1) := by decide +kernel
theorem dL_law_197 : decode cL_law 197 = .ok (.aload_n 0, 1) := by decide +kernel
theorem dL_law_198 : decode cL_law 198 = .ok (.iload_n 3, 1) := by decide +kernel
theorem dL_law_199 : decode cL_law 199 = .ok (.iconst 5, 1) := by decide +kernel
theorem dL_law_200 : decode cL_law 200 = .ok (.iadd, 1) := by decide +kernel
theorem dL_law_201 : decode cL_law 201 = .ok (.iaload, 1) := by decide +kernel
theorem dL_law_202 : decode cL_law 202 = .ok (.invokevirtual 13, 3) := by decide +kernel
theorem dL_law_205 : decode cL_law 205 = .ok (.aload_n 2, 1) := by decide +kernel
theorem dL_law_206 : decode cL_law 206 = .ok (.aload_n 0, 1) := by decide +kernel
theorem dL_law_207 : decode cL_law 207 = .ok (.iload_n 3, 1) := by decide +kernel
theorem dL_law_208 : decode cL_law 208 = .ok (.iconst 1, 1) := by decide +kernel
theorem dL_law_209 : decode cL_law 209 = .ok (.iadd, 1) := by decide +kernel
theorem dL_law_210 : decode cL_law 210 = .ok (.iaload, 1) := by decide +kernel
theorem dL_law_211 : decode cL_law 211 = .ok (.aload_n 0, 1) := by decide +kernel
theorem dL_law_212 : decode cL_law 212 = .ok (.iload_n 3, 1) := by decide +kernel
theorem dL_law_213 : decode cL_law 213 = .ok (.iconst 2, 1) := by decide +kernel
theorem dL_law_214 : decode cL_law 214 = .ok (.iadd, 1) := by decide +kernel
theorem dL_law_215 : decode cL_law 215 = .ok (.iaload, 1) := by decide +kernel
theorem dL_law_216 : decode cL_law 216 = .ok (.aload_n 0, 1) := by decide +kernel
theorem dL_law_217 : decode cL_law 217 = .ok (.iload_n 3, 1) := by decide +kernel
theorem dL_law_218 : decode cL_law 218 = .ok (.iconst 3, 1) := by decide +kernel
theorem dL_law_219 : decode cL_law 219 = .ok (.iadd, 1) := by decide +kernel
theorem dL_law_220 : decode cL_law 220 = .ok (.iaload, 1) := by decide +kernel
theorem dL_law_221 : decode cL_law 221 = .ok (.aload_n 0, 1) := by decide +kernel
theorem dL_law_222 : decode cL_law 222 = .ok (.iload_n 3, 1) := by decide +kernel
theorem dL_law_223 : decode cL_law 223 = .ok (.iconst 4, 1) := by decide +kernel
theorem dL_law_224 : decode cL_law 224 = .ok (.iadd, 1) := by decide +kernel
theorem dL_law_225 : decode cL_law 225 = .ok (.iaload, 1) := by decide +kernel
theorem dL_law_226 : decode cL_law 226 = .ok (.aload_n 0, 1) := by decide +kernel
theorem dL_law_227 : decode cL_law 227 = .ok (.iload_n 3, 1) := by decide +kernel
theorem dL_law_228 : decode cL_law 228 = .ok (.iconst 5, 1) := by decide +kernel
theorem dL_law_229 : decode cL_law 229 = .ok (.iadd, 1) := by decide +kernel
theorem dL_law_230 : decode cL_law 230 = .ok (.iaload, 1) := by decide +kernel
theorem dL_law_231 : decode cL_law 231 = .ok (.invokevirtual 17, 3) := by decide +kernel
theorem dL_law_234 : decode cL_law 234 = .ok (.if_icmp .eq 759, 3) := by decide +kernel
theorem dL_law_237 : decode cL_law 237 = .ok (.iconst 0, 1) := by decide +kernel
theorem dL_law_238 : decode cL_law 238 = .ok (.ireturn, 1) := by decide +kernel
theorem dL_law_239 : decode cL_law 239 = .ok (.aload_n 1, 1) := by decide +kernel
theorem dL_law_240 : decode cL_law 240 = .ok (.aload_n 0, 1) := by decide +kernel
theorem dL_law_241 : decode cL_law 241 = .ok (.iload_n 3, 1) := by decide +kernel
theorem dL_law_242 : decode cL_law 242 = .ok (.iconst 1, 1) := by decide +kernel
theorem dL_law_243 : decode cL_law 243 = .ok (.iadd, 1) := by decide +kernel
theorem dL_law_244 : decode cL_law 244 = .ok (.iaload, 1) := by decide +kernel
theorem dL_law_245 : decode cL_law 245 = .ok (.invokevirtual 18, 3) := by decide +kernel
theorem dL_law_248 : decode cL_law 248 = .ok (.aload_n 2, 1) := by decide +kernel
theorem dL_law_249 : decode cL_law 249 = .ok (.aload_n 0, 1) := by decide +kernel
theorem dL_law_250 : decode cL_law 250 = .ok (.iload_n 3, 1) := by decide +kernel
theorem dL_law_251 : decode cL_law 251 = .ok (.iconst 1, 1) := by decide +kernel
theorem dL_law_252 : decode cL_law 252 = .ok (.iadd, 1) := by decide +kernel
theorem dL_law_253 : decode cL_law 253 = .ok (.iaload, 1) := by decide +kernel
theorem dL_law_254 : decode cL_law 254 = .ok (.invokevirtual 22, 3) := by decide +kernel
theorem dL_law_257 : decode cL_law 257 = .ok (.if_icmp .eq 736, 3) := by decide +kernel
theorem dL_law_260 : decode cL_law 260 = .ok (.iconst 0, 1) := by decide +kernel
theorem dL_law_261 : decode cL_law 261 = .ok (.ireturn, 1) := by decide +kernel
theorem dL_law_262 : decode cL_law 262 = .ok (.aload_n 1, 1) := by decide +kernel
theorem dL_law_263 : decode cL_law 263 = .ok (.invokevirtual 23, 3) := by decide +kernel
theorem dL_law_266 : decode cL_law 266 = .ok (.aload_n 2, 1) := by decide +kernel
theorem dL_law_267 : decode cL_law 267 = .ok (.invokevirtual 27, 3) := by decide +kernel
theorem dL_law_270 : decode cL_law 270 = .ok (.if_icmp .eq 723, 3) := by decide +kernel
theorem dL_law_273 : decode cL_law 273 = .ok (.iconst 0, 1) := by decide +kernel
theorem dL_law_274 : decode cL_law 274 = .ok (.ireturn, 1) := by decide +kernel
theorem dL_law_275 : decode cL_law 275 = .ok (.aload_n 1, 1) := by decide +kernel
theorem dL_law_276 : decode cL_law 276 = .ok (.aload_n 0, 1) := by decide +kernel
theorem dL_law_277 : decode cL_law 277 = .ok (.iload_n 3, 1) := by decide +kernel
theorem dL_law_278 : decode cL_law 278 = .ok (.iconst 1, 1) := by decide +kernel
theorem dL_law_279 : decode cL_law 279 = .ok (.iadd, 1) := by decide +kernel
theorem dL_law_280 : decode cL_law 280 = .ok (.iaload, 1) := by decide +kernel
theorem dL_law_281 : decode cL_law 281 = .ok (.invokevirtual 28, 3) := by decide +kernel
theorem dL_law_284 : decode cL_law 284 = .ok (.aload_n 2, 1) := by decide +kernel
theorem dL_law_285 : decode cL_law 285 = .ok (.aload_n 0, 1) := by decide +kernel
theorem dL_law_286 : decode cL_law 286 = .ok (.iload_n 3, 1) := by decide +kernel
theorem dL_law_287 : decode cL_law 287 = .ok (.iconst 1, 1) := by decide +kernel
theorem dL_law_288 : decode cL_law 288 = .ok (.iadd, 1) := by decide +kernel
theorem dL_law_289 : decode cL_law 289 = .ok (.iaload, 1) := by decide +kernel
theorem dL_law_290 : decode cL_law 290 = .ok (.invokevirtual 32, 3) := by decide +kernel
theorem dL_law_293 : decode cL_law 293 = .ok (.if_icmp .eq 700, 3) := by decide +kernel
theorem dL_law_296 : decode cL_law 296 = .ok (.iconst 0, 1) := by decide +kernel
theorem dL_law_297 : decode cL_law 297 = .ok (.ireturn, 1) := by decide +kernel
theorem dL_law_298 : decode cL_law 298 = .ok (.aload_n 1, 1) := by decide +kernel
theorem dL_law_299 : decode cL_law 299 = .ok (.aload_n 0, 1) := by decide +kernel
theorem dL_law_300 : decode cL_law 300 = .ok (.iload_n 3, 1) := by decide +kernel
theorem dL_law_301 : decode cL_law 301 = .ok (.iconst 1, 1) := by decide +kernel
theorem dL_law_302 : decode cL_law 302 = .ok (.iadd, 1) := by decide +kernel
theorem dL_law_303 : decode cL_law 303 = .ok (.iaload, 1) := by decide +kernel
theorem dL_law_304 : decode cL_law 304 = .ok (.invokevirtual 33, 3) := by decide +kernel
theorem dL_law_307 : decode cL_law 307 = .ok (.aload_n 2, 1) := by decide +kernel
theorem dL_law_308 : decode cL_law 308 = .ok (.aload_n 0, 1) := by decide +kernel
theorem dL_law_309 : decode cL_law 309 = .ok (.iload_n 3, 1) := by decide +kernel
theorem dL_law_310 : decode cL_law 310 = .ok (.iconst 1, 1) := by decide +kernel
theorem dL_law_311 : decode cL_law 311 = .ok (.iadd, 1) := by decide +kernel
theorem dL_law_312 : decode cL_law 312 = .ok (.iaload, 1) := by decide +kernel
theorem dL_law_313 : decode cL_law 313 = .ok (.invokevirtual 36, 3) := by decide +kernel
theorem dL_law_316 : decode cL_law 316 = .ok (.if_icmp .eq 677, 3) := by decide +kernel
theorem dL_law_319 : decode cL_law 319 = .ok (.iconst 0, 1) := by decide +kernel
theorem dL_law_320 : decode cL_law 320 = .ok (.ireturn, 1) := by decide +kernel
theorem dL_law_321 : decode cL_law 321 = .ok (.aload_n 1, 1) := by decide +kernel
theorem dL_law_322 : decode cL_law 322 = .ok (.aload_n 0, 1) := by decide +kernel
theorem dL_law_323 : decode cL_law 323 = .ok (.iload_n 3, 1) := by decide +kernel
theorem dL_law_324 : decode cL_law 324 = .ok (.iconst 1, 1) := by decide +kernel
theorem dL_law_325 : decode cL_law 325 = .ok (.iadd, 1) := by decide +kernel
theorem dL_law_326 : decode cL_law 326 = .ok (.iaload, 1) := by decide +kernel
theorem dL_law_327 : decode cL_law 327 = .ok (.aload_n 0, 1) := by decide +kernel
theorem dL_law_328 : decode cL_law 328 = .ok (.iload_n 3, 1) := by decide +kernel
theorem dL_law_329 : decode cL_law 329 = .ok (.iconst 2, 1) := by decide +kernel
theorem dL_law_330 : decode cL_law 330 = .ok (.iadd, 1) := by decide +kernel
theorem dL_law_331 : decode cL_law 331 = .ok (.iaload, 1) := by decide +kernel
theorem dL_law_332 : decode cL_law 332 = .ok (.aload_n 0, 1) := by decide +kernel
theorem dL_law_333 : decode cL_law 333 = .ok (.iload_n 3, 1) := by decide +kernel
theorem dL_law_334 : decode cL_law 334 = .ok (.iconst 3, 1) := by decide +kernel
theorem dL_law_335 : decode cL_law 335 = .ok (.iadd, 1) := by decide +kernel
theorem dL_law_336 : decode cL_law 336 = .ok (.iaload, 1) := by decide +kernel
theorem dL_law_337 : decode cL_law 337 = .ok (.invokevirtual 37, 3) := by decide +kernel
theorem dL_law_340 : decode cL_law 340 = .ok (.aload_n 2, 1) := by decide +kernel
theorem dL_law_341 : decode cL_law 341 = .ok (.aload_n 0, 1) := by decide +kernel
theorem dL_law_342 : decode cL_law 342 = .ok (.iload_n 3, 1) := by decide +kernel
theorem dL_law_343 : decode cL_law 343 = .ok (.iconst 1, 1) := by decide +kernel
theorem dL_law_344 : decode cL_law 344 = .ok (.iadd, 1) := by decide +kernel
theorem dL_law_345 : decode cL_law 345 = .ok (.iaload, 1) := by decide +kernel
theorem dL_law_346 : decode cL_law 346 = .ok (.aload_n 0, 1) := by decide +kernel
theorem dL_law_347 : decode cL_law 347 = .ok (.iload_n 3, 1) := by decide +kernel
theorem dL_law_348 : decode cL_law 348 = .ok (.iconst 2, 1) := by decide +kernel
theorem dL_law_349 : decode cL_law 349 = .ok (.iadd, 1) := by decide +kernel
theorem dL_law_350 : decode cL_law 350 = .ok (.iaload, 1) := by decide +kernel
theorem dL_law_351 : decode cL_law 351 = .ok (.aload_n 0, 1) := by decide +kernel
theorem dL_law_352 : decode cL_law 352 = .ok (.iload_n 3, 1) := by decide +kernel
theorem dL_law_353 : decode cL_law 353 = .ok (.iconst 3, 1) := by decide +kernel
theorem dL_law_354 : decode cL_law 354 = .ok (.iadd, 1) := by decide +kernel
theorem dL_law_355 : decode cL_law 355 = .ok (.iaload, 1) := by decide +kernel
theorem dL_law_356 : decode cL_law 356 = .ok (.invokevirtual 41, 3) := by decide +kernel
theorem dL_law_359 : decode cL_law 359 = .ok (.if_icmp .eq 634, 3) := by decide +kernel
theorem dL_law_362 : decode cL_law 362 = .ok (.iconst 0, 1) := by decide +kernel
theorem dL_law_363 : decode cL_law 363 = .ok (.ireturn, 1) := by decide +kernel
theorem dL_law_364 : decode cL_law 364 = .ok (.aload_n 1, 1) := by decide +kernel
theorem dL_law_365 : decode cL_law 365 = .ok (.aload_n 0, 1) := by decide +kernel
theorem dL_law_366 : decode cL_law 366 = .ok (.iload_n 3, 1) := by decide +kernel
theorem dL_law_367 : decode cL_law 367 = .ok (.iconst 1, 1) := by decide +kernel
theorem dL_law_368 : decode cL_law 368 = .ok (.iadd, 1) := by decide +kernel
theorem dL_law_369 : decode cL_law 369 = .ok (.iaload, 1) := by decide +kernel
theorem dL_law_370 : decode cL_law 370 = .ok (.aload_n 0, 1) := by decide +kernel
theorem dL_law_371 : decode cL_law 371 = .ok (.iload_n 3, 1) := by decide +kernel
theorem dL_law_372 : decode cL_law 372 = .ok (.iconst 2, 1) := by decide +kernel
theorem dL_law_373 : decode cL_law 373 = .ok (.iadd, 1) := by decide +kernel
theorem dL_law_374 : decode cL_law 374 = .ok (.iaload, 1) := by decide +kernel
theorem dL_law_375 : decode cL_law 375 = .ok (.aload_n 0, 1) := by decide +kernel
theorem dL_law_376 : decode cL_law 376 = .ok (.iload_n 3, 1) := by decide +kernel
theorem dL_law_377 : decode cL_law 377 = .ok (.iconst 3, 1) := by decide +kernel
theorem dL_law_378 : decode cL_law 378 = .ok (.iadd, 1) := by decide +kernel
theorem dL_law_379 : decode cL_law 379 = .ok (.iaload, 1) := by decide +kernel
theorem dL_law_380 : decode cL_law 380 = .ok (.invokevirtual 42, 3) := by decide +kernel
theorem dL_law_383 : decode cL_law 383 = .ok (.aload_n 2, 1) := by decide +kernel
theorem dL_law_384 : decode cL_law 384 = .ok (.aload_n 0, 1) := by decide +kernel
theorem dL_law_385 : decode cL_law 385 = .ok (.iload_n 3, 1) := by decide +kernel
theorem dL_law_386 : decode cL_law 386 = .ok (.iconst 1, 1) := by decide +kernel
theorem dL_law_387 : decode cL_law 387 = .ok (.iadd, 1) := by decide +kernel
theorem dL_law_388 : decode cL_law 388 = .ok (.iaload, 1) := by decide +kernel
theorem dL_law_389 : decode cL_law 389 = .ok (.aload_n 0, 1) := by decide +kernel
theorem dL_law_390 : decode cL_law 390 = .ok (.iload_n 3, 1) := by decide +kernel
theorem dL_law_391 : decode cL_law 391 = .ok (.iconst 2, 1) := by decide +kernel
theorem dL_law_392 : decode cL_law 392 = .ok (.iadd, 1) := by decide +kernel
theorem dL_law_393 : decode cL_law 393 = .ok (.iaload, 1) := by decide +kernel
theorem dL_law_394 : decode cL_law 394 = .ok (.aload_n 0, 1) := by decide +kernel
theorem dL_law_395 : decode cL_law 395 = .ok (.iload_n 3, 1) := by decide +kernel
theorem dL_law_396 : decode cL_law 396 = .ok (.iconst 3, 1) := by decide +kernel
theorem dL_law_397 : decode cL_law 397 = .ok (.iadd, 1) := by decide +kernel
theorem dL_law_398 : decode cL_law 398 = .ok (.iaload, 1) := by decide +kernel
theorem dL_law_399 : decode cL_law 399 = .ok (.invokevirtual 45, 3) := by decide +kernel
theorem dL_law_402 : decode cL_law 402 = .ok (.if_icmp .eq 591, 3) := by decide +kernel
theorem dL_law_405 : decode cL_law 405 = .ok (.iconst 0, 1) := by decide +kernel
theorem dL_law_406 : decode cL_law 406 = .ok (.ireturn, 1) := by decide +kernel
theorem dL_law_407 : decode cL_law 407 = .ok (.aload_n 1, 1) := by decide +kernel
theorem dL_law_408 : decode cL_law 408 = .ok (.aload_n 0, 1) := by decide +kernel
theorem dL_law_409 : decode cL_law 409 = .ok (.iload_n 3, 1) := by decide +kernel
theorem dL_law_410 : decode cL_law 410 = .ok (.iconst 1, 1) := by decide +kernel
theorem dL_law_411 : decode cL_law 411 = .ok (.iadd, 1) := by decide +kernel
theorem dL_law_412 : decode cL_law 412 = .ok (.iaload, 1) := by decide +kernel
theorem dL_law_413 : decode cL_law 413 = .ok (.aload_n 0, 1) := by decide +kernel
theorem dL_law_414 : decode cL_law 414 = .ok (.iload_n 3, 1) := by decide +kernel
theorem dL_law_415 : decode cL_law 415 = .ok (.iconst 2, 1) := by decide +kernel
theorem dL_law_416 : decode cL_law 416 = .ok (.iadd, 1) := by decide +kernel
theorem dL_law_417 : decode cL_law 417 = .ok (.iaload, 1) := by decide +kernel
theorem dL_law_418 : decode cL_law 418 = .ok (.invokevirtual 46, 3) := by decide +kernel
theorem dL_law_421 : decode cL_law 421 = .ok (.aload_n 2, 1) := by decide +kernel
theorem dL_law_422 : decode cL_law 422 = .ok (.aload_n 0, 1) := by decide +kernel
theorem dL_law_423 : decode cL_law 423 = .ok (.iload_n 3, 1) := by decide +kernel
theorem dL_law_424 : decode cL_law 424 = .ok (.iconst 1, 1) := by decide +kernel
theorem dL_law_425 : decode cL_law 425 = .ok (.iadd, 1) := by decide +kernel
theorem dL_law_426 : decode cL_law 426 = .ok (.iaload, 1) := by decide +kernel
theorem dL_law_427 : decode cL_law 427 = .ok (.aload_n 0, 1) := by decide +kernel
theorem dL_law_428 : decode cL_law 428 = .ok (.iload_n 3, 1) := by decide +kernel
theorem dL_law_429 : decode cL_law 429 = .ok (.iconst 2, 1) := by decide +kernel
theorem dL_law_430 : decode cL_law 430 = .ok (.iadd, 1) := by decide +kernel
theorem dL_law_431 : decode cL_law 431 = .ok (.iaload, 1) := by decide +kernel
theorem dL_law_432 : decode cL_law 432 = .ok (.invokevirtual 50, 3) := by decide +kernel
theorem dL_law_435 : decode cL_law 435 = .ok (.if_icmp .eq 558, 3) := by decide +kernel
theorem dL_law_438 : decode cL_law 438 = .ok (.iconst 0, 1) := by decide +kernel
theorem dL_law_439 : decode cL_law 439 = .ok (.ireturn, 1) := by decide +kernel
theorem dL_law_440 : decode cL_law 440 = .ok (.aload_n 1, 1) := by decide +kernel
theorem dL_law_441 : decode cL_law 441 = .ok (.aload_n 0, 1) := by decide +kernel
theorem dL_law_442 : decode cL_law 442 = .ok (.iload_n 3, 1) := by decide +kernel
theorem dL_law_443 : decode cL_law 443 = .ok (.iconst 1, 1) := by decide +kernel
theorem dL_law_444 : decode cL_law 444 = .ok (.iadd, 1) := by decide +kernel
theorem dL_law_445 : decode cL_law 445 = .ok (.iaload, 1) := by decide +kernel
theorem dL_law_446 : decode cL_law 446 = .ok (.aload_n 0, 1) := by decide +kernel
theorem dL_law_447 : decode cL_law 447 = .ok (.iload_n 3, 1) := by decide +kernel
theorem dL_law_448 : decode cL_law 448 = .ok (.iconst 2, 1) := by decide +kernel
theorem dL_law_449 : decode cL_law 449 = .ok (.iadd, 1) := by decide +kernel
theorem dL_law_450 : decode cL_law 450 = .ok (.iaload, 1) := by decide +kernel
theorem dL_law_451 : decode cL_law 451 = .ok (.invokevirtual 51, 3) := by decide +kernel
theorem dL_law_454 : decode cL_law 454 = .ok (.aload_n 2, 1) := by decide +kernel
theorem dL_law_455 : decode cL_law 455 = .ok (.aload_n 0, 1) := by decide +kernel
theorem dL_law_456 : decode cL_law 456 = .ok (.iload_n 3, 1) := by decide +kernel
theorem dL_law_457 : decode cL_law 457 = .ok (.iconst 1, 1) := by decide +kernel
theorem dL_law_458 : decode cL_law 458 = .ok (.iadd, 1) := by decide +kernel
theorem dL_law_459 : decode cL_law 459 = .ok (.iaload, 1) := by decide +kernel
theorem dL_law_460 : decode cL_law 460 = .ok (.aload_n 0, 1) := by decide +kernel
theorem dL_law_461 : decode cL_law 461 = .ok (.iload_n 3, 1) := by decide +kernel
theorem dL_law_462 : decode cL_law 462 = .ok (.iconst 2, 1) := by decide +kernel
theorem dL_law_463 : decode cL_law 463 = .ok (.iadd, 1) := by decide +kernel
theorem dL_law_464 : decode cL_law 464 = .ok (.iaload, 1) := by decide +kernel
theorem dL_law_465 : decode cL_law 465 = .ok (.invokevirtual 54, 3) := by decide +kernel
theorem dL_law_468 : decode cL_law 468 = .ok (.if_icmp .eq 525, 3) := by decide +kernel
theorem dL_law_471 : decode cL_law 471 = .ok (.iconst 0, 1) := by decide +kernel
theorem dL_law_472 : decode cL_law 472 = .ok (.ireturn, 1) := by decide +kernel
theorem dL_law_473 : decode cL_law 473 = .ok (.aload_n 1, 1) := by decide +kernel
theorem dL_law_474 : decode cL_law 474 = .ok (.aload_n 0, 1) := by decide +kernel
theorem dL_law_475 : decode cL_law 475 = .ok (.iload_n 3, 1) := by decide +kernel
theorem dL_law_476 : decode cL_law 476 = .ok (.iconst 1, 1) := by decide +kernel
theorem dL_law_477 : decode cL_law 477 = .ok (.iadd, 1) := by decide +kernel
theorem dL_law_478 : decode cL_law 478 = .ok (.iaload, 1) := by decide +kernel
theorem dL_law_479 : decode cL_law 479 = .ok (.aload_n 0, 1) := by decide +kernel
theorem dL_law_480 : decode cL_law 480 = .ok (.iload_n 3, 1) := by decide +kernel
theorem dL_law_481 : decode cL_law 481 = .ok (.iconst 2, 1) := by decide +kernel
theorem dL_law_482 : decode cL_law 482 = .ok (.iadd, 1) := by decide +kernel
theorem dL_law_483 : decode cL_law 483 = .ok (.iaload, 1) := by decide +kernel
theorem dL_law_484 : decode cL_law 484 = .ok (.invokevirtual 55, 3) := by decide +kernel
theorem dL_law_487 : decode cL_law 487 = .ok (.aload_n 2, 1) := by decide +kernel
theorem dL_law_488 : decode cL_law 488 = .ok (.aload_n 0, 1) := by decide +kernel
theorem dL_law_489 : decode cL_law 489 = .ok (.iload_n 3, 1) := by decide +kernel
theorem dL_law_490 : decode cL_law 490 = .ok (.iconst 1, 1) := by decide +kernel
theorem dL_law_491 : decode cL_law 491 = .ok (.iadd, 1) := by decide +kernel
theorem dL_law_492 : decode cL_law 492 = .ok (.iaload, 1) := by decide +kernel
theorem dL_law_493 : decode cL_law 493 = .ok (.aload_n 0, 1) := by decide +kernel
theorem dL_law_494 : decode cL_law 494 = .ok (.iload_n 3, 1) := by decide +kernel
theorem dL_law_495 : decode cL_law 495 = .ok (.iconst 2, 1) := by decide +kernel
theorem dL_law_496 : decode cL_law 496 = .ok (.iadd, 1) := by decide +kernel
theorem dL_law_497 : decode cL_law 497 = .ok (.iaload, 1) := by decide +kernel
theorem dL_law_498 : decode cL_law 498 = .ok (.invokevirtual 58, 3) := by decide +kernel
theorem dL_law_501 : decode cL_law 501 = .ok (.if_icmp .eq 492, 3) := by decide +kernel
theorem dL_law_504 : decode cL_law 504 = .ok (.iconst 0, 1) := by decide +kernel
theorem dL_law_505 : decode cL_law 505 = .ok (.ireturn, 1) := by decide +kernel
theorem dL_law_506 : decode cL_law 506 = .ok (.aload_n 1, 1) := by decide +kernel
theorem dL_law_507 : decode cL_law 507 = .ok (.aload_n 0, 1) := by decide +kernel
theorem dL_law_508 : decode cL_law 508 = .ok (.iload_n 3, 1) := by decide +kernel
theorem dL_law_509 : decode cL_law 509 = .ok (.iconst 1, 1) := by decide +kernel
theorem dL_law_510 : decode cL_law 510 = .ok (.iadd, 1) := by decide +kernel
theorem dL_law_511 : decode cL_law 511 = .ok (.iaload, 1) := by decide +kernel
theorem dL_law_512 : decode cL_law 512 = .ok (.aload_n 0, 1) := by decide +kernel
theorem dL_law_513 : decode cL_law 513 = .ok (.iload_n 3, 1) := by decide +kernel
theorem dL_law_514 : decode cL_law 514 = .ok (.iconst 2, 1) := by decide +kernel
theorem dL_law_515 : decode cL_law 515 = .ok (.iadd, 1) := by decide +kernel
theorem dL_law_516 : decode cL_law 516 = .ok (.iaload, 1) := by decide +kernel
theorem dL_law_517 : decode cL_law 517 = .ok (.invokevirtual 59, 3) := by decide +kernel
theorem dL_law_520 : decode cL_law 520 = .ok (.aload_n 2, 1) := by decide +kernel
theorem dL_law_521 : decode cL_law 521 = .ok (.aload_n 0, 1) := by decide +kernel
theorem dL_law_522 : decode cL_law 522 = .ok (.iload_n 3, 1) := by decide +kernel
theorem dL_law_523 : decode cL_law 523 = .ok (.iconst 1, 1) := by decide +kernel
theorem dL_law_524 : decode cL_law 524 = .ok (.iadd, 1) := by decide +kernel
theorem dL_law_525 : decode cL_law 525 = .ok (.iaload, 1) := by decide +kernel
theorem dL_law_526 : decode cL_law 526 = .ok (.aload_n 0, 1) := by decide +kernel
theorem dL_law_527 : decode cL_law 527 = .ok (.iload_n 3, 1) := by decide +kernel
theorem dL_law_528 : decode cL_law 528 = .ok (.iconst 2, 1) := by decide +kernel
theorem dL_law_529 : decode cL_law 529 = .ok (.iadd, 1) := by decide +kernel
theorem dL_law_530 : decode cL_law 530 = .ok (.iaload, 1) := by decide +kernel
theorem dL_law_531 : decode cL_law 531 = .ok (.invokevirtual 62, 3) := by decide +kernel
theorem dL_law_534 : decode cL_law 534 = .ok (.if_icmp .eq 459, 3) := by decide +kernel
theorem dL_law_537 : decode cL_law 537 = .ok (.iconst 0, 1) := by decide +kernel
theorem dL_law_538 : decode cL_law 538 = .ok (.ireturn, 1) := by decide +kernel
theorem dL_law_539 : decode cL_law 539 = .ok (.aload_n 1, 1) := by decide +kernel
theorem dL_law_540 : decode cL_law 540 = .ok (.aload_n 0, 1) := by decide +kernel
theorem dL_law_541 : decode cL_law 541 = .ok (.iload_n 3, 1) := by decide +kernel
theorem dL_law_542 : decode cL_law 542 = .ok (.iconst 1, 1) := by decide +kernel
theorem dL_law_543 : decode cL_law 543 = .ok (.iadd, 1) := by decide +kernel
theorem dL_law_544 : decode cL_law 544 = .ok (.iaload, 1) := by decide +kernel
theorem dL_law_545 : decode cL_law 545 = .ok (.invokevirtual 63, 3) := by decide +kernel
theorem dL_law_548 : decode cL_law 548 = .ok (.aload_n 2, 1) := by decide +kernel
theorem dL_law_549 : decode cL_law 549 = .ok (.aload_n 0, 1) := by decide +kernel
theorem dL_law_550 : decode cL_law 550 = .ok (.iload_n 3, 1) := by decide +kernel
theorem dL_law_551 : decode cL_law 551 = .ok (.iconst 1, 1) := by decide +kernel
theorem dL_law_552 : decode cL_law 552 = .ok (.iadd, 1) := by decide +kernel
theorem dL_law_553 : decode cL_law 553 = .ok (.iaload, 1) := by decide +kernel
theorem dL_law_554 : decode cL_law 554 = .ok (.invokevirtual 66, 3) := by decide +kernel
theorem dL_law_557 : decode cL_law 557 = .ok (.if_icmp .eq 436, 3) := by decide +kernel
theorem dL_law_560 : decode cL_law 560 = .ok (.iconst 0, 1) := by decide +kernel
theorem dL_law_561 : decode cL_law 561 = .ok (.ireturn, 1) := by decide +kernel
theorem dL_law_562 : decode cL_law 562 = .ok (.aload_n 1, 1) := by decide +kernel
theorem dL_law_563 : decode cL_law 563 = .ok (.aload_n 0, 1) := by decide +kernel
theorem dL_law_564 : decode cL_law 564 = .ok (.iload_n 3, 1) := by decide +kernel
theorem dL_law_565 : decode cL_law 565 = .ok (.iconst 1, 1) := by decide +kernel
theorem dL_law_566 : decode cL_law 566 = .ok (.iadd, 1) := by decide +kernel
theorem dL_law_567 : decode cL_law 567 = .ok (.iaload, 1) := by decide +kernel
theorem dL_law_568 : decode cL_law 568 = .ok (.invokevirtual 67, 3) := by decide +kernel
theorem dL_law_571 : decode cL_law 571 = .ok (.aload_n 2, 1) := by decide +kernel
theorem dL_law_572 : decode cL_law 572 = .ok (.aload_n 0, 1) := by decide +kernel
theorem dL_law_573 : decode cL_law 573 = .ok (.iload_n 3, 1) := by decide +kernel
theorem dL_law_574 : decode cL_law 574 = .ok (.iconst 1, 1) := by decide +kernel
theorem dL_law_575 : decode cL_law 575 = .ok (.iadd, 1) := by decide +kernel
theorem dL_law_576 : decode cL_law 576 = .ok (.iaload, 1) := by decide +kernel
theorem dL_law_577 : decode cL_law 577 = .ok (.invokevirtual 70, 3) := by decide +kernel
theorem dL_law_580 : decode cL_law 580 = .ok (.if_icmp .eq 413, 3) := by decide +kernel
theorem dL_law_583 : decode cL_law 583 = .ok (.iconst 0, 1) := by decide +kernel
theorem dL_law_584 : decode cL_law 584 = .ok (.ireturn, 1) := by decide +kernel
theorem dL_law_585 : decode cL_law 585 = .ok (.aload_n 1, 1) := by decide +kernel
theorem dL_law_586 : decode cL_law 586 = .ok (.invokevirtual 71, 3) := by decide +kernel
theorem dL_law_589 : decode cL_law 589 = .ok (.aload_n 2, 1) := by decide +kernel
theorem dL_law_590 : decode cL_law 590 = .ok (.invokevirtual 74, 3) := by decide +kernel
theorem dL_law_593 : decode cL_law 593 = .ok (.if_icmp .eq 400, 3) := by decide +kernel
theorem dL_law_596 : decode cL_law 596 = .ok (.iconst 0, 1) := by decide +kernel
theorem dL_law_597 : decode cL_law 597 = .ok (.ireturn, 1) := by decide +kernel
theorem dL_law_598 : decode cL_law 598 = .ok (.aload_n 1, 1) := by decide +kernel
theorem dL_law_599 : decode cL_law 599 = .ok (.invokevirtual 75, 3) := by decide +kernel
theorem dL_law_602 : decode cL_law 602 = .ok (.aload_n 2, 1) := by decide +kernel
theorem dL_law_603 : decode cL_law 603 = .ok (.invokevirtual 78, 3) := by decide +kernel
theorem dL_law_606 : decode cL_law 606 = .ok (.if_icmp .eq 387, 3) := by decide +kernel
theorem dL_law_609 : decode cL_law 609 = .ok (.iconst 0, 1) := by decide +kernel
theorem dL_law_610 : decode cL_law 610 = .ok (.ireturn, 1) := by decide +kernel
theorem dL_law_611 : decode cL_law 611 = .ok (.aload_n 1, 1) := by decide +kernel
theorem dL_law_612 : decode cL_law 612 = .ok (.aload_n 0, 1) := by decide +kernel
theorem dL_law_613 : decode cL_law 613 = .ok (.iload_n 3, 1) := by decide +kernel
theorem dL_law_614 : decode cL_law 614 = .ok (.iconst 1, 1) := by decide +kernel
theorem dL_law_615 : decode cL_law 615 = .ok (.iadd, 1) := by decide +kernel
theorem dL_law_616 : decode cL_law 616 = .ok (.iaload, 1) := by decide +kernel
theorem dL_law_617 : decode cL_law 617 = .ok (.aload_n 0, 1) := by decide +kernel
theorem dL_law_618 : decode cL_law 618 = .ok (.iload_n 3, 1) := by decide +kernel
theorem dL_law_619 : decode cL_law 619 = .ok (.iconst 2, 1) := by decide +kernel
theorem dL_law_620 : decode cL_law 620 = .ok (.iadd, 1) := by decide +kernel
theorem dL_law_621 : decode cL_law 621 = .ok (.iaload, 1) := by decide +kernel
theorem dL_law_622 : decode cL_law 622 = .ok (.invokevirtual 79, 3) := by decide +kernel
theorem dL_law_625 : decode cL_law 625 = .ok (.aload_n 2, 1) := by decide +kernel
theorem dL_law_626 : decode cL_law 626 = .ok (.aload_n 0, 1) := by decide +kernel
theorem dL_law_627 : decode cL_law 627 = .ok (.iload_n 3, 1) := by decide +kernel
theorem dL_law_628 : decode cL_law 628 = .ok (.iconst 1, 1) := by decide +kernel
theorem dL_law_629 : decode cL_law 629 = .ok (.iadd, 1) := by decide +kernel
theorem dL_law_630 : decode cL_law 630 = .ok (.iaload, 1) := by decide +kernel
theorem dL_law_631 : decode cL_law 631 = .ok (.aload_n 0, 1) := by decide +kernel
theorem dL_law_632 : decode cL_law 632 = .ok (.iload_n 3, 1) := by decide +kernel
theorem dL_law_633 : decode cL_law 633 = .ok (.iconst 2, 1) := by decide +kernel
theorem dL_law_634 : decode cL_law 634 = .ok (.iadd, 1) := by decide +kernel
theorem dL_law_635 : decode cL_law 635 = .ok (.iaload, 1) := by decide +kernel
theorem dL_law_636 : decode cL_law 636 = .ok (.invokevirtual 82, 3) := by decide +kernel
theorem dL_law_639 : decode cL_law 639 = .ok (.if_icmp .eq 354, 3) := by decide +kernel
theorem dL_law_642 : decode cL_law 642 = .ok (.iconst 0, 1) := by decide +kernel
theorem dL_law_643 : decode cL_law 643 = .ok (.ireturn, 1) := by decide +kernel
theorem dL_law_644 : decode cL_law 644 = .ok (.aload_n 1, 1) := by decide +kernel
theorem dL_law_645 : decode cL_law 645 = .ok (.aload_n 0, 1) := by decide +kernel
theorem dL_law_646 : decode cL_law 646 = .ok (.iload_n 3, 1) := by decide +kernel
theorem dL_law_647 : decode cL_law 647 = .ok (.iconst 1, 1) := by decide +kernel
theorem dL_law_648 : decode cL_law 648 = .ok (.iadd, 1) := by decide +kernel
theorem dL_law_649 : decode cL_law 649 = .ok (.iaload, 1) := by decide +kernel
theorem dL_law_650 : decode cL_law 650 = .ok (.aload_n 0, 1) := by decide +kernel
theorem dL_law_651 : decode cL_law 651 = .ok (.iload_n 3, 1) := by decide +kernel
theorem dL_law_652 : decode cL_law 652 = .ok (.iconst 2, 1) := by decide +kernel
theorem dL_law_653 : decode cL_law 653 = .ok (.iadd, 1) := by decide +kernel
theorem dL_law_654 : decode cL_law 654 = .ok (.iaload, 1) := by decide +kernel
theorem dL_law_655 : decode cL_law 655 = .ok (.invokevirtual 83, 3) := by decide +kernel
theorem dL_law_658 : decode cL_law 658 = .ok (.aload_n 2, 1) := by decide +kernel
theorem dL_law_659 : decode cL_law 659 = .ok (.aload_n 0, 1) := by decide +kernel
theorem dL_law_660 : decode cL_law 660 = .ok (.iload_n 3, 1) := by decide +kernel
theorem dL_law_661 : decode cL_law 661 = .ok (.iconst 1, 1) := by decide +kernel
theorem dL_law_662 : decode cL_law 662 = .ok (.iadd, 1) := by decide +kernel
theorem dL_law_663 : decode cL_law 663 = .ok (.iaload, 1) := by decide +kernel
theorem dL_law_664 : decode cL_law 664 = .ok (.aload_n 0, 1) := by decide +kernel
theorem dL_law_665 : decode cL_law 665 = .ok (.iload_n 3, 1) := by decide +kernel
theorem dL_law_666 : decode cL_law 666 = .ok (.iconst 2, 1) := by decide +kernel
theorem dL_law_667 : decode cL_law 667 = .ok (.iadd, 1) := by decide +kernel
theorem dL_law_668 : decode cL_law 668 = .ok (.iaload, 1) := by decide +kernel
theorem dL_law_669 : decode cL_law 669 = .ok (.invokevirtual 86, 3) := by decide +kernel
theorem dL_law_672 : decode cL_law 672 = .ok (.if_icmp .eq 321, 3) := by decide +kernel
theorem dL_law_675 : decode cL_law 675 = .ok (.iconst 0, 1) := by decide +kernel
theorem dL_law_676 : decode cL_law 676 = .ok (.ireturn, 1) := by decide +kernel
theorem dL_law_677 : decode cL_law 677 = .ok (.aload_n 1, 1) := by decide +kernel
theorem dL_law_678 : decode cL_law 678 = .ok (.aload_n 0, 1) := by decide +kernel
theorem dL_law_679 : decode cL_law 679 = .ok (.iload_n 3, 1) := by decide +kernel
theorem dL_law_680 : decode cL_law 680 = .ok (.iconst 1, 1) := by decide +kernel
theorem dL_law_681 : decode cL_law 681 = .ok (.iadd, 1) := by decide +kernel
theorem dL_law_682 : decode cL_law 682 = .ok (.iaload, 1) := by decide +kernel
theorem dL_law_683 : decode cL_law 683 = .ok (.invokevirtual 87, 3) := by decide +kernel
theorem dL_law_686 : decode cL_law 686 = .ok (.aload_n 2, 1) := by decide +kernel
theorem dL_law_687 : decode cL_law 687 = .ok (.aload_n 0, 1) := by decide +kernel
theorem dL_law_688 : decode cL_law 688 = .ok (.iload_n 3, 1) := by decide +kernel
theorem dL_law_689 : decode cL_law 689 = .ok (.iconst 1, 1) := by decide +kernel
theorem dL_law_690 : decode cL_law 690 = .ok (.iadd, 1) := by decide +kernel
theorem dL_law_691 : decode cL_law 691 = .ok (.iaload, 1) := by decide +kernel
theorem dL_law_692 : decode cL_law 692 = .ok (.invokevirtual 90, 3) := by decide +kernel
theorem dL_law_695 : decode cL_law 695 = .ok (.if_icmp .eq 298, 3) := by decide +kernel
theorem dL_law_698 : decode cL_law 698 = .ok (.iconst 0, 1) := by decide +kernel
theorem dL_law_699 : decode cL_law 699 = .ok (.ireturn, 1) := by decide +kernel
theorem dL_law_700 : decode cL_law 700 = .ok (.aload_n 1, 1) := by decide +kernel
theorem dL_law_701 : decode cL_law 701 = .ok (.invokevirtual 91, 3) := by decide +kernel
theorem dL_law_704 : decode cL_law 704 = .ok (.aload_n 2, 1) := by decide +kernel
theorem dL_law_705 : decode cL_law 705 = .ok (.invokevirtual 94, 3) := by decide +kernel
theorem dL_law_708 : decode cL_law 708 = .ok (.if_icmp .eq 285, 3) := by decide +kernel
theorem dL_law_711 : decode cL_law 711 = .ok (.iconst 0, 1) := by decide +kernel
theorem dL_law_712 : decode cL_law 712 = .ok (.ireturn, 1) := by decide +kernel
theorem dL_law_713 : decode cL_law 713 = .ok (.aload_n 1, 1) := by decide +kernel
theorem dL_law_714 : decode cL_law 714 = .ok (.aload_n 0, 1) := by decide +kernel
theorem dL_law_715 : decode cL_law 715 = .ok (.iload_n 3, 1) := by decide +kernel
theorem dL_law_716 : decode cL_law 716 = .ok (.iconst 1, 1) := by decide +kernel
theorem dL_law_717 : decode cL_law 717 = .ok (.iadd, 1) := by decide +kernel
theorem dL_law_718 : decode cL_law 718 = .ok (.iaload, 1) := by decide +kernel
theorem dL_law_719 : decode cL_law 719 = .ok (.invokevirtual 95, 3) := by decide +kernel
theorem dL_law_722 : decode cL_law 722 = .ok (.aload_n 2, 1) := by decide +kernel
theorem dL_law_723 : decode cL_law 723 = .ok (.aload_n 0, 1) := by decide +kernel
theorem dL_law_724 : decode cL_law 724 = .ok (.iload_n 3, 1) := by decide +kernel
theorem dL_law_725 : decode cL_law 725 = .ok (.iconst 1, 1) := by decide +kernel
theorem dL_law_726 : decode cL_law 726 = .ok (.iadd, 1) := by decide +kernel
theorem dL_law_727 : decode cL_law 727 = .ok (.iaload, 1) := by decide +kernel
theorem dL_law_728 : decode cL_law 728 = .ok (.invokevirtual 98, 3) := by decide +kernel
theorem dL_law_731 : decode cL_law 731 = .ok (.if_icmp .eq 262, 3) := by decide +kernel
theorem dL_law_734 : decode cL_law 734 = .ok (.iconst 0, 1) := by decide +kernel
theorem dL_law_735 : decode cL_law 735 = .ok (.ireturn, 1) := by decide +kernel
theorem dL_law_736 : decode cL_law 736 = .ok (.aload_n 1, 1) := by decide +kernel
theorem dL_law_737 : decode cL_law 737 = .ok (.aload_n 0, 1) := by decide +kernel
theorem dL_law_738 : decode cL_law 738 = .ok (.iload_n 3, 1) := by decide +kernel
theorem dL_law_739 : decode cL_law 739 = .ok (.iconst 1, 1) := by decide +kernel
theorem dL_law_740 : decode cL_law 740 = .ok (.iadd, 1) := by decide +kernel
theorem dL_law_741 : decode cL_law 741 = .ok (.iaload, 1) := by decide +kernel
theorem dL_law_742 : decode cL_law 742 = .ok (.invokevirtual 99, 3) := by decide +kernel
theorem dL_law_745 : decode cL_law 745 = .ok (.aload_n 2, 1) := by decide +kernel
theorem dL_law_746 : decode cL_law 746 = .ok (.aload_n 0, 1) := by decide +kernel
theorem dL_law_747 : decode cL_law 747 = .ok (.iload_n 3, 1) := by decide +kernel
theorem dL_law_748 : decode cL_law 748 = .ok (.iconst 1, 1) := by decide +kernel
theorem dL_law_749 : decode cL_law 749 = .ok (.iadd, 1) := by decide +kernel
theorem dL_law_750 : decode cL_law 750 = .ok (.iaload, 1) := by decide +kernel
theorem dL_law_751 : decode cL_law 751 = .ok (.invokevirtual 102, 3) := by decide +kernel
theorem dL_law_754 : decode cL_law 754 = .ok (.if_icmp .eq 239, 3) := by decide +kernel
theorem dL_law_757 : decode cL_law 757 = .ok (.iconst 0, 1) := by decide +kernel
theorem dL_law_758 : decode cL_law 758 = .ok (.ireturn, 1) := by decide +kernel
theorem dL_law_759 : decode cL_law 759 = .ok (.aload_n 1, 1) := by decide +kernel
theorem dL_law_760 : decode cL_law 760 = .ok (.aload_n 0, 1) := by decide +kernel
theorem dL_law_761 : decode cL_law 761 = .ok (.iload_n 3, 1) := by decide +kernel
theorem dL_law_762 : decode cL_law 762 = .ok (.iconst 1, 1) := by decide +kernel
theorem dL_law_763 : decode cL_law 763 = .ok (.iadd, 1) := by decide +kernel
theorem dL_law_764 : decode cL_law 764 = .ok (.iaload, 1) := by decide +kernel
theorem dL_law_765 : decode cL_law 765 = .ok (.aload_n 0, 1) := by decide +kernel
theorem dL_law_766 : decode cL_law 766 = .ok (.iload_n 3, 1) := by decide +kernel
theorem dL_law_767 : decode cL_law 767 = .ok (.iconst 2, 1) := by decide +kernel
theorem dL_law_768 : decode cL_law 768 = .ok (.iadd, 1) := by decide +kernel
theorem dL_law_769 : decode cL_law 769 = .ok (.iaload, 1) := by decide +kernel
theorem dL_law_770 : decode cL_law 770 = .ok (.invokevirtual 103, 3) := by decide +kernel
theorem dL_law_773 : decode cL_law 773 = .ok (.aload_n 2, 1) := by decide +kernel
theorem dL_law_774 : decode cL_law 774 = .ok (.aload_n 0, 1) := by decide +kernel
theorem dL_law_775 : decode cL_law 775 = .ok (.iload_n 3, 1) := by decide +kernel
theorem dL_law_776 : decode cL_law 776 = .ok (.iconst 1, 1) := by decide +kernel
theorem dL_law_777 : decode cL_law 777 = .ok (.iadd, 1) := by decide +kernel
theorem dL_law_778 : decode cL_law 778 = .ok (.iaload, 1) := by decide +kernel
theorem dL_law_779 : decode cL_law 779 = .ok (.aload_n 0, 1) := by decide +kernel
theorem dL_law_780 : decode cL_law 780 = .ok (.iload_n 3, 1) := by decide +kernel
theorem dL_law_781 : decode cL_law 781 = .ok (.iconst 2, 1) := by decide +kernel
theorem dL_law_782 : decode cL_law 782 = .ok (.iadd, 1) := by decide +kernel
theorem dL_law_783 : decode cL_law 783 = .ok (.iaload, 1) := by decide +kernel
theorem dL_law_784 : decode cL_law 784 = .ok (.invokevirtual 107, 3) := by decide +kernel
theorem dL_law_787 : decode cL_law 787 = .ok (.if_icmp .eq 206, 3) := by decide +kernel
theorem dL_law_790 : decode cL_law 790 = .ok (.iconst 0, 1) := by decide +kernel
theorem dL_law_791 : decode cL_law 791 = .ok (.ireturn, 1) := by decide +kernel
theorem dL_law_792 : decode cL_law 792 = .ok (.aload_n 1, 1) := by decide +kernel
theorem dL_law_793 : decode cL_law 793 = .ok (.aload_n 0, 1) := by decide +kernel
theorem dL_law_794 : decode cL_law 794 = .ok (.iload_n 3, 1) := by decide +kernel
theorem dL_law_795 : decode cL_law 795 = .ok (.iconst 1, 1) := by decide +kernel
theorem dL_law_796 : decode cL_law 796 = .ok (.iadd, 1) := by decide +kernel
theorem dL_law_797 : decode cL_law 797 = .ok (.iaload, 1) := by decide +kernel
theorem dL_law_798 : decode cL_law 798 = .ok (.aload_n 0, 1) := by decide +kernel
theorem dL_law_799 : decode cL_law 799 = .ok (.iload_n 3, 1) := by decide +kernel
theorem dL_law_800 : decode cL_law 800 = .ok (.iconst 2, 1) := by decide +kernel
theorem dL_law_801 : decode cL_law 801 = .ok (.iadd, 1) := by decide +kernel
theorem dL_law_802 : decode cL_law 802 = .ok (.iaload, 1) := by decide +kernel
theorem dL_law_803 : decode cL_law 803 = .ok (.invokevirtual 108, 3) := by decide +kernel
theorem dL_law_806 : decode cL_law 806 = .ok (.aload_n 2, 1) := by decide +kernel
theorem dL_law_807 : decode cL_law 807 = .ok (.aload_n 0, 1) := by decide +kernel
theorem dL_law_808 : decode cL_law 808 = .ok (.iload_n 3, 1) := by decide +kernel
theorem dL_law_809 : decode cL_law 809 = .ok (.iconst 1, 1) := by decide +kernel
theorem dL_law_810 : decode cL_law 810 = .ok (.iadd, 1) := by decide +kernel
theorem dL_law_811 : decode cL_law 811 = .ok (.iaload, 1) := by decide +kernel
theorem dL_law_812 : decode cL_law 812 = .ok (.aload_n 0, 1) := by decide +kernel
theorem dL_law_813 : decode cL_law 813 = .ok (.iload_n 3, 1) := by decide +kernel
theorem dL_law_814 : decode cL_law 814 = .ok (.iconst 2, 1) := by decide +kernel
theorem dL_law_815 : decode cL_law 815 = .ok (.iadd, 1) := by decide +kernel
theorem dL_law_816 : decode cL_law 816 = .ok (.iaload, 1) := by decide +kernel
theorem dL_law_817 : decode cL_law 817 = .ok (.invokevirtual 111, 3) := by decide +kernel
theorem dL_law_820 : decode cL_law 820 = .ok (.if_icmp .eq 173, 3) := by decide +kernel
theorem dL_law_823 : decode cL_law 823 = .ok (.iconst 0, 1) := by decide +kernel
theorem dL_law_824 : decode cL_law 824 = .ok (.ireturn, 1) := by decide +kernel
theorem dL_law_825 : decode cL_law 825 = .ok (.aload_n 1, 1) := by decide +kernel
theorem dL_law_826 : decode cL_law 826 = .ok (.aload_n 0, 1) := by decide +kernel
theorem dL_law_827 : decode cL_law 827 = .ok (.iload_n 3, 1) := by decide +kernel
theorem dL_law_828 : decode cL_law 828 = .ok (.iconst 1, 1) := by decide +kernel
theorem dL_law_829 : decode cL_law 829 = .ok (.iadd, 1) := by decide +kernel
theorem dL_law_830 : decode cL_law 830 = .ok (.iaload, 1) := by decide +kernel
theorem dL_law_831 : decode cL_law 831 = .ok (.invokevirtual 112, 3) := by decide +kernel
theorem dL_law_834 : decode cL_law 834 = .ok (.aload_n 2, 1) := by decide +kernel
theorem dL_law_835 : decode cL_law 835 = .ok (.aload_n 0, 1) := by decide +kernel
theorem dL_law_836 : decode cL_law 836 = .ok (.iload_n 3, 1) := by decide +kernel
theorem dL_law_837 : decode cL_law 837 = .ok (.iconst 1, 1) := by decide +kernel
theorem dL_law_838 : decode cL_law 838 = .ok (.iadd, 1) := by decide +kernel
theorem dL_law_839 : decode cL_law 839 = .ok (.iaload, 1) := by decide +kernel
theorem dL_law_840 : decode cL_law 840 = .ok (.invokevirtual 115, 3) := by decide +kernel
theorem dL_law_843 : decode cL_law 843 = .ok (.if_icmp .eq 150, 3) := by decide +kernel
theorem dL_law_846 : decode cL_law 846 = .ok (.iconst 0, 1) := by decide +kernel
theorem dL_law_847 : decode cL_law 847 = .ok (.ireturn, 1) := by decide +kernel
theorem dL_law_848 : decode cL_law 848 = .ok (.aload_n 1, 1) := by decide +kernel
theorem dL_law_849 : decode cL_law 849 = .ok (.aload_n 0, 1) := by decide +kernel
theorem dL_law_850 : decode cL_law 850 = .ok (.iload_n 3, 1) := by decide +kernel
theorem dL_law_851 : decode cL_law 851 = .ok (.iconst 1, 1) := by decide +kernel
theorem dL_law_852 : decode cL_law 852 = .ok (.iadd, 1) := by decide +kernel
theorem dL_law_853 : decode cL_law 853 = .ok (.iaload, 1) := by decide +kernel
theorem dL_law_854 : decode cL_law 854 = .ok (.invokevirtual 116, 3) := by decide +kernel
theorem dL_law_857 : decode cL_law 857 = .ok (.aload_n 2, 1) := by decide +kernel
theorem dL_law_858 : decode cL_law 858 = .ok (.aload_n 0, 1) := by decide +kernel
theorem dL_law_859 : decode cL_law 859 = .ok (.iload_n 3, 1) := by decide +kernel
theorem dL_law_860 : decode cL_law 860 = .ok (.iconst 1, 1) := by decide +kernel
theorem dL_law_861 : decode cL_law 861 = .ok (.iadd, 1) := by decide +kernel
theorem dL_law_862 : decode cL_law 862 = .ok (.iaload, 1) := by decide +kernel
theorem dL_law_863 : decode cL_law 863 = .ok (.invokevirtual 119, 3) := by decide +kernel
theorem dL_law_866 : decode cL_law 866 = .ok (.if_icmp .eq 127, 3) := by decide +kernel
theorem dL_law_869 : decode cL_law 869 = .ok (.iconst 0, 1) := by decide +kernel
theorem dL_law_870 : decode cL_law 870 = .ok (.ireturn, 1) := by decide +kernel
theorem dL_law_871 : decode cL_law 871 = .ok (.aload_n 1, 1) := by decide +kernel
theorem dL_law_872 : decode cL_law 872 = .ok (.invokevirtual 120, 3) := by decide +kernel
theorem dL_law_875 : decode cL_law 875 = .ok (.aload_n 2, 1) := by decide +kernel
theorem dL_law_876 : decode cL_law 876 = .ok (.invokevirtual 124, 3) := by decide +kernel
theorem dL_law_879 : decode cL_law 879 = .ok (.if_icmp .eq 114, 3) := by decide +kernel
theorem dL_law_882 : decode cL_law 882 = .ok (.iconst 0, 1) := by decide +kernel
theorem dL_law_883 : decode cL_law 883 = .ok (.ireturn, 1) := by decide +kernel
theorem dL_law_884 : decode cL_law 884 = .ok (.aload_n 1, 1) := by decide +kernel
theorem dL_law_885 : decode cL_law 885 = .ok (.aload_n 0, 1) := by decide +kernel
theorem dL_law_886 : decode cL_law 886 = .ok (.iload_n 3, 1) := by decide +kernel
theorem dL_law_887 : decode cL_law 887 = .ok (.iconst 1, 1) := by decide +kernel
theorem dL_law_888 : decode cL_law 888 = .ok (.iadd, 1) := by decide +kernel
theorem dL_law_889 : decode cL_law 889 = .ok (.iaload, 1) := by decide +kernel
theorem dL_law_890 : decode cL_law 890 = .ok (.invokevirtual 125, 3) := by decide +kernel
theorem dL_law_893 : decode cL_law 893 = .ok (.aload_n 2, 1) := by decide +kernel
theorem dL_law_894 : decode cL_law 894 = .ok (.aload_n 0, 1) := by decide +kernel
theorem dL_law_895 : decode cL_law 895 = .ok (.iload_n 3, 1) := by decide +kernel
theorem dL_law_896 : decode cL_law 896 = .ok (.iconst 1, 1) := by decide +kernel
theorem dL_law_897 : decode cL_law 897 = .ok (.iadd, 1) := by decide +kernel
theorem dL_law_898 : decode cL_law 898 = .ok (.iaload, 1) := by decide +kernel
theorem dL_law_899 : decode cL_law 899 = .ok (.invokevirtual 128, 3) := by decide +kernel
theorem dL_law_902 : decode cL_law 902 = .ok (.if_icmp .eq 91, 3) := by decide +kernel
theorem dL_law_905 : decode cL_law 905 = .ok (.iconst 0, 1) := by decide +kernel
theorem dL_law_906 : decode cL_law 906 = .ok (.ireturn, 1) := by decide +kernel
theorem dL_law_907 : decode cL_law 907 = .ok (.aload_n 1, 1) := by decide +kernel
theorem dL_law_908 : decode cL_law 908 = .ok (.invokevirtual 129, 3) := by decide +kernel
theorem dL_law_911 : decode cL_law 911 = .ok (.aload_n 2, 1) := by decide +kernel
theorem dL_law_912 : decode cL_law 912 = .ok (.invokevirtual 133, 3) := by decide +kernel
theorem dL_law_915 : decode cL_law 915 = .ok (.lcmp, 1) := by decide +kernel
theorem dL_law_916 : decode cL_law 916 = .ok (.ifCond .eq 77, 3) := by decide +kernel
theorem dL_law_919 : decode cL_law 919 = .ok (.iconst 0, 1) := by decide +kernel
theorem dL_law_920 : decode cL_law 920 = .ok (.ireturn, 1) := by decide +kernel
theorem dL_law_921 : decode cL_law 921 = .ok (.aload_n 1, 1) := by decide +kernel
theorem dL_law_922 : decode cL_law 922 = .ok (.invokevirtual 134, 3) := by decide +kernel
theorem dL_law_925 : decode cL_law 925 = .ok (.aload_n 2, 1) := by decide +kernel
theorem dL_law_926 : decode cL_law 926 = .ok (.invokevirtual 137, 3) := by decide +kernel
theorem dL_law_929 : decode cL_law 929 = .ok (.if_icmp .eq 64, 3) := by decide +kernel
theorem dL_law_932 : decode cL_law 932 = .ok (.iconst 0, 1) := by decide +kernel
theorem dL_law_933 : decode cL_law 933 = .ok (.ireturn, 1) := by decide +kernel
theorem dL_law_934 : decode cL_law 934 = .ok (.aload_n 1, 1) := by decide +kernel
theorem dL_law_935 : decode cL_law 935 = .ok (.aload_n 0, 1) := by decide +kernel
theorem dL_law_936 : decode cL_law 936 = .ok (.iload_n 3, 1) := by decide +kernel
theorem dL_law_937 : decode cL_law 937 = .ok (.iconst 1, 1) := by decide +kernel
theorem dL_law_938 : decode cL_law 938 = .ok (.iadd, 1) := by decide +kernel
theorem dL_law_939 : decode cL_law 939 = .ok (.iaload, 1) := by decide +kernel
theorem dL_law_940 : decode cL_law 940 = .ok (.invokevirtual 138, 3) := by decide +kernel
theorem dL_law_943 : decode cL_law 943 = .ok (.aload_n 2, 1) := by decide +kernel
theorem dL_law_944 : decode cL_law 944 = .ok (.aload_n 0, 1) := by decide +kernel
theorem dL_law_945 : decode cL_law 945 = .ok (.iload_n 3, 1) := by decide +kernel
theorem dL_law_946 : decode cL_law 946 = .ok (.iconst 1, 1) := by decide +kernel
theorem dL_law_947 : decode cL_law 947 = .ok (.iadd, 1) := by decide +kernel
theorem dL_law_948 : decode cL_law 948 = .ok (.iaload, 1) := by decide +kernel
theorem dL_law_949 : decode cL_law 949 = .ok (.invokevirtual 141, 3) := by decide +kernel
theorem dL_law_952 : decode cL_law 952 = .ok (.if_icmp .eq 41, 3) := by decide +kernel
theorem dL_law_955 : decode cL_law 955 = .ok (.iconst 0, 1) := by decide +kernel
theorem dL_law_956 : decode cL_law 956 = .ok (.ireturn, 1) := by decide +kernel
theorem dL_law_957 : decode cL_law 957 = .ok (.aload_n 1, 1) := by decide +kernel
theorem dL_law_958 : decode cL_law 958 = .ok (.invokevirtual 142, 3) := by decide +kernel
theorem dL_law_961 : decode cL_law 961 = .ok (.aload_n 2, 1) := by decide +kernel
theorem dL_law_962 : decode cL_law 962 = .ok (.invokevirtual 145, 3) := by decide +kernel
theorem dL_law_965 : decode cL_law 965 = .ok (.if_icmp .eq 28, 3) := by decide +kernel
theorem dL_law_968 : decode cL_law 968 = .ok (.iconst 0, 1) := by decide +kernel
theorem dL_law_969 : decode cL_law 969 = .ok (.ireturn, 1) := by decide +kernel
theorem dL_law_970 : decode cL_law 970 = .ok (.aload_n 1, 1) := by decide +kernel
theorem dL_law_971 : decode cL_law 971 = .ok (.aload_n 0, 1) := by decide +kernel
theorem dL_law_972 : decode cL_law 972 = .ok (.iload_n 3, 1) := by decide +kernel
theorem dL_law_973 : decode cL_law 973 = .ok (.iconst 1, 1) := by decide +kernel
theorem dL_law_974 : decode cL_law 974 = .ok (.iadd, 1) := by decide +kernel
theorem dL_law_975 : decode cL_law 975 = .ok (.iaload, 1) := by decide +kernel
theorem dL_law_976 : decode cL_law 976 = .ok (.invokevirtual 146, 3) := by decide +kernel
theorem dL_law_979 : decode cL_law 979 = .ok (.aload_n 2, 1) := by decide +kernel
theorem dL_law_980 : decode cL_law 980 = .ok (.aload_n 0, 1) := by decide +kernel
theorem dL_law_981 : decode cL_law 981 = .ok (.iload_n 3, 1) := by decide +kernel
theorem dL_law_982 : decode cL_law 982 = .ok (.iconst 1, 1) := by decide +kernel
theorem dL_law_983 : decode cL_law 983 = .ok (.iadd, 1) := by decide +kernel
theorem dL_law_984 : decode cL_law 984 = .ok (.iaload, 1) := by decide +kernel
theorem dL_law_985 : decode cL_law 985 = .ok (.invokevirtual 149, 3) := by decide +kernel
theorem dL_law_988 : decode cL_law 988 = .ok (.if_icmp .eq 5, 3) := by decide +kernel
theorem dL_law_991 : decode cL_law 991 = .ok (.iconst 0, 1) := by decide +kernel
theorem dL_law_992 : decode cL_law 992 = .ok (.ireturn, 1) := by decide +kernel
theorem dL_law_993 : decode cL_law 993 = .ok (.iinc 3 6, 3) := by decide +kernel
theorem dL_law_996 : decode cL_law 996 = .ok (.goto (-978), 3) := by decide +kernel
theorem dL_law_999 : decode cL_law 999 = .ok (.iconst 1, 1) := by decide +kernel
theorem dL_law_1000 : decode cL_law 1000 = .ok (.ireturn, 1) := by decide +kernel
