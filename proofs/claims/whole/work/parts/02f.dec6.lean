theorem dX6_factor_63 : decode cX6_factor 63 = .ok (.aload_n 0, 1) := by decide +kernel
theorem dX6_factor_64 : decode cX6_factor 64 = .ok (.bipush 45, 2) := by decide +kernel
theorem dX6_factor_66 : decode cX6_factor 66 = .ok (.invokevirtual 217, 3) := by decide +kernel
theorem dX6_factor_69 : decode cX6_factor 69 = .ok (.ifCond .eq 27, 3) := by decide +kernel
theorem dX6_factor_72 : decode cX6_factor 72 = .ok (.aload_n 0, 1) := by decide +kernel
theorem dX6_factor_73 : decode cX6_factor 73 = .ok (.invokevirtual 220, 3) := by decide +kernel
theorem dX6_factor_76 : decode cX6_factor 76 = .ok (.aload_n 0, 1) := by decide +kernel
theorem dX6_factor_77 : decode cX6_factor 77 = .ok (.sipush 2004, 3) := by decide +kernel
theorem dX6_factor_80 : decode cX6_factor 80 = .ok (.invokevirtual 205, 3) := by decide +kernel
theorem dX6_factor_83 : decode cX6_factor 83 = .ok (.aload_n 0, 1) := by decide +kernel
theorem dX6_factor_84 : decode cX6_factor 84 = .ok (.dup, 1) := by decide +kernel
theorem dX6_factor_85 : decode cX6_factor 85 = .ok (.getfield 208, 3) := by decide +kernel
theorem dX6_factor_88 : decode cX6_factor 88 = .ok (.iconst 1, 1) := by decide +kernel
theorem dX6_factor_89 : decode cX6_factor 89 = .ok (.isub, 1) := by decide +kernel
theorem dX6_factor_90 : decode cX6_factor 90 = .ok (.putfield 208, 3) := by decide +kernel
theorem dX6_factor_93 : decode cX6_factor 93 = .ok (.goto 88, 3) := by decide +kernel
theorem dX6_factor_96 : decode cX6_factor 96 = .ok (.aload_n 0, 1) := by decide +kernel
theorem dX6_factor_97 : decode cX6_factor 97 = .ok (.bipush 40, 2) := by decide +kernel
theorem dX6_factor_99 : decode cX6_factor 99 = .ok (.invokevirtual 217, 3) := by decide +kernel
theorem dX6_factor_102 : decode cX6_factor 102 = .ok (.ifCond .eq 26, 3) := by decide +kernel
theorem dX6_factor_105 : decode cX6_factor 105 = .ok (.aload_n 0, 1) := by decide +kernel
theorem dX6_factor_106 : decode cX6_factor 106 = .ok (.invokevirtual 223, 3) := by decide +kernel
theorem dX6_factor_109 : decode cX6_factor 109 = .ok (.aload_n 0, 1) := by decide +kernel
theorem dX6_factor_110 : decode cX6_factor 110 = .ok (.bipush 41, 2) := by decide +kernel
theorem dX6_factor_112 : decode cX6_factor 112 = .ok (.invokevirtual 226, 3) := by decide +kernel
theorem dX6_factor_115 : decode cX6_factor 115 = .ok (.aload_n 0, 1) := by decide +kernel
theorem dX6_factor_116 : decode cX6_factor 116 = .ok (.dup, 1) := by decide +kernel
theorem dX6_factor_117 : decode cX6_factor 117 = .ok (.getfield 208, 3) := by decide +kernel
theorem dX6_factor_120 : decode cX6_factor 120 = .ok (.iconst 1, 1) := by decide +kernel
theorem dX6_factor_121 : decode cX6_factor 121 = .ok (.isub, 1) := by decide +kernel
theorem dX6_factor_122 : decode cX6_factor 122 = .ok (.putfield 208, 3) := by decide +kernel
theorem dX6_factor_125 : decode cX6_factor 125 = .ok (.goto 56, 3) := by decide +kernel
theorem dX6_factor_128 : decode cX6_factor 128 = .ok (.aload_n 0, 1) := by decide +kernel
theorem dX6_factor_129 : decode cX6_factor 129 = .ok (.bipush 91, 2) := by decide +kernel
theorem dX6_factor_131 : decode cX6_factor 131 = .ok (.invokevirtual 217, 3) := by decide +kernel
theorem dX6_factor_134 : decode cX6_factor 134 = .ok (.ifCond .eq 43, 3) := by decide +kernel
theorem dX6_factor_137 : decode cX6_factor 137 = .ok (.aload_n 0, 1) := by decide +kernel
theorem dX6_factor_138 : decode cX6_factor 138 = .ok (.invokevirtual 223, 3) := by decide +kernel
theorem dX6_factor_141 : decode cX6_factor 141 = .ok (.aload_n 0, 1) := by decide +kernel
theorem dX6_factor_142 : decode cX6_factor 142 = .ok (.bipush 44, 2) := by decide +kernel
theorem dX6_factor_144 : decode cX6_factor 144 = .ok (.invokevirtual 226, 3) := by decide +kernel
theorem dX6_factor_147 : decode cX6_factor 147 = .ok (.aload_n 0, 1) := by decide +kernel
theorem dX6_factor_148 : decode cX6_factor 148 = .ok (.invokevirtual 223, 3) := by decide +kernel
theorem dX6_factor_151 : decode cX6_factor 151 = .ok (.aload_n 0, 1) := by decide +kernel
theorem dX6_factor_152 : decode cX6_factor 152 = .ok (.bipush 93, 2) := by decide +kernel
theorem dX6_factor_154 : decode cX6_factor 154 = .ok (.invokevirtual 226, 3) := by decide +kernel
theorem dX6_factor_157 : decode cX6_factor 157 = .ok (.aload_n 0, 1) := by decide +kernel
theorem dX6_factor_158 : decode cX6_factor 158 = .ok (.sipush 2005, 3) := by decide +kernel
theorem dX6_factor_161 : decode cX6_factor 161 = .ok (.invokevirtual 205, 3) := by decide +kernel
theorem dX6_factor_164 : decode cX6_factor 164 = .ok (.aload_n 0, 1) := by decide +kernel
theorem dX6_factor_165 : decode cX6_factor 165 = .ok (.dup, 1) := by decide +kernel
theorem dX6_factor_166 : decode cX6_factor 166 = .ok (.getfield 208, 3) := by decide +kernel
theorem dX6_factor_169 : decode cX6_factor 169 = .ok (.iconst 1, 1) := by decide +kernel
theorem dX6_factor_170 : decode cX6_factor 170 = .ok (.isub, 1) := by decide +kernel
theorem dX6_factor_171 : decode cX6_factor 171 = .ok (.putfield 208, 3) := by decide +kernel
theorem dX6_factor_174 : decode cX6_factor 174 = .ok (.goto 7, 3) := by decide +kernel
theorem dX6_factor_177 : decode cX6_factor 177 = .ok (.aload_n 0, 1) := by decide +kernel
theorem dX6_factor_178 : decode cX6_factor 178 = .ok (.invokevirtual 196, 3) := by decide +kernel
theorem dX6_factor_181 : decode cX6_factor 181 = .ok (.return_, 1) := by decide +kernel
theorem dX6_term_0 : decode cX6_term 0 = .ok (.aload_n 0, 1) := by decide +kernel
theorem dX6_term_1 : decode cX6_term 1 = .ok (.invokevirtual 220, 3) := by decide +kernel
theorem dX6_term_4 : decode cX6_term 4 = .ok (.iconst 1, 1) := by decide +kernel
theorem dX6_term_5 : decode cX6_term 5 = .ok (.istore_n 1, 1) := by decide +kernel
theorem dX6_term_6 : decode cX6_term 6 = .ok (.iload_n 1, 1) := by decide +kernel
theorem dX6_term_7 : decode cX6_term 7 = .ok (.ifCond .eq 61, 3) := by decide +kernel
theorem dX6_term_10 : decode cX6_term 10 = .ok (.aload_n 0, 1) := by decide +kernel
theorem dX6_term_11 : decode cX6_term 11 = .ok (.bipush 42, 2) := by decide +kernel
theorem dX6_term_13 : decode cX6_term 13 = .ok (.invokevirtual 193, 3) := by decide +kernel
theorem dX6_term_16 : decode cX6_term 16 = .ok (.ifCond .eq 9, 3) := by decide +kernel
theorem dX6_term_19 : decode cX6_term 19 = .ok (.sipush 2002, 3) := by decide +kernel
theorem dX6_term_22 : decode cX6_term 22 = .ok (.goto 19, 3) := by decide +kernel
theorem dX6_term_25 : decode cX6_term 25 = .ok (.aload_n 0, 1) := by decide +kernel
theorem dX6_term_26 : decode cX6_term 26 = .ok (.bipush 47, 2) := by decide +kernel
theorem dX6_term_28 : decode cX6_term 28 = .ok (.invokevirtual 193, 3) := by decide +kernel
theorem dX6_term_31 : decode cX6_term 31 = .ok (.ifCond .eq 9, 3) := by decide +kernel
theorem dX6_term_34 : decode cX6_term 34 = .ok (.sipush 2003, 3) := by decide +kernel
theorem dX6_term_37 : decode cX6_term 37 = .ok (.goto 4, 3) := by decide +kernel
theorem dX6_term_40 : decode cX6_term 40 = .ok (.iconst (-1), 1) := by decide +kernel
theorem dX6_term_41 : decode cX6_term 41 = .ok (.istore_n 2, 1) := by decide +kernel
theorem dX6_term_42 : decode cX6_term 42 = .ok (.iload_n 2, 1) := by decide +kernel
theorem dX6_term_43 : decode cX6_term 43 = .ok (.ifCond .lt 7, 3) := by decide +kernel
theorem dX6_term_46 : decode cX6_term 46 = .ok (.iconst 1, 1) := by decide +kernel
theorem dX6_term_47 : decode cX6_term 47 = .ok (.goto 4, 3) := by decide +kernel
theorem dX6_term_50 : decode cX6_term 50 = .ok (.iconst 0, 1) := by decide +kernel
theorem dX6_term_51 : decode cX6_term 51 = .ok (.istore_n 1, 1) := by decide +kernel
theorem dX6_term_52 : decode cX6_term 52 = .ok (.iload_n 1, 1) := by decide +kernel
theorem dX6_term_53 : decode cX6_term 53 = .ok (.ifCond .eq 12, 3) := by decide +kernel
theorem dX6_term_56 : decode cX6_term 56 = .ok (.aload_n 0, 1) := by decide +kernel
theorem dX6_term_57 : decode cX6_term 57 = .ok (.invokevirtual 220, 3) := by decide +kernel
theorem dX6_term_60 : decode cX6_term 60 = .ok (.aload_n 0, 1) := by decide +kernel
theorem dX6_term_61 : decode cX6_term 61 = .ok (.iload_n 2, 1) := by decide +kernel
theorem dX6_term_62 : decode cX6_term 62 = .ok (.invokevirtual 205, 3) := by decide +kernel
theorem dX6_term_65 : decode cX6_term 65 = .ok (.goto (-59), 3) := by decide +kernel
theorem dX6_term_68 : decode cX6_term 68 = .ok (.return_, 1) := by decide +kernel
theorem dX6_sum_0 : decode cX6_sum 0 = .ok (.aload_n 0, 1) := by decide +kernel
theorem dX6_sum_1 : decode cX6_sum 1 = .ok (.invokevirtual 229, 3) := by decide +kernel
theorem dX6_sum_4 : decode cX6_sum 4 = .ok (.iconst 1, 1) := by decide +kernel
theorem dX6_sum_5 : decode cX6_sum 5 = .ok (.istore_n 1, 1) := by decide +kernel
theorem dX6_sum_6 : decode cX6_sum 6 = .ok (.iload_n 1, 1) := by decide +kernel
theorem dX6_sum_7 : decode cX6_sum 7 = .ok (.ifCond .eq 61, 3) := by decide +kernel
theorem dX6_sum_10 : decode cX6_sum 10 = .ok (.aload_n 0, 1) := by decide +kernel
theorem dX6_sum_11 : decode cX6_sum 11 = .ok (.bipush 43, 2) := by decide +kernel
theorem dX6_sum_13 : decode cX6_sum 13 = .ok (.invokevirtual 193, 3) := by decide +kernel
theorem dX6_sum_16 : decode cX6_sum 16 = .ok (.ifCond .eq 9, 3) := by decide +kernel
theorem dX6_sum_19 : decode cX6_sum 19 = .ok (.sipush 2000, 3) := by decide +kernel
theorem dX6_sum_22 : decode cX6_sum 22 = .ok (.goto 19, 3) := by decide +kernel
theorem dX6_sum_25 : decode cX6_sum 25 = .ok (.aload_n 0, 1) := by decide +kernel
theorem dX6_sum_26 : decode cX6_sum 26 = .ok (.bipush 45, 2) := by decide +kernel
theorem dX6_sum_28 : decode cX6_sum 28 = .ok (.invokevirtual 193, 3) := by decide +kernel
theorem dX6_sum_31 : decode cX6_sum 31 = .ok (.ifCond .eq 9, 3) := by decide +kernel
theorem dX6_sum_34 : decode cX6_sum 34 = .ok (.sipush 2001, 3) := by decide +kernel
theorem dX6_sum_37 : decode cX6_sum 37 = .ok (.goto 4, 3) := by decide +kernel
theorem dX6_sum_40 : decode cX6_sum 40 = .ok (.iconst (-1), 1) := by decide +kernel
theorem dX6_sum_41 : decode cX6_sum 41 = .ok (.istore_n 2, 1) := by decide +kernel
theorem dX6_sum_42 : decode cX6_sum 42 = .ok (.iload_n 2, 1) := by decide +kernel
theorem dX6_sum_43 : decode cX6_sum 43 = .ok (.ifCond .lt 7, 3) := by decide +kernel
theorem dX6_sum_46 : decode cX6_sum 46 = .ok (.iconst 1, 1) := by decide +kernel
theorem dX6_sum_47 : decode cX6_sum 47 = .ok (.goto 4, 3) := by decide +kernel
theorem dX6_sum_50 : decode cX6_sum 50 = .ok (.iconst 0, 1) := by decide +kernel
theorem dX6_sum_51 : decode cX6_sum 51 = .ok (.istore_n 1, 1) := by decide +kernel
theorem dX6_sum_52 : decode cX6_sum 52 = .ok (.iload_n 1, 1) := by decide +kernel
theorem dX6_sum_53 : decode cX6_sum 53 = .ok (.ifCond .eq 12, 3) := by decide +kernel
theorem dX6_sum_56 : decode cX6_sum 56 = .ok (.aload_n 0, 1) := by decide +kernel
theorem dX6_sum_57 : decode cX6_sum 57 = .ok (.invokevirtual 229, 3) := by decide +kernel
theorem dX6_sum_60 : decode cX6_sum 60 = .ok (.aload_n 0, 1) := by decide +kernel
theorem dX6_sum_61 : decode cX6_sum 61 = .ok (.iload_n 2, 1) := by decide +kernel
theorem dX6_sum_62 : decode cX6_sum 62 = .ok (.invokevirtual 205, 3) := by decide +kernel
theorem dX6_sum_65 : decode cX6_sum 65 = .ok (.goto (-59), 3) := by decide +kernel
theorem dX6_sum_68 : decode cX6_sum 68 = .ok (.return_, 1) := by decide +kernel
theorem dX6_feed_0 : decode cX6_feed 0 = .ok (.iload_n 2, 1) := by decide +kernel
theorem dX6_feed_1 : decode cX6_feed 1 = .ok (.iconst 1, 1) := by decide +kernel
theorem dX6_feed_2 : decode cX6_feed 2 = .ok (.iconst 4, 1) := by decide +kernel
theorem dX6_feed_3 : decode cX6_feed 3 = .ok (.invokestatic 57, 3) := by decide +kernel
theorem dX6_feed_6 : decode cX6_feed 6 = .ok (.ifCond .ne 9, 3) := by decide +kernel
theorem dX6_feed_9 : decode cX6_feed 9 = .ok (.aload_n 0, 1) := by decide +kernel
theorem dX6_feed_10 : decode cX6_feed 10 = .ok (.iconst 0, 1) := by decide +kernel
theorem dX6_feed_11 : decode cX6_feed 11 = .ok (.invokevirtual 85, 3) := by decide +kernel
theorem dX6_feed_14 : decode cX6_feed 14 = .ok (.ireturn, 1) := by decide +kernel
theorem dX6_feed_15 : decode cX6_feed 15 = .ok (.aload_n 0, 1) := by decide +kernel
theorem dX6_feed_16 : decode cX6_feed 16 = .ok (.getfield 183, 3) := by decide +kernel
theorem dX6_feed_19 : decode cX6_feed 19 = .ok (.iload_n 2, 1) := by decide +kernel
theorem dX6_feed_20 : decode cX6_feed 20 = .ok (.iadd, 1) := by decide +kernel
theorem dX6_feed_21 : decode cX6_feed 21 = .ok (.bipush 60, 2) := by decide +kernel
theorem dX6_feed_23 : decode cX6_feed 23 = .ok (.if_icmp .le 9, 3) := by decide +kernel
theorem dX6_feed_26 : decode cX6_feed 26 = .ok (.aload_n 0, 1) := by decide +kernel
theorem dX6_feed_27 : decode cX6_feed 27 = .ok (.iconst 1, 1) := by decide +kernel
theorem dX6_feed_28 : decode cX6_feed 28 = .ok (.invokevirtual 85, 3) := by decide +kernel
theorem dX6_feed_31 : decode cX6_feed 31 = .ok (.ireturn, 1) := by decide +kernel
theorem dX6_feed_32 : decode cX6_feed 32 = .ok (.iload_n 2, 1) := by decide +kernel
theorem dX6_feed_33 : decode cX6_feed 33 = .ok (.iconst 1, 1) := by decide +kernel
theorem dX6_feed_34 : decode cX6_feed 34 = .ok (.isub, 1) := by decide +kernel
theorem dX6_feed_35 : decode cX6_feed 35 = .ok (.istore_n 3, 1) := by decide +kernel
theorem dX6_feed_36 : decode cX6_feed 36 = .ok (.iload_n 3, 1) := by decide +kernel
theorem dX6_feed_37 : decode cX6_feed 37 = .ok (.ifCond .lt 38, 3) := by decide +kernel
theorem dX6_feed_40 : decode cX6_feed 40 = .ok (.aload_n 0, 1) := by decide +kernel
theorem dX6_feed_41 : decode cX6_feed 41 = .ok (.getfield 19, 3) := by decide +kernel
theorem dX6_feed_44 : decode cX6_feed 44 = .ok (.aload_n 0, 1) := by decide +kernel
theorem dX6_feed_45 : decode cX6_feed 45 = .ok (.getfield 183, 3) := by decide +kernel
theorem dX6_feed_48 : decode cX6_feed 48 = .ok (.iload_n 1, 1) := by decide +kernel
theorem dX6_feed_49 : decode cX6_feed 49 = .ok (.bipush 8, 2) := by decide +kernel
theorem dX6_feed_51 : decode cX6_feed 51 = .ok (.iload_n 3, 1) := by decide +kernel
theorem dX6_feed_52 : decode cX6_feed 52 = .ok (.imul, 1) := by decide +kernel
theorem dX6_feed_53 : decode cX6_feed 53 = .ok (.ishr, 1) := by decide +kernel
theorem dX6_feed_54 : decode cX6_feed 54 = .ok (.sipush 255, 3) := by decide +kernel
theorem dX6_feed_57 : decode cX6_feed 57 = .ok (.iand, 1) := by decide +kernel
theorem dX6_feed_58 : decode cX6_feed 58 = .ok (.iastore, 1) := by decide +kernel
theorem dX6_feed_59 : decode cX6_feed 59 = .ok (.aload_n 0, 1) := by decide +kernel
theorem dX6_feed_60 : decode cX6_feed 60 = .ok (.dup, 1) := by decide +kernel
theorem dX6_feed_61 : decode cX6_feed 61 = .ok (.getfield 183, 3) := by decide +kernel
theorem dX6_feed_64 : decode cX6_feed 64 = .ok (.iconst 1, 1) := by decide +kernel
theorem dX6_feed_65 : decode cX6_feed 65 = .ok (.iadd, 1) := by decide +kernel
theorem dX6_feed_66 : decode cX6_feed 66 = .ok (.putfield 183, 3) := by decide +kernel
theorem dX6_feed_69 : decode cX6_feed 69 = .ok (.iinc 3 (-1), 3) := by decide +kernel
theorem dX6_feed_72 : decode cX6_feed 72 = .ok (.goto (-36), 3) := by decide +kernel
theorem dX6_feed_75 : decode cX6_feed 75 = .ok (.aload_n 0, 1) := by decide +kernel
theorem dX6_feed_76 : decode cX6_feed 76 = .ok (.getfield 183, 3) := by decide +kernel
theorem dX6_feed_79 : decode cX6_feed 79 = .ok (.ireturn, 1) := by decide +kernel
theorem dX6_wipe_0 : decode cX6_wipe 0 = .ok (.aload_n 0, 1) := by decide +kernel
theorem dX6_wipe_1 : decode cX6_wipe 1 = .ok (.getfield 183, 3) := by decide +kernel
theorem dX6_wipe_4 : decode cX6_wipe 4 = .ok (.istore_n 1, 1) := by decide +kernel
theorem dX6_wipe_5 : decode cX6_wipe 5 = .ok (.aload_n 0, 1) := by decide +kernel
theorem dX6_wipe_6 : decode cX6_wipe 6 = .ok (.iconst 0, 1) := by decide +kernel
theorem dX6_wipe_7 : decode cX6_wipe 7 = .ok (.putfield 183, 3) := by decide +kernel
theorem dX6_wipe_10 : decode cX6_wipe 10 = .ok (.iload_n 1, 1) := by decide +kernel
theorem dX6_wipe_11 : decode cX6_wipe 11 = .ok (.ireturn, 1) := by decide +kernel
theorem dX6_law_0 : decode cX6_law 0 = .ok (.aload_n 0, 1) := by decide +kernel
theorem dX6_law_1 : decode cX6_law 1 = .ok (.iconst 0, 1) := by decide +kernel
theorem dX6_law_2 : decode cX6_law 2 = .ok (.putfield 199, 3) := by decide +kernel
theorem dX6_law_5 : decode cX6_law 5 = .ok (.aload_n 0, 1) := by decide +kernel
theorem dX6_law_6 : decode cX6_law 6 = .ok (.iconst 0, 1) := by decide +kernel
theorem dX6_law_7 : decode cX6_law 7 = .ok (.putfield 180, 3) := by decide +kernel
theorem dX6_law_10 : decode cX6_law 10 = .ok (.aload_n 0, 1) := by decide +kernel
theorem dX6_law_11 : decode cX6_law 11 = .ok (.iconst (-1), 1) := by decide +kernel
theorem dX6_law_12 : decode cX6_law 12 = .ok (.putfield 186, 3) := by decide +kernel
theorem dX6_law_15 : decode cX6_law 15 = .ok (.aload_n 0, 1) := by decide +kernel
theorem dX6_law_16 : decode cX6_law 16 = .ok (.iconst 0, 1) := by decide +kernel
theorem dX6_law_17 : decode cX6_law 17 = .ok (.putfield 208, 3) := by decide +kernel
theorem dX6_law_20 : decode cX6_law 20 = .ok (.aload_n 0, 1) := by decide +kernel
theorem dX6_law_21 : decode cX6_law 21 = .ok (.invokevirtual 223, 3) := by decide +kernel
theorem dX6_law_24 : decode cX6_law 24 = .ok (.aload_n 0, 1) := by decide +kernel
theorem dX6_law_25 : decode cX6_law 25 = .ok (.getfield 186, 3) := by decide +kernel
theorem dX6_law_28 : decode cX6_law 28 = .ok (.ifCond .ge 18, 3) := by decide +kernel
theorem dX6_law_31 : decode cX6_law 31 = .ok (.aload_n 0, 1) := by decide +kernel
theorem dX6_law_32 : decode cX6_law 32 = .ok (.getfield 180, 3) := by decide +kernel
theorem dX6_law_35 : decode cX6_law 35 = .ok (.aload_n 0, 1) := by decide +kernel
theorem dX6_law_36 : decode cX6_law 36 = .ok (.getfield 183, 3) := by decide +kernel
theorem dX6_law_39 : decode cX6_law 39 = .ok (.if_icmp .ge 7, 3) := by decide +kernel
theorem dX6_law_42 : decode cX6_law 42 = .ok (.aload_n 0, 1) := by decide +kernel
theorem dX6_law_43 : decode cX6_law 43 = .ok (.invokevirtual 196, 3) := by decide +kernel
theorem dX6_law_46 : decode cX6_law 46 = .ok (.aload_n 0, 1) := by decide +kernel
theorem dX6_law_47 : decode cX6_law 47 = .ok (.getfield 186, 3) := by decide +kernel
theorem dX6_law_50 : decode cX6_law 50 = .ok (.ifCond .lt 10, 3) := by decide +kernel
theorem dX6_law_53 : decode cX6_law 53 = .ok (.iconst (-1), 1) := by decide +kernel
theorem dX6_law_54 : decode cX6_law 54 = .ok (.aload_n 0, 1) := by decide +kernel
theorem dX6_law_55 : decode cX6_law 55 = .ok (.getfield 186, 3) := by decide +kernel
theorem dX6_law_58 : decode cX6_law 58 = .ok (.isub, 1) := by decide +kernel
theorem dX6_law_59 : decode cX6_law 59 = .ok (.ireturn, 1) := by decide +kernel
theorem dX6_law_60 : decode cX6_law 60 = .ok (.aload_n 0, 1) := by decide +kernel
theorem dX6_law_61 : decode cX6_law 61 = .ok (.getfield 9, 3) := by decide +kernel
theorem dX6_law_64 : decode cX6_law 64 = .ok (.iconst 5, 1) := by decide +kernel
theorem dX6_law_65 : decode cX6_law 65 = .ok (.aload_n 0, 1) := by decide +kernel
theorem dX6_law_66 : decode cX6_law 66 = .ok (.getfield 199, 3) := by decide +kernel
theorem dX6_law_69 : decode cX6_law 69 = .ok (.iastore, 1) := by decide +kernel
theorem dX6_law_70 : decode cX6_law 70 = .ok (.iconst 0, 1) := by decide +kernel
theorem dX6_law_71 : decode cX6_law 71 = .ok (.istore_n 1, 1) := by decide +kernel
theorem dX6_law_72 : decode cX6_law 72 = .ok (.iload_n 1, 1) := by decide +kernel
theorem dX6_law_73 : decode cX6_law 73 = .ok (.aload_n 0, 1) := by decide +kernel
theorem dX6_law_74 : decode cX6_law 74 = .ok (.getfield 199, 3) := by decide +kernel
theorem dX6_law_77 : decode cX6_law 77 = .ok (.if_icmp .ge 24, 3) := by decide +kernel
theorem dX6_law_80 : decode cX6_law 80 = .ok (.aload_n 0, 1) := by decide +kernel
theorem dX6_law_81 : decode cX6_law 81 = .ok (.getfield 9, 3) := by decide +kernel
theorem dX6_law_84 : decode cX6_law 84 = .ok (.bipush 14, 2) := by decide +kernel
theorem dX6_law_86 : decode cX6_law 86 = .ok (.iload_n 1, 1) := by decide +kernel
theorem dX6_law_87 : decode cX6_law 87 = .ok (.iadd, 1) := by decide +kernel
theorem dX6_law_88 : decode cX6_law 88 = .ok (.aload_n 0, 1) := by decide +kernel
theorem dX6_law_89 : decode cX6_law 89 = .ok (.getfield 37, 3) := by decide +kernel
theorem dX6_law_92 : decode cX6_law 92 = .ok (.iload_n 1, 1) := by decide +kernel
theorem dX6_law_93 : decode cX6_law 93 = .ok (.iaload, 1) := by decide +kernel
theorem dX6_law_94 : decode cX6_law 94 = .ok (.iastore, 1) := by decide +kernel
theorem dX6_law_95 : decode cX6_law 95 = .ok (.iinc 1 1, 3) := by decide +kernel
theorem dX6_law_98 : decode cX6_law 98 = .ok (.goto (-26), 3) := by decide +kernel
theorem dX6_law_101 : decode cX6_law 101 = .ok (.aload_n 0, 1) := by decide +kernel
theorem dX6_law_102 : decode cX6_law 102 = .ok (.iconst 0, 1) := by decide +kernel
theorem dX6_law_103 : decode cX6_law 103 = .ok (.putfield 183, 3) := by decide +kernel
theorem dX6_law_106 : decode cX6_law 106 = .ok (.iconst 0, 1) := by decide +kernel
theorem dX6_law_107 : decode cX6_law 107 = .ok (.ireturn, 1) := by decide +kernel
theorem dX6_plain_0 : decode cX6_plain 0 = .ok (.aload_n 0, 1) := by decide +kernel
theorem dX6_plain_1 : decode cX6_plain 1 = .ok (.getfield 9, 3) := by decide +kernel
theorem dX6_plain_4 : decode cX6_plain 4 = .ok (.iconst 5, 1) := by decide +kernel
theorem dX6_plain_5 : decode cX6_plain 5 = .ok (.iaload, 1) := by decide +kernel
theorem dX6_plain_6 : decode cX6_plain 6 = .ok (.ifCond .ge 7, 3) := by decide +kernel
theorem dX6_plain_9 : decode cX6_plain 9 = .ok (.iconst 0, 1) := by decide +kernel
theorem dX6_plain_10 : decode cX6_plain 10 = .ok (.goto 4, 3) := by decide +kernel
theorem dX6_plain_13 : decode cX6_plain 13 = .ok (.iconst 1, 1) := by decide +kernel
theorem dX6_plain_14 : decode cX6_plain 14 = .ok (.istore_n 1, 1) := by decide +kernel
theorem dX6_plain_15 : decode cX6_plain 15 = .ok (.aload_n 0, 1) := by decide +kernel
theorem dX6_plain_16 : decode cX6_plain 16 = .ok (.getfield 9, 3) := by decide +kernel
theorem dX6_plain_19 : decode cX6_plain 19 = .ok (.iconst 5, 1) := by decide +kernel
theorem dX6_plain_20 : decode cX6_plain 20 = .ok (.iconst (-1), 1) := by decide +kernel
theorem dX6_plain_21 : decode cX6_plain 21 = .ok (.iastore, 1) := by decide +kernel
theorem dX6_plain_22 : decode cX6_plain 22 = .ok (.iload_n 1, 1) := by decide +kernel
theorem dX6_plain_23 : decode cX6_plain 23 = .ok (.ireturn, 1) := by decide +kernel
theorem dX6_worthOf_0 : decode cX6_worthOf 0 = .ok (.iload_n 1, 1) := by decide +kernel
theorem dX6_worthOf_1 : decode cX6_worthOf 1 = .ok (.tableswitch 60 0 4 #[35, 37, 44, 51, 53], 35) := by decide +kernel
theorem dX6_worthOf_36 : decode cX6_worthOf 36 = .ok (.iload_n 3, 1) := by decide +kernel
theorem dX6_worthOf_37 : decode cX6_worthOf 37 = .ok (.ireturn, 1) := by decide +kernel
theorem dX6_worthOf_38 : decode cX6_worthOf 38 = .ok (.aload_n 0, 1) := by decide +kernel
theorem dX6_worthOf_39 : decode cX6_worthOf 39 = .ok (.iload_n 2, 1) := by decide +kernel
theorem dX6_worthOf_40 : decode cX6_worthOf 40 = .ok (.iconst 1, 1) := by decide +kernel
theorem dX6_worthOf_41 : decode cX6_worthOf 41 = .ok (.invokevirtual 61, 3) := by decide +kernel
theorem dX6_worthOf_44 : decode cX6_worthOf 44 = .ok (.ireturn, 1) := by decide +kernel
theorem dX6_worthOf_45 : decode cX6_worthOf 45 = .ok (.aload_n 0, 1) := by decide +kernel
theorem dX6_worthOf_46 : decode cX6_worthOf 46 = .ok (.iload_n 2, 1) := by decide +kernel
theorem dX6_worthOf_47 : decode cX6_worthOf 47 = .ok (.iconst 2, 1) := by decide +kernel
theorem dX6_worthOf_48 : decode cX6_worthOf 48 = .ok (.invokevirtual 61, 3) := by decide +kernel
theorem dX6_worthOf_51 : decode cX6_worthOf 51 = .ok (.ireturn, 1) := by decide +kernel
theorem dX6_worthOf_52 : decode cX6_worthOf 52 = .ok (.iload_n 2, 1) := by decide +kernel
theorem dX6_worthOf_53 : decode cX6_worthOf 53 = .ok (.ireturn, 1) := by decide +kernel
theorem dX6_worthOf_54 : decode cX6_worthOf 54 = .ok (.aload_n 0, 1) := by decide +kernel
theorem dX6_worthOf_55 : decode cX6_worthOf 55 = .ok (.iload_n 2, 1) := by decide +kernel
theorem dX6_worthOf_56 : decode cX6_worthOf 56 = .ok (.iconst 4, 1) := by decide +kernel
theorem dX6_worthOf_57 : decode cX6_worthOf 57 = .ok (.invokevirtual 61, 3) := by decide +kernel
theorem dX6_worthOf_60 : decode cX6_worthOf 60 = .ok (.ireturn, 1) := by decide +kernel
theorem dX6_worthOf_61 : decode cX6_worthOf 61 = .ok (.aload_n 0, 1) := by decide +kernel
theorem dX6_worthOf_62 : decode cX6_worthOf 62 = .ok (.getfield 9, 3) := by decide +kernel
theorem dX6_worthOf_65 : decode cX6_worthOf 65 = .ok (.iconst 2, 1) := by decide +kernel
theorem dX6_worthOf_66 : decode cX6_worthOf 66 = .ok (.iaload, 1) := by decide +kernel
theorem dX6_worthOf_67 : decode cX6_worthOf 67 = .ok (.ireturn, 1) := by decide +kernel
theorem dX6_done_0 : decode cX6_done 0 = .ok (.iload_n 0, 1) := by decide +kernel
theorem dX6_done_1 : decode cX6_done 1 = .ok (.tableswitch 65 2000 2003 #[31, 35, 39, 43], 31) := by decide +kernel
theorem dX6_done_32 : decode cX6_done 32 = .ok (.iload_n 1, 1) := by decide +kernel
theorem dX6_done_33 : decode cX6_done 33 = .ok (.iload_n 2, 1) := by decide +kernel
theorem dX6_done_34 : decode cX6_done 34 = .ok (.iadd, 1) := by decide +kernel
theorem dX6_done_35 : decode cX6_done 35 = .ok (.ireturn, 1) := by decide +kernel
theorem dX6_done_36 : decode cX6_done 36 = .ok (.iload_n 1, 1) := by decide +kernel
theorem dX6_done_37 : decode cX6_done 37 = .ok (.iload_n 2, 1) := by decide +kernel
theorem dX6_done_38 : decode cX6_done 38 = .ok (.isub, 1) := by decide +kernel
theorem dX6_done_39 : decode cX6_done 39 = .ok (.ireturn, 1) := by decide +kernel
theorem dX6_done_40 : decode cX6_done 40 = .ok (.iload_n 1, 1) := by decide +kernel
theorem dX6_done_41 : decode cX6_done 41 = .ok (.iload_n 2, 1) := by decide +kernel
theorem dX6_done_42 : decode cX6_done 42 = .ok (.imul, 1) := by decide +kernel
theorem dX6_done_43 : decode cX6_done 43 = .ok (.ireturn, 1) := by decide +kernel
theorem dX6_done_44 : decode cX6_done 44 = .ok (.iload_n 2, 1) := by decide +kernel
theorem dX6_done_45 : decode cX6_done 45 = .ok (.ifCond .ne 7, 3) := by decide +kernel
theorem dX6_done_48 : decode cX6_done 48 = .ok (.iconst 0, 1) := by decide +kernel
theorem dX6_done_49 : decode cX6_done 49 = .ok (.goto 16, 3) := by decide +kernel
theorem dX6_done_52 : decode cX6_done 52 = .ok (.iload_n 2, 1) := by decide +kernel
theorem dX6_done_53 : decode cX6_done 53 = .ok (.iconst (-1), 1) := by decide +kernel
theorem dX6_done_54 : decode cX6_done 54 = .ok (.if_icmp .ne 8, 3) := by decide +kernel
theorem dX6_done_57 : decode cX6_done 57 = .ok (.iload_n 1, 1) := by decide +kernel
theorem dX6_done_58 : decode cX6_done 58 = .ok (.ineg, 1) := by decide +kernel
theorem dX6_done_59 : decode cX6_done 59 = .ok (.goto 6, 3) := by decide +kernel
theorem dX6_done_62 : decode cX6_done 62 = .ok (.iload_n 1, 1) := by decide +kernel
theorem dX6_done_63 : decode cX6_done 63 = .ok (.iload_n 2, 1) := by decide +kernel
theorem dX6_done_64 : decode cX6_done 64 = .ok (.idiv, 1) := by decide +kernel
theorem dX6_done_65 : decode cX6_done 65 = .ok (.ireturn, 1) := by decide +kernel
theorem dX6_done_66 : decode cX6_done 66 = .ok (.iload_n 1, 1) := by decide +kernel
theorem dX6_done_67 : decode cX6_done 67 = .ok (.iload_n 2, 1) := by decide +kernel
theorem dX6_done_68 : decode cX6_done 68 = .ok (.invokestatic 71, 3) := by decide +kernel
theorem dX6_done_71 : decode cX6_done 71 = .ok (.ireturn, 1) := by decide +kernel
theorem dX6_given_0 : decode cX6_given 0 = .ok (.iconst 0, 1) := by decide +kernel
theorem dX6_given_1 : decode cX6_given 1 = .ok (.istore_n 3, 1) := by decide +kernel
theorem dX6_given_2 : decode cX6_given 2 = .ok (.iconst 0, 1) := by decide +kernel
theorem dX6_given_3 : decode cX6_given 3 = .ok (.istore 4, 2) := by decide +kernel
theorem dX6_given_5 : decode cX6_given 5 = .ok (.iload 4, 2) := by decide +kernel
theorem dX6_given_7 : decode cX6_given 7 = .ok (.aload_n 0, 1) := by decide +kernel
theorem dX6_given_8 : decode cX6_given 8 = .ok (.getfield 9, 3) := by decide +kernel
theorem dX6_given_11 : decode cX6_given 11 = .ok (.iconst 5, 1) := by decide +kernel
theorem dX6_given_12 : decode cX6_given 12 = .ok (.iaload, 1) := by decide +kernel
theorem dX6_given_13 : decode cX6_given 13 = .ok (.if_icmp .ge 124, 3) := by decide +kernel
theorem dX6_given_16 : decode cX6_given 16 = .ok (.aload_n 0, 1) := by decide +kernel
theorem dX6_given_17 : decode cX6_given 17 = .ok (.getfield 9, 3) := by decide +kernel
theorem dX6_given_20 : decode cX6_given 20 = .ok (.bipush 14, 2) := by decide +kernel
theorem dX6_given_22 : decode cX6_given 22 = .ok (.iload 4, 2) := by decide +kernel
theorem dX6_given_24 : decode cX6_given 24 = .ok (.iadd, 1) := by decide +kernel
theorem dX6_given_25 : decode cX6_given 25 = .ok (.iaload, 1) := by decide +kernel
theorem dX6_given_26 : decode cX6_given 26 = .ok (.istore 5, 2) := by decide +kernel
theorem dX6_given_28 : decode cX6_given 28 = .ok (.iload 5, 2) := by decide +kernel
theorem dX6_given_30 : decode cX6_given 30 = .ok (.sipush 2000, 3) := by decide +kernel
theorem dX6_given_33 : decode cX6_given 33 = .ok (.if_icmp .ge 40, 3) := by decide +kernel
theorem dX6_given_36 : decode cX6_given 36 = .ok (.aload_n 0, 1) := by decide +kernel
theorem dX6_given_37 : decode cX6_given 37 = .ok (.getfield 40, 3) := by decide +kernel
theorem dX6_given_40 : decode cX6_given 40 = .ok (.iload_n 3, 1) := by decide +kernel
theorem dX6_given_41 : decode cX6_given 41 = .ok (.iload 5, 2) := by decide +kernel
theorem dX6_given_43 : decode cX6_given 43 = .ok (.sipush 1000, 3) := by decide +kernel
theorem dX6_given_46 : decode cX6_given 46 = .ok (.if_icmp .ge 8, 3) := by decide +kernel
theorem dX6_given_49 : decode cX6_given 49 = .ok (.iload 5, 2) := by decide +kernel
theorem dX6_given_51 : decode cX6_given 51 = .ok (.goto 15, 3) := by decide +kernel
theorem dX6_given_54 : decode cX6_given 54 = .ok (.aload_n 0, 1) := by decide +kernel
theorem dX6_given_55 : decode cX6_given 55 = .ok (.iload 5, 2) := by decide +kernel
theorem dX6_given_57 : decode cX6_given 57 = .ok (.sipush 1000, 3) := by decide +kernel
theorem dX6_given_60 : decode cX6_given 60 = .ok (.isub, 1) := by decide +kernel
theorem dX6_given_61 : decode cX6_given 61 = .ok (.iload_n 1, 1) := by decide +kernel
theorem dX6_given_62 : decode cX6_given 62 = .ok (.iload_n 2, 1) := by decide +kernel
theorem dX6_given_63 : decode cX6_given 63 = .ok (.invokevirtual 232, 3) := by decide +kernel
theorem dX6_given_66 : decode cX6_given 66 = .ok (.iastore, 1) := by decide +kernel
theorem dX6_given_67 : decode cX6_given 67 = .ok (.iinc 3 1, 3) := by decide +kernel
theorem dX6_given_70 : decode cX6_given 70 = .ok (.goto 61, 3) := by decide +kernel
theorem dX6_given_73 : decode cX6_given 73 = .ok (.iload 5, 2) := by decide +kernel
theorem dX6_given_75 : decode cX6_given 75 = .ok (.sipush 2004, 3) := by decide +kernel
theorem dX6_given_78 : decode cX6_given 78 = .ok (.if_icmp .ne 23, 3) := by decide +kernel
theorem dX6_given_81 : decode cX6_given 81 = .ok (.aload_n 0, 1) := by decide +kernel
theorem dX6_given_82 : decode cX6_given 82 = .ok (.getfield 40, 3) := by decide +kernel
theorem dX6_given_85 : decode cX6_given 85 = .ok (.iload_n 3, 1) := by decide +kernel
theorem dX6_given_86 : decode cX6_given 86 = .ok (.iconst 1, 1) := by decide +kernel
theorem dX6_given_87 : decode cX6_given 87 = .ok (.isub, 1) := by decide +kernel
theorem dX6_given_88 : decode cX6_given 88 = .ok (.aload_n 0, 1) := by decide +kernel
theorem dX6_given_89 : decode cX6_given 89 = .ok (.getfield 40, 3) := by decide +kernel
theorem dX6_given_92 : decode cX6_given 92 = .ok (.iload_n 3, 1) := by decide +kernel
theorem dX6_given_93 : decode cX6_given 93 = .ok (.iconst 1, 1) := by decide +kernel
theorem dX6_given_94 : decode cX6_given 94 = .ok (.isub, 1) := by decide +kernel
theorem dX6_given_95 : decode cX6_given 95 = .ok (.iaload, 1) := by decide +kernel
theorem dX6_given_96 : decode cX6_given 96 = .ok (.ineg, 1) := by decide +kernel
theorem dX6_given_97 : decode cX6_given 97 = .ok (.iastore, 1) := by decide +kernel
theorem dX6_given_98 : decode cX6_given 98 = .ok (.goto 33, 3) := by decide +kernel
theorem dX6_given_101 : decode cX6_given 101 = .ok (.iinc 3 (-1), 3) := by decide +kernel
theorem dX6_given_104 : decode cX6_given 104 = .ok (.aload_n 0, 1) := by decide +kernel
theorem dX6_given_105 : decode cX6_given 105 = .ok (.getfield 40, 3) := by decide +kernel
theorem dX6_given_108 : decode cX6_given 108 = .ok (.iload_n 3, 1) := by decide +kernel
theorem dX6_given_109 : decode cX6_given 109 = .ok (.iconst 1, 1) := by decide +kernel
theorem dX6_given_110 : decode cX6_given 110 = .ok (.isub, 1) := by decide +kernel
theorem dX6_given_111 : decode cX6_given 111 = .ok (.iload 5, 2) := by decide +kernel
theorem dX6_given_113 : decode cX6_given 113 = .ok (.aload_n 0, 1) := by decide +kernel
theorem dX6_given_114 : decode cX6_given 114 = .ok (.getfield 40, 3) := by decide +kernel
theorem dX6_given_117 : decode cX6_given 117 = .ok (.iload_n 3, 1) := by decide +kernel
theorem dX6_given_118 : decode cX6_given 118 = .ok (.iconst 1, 1) := by decide +kernel
theorem dX6_given_119 : decode cX6_given 119 = .ok (.isub, 1) := by decide +kernel
theorem dX6_given_120 : decode cX6_given 120 = .ok (.iaload, 1) := by decide +kernel
theorem dX6_given_121 : decode cX6_given 121 = .ok (.aload_n 0, 1) := by decide +kernel
theorem dX6_given_122 : decode cX6_given 122 = .ok (.getfield 40, 3) := by decide +kernel
theorem dX6_given_125 : decode cX6_given 125 = .ok (.iload_n 3, 1) := by decide +kernel
theorem dX6_given_126 : decode cX6_given 126 = .ok (.iaload, 1) := by decide +kernel
theorem dX6_given_127 : decode cX6_given 127 = .ok (.invokestatic 235, 3) := by decide +kernel
theorem dX6_given_130 : decode cX6_given 130 = .ok (.iastore, 1) := by decide +kernel
theorem dX6_given_131 : decode cX6_given 131 = .ok (.iinc 4 1, 3) := by decide +kernel
theorem dX6_given_134 : decode cX6_given 134 = .ok (.goto (-129), 3) := by decide +kernel
theorem dX6_given_137 : decode cX6_given 137 = .ok (.aload_n 0, 1) := by decide +kernel
theorem dX6_given_138 : decode cX6_given 138 = .ok (.getfield 40, 3) := by decide +kernel
theorem dX6_given_141 : decode cX6_given 141 = .ok (.iconst 0, 1) := by decide +kernel
theorem dX6_given_142 : decode cX6_given 142 = .ok (.iaload, 1) := by decide +kernel
theorem dX6_given_143 : decode cX6_given 143 = .ok (.ireturn, 1) := by decide +kernel
theorem dX6_says_0 : decode cX6_says 0 = .ok (.aload_n 0, 1) := by decide +kernel
theorem dX6_says_1 : decode cX6_says 1 = .ok (.iload_n 1, 1) := by decide +kernel
theorem dX6_says_2 : decode cX6_says 2 = .ok (.invokevirtual 92, 3) := by decide +kernel
theorem dX6_says_5 : decode cX6_says 5 = .ok (.ifCond .ne 9, 3) := by decide +kernel
theorem dX6_says_8 : decode cX6_says 8 = .ok (.aload_n 0, 1) := by decide +kernel
theorem dX6_says_9 : decode cX6_says 9 = .ok (.iconst 0, 1) := by decide +kernel
theorem dX6_says_10 : decode cX6_says 10 = .ok (.invokevirtual 85, 3) := by decide +kernel
theorem dX6_says_13 : decode cX6_says 13 = .ok (.ireturn, 1) := by decide +kernel
theorem dX6_says_14 : decode cX6_says 14 = .ok (.aload_n 0, 1) := by decide +kernel
theorem dX6_says_15 : decode cX6_says 15 = .ok (.getfield 9, 3) := by decide +kernel
theorem dX6_says_18 : decode cX6_says 18 = .ok (.iconst 5, 1) := by decide +kernel
theorem dX6_says_19 : decode cX6_says 19 = .ok (.iaload, 1) := by decide +kernel
theorem dX6_says_20 : decode cX6_says 20 = .ok (.ifCond .ge 11, 3) := by decide +kernel
theorem dX6_says_23 : decode cX6_says 23 = .ok (.aload_n 0, 1) := by decide +kernel
theorem dX6_says_24 : decode cX6_says 24 = .ok (.iconst 3, 1) := by decide +kernel
theorem dX6_says_25 : decode cX6_says 25 = .ok (.invokevirtual 85, 3) := by decide +kernel
theorem dX6_says_28 : decode cX6_says 28 = .ok (.goto 15, 3) := by decide +kernel
theorem dX6_says_31 : decode cX6_says 31 = .ok (.aload_n 0, 1) := by decide +kernel
theorem dX6_says_32 : decode cX6_says 32 = .ok (.iload_n 1, 1) := by decide +kernel
theorem dX6_says_33 : decode cX6_says 33 = .ok (.aload_n 0, 1) := by decide +kernel
theorem dX6_says_34 : decode cX6_says 34 = .ok (.iload_n 1, 1) := by decide +kernel
theorem dX6_says_35 : decode cX6_says 35 = .ok (.bipush 6, 2) := by decide +kernel
theorem dX6_says_37 : decode cX6_says 37 = .ok (.invokevirtual 61, 3) := by decide +kernel
theorem dX6_says_40 : decode cX6_says 40 = .ok (.invokevirtual 74, 3) := by decide +kernel
theorem dX6_says_43 : decode cX6_says 43 = .ok (.ireturn, 1) := by decide +kernel
theorem dX6_isSheet_0 : decode cX6_isSheet 0 = .ok (.iload_n 0, 1) := by decide +kernel
theorem dX6_isSheet_1 : decode cX6_isSheet 1 = .ok (.iconst 0, 1) := by decide +kernel
theorem dX6_isSheet_2 : decode cX6_isSheet 2 = .ok (.iconst 3, 1) := by decide +kernel
theorem dX6_isSheet_3 : decode cX6_isSheet 3 = .ok (.invokestatic 57, 3) := by decide +kernel
theorem dX6_isSheet_6 : decode cX6_isSheet 6 = .ok (.ireturn, 1) := by decide +kernel
theorem dX6_longOf_0 : decode cX6_longOf 0 = .ok (.aload_n 0, 1) := by decide +kernel
theorem dX6_longOf_1 : decode cX6_longOf 1 = .ok (.getfield 46, 3) := by decide +kernel
theorem dX6_longOf_4 : decode cX6_longOf 4 = .ok (.iload_n 1, 1) := by decide +kernel
theorem dX6_longOf_5 : decode cX6_longOf 5 = .ok (.iaload, 1) := by decide +kernel
theorem dX6_longOf_6 : decode cX6_longOf 6 = .ok (.ireturn, 1) := by decide +kernel
theorem dX6_sheet_0 : decode cX6_sheet 0 = .ok (.iload_n 1, 1) := by decide +kernel
theorem dX6_sheet_1 : decode cX6_sheet 1 = .ok (.invokestatic 174, 3) := by decide +kernel
theorem dX6_sheet_4 : decode cX6_sheet 4 = .ok (.ifCond .eq 25, 3) := by decide +kernel
theorem dX6_sheet_7 : decode cX6_sheet 7 = .ok (.iload_n 2, 1) := by decide +kernel
theorem dX6_sheet_8 : decode cX6_sheet 8 = .ok (.ifCond .eq 27, 3) := by decide +kernel
theorem dX6_sheet_11 : decode cX6_sheet 11 = .ok (.iload_n 2, 1) := by decide +kernel
theorem dX6_sheet_12 : decode cX6_sheet 12 = .ok (.bipush 8, 2) := by decide +kernel
theorem dX6_sheet_14 : decode cX6_sheet 14 = .ok (.if_icmp .eq 21, 3) := by decide +kernel
theorem dX6_sheet_17 : decode cX6_sheet 17 = .ok (.iload_n 2, 1) := by decide +kernel
theorem dX6_sheet_18 : decode cX6_sheet 18 = .ok (.bipush 16, 2) := by decide +kernel
theorem dX6_sheet_20 : decode cX6_sheet 20 = .ok (.if_icmp .eq 15, 3) := by decide +kernel
theorem dX6_sheet_23 : decode cX6_sheet 23 = .ok (.iload_n 2, 1) := by decide +kernel
theorem dX6_sheet_24 : decode cX6_sheet 24 = .ok (.bipush 64, 2) := by decide +kernel
theorem dX6_sheet_26 : decode cX6_sheet 26 = .ok (.if_icmp .eq 9, 3) := by decide +kernel
theorem dX6_sheet_29 : decode cX6_sheet 29 = .ok (.aload_n 0, 1) := by decide +kernel
theorem dX6_sheet_30 : decode cX6_sheet 30 = .ok (.iconst 0, 1) := by decide +kernel
theorem dX6_sheet_31 : decode cX6_sheet 31 = .ok (.invokevirtual 85, 3) := by decide +kernel
theorem dX6_sheet_34 : decode cX6_sheet 34 = .ok (.ireturn, 1) := by decide +kernel
theorem dX6_sheet_35 : decode cX6_sheet 35 = .ok (.iload_n 3, 1) := by decide +kernel
theorem dX6_sheet_36 : decode cX6_sheet 36 = .ok (.ifCond .ge 10, 3) := by decide +kernel
theorem dX6_sheet_39 : decode cX6_sheet 39 = .ok (.aload_n 0, 1) := by decide +kernel
theorem dX6_sheet_40 : decode cX6_sheet 40 = .ok (.bipush 6, 2) := by decide +kernel
theorem dX6_sheet_42 : decode cX6_sheet 42 = .ok (.invokevirtual 85, 3) := by decide +kernel
theorem dX6_sheet_45 : decode cX6_sheet 45 = .ok (.ireturn, 1) := by decide +kernel
theorem dX6_sheet_46 : decode cX6_sheet 46 = .ok (.iload_n 3, 1) := by decide +kernel
theorem dX6_sheet_47 : decode cX6_sheet 47 = .ok (.bipush 40, 2) := by decide +kernel
theorem dX6_sheet_49 : decode cX6_sheet 49 = .ok (.if_icmp .le 9, 3) := by decide +kernel
theorem dX6_sheet_52 : decode cX6_sheet 52 = .ok (.aload_n 0, 1) := by decide +kernel
theorem dX6_sheet_53 : decode cX6_sheet 53 = .ok (.iconst 0, 1) := by decide +kernel
theorem dX6_sheet_54 : decode cX6_sheet 54 = .ok (.invokevirtual 85, 3) := by decide +kernel
theorem dX6_sheet_57 : decode cX6_sheet 57 = .ok (.ireturn, 1) := by decide +kernel
theorem dX6_sheet_58 : decode cX6_sheet 58 = .ok (.aload_n 0, 1) := by decide +kernel
theorem dX6_sheet_59 : decode cX6_sheet 59 = .ok (.getfield 43, 3) := by decide +kernel
theorem dX6_sheet_62 : decode cX6_sheet 62 = .ok (.iload_n 1, 1) := by decide +kernel
theorem dX6_sheet_63 : decode cX6_sheet 63 = .ok (.iload_n 2, 1) := by decide +kernel
theorem dX6_sheet_64 : decode cX6_sheet 64 = .ok (.iastore, 1) := by decide +kernel
theorem dX6_sheet_65 : decode cX6_sheet 65 = .ok (.aload_n 0, 1) := by decide +kernel
theorem dX6_sheet_66 : decode cX6_sheet 66 = .ok (.getfield 46, 3) := by decide +kernel
theorem dX6_sheet_69 : decode cX6_sheet 69 = .ok (.iload_n 1, 1) := by decide +kernel
theorem dX6_sheet_70 : decode cX6_sheet 70 = .ok (.iload_n 2, 1) := by decide +kernel
theorem dX6_sheet_71 : decode cX6_sheet 71 = .ok (.ifCond .ne 7, 3) := by decide +kernel
theorem dX6_sheet_74 : decode cX6_sheet 74 = .ok (.iconst 0, 1) := by decide +kernel
theorem dX6_sheet_75 : decode cX6_sheet 75 = .ok (.goto 4, 3) := by decide +kernel
theorem dX6_sheet_78 : decode cX6_sheet 78 = .ok (.iload_n 3, 1) := by decide +kernel
theorem dX6_sheet_79 : decode cX6_sheet 79 = .ok (.iastore, 1) := by decide +kernel
theorem dX6_sheet_80 : decode cX6_sheet 80 = .ok (.iconst 0, 1) := by decide +kernel
theorem dX6_sheet_81 : decode cX6_sheet 81 = .ok (.istore 4, 2) := by decide +kernel
theorem dX6_sheet_83 : decode cX6_sheet 83 = .ok (.iload 4, 2) := by decide +kernel
theorem dX6_sheet_85 : decode cX6_sheet 85 = .ok (.bipush 40, 2) := by decide +kernel
theorem dX6_sheet_87 : decode cX6_sheet 87 = .ok (.if_icmp .ge 22, 3) := by decide +kernel
theorem dX6_sheet_90 : decode cX6_sheet 90 = .ok (.aload_n 0, 1) := by decide +kernel
theorem dX6_sheet_91 : decode cX6_sheet 91 = .ok (.getfield 49, 3) := by decide +kernel
theorem dX6_sheet_94 : decode cX6_sheet 94 = .ok (.bipush 40, 2) := by decide +kernel
theorem dX6_sheet_96 : decode cX6_sheet 96 = .ok (.iload_n 1, 1) := by decide +kernel
theorem dX6_sheet_97 : decode cX6_sheet 97 = .ok (.imul, 1) := by decide +kernel
theorem dX6_sheet_98 : decode cX6_sheet 98 = .ok (.iload 4, 2) := by decide +kernel
theorem dX6_sheet_100 : decode cX6_sheet 100 = .ok (.iadd, 1) := by decide +kernel
theorem dX6_sheet_101 : decode cX6_sheet 101 = .ok (.lconst 0, 1) := by decide +kernel
theorem dX6_sheet_102 : decode cX6_sheet 102 = .ok (.lastore, 1) := by decide +kernel
theorem dX6_sheet_103 : decode cX6_sheet 103 = .ok (.iinc 4 1, 3) := by decide +kernel
theorem dX6_sheet_106 : decode cX6_sheet 106 = .ok (.goto (-23), 3) := by decide +kernel
theorem dX6_sheet_109 : decode cX6_sheet 109 = .ok (.aload_n 0, 1) := by decide +kernel
theorem dX6_sheet_110 : decode cX6_sheet 110 = .ok (.getfield 46, 3) := by decide +kernel
theorem dX6_sheet_113 : decode cX6_sheet 113 = .ok (.iload_n 1, 1) := by decide +kernel
theorem dX6_sheet_114 : decode cX6_sheet 114 = .ok (.iaload, 1) := by decide +kernel
theorem dX6_sheet_115 : decode cX6_sheet 115 = .ok (.ireturn, 1) := by decide +kernel
theorem dX6_write_0 : decode cX6_write 0 = .ok (.iload_n 1, 1) := by decide +kernel
theorem dX6_write_1 : decode cX6_write 1 = .ok (.invokestatic 174, 3) := by decide +kernel
theorem dX6_write_4 : decode cX6_write 4 = .ok (.ifCond .ne 10, 3) := by decide +kernel
theorem dX6_write_7 : decode cX6_write 7 = .ok (.aload_n 0, 1) := by decide +kernel
theorem dX6_write_8 : decode cX6_write 8 = .ok (.iconst 0, 1) := by decide +kernel
theorem dX6_write_9 : decode cX6_write 9 = .ok (.invokevirtual 85, 3) := by decide +kernel
theorem dX6_write_12 : decode cX6_write 12 = .ok (.i2l, 1) := by decide +kernel
theorem dX6_write_13 : decode cX6_write 13 = .ok (.lreturn, 1) := by decide +kernel
theorem dX6_write_14 : decode cX6_write 14 = .ok (.aload_n 0, 1) := by decide +kernel
theorem dX6_write_15 : decode cX6_write 15 = .ok (.getfield 43, 3) := by decide +kernel
theorem dX6_write_18 : decode cX6_write 18 = .ok (.iload_n 1, 1) := by decide +kernel
theorem dX6_write_19 : decode cX6_write 19 = .ok (.iaload, 1) := by decide +kernel
theorem dX6_write_20 : decode cX6_write 20 = .ok (.ifCond .ne 10, 3) := by decide +kernel
theorem dX6_write_23 : decode cX6_write 23 = .ok (.aload_n 0, 1) := by decide +kernel
theorem dX6_write_24 : decode cX6_write 24 = .ok (.iconst 5, 1) := by decide +kernel
theorem dX6_write_25 : decode cX6_write 25 = .ok (.invokevirtual 85, 3) := by decide +kernel
theorem dX6_write_28 : decode cX6_write 28 = .ok (.i2l, 1) := by decide +kernel
theorem dX6_write_29 : decode cX6_write 29 = .ok (.lreturn, 1) := by decide +kernel
theorem dX6_write_30 : decode cX6_write 30 = .ok (.iload_n 2, 1) := by decide +kernel
theorem dX6_write_31 : decode cX6_write 31 = .ok (.iconst 0, 1) := by decide +kernel
theorem dX6_write_32 : decode cX6_write 32 = .ok (.aload_n 0, 1) := by decide +kernel
theorem dX6_write_33 : decode cX6_write 33 = .ok (.getfield 46, 3) := by decide +kernel
theorem dX6_write_36 : decode cX6_write 36 = .ok (.iload_n 1, 1) := by decide +kernel
theorem dX6_write_37 : decode cX6_write 37 = .ok (.iaload, 1) := by decide +kernel
theorem dX6_write_38 : decode cX6_write 38 = .ok (.iconst 1, 1) := by decide +kernel
theorem dX6_write_39 : decode cX6_write 39 = .ok (.isub, 1) := by decide +kernel
theorem dX6_write_40 : decode cX6_write 40 = .ok (.invokestatic 57, 3) := by decide +kernel
theorem dX6_write_43 : decode cX6_write 43 = .ok (.ifCond .ne 10, 3) := by decide +kernel
theorem dX6_write_46 : decode cX6_write 46 = .ok (.aload_n 0, 1) := by decide +kernel
theorem dX6_write_47 : decode cX6_write 47 = .ok (.iconst 0, 1) := by decide +kernel
theorem dX6_write_48 : decode cX6_write 48 = .ok (.invokevirtual 85, 3) := by decide +kernel
theorem dX6_write_51 : decode cX6_write 51 = .ok (.i2l, 1) := by decide +kernel
theorem dX6_write_52 : decode cX6_write 52 = .ok (.lreturn, 1) := by decide +kernel
theorem dX6_write_53 : decode cX6_write 53 = .ok (.aload_n 0, 1) := by decide +kernel
theorem dX6_write_54 : decode cX6_write 54 = .ok (.getfield 49, 3) := by decide +kernel
theorem dX6_write_57 : decode cX6_write 57 = .ok (.bipush 40, 2) := by decide +kernel
theorem dX6_write_59 : decode cX6_write 59 = .ok (.iload_n 1, 1) := by decide +kernel
theorem dX6_write_60 : decode cX6_write 60 = .ok (.imul, 1) := by decide +kernel
theorem dX6_write_61 : decode cX6_write 61 = .ok (.iload_n 2, 1) := by decide +kernel
theorem dX6_write_62 : decode cX6_write 62 = .ok (.iadd, 1) := by decide +kernel
theorem dX6_write_63 : decode cX6_write 63 = .ok (.laload, 1) := by decide +kernel
theorem dX6_write_64 : decode cX6_write 64 = .ok (.lstore 5, 2) := by decide +kernel
theorem dX6_write_66 : decode cX6_write 66 = .ok (.aload_n 0, 1) := by decide +kernel
theorem dX6_write_67 : decode cX6_write 67 = .ok (.getfield 49, 3) := by decide +kernel
theorem dX6_write_70 : decode cX6_write 70 = .ok (.bipush 40, 2) := by decide +kernel
theorem dX6_write_72 : decode cX6_write 72 = .ok (.iload_n 1, 1) := by decide +kernel
theorem dX6_write_73 : decode cX6_write 73 = .ok (.imul, 1) := by decide +kernel
theorem dX6_write_74 : decode cX6_write 74 = .ok (.iload_n 2, 1) := by decide +kernel
theorem dX6_write_75 : decode cX6_write 75 = .ok (.iadd, 1) := by decide +kernel
theorem dX6_write_76 : decode cX6_write 76 = .ok (.aload_n 0, 1) := by decide +kernel
theorem dX6_write_77 : decode cX6_write 77 = .ok (.getfield 43, 3) := by decide +kernel
theorem dX6_write_80 : decode cX6_write 80 = .ok (.iload_n 1, 1) := by decide +kernel
theorem dX6_write_81 : decode cX6_write 81 = .ok (.iaload, 1) := by decide +kernel
theorem dX6_write_82 : decode cX6_write 82 = .ok (.bipush 8, 2) := by decide +kernel
theorem dX6_write_84 : decode cX6_write 84 = .ok (.if_icmp .ne 10, 3) := by decide +kernel
theorem dX6_write_87 : decode cX6_write 87 = .ok (.lload_n 3, 1) := by decide +kernel
theorem dX6_write_88 : decode cX6_write 88 = .ok (.l2i, 1) := by decide +kernel
theorem dX6_write_89 : decode cX6_write 89 = .ok (.i2b, 1) := by decide +kernel
theorem dX6_write_90 : decode cX6_write 90 = .ok (.i2l, 1) := by decide +kernel
theorem dX6_write_91 : decode cX6_write 91 = .ok (.goto 22, 3) := by decide +kernel
theorem dX6_write_94 : decode cX6_write 94 = .ok (.aload_n 0, 1) := by decide +kernel
theorem dX6_write_95 : decode cX6_write 95 = .ok (.getfield 43, 3) := by decide +kernel
theorem dX6_write_98 : decode cX6_write 98 = .ok (.iload_n 1, 1) := by decide +kernel
theorem dX6_write_99 : decode cX6_write 99 = .ok (.iaload, 1) := by decide +kernel
theorem dX6_write_100 : decode cX6_write 100 = .ok (.bipush 16, 2) := by decide +kernel
theorem dX6_write_102 : decode cX6_write 102 = .ok (.if_icmp .ne 10, 3) := by decide +kernel
theorem dX6_write_105 : decode cX6_write 105 = .ok (.lload_n 3, 1) := by decide +kernel
theorem dX6_write_106 : decode cX6_write 106 = .ok (.l2i, 1) := by decide +kernel
theorem dX6_write_107 : decode cX6_write 107 = .ok (.i2s, 1) := by decide +kernel
theorem dX6_write_108 : decode cX6_write 108 = .ok (.i2l, 1) := by decide +kernel
theorem dX6_write_109 : decode cX6_write 109 = .ok (.goto 4, 3) := by decide +kernel
theorem dX6_write_112 : decode cX6_write 112 = .ok (.lload_n 3, 1) := by decide +kernel
theorem dX6_write_113 : decode cX6_write 113 = .ok (.lastore, 1) := by decide +kernel
theorem dX6_write_114 : decode cX6_write 114 = .ok (.lload 5, 2) := by decide +kernel
theorem dX6_write_116 : decode cX6_write 116 = .ok (.lreturn, 1) := by decide +kernel
theorem dX6_copy_0 : decode cX6_copy 0 = .ok (.iload_n 1, 1) := by decide +kernel
theorem dX6_copy_1 : decode cX6_copy 1 = .ok (.invokestatic 174, 3) := by decide +kernel
theorem dX6_copy_4 : decode cX6_copy 4 = .ok (.ifCond .eq 10, 3) := by decide +kernel
theorem dX6_copy_7 : decode cX6_copy 7 = .ok (.iload_n 3, 1) := by decide +kernel
theorem dX6_copy_8 : decode cX6_copy 8 = .ok (.invokestatic 174, 3) := by decide +kernel
theorem dX6_copy_11 : decode cX6_copy 11 = .ok (.ifCond .ne 9, 3) := by decide +kernel
theorem dX6_copy_14 : decode cX6_copy 14 = .ok (.aload_n 0, 1) := by decide +kernel
theorem dX6_copy_15 : decode cX6_copy 15 = .ok (.iconst 0, 1) := by decide +kernel
theorem dX6_copy_16 : decode cX6_copy 16 = .ok (.invokevirtual 85, 3) := by decide +kernel
theorem dX6_copy_19 : decode cX6_copy 19 = .ok (.ireturn, 1) := by decide +kernel
theorem dX6_copy_20 : decode cX6_copy 20 = .ok (.aload_n 0, 1) := by decide +kernel
theorem dX6_copy_21 : decode cX6_copy 21 = .ok (.getfield 43, 3) := by decide +kernel
theorem dX6_copy_24 : decode cX6_copy 24 = .ok (.iload_n 1, 1) := by decide +kernel
theorem dX6_copy_25 : decode cX6_copy 25 = .ok (.iaload, 1) := by decide +kernel
theorem dX6_copy_26 : decode cX6_copy 26 = .ok (.ifCond .eq 12, 3) := by decide +kernel
theorem dX6_copy_29 : decode cX6_copy 29 = .ok (.aload_n 0, 1) := by decide +kernel
theorem dX6_copy_30 : decode cX6_copy 30 = .ok (.getfield 43, 3) := by decide +kernel
theorem dX6_copy_33 : decode cX6_copy 33 = .ok (.iload_n 3, 1) := by decide +kernel
theorem dX6_copy_34 : decode cX6_copy 34 = .ok (.iaload, 1) := by decide +kernel
theorem dX6_copy_35 : decode cX6_copy 35 = .ok (.ifCond .ne 9, 3) := by decide +kernel
theorem dX6_copy_38 : decode cX6_copy 38 = .ok (.aload_n 0, 1) := by decide +kernel
theorem dX6_copy_39 : decode cX6_copy 39 = .ok (.iconst 5, 1) := by decide +kernel
theorem dX6_copy_40 : decode cX6_copy 40 = .ok (.invokevirtual 85, 3) := by decide +kernel
theorem dX6_copy_43 : decode cX6_copy 43 = .ok (.ireturn, 1) := by decide +kernel
theorem dX6_copy_44 : decode cX6_copy 44 = .ok (.aload_n 0, 1) := by decide +kernel
theorem dX6_copy_45 : decode cX6_copy 45 = .ok (.getfield 43, 3) := by decide +kernel
theorem dX6_copy_48 : decode cX6_copy 48 = .ok (.iload_n 1, 1) := by decide +kernel
theorem dX6_copy_49 : decode cX6_copy 49 = .ok (.iaload, 1) := by decide +kernel
theorem dX6_copy_50 : decode cX6_copy 50 = .ok (.aload_n 0, 1) := by decide +kernel
theorem dX6_copy_51 : decode cX6_copy 51 = .ok (.getfield 43, 3) := by decide +kernel
theorem dX6_copy_54 : decode cX6_copy 54 = .ok (.iload_n 3, 1) := by decide +kernel
theorem dX6_copy_55 : decode cX6_copy 55 = .ok (.iaload, 1) := by decide +kernel
theorem dX6_copy_56 : decode cX6_copy 56 = .ok (.if_icmp .eq 9, 3) := by decide +kernel
theorem dX6_copy_59 : decode cX6_copy 59 = .ok (.aload_n 0, 1) := by decide +kernel
theorem dX6_copy_60 : decode cX6_copy 60 = .ok (.iconst 2, 1) := by decide +kernel
theorem dX6_copy_61 : decode cX6_copy 61 = .ok (.invokevirtual 85, 3) := by decide +kernel
theorem dX6_copy_64 : decode cX6_copy 64 = .ok (.ireturn, 1) := by decide +kernel
theorem dX6_copy_65 : decode cX6_copy 65 = .ok (.iload_n 2, 1) := by decide +kernel
theorem dX6_copy_66 : decode cX6_copy 66 = .ok (.ifCond .lt 40, 3) := by decide +kernel
theorem dX6_copy_69 : decode cX6_copy 69 = .ok (.iload 4, 2) := by decide +kernel
theorem dX6_copy_71 : decode cX6_copy 71 = .ok (.ifCond .lt 35, 3) := by decide +kernel
theorem dX6_copy_74 : decode cX6_copy 74 = .ok (.iload 5, 2) := by decide +kernel
theorem dX6_copy_76 : decode cX6_copy 76 = .ok (.ifCond .lt 30, 3) := by decide +kernel
theorem dX6_copy_79 : decode cX6_copy 79 = .ok (.iload_n 2, 1) := by decide +kernel
theorem dX6_copy_80 : decode cX6_copy 80 = .ok (.aload_n 0, 1) := by decide +kernel
theorem dX6_copy_81 : decode cX6_copy 81 = .ok (.getfield 46, 3) := by decide +kernel
theorem dX6_copy_84 : decode cX6_copy 84 = .ok (.iload_n 1, 1) := by decide +kernel
theorem dX6_copy_85 : decode cX6_copy 85 = .ok (.iaload, 1) := by decide +kernel
theorem dX6_copy_86 : decode cX6_copy 86 = .ok (.iload 5, 2) := by decide +kernel
theorem dX6_copy_88 : decode cX6_copy 88 = .ok (.isub, 1) := by decide +kernel
theorem dX6_copy_89 : decode cX6_copy 89 = .ok (.if_icmp .gt 17, 3) := by decide +kernel
theorem dX6_copy_92 : decode cX6_copy 92 = .ok (.iload 4, 2) := by decide +kernel
theorem dX6_copy_94 : decode cX6_copy 94 = .ok (.aload_n 0, 1) := by decide +kernel
theorem dX6_copy_95 : decode cX6_copy 95 = .ok (.getfield 46, 3) := by decide +kernel
theorem dX6_copy_98 : decode cX6_copy 98 = .ok (.iload_n 3, 1) := by decide +kernel
theorem dX6_copy_99 : decode cX6_copy 99 = .ok (.iaload, 1) := by decide +kernel
theorem dX6_copy_100 : decode cX6_copy 100 = .ok (.iload 5, 2) := by decide +kernel
theorem dX6_copy_102 : decode cX6_copy 102 = .ok (.isub, 1) := by decide +kernel
theorem dX6_copy_103 : decode cX6_copy 103 = .ok (.if_icmp .le 9, 3) := by decide +kernel
theorem dX6_copy_106 : decode cX6_copy 106 = .ok (.aload_n 0, 1) := by decide +kernel
theorem dX6_copy_107 : decode cX6_copy 107 = .ok (.iconst 0, 1) := by decide +kernel
theorem dX6_copy_108 : decode cX6_copy 108 = .ok (.invokevirtual 85, 3) := by decide +kernel
theorem dX6_copy_111 : decode cX6_copy 111 = .ok (.ireturn, 1) := by decide +kernel
theorem dX6_copy_112 : decode cX6_copy 112 = .ok (.iconst 0, 1) := by decide +kernel
theorem dX6_copy_113 : decode cX6_copy 113 = .ok (.istore 6, 2) := by decide +kernel
theorem dX6_copy_115 : decode cX6_copy 115 = .ok (.iload 6, 2) := by decide +kernel
theorem dX6_copy_117 : decode cX6_copy 117 = .ok (.iload 5, 2) := by decide +kernel
theorem dX6_copy_119 : decode cX6_copy 119 = .ok (.if_icmp .ge 30, 3) := by decide +kernel
theorem dX6_copy_122 : decode cX6_copy 122 = .ok (.aload_n 0, 1) := by decide +kernel
theorem dX6_copy_123 : decode cX6_copy 123 = .ok (.getfield 53, 3) := by decide +kernel
theorem dX6_copy_126 : decode cX6_copy 126 = .ok (.iload 6, 2) := by decide +kernel
theorem dX6_copy_128 : decode cX6_copy 128 = .ok (.aload_n 0, 1) := by decide +kernel
theorem dX6_copy_129 : decode cX6_copy 129 = .ok (.getfield 49, 3) := by decide +kernel
theorem dX6_copy_132 : decode cX6_copy 132 = .ok (.bipush 40, 2) := by decide +kernel
theorem dX6_copy_134 : decode cX6_copy 134 = .ok (.iload_n 1, 1) := by decide +kernel
theorem dX6_copy_135 : decode cX6_copy 135 = .ok (.imul, 1) := by decide +kernel
theorem dX6_copy_136 : decode cX6_copy 136 = .ok (.iload_n 2, 1) := by decide +kernel
theorem dX6_copy_137 : decode cX6_copy 137 = .ok (.iadd, 1) := by decide +kernel
theorem dX6_copy_138 : decode cX6_copy 138 = .ok (.iload 6, 2) := by decide +kernel
theorem dX6_copy_140 : decode cX6_copy 140 = .ok (.iadd, 1) := by decide +kernel
theorem dX6_copy_141 : decode cX6_copy 141 = .ok (.laload, 1) := by decide +kernel
theorem dX6_copy_142 : decode cX6_copy 142 = .ok (.lastore, 1) := by decide +kernel
theorem dX6_copy_143 : decode cX6_copy 143 = .ok (.iinc 6 1, 3) := by decide +kernel
theorem dX6_copy_146 : decode cX6_copy 146 = .ok (.goto (-31), 3) := by decide +kernel
theorem dX6_copy_149 : decode cX6_copy 149 = .ok (.iconst 0, 1) := by decide +kernel
theorem dX6_copy_150 : decode cX6_copy 150 = .ok (.istore 6, 2) := by decide +kernel
theorem dX6_copy_152 : decode cX6_copy 152 = .ok (.iload 6, 2) := by decide +kernel
theorem dX6_copy_154 : decode cX6_copy 154 = .ok (.iload 5, 2) := by decide +kernel
theorem dX6_copy_156 : decode cX6_copy 156 = .ok (.if_icmp .ge 31, 3) := by decide +kernel
theorem dX6_copy_159 : decode cX6_copy 159 = .ok (.aload_n 0, 1) := by decide +kernel
theorem dX6_copy_160 : decode cX6_copy 160 = .ok (.getfield 49, 3) := by decide +kernel
theorem dX6_copy_163 : decode cX6_copy 163 = .ok (.bipush 40, 2) := by decide +kernel
theorem dX6_copy_165 : decode cX6_copy 165 = .ok (.iload_n 3, 1) := by decide +kernel
theorem dX6_copy_166 : decode cX6_copy 166 = .ok (.imul, 1) := by decide +kernel
theorem dX6_copy_167 : decode cX6_copy 167 = .ok (.iload 4, 2) := by decide +kernel
theorem dX6_copy_169 : decode cX6_copy 169 = .ok (.iadd, 1) := by decide +kernel
theorem dX6_copy_170 : decode cX6_copy 170 = .ok (.iload 6, 2) := by decide +kernel
theorem dX6_copy_172 : decode cX6_copy 172 = .ok (.iadd, 1) := by decide +kernel
theorem dX6_copy_173 : decode cX6_copy 173 = .ok (.aload_n 0, 1) := by decide +kernel
theorem dX6_copy_174 : decode cX6_copy 174 = .ok (.getfield 53, 3) := by decide +kernel
theorem dX6_copy_177 : decode cX6_copy 177 = .ok (.iload 6, 2) := by decide +kernel
theorem dX6_copy_179 : decode cX6_copy 179 = .ok (.laload, 1) := by decide +kernel
theorem dX6_copy_180 : decode cX6_copy 180 = .ok (.lastore, 1) := by decide +kernel
theorem dX6_copy_181 : decode cX6_copy 181 = .ok (.iinc 6 1, 3) := by decide +kernel
theorem dX6_copy_184 : decode cX6_copy 184 = .ok (.goto (-32), 3) := by decide +kernel
theorem dX6_copy_187 : decode cX6_copy 187 = .ok (.iload 5, 2) := by decide +kernel
theorem dX6_copy_189 : decode cX6_copy 189 = .ok (.ireturn, 1) := by decide +kernel
theorem dX6_draws_0 : decode cX6_draws 0 = .ok (.iload_n 1, 1) := by decide +kernel
theorem dX6_draws_1 : decode cX6_draws 1 = .ok (.invokestatic 174, 3) := by decide +kernel
theorem dX6_draws_4 : decode cX6_draws 4 = .ok (.ifCond .ne 9, 3) := by decide +kernel
theorem dX6_draws_7 : decode cX6_draws 7 = .ok (.aload_n 0, 1) := by decide +kernel
theorem dX6_draws_8 : decode cX6_draws 8 = .ok (.iconst 0, 1) := by decide +kernel
theorem dX6_draws_9 : decode cX6_draws 9 = .ok (.invokevirtual 85, 3) := by decide +kernel
theorem dX6_draws_12 : decode cX6_draws 12 = .ok (.ireturn, 1) := by decide +kernel
theorem dX6_draws_13 : decode cX6_draws 13 = .ok (.aload_n 0, 1) := by decide +kernel
theorem dX6_draws_14 : decode cX6_draws 14 = .ok (.getfield 43, 3) := by decide +kernel
theorem dX6_draws_17 : decode cX6_draws 17 = .ok (.iload_n 1, 1) := by decide +kernel
theorem dX6_draws_18 : decode cX6_draws 18 = .ok (.iaload, 1) := by decide +kernel
theorem dX6_draws_19 : decode cX6_draws 19 = .ok (.ifCond .ne 9, 3) := by decide +kernel
theorem dX6_draws_22 : decode cX6_draws 22 = .ok (.aload_n 0, 1) := by decide +kernel
theorem dX6_draws_23 : decode cX6_draws 23 = .ok (.iconst 5, 1) := by decide +kernel
theorem dX6_draws_24 : decode cX6_draws 24 = .ok (.invokevirtual 85, 3) := by decide +kernel
theorem dX6_draws_27 : decode cX6_draws 27 = .ok (.ireturn, 1) := by decide +kernel
theorem dX6_draws_28 : decode cX6_draws 28 = .ok (.aload_n 0, 1) := by decide +kernel
theorem dX6_draws_29 : decode cX6_draws 29 = .ok (.getfield 9, 3) := by decide +kernel
theorem dX6_draws_32 : decode cX6_draws 32 = .ok (.iconst 2, 1) := by decide +kernel
theorem dX6_draws_33 : decode cX6_draws 33 = .ok (.iaload, 1) := by decide +kernel
theorem dX6_draws_34 : decode cX6_draws 34 = .ok (.istore_n 2, 1) := by decide +kernel
theorem dX6_draws_35 : decode cX6_draws 35 = .ok (.iconst 0, 1) := by decide +kernel
theorem dX6_draws_36 : decode cX6_draws 36 = .ok (.istore_n 3, 1) := by decide +kernel
theorem dX6_draws_37 : decode cX6_draws 37 = .ok (.iconst 0, 1) := by decide +kernel
theorem dX6_draws_38 : decode cX6_draws 38 = .ok (.istore 4, 2) := by decide +kernel
theorem dX6_draws_40 : decode cX6_draws 40 = .ok (.iload 4, 2) := by decide +kernel
theorem dX6_draws_42 : decode cX6_draws 42 = .ok (.aload_n 0, 1) := by decide +kernel
theorem dX6_draws_43 : decode cX6_draws 43 = .ok (.getfield 46, 3) := by decide +kernel
theorem dX6_draws_46 : decode cX6_draws 46 = .ok (.iload_n 1, 1) := by decide +kernel
theorem dX6_draws_47 : decode cX6_draws 47 = .ok (.iaload, 1) := by decide +kernel
theorem dX6_draws_48 : decode cX6_draws 48 = .ok (.if_icmp .ge 57, 3) := by decide +kernel
theorem dX6_draws_51 : decode cX6_draws 51 = .ok (.aload_n 0, 1) := by decide +kernel
theorem dX6_draws_52 : decode cX6_draws 52 = .ok (.getfield 49, 3) := by decide +kernel
theorem dX6_draws_55 : decode cX6_draws 55 = .ok (.bipush 40, 2) := by decide +kernel
theorem dX6_draws_57 : decode cX6_draws 57 = .ok (.iload_n 1, 1) := by decide +kernel
theorem dX6_draws_58 : decode cX6_draws 58 = .ok (.imul, 1) := by decide +kernel
theorem dX6_draws_59 : decode cX6_draws 59 = .ok (.iload 4, 2) := by decide +kernel
theorem dX6_draws_61 : decode cX6_draws 61 = .ok (.iadd, 1) := by decide +kernel
theorem dX6_draws_62 : decode cX6_draws 62 = .ok (.laload, 1) := by decide +kernel
theorem dX6_draws_63 : decode cX6_draws 63 = .ok (.lstore 5, 2) := by decide +kernel
theorem dX6_draws_65 : decode cX6_draws 65 = .ok (.lload 5, 2) := by decide +kernel
theorem dX6_draws_67 : decode cX6_draws 67 = .ok (.ldc2_w 238, 3) := by decide +kernel
theorem dX6_draws_70 : decode cX6_draws 70 = .ok (.lcmp, 1) := by decide +kernel
theorem dX6_draws_71 : decode cX6_draws 71 = .ok (.ifCond .lt 28, 3) := by decide +kernel
theorem dX6_draws_74 : decode cX6_draws 74 = .ok (.lload 5, 2) := by decide +kernel
theorem dX6_draws_76 : decode cX6_draws 76 = .ok (.ldc2_w 240, 3) := by decide +kernel
theorem dX6_draws_79 : decode cX6_draws 79 = .ok (.lcmp, 1) := by decide +kernel
theorem dX6_draws_80 : decode cX6_draws 80 = .ok (.ifCond .gt 19, 3) := by decide +kernel
theorem dX6_draws_83 : decode cX6_draws 83 = .ok (.aload_n 0, 1) := by decide +kernel
theorem dX6_draws_84 : decode cX6_draws 84 = .ok (.getfield 9, 3) := by decide +kernel
theorem dX6_draws_87 : decode cX6_draws 87 = .ok (.iconst 2, 1) := by decide +kernel
theorem dX6_draws_88 : decode cX6_draws 88 = .ok (.lload 5, 2) := by decide +kernel
theorem dX6_draws_90 : decode cX6_draws 90 = .ok (.l2i, 1) := by decide +kernel
theorem dX6_draws_91 : decode cX6_draws 91 = .ok (.iastore, 1) := by decide +kernel
theorem dX6_draws_92 : decode cX6_draws 92 = .ok (.aload_n 0, 1) := by decide +kernel
theorem dX6_draws_93 : decode cX6_draws 93 = .ok (.invokevirtual 140, 3) := by decide +kernel
theorem dX6_draws_96 : decode cX6_draws 96 = .ok (.iinc 3 1, 3) := by decide +kernel
theorem dX6_draws_99 : decode cX6_draws 99 = .ok (.iinc 4 1, 3) := by decide +kernel
theorem dX6_draws_102 : decode cX6_draws 102 = .ok (.goto (-62), 3) := by decide +kernel
theorem dX6_draws_105 : decode cX6_draws 105 = .ok (.aload_n 0, 1) := by decide +kernel
theorem dX6_draws_106 : decode cX6_draws 106 = .ok (.getfield 9, 3) := by decide +kernel
theorem dX6_draws_109 : decode cX6_draws 109 = .ok (.iconst 2, 1) := by decide +kernel
theorem dX6_draws_110 : decode cX6_draws 110 = .ok (.iload_n 2, 1) := by decide +kernel
theorem dX6_draws_111 : decode cX6_draws 111 = .ok (.iastore, 1) := by decide +kernel
theorem dX6_draws_112 : decode cX6_draws 112 = .ok (.iload_n 3, 1) := by decide +kernel
theorem dX6_draws_113 : decode cX6_draws 113 = .ok (.ireturn, 1) := by decide +kernel
theorem dX6_read_0 : decode cX6_read 0 = .ok (.iload_n 1, 1) := by decide +kernel
theorem dX6_read_1 : decode cX6_read 1 = .ok (.invokestatic 174, 3) := by decide +kernel
theorem dX6_read_4 : decode cX6_read 4 = .ok (.ifCond .ne 9, 3) := by decide +kernel
theorem dX6_read_7 : decode cX6_read 7 = .ok (.aload_n 0, 1) := by decide +kernel
theorem dX6_read_8 : decode cX6_read 8 = .ok (.iconst 0, 1) := by decide +kernel
theorem dX6_read_9 : decode cX6_read 9 = .ok (.invokevirtual 85, 3) := by decide +kernel
theorem dX6_read_12 : decode cX6_read 12 = .ok (.ireturn, 1) := by decide +kernel
theorem dX6_read_13 : decode cX6_read 13 = .ok (.aload_n 0, 1) := by decide +kernel
theorem dX6_read_14 : decode cX6_read 14 = .ok (.getfield 43, 3) := by decide +kernel
theorem dX6_read_17 : decode cX6_read 17 = .ok (.iload_n 1, 1) := by decide +kernel
theorem dX6_read_18 : decode cX6_read 18 = .ok (.iaload, 1) := by decide +kernel
theorem dX6_read_19 : decode cX6_read 19 = .ok (.ifCond .ne 9, 3) := by decide +kernel
theorem dX6_read_22 : decode cX6_read 22 = .ok (.aload_n 0, 1) := by decide +kernel
theorem dX6_read_23 : decode cX6_read 23 = .ok (.iconst 5, 1) := by decide +kernel
theorem dX6_read_24 : decode cX6_read 24 = .ok (.invokevirtual 85, 3) := by decide +kernel
theorem dX6_read_27 : decode cX6_read 27 = .ok (.ireturn, 1) := by decide +kernel
theorem dX6_read_28 : decode cX6_read 28 = .ok (.iconst 0, 1) := by decide +kernel
theorem dX6_read_29 : decode cX6_read 29 = .ok (.istore_n 2, 1) := by decide +kernel
theorem dX6_read_30 : decode cX6_read 30 = .ok (.iload_n 2, 1) := by decide +kernel
theorem dX6_read_31 : decode cX6_read 31 = .ok (.aload_n 0, 1) := by decide +kernel
theorem dX6_read_32 : decode cX6_read 32 = .ok (.getfield 46, 3) := by decide +kernel
theorem dX6_read_35 : decode cX6_read 35 = .ok (.iload_n 1, 1) := by decide +kernel
theorem dX6_read_36 : decode cX6_read 36 = .ok (.iaload, 1) := by decide +kernel
theorem dX6_read_37 : decode cX6_read 37 = .ok (.if_icmp .ge 43, 3) := by decide +kernel
theorem dX6_read_40 : decode cX6_read 40 = .ok (.aload_n 0, 1) := by decide +kernel
theorem dX6_read_41 : decode cX6_read 41 = .ok (.iload_n 2, 1) := by decide +kernel
theorem dX6_read_42 : decode cX6_read 42 = .ok (.invokevirtual 92, 3) := by decide +kernel
theorem dX6_read_45 : decode cX6_read 45 = .ok (.ifCond .eq 25, 3) := by decide +kernel
theorem dX6_read_48 : decode cX6_read 48 = .ok (.aload_n 0, 1) := by decide +kernel
theorem dX6_read_49 : decode cX6_read 49 = .ok (.getfield 49, 3) := by decide +kernel
theorem dX6_read_52 : decode cX6_read 52 = .ok (.bipush 40, 2) := by decide +kernel
theorem dX6_read_54 : decode cX6_read 54 = .ok (.iload_n 1, 1) := by decide +kernel
theorem dX6_read_55 : decode cX6_read 55 = .ok (.imul, 1) := by decide +kernel
theorem dX6_read_56 : decode cX6_read 56 = .ok (.iload_n 2, 1) := by decide +kernel
theorem dX6_read_57 : decode cX6_read 57 = .ok (.iadd, 1) := by decide +kernel
theorem dX6_read_58 : decode cX6_read 58 = .ok (.laload, 1) := by decide +kernel
theorem dX6_read_59 : decode cX6_read 59 = .ok (.aload_n 0, 1) := by decide +kernel
theorem dX6_read_60 : decode cX6_read 60 = .ok (.iload_n 2, 1) := by decide +kernel
theorem dX6_read_61 : decode cX6_read 61 = .ok (.iconst 5, 1) := by decide +kernel
theorem dX6_read_62 : decode cX6_read 62 = .ok (.invokevirtual 61, 3) := by decide +kernel
theorem dX6_read_65 : decode cX6_read 65 = .ok (.i2l, 1) := by decide +kernel
theorem dX6_read_66 : decode cX6_read 66 = .ok (.lcmp, 1) := by decide +kernel
theorem dX6_read_67 : decode cX6_read 67 = .ok (.ifCond .eq 7, 3) := by decide +kernel
theorem dX6_read_70 : decode cX6_read 70 = .ok (.iconst 1, 1) := by decide +kernel
theorem dX6_read_71 : decode cX6_read 71 = .ok (.iload_n 2, 1) := by decide +kernel
theorem dX6_read_72 : decode cX6_read 72 = .ok (.iadd, 1) := by decide +kernel
theorem dX6_read_73 : decode cX6_read 73 = .ok (.ireturn, 1) := by decide +kernel
theorem dX6_read_74 : decode cX6_read 74 = .ok (.iinc 2 1, 3) := by decide +kernel
theorem dX6_read_77 : decode cX6_read 77 = .ok (.goto (-47), 3) := by decide +kernel
theorem dX6_read_80 : decode cX6_read 80 = .ok (.iconst 0, 1) := by decide +kernel
theorem dX6_read_81 : decode cX6_read 81 = .ok (.ireturn, 1) := by decide +kernel
theorem dX6_image_0 : decode cX6_image 0 = .ok (.aload_n 0, 1) := by decide +kernel
theorem dX6_image_1 : decode cX6_image 1 = .ok (.getfield 9, 3) := by decide +kernel
theorem dX6_image_4 : decode cX6_image 4 = .ok (.aload_n 0, 1) := by decide +kernel
theorem dX6_image_5 : decode cX6_image 5 = .ok (.getfield 13, 3) := by decide +kernel
theorem dX6_image_8 : decode cX6_image 8 = .ok (.invokestatic 149, 3) := by decide +kernel
theorem dX6_image_11 : decode cX6_image 11 = .ok (.aload_n 0, 1) := by decide +kernel
theorem dX6_image_12 : decode cX6_image 12 = .ok (.iconst 1, 1) := by decide +kernel
theorem dX6_image_13 : decode cX6_image 13 = .ok (.putfield 242, 3) := by decide +kernel
theorem dX6_image_16 : decode cX6_image 16 = .ok (.iconst 1, 1) := by decide +kernel
theorem dX6_image_17 : decode cX6_image 17 = .ok (.ireturn, 1) := by decide +kernel
theorem dX6_undo_0 : decode cX6_undo 0 = .ok (.aload_n 0, 1) := by decide +kernel
theorem dX6_undo_1 : decode cX6_undo 1 = .ok (.getfield 242, 3) := by decide +kernel
theorem dX6_undo_4 : decode cX6_undo 4 = .ok (.ifCond .ne 9, 3) := by decide +kernel
theorem dX6_undo_7 : decode cX6_undo 7 = .ok (.aload_n 0, 1) := by decide +kernel
theorem dX6_undo_8 : decode cX6_undo 8 = .ok (.iconst 3, 1) := by decide +kernel
theorem dX6_undo_9 : decode cX6_undo 9 = .ok (.invokevirtual 85, 3) := by decide +kernel
theorem dX6_undo_12 : decode cX6_undo 12 = .ok (.ireturn, 1) := by decide +kernel
theorem dX6_undo_13 : decode cX6_undo 13 = .ok (.aload_n 0, 1) := by decide +kernel
theorem dX6_undo_14 : decode cX6_undo 14 = .ok (.getfield 13, 3) := by decide +kernel
theorem dX6_undo_17 : decode cX6_undo 17 = .ok (.aload_n 0, 1) := by decide +kernel
theorem dX6_undo_18 : decode cX6_undo 18 = .ok (.getfield 9, 3) := by decide +kernel
theorem dX6_undo_21 : decode cX6_undo 21 = .ok (.invokestatic 149, 3) := by decide +kernel
theorem dX6_undo_24 : decode cX6_undo 24 = .ok (.aload_n 0, 1) := by decide +kernel
theorem dX6_undo_25 : decode cX6_undo 25 = .ok (.getfield 9, 3) := by decide +kernel
theorem dX6_undo_28 : decode cX6_undo 28 = .ok (.iconst 0, 1) := by decide +kernel
theorem dX6_undo_29 : decode cX6_undo 29 = .ok (.iaload, 1) := by decide +kernel
theorem dX6_undo_30 : decode cX6_undo 30 = .ok (.ireturn, 1) := by decide +kernel
theorem dX6_tear_0 : decode cX6_tear 0 = .ok (.aload_n 0, 1) := by decide +kernel
theorem dX6_tear_1 : decode cX6_tear 1 = .ok (.getfield 242, 3) := by decide +kernel
theorem dX6_tear_4 : decode cX6_tear 4 = .ok (.ifCond .eq 7, 3) := by decide +kernel
theorem dX6_tear_7 : decode cX6_tear 7 = .ok (.iconst 1, 1) := by decide +kernel
theorem dX6_tear_8 : decode cX6_tear 8 = .ok (.goto 4, 3) := by decide +kernel
theorem dX6_tear_11 : decode cX6_tear 11 = .ok (.iconst 0, 1) := by decide +kernel
theorem dX6_tear_12 : decode cX6_tear 12 = .ok (.istore_n 1, 1) := by decide +kernel
theorem dX6_tear_13 : decode cX6_tear 13 = .ok (.aload_n 0, 1) := by decide +kernel
theorem dX6_tear_14 : decode cX6_tear 14 = .ok (.iconst 0, 1) := by decide +kernel
theorem dX6_tear_15 : decode cX6_tear 15 = .ok (.putfield 242, 3) := by decide +kernel
theorem dX6_tear_18 : decode cX6_tear 18 = .ok (.iload_n 1, 1) := by decide +kernel
theorem dX6_tear_19 : decode cX6_tear 19 = .ok (.ireturn, 1) := by decide +kernel
theorem dX6_count_0 : decode cX6_count 0 = .ok (.iload_n 1, 1) := by decide +kernel
theorem dX6_count_1 : decode cX6_count 1 = .ok (.tableswitch 110 0 7 #[47, 54, 61, 68, 83, 88, 95, 102], 47) := by decide +kernel
theorem dX6_count_48 : decode cX6_count 48 = .ok (.aload_n 0, 1) := by decide +kernel
theorem dX6_count_49 : decode cX6_count 49 = .ok (.getfield 9, 3) := by decide +kernel
theorem dX6_count_52 : decode cX6_count 52 = .ok (.iconst 0, 1) := by decide +kernel
theorem dX6_count_53 : decode cX6_count 53 = .ok (.iaload, 1) := by decide +kernel
theorem dX6_count_54 : decode cX6_count 54 = .ok (.ireturn, 1) := by decide +kernel
theorem dX6_count_55 : decode cX6_count 55 = .ok (.aload_n 0, 1) := by decide +kernel
theorem dX6_count_56 : decode cX6_count 56 = .ok (.getfield 9, 3) := by decide +kernel
theorem dX6_count_59 : decode cX6_count 59 = .ok (.iconst 3, 1) := by decide +kernel
theorem dX6_count_60 : decode cX6_count 60 = .ok (.iaload, 1) := by decide +kernel
theorem dX6_count_61 : decode cX6_count 61 = .ok (.ireturn, 1) := by decide +kernel
theorem dX6_count_62 : decode cX6_count 62 = .ok (.aload_n 0, 1) := by decide +kernel
theorem dX6_count_63 : decode cX6_count 63 = .ok (.getfield 9, 3) := by decide +kernel
theorem dX6_count_66 : decode cX6_count 66 = .ok (.iconst 4, 1) := by decide +kernel
theorem dX6_count_67 : decode cX6_count 67 = .ok (.iaload, 1) := by decide +kernel
theorem dX6_count_68 : decode cX6_count 68 = .ok (.ireturn, 1) := by decide +kernel
theorem dX6_count_69 : decode cX6_count 69 = .ok (.aload_n 0, 1) := by decide +kernel
theorem dX6_count_70 : decode cX6_count 70 = .ok (.getfield 9, 3) := by decide +kernel
theorem dX6_count_73 : decode cX6_count 73 = .ok (.iconst 5, 1) := by decide +kernel
theorem dX6_count_74 : decode cX6_count 74 = .ok (.iaload, 1) := by decide +kernel
theorem dX6_count_75 : decode cX6_count 75 = .ok (.ifCond .ge 7, 3) := by decide +kernel
theorem dX6_count_78 : decode cX6_count 78 = .ok (.iconst 0, 1) := by decide +kernel
theorem dX6_count_79 : decode cX6_count 79 = .ok (.goto 4, 3) := by decide +kernel
theorem dX6_count_82 : decode cX6_count 82 = .ok (.iconst 1, 1) := by decide +kernel
theorem dX6_count_83 : decode cX6_count 83 = .ok (.ireturn, 1) := by decide +kernel
theorem dX6_count_84 : decode cX6_count 84 = .ok (.aload_n 0, 1) := by decide +kernel
theorem dX6_count_85 : decode cX6_count 85 = .ok (.getfield 183, 3) := by decide +kernel
theorem dX6_count_88 : decode cX6_count 88 = .ok (.ireturn, 1) := by decide +kernel
theorem dX6_count_89 : decode cX6_count 89 = .ok (.aload_n 0, 1) := by decide +kernel
theorem dX6_count_90 : decode cX6_count 90 = .ok (.getfield 9, 3) := by decide +kernel
theorem dX6_count_93 : decode cX6_count 93 = .ok (.iconst 2, 1) := by decide +kernel
theorem dX6_count_94 : decode cX6_count 94 = .ok (.iaload, 1) := by decide +kernel
theorem dX6_count_95 : decode cX6_count 95 = .ok (.ireturn, 1) := by decide +kernel
theorem dX6_count_96 : decode cX6_count 96 = .ok (.aload_n 0, 1) := by decide +kernel
theorem dX6_count_97 : decode cX6_count 97 = .ok (.getfield 9, 3) := by decide +kernel
theorem dX6_count_100 : decode cX6_count 100 = .ok (.iconst 1, 1) := by decide +kernel
theorem dX6_count_101 : decode cX6_count 101 = .ok (.iaload, 1) := by decide +kernel
theorem dX6_count_102 : decode cX6_count 102 = .ok (.ireturn, 1) := by decide +kernel
theorem dX6_count_103 : decode cX6_count 103 = .ok (.aload_n 0, 1) := by decide +kernel
theorem dX6_count_104 : decode cX6_count 104 = .ok (.getfield 9, 3) := by decide +kernel
theorem dX6_count_107 : decode cX6_count 107 = .ok (.bipush 13, 2) := by decide +kernel
theorem dX6_count_109 : decode cX6_count 109 = .ok (.iaload, 1) := by decide +kernel
theorem dX6_count_110 : decode cX6_count 110 = .ok (.ireturn, 1) := by decide +kernel
theorem dX6_count_111 : decode cX6_count 111 = .ok (.aload_n 0, 1) := by decide +kernel
theorem dX6_count_112 : decode cX6_count 112 = .ok (.iconst 0, 1) := by decide +kernel
theorem dX6_count_113 : decode cX6_count 113 = .ok (.invokevirtual 85, 3) := by decide +kernel
theorem dX6_count_116 : decode cX6_count 116 = .ok (.ireturn, 1) := by decide +kernel
theorem dX6_status_0 : decode cX6_status 0 = .ok (.iload_n 1, 1) := by decide +kernel
theorem dX6_status_1 : decode cX6_status 1 = .ok (.iconst (-1), 1) := by decide +kernel
theorem dX6_status_2 : decode cX6_status 2 = .ok (.bipush 6, 2) := by decide +kernel
theorem dX6_status_4 : decode cX6_status 4 = .ok (.invokestatic 57, 3) := by decide +kernel
theorem dX6_status_7 : decode cX6_status 7 = .ok (.ifCond .ne 9, 3) := by decide +kernel
theorem dX6_status_10 : decode cX6_status 10 = .ok (.aload_n 0, 1) := by decide +kernel
theorem dX6_status_11 : decode cX6_status 11 = .ok (.iconst 0, 1) := by decide +kernel
theorem dX6_status_12 : decode cX6_status 12 = .ok (.invokevirtual 85, 3) := by decide +kernel
theorem dX6_status_15 : decode cX6_status 15 = .ok (.ireturn, 1) := by decide +kernel
theorem dX6_status_16 : decode cX6_status 16 = .ok (.iconst 0, 1) := by decide +kernel
theorem dX6_status_17 : decode cX6_status 17 = .ok (.istore_n 2, 1) := by decide +kernel
theorem dX6_status_18 : decode cX6_status 18 = .ok (.iconst 0, 1) := by decide +kernel
theorem dX6_status_19 : decode cX6_status 19 = .ok (.istore_n 3, 1) := by decide +kernel
theorem dX6_status_20 : decode cX6_status 20 = .ok (.iload_n 3, 1) := by decide +kernel
theorem dX6_status_21 : decode cX6_status 21 = .ok (.bipush 7, 2) := by decide +kernel
theorem dX6_status_23 : decode cX6_status 23 = .ok (.if_icmp .ge 31, 3) := by decide +kernel
theorem dX6_status_26 : decode cX6_status 26 = .ok (.iload_n 2, 1) := by decide +kernel
theorem dX6_status_27 : decode cX6_status 27 = .ok (.iload_n 1, 1) := by decide +kernel
theorem dX6_status_28 : decode cX6_status 28 = .ok (.ifCond .lt 8, 3) := by decide +kernel
theorem dX6_status_31 : decode cX6_status 31 = .ok (.iload_n 1, 1) := by decide +kernel
theorem dX6_status_32 : decode cX6_status 32 = .ok (.iload_n 3, 1) := by decide +kernel
theorem dX6_status_33 : decode cX6_status 33 = .ok (.if_icmp .ne 12, 3) := by decide +kernel
theorem dX6_status_36 : decode cX6_status 36 = .ok (.aload_n 0, 1) := by decide +kernel
theorem dX6_status_37 : decode cX6_status 37 = .ok (.getfield 22, 3) := by decide +kernel
theorem dX6_status_40 : decode cX6_status 40 = .ok (.iload_n 3, 1) := by decide +kernel
theorem dX6_status_41 : decode cX6_status 41 = .ok (.iaload, 1) := by decide +kernel
theorem dX6_status_42 : decode cX6_status 42 = .ok (.goto 4, 3) := by decide +kernel
theorem dX6_status_45 : decode cX6_status 45 = .ok (.iconst 0, 1) := by decide +kernel
theorem dX6_status_46 : decode cX6_status 46 = .ok (.iadd, 1) := by decide +kernel
theorem dX6_status_47 : decode cX6_status 47 = .ok (.istore_n 2, 1) := by decide +kernel
theorem dX6_status_48 : decode cX6_status 48 = .ok (.iinc 3 1, 3) := by decide +kernel
theorem dX6_status_51 : decode cX6_status 51 = .ok (.goto (-31), 3) := by decide +kernel
theorem dX6_status_54 : decode cX6_status 54 = .ok (.iload_n 2, 1) := by decide +kernel
theorem dX6_status_55 : decode cX6_status 55 = .ok (.ireturn, 1) := by decide +kernel
