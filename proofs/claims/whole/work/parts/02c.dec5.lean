theorem dX5_still_71 : decode cX5_still 71 = .ok (.putfield 94, 3) := by decide +kernel
theorem dX5_still_74 : decode cX5_still 74 = .ok (.iconst 1, 1) := by decide +kernel
theorem dX5_still_75 : decode cX5_still 75 = .ok (.istore 5, 2) := by decide +kernel
theorem dX5_still_77 : decode cX5_still 77 = .ok (.iconst 0, 1) := by decide +kernel
theorem dX5_still_78 : decode cX5_still 78 = .ok (.istore 6, 2) := by decide +kernel
theorem dX5_still_80 : decode cX5_still 80 = .ok (.iload 6, 2) := by decide +kernel
theorem dX5_still_82 : decode cX5_still 82 = .ok (.iload_n 2, 1) := by decide +kernel
theorem dX5_still_83 : decode cX5_still 83 = .ok (.if_icmp .ge 39, 3) := by decide +kernel
theorem dX5_still_86 : decode cX5_still 86 = .ok (.iload 5, 2) := by decide +kernel
theorem dX5_still_88 : decode cX5_still 88 = .ok (.ifCond .eq 34, 3) := by decide +kernel
theorem dX5_still_91 : decode cX5_still 91 = .ok (.aload_n 0, 1) := by decide +kernel
theorem dX5_still_92 : decode cX5_still 92 = .ok (.getfield 19, 3) := by decide +kernel
theorem dX5_still_95 : decode cX5_still 95 = .ok (.invokevirtual 129, 3) := by decide +kernel
theorem dX5_still_98 : decode cX5_still 98 = .ok (.aload_n 0, 1) := by decide +kernel
theorem dX5_still_99 : decode cX5_still 99 = .ok (.getfield 19, 3) := by decide +kernel
theorem dX5_still_102 : decode cX5_still 102 = .ok (.getfield 136, 3) := by decide +kernel
theorem dX5_still_105 : decode cX5_still 105 = .ok (.iload_n 3, 1) := by decide +kernel
theorem dX5_still_106 : decode cX5_still 106 = .ok (.if_icmp .gt 7, 3) := by decide +kernel
theorem dX5_still_109 : decode cX5_still 109 = .ok (.iconst 1, 1) := by decide +kernel
theorem dX5_still_110 : decode cX5_still 110 = .ok (.goto 4, 3) := by decide +kernel
theorem dX5_still_113 : decode cX5_still 113 = .ok (.iconst 0, 1) := by decide +kernel
theorem dX5_still_114 : decode cX5_still 114 = .ok (.istore 5, 2) := by decide +kernel
theorem dX5_still_116 : decode cX5_still 116 = .ok (.iinc 6 1, 3) := by decide +kernel
theorem dX5_still_119 : decode cX5_still 119 = .ok (.goto (-39), 3) := by decide +kernel
theorem dX5_still_122 : decode cX5_still 122 = .ok (.iload 5, 2) := by decide +kernel
theorem dX5_still_124 : decode cX5_still 124 = .ok (.ifCond .eq 6, 3) := by decide +kernel
theorem dX5_still_127 : decode cX5_still 127 = .ok (.iload 4, 2) := by decide +kernel
theorem dX5_still_129 : decode cX5_still 129 = .ok (.ireturn, 1) := by decide +kernel
theorem dX5_still_130 : decode cX5_still 130 = .ok (.iinc 4 1, 3) := by decide +kernel
theorem dX5_still_133 : decode cX5_still 133 = .ok (.goto (-91), 3) := by decide +kernel
theorem dX5_still_136 : decode cX5_still 136 = .ok (.aload_n 0, 1) := by decide +kernel
theorem dX5_still_137 : decode cX5_still 137 = .ok (.ldc 155, 2) := by decide +kernel
theorem dX5_still_139 : decode cX5_still 139 = .ok (.invokevirtual 59, 3) := by decide +kernel
theorem dX5_still_142 : decode cX5_still 142 = .ok (.ireturn, 1) := by decide +kernel
theorem dX5_which_0 : decode cX5_which 0 = .ok (.aload_n 0, 1) := by decide +kernel
theorem dX5_which_1 : decode cX5_which 1 = .ok (.getfield 12, 3) := by decide +kernel
theorem dX5_which_4 : decode cX5_which 4 = .ok (.iload_n 1, 1) := by decide +kernel
theorem dX5_which_5 : decode cX5_which 5 = .ok (.invokevirtual 78, 3) := by decide +kernel
theorem dX5_which_8 : decode cX5_which 8 = .ok (.ifCond .eq 12, 3) := by decide +kernel
theorem dX5_which_11 : decode cX5_which 11 = .ok (.iload_n 2, 1) := by decide +kernel
theorem dX5_which_12 : decode cX5_which 12 = .ok (.iconst 0, 1) := by decide +kernel
theorem dX5_which_13 : decode cX5_which 13 = .ok (.iconst 3, 1) := by decide +kernel
theorem dX5_which_14 : decode cX5_which 14 = .ok (.invokestatic 54, 3) := by decide +kernel
theorem dX5_which_17 : decode cX5_which 17 = .ok (.ifCond .ne 10, 3) := by decide +kernel
theorem dX5_which_20 : decode cX5_which 20 = .ok (.aload_n 0, 1) := by decide +kernel
theorem dX5_which_21 : decode cX5_which 21 = .ok (.ldc 58, 2) := by decide +kernel
theorem dX5_which_23 : decode cX5_which 23 = .ok (.invokevirtual 59, 3) := by decide +kernel
theorem dX5_which_26 : decode cX5_which 26 = .ok (.ireturn, 1) := by decide +kernel
theorem dX5_which_27 : decode cX5_which 27 = .ok (.aload_n 0, 1) := by decide +kernel
theorem dX5_which_28 : decode cX5_which 28 = .ok (.getfield 45, 3) := by decide +kernel
theorem dX5_which_31 : decode cX5_which 31 = .ok (.iload_n 2, 1) := by decide +kernel
theorem dX5_which_32 : decode cX5_which 32 = .ok (.aaload, 1) := by decide +kernel
theorem dX5_which_33 : decode cX5_which 33 = .ok (.astore_n 3, 1) := by decide +kernel
theorem dX5_which_34 : decode cX5_which 34 = .ok (.aload_n 3, 1) := by decide +kernel
theorem dX5_which_35 : decode cX5_which 35 = .ok (.invokevirtual 165, 3) := by decide +kernel
theorem dX5_which_38 : decode cX5_which 38 = .ok (.ifCond .eq 10, 3) := by decide +kernel
theorem dX5_which_41 : decode cX5_which 41 = .ok (.aload_n 0, 1) := by decide +kernel
theorem dX5_which_42 : decode cX5_which 42 = .ok (.ldc 169, 2) := by decide +kernel
theorem dX5_which_44 : decode cX5_which 44 = .ok (.invokevirtual 59, 3) := by decide +kernel
theorem dX5_which_47 : decode cX5_which 47 = .ok (.ireturn, 1) := by decide +kernel
theorem dX5_which_48 : decode cX5_which 48 = .ok (.aload_n 3, 1) := by decide +kernel
theorem dX5_which_49 : decode cX5_which 49 = .ok (.getfield 170, 3) := by decide +kernel
theorem dX5_which_52 : decode cX5_which 52 = .ok (.ifCond .ne 10, 3) := by decide +kernel
theorem dX5_which_55 : decode cX5_which 55 = .ok (.aload_n 0, 1) := by decide +kernel
theorem dX5_which_56 : decode cX5_which 56 = .ok (.ldc 171, 2) := by decide +kernel
theorem dX5_which_58 : decode cX5_which 58 = .ok (.invokevirtual 59, 3) := by decide +kernel
theorem dX5_which_61 : decode cX5_which 61 = .ok (.ireturn, 1) := by decide +kernel
theorem dX5_which_62 : decode cX5_which 62 = .ok (.iconst 0, 1) := by decide +kernel
theorem dX5_which_63 : decode cX5_which 63 = .ok (.istore 4, 2) := by decide +kernel
theorem dX5_which_65 : decode cX5_which 65 = .ok (.iconst 0, 1) := by decide +kernel
theorem dX5_which_66 : decode cX5_which 66 = .ok (.istore 5, 2) := by decide +kernel
theorem dX5_which_68 : decode cX5_which 68 = .ok (.iload 5, 2) := by decide +kernel
theorem dX5_which_70 : decode cX5_which 70 = .ok (.bipush 6, 2) := by decide +kernel
theorem dX5_which_72 : decode cX5_which 72 = .ok (.if_icmp .ge 111, 3) := by decide +kernel
theorem dX5_which_75 : decode cX5_which 75 = .ok (.aload_n 0, 1) := by decide +kernel
theorem dX5_which_76 : decode cX5_which 76 = .ok (.getfield 19, 3) := by decide +kernel
theorem dX5_which_79 : decode cX5_which 79 = .ok (.aload_n 0, 1) := by decide +kernel
theorem dX5_which_80 : decode cX5_which 80 = .ok (.getfield 12, 3) := by decide +kernel
theorem dX5_which_83 : decode cX5_which 83 = .ok (.invokevirtual 156, 3) := by decide +kernel
theorem dX5_which_86 : decode cX5_which 86 = .ok (.aload_n 0, 1) := by decide +kernel
theorem dX5_which_87 : decode cX5_which 87 = .ok (.getfield 19, 3) := by decide +kernel
theorem dX5_which_90 : decode cX5_which 90 = .ok (.getfield 68, 3) := by decide +kernel
theorem dX5_which_93 : decode cX5_which 93 = .ok (.iload_n 1, 1) := by decide +kernel
theorem dX5_which_94 : decode cX5_which 94 = .ok (.aaload, 1) := by decide +kernel
theorem dX5_which_95 : decode cX5_which 95 = .ok (.iload 5, 2) := by decide +kernel
theorem dX5_which_97 : decode cX5_which 97 = .ok (.putfield 82, 3) := by decide +kernel
theorem dX5_which_100 : decode cX5_which 100 = .ok (.iconst 1, 1) := by decide +kernel
theorem dX5_which_101 : decode cX5_which 101 = .ok (.istore 6, 2) := by decide +kernel
theorem dX5_which_103 : decode cX5_which 103 = .ok (.iconst 0, 1) := by decide +kernel
theorem dX5_which_104 : decode cX5_which 104 = .ok (.istore 7, 2) := by decide +kernel
theorem dX5_which_106 : decode cX5_which 106 = .ok (.iload 7, 2) := by decide +kernel
theorem dX5_which_108 : decode cX5_which 108 = .ok (.aload_n 3, 1) := by decide +kernel
theorem dX5_which_109 : decode cX5_which 109 = .ok (.getfield 170, 3) := by decide +kernel
theorem dX5_which_112 : decode cX5_which 112 = .ok (.if_icmp .ge 47, 3) := by decide +kernel
theorem dX5_which_115 : decode cX5_which 115 = .ok (.iload 6, 2) := by decide +kernel
theorem dX5_which_117 : decode cX5_which 117 = .ok (.ifCond .eq 42, 3) := by decide +kernel
theorem dX5_which_120 : decode cX5_which 120 = .ok (.aload_n 0, 1) := by decide +kernel
theorem dX5_which_121 : decode cX5_which 121 = .ok (.getfield 19, 3) := by decide +kernel
theorem dX5_which_124 : decode cX5_which 124 = .ok (.invokevirtual 129, 3) := by decide +kernel
theorem dX5_which_127 : decode cX5_which 127 = .ok (.aload_n 0, 1) := by decide +kernel
theorem dX5_which_128 : decode cX5_which 128 = .ok (.getfield 19, 3) := by decide +kernel
theorem dX5_which_131 : decode cX5_which 131 = .ok (.getfield 136, 3) := by decide +kernel
theorem dX5_which_134 : decode cX5_which 134 = .ok (.i2l, 1) := by decide +kernel
theorem dX5_which_135 : decode cX5_which 135 = .ok (.aload_n 3, 1) := by decide +kernel
theorem dX5_which_136 : decode cX5_which 136 = .ok (.getfield 172, 3) := by decide +kernel
theorem dX5_which_139 : decode cX5_which 139 = .ok (.iload 7, 2) := by decide +kernel
theorem dX5_which_141 : decode cX5_which 141 = .ok (.laload, 1) := by decide +kernel
theorem dX5_which_142 : decode cX5_which 142 = .ok (.lcmp, 1) := by decide +kernel
theorem dX5_which_143 : decode cX5_which 143 = .ok (.ifCond .ne 7, 3) := by decide +kernel
theorem dX5_which_146 : decode cX5_which 146 = .ok (.iconst 1, 1) := by decide +kernel
theorem dX5_which_147 : decode cX5_which 147 = .ok (.goto 4, 3) := by decide +kernel
theorem dX5_which_150 : decode cX5_which 150 = .ok (.iconst 0, 1) := by decide +kernel
theorem dX5_which_151 : decode cX5_which 151 = .ok (.istore 6, 2) := by decide +kernel
theorem dX5_which_153 : decode cX5_which 153 = .ok (.iinc 7 1, 3) := by decide +kernel
theorem dX5_which_156 : decode cX5_which 156 = .ok (.goto (-50), 3) := by decide +kernel
theorem dX5_which_159 : decode cX5_which 159 = .ok (.iload 4, 2) := by decide +kernel
theorem dX5_which_161 : decode cX5_which 161 = .ok (.iload 6, 2) := by decide +kernel
theorem dX5_which_163 : decode cX5_which 163 = .ok (.ifCond .eq 10, 3) := by decide +kernel
theorem dX5_which_166 : decode cX5_which 166 = .ok (.iconst 1, 1) := by decide +kernel
theorem dX5_which_167 : decode cX5_which 167 = .ok (.iload 5, 2) := by decide +kernel
theorem dX5_which_169 : decode cX5_which 169 = .ok (.ishl, 1) := by decide +kernel
theorem dX5_which_170 : decode cX5_which 170 = .ok (.goto 4, 3) := by decide +kernel
theorem dX5_which_173 : decode cX5_which 173 = .ok (.iconst 0, 1) := by decide +kernel
theorem dX5_which_174 : decode cX5_which 174 = .ok (.ior, 1) := by decide +kernel
theorem dX5_which_175 : decode cX5_which 175 = .ok (.istore 4, 2) := by decide +kernel
theorem dX5_which_177 : decode cX5_which 177 = .ok (.iinc 5 1, 3) := by decide +kernel
theorem dX5_which_180 : decode cX5_which 180 = .ok (.goto (-112), 3) := by decide +kernel
theorem dX5_which_183 : decode cX5_which 183 = .ok (.iload 4, 2) := by decide +kernel
theorem dX5_which_185 : decode cX5_which 185 = .ok (.ireturn, 1) := by decide +kernel
theorem dX5_together_0 : decode cX5_together 0 = .ok (.aload_n 0, 1) := by decide +kernel
theorem dX5_together_1 : decode cX5_together 1 = .ok (.getfield 12, 3) := by decide +kernel
theorem dX5_together_4 : decode cX5_together 4 = .ok (.iload_n 1, 1) := by decide +kernel
theorem dX5_together_5 : decode cX5_together 5 = .ok (.invokevirtual 78, 3) := by decide +kernel
theorem dX5_together_8 : decode cX5_together 8 = .ok (.ifCond .eq 29, 3) := by decide +kernel
theorem dX5_together_11 : decode cX5_together 11 = .ok (.aload_n 0, 1) := by decide +kernel
theorem dX5_together_12 : decode cX5_together 12 = .ok (.getfield 12, 3) := by decide +kernel
theorem dX5_together_15 : decode cX5_together 15 = .ok (.iload_n 2, 1) := by decide +kernel
theorem dX5_together_16 : decode cX5_together 16 = .ok (.invokevirtual 78, 3) := by decide +kernel
theorem dX5_together_19 : decode cX5_together 19 = .ok (.ifCond .eq 18, 3) := by decide +kernel
theorem dX5_together_22 : decode cX5_together 22 = .ok (.iload_n 1, 1) := by decide +kernel
theorem dX5_together_23 : decode cX5_together 23 = .ok (.iload_n 2, 1) := by decide +kernel
theorem dX5_together_24 : decode cX5_together 24 = .ok (.if_icmp .eq 13, 3) := by decide +kernel
theorem dX5_together_27 : decode cX5_together 27 = .ok (.iload_n 3, 1) := by decide +kernel
theorem dX5_together_28 : decode cX5_together 28 = .ok (.iconst 1, 1) := by decide +kernel
theorem dX5_together_29 : decode cX5_together 29 = .ok (.bipush 60, 2) := by decide +kernel
theorem dX5_together_31 : decode cX5_together 31 = .ok (.invokestatic 54, 3) := by decide +kernel
theorem dX5_together_34 : decode cX5_together 34 = .ok (.ifCond .ne 10, 3) := by decide +kernel
theorem dX5_together_37 : decode cX5_together 37 = .ok (.aload_n 0, 1) := by decide +kernel
theorem dX5_together_38 : decode cX5_together 38 = .ok (.ldc 58, 2) := by decide +kernel
theorem dX5_together_40 : decode cX5_together 40 = .ok (.invokevirtual 59, 3) := by decide +kernel
theorem dX5_together_43 : decode cX5_together 43 = .ok (.ireturn, 1) := by decide +kernel
theorem dX5_together_44 : decode cX5_together 44 = .ok (.iconst 0, 1) := by decide +kernel
theorem dX5_together_45 : decode cX5_together 45 = .ok (.istore 4, 2) := by decide +kernel
theorem dX5_together_47 : decode cX5_together 47 = .ok (.aload_n 0, 1) := by decide +kernel
theorem dX5_together_48 : decode cX5_together 48 = .ok (.getfield 19, 3) := by decide +kernel
theorem dX5_together_51 : decode cX5_together 51 = .ok (.aload_n 0, 1) := by decide +kernel
theorem dX5_together_52 : decode cX5_together 52 = .ok (.getfield 12, 3) := by decide +kernel
theorem dX5_together_55 : decode cX5_together 55 = .ok (.invokevirtual 156, 3) := by decide +kernel
theorem dX5_together_58 : decode cX5_together 58 = .ok (.iconst 0, 1) := by decide +kernel
theorem dX5_together_59 : decode cX5_together 59 = .ok (.istore 5, 2) := by decide +kernel
theorem dX5_together_61 : decode cX5_together 61 = .ok (.iload 5, 2) := by decide +kernel
theorem dX5_together_63 : decode cX5_together 63 = .ok (.iload_n 3, 1) := by decide +kernel
theorem dX5_together_64 : decode cX5_together 64 = .ok (.if_icmp .ge 42, 3) := by decide +kernel
theorem dX5_together_67 : decode cX5_together 67 = .ok (.aload_n 0, 1) := by decide +kernel
theorem dX5_together_68 : decode cX5_together 68 = .ok (.getfield 19, 3) := by decide +kernel
theorem dX5_together_71 : decode cX5_together 71 = .ok (.invokevirtual 129, 3) := by decide +kernel
theorem dX5_together_74 : decode cX5_together 74 = .ok (.iload 4, 2) := by decide +kernel
theorem dX5_together_76 : decode cX5_together 76 = .ok (.aload_n 0, 1) := by decide +kernel
theorem dX5_together_77 : decode cX5_together 77 = .ok (.getfield 19, 3) := by decide +kernel
theorem dX5_together_80 : decode cX5_together 80 = .ok (.getfield 176, 3) := by decide +kernel
theorem dX5_together_83 : decode cX5_together 83 = .ok (.iload_n 1, 1) := by decide +kernel
theorem dX5_together_84 : decode cX5_together 84 = .ok (.ishr, 1) := by decide +kernel
theorem dX5_together_85 : decode cX5_together 85 = .ok (.aload_n 0, 1) := by decide +kernel
theorem dX5_together_86 : decode cX5_together 86 = .ok (.getfield 19, 3) := by decide +kernel
theorem dX5_together_89 : decode cX5_together 89 = .ok (.getfield 176, 3) := by decide +kernel
theorem dX5_together_92 : decode cX5_together 92 = .ok (.iload_n 2, 1) := by decide +kernel
theorem dX5_together_93 : decode cX5_together 93 = .ok (.ishr, 1) := by decide +kernel
theorem dX5_together_94 : decode cX5_together 94 = .ok (.iand, 1) := by decide +kernel
theorem dX5_together_95 : decode cX5_together 95 = .ok (.iconst 1, 1) := by decide +kernel
theorem dX5_together_96 : decode cX5_together 96 = .ok (.iand, 1) := by decide +kernel
theorem dX5_together_97 : decode cX5_together 97 = .ok (.iadd, 1) := by decide +kernel
theorem dX5_together_98 : decode cX5_together 98 = .ok (.istore 4, 2) := by decide +kernel
theorem dX5_together_100 : decode cX5_together 100 = .ok (.iinc 5 1, 3) := by decide +kernel
theorem dX5_together_103 : decode cX5_together 103 = .ok (.goto (-42), 3) := by decide +kernel
theorem dX5_together_106 : decode cX5_together 106 = .ok (.iload 4, 2) := by decide +kernel
theorem dX5_together_108 : decode cX5_together 108 = .ok (.ireturn, 1) := by decide +kernel
theorem dX5_feed_0 : decode cX5_feed 0 = .ok (.iload_n 2, 1) := by decide +kernel
theorem dX5_feed_1 : decode cX5_feed 1 = .ok (.iconst 1, 1) := by decide +kernel
theorem dX5_feed_2 : decode cX5_feed 2 = .ok (.iconst 4, 1) := by decide +kernel
theorem dX5_feed_3 : decode cX5_feed 3 = .ok (.invokestatic 54, 3) := by decide +kernel
theorem dX5_feed_6 : decode cX5_feed 6 = .ok (.ifCond .ne 10, 3) := by decide +kernel
theorem dX5_feed_9 : decode cX5_feed 9 = .ok (.aload_n 0, 1) := by decide +kernel
theorem dX5_feed_10 : decode cX5_feed 10 = .ok (.ldc 58, 2) := by decide +kernel
theorem dX5_feed_12 : decode cX5_feed 12 = .ok (.invokevirtual 59, 3) := by decide +kernel
theorem dX5_feed_15 : decode cX5_feed 15 = .ok (.ireturn, 1) := by decide +kernel
theorem dX5_feed_16 : decode cX5_feed 16 = .ok (.aload_n 0, 1) := by decide +kernel
theorem dX5_feed_17 : decode cX5_feed 17 = .ok (.getfield 39, 3) := by decide +kernel
theorem dX5_feed_20 : decode cX5_feed 20 = .ok (.getfield 179, 3) := by decide +kernel
theorem dX5_feed_23 : decode cX5_feed 23 = .ok (.iload_n 2, 1) := by decide +kernel
theorem dX5_feed_24 : decode cX5_feed 24 = .ok (.iadd, 1) := by decide +kernel
theorem dX5_feed_25 : decode cX5_feed 25 = .ok (.bipush 60, 2) := by decide +kernel
theorem dX5_feed_27 : decode cX5_feed 27 = .ok (.if_icmp .le 10, 3) := by decide +kernel
theorem dX5_feed_30 : decode cX5_feed 30 = .ok (.aload_n 0, 1) := by decide +kernel
theorem dX5_feed_31 : decode cX5_feed 31 = .ok (.ldc 67, 2) := by decide +kernel
theorem dX5_feed_33 : decode cX5_feed 33 = .ok (.invokevirtual 59, 3) := by decide +kernel
theorem dX5_feed_36 : decode cX5_feed 36 = .ok (.ireturn, 1) := by decide +kernel
theorem dX5_feed_37 : decode cX5_feed 37 = .ok (.iload_n 2, 1) := by decide +kernel
theorem dX5_feed_38 : decode cX5_feed 38 = .ok (.iconst 1, 1) := by decide +kernel
theorem dX5_feed_39 : decode cX5_feed 39 = .ok (.isub, 1) := by decide +kernel
theorem dX5_feed_40 : decode cX5_feed 40 = .ok (.istore_n 3, 1) := by decide +kernel
theorem dX5_feed_41 : decode cX5_feed 41 = .ok (.iload_n 3, 1) := by decide +kernel
theorem dX5_feed_42 : decode cX5_feed 42 = .ok (.ifCond .lt 47, 3) := by decide +kernel
theorem dX5_feed_45 : decode cX5_feed 45 = .ok (.aload_n 0, 1) := by decide +kernel
theorem dX5_feed_46 : decode cX5_feed 46 = .ok (.getfield 39, 3) := by decide +kernel
theorem dX5_feed_49 : decode cX5_feed 49 = .ok (.getfield 180, 3) := by decide +kernel
theorem dX5_feed_52 : decode cX5_feed 52 = .ok (.aload_n 0, 1) := by decide +kernel
theorem dX5_feed_53 : decode cX5_feed 53 = .ok (.getfield 39, 3) := by decide +kernel
theorem dX5_feed_56 : decode cX5_feed 56 = .ok (.getfield 179, 3) := by decide +kernel
theorem dX5_feed_59 : decode cX5_feed 59 = .ok (.iload_n 1, 1) := by decide +kernel
theorem dX5_feed_60 : decode cX5_feed 60 = .ok (.bipush 8, 2) := by decide +kernel
theorem dX5_feed_62 : decode cX5_feed 62 = .ok (.iload_n 3, 1) := by decide +kernel
theorem dX5_feed_63 : decode cX5_feed 63 = .ok (.imul, 1) := by decide +kernel
theorem dX5_feed_64 : decode cX5_feed 64 = .ok (.iushr, 1) := by decide +kernel
theorem dX5_feed_65 : decode cX5_feed 65 = .ok (.sipush 255, 3) := by decide +kernel
theorem dX5_feed_68 : decode cX5_feed 68 = .ok (.iand, 1) := by decide +kernel
theorem dX5_feed_69 : decode cX5_feed 69 = .ok (.iastore, 1) := by decide +kernel
theorem dX5_feed_70 : decode cX5_feed 70 = .ok (.aload_n 0, 1) := by decide +kernel
theorem dX5_feed_71 : decode cX5_feed 71 = .ok (.getfield 39, 3) := by decide +kernel
theorem dX5_feed_74 : decode cX5_feed 74 = .ok (.dup, 1) := by decide +kernel
theorem dX5_feed_75 : decode cX5_feed 75 = .ok (.getfield 179, 3) := by decide +kernel
theorem dX5_feed_78 : decode cX5_feed 78 = .ok (.iconst 1, 1) := by decide +kernel
theorem dX5_feed_79 : decode cX5_feed 79 = .ok (.iadd, 1) := by decide +kernel
theorem dX5_feed_80 : decode cX5_feed 80 = .ok (.putfield 179, 3) := by decide +kernel
theorem dX5_feed_83 : decode cX5_feed 83 = .ok (.iinc 3 (-1), 3) := by decide +kernel
theorem dX5_feed_86 : decode cX5_feed 86 = .ok (.goto (-45), 3) := by decide +kernel
theorem dX5_feed_89 : decode cX5_feed 89 = .ok (.aload_n 0, 1) := by decide +kernel
theorem dX5_feed_90 : decode cX5_feed 90 = .ok (.getfield 39, 3) := by decide +kernel
theorem dX5_feed_93 : decode cX5_feed 93 = .ok (.getfield 179, 3) := by decide +kernel
theorem dX5_feed_96 : decode cX5_feed 96 = .ok (.ireturn, 1) := by decide +kernel
theorem dX5_wipe_0 : decode cX5_wipe 0 = .ok (.aload_n 0, 1) := by decide +kernel
theorem dX5_wipe_1 : decode cX5_wipe 1 = .ok (.getfield 39, 3) := by decide +kernel
theorem dX5_wipe_4 : decode cX5_wipe 4 = .ok (.getfield 179, 3) := by decide +kernel
theorem dX5_wipe_7 : decode cX5_wipe 7 = .ok (.istore_n 1, 1) := by decide +kernel
theorem dX5_wipe_8 : decode cX5_wipe 8 = .ok (.aload_n 0, 1) := by decide +kernel
theorem dX5_wipe_9 : decode cX5_wipe 9 = .ok (.getfield 39, 3) := by decide +kernel
theorem dX5_wipe_12 : decode cX5_wipe 12 = .ok (.iconst 0, 1) := by decide +kernel
theorem dX5_wipe_13 : decode cX5_wipe 13 = .ok (.putfield 179, 3) := by decide +kernel
theorem dX5_wipe_16 : decode cX5_wipe 16 = .ok (.iload_n 1, 1) := by decide +kernel
theorem dX5_wipe_17 : decode cX5_wipe 17 = .ok (.ireturn, 1) := by decide +kernel
theorem dX5_law_0 : decode cX5_law 0 = .ok (.aload_n 0, 1) := by decide +kernel
theorem dX5_law_1 : decode cX5_law 1 = .ok (.getfield 39, 3) := by decide +kernel
theorem dX5_law_4 : decode cX5_law 4 = .ok (.invokevirtual 183, 3) := by decide +kernel
theorem dX5_law_7 : decode cX5_law 7 = .ok (.istore_n 1, 1) := by decide +kernel
theorem dX5_law_8 : decode cX5_law 8 = .ok (.iload_n 1, 1) := by decide +kernel
theorem dX5_law_9 : decode cX5_law 9 = .ok (.ifCond .lt 7, 3) := by decide +kernel
theorem dX5_law_12 : decode cX5_law 12 = .ok (.iconst (-1), 1) := by decide +kernel
theorem dX5_law_13 : decode cX5_law 13 = .ok (.iload_n 1, 1) := by decide +kernel
theorem dX5_law_14 : decode cX5_law 14 = .ok (.isub, 1) := by decide +kernel
theorem dX5_law_15 : decode cX5_law 15 = .ok (.ireturn, 1) := by decide +kernel
theorem dX5_law_16 : decode cX5_law 16 = .ok (.aload_n 0, 1) := by decide +kernel
theorem dX5_law_17 : decode cX5_law 17 = .ok (.getfield 12, 3) := by decide +kernel
theorem dX5_law_20 : decode cX5_law 20 = .ok (.getfield 187, 3) := by decide +kernel
theorem dX5_law_23 : decode cX5_law 23 = .ok (.aload_n 0, 1) := by decide +kernel
theorem dX5_law_24 : decode cX5_law 24 = .ok (.getfield 39, 3) := by decide +kernel
theorem dX5_law_27 : decode cX5_law 27 = .ok (.invokevirtual 190, 3) := by decide +kernel
theorem dX5_law_30 : decode cX5_law 30 = .ok (.aload_n 0, 1) := by decide +kernel
theorem dX5_law_31 : decode cX5_law 31 = .ok (.getfield 39, 3) := by decide +kernel
theorem dX5_law_34 : decode cX5_law 34 = .ok (.iconst 0, 1) := by decide +kernel
theorem dX5_law_35 : decode cX5_law 35 = .ok (.putfield 179, 3) := by decide +kernel
theorem dX5_law_38 : decode cX5_law 38 = .ok (.iconst 0, 1) := by decide +kernel
theorem dX5_law_39 : decode cX5_law 39 = .ok (.ireturn, 1) := by decide +kernel
theorem dX5_plain_0 : decode cX5_plain 0 = .ok (.aload_n 0, 1) := by decide +kernel
theorem dX5_plain_1 : decode cX5_plain 1 = .ok (.getfield 12, 3) := by decide +kernel
theorem dX5_plain_4 : decode cX5_plain 4 = .ok (.getfield 187, 3) := by decide +kernel
theorem dX5_plain_7 : decode cX5_plain 7 = .ok (.getfield 179, 3) := by decide +kernel
theorem dX5_plain_10 : decode cX5_plain 10 = .ok (.ifCond .le 7, 3) := by decide +kernel
theorem dX5_plain_13 : decode cX5_plain 13 = .ok (.iconst 1, 1) := by decide +kernel
theorem dX5_plain_14 : decode cX5_plain 14 = .ok (.goto 4, 3) := by decide +kernel
theorem dX5_plain_17 : decode cX5_plain 17 = .ok (.iconst 0, 1) := by decide +kernel
theorem dX5_plain_18 : decode cX5_plain 18 = .ok (.istore_n 1, 1) := by decide +kernel
theorem dX5_plain_19 : decode cX5_plain 19 = .ok (.aload_n 0, 1) := by decide +kernel
theorem dX5_plain_20 : decode cX5_plain 20 = .ok (.getfield 12, 3) := by decide +kernel
theorem dX5_plain_23 : decode cX5_plain 23 = .ok (.getfield 187, 3) := by decide +kernel
theorem dX5_plain_26 : decode cX5_plain 26 = .ok (.iconst 0, 1) := by decide +kernel
theorem dX5_plain_27 : decode cX5_plain 27 = .ok (.putfield 179, 3) := by decide +kernel
theorem dX5_plain_30 : decode cX5_plain 30 = .ok (.iload_n 1, 1) := by decide +kernel
theorem dX5_plain_31 : decode cX5_plain 31 = .ok (.ireturn, 1) := by decide +kernel
theorem dX5_says_0 : decode cX5_says 0 = .ok (.aload_n 0, 1) := by decide +kernel
theorem dX5_says_1 : decode cX5_says 1 = .ok (.getfield 12, 3) := by decide +kernel
theorem dX5_says_4 : decode cX5_says 4 = .ok (.iload_n 1, 1) := by decide +kernel
theorem dX5_says_5 : decode cX5_says 5 = .ok (.invokevirtual 78, 3) := by decide +kernel
theorem dX5_says_8 : decode cX5_says 8 = .ok (.ifCond .ne 10, 3) := by decide +kernel
theorem dX5_says_11 : decode cX5_says 11 = .ok (.aload_n 0, 1) := by decide +kernel
theorem dX5_says_12 : decode cX5_says 12 = .ok (.ldc 58, 2) := by decide +kernel
theorem dX5_says_14 : decode cX5_says 14 = .ok (.invokevirtual 59, 3) := by decide +kernel
theorem dX5_says_17 : decode cX5_says 17 = .ok (.ireturn, 1) := by decide +kernel
theorem dX5_says_18 : decode cX5_says 18 = .ok (.aload_n 0, 1) := by decide +kernel
theorem dX5_says_19 : decode cX5_says 19 = .ok (.getfield 12, 3) := by decide +kernel
theorem dX5_says_22 : decode cX5_says 22 = .ok (.getfield 187, 3) := by decide +kernel
theorem dX5_says_25 : decode cX5_says 25 = .ok (.getfield 179, 3) := by decide +kernel
theorem dX5_says_28 : decode cX5_says 28 = .ok (.ifCond .ne 10, 3) := by decide +kernel
theorem dX5_says_31 : decode cX5_says 31 = .ok (.aload_n 0, 1) := by decide +kernel
theorem dX5_says_32 : decode cX5_says 32 = .ok (.ldc 155, 2) := by decide +kernel
theorem dX5_says_34 : decode cX5_says 34 = .ok (.invokevirtual 59, 3) := by decide +kernel
theorem dX5_says_37 : decode cX5_says 37 = .ok (.ireturn, 1) := by decide +kernel
theorem dX5_says_38 : decode cX5_says 38 = .ok (.aload_n 0, 1) := by decide +kernel
theorem dX5_says_39 : decode cX5_says 39 = .ok (.getfield 12, 3) := by decide +kernel
theorem dX5_says_42 : decode cX5_says 42 = .ok (.getfield 68, 3) := by decide +kernel
theorem dX5_says_45 : decode cX5_says 45 = .ok (.iload_n 1, 1) := by decide +kernel
theorem dX5_says_46 : decode cX5_says 46 = .ok (.aaload, 1) := by decide +kernel
theorem dX5_says_47 : decode cX5_says 47 = .ok (.astore_n 2, 1) := by decide +kernel
theorem dX5_says_48 : decode cX5_says 48 = .ok (.aload_n 0, 1) := by decide +kernel
theorem dX5_says_49 : decode cX5_says 49 = .ok (.getfield 12, 3) := by decide +kernel
theorem dX5_says_52 : decode cX5_says 52 = .ok (.getfield 187, 3) := by decide +kernel
theorem dX5_says_55 : decode cX5_says 55 = .ok (.aload_n 2, 1) := by decide +kernel
theorem dX5_says_56 : decode cX5_says 56 = .ok (.iload_n 1, 1) := by decide +kernel
theorem dX5_says_57 : decode cX5_says 57 = .ok (.aload_n 0, 1) := by decide +kernel
theorem dX5_says_58 : decode cX5_says 58 = .ok (.getfield 12, 3) := by decide +kernel
theorem dX5_says_61 : decode cX5_says 61 = .ok (.getfield 126, 3) := by decide +kernel
theorem dX5_says_64 : decode cX5_says 64 = .ok (.aload_n 2, 1) := by decide +kernel
theorem dX5_says_65 : decode cX5_says 65 = .ok (.getfield 100, 3) := by decide +kernel
theorem dX5_says_68 : decode cX5_says 68 = .ok (.invokevirtual 193, 3) := by decide +kernel
theorem dX5_says_71 : decode cX5_says 71 = .ok (.ireturn, 1) := by decide +kernel
theorem dX5_sheet_0 : decode cX5_sheet 0 = .ok (.iload_n 1, 1) := by decide +kernel
theorem dX5_sheet_1 : decode cX5_sheet 1 = .ok (.iconst 0, 1) := by decide +kernel
theorem dX5_sheet_2 : decode cX5_sheet 2 = .ok (.iconst 3, 1) := by decide +kernel
theorem dX5_sheet_3 : decode cX5_sheet 3 = .ok (.invokestatic 54, 3) := by decide +kernel
theorem dX5_sheet_6 : decode cX5_sheet 6 = .ok (.ifCond .eq 25, 3) := by decide +kernel
theorem dX5_sheet_9 : decode cX5_sheet 9 = .ok (.iload_n 2, 1) := by decide +kernel
theorem dX5_sheet_10 : decode cX5_sheet 10 = .ok (.ifCond .eq 28, 3) := by decide +kernel
theorem dX5_sheet_13 : decode cX5_sheet 13 = .ok (.iload_n 2, 1) := by decide +kernel
theorem dX5_sheet_14 : decode cX5_sheet 14 = .ok (.bipush 8, 2) := by decide +kernel
theorem dX5_sheet_16 : decode cX5_sheet 16 = .ok (.if_icmp .eq 22, 3) := by decide +kernel
theorem dX5_sheet_19 : decode cX5_sheet 19 = .ok (.iload_n 2, 1) := by decide +kernel
theorem dX5_sheet_20 : decode cX5_sheet 20 = .ok (.bipush 16, 2) := by decide +kernel
theorem dX5_sheet_22 : decode cX5_sheet 22 = .ok (.if_icmp .eq 16, 3) := by decide +kernel
theorem dX5_sheet_25 : decode cX5_sheet 25 = .ok (.iload_n 2, 1) := by decide +kernel
theorem dX5_sheet_26 : decode cX5_sheet 26 = .ok (.bipush 64, 2) := by decide +kernel
theorem dX5_sheet_28 : decode cX5_sheet 28 = .ok (.if_icmp .eq 10, 3) := by decide +kernel
theorem dX5_sheet_31 : decode cX5_sheet 31 = .ok (.aload_n 0, 1) := by decide +kernel
theorem dX5_sheet_32 : decode cX5_sheet 32 = .ok (.ldc 58, 2) := by decide +kernel
theorem dX5_sheet_34 : decode cX5_sheet 34 = .ok (.invokevirtual 59, 3) := by decide +kernel
theorem dX5_sheet_37 : decode cX5_sheet 37 = .ok (.ireturn, 1) := by decide +kernel
theorem dX5_sheet_38 : decode cX5_sheet 38 = .ok (.iload_n 3, 1) := by decide +kernel
theorem dX5_sheet_39 : decode cX5_sheet 39 = .ok (.ifCond .ge 10, 3) := by decide +kernel
theorem dX5_sheet_42 : decode cX5_sheet 42 = .ok (.aload_n 0, 1) := by decide +kernel
theorem dX5_sheet_43 : decode cX5_sheet 43 = .ok (.ldc 171, 2) := by decide +kernel
theorem dX5_sheet_45 : decode cX5_sheet 45 = .ok (.invokevirtual 59, 3) := by decide +kernel
theorem dX5_sheet_48 : decode cX5_sheet 48 = .ok (.ireturn, 1) := by decide +kernel
theorem dX5_sheet_49 : decode cX5_sheet 49 = .ok (.iload_n 3, 1) := by decide +kernel
theorem dX5_sheet_50 : decode cX5_sheet 50 = .ok (.bipush 40, 2) := by decide +kernel
theorem dX5_sheet_52 : decode cX5_sheet 52 = .ok (.if_icmp .le 10, 3) := by decide +kernel
theorem dX5_sheet_55 : decode cX5_sheet 55 = .ok (.aload_n 0, 1) := by decide +kernel
theorem dX5_sheet_56 : decode cX5_sheet 56 = .ok (.ldc 58, 2) := by decide +kernel
theorem dX5_sheet_58 : decode cX5_sheet 58 = .ok (.invokevirtual 59, 3) := by decide +kernel
theorem dX5_sheet_61 : decode cX5_sheet 61 = .ok (.ireturn, 1) := by decide +kernel
theorem dX5_sheet_62 : decode cX5_sheet 62 = .ok (.aload_n 0, 1) := by decide +kernel
theorem dX5_sheet_63 : decode cX5_sheet 63 = .ok (.getfield 45, 3) := by decide +kernel
theorem dX5_sheet_66 : decode cX5_sheet 66 = .ok (.iload_n 1, 1) := by decide +kernel
theorem dX5_sheet_67 : decode cX5_sheet 67 = .ok (.aaload, 1) := by decide +kernel
theorem dX5_sheet_68 : decode cX5_sheet 68 = .ok (.iload_n 2, 1) := by decide +kernel
theorem dX5_sheet_69 : decode cX5_sheet 69 = .ok (.iload_n 3, 1) := by decide +kernel
theorem dX5_sheet_70 : decode cX5_sheet 70 = .ok (.invokevirtual 197, 3) := by decide +kernel
theorem dX5_sheet_73 : decode cX5_sheet 73 = .ok (.aload_n 0, 1) := by decide +kernel
theorem dX5_sheet_74 : decode cX5_sheet 74 = .ok (.getfield 45, 3) := by decide +kernel
theorem dX5_sheet_77 : decode cX5_sheet 77 = .ok (.iload_n 1, 1) := by decide +kernel
theorem dX5_sheet_78 : decode cX5_sheet 78 = .ok (.aaload, 1) := by decide +kernel
theorem dX5_sheet_79 : decode cX5_sheet 79 = .ok (.getfield 170, 3) := by decide +kernel
theorem dX5_sheet_82 : decode cX5_sheet 82 = .ok (.ireturn, 1) := by decide +kernel
theorem dX5_write_0 : decode cX5_write 0 = .ok (.iload_n 1, 1) := by decide +kernel
theorem dX5_write_1 : decode cX5_write 1 = .ok (.iconst 0, 1) := by decide +kernel
theorem dX5_write_2 : decode cX5_write 2 = .ok (.iconst 3, 1) := by decide +kernel
theorem dX5_write_3 : decode cX5_write 3 = .ok (.invokestatic 54, 3) := by decide +kernel
theorem dX5_write_6 : decode cX5_write 6 = .ok (.ifCond .ne 11, 3) := by decide +kernel
theorem dX5_write_9 : decode cX5_write 9 = .ok (.aload_n 0, 1) := by decide +kernel
theorem dX5_write_10 : decode cX5_write 10 = .ok (.ldc 58, 2) := by decide +kernel
theorem dX5_write_12 : decode cX5_write 12 = .ok (.invokevirtual 59, 3) := by decide +kernel
theorem dX5_write_15 : decode cX5_write 15 = .ok (.i2l, 1) := by decide +kernel
theorem dX5_write_16 : decode cX5_write 16 = .ok (.lreturn, 1) := by decide +kernel
theorem dX5_write_17 : decode cX5_write 17 = .ok (.aload_n 0, 1) := by decide +kernel
theorem dX5_write_18 : decode cX5_write 18 = .ok (.getfield 45, 3) := by decide +kernel
theorem dX5_write_21 : decode cX5_write 21 = .ok (.iload_n 1, 1) := by decide +kernel
theorem dX5_write_22 : decode cX5_write 22 = .ok (.aaload, 1) := by decide +kernel
theorem dX5_write_23 : decode cX5_write 23 = .ok (.astore 5, 2) := by decide +kernel
theorem dX5_write_25 : decode cX5_write 25 = .ok (.aload 5, 2) := by decide +kernel
theorem dX5_write_27 : decode cX5_write 27 = .ok (.invokevirtual 165, 3) := by decide +kernel
theorem dX5_write_30 : decode cX5_write 30 = .ok (.ifCond .eq 11, 3) := by decide +kernel
theorem dX5_write_33 : decode cX5_write 33 = .ok (.aload_n 0, 1) := by decide +kernel
theorem dX5_write_34 : decode cX5_write 34 = .ok (.ldc 169, 2) := by decide +kernel
theorem dX5_write_36 : decode cX5_write 36 = .ok (.invokevirtual 59, 3) := by decide +kernel
theorem dX5_write_39 : decode cX5_write 39 = .ok (.i2l, 1) := by decide +kernel
theorem dX5_write_40 : decode cX5_write 40 = .ok (.lreturn, 1) := by decide +kernel
theorem dX5_write_41 : decode cX5_write 41 = .ok (.iload_n 2, 1) := by decide +kernel
theorem dX5_write_42 : decode cX5_write 42 = .ok (.iconst 0, 1) := by decide +kernel
theorem dX5_write_43 : decode cX5_write 43 = .ok (.aload 5, 2) := by decide +kernel
theorem dX5_write_45 : decode cX5_write 45 = .ok (.getfield 170, 3) := by decide +kernel
theorem dX5_write_48 : decode cX5_write 48 = .ok (.iconst 1, 1) := by decide +kernel
theorem dX5_write_49 : decode cX5_write 49 = .ok (.isub, 1) := by decide +kernel
theorem dX5_write_50 : decode cX5_write 50 = .ok (.invokestatic 54, 3) := by decide +kernel
theorem dX5_write_53 : decode cX5_write 53 = .ok (.ifCond .ne 11, 3) := by decide +kernel
theorem dX5_write_56 : decode cX5_write 56 = .ok (.aload_n 0, 1) := by decide +kernel
theorem dX5_write_57 : decode cX5_write 57 = .ok (.ldc 58, 2) := by decide +kernel
theorem dX5_write_59 : decode cX5_write 59 = .ok (.invokevirtual 59, 3) := by decide +kernel
theorem dX5_write_62 : decode cX5_write 62 = .ok (.i2l, 1) := by decide +kernel
theorem dX5_write_63 : decode cX5_write 63 = .ok (.lreturn, 1) := by decide +kernel
theorem dX5_write_64 : decode cX5_write 64 = .ok (.aload 5, 2) := by decide +kernel
theorem dX5_write_66 : decode cX5_write 66 = .ok (.getfield 172, 3) := by decide +kernel
theorem dX5_write_69 : decode cX5_write 69 = .ok (.iload_n 2, 1) := by decide +kernel
theorem dX5_write_70 : decode cX5_write 70 = .ok (.laload, 1) := by decide +kernel
theorem dX5_write_71 : decode cX5_write 71 = .ok (.lstore 6, 2) := by decide +kernel
theorem dX5_write_73 : decode cX5_write 73 = .ok (.aload 5, 2) := by decide +kernel
theorem dX5_write_75 : decode cX5_write 75 = .ok (.getfield 172, 3) := by decide +kernel
theorem dX5_write_78 : decode cX5_write 78 = .ok (.iload_n 2, 1) := by decide +kernel
theorem dX5_write_79 : decode cX5_write 79 = .ok (.aload 5, 2) := by decide +kernel
theorem dX5_write_81 : decode cX5_write 81 = .ok (.lload_n 3, 1) := by decide +kernel
theorem dX5_write_82 : decode cX5_write 82 = .ok (.invokevirtual 200, 3) := by decide +kernel
theorem dX5_write_85 : decode cX5_write 85 = .ok (.lastore, 1) := by decide +kernel
theorem dX5_write_86 : decode cX5_write 86 = .ok (.lload 6, 2) := by decide +kernel
theorem dX5_write_88 : decode cX5_write 88 = .ok (.lreturn, 1) := by decide +kernel
theorem dX5_copy_0 : decode cX5_copy 0 = .ok (.iload_n 1, 1) := by decide +kernel
theorem dX5_copy_1 : decode cX5_copy 1 = .ok (.iconst 0, 1) := by decide +kernel
theorem dX5_copy_2 : decode cX5_copy 2 = .ok (.iconst 3, 1) := by decide +kernel
theorem dX5_copy_3 : decode cX5_copy 3 = .ok (.invokestatic 54, 3) := by decide +kernel
theorem dX5_copy_6 : decode cX5_copy 6 = .ok (.ifCond .eq 12, 3) := by decide +kernel
theorem dX5_copy_9 : decode cX5_copy 9 = .ok (.iload_n 3, 1) := by decide +kernel
theorem dX5_copy_10 : decode cX5_copy 10 = .ok (.iconst 0, 1) := by decide +kernel
theorem dX5_copy_11 : decode cX5_copy 11 = .ok (.iconst 3, 1) := by decide +kernel
theorem dX5_copy_12 : decode cX5_copy 12 = .ok (.invokestatic 54, 3) := by decide +kernel
theorem dX5_copy_15 : decode cX5_copy 15 = .ok (.ifCond .ne 10, 3) := by decide +kernel
theorem dX5_copy_18 : decode cX5_copy 18 = .ok (.aload_n 0, 1) := by decide +kernel
theorem dX5_copy_19 : decode cX5_copy 19 = .ok (.ldc 58, 2) := by decide +kernel
theorem dX5_copy_21 : decode cX5_copy 21 = .ok (.invokevirtual 59, 3) := by decide +kernel
theorem dX5_copy_24 : decode cX5_copy 24 = .ok (.ireturn, 1) := by decide +kernel
theorem dX5_copy_25 : decode cX5_copy 25 = .ok (.aload_n 0, 1) := by decide +kernel
theorem dX5_copy_26 : decode cX5_copy 26 = .ok (.getfield 45, 3) := by decide +kernel
theorem dX5_copy_29 : decode cX5_copy 29 = .ok (.iload_n 1, 1) := by decide +kernel
theorem dX5_copy_30 : decode cX5_copy 30 = .ok (.aaload, 1) := by decide +kernel
theorem dX5_copy_31 : decode cX5_copy 31 = .ok (.astore 6, 2) := by decide +kernel
theorem dX5_copy_33 : decode cX5_copy 33 = .ok (.aload_n 0, 1) := by decide +kernel
theorem dX5_copy_34 : decode cX5_copy 34 = .ok (.getfield 45, 3) := by decide +kernel
theorem dX5_copy_37 : decode cX5_copy 37 = .ok (.iload_n 3, 1) := by decide +kernel
theorem dX5_copy_38 : decode cX5_copy 38 = .ok (.aaload, 1) := by decide +kernel
theorem dX5_copy_39 : decode cX5_copy 39 = .ok (.astore 7, 2) := by decide +kernel
theorem dX5_copy_41 : decode cX5_copy 41 = .ok (.aload 6, 2) := by decide +kernel
theorem dX5_copy_43 : decode cX5_copy 43 = .ok (.invokevirtual 165, 3) := by decide +kernel
theorem dX5_copy_46 : decode cX5_copy 46 = .ok (.ifCond .ne 11, 3) := by decide +kernel
theorem dX5_copy_49 : decode cX5_copy 49 = .ok (.aload 7, 2) := by decide +kernel
theorem dX5_copy_51 : decode cX5_copy 51 = .ok (.invokevirtual 165, 3) := by decide +kernel
theorem dX5_copy_54 : decode cX5_copy 54 = .ok (.ifCond .eq 10, 3) := by decide +kernel
theorem dX5_copy_57 : decode cX5_copy 57 = .ok (.aload_n 0, 1) := by decide +kernel
theorem dX5_copy_58 : decode cX5_copy 58 = .ok (.ldc 169, 2) := by decide +kernel
theorem dX5_copy_60 : decode cX5_copy 60 = .ok (.invokevirtual 59, 3) := by decide +kernel
theorem dX5_copy_63 : decode cX5_copy 63 = .ok (.ireturn, 1) := by decide +kernel
theorem dX5_copy_64 : decode cX5_copy 64 = .ok (.aload 6, 2) := by decide +kernel
theorem dX5_copy_66 : decode cX5_copy 66 = .ok (.getfield 204, 3) := by decide +kernel
theorem dX5_copy_69 : decode cX5_copy 69 = .ok (.aload 7, 2) := by decide +kernel
theorem dX5_copy_71 : decode cX5_copy 71 = .ok (.getfield 204, 3) := by decide +kernel
theorem dX5_copy_74 : decode cX5_copy 74 = .ok (.if_icmp .eq 10, 3) := by decide +kernel
theorem dX5_copy_77 : decode cX5_copy 77 = .ok (.aload_n 0, 1) := by decide +kernel
theorem dX5_copy_78 : decode cX5_copy 78 = .ok (.ldc 117, 2) := by decide +kernel
theorem dX5_copy_80 : decode cX5_copy 80 = .ok (.invokevirtual 59, 3) := by decide +kernel
theorem dX5_copy_83 : decode cX5_copy 83 = .ok (.ireturn, 1) := by decide +kernel
theorem dX5_copy_84 : decode cX5_copy 84 = .ok (.aload 6, 2) := by decide +kernel
theorem dX5_copy_86 : decode cX5_copy 86 = .ok (.iload_n 2, 1) := by decide +kernel
theorem dX5_copy_87 : decode cX5_copy 87 = .ok (.iload 5, 2) := by decide +kernel
theorem dX5_copy_89 : decode cX5_copy 89 = .ok (.invokevirtual 207, 3) := by decide +kernel
theorem dX5_copy_92 : decode cX5_copy 92 = .ok (.ifCond .eq 15, 3) := by decide +kernel
theorem dX5_copy_95 : decode cX5_copy 95 = .ok (.aload 7, 2) := by decide +kernel
theorem dX5_copy_97 : decode cX5_copy 97 = .ok (.iload 4, 2) := by decide +kernel
theorem dX5_copy_99 : decode cX5_copy 99 = .ok (.iload 5, 2) := by decide +kernel
theorem dX5_copy_101 : decode cX5_copy 101 = .ok (.invokevirtual 207, 3) := by decide +kernel
theorem dX5_copy_104 : decode cX5_copy 104 = .ok (.ifCond .ne 10, 3) := by decide +kernel
theorem dX5_copy_107 : decode cX5_copy 107 = .ok (.aload_n 0, 1) := by decide +kernel
theorem dX5_copy_108 : decode cX5_copy 108 = .ok (.ldc 58, 2) := by decide +kernel
theorem dX5_copy_110 : decode cX5_copy 110 = .ok (.invokevirtual 59, 3) := by decide +kernel
theorem dX5_copy_113 : decode cX5_copy 113 = .ok (.ireturn, 1) := by decide +kernel
theorem dX5_copy_114 : decode cX5_copy 114 = .ok (.aload 6, 2) := by decide +kernel
theorem dX5_copy_116 : decode cX5_copy 116 = .ok (.getfield 172, 3) := by decide +kernel
theorem dX5_copy_119 : decode cX5_copy 119 = .ok (.iload_n 2, 1) := by decide +kernel
theorem dX5_copy_120 : decode cX5_copy 120 = .ok (.aload 7, 2) := by decide +kernel
theorem dX5_copy_122 : decode cX5_copy 122 = .ok (.getfield 172, 3) := by decide +kernel
theorem dX5_copy_125 : decode cX5_copy 125 = .ok (.iload 4, 2) := by decide +kernel
theorem dX5_copy_127 : decode cX5_copy 127 = .ok (.iload 5, 2) := by decide +kernel
theorem dX5_copy_129 : decode cX5_copy 129 = .ok (.invokestatic 210, 3) := by decide +kernel
theorem dX5_copy_132 : decode cX5_copy 132 = .ok (.iload 5, 2) := by decide +kernel
theorem dX5_copy_134 : decode cX5_copy 134 = .ok (.ireturn, 1) := by decide +kernel
theorem dX5_draws_0 : decode cX5_draws 0 = .ok (.iload_n 1, 1) := by decide +kernel
theorem dX5_draws_1 : decode cX5_draws 1 = .ok (.iconst 0, 1) := by decide +kernel
theorem dX5_draws_2 : decode cX5_draws 2 = .ok (.iconst 3, 1) := by decide +kernel
theorem dX5_draws_3 : decode cX5_draws 3 = .ok (.invokestatic 54, 3) := by decide +kernel
theorem dX5_draws_6 : decode cX5_draws 6 = .ok (.ifCond .ne 10, 3) := by decide +kernel
theorem dX5_draws_9 : decode cX5_draws 9 = .ok (.aload_n 0, 1) := by decide +kernel
theorem dX5_draws_10 : decode cX5_draws 10 = .ok (.ldc 58, 2) := by decide +kernel
theorem dX5_draws_12 : decode cX5_draws 12 = .ok (.invokevirtual 59, 3) := by decide +kernel
theorem dX5_draws_15 : decode cX5_draws 15 = .ok (.ireturn, 1) := by decide +kernel
theorem dX5_draws_16 : decode cX5_draws 16 = .ok (.aload_n 0, 1) := by decide +kernel
theorem dX5_draws_17 : decode cX5_draws 17 = .ok (.getfield 45, 3) := by decide +kernel
theorem dX5_draws_20 : decode cX5_draws 20 = .ok (.iload_n 1, 1) := by decide +kernel
theorem dX5_draws_21 : decode cX5_draws 21 = .ok (.aaload, 1) := by decide +kernel
theorem dX5_draws_22 : decode cX5_draws 22 = .ok (.astore_n 2, 1) := by decide +kernel
theorem dX5_draws_23 : decode cX5_draws 23 = .ok (.aload_n 2, 1) := by decide +kernel
theorem dX5_draws_24 : decode cX5_draws 24 = .ok (.invokevirtual 165, 3) := by decide +kernel
theorem dX5_draws_27 : decode cX5_draws 27 = .ok (.ifCond .eq 10, 3) := by decide +kernel
theorem dX5_draws_30 : decode cX5_draws 30 = .ok (.aload_n 0, 1) := by decide +kernel
theorem dX5_draws_31 : decode cX5_draws 31 = .ok (.ldc 169, 2) := by decide +kernel
theorem dX5_draws_33 : decode cX5_draws 33 = .ok (.invokevirtual 59, 3) := by decide +kernel
theorem dX5_draws_36 : decode cX5_draws 36 = .ok (.ireturn, 1) := by decide +kernel
theorem dX5_draws_37 : decode cX5_draws 37 = .ok (.aload_n 0, 1) := by decide +kernel
theorem dX5_draws_38 : decode cX5_draws 38 = .ok (.getfield 12, 3) := by decide +kernel
theorem dX5_draws_41 : decode cX5_draws 41 = .ok (.getfield 126, 3) := by decide +kernel
theorem dX5_draws_44 : decode cX5_draws 44 = .ok (.istore_n 3, 1) := by decide +kernel
theorem dX5_draws_45 : decode cX5_draws 45 = .ok (.iconst 0, 1) := by decide +kernel
theorem dX5_draws_46 : decode cX5_draws 46 = .ok (.istore 4, 2) := by decide +kernel
theorem dX5_draws_48 : decode cX5_draws 48 = .ok (.iconst 0, 1) := by decide +kernel
theorem dX5_draws_49 : decode cX5_draws 49 = .ok (.istore 5, 2) := by decide +kernel
theorem dX5_draws_51 : decode cX5_draws 51 = .ok (.iload 5, 2) := by decide +kernel
theorem dX5_draws_53 : decode cX5_draws 53 = .ok (.aload_n 2, 1) := by decide +kernel
theorem dX5_draws_54 : decode cX5_draws 54 = .ok (.getfield 170, 3) := by decide +kernel
theorem dX5_draws_57 : decode cX5_draws 57 = .ok (.if_icmp .ge 67, 3) := by decide +kernel
theorem dX5_draws_60 : decode cX5_draws 60 = .ok (.aload_n 2, 1) := by decide +kernel
theorem dX5_draws_61 : decode cX5_draws 61 = .ok (.getfield 172, 3) := by decide +kernel
theorem dX5_draws_64 : decode cX5_draws 64 = .ok (.iload 5, 2) := by decide +kernel
theorem dX5_draws_66 : decode cX5_draws 66 = .ok (.laload, 1) := by decide +kernel
theorem dX5_draws_67 : decode cX5_draws 67 = .ok (.lstore 6, 2) := by decide +kernel
theorem dX5_draws_69 : decode cX5_draws 69 = .ok (.lload 6, 2) := by decide +kernel
theorem dX5_draws_71 : decode cX5_draws 71 = .ok (.ldc2_w 216, 3) := by decide +kernel
theorem dX5_draws_74 : decode cX5_draws 74 = .ok (.lcmp, 1) := by decide +kernel
theorem dX5_draws_75 : decode cX5_draws 75 = .ok (.ifCond .lt 43, 3) := by decide +kernel
theorem dX5_draws_78 : decode cX5_draws 78 = .ok (.lload 6, 2) := by decide +kernel
theorem dX5_draws_80 : decode cX5_draws 80 = .ok (.ldc2_w 218, 3) := by decide +kernel
theorem dX5_draws_83 : decode cX5_draws 83 = .ok (.lcmp, 1) := by decide +kernel
theorem dX5_draws_84 : decode cX5_draws 84 = .ok (.ifCond .gt 34, 3) := by decide +kernel
theorem dX5_draws_87 : decode cX5_draws 87 = .ok (.aload_n 0, 1) := by decide +kernel
theorem dX5_draws_88 : decode cX5_draws 88 = .ok (.getfield 12, 3) := by decide +kernel
theorem dX5_draws_91 : decode cX5_draws 91 = .ok (.lload 6, 2) := by decide +kernel
theorem dX5_draws_93 : decode cX5_draws 93 = .ok (.l2i, 1) := by decide +kernel
theorem dX5_draws_94 : decode cX5_draws 94 = .ok (.putfield 126, 3) := by decide +kernel
theorem dX5_draws_97 : decode cX5_draws 97 = .ok (.aload_n 0, 1) := by decide +kernel
theorem dX5_draws_98 : decode cX5_draws 98 = .ok (.getfield 12, 3) := by decide +kernel
theorem dX5_draws_101 : decode cX5_draws 101 = .ok (.invokevirtual 129, 3) := by decide +kernel
theorem dX5_draws_104 : decode cX5_draws 104 = .ok (.aload_n 0, 1) := by decide +kernel
theorem dX5_draws_105 : decode cX5_draws 105 = .ok (.getfield 25, 3) := by decide +kernel
theorem dX5_draws_108 : decode cX5_draws 108 = .ok (.aload_n 0, 1) := by decide +kernel
theorem dX5_draws_109 : decode cX5_draws 109 = .ok (.getfield 12, 3) := by decide +kernel
theorem dX5_draws_112 : decode cX5_draws 112 = .ok (.invokevirtual 132, 3) := by decide +kernel
theorem dX5_draws_115 : decode cX5_draws 115 = .ok (.iinc 4 1, 3) := by decide +kernel
theorem dX5_draws_118 : decode cX5_draws 118 = .ok (.iinc 5 1, 3) := by decide +kernel
theorem dX5_draws_121 : decode cX5_draws 121 = .ok (.goto (-70), 3) := by decide +kernel
theorem dX5_draws_124 : decode cX5_draws 124 = .ok (.aload_n 0, 1) := by decide +kernel
theorem dX5_draws_125 : decode cX5_draws 125 = .ok (.getfield 12, 3) := by decide +kernel
theorem dX5_draws_128 : decode cX5_draws 128 = .ok (.iload_n 3, 1) := by decide +kernel
theorem dX5_draws_129 : decode cX5_draws 129 = .ok (.putfield 126, 3) := by decide +kernel
theorem dX5_draws_132 : decode cX5_draws 132 = .ok (.iload 4, 2) := by decide +kernel
theorem dX5_draws_134 : decode cX5_draws 134 = .ok (.ireturn, 1) := by decide +kernel
theorem dX5_read_0 : decode cX5_read 0 = .ok (.iload_n 1, 1) := by decide +kernel
theorem dX5_read_1 : decode cX5_read 1 = .ok (.iconst 0, 1) := by decide +kernel
theorem dX5_read_2 : decode cX5_read 2 = .ok (.iconst 3, 1) := by decide +kernel
theorem dX5_read_3 : decode cX5_read 3 = .ok (.invokestatic 54, 3) := by decide +kernel
theorem dX5_read_6 : decode cX5_read 6 = .ok (.ifCond .ne 10, 3) := by decide +kernel
theorem dX5_read_9 : decode cX5_read 9 = .ok (.aload_n 0, 1) := by decide +kernel
theorem dX5_read_10 : decode cX5_read 10 = .ok (.ldc 58, 2) := by decide +kernel
theorem dX5_read_12 : decode cX5_read 12 = .ok (.invokevirtual 59, 3) := by decide +kernel
theorem dX5_read_15 : decode cX5_read 15 = .ok (.ireturn, 1) := by decide +kernel
theorem dX5_read_16 : decode cX5_read 16 = .ok (.aload_n 0, 1) := by decide +kernel
theorem dX5_read_17 : decode cX5_read 17 = .ok (.getfield 45, 3) := by decide +kernel
theorem dX5_read_20 : decode cX5_read 20 = .ok (.iload_n 1, 1) := by decide +kernel
theorem dX5_read_21 : decode cX5_read 21 = .ok (.aaload, 1) := by decide +kernel
theorem dX5_read_22 : decode cX5_read 22 = .ok (.astore_n 2, 1) := by decide +kernel
theorem dX5_read_23 : decode cX5_read 23 = .ok (.aload_n 2, 1) := by decide +kernel
theorem dX5_read_24 : decode cX5_read 24 = .ok (.invokevirtual 165, 3) := by decide +kernel
theorem dX5_read_27 : decode cX5_read 27 = .ok (.ifCond .eq 10, 3) := by decide +kernel
theorem dX5_read_30 : decode cX5_read 30 = .ok (.aload_n 0, 1) := by decide +kernel
theorem dX5_read_31 : decode cX5_read 31 = .ok (.ldc 169, 2) := by decide +kernel
theorem dX5_read_33 : decode cX5_read 33 = .ok (.invokevirtual 59, 3) := by decide +kernel
theorem dX5_read_36 : decode cX5_read 36 = .ok (.ireturn, 1) := by decide +kernel
theorem dX5_read_37 : decode cX5_read 37 = .ok (.iconst 0, 1) := by decide +kernel
theorem dX5_read_38 : decode cX5_read 38 = .ok (.istore_n 3, 1) := by decide +kernel
theorem dX5_read_39 : decode cX5_read 39 = .ok (.iload_n 3, 1) := by decide +kernel
theorem dX5_read_40 : decode cX5_read 40 = .ok (.aload_n 2, 1) := by decide +kernel
theorem dX5_read_41 : decode cX5_read 41 = .ok (.getfield 170, 3) := by decide +kernel
theorem dX5_read_44 : decode cX5_read 44 = .ok (.if_icmp .ge 47, 3) := by decide +kernel
theorem dX5_read_47 : decode cX5_read 47 = .ok (.aload_n 0, 1) := by decide +kernel
theorem dX5_read_48 : decode cX5_read 48 = .ok (.getfield 12, 3) := by decide +kernel
theorem dX5_read_51 : decode cX5_read 51 = .ok (.iload_n 3, 1) := by decide +kernel
theorem dX5_read_52 : decode cX5_read 52 = .ok (.invokevirtual 78, 3) := by decide +kernel
theorem dX5_read_55 : decode cX5_read 55 = .ok (.ifCond .eq 26, 3) := by decide +kernel
theorem dX5_read_58 : decode cX5_read 58 = .ok (.aload_n 0, 1) := by decide +kernel
theorem dX5_read_59 : decode cX5_read 59 = .ok (.getfield 12, 3) := by decide +kernel
theorem dX5_read_62 : decode cX5_read 62 = .ok (.getfield 68, 3) := by decide +kernel
theorem dX5_read_65 : decode cX5_read 65 = .ok (.iload_n 3, 1) := by decide +kernel
theorem dX5_read_66 : decode cX5_read 66 = .ok (.aaload, 1) := by decide +kernel
theorem dX5_read_67 : decode cX5_read 67 = .ok (.getfield 97, 3) := by decide +kernel
theorem dX5_read_70 : decode cX5_read 70 = .ok (.i2l, 1) := by decide +kernel
theorem dX5_read_71 : decode cX5_read 71 = .ok (.aload_n 2, 1) := by decide +kernel
theorem dX5_read_72 : decode cX5_read 72 = .ok (.getfield 172, 3) := by decide +kernel
theorem dX5_read_75 : decode cX5_read 75 = .ok (.iload_n 3, 1) := by decide +kernel
theorem dX5_read_76 : decode cX5_read 76 = .ok (.laload, 1) := by decide +kernel
theorem dX5_read_77 : decode cX5_read 77 = .ok (.lcmp, 1) := by decide +kernel
theorem dX5_read_78 : decode cX5_read 78 = .ok (.ifCond .eq 7, 3) := by decide +kernel
theorem dX5_read_81 : decode cX5_read 81 = .ok (.iconst 1, 1) := by decide +kernel
theorem dX5_read_82 : decode cX5_read 82 = .ok (.iload_n 3, 1) := by decide +kernel
theorem dX5_read_83 : decode cX5_read 83 = .ok (.iadd, 1) := by decide +kernel
theorem dX5_read_84 : decode cX5_read 84 = .ok (.ireturn, 1) := by decide +kernel
theorem dX5_read_85 : decode cX5_read 85 = .ok (.iinc 3 1, 3) := by decide +kernel
theorem dX5_read_88 : decode cX5_read 88 = .ok (.goto (-49), 3) := by decide +kernel
theorem dX5_read_91 : decode cX5_read 91 = .ok (.iconst 0, 1) := by decide +kernel
theorem dX5_read_92 : decode cX5_read 92 = .ok (.ireturn, 1) := by decide +kernel
theorem dX5_image_0 : decode cX5_image 0 = .ok (.aload_n 0, 1) := by decide +kernel
theorem dX5_image_1 : decode cX5_image 1 = .ok (.getfield 16, 3) := by decide +kernel
theorem dX5_image_4 : decode cX5_image 4 = .ok (.aload_n 0, 1) := by decide +kernel
theorem dX5_image_5 : decode cX5_image 5 = .ok (.getfield 12, 3) := by decide +kernel
theorem dX5_image_8 : decode cX5_image 8 = .ok (.invokevirtual 156, 3) := by decide +kernel
theorem dX5_image_11 : decode cX5_image 11 = .ok (.aload_n 0, 1) := by decide +kernel
theorem dX5_image_12 : decode cX5_image 12 = .ok (.getfield 29, 3) := by decide +kernel
theorem dX5_image_15 : decode cX5_image 15 = .ok (.aload_n 0, 1) := by decide +kernel
theorem dX5_image_16 : decode cX5_image 16 = .ok (.getfield 25, 3) := by decide +kernel
theorem dX5_image_19 : decode cX5_image 19 = .ok (.invokevirtual 220, 3) := by decide +kernel
theorem dX5_image_22 : decode cX5_image 22 = .ok (.aload_n 0, 1) := by decide +kernel
theorem dX5_image_23 : decode cX5_image 23 = .ok (.iconst 1, 1) := by decide +kernel
theorem dX5_image_24 : decode cX5_image 24 = .ok (.putfield 32, 3) := by decide +kernel
theorem dX5_image_27 : decode cX5_image 27 = .ok (.iconst 1, 1) := by decide +kernel
theorem dX5_image_28 : decode cX5_image 28 = .ok (.ireturn, 1) := by decide +kernel
theorem dX5_undo_0 : decode cX5_undo 0 = .ok (.aload_n 0, 1) := by decide +kernel
theorem dX5_undo_1 : decode cX5_undo 1 = .ok (.getfield 32, 3) := by decide +kernel
theorem dX5_undo_4 : decode cX5_undo 4 = .ok (.ifCond .ne 10, 3) := by decide +kernel
theorem dX5_undo_7 : decode cX5_undo 7 = .ok (.aload_n 0, 1) := by decide +kernel
theorem dX5_undo_8 : decode cX5_undo 8 = .ok (.ldc 155, 2) := by decide +kernel
theorem dX5_undo_10 : decode cX5_undo 10 = .ok (.invokevirtual 59, 3) := by decide +kernel
theorem dX5_undo_13 : decode cX5_undo 13 = .ok (.ireturn, 1) := by decide +kernel
theorem dX5_undo_14 : decode cX5_undo 14 = .ok (.aload_n 0, 1) := by decide +kernel
theorem dX5_undo_15 : decode cX5_undo 15 = .ok (.getfield 12, 3) := by decide +kernel
theorem dX5_undo_18 : decode cX5_undo 18 = .ok (.aload_n 0, 1) := by decide +kernel
theorem dX5_undo_19 : decode cX5_undo 19 = .ok (.getfield 16, 3) := by decide +kernel
theorem dX5_undo_22 : decode cX5_undo 22 = .ok (.invokevirtual 156, 3) := by decide +kernel
theorem dX5_undo_25 : decode cX5_undo 25 = .ok (.aload_n 0, 1) := by decide +kernel
theorem dX5_undo_26 : decode cX5_undo 26 = .ok (.getfield 25, 3) := by decide +kernel
theorem dX5_undo_29 : decode cX5_undo 29 = .ok (.aload_n 0, 1) := by decide +kernel
theorem dX5_undo_30 : decode cX5_undo 30 = .ok (.getfield 29, 3) := by decide +kernel
theorem dX5_undo_33 : decode cX5_undo 33 = .ok (.invokevirtual 220, 3) := by decide +kernel
theorem dX5_undo_36 : decode cX5_undo 36 = .ok (.aload_n 0, 1) := by decide +kernel
theorem dX5_undo_37 : decode cX5_undo 37 = .ok (.getfield 12, 3) := by decide +kernel
theorem dX5_undo_40 : decode cX5_undo 40 = .ok (.getfield 63, 3) := by decide +kernel
theorem dX5_undo_43 : decode cX5_undo 43 = .ok (.ireturn, 1) := by decide +kernel
theorem dX5_tear_0 : decode cX5_tear 0 = .ok (.aload_n 0, 1) := by decide +kernel
theorem dX5_tear_1 : decode cX5_tear 1 = .ok (.getfield 32, 3) := by decide +kernel
theorem dX5_tear_4 : decode cX5_tear 4 = .ok (.ifCond .eq 7, 3) := by decide +kernel
theorem dX5_tear_7 : decode cX5_tear 7 = .ok (.iconst 1, 1) := by decide +kernel
theorem dX5_tear_8 : decode cX5_tear 8 = .ok (.goto 4, 3) := by decide +kernel
theorem dX5_tear_11 : decode cX5_tear 11 = .ok (.iconst 0, 1) := by decide +kernel
theorem dX5_tear_12 : decode cX5_tear 12 = .ok (.istore_n 1, 1) := by decide +kernel
theorem dX5_tear_13 : decode cX5_tear 13 = .ok (.aload_n 0, 1) := by decide +kernel
theorem dX5_tear_14 : decode cX5_tear 14 = .ok (.iconst 0, 1) := by decide +kernel
theorem dX5_tear_15 : decode cX5_tear 15 = .ok (.putfield 32, 3) := by decide +kernel
theorem dX5_tear_18 : decode cX5_tear 18 = .ok (.iload_n 1, 1) := by decide +kernel
theorem dX5_tear_19 : decode cX5_tear 19 = .ok (.ireturn, 1) := by decide +kernel
theorem dX5_count_0 : decode cX5_count 0 = .ok (.iload_n 1, 1) := by decide +kernel
theorem dX5_count_1 : decode cX5_count 1 = .ok (.tableswitch 122 0 7 #[47, 55, 63, 71, 90, 98, 106, 114], 47) := by decide +kernel
theorem dX5_count_48 : decode cX5_count 48 = .ok (.aload_n 0, 1) := by decide +kernel
theorem dX5_count_49 : decode cX5_count 49 = .ok (.getfield 12, 3) := by decide +kernel
theorem dX5_count_52 : decode cX5_count 52 = .ok (.getfield 63, 3) := by decide +kernel
theorem dX5_count_55 : decode cX5_count 55 = .ok (.ireturn, 1) := by decide +kernel
theorem dX5_count_56 : decode cX5_count 56 = .ok (.aload_n 0, 1) := by decide +kernel
theorem dX5_count_57 : decode cX5_count 57 = .ok (.getfield 25, 3) := by decide +kernel
theorem dX5_count_60 : decode cX5_count 60 = .ok (.getfield 223, 3) := by decide +kernel
theorem dX5_count_63 : decode cX5_count 63 = .ok (.ireturn, 1) := by decide +kernel
theorem dX5_count_64 : decode cX5_count 64 = .ok (.aload_n 0, 1) := by decide +kernel
theorem dX5_count_65 : decode cX5_count 65 = .ok (.getfield 25, 3) := by decide +kernel
theorem dX5_count_68 : decode cX5_count 68 = .ok (.getfield 226, 3) := by decide +kernel
theorem dX5_count_71 : decode cX5_count 71 = .ok (.ireturn, 1) := by decide +kernel
theorem dX5_count_72 : decode cX5_count 72 = .ok (.aload_n 0, 1) := by decide +kernel
theorem dX5_count_73 : decode cX5_count 73 = .ok (.getfield 12, 3) := by decide +kernel
theorem dX5_count_76 : decode cX5_count 76 = .ok (.getfield 187, 3) := by decide +kernel
theorem dX5_count_79 : decode cX5_count 79 = .ok (.getfield 179, 3) := by decide +kernel
theorem dX5_count_82 : decode cX5_count 82 = .ok (.ifCond .le 7, 3) := by decide +kernel
theorem dX5_count_85 : decode cX5_count 85 = .ok (.iconst 1, 1) := by decide +kernel
theorem dX5_count_86 : decode cX5_count 86 = .ok (.goto 4, 3) := by decide +kernel
theorem dX5_count_89 : decode cX5_count 89 = .ok (.iconst 0, 1) := by decide +kernel
theorem dX5_count_90 : decode cX5_count 90 = .ok (.ireturn, 1) := by decide +kernel
theorem dX5_count_91 : decode cX5_count 91 = .ok (.aload_n 0, 1) := by decide +kernel
theorem dX5_count_92 : decode cX5_count 92 = .ok (.getfield 39, 3) := by decide +kernel
theorem dX5_count_95 : decode cX5_count 95 = .ok (.getfield 179, 3) := by decide +kernel
theorem dX5_count_98 : decode cX5_count 98 = .ok (.ireturn, 1) := by decide +kernel
theorem dX5_count_99 : decode cX5_count 99 = .ok (.aload_n 0, 1) := by decide +kernel
theorem dX5_count_100 : decode cX5_count 100 = .ok (.getfield 12, 3) := by decide +kernel
theorem dX5_count_103 : decode cX5_count 103 = .ok (.getfield 126, 3) := by decide +kernel
theorem dX5_count_106 : decode cX5_count 106 = .ok (.ireturn, 1) := by decide +kernel
theorem dX5_count_107 : decode cX5_count 107 = .ok (.aload_n 0, 1) := by decide +kernel
theorem dX5_count_108 : decode cX5_count 108 = .ok (.getfield 12, 3) := by decide +kernel
theorem dX5_count_111 : decode cX5_count 111 = .ok (.getfield 229, 3) := by decide +kernel
theorem dX5_count_114 : decode cX5_count 114 = .ok (.ireturn, 1) := by decide +kernel
theorem dX5_count_115 : decode cX5_count 115 = .ok (.aload_n 0, 1) := by decide +kernel
theorem dX5_count_116 : decode cX5_count 116 = .ok (.getfield 25, 3) := by decide +kernel
theorem dX5_count_119 : decode cX5_count 119 = .ok (.getfield 139, 3) := by decide +kernel
theorem dX5_count_122 : decode cX5_count 122 = .ok (.ireturn, 1) := by decide +kernel
theorem dX5_count_123 : decode cX5_count 123 = .ok (.aload_n 0, 1) := by decide +kernel
theorem dX5_count_124 : decode cX5_count 124 = .ok (.ldc 58, 2) := by decide +kernel
theorem dX5_count_126 : decode cX5_count 126 = .ok (.invokevirtual 59, 3) := by decide +kernel
theorem dX5_count_129 : decode cX5_count 129 = .ok (.ireturn, 1) := by decide +kernel
theorem dX5_status_0 : decode cX5_status 0 = .ok (.iload_n 1, 1) := by decide +kernel
theorem dX5_status_1 : decode cX5_status 1 = .ok (.iconst (-1), 1) := by decide +kernel
theorem dX5_status_2 : decode cX5_status 2 = .ok (.bipush 6, 2) := by decide +kernel
theorem dX5_status_4 : decode cX5_status 4 = .ok (.invokestatic 54, 3) := by decide +kernel
theorem dX5_status_7 : decode cX5_status 7 = .ok (.ifCond .ne 10, 3) := by decide +kernel
theorem dX5_status_10 : decode cX5_status 10 = .ok (.aload_n 0, 1) := by decide +kernel
theorem dX5_status_11 : decode cX5_status 11 = .ok (.ldc 58, 2) := by decide +kernel
theorem dX5_status_13 : decode cX5_status 13 = .ok (.invokevirtual 59, 3) := by decide +kernel
theorem dX5_status_16 : decode cX5_status 16 = .ok (.ireturn, 1) := by decide +kernel
theorem dX5_status_17 : decode cX5_status 17 = .ok (.iload_n 1, 1) := by decide +kernel
theorem dX5_status_18 : decode cX5_status 18 = .ok (.ifCond .lt 10, 3) := by decide +kernel
theorem dX5_status_21 : decode cX5_status 21 = .ok (.aload_n 0, 1) := by decide +kernel
theorem dX5_status_22 : decode cX5_status 22 = .ok (.getfield 49, 3) := by decide +kernel
theorem dX5_status_25 : decode cX5_status 25 = .ok (.iload_n 1, 1) := by decide +kernel
theorem dX5_status_26 : decode cX5_status 26 = .ok (.iaload, 1) := by decide +kernel
theorem dX5_status_27 : decode cX5_status 27 = .ok (.ireturn, 1) := by decide +kernel
theorem dX5_status_28 : decode cX5_status 28 = .ok (.iconst 0, 1) := by decide +kernel
theorem dX5_status_29 : decode cX5_status 29 = .ok (.istore_n 2, 1) := by decide +kernel
theorem dX5_status_30 : decode cX5_status 30 = .ok (.iconst 0, 1) := by decide +kernel
theorem dX5_status_31 : decode cX5_status 31 = .ok (.istore_n 3, 1) := by decide +kernel
theorem dX5_status_32 : decode cX5_status 32 = .ok (.iload_n 3, 1) := by decide +kernel
theorem dX5_status_33 : decode cX5_status 33 = .ok (.bipush 7, 2) := by decide +kernel
theorem dX5_status_35 : decode cX5_status 35 = .ok (.if_icmp .ge 18, 3) := by decide +kernel
theorem dX5_status_38 : decode cX5_status 38 = .ok (.iload_n 2, 1) := by decide +kernel
theorem dX5_status_39 : decode cX5_status 39 = .ok (.aload_n 0, 1) := by decide +kernel
theorem dX5_status_40 : decode cX5_status 40 = .ok (.getfield 49, 3) := by decide +kernel
theorem dX5_status_43 : decode cX5_status 43 = .ok (.iload_n 3, 1) := by decide +kernel
theorem dX5_status_44 : decode cX5_status 44 = .ok (.iaload, 1) := by decide +kernel
theorem dX5_status_45 : decode cX5_status 45 = .ok (.iadd, 1) := by decide +kernel
theorem dX5_status_46 : decode cX5_status 46 = .ok (.istore_n 2, 1) := by decide +kernel
theorem dX5_status_47 : decode cX5_status 47 = .ok (.iinc 3 1, 3) := by decide +kernel
theorem dX5_status_50 : decode cX5_status 50 = .ok (.goto (-18), 3) := by decide +kernel
theorem dX5_status_53 : decode cX5_status 53 = .ok (.iload_n 2, 1) := by decide +kernel
theorem dX5_status_54 : decode cX5_status 54 = .ok (.ireturn, 1) := by decide +kernel
theorem dX5_finding_0 : decode cX5_finding 0 = .ok (.ldc 58, 2) := by decide +kernel
theorem dX5_finding_2 : decode cX5_finding 2 = .ok (.iload_n 1, 1) := by decide +kernel
theorem dX5_finding_3 : decode cX5_finding 3 = .ok (.isub, 1) := by decide +kernel
theorem dX5_finding_4 : decode cX5_finding 4 = .ok (.istore_n 2, 1) := by decide +kernel
theorem dX5_finding_5 : decode cX5_finding 5 = .ok (.iload_n 2, 1) := by decide +kernel
theorem dX5_finding_6 : decode cX5_finding 6 = .ok (.iconst 0, 1) := by decide +kernel
theorem dX5_finding_7 : decode cX5_finding 7 = .ok (.bipush 6, 2) := by decide +kernel
theorem dX5_finding_9 : decode cX5_finding 9 = .ok (.invokestatic 54, 3) := by decide +kernel
theorem dX5_finding_12 : decode cX5_finding 12 = .ok (.ifCond .eq 13, 3) := by decide +kernel
theorem dX5_finding_15 : decode cX5_finding 15 = .ok (.aload_n 0, 1) := by decide +kernel
theorem dX5_finding_16 : decode cX5_finding 16 = .ok (.getfield 49, 3) := by decide +kernel
theorem dX5_finding_19 : decode cX5_finding 19 = .ok (.iload_n 2, 1) := by decide +kernel
theorem dX5_finding_20 : decode cX5_finding 20 = .ok (.dup2, 1) := by decide +kernel
theorem dX5_finding_21 : decode cX5_finding 21 = .ok (.iaload, 1) := by decide +kernel
theorem dX5_finding_22 : decode cX5_finding 22 = .ok (.iconst 1, 1) := by decide +kernel
theorem dX5_finding_23 : decode cX5_finding 23 = .ok (.iadd, 1) := by decide +kernel
theorem dX5_finding_24 : decode cX5_finding 24 = .ok (.iastore, 1) := by decide +kernel
theorem dX5_finding_25 : decode cX5_finding 25 = .ok (.iload_n 1, 1) := by decide +kernel
theorem dX5_finding_26 : decode cX5_finding 26 = .ok (.ireturn, 1) := by decide +kernel
theorem dX5_within_0 : decode cX5_within 0 = .ok (.iload_n 0, 1) := by decide +kernel
theorem dX5_within_1 : decode cX5_within 1 = .ok (.iload_n 1, 1) := by decide +kernel
theorem dX5_within_2 : decode cX5_within 2 = .ok (.if_icmp .lt 12, 3) := by decide +kernel
theorem dX5_within_5 : decode cX5_within 5 = .ok (.iload_n 0, 1) := by decide +kernel
theorem dX5_within_6 : decode cX5_within 6 = .ok (.iload_n 2, 1) := by decide +kernel
theorem dX5_within_7 : decode cX5_within 7 = .ok (.if_icmp .gt 7, 3) := by decide +kernel
theorem dX5_within_10 : decode cX5_within 10 = .ok (.iconst 1, 1) := by decide +kernel
theorem dX5_within_11 : decode cX5_within 11 = .ok (.goto 4, 3) := by decide +kernel
theorem dX5_within_14 : decode cX5_within 14 = .ok (.iconst 0, 1) := by decide +kernel
theorem dX5_within_15 : decode cX5_within 15 = .ok (.ireturn, 1) := by decide +kernel
theorem dX5_canBecome_0 : decode cX5_canBecome 0 = .ok (.iload_n 0, 1) := by decide +kernel
theorem dX5_canBecome_1 : decode cX5_canBecome 1 = .ok (.tableswitch 65 1 4 #[31, 40, 49, 57], 31) := by decide +kernel
theorem dX5_canBecome_32 : decode cX5_canBecome 32 = .ok (.iload_n 1, 1) := by decide +kernel
theorem dX5_canBecome_33 : decode cX5_canBecome 33 = .ok (.iconst 1, 1) := by decide +kernel
theorem dX5_canBecome_34 : decode cX5_canBecome 34 = .ok (.sipush 999, 3) := by decide +kernel
theorem dX5_canBecome_37 : decode cX5_canBecome 37 = .ok (.invokestatic 54, 3) := by decide +kernel
theorem dX5_canBecome_40 : decode cX5_canBecome 40 = .ok (.ireturn, 1) := by decide +kernel
theorem dX5_canBecome_41 : decode cX5_canBecome 41 = .ok (.iload_n 1, 1) := by decide +kernel
theorem dX5_canBecome_42 : decode cX5_canBecome 42 = .ok (.iconst 0, 1) := by decide +kernel
theorem dX5_canBecome_43 : decode cX5_canBecome 43 = .ok (.sipush 999, 3) := by decide +kernel
theorem dX5_canBecome_46 : decode cX5_canBecome 46 = .ok (.invokestatic 54, 3) := by decide +kernel
theorem dX5_canBecome_49 : decode cX5_canBecome 49 = .ok (.ireturn, 1) := by decide +kernel
theorem dX5_canBecome_50 : decode cX5_canBecome 50 = .ok (.iload_n 1, 1) := by decide +kernel
theorem dX5_canBecome_51 : decode cX5_canBecome 51 = .ok (.iconst 0, 1) := by decide +kernel
theorem dX5_canBecome_52 : decode cX5_canBecome 52 = .ok (.bipush 99, 2) := by decide +kernel
theorem dX5_canBecome_54 : decode cX5_canBecome 54 = .ok (.invokestatic 54, 3) := by decide +kernel
theorem dX5_canBecome_57 : decode cX5_canBecome 57 = .ok (.ireturn, 1) := by decide +kernel
theorem dX5_canBecome_58 : decode cX5_canBecome 58 = .ok (.iload_n 1, 1) := by decide +kernel
theorem dX5_canBecome_59 : decode cX5_canBecome 59 = .ok (.iconst 0, 1) := by decide +kernel
theorem dX5_canBecome_60 : decode cX5_canBecome 60 = .ok (.bipush 99, 2) := by decide +kernel
theorem dX5_canBecome_62 : decode cX5_canBecome 62 = .ok (.invokestatic 54, 3) := by decide +kernel
theorem dX5_canBecome_65 : decode cX5_canBecome 65 = .ok (.ireturn, 1) := by decide +kernel
theorem dX5_canBecome_66 : decode cX5_canBecome 66 = .ok (.iconst 0, 1) := by decide +kernel
theorem dX5_canBecome_67 : decode cX5_canBecome 67 = .ok (.ireturn, 1) := by decide +kernel
theorem dX5_isOf_0 : decode cX5_isOf 0 = .ok (.iload_n 0, 1) := by decide +kernel
theorem dX5_isOf_1 : decode cX5_isOf 1 = .ok (.istore_n 2, 1) := by decide +kernel
theorem dX5_isOf_2 : decode cX5_isOf 2 = .ok (.iconst 0, 1) := by decide +kernel
theorem dX5_isOf_3 : decode cX5_isOf 3 = .ok (.istore_n 3, 1) := by decide +kernel
theorem dX5_isOf_4 : decode cX5_isOf 4 = .ok (.iload_n 3, 1) := by decide +kernel
theorem dX5_isOf_5 : decode cX5_isOf 5 = .ok (.bipush 6, 2) := by decide +kernel
theorem dX5_isOf_7 : decode cX5_isOf 7 = .ok (.if_icmp .ge 31, 3) := by decide +kernel
theorem dX5_isOf_10 : decode cX5_isOf 10 = .ok (.iload_n 2, 1) := by decide +kernel
theorem dX5_isOf_11 : decode cX5_isOf 11 = .ok (.iconst 0, 1) := by decide +kernel
theorem dX5_isOf_12 : decode cX5_isOf 12 = .ok (.iconst 5, 1) := by decide +kernel
theorem dX5_isOf_13 : decode cX5_isOf 13 = .ok (.invokestatic 54, 3) := by decide +kernel
theorem dX5_isOf_16 : decode cX5_isOf 16 = .ok (.ifCond .eq 22, 3) := by decide +kernel
theorem dX5_isOf_19 : decode cX5_isOf 19 = .ok (.iload_n 2, 1) := by decide +kernel
theorem dX5_isOf_20 : decode cX5_isOf 20 = .ok (.iload_n 1, 1) := by decide +kernel
theorem dX5_isOf_21 : decode cX5_isOf 21 = .ok (.if_icmp .ne 5, 3) := by decide +kernel
theorem dX5_isOf_24 : decode cX5_isOf 24 = .ok (.iconst 1, 1) := by decide +kernel
theorem dX5_isOf_25 : decode cX5_isOf 25 = .ok (.ireturn, 1) := by decide +kernel
theorem dX5_isOf_26 : decode cX5_isOf 26 = .ok (.getstatic 232, 3) := by decide +kernel
theorem dX5_isOf_29 : decode cX5_isOf 29 = .ok (.iload_n 2, 1) := by decide +kernel
theorem dX5_isOf_30 : decode cX5_isOf 30 = .ok (.iaload, 1) := by decide +kernel
theorem dX5_isOf_31 : decode cX5_isOf 31 = .ok (.istore_n 2, 1) := by decide +kernel
theorem dX5_isOf_32 : decode cX5_isOf 32 = .ok (.iinc 3 1, 3) := by decide +kernel
theorem dX5_isOf_35 : decode cX5_isOf 35 = .ok (.goto (-31), 3) := by decide +kernel
theorem dX5_isOf_38 : decode cX5_isOf 38 = .ok (.iconst 0, 1) := by decide +kernel
theorem dX5_isOf_39 : decode cX5_isOf 39 = .ok (.ireturn, 1) := by decide +kernel
