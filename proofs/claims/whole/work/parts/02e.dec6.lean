theorem dX6_tick_200 : decode cX6_tick 200 = .ok (.aload_n 0, 1) := by decide +kernel
theorem dX6_tick_201 : decode cX6_tick 201 = .ok (.getfield 9, 3) := by decide +kernel
theorem dX6_tick_204 : decode cX6_tick 204 = .ok (.iconst 3, 1) := by decide +kernel
theorem dX6_tick_205 : decode cX6_tick 205 = .ok (.dup2, 1) := by decide +kernel
theorem dX6_tick_206 : decode cX6_tick 206 = .ok (.iaload, 1) := by decide +kernel
theorem dX6_tick_207 : decode cX6_tick 207 = .ok (.iconst 1, 1) := by decide +kernel
theorem dX6_tick_208 : decode cX6_tick 208 = .ok (.iadd, 1) := by decide +kernel
theorem dX6_tick_209 : decode cX6_tick 209 = .ok (.iastore, 1) := by decide +kernel
theorem dX6_tick_210 : decode cX6_tick 210 = .ok (.aload_n 0, 1) := by decide +kernel
theorem dX6_tick_211 : decode cX6_tick 211 = .ok (.getfield 9, 3) := by decide +kernel
theorem dX6_tick_214 : decode cX6_tick 214 = .ok (.bipush 6, 2) := by decide +kernel
theorem dX6_tick_216 : decode cX6_tick 216 = .ok (.aload_n 0, 1) := by decide +kernel
theorem dX6_tick_217 : decode cX6_tick 217 = .ok (.getfield 124, 3) := by decide +kernel
theorem dX6_tick_220 : decode cX6_tick 220 = .ok (.invokestatic 134, 3) := by decide +kernel
theorem dX6_tick_223 : decode cX6_tick 223 = .ok (.iadd, 1) := by decide +kernel
theorem dX6_tick_224 : decode cX6_tick 224 = .ok (.dup2, 1) := by decide +kernel
theorem dX6_tick_225 : decode cX6_tick 225 = .ok (.iaload, 1) := by decide +kernel
theorem dX6_tick_226 : decode cX6_tick 226 = .ok (.iconst 1, 1) := by decide +kernel
theorem dX6_tick_227 : decode cX6_tick 227 = .ok (.iadd, 1) := by decide +kernel
theorem dX6_tick_228 : decode cX6_tick 228 = .ok (.iastore, 1) := by decide +kernel
theorem dX6_tick_229 : decode cX6_tick 229 = .ok (.aload_n 0, 1) := by decide +kernel
theorem dX6_tick_230 : decode cX6_tick 230 = .ok (.invokevirtual 137, 3) := by decide +kernel
theorem dX6_tick_233 : decode cX6_tick 233 = .ok (.return_, 1) := by decide +kernel
theorem dX6_books_0 : decode cX6_books 0 = .ok (.bipush 99, 2) := by decide +kernel
theorem dX6_books_2 : decode cX6_books 2 = .ok (.istore_n 1, 1) := by decide +kernel
theorem dX6_books_3 : decode cX6_books 3 = .ok (.iload_n 1, 1) := by decide +kernel
theorem dX6_books_4 : decode cX6_books 4 = .ok (.ifCond .le 75, 3) := by decide +kernel
theorem dX6_books_7 : decode cX6_books 7 = .ok (.aload_n 0, 1) := by decide +kernel
theorem dX6_books_8 : decode cX6_books 8 = .ok (.getfield 9, 3) := by decide +kernel
theorem dX6_books_11 : decode cX6_books 11 = .ok (.sipush 148, 3) := by decide +kernel
theorem dX6_books_14 : decode cX6_books 14 = .ok (.iload_n 1, 1) := by decide +kernel
theorem dX6_books_15 : decode cX6_books 15 = .ok (.iadd, 1) := by decide +kernel
theorem dX6_books_16 : decode cX6_books 16 = .ok (.aload_n 0, 1) := by decide +kernel
theorem dX6_books_17 : decode cX6_books 17 = .ok (.getfield 9, 3) := by decide +kernel
theorem dX6_books_20 : decode cX6_books 20 = .ok (.sipush 148, 3) := by decide +kernel
theorem dX6_books_23 : decode cX6_books 23 = .ok (.iload_n 1, 1) := by decide +kernel
theorem dX6_books_24 : decode cX6_books 24 = .ok (.iadd, 1) := by decide +kernel
theorem dX6_books_25 : decode cX6_books 25 = .ok (.iconst 1, 1) := by decide +kernel
theorem dX6_books_26 : decode cX6_books 26 = .ok (.isub, 1) := by decide +kernel
theorem dX6_books_27 : decode cX6_books 27 = .ok (.iaload, 1) := by decide +kernel
theorem dX6_books_28 : decode cX6_books 28 = .ok (.iastore, 1) := by decide +kernel
theorem dX6_books_29 : decode cX6_books 29 = .ok (.aload_n 0, 1) := by decide +kernel
theorem dX6_books_30 : decode cX6_books 30 = .ok (.getfield 9, 3) := by decide +kernel
theorem dX6_books_33 : decode cX6_books 33 = .ok (.sipush 248, 3) := by decide +kernel
theorem dX6_books_36 : decode cX6_books 36 = .ok (.iload_n 1, 1) := by decide +kernel
theorem dX6_books_37 : decode cX6_books 37 = .ok (.iadd, 1) := by decide +kernel
theorem dX6_books_38 : decode cX6_books 38 = .ok (.aload_n 0, 1) := by decide +kernel
theorem dX6_books_39 : decode cX6_books 39 = .ok (.getfield 9, 3) := by decide +kernel
theorem dX6_books_42 : decode cX6_books 42 = .ok (.sipush 248, 3) := by decide +kernel
theorem dX6_books_45 : decode cX6_books 45 = .ok (.iload_n 1, 1) := by decide +kernel
theorem dX6_books_46 : decode cX6_books 46 = .ok (.iadd, 1) := by decide +kernel
theorem dX6_books_47 : decode cX6_books 47 = .ok (.iconst 1, 1) := by decide +kernel
theorem dX6_books_48 : decode cX6_books 48 = .ok (.isub, 1) := by decide +kernel
theorem dX6_books_49 : decode cX6_books 49 = .ok (.iaload, 1) := by decide +kernel
theorem dX6_books_50 : decode cX6_books 50 = .ok (.iastore, 1) := by decide +kernel
theorem dX6_books_51 : decode cX6_books 51 = .ok (.aload_n 0, 1) := by decide +kernel
theorem dX6_books_52 : decode cX6_books 52 = .ok (.getfield 9, 3) := by decide +kernel
theorem dX6_books_55 : decode cX6_books 55 = .ok (.sipush 348, 3) := by decide +kernel
theorem dX6_books_58 : decode cX6_books 58 = .ok (.iload_n 1, 1) := by decide +kernel
theorem dX6_books_59 : decode cX6_books 59 = .ok (.iadd, 1) := by decide +kernel
theorem dX6_books_60 : decode cX6_books 60 = .ok (.aload_n 0, 1) := by decide +kernel
theorem dX6_books_61 : decode cX6_books 61 = .ok (.getfield 9, 3) := by decide +kernel
theorem dX6_books_64 : decode cX6_books 64 = .ok (.sipush 348, 3) := by decide +kernel
theorem dX6_books_67 : decode cX6_books 67 = .ok (.iload_n 1, 1) := by decide +kernel
theorem dX6_books_68 : decode cX6_books 68 = .ok (.iadd, 1) := by decide +kernel
theorem dX6_books_69 : decode cX6_books 69 = .ok (.iconst 1, 1) := by decide +kernel
theorem dX6_books_70 : decode cX6_books 70 = .ok (.isub, 1) := by decide +kernel
theorem dX6_books_71 : decode cX6_books 71 = .ok (.iaload, 1) := by decide +kernel
theorem dX6_books_72 : decode cX6_books 72 = .ok (.iastore, 1) := by decide +kernel
theorem dX6_books_73 : decode cX6_books 73 = .ok (.iinc 1 (-1), 3) := by decide +kernel
theorem dX6_books_76 : decode cX6_books 76 = .ok (.goto (-73), 3) := by decide +kernel
theorem dX6_books_79 : decode cX6_books 79 = .ok (.aload_n 0, 1) := by decide +kernel
theorem dX6_books_80 : decode cX6_books 80 = .ok (.getfield 9, 3) := by decide +kernel
theorem dX6_books_83 : decode cX6_books 83 = .ok (.sipush 148, 3) := by decide +kernel
theorem dX6_books_86 : decode cX6_books 86 = .ok (.aload_n 0, 1) := by decide +kernel
theorem dX6_books_87 : decode cX6_books 87 = .ok (.getfield 124, 3) := by decide +kernel
theorem dX6_books_90 : decode cX6_books 90 = .ok (.iastore, 1) := by decide +kernel
theorem dX6_books_91 : decode cX6_books 91 = .ok (.aload_n 0, 1) := by decide +kernel
theorem dX6_books_92 : decode cX6_books 92 = .ok (.getfield 9, 3) := by decide +kernel
theorem dX6_books_95 : decode cX6_books 95 = .ok (.sipush 248, 3) := by decide +kernel
theorem dX6_books_98 : decode cX6_books 98 = .ok (.aload_n 0, 1) := by decide +kernel
theorem dX6_books_99 : decode cX6_books 99 = .ok (.getfield 108, 3) := by decide +kernel
theorem dX6_books_102 : decode cX6_books 102 = .ok (.iastore, 1) := by decide +kernel
theorem dX6_books_103 : decode cX6_books 103 = .ok (.aload_n 0, 1) := by decide +kernel
theorem dX6_books_104 : decode cX6_books 104 = .ok (.getfield 9, 3) := by decide +kernel
theorem dX6_books_107 : decode cX6_books 107 = .ok (.sipush 348, 3) := by decide +kernel
theorem dX6_books_110 : decode cX6_books 110 = .ok (.aload_n 0, 1) := by decide +kernel
theorem dX6_books_111 : decode cX6_books 111 = .ok (.getfield 127, 3) := by decide +kernel
theorem dX6_books_114 : decode cX6_books 114 = .ok (.iastore, 1) := by decide +kernel
theorem dX6_books_115 : decode cX6_books 115 = .ok (.aload_n 0, 1) := by decide +kernel
theorem dX6_books_116 : decode cX6_books 116 = .ok (.getfield 9, 3) := by decide +kernel
theorem dX6_books_119 : decode cX6_books 119 = .ok (.bipush 13, 2) := by decide +kernel
theorem dX6_books_121 : decode cX6_books 121 = .ok (.bipush 100, 2) := by decide +kernel
theorem dX6_books_123 : decode cX6_books 123 = .ok (.aload_n 0, 1) := by decide +kernel
theorem dX6_books_124 : decode cX6_books 124 = .ok (.getfield 9, 3) := by decide +kernel
theorem dX6_books_127 : decode cX6_books 127 = .ok (.bipush 13, 2) := by decide +kernel
theorem dX6_books_129 : decode cX6_books 129 = .ok (.iaload, 1) := by decide +kernel
theorem dX6_books_130 : decode cX6_books 130 = .ok (.iconst 1, 1) := by decide +kernel
theorem dX6_books_131 : decode cX6_books 131 = .ok (.iadd, 1) := by decide +kernel
theorem dX6_books_132 : decode cX6_books 132 = .ok (.invokestatic 65, 3) := by decide +kernel
theorem dX6_books_135 : decode cX6_books 135 = .ok (.iastore, 1) := by decide +kernel
theorem dX6_books_136 : decode cX6_books 136 = .ok (.return_, 1) := by decide +kernel
theorem dX6_ticks_0 : decode cX6_ticks 0 = .ok (.iload_n 1, 1) := by decide +kernel
theorem dX6_ticks_1 : decode cX6_ticks 1 = .ok (.iconst 1, 1) := by decide +kernel
theorem dX6_ticks_2 : decode cX6_ticks 2 = .ok (.bipush 100, 2) := by decide +kernel
theorem dX6_ticks_4 : decode cX6_ticks 4 = .ok (.invokestatic 57, 3) := by decide +kernel
theorem dX6_ticks_7 : decode cX6_ticks 7 = .ok (.ifCond .ne 9, 3) := by decide +kernel
theorem dX6_ticks_10 : decode cX6_ticks 10 = .ok (.aload_n 0, 1) := by decide +kernel
theorem dX6_ticks_11 : decode cX6_ticks 11 = .ok (.iconst 0, 1) := by decide +kernel
theorem dX6_ticks_12 : decode cX6_ticks 12 = .ok (.invokevirtual 85, 3) := by decide +kernel
theorem dX6_ticks_15 : decode cX6_ticks 15 = .ok (.ireturn, 1) := by decide +kernel
theorem dX6_ticks_16 : decode cX6_ticks 16 = .ok (.iconst 0, 1) := by decide +kernel
theorem dX6_ticks_17 : decode cX6_ticks 17 = .ok (.istore_n 2, 1) := by decide +kernel
theorem dX6_ticks_18 : decode cX6_ticks 18 = .ok (.iload_n 2, 1) := by decide +kernel
theorem dX6_ticks_19 : decode cX6_ticks 19 = .ok (.iload_n 1, 1) := by decide +kernel
theorem dX6_ticks_20 : decode cX6_ticks 20 = .ok (.if_icmp .ge 13, 3) := by decide +kernel
theorem dX6_ticks_23 : decode cX6_ticks 23 = .ok (.aload_n 0, 1) := by decide +kernel
theorem dX6_ticks_24 : decode cX6_ticks 24 = .ok (.invokevirtual 140, 3) := by decide +kernel
theorem dX6_ticks_27 : decode cX6_ticks 27 = .ok (.iinc 2 1, 3) := by decide +kernel
theorem dX6_ticks_30 : decode cX6_ticks 30 = .ok (.goto (-12), 3) := by decide +kernel
theorem dX6_ticks_33 : decode cX6_ticks 33 = .ok (.aload_n 0, 1) := by decide +kernel
theorem dX6_ticks_34 : decode cX6_ticks 34 = .ok (.getfield 124, 3) := by decide +kernel
theorem dX6_ticks_37 : decode cX6_ticks 37 = .ok (.ireturn, 1) := by decide +kernel
theorem dX6_until_0 : decode cX6_until 0 = .ok (.iload_n 1, 1) := by decide +kernel
theorem dX6_until_1 : decode cX6_until 1 = .ok (.iconst 1, 1) := by decide +kernel
theorem dX6_until_2 : decode cX6_until 2 = .ok (.sipush 400, 3) := by decide +kernel
theorem dX6_until_5 : decode cX6_until 5 = .ok (.invokestatic 57, 3) := by decide +kernel
theorem dX6_until_8 : decode cX6_until 8 = .ok (.ifCond .eq 13, 3) := by decide +kernel
theorem dX6_until_11 : decode cX6_until 11 = .ok (.iload_n 2, 1) := by decide +kernel
theorem dX6_until_12 : decode cX6_until 12 = .ok (.iconst 1, 1) := by decide +kernel
theorem dX6_until_13 : decode cX6_until 13 = .ok (.bipush 100, 2) := by decide +kernel
theorem dX6_until_15 : decode cX6_until 15 = .ok (.invokestatic 57, 3) := by decide +kernel
theorem dX6_until_18 : decode cX6_until 18 = .ok (.ifCond .ne 9, 3) := by decide +kernel
theorem dX6_until_21 : decode cX6_until 21 = .ok (.aload_n 0, 1) := by decide +kernel
theorem dX6_until_22 : decode cX6_until 22 = .ok (.iconst 0, 1) := by decide +kernel
theorem dX6_until_23 : decode cX6_until 23 = .ok (.invokevirtual 85, 3) := by decide +kernel
theorem dX6_until_26 : decode cX6_until 26 = .ok (.ireturn, 1) := by decide +kernel
theorem dX6_until_27 : decode cX6_until 27 = .ok (.iconst 0, 1) := by decide +kernel
theorem dX6_until_28 : decode cX6_until 28 = .ok (.istore_n 3, 1) := by decide +kernel
theorem dX6_until_29 : decode cX6_until 29 = .ok (.iconst 1, 1) := by decide +kernel
theorem dX6_until_30 : decode cX6_until 30 = .ok (.istore 4, 2) := by decide +kernel
theorem dX6_until_32 : decode cX6_until 32 = .ok (.iload 4, 2) := by decide +kernel
theorem dX6_until_34 : decode cX6_until 34 = .ok (.ifCond .eq 33, 3) := by decide +kernel
theorem dX6_until_37 : decode cX6_until 37 = .ok (.iload_n 3, 1) := by decide +kernel
theorem dX6_until_38 : decode cX6_until 38 = .ok (.iload_n 2, 1) := by decide +kernel
theorem dX6_until_39 : decode cX6_until 39 = .ok (.if_icmp .ge 28, 3) := by decide +kernel
theorem dX6_until_42 : decode cX6_until 42 = .ok (.aload_n 0, 1) := by decide +kernel
theorem dX6_until_43 : decode cX6_until 43 = .ok (.invokevirtual 140, 3) := by decide +kernel
theorem dX6_until_46 : decode cX6_until 46 = .ok (.iinc 3 1, 3) := by decide +kernel
theorem dX6_until_49 : decode cX6_until 49 = .ok (.aload_n 0, 1) := by decide +kernel
theorem dX6_until_50 : decode cX6_until 50 = .ok (.getfield 124, 3) := by decide +kernel
theorem dX6_until_53 : decode cX6_until 53 = .ok (.iload_n 1, 1) := by decide +kernel
theorem dX6_until_54 : decode cX6_until 54 = .ok (.if_icmp .ge 7, 3) := by decide +kernel
theorem dX6_until_57 : decode cX6_until 57 = .ok (.iconst 1, 1) := by decide +kernel
theorem dX6_until_58 : decode cX6_until 58 = .ok (.goto 4, 3) := by decide +kernel
theorem dX6_until_61 : decode cX6_until 61 = .ok (.iconst 0, 1) := by decide +kernel
theorem dX6_until_62 : decode cX6_until 62 = .ok (.istore 4, 2) := by decide +kernel
theorem dX6_until_64 : decode cX6_until 64 = .ok (.goto (-32), 3) := by decide +kernel
theorem dX6_until_67 : decode cX6_until 67 = .ok (.iload_n 3, 1) := by decide +kernel
theorem dX6_until_68 : decode cX6_until 68 = .ok (.ireturn, 1) := by decide +kernel
theorem dX6_book_0 : decode cX6_book 0 = .ok (.iload_n 1, 1) := by decide +kernel
theorem dX6_book_1 : decode cX6_book 1 = .ok (.iconst 0, 1) := by decide +kernel
theorem dX6_book_2 : decode cX6_book 2 = .ok (.aload_n 0, 1) := by decide +kernel
theorem dX6_book_3 : decode cX6_book 3 = .ok (.getfield 9, 3) := by decide +kernel
theorem dX6_book_6 : decode cX6_book 6 = .ok (.bipush 13, 2) := by decide +kernel
theorem dX6_book_8 : decode cX6_book 8 = .ok (.iaload, 1) := by decide +kernel
theorem dX6_book_9 : decode cX6_book 9 = .ok (.iconst 1, 1) := by decide +kernel
theorem dX6_book_10 : decode cX6_book 10 = .ok (.isub, 1) := by decide +kernel
theorem dX6_book_11 : decode cX6_book 11 = .ok (.invokestatic 57, 3) := by decide +kernel
theorem dX6_book_14 : decode cX6_book 14 = .ok (.ifCond .eq 12, 3) := by decide +kernel
theorem dX6_book_17 : decode cX6_book 17 = .ok (.iload_n 2, 1) := by decide +kernel
theorem dX6_book_18 : decode cX6_book 18 = .ok (.iconst 0, 1) := by decide +kernel
theorem dX6_book_19 : decode cX6_book 19 = .ok (.iconst 2, 1) := by decide +kernel
theorem dX6_book_20 : decode cX6_book 20 = .ok (.invokestatic 57, 3) := by decide +kernel
theorem dX6_book_23 : decode cX6_book 23 = .ok (.ifCond .ne 9, 3) := by decide +kernel
theorem dX6_book_26 : decode cX6_book 26 = .ok (.aload_n 0, 1) := by decide +kernel
theorem dX6_book_27 : decode cX6_book 27 = .ok (.iconst 0, 1) := by decide +kernel
theorem dX6_book_28 : decode cX6_book 28 = .ok (.invokevirtual 85, 3) := by decide +kernel
theorem dX6_book_31 : decode cX6_book 31 = .ok (.ireturn, 1) := by decide +kernel
theorem dX6_book_32 : decode cX6_book 32 = .ok (.aload_n 0, 1) := by decide +kernel
theorem dX6_book_33 : decode cX6_book 33 = .ok (.getfield 9, 3) := by decide +kernel
theorem dX6_book_36 : decode cX6_book 36 = .ok (.sipush 148, 3) := by decide +kernel
theorem dX6_book_39 : decode cX6_book 39 = .ok (.bipush 100, 2) := by decide +kernel
theorem dX6_book_41 : decode cX6_book 41 = .ok (.iload_n 2, 1) := by decide +kernel
theorem dX6_book_42 : decode cX6_book 42 = .ok (.imul, 1) := by decide +kernel
theorem dX6_book_43 : decode cX6_book 43 = .ok (.iadd, 1) := by decide +kernel
theorem dX6_book_44 : decode cX6_book 44 = .ok (.iload_n 1, 1) := by decide +kernel
theorem dX6_book_45 : decode cX6_book 45 = .ok (.iadd, 1) := by decide +kernel
theorem dX6_book_46 : decode cX6_book 46 = .ok (.iaload, 1) := by decide +kernel
theorem dX6_book_47 : decode cX6_book 47 = .ok (.ireturn, 1) := by decide +kernel
theorem dX6_counts_0 : decode cX6_counts 0 = .ok (.iload_n 1, 1) := by decide +kernel
theorem dX6_counts_1 : decode cX6_counts 1 = .ok (.iconst 0, 1) := by decide +kernel
theorem dX6_counts_2 : decode cX6_counts 2 = .ok (.bipush 6, 2) := by decide +kernel
theorem dX6_counts_4 : decode cX6_counts 4 = .ok (.invokestatic 57, 3) := by decide +kernel
theorem dX6_counts_7 : decode cX6_counts 7 = .ok (.ifCond .eq 15, 3) := by decide +kernel
theorem dX6_counts_10 : decode cX6_counts 10 = .ok (.aload_n 0, 1) := by decide +kernel
theorem dX6_counts_11 : decode cX6_counts 11 = .ok (.getfield 9, 3) := by decide +kernel
theorem dX6_counts_14 : decode cX6_counts 14 = .ok (.bipush 6, 2) := by decide +kernel
theorem dX6_counts_16 : decode cX6_counts 16 = .ok (.iload_n 1, 1) := by decide +kernel
theorem dX6_counts_17 : decode cX6_counts 17 = .ok (.iadd, 1) := by decide +kernel
theorem dX6_counts_18 : decode cX6_counts 18 = .ok (.iaload, 1) := by decide +kernel
theorem dX6_counts_19 : decode cX6_counts 19 = .ok (.goto 8, 3) := by decide +kernel
theorem dX6_counts_22 : decode cX6_counts 22 = .ok (.aload_n 0, 1) := by decide +kernel
theorem dX6_counts_23 : decode cX6_counts 23 = .ok (.iconst 0, 1) := by decide +kernel
theorem dX6_counts_24 : decode cX6_counts 24 = .ok (.invokevirtual 85, 3) := by decide +kernel
theorem dX6_counts_27 : decode cX6_counts 27 = .ok (.ireturn, 1) := by decide +kernel
theorem dX6_power_0 : decode cX6_power 0 = .ok (.iconst 1, 1) := by decide +kernel
theorem dX6_power_1 : decode cX6_power 1 = .ok (.istore_n 1, 1) := by decide +kernel
theorem dX6_power_2 : decode cX6_power 2 = .ok (.iconst 2, 1) := by decide +kernel
theorem dX6_power_3 : decode cX6_power 3 = .ok (.istore_n 2, 1) := by decide +kernel
theorem dX6_power_4 : decode cX6_power 4 = .ok (.iload_n 2, 1) := by decide +kernel
theorem dX6_power_5 : decode cX6_power 5 = .ok (.bipush 6, 2) := by decide +kernel
theorem dX6_power_7 : decode cX6_power 7 = .ok (.if_icmp .gt 42, 3) := by decide +kernel
theorem dX6_power_10 : decode cX6_power 10 = .ok (.iload_n 1, 1) := by decide +kernel
theorem dX6_power_11 : decode cX6_power 11 = .ok (.ifCond .eq 30, 3) := by decide +kernel
theorem dX6_power_14 : decode cX6_power 14 = .ok (.aload_n 0, 1) := by decide +kernel
theorem dX6_power_15 : decode cX6_power 15 = .ok (.getfield 9, 3) := by decide +kernel
theorem dX6_power_18 : decode cX6_power 18 = .ok (.bipush 6, 2) := by decide +kernel
theorem dX6_power_20 : decode cX6_power 20 = .ok (.iload_n 2, 1) := by decide +kernel
theorem dX6_power_21 : decode cX6_power 21 = .ok (.iadd, 1) := by decide +kernel
theorem dX6_power_22 : decode cX6_power 22 = .ok (.iaload, 1) := by decide +kernel
theorem dX6_power_23 : decode cX6_power 23 = .ok (.aload_n 0, 1) := by decide +kernel
theorem dX6_power_24 : decode cX6_power 24 = .ok (.getfield 9, 3) := by decide +kernel
theorem dX6_power_27 : decode cX6_power 27 = .ok (.bipush 6, 2) := by decide +kernel
theorem dX6_power_29 : decode cX6_power 29 = .ok (.iload_n 2, 1) := by decide +kernel
theorem dX6_power_30 : decode cX6_power 30 = .ok (.iadd, 1) := by decide +kernel
theorem dX6_power_31 : decode cX6_power 31 = .ok (.iconst 1, 1) := by decide +kernel
theorem dX6_power_32 : decode cX6_power 32 = .ok (.isub, 1) := by decide +kernel
theorem dX6_power_33 : decode cX6_power 33 = .ok (.iaload, 1) := by decide +kernel
theorem dX6_power_34 : decode cX6_power 34 = .ok (.if_icmp .gt 7, 3) := by decide +kernel
theorem dX6_power_37 : decode cX6_power 37 = .ok (.iconst 1, 1) := by decide +kernel
theorem dX6_power_38 : decode cX6_power 38 = .ok (.goto 4, 3) := by decide +kernel
theorem dX6_power_41 : decode cX6_power 41 = .ok (.iconst 0, 1) := by decide +kernel
theorem dX6_power_42 : decode cX6_power 42 = .ok (.istore_n 1, 1) := by decide +kernel
theorem dX6_power_43 : decode cX6_power 43 = .ok (.iinc 2 1, 3) := by decide +kernel
theorem dX6_power_46 : decode cX6_power 46 = .ok (.goto (-42), 3) := by decide +kernel
theorem dX6_power_49 : decode cX6_power 49 = .ok (.iload_n 1, 1) := by decide +kernel
theorem dX6_power_50 : decode cX6_power 50 = .ok (.ifCond .eq 7, 3) := by decide +kernel
theorem dX6_power_53 : decode cX6_power 53 = .ok (.iconst 1, 1) := by decide +kernel
theorem dX6_power_54 : decode cX6_power 54 = .ok (.goto 4, 3) := by decide +kernel
theorem dX6_power_57 : decode cX6_power 57 = .ok (.iconst 0, 1) := by decide +kernel
theorem dX6_power_58 : decode cX6_power 58 = .ok (.ireturn, 1) := by decide +kernel
theorem dX6_tone_0 : decode cX6_tone 0 = .ok (.iconst (-1), 1) := by decide +kernel
theorem dX6_tone_1 : decode cX6_tone 1 = .ok (.istore_n 1, 1) := by decide +kernel
theorem dX6_tone_2 : decode cX6_tone 2 = .ok (.iconst 0, 1) := by decide +kernel
theorem dX6_tone_3 : decode cX6_tone 3 = .ok (.istore_n 2, 1) := by decide +kernel
theorem dX6_tone_4 : decode cX6_tone 4 = .ok (.iload_n 2, 1) := by decide +kernel
theorem dX6_tone_5 : decode cX6_tone 5 = .ok (.aload_n 0, 1) := by decide +kernel
theorem dX6_tone_6 : decode cX6_tone 6 = .ok (.getfield 9, 3) := by decide +kernel
theorem dX6_tone_9 : decode cX6_tone 9 = .ok (.bipush 13, 2) := by decide +kernel
theorem dX6_tone_11 : decode cX6_tone 11 = .ok (.iaload, 1) := by decide +kernel
theorem dX6_tone_12 : decode cX6_tone 12 = .ok (.if_icmp .ge 32, 3) := by decide +kernel
theorem dX6_tone_15 : decode cX6_tone 15 = .ok (.aload_n 0, 1) := by decide +kernel
theorem dX6_tone_16 : decode cX6_tone 16 = .ok (.getfield 9, 3) := by decide +kernel
theorem dX6_tone_19 : decode cX6_tone 19 = .ok (.sipush 148, 3) := by decide +kernel
theorem dX6_tone_22 : decode cX6_tone 22 = .ok (.iload_n 2, 1) := by decide +kernel
theorem dX6_tone_23 : decode cX6_tone 23 = .ok (.iadd, 1) := by decide +kernel
theorem dX6_tone_24 : decode cX6_tone 24 = .ok (.iaload, 1) := by decide +kernel
theorem dX6_tone_25 : decode cX6_tone 25 = .ok (.ifCond .le 13, 3) := by decide +kernel
theorem dX6_tone_28 : decode cX6_tone 28 = .ok (.iload_n 1, 1) := by decide +kernel
theorem dX6_tone_29 : decode cX6_tone 29 = .ok (.ifCond .lt 7, 3) := by decide +kernel
theorem dX6_tone_32 : decode cX6_tone 32 = .ok (.iload_n 2, 1) := by decide +kernel
theorem dX6_tone_33 : decode cX6_tone 33 = .ok (.iload_n 1, 1) := by decide +kernel
theorem dX6_tone_34 : decode cX6_tone 34 = .ok (.isub, 1) := by decide +kernel
theorem dX6_tone_35 : decode cX6_tone 35 = .ok (.ireturn, 1) := by decide +kernel
theorem dX6_tone_36 : decode cX6_tone 36 = .ok (.iload_n 2, 1) := by decide +kernel
theorem dX6_tone_37 : decode cX6_tone 37 = .ok (.istore_n 1, 1) := by decide +kernel
theorem dX6_tone_38 : decode cX6_tone 38 = .ok (.iinc 2 1, 3) := by decide +kernel
theorem dX6_tone_41 : decode cX6_tone 41 = .ok (.goto (-37), 3) := by decide +kernel
theorem dX6_tone_44 : decode cX6_tone 44 = .ok (.aload_n 0, 1) := by decide +kernel
theorem dX6_tone_45 : decode cX6_tone 45 = .ok (.iconst 3, 1) := by decide +kernel
theorem dX6_tone_46 : decode cX6_tone 46 = .ok (.invokevirtual 85, 3) := by decide +kernel
theorem dX6_tone_49 : decode cX6_tone 49 = .ok (.ireturn, 1) := by decide +kernel
theorem dX6_great_0 : decode cX6_great 0 = .ok (.iload_n 1, 1) := by decide +kernel
theorem dX6_great_1 : decode cX6_great 1 = .ok (.iconst 1, 1) := by decide +kernel
theorem dX6_great_2 : decode cX6_great 2 = .ok (.sipush 400, 3) := by decide +kernel
theorem dX6_great_5 : decode cX6_great 5 = .ok (.invokestatic 57, 3) := by decide +kernel
theorem dX6_great_8 : decode cX6_great 8 = .ok (.ifCond .eq 12, 3) := by decide +kernel
theorem dX6_great_11 : decode cX6_great 11 = .ok (.iload_n 2, 1) := by decide +kernel
theorem dX6_great_12 : decode cX6_great 12 = .ok (.iconst 0, 1) := by decide +kernel
theorem dX6_great_13 : decode cX6_great 13 = .ok (.iconst 1, 1) := by decide +kernel
theorem dX6_great_14 : decode cX6_great 14 = .ok (.invokestatic 57, 3) := by decide +kernel
theorem dX6_great_17 : decode cX6_great 17 = .ok (.ifCond .ne 9, 3) := by decide +kernel
theorem dX6_great_20 : decode cX6_great 20 = .ok (.aload_n 0, 1) := by decide +kernel
theorem dX6_great_21 : decode cX6_great 21 = .ok (.iconst 0, 1) := by decide +kernel
theorem dX6_great_22 : decode cX6_great 22 = .ok (.invokevirtual 85, 3) := by decide +kernel
theorem dX6_great_25 : decode cX6_great 25 = .ok (.ireturn, 1) := by decide +kernel
theorem dX6_great_26 : decode cX6_great 26 = .ok (.iconst 0, 1) := by decide +kernel
theorem dX6_great_27 : decode cX6_great 27 = .ok (.istore_n 3, 1) := by decide +kernel
theorem dX6_great_28 : decode cX6_great 28 = .ok (.iconst 0, 1) := by decide +kernel
theorem dX6_great_29 : decode cX6_great 29 = .ok (.istore 4, 2) := by decide +kernel
theorem dX6_great_31 : decode cX6_great 31 = .ok (.iload 4, 2) := by decide +kernel
theorem dX6_great_33 : decode cX6_great 33 = .ok (.aload_n 0, 1) := by decide +kernel
theorem dX6_great_34 : decode cX6_great 34 = .ok (.getfield 9, 3) := by decide +kernel
theorem dX6_great_37 : decode cX6_great 37 = .ok (.bipush 13, 2) := by decide +kernel
theorem dX6_great_39 : decode cX6_great 39 = .ok (.iaload, 1) := by decide +kernel
theorem dX6_great_40 : decode cX6_great 40 = .ok (.if_icmp .ge 90, 3) := by decide +kernel
theorem dX6_great_43 : decode cX6_great 43 = .ok (.aload_n 0, 1) := by decide +kernel
theorem dX6_great_44 : decode cX6_great 44 = .ok (.getfield 9, 3) := by decide +kernel
theorem dX6_great_47 : decode cX6_great 47 = .ok (.sipush 148, 3) := by decide +kernel
theorem dX6_great_50 : decode cX6_great 50 = .ok (.iload 4, 2) := by decide +kernel
theorem dX6_great_52 : decode cX6_great 52 = .ok (.iadd, 1) := by decide +kernel
theorem dX6_great_53 : decode cX6_great 53 = .ok (.iaload, 1) := by decide +kernel
theorem dX6_great_54 : decode cX6_great 54 = .ok (.iload_n 1, 1) := by decide +kernel
theorem dX6_great_55 : decode cX6_great 55 = .ok (.if_icmp .lt 7, 3) := by decide +kernel
theorem dX6_great_58 : decode cX6_great 58 = .ok (.iconst 1, 1) := by decide +kernel
theorem dX6_great_59 : decode cX6_great 59 = .ok (.goto 4, 3) := by decide +kernel
theorem dX6_great_62 : decode cX6_great 62 = .ok (.iconst 0, 1) := by decide +kernel
theorem dX6_great_63 : decode cX6_great 63 = .ok (.istore 5, 2) := by decide +kernel
theorem dX6_great_65 : decode cX6_great 65 = .ok (.iload 4, 2) := by decide +kernel
theorem dX6_great_67 : decode cX6_great 67 = .ok (.iconst 1, 1) := by decide +kernel
theorem dX6_great_68 : decode cX6_great 68 = .ok (.iadd, 1) := by decide +kernel
theorem dX6_great_69 : decode cX6_great 69 = .ok (.aload_n 0, 1) := by decide +kernel
theorem dX6_great_70 : decode cX6_great 70 = .ok (.getfield 9, 3) := by decide +kernel
theorem dX6_great_73 : decode cX6_great 73 = .ok (.bipush 13, 2) := by decide +kernel
theorem dX6_great_75 : decode cX6_great 75 = .ok (.iaload, 1) := by decide +kernel
theorem dX6_great_76 : decode cX6_great 76 = .ok (.if_icmp .ge 23, 3) := by decide +kernel
theorem dX6_great_79 : decode cX6_great 79 = .ok (.aload_n 0, 1) := by decide +kernel
theorem dX6_great_80 : decode cX6_great 80 = .ok (.getfield 9, 3) := by decide +kernel
theorem dX6_great_83 : decode cX6_great 83 = .ok (.sipush 148, 3) := by decide +kernel
theorem dX6_great_86 : decode cX6_great 86 = .ok (.iload 4, 2) := by decide +kernel
theorem dX6_great_88 : decode cX6_great 88 = .ok (.iadd, 1) := by decide +kernel
theorem dX6_great_89 : decode cX6_great 89 = .ok (.iconst 1, 1) := by decide +kernel
theorem dX6_great_90 : decode cX6_great 90 = .ok (.iadd, 1) := by decide +kernel
theorem dX6_great_91 : decode cX6_great 91 = .ok (.iaload, 1) := by decide +kernel
theorem dX6_great_92 : decode cX6_great 92 = .ok (.ifCond .le 7, 3) := by decide +kernel
theorem dX6_great_95 : decode cX6_great 95 = .ok (.iconst 1, 1) := by decide +kernel
theorem dX6_great_96 : decode cX6_great 96 = .ok (.goto 4, 3) := by decide +kernel
theorem dX6_great_99 : decode cX6_great 99 = .ok (.iconst 0, 1) := by decide +kernel
theorem dX6_great_100 : decode cX6_great 100 = .ok (.istore 6, 2) := by decide +kernel
theorem dX6_great_102 : decode cX6_great 102 = .ok (.iload_n 3, 1) := by decide +kernel
theorem dX6_great_103 : decode cX6_great 103 = .ok (.iload 5, 2) := by decide +kernel
theorem dX6_great_105 : decode cX6_great 105 = .ok (.ifCond .eq 16, 3) := by decide +kernel
theorem dX6_great_108 : decode cX6_great 108 = .ok (.iload_n 2, 1) := by decide +kernel
theorem dX6_great_109 : decode cX6_great 109 = .ok (.ifCond .eq 8, 3) := by decide +kernel
theorem dX6_great_112 : decode cX6_great 112 = .ok (.iload 6, 2) := by decide +kernel
theorem dX6_great_114 : decode cX6_great 114 = .ok (.ifCond .eq 7, 3) := by decide +kernel
theorem dX6_great_117 : decode cX6_great 117 = .ok (.iconst 1, 1) := by decide +kernel
theorem dX6_great_118 : decode cX6_great 118 = .ok (.goto 4, 3) := by decide +kernel
theorem dX6_great_121 : decode cX6_great 121 = .ok (.iconst 0, 1) := by decide +kernel
theorem dX6_great_122 : decode cX6_great 122 = .ok (.iadd, 1) := by decide +kernel
theorem dX6_great_123 : decode cX6_great 123 = .ok (.istore_n 3, 1) := by decide +kernel
theorem dX6_great_124 : decode cX6_great 124 = .ok (.iinc 4 1, 3) := by decide +kernel
theorem dX6_great_127 : decode cX6_great 127 = .ok (.goto (-96), 3) := by decide +kernel
theorem dX6_great_130 : decode cX6_great 130 = .ok (.iload_n 3, 1) := by decide +kernel
theorem dX6_great_131 : decode cX6_great 131 = .ok (.ireturn, 1) := by decide +kernel
theorem dX6_noise_0 : decode cX6_noise 0 = .ok (.aload_n 0, 1) := by decide +kernel
theorem dX6_noise_1 : decode cX6_noise 1 = .ok (.iload_n 1, 1) := by decide +kernel
theorem dX6_noise_2 : decode cX6_noise 2 = .ok (.invokevirtual 92, 3) := by decide +kernel
theorem dX6_noise_5 : decode cX6_noise 5 = .ok (.ifCond .ne 10, 3) := by decide +kernel
theorem dX6_noise_8 : decode cX6_noise 8 = .ok (.aload_n 0, 1) := by decide +kernel
theorem dX6_noise_9 : decode cX6_noise 9 = .ok (.iconst 0, 1) := by decide +kernel
theorem dX6_noise_10 : decode cX6_noise 10 = .ok (.invokevirtual 85, 3) := by decide +kernel
theorem dX6_noise_13 : decode cX6_noise 13 = .ok (.i2l, 1) := by decide +kernel
theorem dX6_noise_14 : decode cX6_noise 14 = .ok (.lreturn, 1) := by decide +kernel
theorem dX6_noise_15 : decode cX6_noise 15 = .ok (.lconst 0, 1) := by decide +kernel
theorem dX6_noise_16 : decode cX6_noise 16 = .ok (.lstore_n 2, 1) := by decide +kernel
theorem dX6_noise_17 : decode cX6_noise 17 = .ok (.iconst 0, 1) := by decide +kernel
theorem dX6_noise_18 : decode cX6_noise 18 = .ok (.istore 4, 2) := by decide +kernel
theorem dX6_noise_20 : decode cX6_noise 20 = .ok (.iload 4, 2) := by decide +kernel
theorem dX6_noise_22 : decode cX6_noise 22 = .ok (.aload_n 0, 1) := by decide +kernel
theorem dX6_noise_23 : decode cX6_noise 23 = .ok (.getfield 9, 3) := by decide +kernel
theorem dX6_noise_26 : decode cX6_noise 26 = .ok (.bipush 13, 2) := by decide +kernel
theorem dX6_noise_28 : decode cX6_noise 28 = .ok (.iaload, 1) := by decide +kernel
theorem dX6_noise_29 : decode cX6_noise 29 = .ok (.if_icmp .ge 47, 3) := by decide +kernel
theorem dX6_noise_32 : decode cX6_noise 32 = .ok (.lload_n 2, 1) := by decide +kernel
theorem dX6_noise_33 : decode cX6_noise 33 = .ok (.aload_n 0, 1) := by decide +kernel
theorem dX6_noise_34 : decode cX6_noise 34 = .ok (.getfield 9, 3) := by decide +kernel
theorem dX6_noise_37 : decode cX6_noise 37 = .ok (.sipush 248, 3) := by decide +kernel
theorem dX6_noise_40 : decode cX6_noise 40 = .ok (.iload 4, 2) := by decide +kernel
theorem dX6_noise_42 : decode cX6_noise 42 = .ok (.iadd, 1) := by decide +kernel
theorem dX6_noise_43 : decode cX6_noise 43 = .ok (.iaload, 1) := by decide +kernel
theorem dX6_noise_44 : decode cX6_noise 44 = .ok (.iload_n 1, 1) := by decide +kernel
theorem dX6_noise_45 : decode cX6_noise 45 = .ok (.ishr, 1) := by decide +kernel
theorem dX6_noise_46 : decode cX6_noise 46 = .ok (.iconst 1, 1) := by decide +kernel
theorem dX6_noise_47 : decode cX6_noise 47 = .ok (.iand, 1) := by decide +kernel
theorem dX6_noise_48 : decode cX6_noise 48 = .ok (.iconst 1, 1) := by decide +kernel
theorem dX6_noise_49 : decode cX6_noise 49 = .ok (.if_icmp .ne 18, 3) := by decide +kernel
theorem dX6_noise_52 : decode cX6_noise 52 = .ok (.aload_n 0, 1) := by decide +kernel
theorem dX6_noise_53 : decode cX6_noise 53 = .ok (.getfield 9, 3) := by decide +kernel
theorem dX6_noise_56 : decode cX6_noise 56 = .ok (.sipush 348, 3) := by decide +kernel
theorem dX6_noise_59 : decode cX6_noise 59 = .ok (.iload 4, 2) := by decide +kernel
theorem dX6_noise_61 : decode cX6_noise 61 = .ok (.iadd, 1) := by decide +kernel
theorem dX6_noise_62 : decode cX6_noise 62 = .ok (.iaload, 1) := by decide +kernel
theorem dX6_noise_63 : decode cX6_noise 63 = .ok (.i2l, 1) := by decide +kernel
theorem dX6_noise_64 : decode cX6_noise 64 = .ok (.goto 4, 3) := by decide +kernel
theorem dX6_noise_67 : decode cX6_noise 67 = .ok (.lconst 0, 1) := by decide +kernel
theorem dX6_noise_68 : decode cX6_noise 68 = .ok (.ladd, 1) := by decide +kernel
theorem dX6_noise_69 : decode cX6_noise 69 = .ok (.lstore_n 2, 1) := by decide +kernel
theorem dX6_noise_70 : decode cX6_noise 70 = .ok (.iinc 4 1, 3) := by decide +kernel
theorem dX6_noise_73 : decode cX6_noise 73 = .ok (.goto (-53), 3) := by decide +kernel
theorem dX6_noise_76 : decode cX6_noise 76 = .ok (.lload_n 2, 1) := by decide +kernel
theorem dX6_noise_77 : decode cX6_noise 77 = .ok (.lreturn, 1) := by decide +kernel
theorem dX6_lay_0 : decode cX6_lay 0 = .ok (.iconst 0, 1) := by decide +kernel
theorem dX6_lay_1 : decode cX6_lay 1 = .ok (.istore_n 2, 1) := by decide +kernel
theorem dX6_lay_2 : decode cX6_lay 2 = .ok (.iload_n 2, 1) := by decide +kernel
theorem dX6_lay_3 : decode cX6_lay 3 = .ok (.sipush 448, 3) := by decide +kernel
theorem dX6_lay_6 : decode cX6_lay 6 = .ok (.if_icmp .ge 15, 3) := by decide +kernel
theorem dX6_lay_9 : decode cX6_lay 9 = .ok (.aload_n 1, 1) := by decide +kernel
theorem dX6_lay_10 : decode cX6_lay 10 = .ok (.iload_n 2, 1) := by decide +kernel
theorem dX6_lay_11 : decode cX6_lay 11 = .ok (.aload_n 0, 1) := by decide +kernel
theorem dX6_lay_12 : decode cX6_lay 12 = .ok (.iload_n 2, 1) := by decide +kernel
theorem dX6_lay_13 : decode cX6_lay 13 = .ok (.iaload, 1) := by decide +kernel
theorem dX6_lay_14 : decode cX6_lay 14 = .ok (.iastore, 1) := by decide +kernel
theorem dX6_lay_15 : decode cX6_lay 15 = .ok (.iinc 2 1, 3) := by decide +kernel
theorem dX6_lay_18 : decode cX6_lay 18 = .ok (.goto (-16), 3) := by decide +kernel
theorem dX6_lay_21 : decode cX6_lay 21 = .ok (.return_, 1) := by decide +kernel
theorem dX6_goes_0 : decode cX6_goes 0 = .ok (.aload_n 0, 1) := by decide +kernel
theorem dX6_goes_1 : decode cX6_goes 1 = .ok (.iconst 0, 1) := by decide +kernel
theorem dX6_goes_2 : decode cX6_goes 2 = .ok (.putfield 143, 3) := by decide +kernel
theorem dX6_goes_5 : decode cX6_goes 5 = .ok (.iconst 0, 1) := by decide +kernel
theorem dX6_goes_6 : decode cX6_goes 6 = .ok (.istore_n 2, 1) := by decide +kernel
theorem dX6_goes_7 : decode cX6_goes 7 = .ok (.iload_n 2, 1) := by decide +kernel
theorem dX6_goes_8 : decode cX6_goes 8 = .ok (.iload_n 1, 1) := by decide +kernel
theorem dX6_goes_9 : decode cX6_goes 9 = .ok (.if_icmp .ge 46, 3) := by decide +kernel
theorem dX6_goes_12 : decode cX6_goes 12 = .ok (.aload_n 0, 1) := by decide +kernel
theorem dX6_goes_13 : decode cX6_goes 13 = .ok (.invokevirtual 140, 3) := by decide +kernel
theorem dX6_goes_16 : decode cX6_goes 16 = .ok (.aload_n 0, 1) := by decide +kernel
theorem dX6_goes_17 : decode cX6_goes 17 = .ok (.getfield 31, 3) := by decide +kernel
theorem dX6_goes_20 : decode cX6_goes 20 = .ok (.iload_n 2, 1) := by decide +kernel
theorem dX6_goes_21 : decode cX6_goes 21 = .ok (.aload_n 0, 1) := by decide +kernel
theorem dX6_goes_22 : decode cX6_goes 22 = .ok (.getfield 124, 3) := by decide +kernel
theorem dX6_goes_25 : decode cX6_goes 25 = .ok (.iastore, 1) := by decide +kernel
theorem dX6_goes_26 : decode cX6_goes 26 = .ok (.aload_n 0, 1) := by decide +kernel
theorem dX6_goes_27 : decode cX6_goes 27 = .ok (.getfield 34, 3) := by decide +kernel
theorem dX6_goes_30 : decode cX6_goes 30 = .ok (.iload_n 2, 1) := by decide +kernel
theorem dX6_goes_31 : decode cX6_goes 31 = .ok (.aload_n 0, 1) := by decide +kernel
theorem dX6_goes_32 : decode cX6_goes 32 = .ok (.getfield 108, 3) := by decide +kernel
theorem dX6_goes_35 : decode cX6_goes 35 = .ok (.iastore, 1) := by decide +kernel
theorem dX6_goes_36 : decode cX6_goes 36 = .ok (.aload_n 0, 1) := by decide +kernel
theorem dX6_goes_37 : decode cX6_goes 37 = .ok (.dup, 1) := by decide +kernel
theorem dX6_goes_38 : decode cX6_goes 38 = .ok (.getfield 143, 3) := by decide +kernel
theorem dX6_goes_41 : decode cX6_goes 41 = .ok (.aload_n 0, 1) := by decide +kernel
theorem dX6_goes_42 : decode cX6_goes 42 = .ok (.getfield 127, 3) := by decide +kernel
theorem dX6_goes_45 : decode cX6_goes 45 = .ok (.iadd, 1) := by decide +kernel
theorem dX6_goes_46 : decode cX6_goes 46 = .ok (.putfield 143, 3) := by decide +kernel
theorem dX6_goes_49 : decode cX6_goes 49 = .ok (.iinc 2 1, 3) := by decide +kernel
theorem dX6_goes_52 : decode cX6_goes 52 = .ok (.goto (-45), 3) := by decide +kernel
theorem dX6_goes_55 : decode cX6_goes 55 = .ok (.return_, 1) := by decide +kernel
theorem dX6_isAhead_0 : decode cX6_isAhead 0 = .ok (.iload_n 0, 1) := by decide +kernel
theorem dX6_isAhead_1 : decode cX6_isAhead 1 = .ok (.iconst 1, 1) := by decide +kernel
theorem dX6_isAhead_2 : decode cX6_isAhead 2 = .ok (.bipush 60, 2) := by decide +kernel
theorem dX6_isAhead_4 : decode cX6_isAhead 4 = .ok (.invokestatic 57, 3) := by decide +kernel
theorem dX6_isAhead_7 : decode cX6_isAhead 7 = .ok (.ireturn, 1) := by decide +kernel
theorem dX6_jumps_0 : decode cX6_jumps 0 = .ok (.iconst 0, 1) := by decide +kernel
theorem dX6_jumps_1 : decode cX6_jumps 1 = .ok (.istore_n 2, 1) := by decide +kernel
theorem dX6_jumps_2 : decode cX6_jumps 2 = .ok (.iconst 0, 1) := by decide +kernel
theorem dX6_jumps_3 : decode cX6_jumps 3 = .ok (.istore_n 3, 1) := by decide +kernel
theorem dX6_jumps_4 : decode cX6_jumps 4 = .ok (.iload_n 3, 1) := by decide +kernel
theorem dX6_jumps_5 : decode cX6_jumps 5 = .ok (.iload_n 1, 1) := by decide +kernel
theorem dX6_jumps_6 : decode cX6_jumps 6 = .ok (.if_icmp .ge 26, 3) := by decide +kernel
theorem dX6_jumps_9 : decode cX6_jumps 9 = .ok (.iload_n 2, 1) := by decide +kernel
theorem dX6_jumps_10 : decode cX6_jumps 10 = .ok (.aload_n 0, 1) := by decide +kernel
theorem dX6_jumps_11 : decode cX6_jumps 11 = .ok (.getfield 31, 3) := by decide +kernel
theorem dX6_jumps_14 : decode cX6_jumps 14 = .ok (.iload_n 3, 1) := by decide +kernel
theorem dX6_jumps_15 : decode cX6_jumps 15 = .ok (.iaload, 1) := by decide +kernel
theorem dX6_jumps_16 : decode cX6_jumps 16 = .ok (.ifCond .le 7, 3) := by decide +kernel
theorem dX6_jumps_19 : decode cX6_jumps 19 = .ok (.iconst 1, 1) := by decide +kernel
theorem dX6_jumps_20 : decode cX6_jumps 20 = .ok (.goto 4, 3) := by decide +kernel
theorem dX6_jumps_23 : decode cX6_jumps 23 = .ok (.iconst 0, 1) := by decide +kernel
theorem dX6_jumps_24 : decode cX6_jumps 24 = .ok (.iadd, 1) := by decide +kernel
theorem dX6_jumps_25 : decode cX6_jumps 25 = .ok (.istore_n 2, 1) := by decide +kernel
theorem dX6_jumps_26 : decode cX6_jumps 26 = .ok (.iinc 3 1, 3) := by decide +kernel
theorem dX6_jumps_29 : decode cX6_jumps 29 = .ok (.goto (-25), 3) := by decide +kernel
theorem dX6_jumps_32 : decode cX6_jumps 32 = .ok (.iload_n 2, 1) := by decide +kernel
theorem dX6_jumps_33 : decode cX6_jumps 33 = .ok (.ireturn, 1) := by decide +kernel
theorem dX6_greatest_0 : decode cX6_greatest 0 = .ok (.iconst 0, 1) := by decide +kernel
theorem dX6_greatest_1 : decode cX6_greatest 1 = .ok (.istore_n 2, 1) := by decide +kernel
theorem dX6_greatest_2 : decode cX6_greatest 2 = .ok (.iconst 0, 1) := by decide +kernel
theorem dX6_greatest_3 : decode cX6_greatest 3 = .ok (.istore_n 3, 1) := by decide +kernel
theorem dX6_greatest_4 : decode cX6_greatest 4 = .ok (.iload_n 3, 1) := by decide +kernel
theorem dX6_greatest_5 : decode cX6_greatest 5 = .ok (.iload_n 1, 1) := by decide +kernel
theorem dX6_greatest_6 : decode cX6_greatest 6 = .ok (.if_icmp .ge 20, 3) := by decide +kernel
theorem dX6_greatest_9 : decode cX6_greatest 9 = .ok (.iload_n 2, 1) := by decide +kernel
theorem dX6_greatest_10 : decode cX6_greatest 10 = .ok (.aload_n 0, 1) := by decide +kernel
theorem dX6_greatest_11 : decode cX6_greatest 11 = .ok (.getfield 31, 3) := by decide +kernel
theorem dX6_greatest_14 : decode cX6_greatest 14 = .ok (.iload_n 3, 1) := by decide +kernel
theorem dX6_greatest_15 : decode cX6_greatest 15 = .ok (.iaload, 1) := by decide +kernel
theorem dX6_greatest_16 : decode cX6_greatest 16 = .ok (.invokestatic 71, 3) := by decide +kernel
theorem dX6_greatest_19 : decode cX6_greatest 19 = .ok (.istore_n 2, 1) := by decide +kernel
theorem dX6_greatest_20 : decode cX6_greatest 20 = .ok (.iinc 3 1, 3) := by decide +kernel
theorem dX6_greatest_23 : decode cX6_greatest 23 = .ok (.goto (-19), 3) := by decide +kernel
theorem dX6_greatest_26 : decode cX6_greatest 26 = .ok (.iload_n 2, 1) := by decide +kernel
theorem dX6_greatest_27 : decode cX6_greatest 27 = .ok (.ireturn, 1) := by decide +kernel
theorem dX6_ahead_0 : decode cX6_ahead 0 = .ok (.iload_n 1, 1) := by decide +kernel
theorem dX6_ahead_1 : decode cX6_ahead 1 = .ok (.invokestatic 146, 3) := by decide +kernel
theorem dX6_ahead_4 : decode cX6_ahead 4 = .ok (.ifCond .eq 19, 3) := by decide +kernel
theorem dX6_ahead_7 : decode cX6_ahead 7 = .ok (.iload_n 2, 1) := by decide +kernel
theorem dX6_ahead_8 : decode cX6_ahead 8 = .ok (.iconst 0, 1) := by decide +kernel
theorem dX6_ahead_9 : decode cX6_ahead 9 = .ok (.iconst 3, 1) := by decide +kernel
theorem dX6_ahead_10 : decode cX6_ahead 10 = .ok (.aload_n 0, 1) := by decide +kernel
theorem dX6_ahead_11 : decode cX6_ahead 11 = .ok (.getfield 9, 3) := by decide +kernel
theorem dX6_ahead_14 : decode cX6_ahead 14 = .ok (.iconst 0, 1) := by decide +kernel
theorem dX6_ahead_15 : decode cX6_ahead 15 = .ok (.iaload, 1) := by decide +kernel
theorem dX6_ahead_16 : decode cX6_ahead 16 = .ok (.iadd, 1) := by decide +kernel
theorem dX6_ahead_17 : decode cX6_ahead 17 = .ok (.invokestatic 57, 3) := by decide +kernel
theorem dX6_ahead_20 : decode cX6_ahead 20 = .ok (.ifCond .ne 9, 3) := by decide +kernel
theorem dX6_ahead_23 : decode cX6_ahead 23 = .ok (.aload_n 0, 1) := by decide +kernel
theorem dX6_ahead_24 : decode cX6_ahead 24 = .ok (.iconst 0, 1) := by decide +kernel
theorem dX6_ahead_25 : decode cX6_ahead 25 = .ok (.invokevirtual 85, 3) := by decide +kernel
theorem dX6_ahead_28 : decode cX6_ahead 28 = .ok (.ireturn, 1) := by decide +kernel
theorem dX6_ahead_29 : decode cX6_ahead 29 = .ok (.aload_n 0, 1) := by decide +kernel
theorem dX6_ahead_30 : decode cX6_ahead 30 = .ok (.getfield 9, 3) := by decide +kernel
theorem dX6_ahead_33 : decode cX6_ahead 33 = .ok (.aload_n 0, 1) := by decide +kernel
theorem dX6_ahead_34 : decode cX6_ahead 34 = .ok (.getfield 16, 3) := by decide +kernel
theorem dX6_ahead_37 : decode cX6_ahead 37 = .ok (.invokestatic 149, 3) := by decide +kernel
theorem dX6_ahead_40 : decode cX6_ahead 40 = .ok (.aload_n 0, 1) := by decide +kernel
theorem dX6_ahead_41 : decode cX6_ahead 41 = .ok (.iload_n 1, 1) := by decide +kernel
theorem dX6_ahead_42 : decode cX6_ahead 42 = .ok (.invokevirtual 153, 3) := by decide +kernel
theorem dX6_ahead_45 : decode cX6_ahead 45 = .ok (.iload_n 2, 1) := by decide +kernel
theorem dX6_ahead_46 : decode cX6_ahead 46 = .ok (.iconst 3, 1) := by decide +kernel
theorem dX6_ahead_47 : decode cX6_ahead 47 = .ok (.if_icmp .le 14, 3) := by decide +kernel
theorem dX6_ahead_50 : decode cX6_ahead 50 = .ok (.aload_n 0, 1) := by decide +kernel
theorem dX6_ahead_51 : decode cX6_ahead 51 = .ok (.iload_n 2, 1) := by decide +kernel
theorem dX6_ahead_52 : decode cX6_ahead 52 = .ok (.iconst 4, 1) := by decide +kernel
theorem dX6_ahead_53 : decode cX6_ahead 53 = .ok (.isub, 1) := by decide +kernel
theorem dX6_ahead_54 : decode cX6_ahead 54 = .ok (.iconst 5, 1) := by decide +kernel
theorem dX6_ahead_55 : decode cX6_ahead 55 = .ok (.invokevirtual 61, 3) := by decide +kernel
theorem dX6_ahead_58 : decode cX6_ahead 58 = .ok (.goto 4, 3) := by decide +kernel
theorem dX6_ahead_61 : decode cX6_ahead 61 = .ok (.iconst 0, 1) := by decide +kernel
theorem dX6_ahead_62 : decode cX6_ahead 62 = .ok (.istore_n 3, 1) := by decide +kernel
theorem dX6_ahead_63 : decode cX6_ahead 63 = .ok (.aload_n 0, 1) := by decide +kernel
theorem dX6_ahead_64 : decode cX6_ahead 64 = .ok (.getfield 16, 3) := by decide +kernel
theorem dX6_ahead_67 : decode cX6_ahead 67 = .ok (.aload_n 0, 1) := by decide +kernel
theorem dX6_ahead_68 : decode cX6_ahead 68 = .ok (.getfield 9, 3) := by decide +kernel
theorem dX6_ahead_71 : decode cX6_ahead 71 = .ok (.invokestatic 149, 3) := by decide +kernel
theorem dX6_ahead_74 : decode cX6_ahead 74 = .ok (.iload_n 2, 1) := by decide +kernel
theorem dX6_ahead_75 : decode cX6_ahead 75 = .ok (.tableswitch 61 0 3 #[29, 35, 50, 56], 29) := by decide +kernel
theorem dX6_ahead_104 : decode cX6_ahead 104 = .ok (.aload_n 0, 1) := by decide +kernel
theorem dX6_ahead_105 : decode cX6_ahead 105 = .ok (.iload_n 1, 1) := by decide +kernel
theorem dX6_ahead_106 : decode cX6_ahead 106 = .ok (.invokevirtual 157, 3) := by decide +kernel
theorem dX6_ahead_109 : decode cX6_ahead 109 = .ok (.ireturn, 1) := by decide +kernel
theorem dX6_ahead_110 : decode cX6_ahead 110 = .ok (.aload_n 0, 1) := by decide +kernel
theorem dX6_ahead_111 : decode cX6_ahead 111 = .ok (.iload_n 1, 1) := by decide +kernel
theorem dX6_ahead_112 : decode cX6_ahead 112 = .ok (.invokevirtual 157, 3) := by decide +kernel
theorem dX6_ahead_115 : decode cX6_ahead 115 = .ok (.iload_n 1, 1) := by decide +kernel
theorem dX6_ahead_116 : decode cX6_ahead 116 = .ok (.if_icmp .ne 7, 3) := by decide +kernel
theorem dX6_ahead_119 : decode cX6_ahead 119 = .ok (.iconst 1, 1) := by decide +kernel
theorem dX6_ahead_120 : decode cX6_ahead 120 = .ok (.goto 4, 3) := by decide +kernel
theorem dX6_ahead_123 : decode cX6_ahead 123 = .ok (.iconst 0, 1) := by decide +kernel
theorem dX6_ahead_124 : decode cX6_ahead 124 = .ok (.ireturn, 1) := by decide +kernel
theorem dX6_ahead_125 : decode cX6_ahead 125 = .ok (.aload_n 0, 1) := by decide +kernel
theorem dX6_ahead_126 : decode cX6_ahead 126 = .ok (.iload_n 1, 1) := by decide +kernel
theorem dX6_ahead_127 : decode cX6_ahead 127 = .ok (.invokevirtual 160, 3) := by decide +kernel
theorem dX6_ahead_130 : decode cX6_ahead 130 = .ok (.ireturn, 1) := by decide +kernel
theorem dX6_ahead_131 : decode cX6_ahead 131 = .ok (.aload_n 0, 1) := by decide +kernel
theorem dX6_ahead_132 : decode cX6_ahead 132 = .ok (.getfield 143, 3) := by decide +kernel
theorem dX6_ahead_135 : decode cX6_ahead 135 = .ok (.ireturn, 1) := by decide +kernel
theorem dX6_ahead_136 : decode cX6_ahead 136 = .ok (.iload_n 3, 1) := by decide +kernel
theorem dX6_ahead_137 : decode cX6_ahead 137 = .ok (.ireturn, 1) := by decide +kernel
theorem dX6_isSo_0 : decode cX6_isSo 0 = .ok (.aload_n 0, 1) := by decide +kernel
theorem dX6_isSo_1 : decode cX6_isSo 1 = .ok (.getfield 9, 3) := by decide +kernel
theorem dX6_isSo_4 : decode cX6_isSo 4 = .ok (.aload_n 0, 1) := by decide +kernel
theorem dX6_isSo_5 : decode cX6_isSo 5 = .ok (.getfield 16, 3) := by decide +kernel
theorem dX6_isSo_8 : decode cX6_isSo 8 = .ok (.invokestatic 149, 3) := by decide +kernel
theorem dX6_isSo_11 : decode cX6_isSo 11 = .ok (.aload_n 0, 1) := by decide +kernel
theorem dX6_isSo_12 : decode cX6_isSo 12 = .ok (.getfield 9, 3) := by decide +kernel
theorem dX6_isSo_15 : decode cX6_isSo 15 = .ok (.iload_n 2, 1) := by decide +kernel
theorem dX6_isSo_16 : decode cX6_isSo 16 = .ok (.iload_n 3, 1) := by decide +kernel
theorem dX6_isSo_17 : decode cX6_isSo 17 = .ok (.iastore, 1) := by decide +kernel
theorem dX6_isSo_18 : decode cX6_isSo 18 = .ok (.aload_n 0, 1) := by decide +kernel
theorem dX6_isSo_19 : decode cX6_isSo 19 = .ok (.iload_n 1, 1) := by decide +kernel
theorem dX6_isSo_20 : decode cX6_isSo 20 = .ok (.invokevirtual 153, 3) := by decide +kernel
theorem dX6_isSo_23 : decode cX6_isSo 23 = .ok (.aload_n 0, 1) := by decide +kernel
theorem dX6_isSo_24 : decode cX6_isSo 24 = .ok (.getfield 16, 3) := by decide +kernel
theorem dX6_isSo_27 : decode cX6_isSo 27 = .ok (.aload_n 0, 1) := by decide +kernel
theorem dX6_isSo_28 : decode cX6_isSo 28 = .ok (.getfield 9, 3) := by decide +kernel
theorem dX6_isSo_31 : decode cX6_isSo 31 = .ok (.invokestatic 149, 3) := by decide +kernel
theorem dX6_isSo_34 : decode cX6_isSo 34 = .ok (.iload 4, 2) := by decide +kernel
theorem dX6_isSo_36 : decode cX6_isSo 36 = .ok (.ifCond .ne 20, 3) := by decide +kernel
theorem dX6_isSo_39 : decode cX6_isSo 39 = .ok (.aload_n 0, 1) := by decide +kernel
theorem dX6_isSo_40 : decode cX6_isSo 40 = .ok (.iload_n 1, 1) := by decide +kernel
theorem dX6_isSo_41 : decode cX6_isSo 41 = .ok (.invokevirtual 157, 3) := by decide +kernel
theorem dX6_isSo_44 : decode cX6_isSo 44 = .ok (.iload_n 1, 1) := by decide +kernel
theorem dX6_isSo_45 : decode cX6_isSo 45 = .ok (.if_icmp .ne 7, 3) := by decide +kernel
theorem dX6_isSo_48 : decode cX6_isSo 48 = .ok (.iconst 1, 1) := by decide +kernel
theorem dX6_isSo_49 : decode cX6_isSo 49 = .ok (.goto 22, 3) := by decide +kernel
theorem dX6_isSo_52 : decode cX6_isSo 52 = .ok (.iconst 0, 1) := by decide +kernel
theorem dX6_isSo_53 : decode cX6_isSo 53 = .ok (.goto 18, 3) := by decide +kernel
theorem dX6_isSo_56 : decode cX6_isSo 56 = .ok (.aload_n 0, 1) := by decide +kernel
theorem dX6_isSo_57 : decode cX6_isSo 57 = .ok (.iload_n 1, 1) := by decide +kernel
theorem dX6_isSo_58 : decode cX6_isSo 58 = .ok (.invokevirtual 160, 3) := by decide +kernel
theorem dX6_isSo_61 : decode cX6_isSo 61 = .ok (.iload 5, 2) := by decide +kernel
theorem dX6_isSo_63 : decode cX6_isSo 63 = .ok (.if_icmp .gt 7, 3) := by decide +kernel
theorem dX6_isSo_66 : decode cX6_isSo 66 = .ok (.iconst 1, 1) := by decide +kernel
theorem dX6_isSo_67 : decode cX6_isSo 67 = .ok (.goto 4, 3) := by decide +kernel
theorem dX6_isSo_70 : decode cX6_isSo 70 = .ok (.iconst 0, 1) := by decide +kernel
theorem dX6_isSo_71 : decode cX6_isSo 71 = .ok (.ireturn, 1) := by decide +kernel
theorem dX6_leastSo_0 : decode cX6_leastSo 0 = .ok (.iconst 0, 1) := by decide +kernel
theorem dX6_leastSo_1 : decode cX6_leastSo 1 = .ok (.istore 5, 2) := by decide +kernel
theorem dX6_leastSo_3 : decode cX6_leastSo 3 = .ok (.iload 5, 2) := by decide +kernel
theorem dX6_leastSo_5 : decode cX6_leastSo 5 = .ok (.bipush 99, 2) := by decide +kernel
theorem dX6_leastSo_7 : decode cX6_leastSo 7 = .ok (.if_icmp .gt 23, 3) := by decide +kernel
theorem dX6_leastSo_10 : decode cX6_leastSo 10 = .ok (.aload_n 0, 1) := by decide +kernel
theorem dX6_leastSo_11 : decode cX6_leastSo 11 = .ok (.iload_n 1, 1) := by decide +kernel
theorem dX6_leastSo_12 : decode cX6_leastSo 12 = .ok (.iload_n 2, 1) := by decide +kernel
theorem dX6_leastSo_13 : decode cX6_leastSo 13 = .ok (.iload 5, 2) := by decide +kernel
theorem dX6_leastSo_15 : decode cX6_leastSo 15 = .ok (.iload_n 3, 1) := by decide +kernel
theorem dX6_leastSo_16 : decode cX6_leastSo 16 = .ok (.iload 4, 2) := by decide +kernel
theorem dX6_leastSo_18 : decode cX6_leastSo 18 = .ok (.invokevirtual 163, 3) := by decide +kernel
theorem dX6_leastSo_21 : decode cX6_leastSo 21 = .ok (.ifCond .ne 9, 3) := by decide +kernel
theorem dX6_leastSo_24 : decode cX6_leastSo 24 = .ok (.iinc 5 1, 3) := by decide +kernel
theorem dX6_leastSo_27 : decode cX6_leastSo 27 = .ok (.goto (-24), 3) := by decide +kernel
theorem dX6_leastSo_30 : decode cX6_leastSo 30 = .ok (.iload 5, 2) := by decide +kernel
theorem dX6_leastSo_32 : decode cX6_leastSo 32 = .ok (.bipush 99, 2) := by decide +kernel
theorem dX6_leastSo_34 : decode cX6_leastSo 34 = .ok (.if_icmp .gt 8, 3) := by decide +kernel
theorem dX6_leastSo_37 : decode cX6_leastSo 37 = .ok (.iload 5, 2) := by decide +kernel
theorem dX6_leastSo_39 : decode cX6_leastSo 39 = .ok (.goto 8, 3) := by decide +kernel
theorem dX6_leastSo_42 : decode cX6_leastSo 42 = .ok (.aload_n 0, 1) := by decide +kernel
theorem dX6_leastSo_43 : decode cX6_leastSo 43 = .ok (.iconst 3, 1) := by decide +kernel
theorem dX6_leastSo_44 : decode cX6_leastSo 44 = .ok (.invokevirtual 85, 3) := by decide +kernel
theorem dX6_leastSo_47 : decode cX6_leastSo 47 = .ok (.ireturn, 1) := by decide +kernel
theorem dX6_from_0 : decode cX6_from 0 = .ok (.iload_n 1, 1) := by decide +kernel
theorem dX6_from_1 : decode cX6_from 1 = .ok (.invokestatic 146, 3) := by decide +kernel
theorem dX6_from_4 : decode cX6_from 4 = .ok (.ifCond .eq 14, 3) := by decide +kernel
theorem dX6_from_7 : decode cX6_from 7 = .ok (.aload_n 0, 1) := by decide +kernel
theorem dX6_from_8 : decode cX6_from 8 = .ok (.iload_n 1, 1) := by decide +kernel
theorem dX6_from_9 : decode cX6_from 9 = .ok (.iconst 2, 1) := by decide +kernel
theorem dX6_from_10 : decode cX6_from 10 = .ok (.iconst 0, 1) := by decide +kernel
theorem dX6_from_11 : decode cX6_from 11 = .ok (.iconst 0, 1) := by decide +kernel
theorem dX6_from_12 : decode cX6_from 12 = .ok (.invokevirtual 167, 3) := by decide +kernel
theorem dX6_from_15 : decode cX6_from 15 = .ok (.goto 8, 3) := by decide +kernel
theorem dX6_from_18 : decode cX6_from 18 = .ok (.aload_n 0, 1) := by decide +kernel
theorem dX6_from_19 : decode cX6_from 19 = .ok (.iconst 0, 1) := by decide +kernel
theorem dX6_from_20 : decode cX6_from 20 = .ok (.invokevirtual 85, 3) := by decide +kernel
theorem dX6_from_23 : decode cX6_from 23 = .ok (.ireturn, 1) := by decide +kernel
theorem dX6_still_0 : decode cX6_still 0 = .ok (.aload_n 0, 1) := by decide +kernel
theorem dX6_still_1 : decode cX6_still 1 = .ok (.iload_n 1, 1) := by decide +kernel
theorem dX6_still_2 : decode cX6_still 2 = .ok (.invokevirtual 92, 3) := by decide +kernel
theorem dX6_still_5 : decode cX6_still 5 = .ok (.ifCond .eq 21, 3) := by decide +kernel
theorem dX6_still_8 : decode cX6_still 8 = .ok (.iload_n 2, 1) := by decide +kernel
theorem dX6_still_9 : decode cX6_still 9 = .ok (.invokestatic 146, 3) := by decide +kernel
theorem dX6_still_12 : decode cX6_still 12 = .ok (.ifCond .eq 14, 3) := by decide +kernel
theorem dX6_still_15 : decode cX6_still 15 = .ok (.iload_n 3, 1) := by decide +kernel
theorem dX6_still_16 : decode cX6_still 16 = .ok (.iconst 0, 1) := by decide +kernel
theorem dX6_still_17 : decode cX6_still 17 = .ok (.sipush 400, 3) := by decide +kernel
theorem dX6_still_20 : decode cX6_still 20 = .ok (.invokestatic 57, 3) := by decide +kernel
theorem dX6_still_23 : decode cX6_still 23 = .ok (.ifCond .ne 9, 3) := by decide +kernel
theorem dX6_still_26 : decode cX6_still 26 = .ok (.aload_n 0, 1) := by decide +kernel
theorem dX6_still_27 : decode cX6_still 27 = .ok (.iconst 0, 1) := by decide +kernel
theorem dX6_still_28 : decode cX6_still 28 = .ok (.invokevirtual 85, 3) := by decide +kernel
theorem dX6_still_31 : decode cX6_still 31 = .ok (.ireturn, 1) := by decide +kernel
theorem dX6_still_32 : decode cX6_still 32 = .ok (.aload_n 0, 1) := by decide +kernel
theorem dX6_still_33 : decode cX6_still 33 = .ok (.iload_n 2, 1) := by decide +kernel
theorem dX6_still_34 : decode cX6_still 34 = .ok (.bipush 78, 2) := by decide +kernel
theorem dX6_still_36 : decode cX6_still 36 = .ok (.bipush 7, 2) := by decide +kernel
theorem dX6_still_38 : decode cX6_still 38 = .ok (.iload_n 1, 1) := by decide +kernel
theorem dX6_still_39 : decode cX6_still 39 = .ok (.imul, 1) := by decide +kernel
theorem dX6_still_40 : decode cX6_still 40 = .ok (.iadd, 1) := by decide +kernel
theorem dX6_still_41 : decode cX6_still 41 = .ok (.iconst 4, 1) := by decide +kernel
theorem dX6_still_42 : decode cX6_still 42 = .ok (.iadd, 1) := by decide +kernel
theorem dX6_still_43 : decode cX6_still 43 = .ok (.iconst 1, 1) := by decide +kernel
theorem dX6_still_44 : decode cX6_still 44 = .ok (.iload_n 3, 1) := by decide +kernel
theorem dX6_still_45 : decode cX6_still 45 = .ok (.invokevirtual 167, 3) := by decide +kernel
theorem dX6_still_48 : decode cX6_still 48 = .ok (.ireturn, 1) := by decide +kernel
theorem dX6_gives_0 : decode cX6_gives 0 = .ok (.aload_n 0, 1) := by decide +kernel
theorem dX6_gives_1 : decode cX6_gives 1 = .ok (.iload_n 3, 1) := by decide +kernel
theorem dX6_gives_2 : decode cX6_gives 2 = .ok (.invokevirtual 171, 3) := by decide +kernel
theorem dX6_gives_5 : decode cX6_gives 5 = .ok (.istore 4, 2) := by decide +kernel
theorem dX6_gives_7 : decode cX6_gives 7 = .ok (.iconst 1, 1) := by decide +kernel
theorem dX6_gives_8 : decode cX6_gives 8 = .ok (.istore 5, 2) := by decide +kernel
theorem dX6_gives_10 : decode cX6_gives 10 = .ok (.aload_n 0, 1) := by decide +kernel
theorem dX6_gives_11 : decode cX6_gives 11 = .ok (.getfield 9, 3) := by decide +kernel
theorem dX6_gives_14 : decode cX6_gives 14 = .ok (.aload_n 0, 1) := by decide +kernel
theorem dX6_gives_15 : decode cX6_gives 15 = .ok (.getfield 16, 3) := by decide +kernel
theorem dX6_gives_18 : decode cX6_gives 18 = .ok (.invokestatic 149, 3) := by decide +kernel
theorem dX6_gives_21 : decode cX6_gives 21 = .ok (.aload_n 0, 1) := by decide +kernel
theorem dX6_gives_22 : decode cX6_gives 22 = .ok (.iload_n 1, 1) := by decide +kernel
theorem dX6_gives_23 : decode cX6_gives 23 = .ok (.iconst 0, 1) := by decide +kernel
theorem dX6_gives_24 : decode cX6_gives 24 = .ok (.iload_n 2, 1) := by decide +kernel
theorem dX6_gives_25 : decode cX6_gives 25 = .ok (.invokevirtual 88, 3) := by decide +kernel
theorem dX6_gives_28 : decode cX6_gives 28 = .ok (.pop, 1) := by decide +kernel
theorem dX6_gives_29 : decode cX6_gives 29 = .ok (.iconst 0, 1) := by decide +kernel
theorem dX6_gives_30 : decode cX6_gives 30 = .ok (.istore 6, 2) := by decide +kernel
theorem dX6_gives_32 : decode cX6_gives 32 = .ok (.iload 6, 2) := by decide +kernel
theorem dX6_gives_34 : decode cX6_gives 34 = .ok (.iload 4, 2) := by decide +kernel
theorem dX6_gives_36 : decode cX6_gives 36 = .ok (.if_icmp .ge 46, 3) := by decide +kernel
theorem dX6_gives_39 : decode cX6_gives 39 = .ok (.iload 5, 2) := by decide +kernel
theorem dX6_gives_41 : decode cX6_gives 41 = .ok (.ifCond .eq 41, 3) := by decide +kernel
theorem dX6_gives_44 : decode cX6_gives 44 = .ok (.aload_n 0, 1) := by decide +kernel
theorem dX6_gives_45 : decode cX6_gives 45 = .ok (.invokevirtual 140, 3) := by decide +kernel
theorem dX6_gives_48 : decode cX6_gives 48 = .ok (.aload_n 0, 1) := by decide +kernel
theorem dX6_gives_49 : decode cX6_gives 49 = .ok (.getfield 49, 3) := by decide +kernel
theorem dX6_gives_52 : decode cX6_gives 52 = .ok (.bipush 40, 2) := by decide +kernel
theorem dX6_gives_54 : decode cX6_gives 54 = .ok (.iload_n 3, 1) := by decide +kernel
theorem dX6_gives_55 : decode cX6_gives 55 = .ok (.imul, 1) := by decide +kernel
theorem dX6_gives_56 : decode cX6_gives 56 = .ok (.iload 6, 2) := by decide +kernel
theorem dX6_gives_58 : decode cX6_gives 58 = .ok (.iadd, 1) := by decide +kernel
theorem dX6_gives_59 : decode cX6_gives 59 = .ok (.laload, 1) := by decide +kernel
theorem dX6_gives_60 : decode cX6_gives 60 = .ok (.aload_n 0, 1) := by decide +kernel
theorem dX6_gives_61 : decode cX6_gives 61 = .ok (.getfield 124, 3) := by decide +kernel
theorem dX6_gives_64 : decode cX6_gives 64 = .ok (.i2l, 1) := by decide +kernel
theorem dX6_gives_65 : decode cX6_gives 65 = .ok (.lcmp, 1) := by decide +kernel
theorem dX6_gives_66 : decode cX6_gives 66 = .ok (.ifCond .ne 7, 3) := by decide +kernel
theorem dX6_gives_69 : decode cX6_gives 69 = .ok (.iconst 1, 1) := by decide +kernel
theorem dX6_gives_70 : decode cX6_gives 70 = .ok (.goto 4, 3) := by decide +kernel
theorem dX6_gives_73 : decode cX6_gives 73 = .ok (.iconst 0, 1) := by decide +kernel
theorem dX6_gives_74 : decode cX6_gives 74 = .ok (.istore 5, 2) := by decide +kernel
theorem dX6_gives_76 : decode cX6_gives 76 = .ok (.iinc 6 1, 3) := by decide +kernel
theorem dX6_gives_79 : decode cX6_gives 79 = .ok (.goto (-47), 3) := by decide +kernel
theorem dX6_gives_82 : decode cX6_gives 82 = .ok (.aload_n 0, 1) := by decide +kernel
theorem dX6_gives_83 : decode cX6_gives 83 = .ok (.getfield 16, 3) := by decide +kernel
theorem dX6_gives_86 : decode cX6_gives 86 = .ok (.aload_n 0, 1) := by decide +kernel
theorem dX6_gives_87 : decode cX6_gives 87 = .ok (.getfield 9, 3) := by decide +kernel
theorem dX6_gives_90 : decode cX6_gives 90 = .ok (.invokestatic 149, 3) := by decide +kernel
theorem dX6_gives_93 : decode cX6_gives 93 = .ok (.iload 5, 2) := by decide +kernel
theorem dX6_gives_95 : decode cX6_gives 95 = .ok (.ireturn, 1) := by decide +kernel
theorem dX6_which_0 : decode cX6_which 0 = .ok (.aload_n 0, 1) := by decide +kernel
theorem dX6_which_1 : decode cX6_which 1 = .ok (.iload_n 1, 1) := by decide +kernel
theorem dX6_which_2 : decode cX6_which 2 = .ok (.invokevirtual 92, 3) := by decide +kernel
theorem dX6_which_5 : decode cX6_which 5 = .ok (.ifCond .eq 10, 3) := by decide +kernel
theorem dX6_which_8 : decode cX6_which 8 = .ok (.iload_n 2, 1) := by decide +kernel
theorem dX6_which_9 : decode cX6_which 9 = .ok (.invokestatic 174, 3) := by decide +kernel
theorem dX6_which_12 : decode cX6_which 12 = .ok (.ifCond .ne 9, 3) := by decide +kernel
theorem dX6_which_15 : decode cX6_which 15 = .ok (.aload_n 0, 1) := by decide +kernel
theorem dX6_which_16 : decode cX6_which 16 = .ok (.iconst 0, 1) := by decide +kernel
theorem dX6_which_17 : decode cX6_which 17 = .ok (.invokevirtual 85, 3) := by decide +kernel
theorem dX6_which_20 : decode cX6_which 20 = .ok (.ireturn, 1) := by decide +kernel
theorem dX6_which_21 : decode cX6_which 21 = .ok (.aload_n 0, 1) := by decide +kernel
theorem dX6_which_22 : decode cX6_which 22 = .ok (.getfield 43, 3) := by decide +kernel
theorem dX6_which_25 : decode cX6_which 25 = .ok (.iload_n 2, 1) := by decide +kernel
theorem dX6_which_26 : decode cX6_which 26 = .ok (.iaload, 1) := by decide +kernel
theorem dX6_which_27 : decode cX6_which 27 = .ok (.ifCond .ne 9, 3) := by decide +kernel
theorem dX6_which_30 : decode cX6_which 30 = .ok (.aload_n 0, 1) := by decide +kernel
theorem dX6_which_31 : decode cX6_which 31 = .ok (.iconst 5, 1) := by decide +kernel
theorem dX6_which_32 : decode cX6_which 32 = .ok (.invokevirtual 85, 3) := by decide +kernel
theorem dX6_which_35 : decode cX6_which 35 = .ok (.ireturn, 1) := by decide +kernel
theorem dX6_which_36 : decode cX6_which 36 = .ok (.aload_n 0, 1) := by decide +kernel
theorem dX6_which_37 : decode cX6_which 37 = .ok (.iload_n 2, 1) := by decide +kernel
theorem dX6_which_38 : decode cX6_which 38 = .ok (.invokevirtual 171, 3) := by decide +kernel
theorem dX6_which_41 : decode cX6_which 41 = .ok (.ifCond .ne 10, 3) := by decide +kernel
theorem dX6_which_44 : decode cX6_which 44 = .ok (.aload_n 0, 1) := by decide +kernel
theorem dX6_which_45 : decode cX6_which 45 = .ok (.bipush 6, 2) := by decide +kernel
theorem dX6_which_47 : decode cX6_which 47 = .ok (.invokevirtual 85, 3) := by decide +kernel
theorem dX6_which_50 : decode cX6_which 50 = .ok (.ireturn, 1) := by decide +kernel
theorem dX6_which_51 : decode cX6_which 51 = .ok (.iconst 0, 1) := by decide +kernel
theorem dX6_which_52 : decode cX6_which 52 = .ok (.istore_n 3, 1) := by decide +kernel
theorem dX6_which_53 : decode cX6_which 53 = .ok (.iconst 0, 1) := by decide +kernel
theorem dX6_which_54 : decode cX6_which 54 = .ok (.istore 4, 2) := by decide +kernel
theorem dX6_which_56 : decode cX6_which 56 = .ok (.iload 4, 2) := by decide +kernel
theorem dX6_which_58 : decode cX6_which 58 = .ok (.iconst 5, 1) := by decide +kernel
theorem dX6_which_59 : decode cX6_which 59 = .ok (.if_icmp .gt 31, 3) := by decide +kernel
theorem dX6_which_62 : decode cX6_which 62 = .ok (.iload_n 3, 1) := by decide +kernel
theorem dX6_which_63 : decode cX6_which 63 = .ok (.aload_n 0, 1) := by decide +kernel
theorem dX6_which_64 : decode cX6_which 64 = .ok (.iload_n 1, 1) := by decide +kernel
theorem dX6_which_65 : decode cX6_which 65 = .ok (.iload 4, 2) := by decide +kernel
theorem dX6_which_67 : decode cX6_which 67 = .ok (.iload_n 2, 1) := by decide +kernel
theorem dX6_which_68 : decode cX6_which 68 = .ok (.invokevirtual 177, 3) := by decide +kernel
theorem dX6_which_71 : decode cX6_which 71 = .ok (.ifCond .eq 10, 3) := by decide +kernel
theorem dX6_which_74 : decode cX6_which 74 = .ok (.iconst 1, 1) := by decide +kernel
theorem dX6_which_75 : decode cX6_which 75 = .ok (.iload 4, 2) := by decide +kernel
theorem dX6_which_77 : decode cX6_which 77 = .ok (.ishl, 1) := by decide +kernel
theorem dX6_which_78 : decode cX6_which 78 = .ok (.goto 4, 3) := by decide +kernel
theorem dX6_which_81 : decode cX6_which 81 = .ok (.iconst 0, 1) := by decide +kernel
theorem dX6_which_82 : decode cX6_which 82 = .ok (.ior, 1) := by decide +kernel
theorem dX6_which_83 : decode cX6_which 83 = .ok (.istore_n 3, 1) := by decide +kernel
theorem dX6_which_84 : decode cX6_which 84 = .ok (.iinc 4 1, 3) := by decide +kernel
theorem dX6_which_87 : decode cX6_which 87 = .ok (.goto (-31), 3) := by decide +kernel
theorem dX6_which_90 : decode cX6_which 90 = .ok (.iload_n 3, 1) := by decide +kernel
theorem dX6_which_91 : decode cX6_which 91 = .ok (.ireturn, 1) := by decide +kernel
theorem dX6_together_0 : decode cX6_together 0 = .ok (.aload_n 0, 1) := by decide +kernel
theorem dX6_together_1 : decode cX6_together 1 = .ok (.iload_n 1, 1) := by decide +kernel
theorem dX6_together_2 : decode cX6_together 2 = .ok (.invokevirtual 92, 3) := by decide +kernel
theorem dX6_together_5 : decode cX6_together 5 = .ok (.ifCond .eq 23, 3) := by decide +kernel
theorem dX6_together_8 : decode cX6_together 8 = .ok (.aload_n 0, 1) := by decide +kernel
theorem dX6_together_9 : decode cX6_together 9 = .ok (.iload_n 2, 1) := by decide +kernel
theorem dX6_together_10 : decode cX6_together 10 = .ok (.invokevirtual 92, 3) := by decide +kernel
theorem dX6_together_13 : decode cX6_together 13 = .ok (.ifCond .eq 15, 3) := by decide +kernel
theorem dX6_together_16 : decode cX6_together 16 = .ok (.iload_n 1, 1) := by decide +kernel
theorem dX6_together_17 : decode cX6_together 17 = .ok (.iload_n 2, 1) := by decide +kernel
theorem dX6_together_18 : decode cX6_together 18 = .ok (.if_icmp .eq 10, 3) := by decide +kernel
theorem dX6_together_21 : decode cX6_together 21 = .ok (.iload_n 3, 1) := by decide +kernel
theorem dX6_together_22 : decode cX6_together 22 = .ok (.invokestatic 146, 3) := by decide +kernel
theorem dX6_together_25 : decode cX6_together 25 = .ok (.ifCond .ne 9, 3) := by decide +kernel
theorem dX6_together_28 : decode cX6_together 28 = .ok (.aload_n 0, 1) := by decide +kernel
theorem dX6_together_29 : decode cX6_together 29 = .ok (.iconst 0, 1) := by decide +kernel
theorem dX6_together_30 : decode cX6_together 30 = .ok (.invokevirtual 85, 3) := by decide +kernel
theorem dX6_together_33 : decode cX6_together 33 = .ok (.ireturn, 1) := by decide +kernel
theorem dX6_together_34 : decode cX6_together 34 = .ok (.aload_n 0, 1) := by decide +kernel
theorem dX6_together_35 : decode cX6_together 35 = .ok (.getfield 9, 3) := by decide +kernel
theorem dX6_together_38 : decode cX6_together 38 = .ok (.aload_n 0, 1) := by decide +kernel
theorem dX6_together_39 : decode cX6_together 39 = .ok (.getfield 16, 3) := by decide +kernel
theorem dX6_together_42 : decode cX6_together 42 = .ok (.invokestatic 149, 3) := by decide +kernel
theorem dX6_together_45 : decode cX6_together 45 = .ok (.aload_n 0, 1) := by decide +kernel
theorem dX6_together_46 : decode cX6_together 46 = .ok (.iload_n 3, 1) := by decide +kernel
theorem dX6_together_47 : decode cX6_together 47 = .ok (.invokevirtual 153, 3) := by decide +kernel
theorem dX6_together_50 : decode cX6_together 50 = .ok (.aload_n 0, 1) := by decide +kernel
theorem dX6_together_51 : decode cX6_together 51 = .ok (.getfield 16, 3) := by decide +kernel
theorem dX6_together_54 : decode cX6_together 54 = .ok (.aload_n 0, 1) := by decide +kernel
theorem dX6_together_55 : decode cX6_together 55 = .ok (.getfield 9, 3) := by decide +kernel
theorem dX6_together_58 : decode cX6_together 58 = .ok (.invokestatic 149, 3) := by decide +kernel
theorem dX6_together_61 : decode cX6_together 61 = .ok (.iconst 0, 1) := by decide +kernel
theorem dX6_together_62 : decode cX6_together 62 = .ok (.istore 4, 2) := by decide +kernel
theorem dX6_together_64 : decode cX6_together 64 = .ok (.iconst 0, 1) := by decide +kernel
theorem dX6_together_65 : decode cX6_together 65 = .ok (.istore 5, 2) := by decide +kernel
theorem dX6_together_67 : decode cX6_together 67 = .ok (.iload 5, 2) := by decide +kernel
theorem dX6_together_69 : decode cX6_together 69 = .ok (.iload_n 3, 1) := by decide +kernel
theorem dX6_together_70 : decode cX6_together 70 = .ok (.if_icmp .ge 35, 3) := by decide +kernel
theorem dX6_together_73 : decode cX6_together 73 = .ok (.iload 4, 2) := by decide +kernel
theorem dX6_together_75 : decode cX6_together 75 = .ok (.aload_n 0, 1) := by decide +kernel
theorem dX6_together_76 : decode cX6_together 76 = .ok (.getfield 34, 3) := by decide +kernel
theorem dX6_together_79 : decode cX6_together 79 = .ok (.iload 5, 2) := by decide +kernel
theorem dX6_together_81 : decode cX6_together 81 = .ok (.iaload, 1) := by decide +kernel
theorem dX6_together_82 : decode cX6_together 82 = .ok (.iload_n 1, 1) := by decide +kernel
theorem dX6_together_83 : decode cX6_together 83 = .ok (.ishr, 1) := by decide +kernel
theorem dX6_together_84 : decode cX6_together 84 = .ok (.aload_n 0, 1) := by decide +kernel
theorem dX6_together_85 : decode cX6_together 85 = .ok (.getfield 34, 3) := by decide +kernel
theorem dX6_together_88 : decode cX6_together 88 = .ok (.iload 5, 2) := by decide +kernel
theorem dX6_together_90 : decode cX6_together 90 = .ok (.iaload, 1) := by decide +kernel
theorem dX6_together_91 : decode cX6_together 91 = .ok (.iload_n 2, 1) := by decide +kernel
theorem dX6_together_92 : decode cX6_together 92 = .ok (.ishr, 1) := by decide +kernel
theorem dX6_together_93 : decode cX6_together 93 = .ok (.iand, 1) := by decide +kernel
theorem dX6_together_94 : decode cX6_together 94 = .ok (.iconst 1, 1) := by decide +kernel
theorem dX6_together_95 : decode cX6_together 95 = .ok (.iand, 1) := by decide +kernel
theorem dX6_together_96 : decode cX6_together 96 = .ok (.iadd, 1) := by decide +kernel
theorem dX6_together_97 : decode cX6_together 97 = .ok (.istore 4, 2) := by decide +kernel
theorem dX6_together_99 : decode cX6_together 99 = .ok (.iinc 5 1, 3) := by decide +kernel
theorem dX6_together_102 : decode cX6_together 102 = .ok (.goto (-35), 3) := by decide +kernel
theorem dX6_together_105 : decode cX6_together 105 = .ok (.iload 4, 2) := by decide +kernel
theorem dX6_together_107 : decode cX6_together 107 = .ok (.ireturn, 1) := by decide +kernel
theorem dX6_byteAt_0 : decode cX6_byteAt 0 = .ok (.aload_n 0, 1) := by decide +kernel
theorem dX6_byteAt_1 : decode cX6_byteAt 1 = .ok (.getfield 180, 3) := by decide +kernel
theorem dX6_byteAt_4 : decode cX6_byteAt 4 = .ok (.aload_n 0, 1) := by decide +kernel
theorem dX6_byteAt_5 : decode cX6_byteAt 5 = .ok (.getfield 183, 3) := by decide +kernel
theorem dX6_byteAt_8 : decode cX6_byteAt 8 = .ok (.if_icmp .ge 15, 3) := by decide +kernel
theorem dX6_byteAt_11 : decode cX6_byteAt 11 = .ok (.aload_n 0, 1) := by decide +kernel
theorem dX6_byteAt_12 : decode cX6_byteAt 12 = .ok (.getfield 19, 3) := by decide +kernel
theorem dX6_byteAt_15 : decode cX6_byteAt 15 = .ok (.aload_n 0, 1) := by decide +kernel
theorem dX6_byteAt_16 : decode cX6_byteAt 16 = .ok (.getfield 180, 3) := by decide +kernel
theorem dX6_byteAt_19 : decode cX6_byteAt 19 = .ok (.iaload, 1) := by decide +kernel
theorem dX6_byteAt_20 : decode cX6_byteAt 20 = .ok (.goto 4, 3) := by decide +kernel
theorem dX6_byteAt_23 : decode cX6_byteAt 23 = .ok (.iconst (-1), 1) := by decide +kernel
theorem dX6_byteAt_24 : decode cX6_byteAt 24 = .ok (.ireturn, 1) := by decide +kernel
theorem dX6_fails_0 : decode cX6_fails 0 = .ok (.aload_n 0, 1) := by decide +kernel
theorem dX6_fails_1 : decode cX6_fails 1 = .ok (.getfield 186, 3) := by decide +kernel
theorem dX6_fails_4 : decode cX6_fails 4 = .ok (.ifCond .ge 11, 3) := by decide +kernel
theorem dX6_fails_7 : decode cX6_fails 7 = .ok (.aload_n 0, 1) := by decide +kernel
theorem dX6_fails_8 : decode cX6_fails 8 = .ok (.aload_n 0, 1) := by decide +kernel
theorem dX6_fails_9 : decode cX6_fails 9 = .ok (.getfield 180, 3) := by decide +kernel
theorem dX6_fails_12 : decode cX6_fails 12 = .ok (.putfield 186, 3) := by decide +kernel
theorem dX6_fails_15 : decode cX6_fails 15 = .ok (.return_, 1) := by decide +kernel
theorem dX6_may_0 : decode cX6_may 0 = .ok (.aload_n 0, 1) := by decide +kernel
theorem dX6_may_1 : decode cX6_may 1 = .ok (.getfield 186, 3) := by decide +kernel
theorem dX6_may_4 : decode cX6_may 4 = .ok (.ifCond .ge 15, 3) := by decide +kernel
theorem dX6_may_7 : decode cX6_may 7 = .ok (.aload_n 0, 1) := by decide +kernel
theorem dX6_may_8 : decode cX6_may 8 = .ok (.invokevirtual 189, 3) := by decide +kernel
theorem dX6_may_11 : decode cX6_may 11 = .ok (.iload_n 1, 1) := by decide +kernel
theorem dX6_may_12 : decode cX6_may 12 = .ok (.if_icmp .ne 7, 3) := by decide +kernel
theorem dX6_may_15 : decode cX6_may 15 = .ok (.iconst 1, 1) := by decide +kernel
theorem dX6_may_16 : decode cX6_may 16 = .ok (.goto 4, 3) := by decide +kernel
theorem dX6_may_19 : decode cX6_may 19 = .ok (.iconst 0, 1) := by decide +kernel
theorem dX6_may_20 : decode cX6_may 20 = .ok (.istore_n 2, 1) := by decide +kernel
theorem dX6_may_21 : decode cX6_may 21 = .ok (.aload_n 0, 1) := by decide +kernel
theorem dX6_may_22 : decode cX6_may 22 = .ok (.dup, 1) := by decide +kernel
theorem dX6_may_23 : decode cX6_may 23 = .ok (.getfield 180, 3) := by decide +kernel
theorem dX6_may_26 : decode cX6_may 26 = .ok (.iload_n 2, 1) := by decide +kernel
theorem dX6_may_27 : decode cX6_may 27 = .ok (.ifCond .eq 7, 3) := by decide +kernel
theorem dX6_may_30 : decode cX6_may 30 = .ok (.iconst 1, 1) := by decide +kernel
theorem dX6_may_31 : decode cX6_may 31 = .ok (.goto 4, 3) := by decide +kernel
theorem dX6_may_34 : decode cX6_may 34 = .ok (.iconst 0, 1) := by decide +kernel
theorem dX6_may_35 : decode cX6_may 35 = .ok (.iadd, 1) := by decide +kernel
theorem dX6_may_36 : decode cX6_may 36 = .ok (.putfield 180, 3) := by decide +kernel
theorem dX6_may_39 : decode cX6_may 39 = .ok (.iload_n 2, 1) := by decide +kernel
theorem dX6_may_40 : decode cX6_may 40 = .ok (.ireturn, 1) := by decide +kernel
theorem dX6_must_0 : decode cX6_must 0 = .ok (.aload_n 0, 1) := by decide +kernel
theorem dX6_must_1 : decode cX6_must 1 = .ok (.iload_n 1, 1) := by decide +kernel
theorem dX6_must_2 : decode cX6_must 2 = .ok (.invokevirtual 193, 3) := by decide +kernel
theorem dX6_must_5 : decode cX6_must 5 = .ok (.ifCond .ne 7, 3) := by decide +kernel
theorem dX6_must_8 : decode cX6_must 8 = .ok (.aload_n 0, 1) := by decide +kernel
theorem dX6_must_9 : decode cX6_must 9 = .ok (.invokevirtual 196, 3) := by decide +kernel
theorem dX6_must_12 : decode cX6_must 12 = .ok (.return_, 1) := by decide +kernel
theorem dX6_emit_0 : decode cX6_emit 0 = .ok (.aload_n 0, 1) := by decide +kernel
theorem dX6_emit_1 : decode cX6_emit 1 = .ok (.getfield 186, 3) := by decide +kernel
theorem dX6_emit_4 : decode cX6_emit 4 = .ok (.ifCond .ge 23, 3) := by decide +kernel
theorem dX6_emit_7 : decode cX6_emit 7 = .ok (.aload_n 0, 1) := by decide +kernel
theorem dX6_emit_8 : decode cX6_emit 8 = .ok (.getfield 37, 3) := by decide +kernel
theorem dX6_emit_11 : decode cX6_emit 11 = .ok (.aload_n 0, 1) := by decide +kernel
theorem dX6_emit_12 : decode cX6_emit 12 = .ok (.getfield 199, 3) := by decide +kernel
theorem dX6_emit_15 : decode cX6_emit 15 = .ok (.iload_n 1, 1) := by decide +kernel
theorem dX6_emit_16 : decode cX6_emit 16 = .ok (.iastore, 1) := by decide +kernel
theorem dX6_emit_17 : decode cX6_emit 17 = .ok (.aload_n 0, 1) := by decide +kernel
theorem dX6_emit_18 : decode cX6_emit 18 = .ok (.dup, 1) := by decide +kernel
theorem dX6_emit_19 : decode cX6_emit 19 = .ok (.getfield 199, 3) := by decide +kernel
theorem dX6_emit_22 : decode cX6_emit 22 = .ok (.iconst 1, 1) := by decide +kernel
theorem dX6_emit_23 : decode cX6_emit 23 = .ok (.iadd, 1) := by decide +kernel
theorem dX6_emit_24 : decode cX6_emit 24 = .ok (.putfield 199, 3) := by decide +kernel
theorem dX6_emit_27 : decode cX6_emit 27 = .ok (.return_, 1) := by decide +kernel
theorem dX6_isDigit_0 : decode cX6_isDigit 0 = .ok (.iload_n 0, 1) := by decide +kernel
theorem dX6_isDigit_1 : decode cX6_isDigit 1 = .ok (.bipush 48, 2) := by decide +kernel
theorem dX6_isDigit_3 : decode cX6_isDigit 3 = .ok (.bipush 57, 2) := by decide +kernel
theorem dX6_isDigit_5 : decode cX6_isDigit 5 = .ok (.invokestatic 57, 3) := by decide +kernel
theorem dX6_isDigit_8 : decode cX6_isDigit 8 = .ok (.ireturn, 1) := by decide +kernel
theorem dX6_nameOf_0 : decode cX6_nameOf 0 = .ok (.iload_n 0, 1) := by decide +kernel
theorem dX6_nameOf_1 : decode cX6_nameOf 1 = .ok (.tableswitch 99 98 115 #[89, 99, 95, 99, 99, 91, 99, 99, 99, 93, 99, 99, 99, 99, 97, 99, 99, 87], 87) := by decide +kernel
theorem dX6_nameOf_88 : decode cX6_nameOf 88 = .ok (.iconst 0, 1) := by decide +kernel
theorem dX6_nameOf_89 : decode cX6_nameOf 89 = .ok (.ireturn, 1) := by decide +kernel
theorem dX6_nameOf_90 : decode cX6_nameOf 90 = .ok (.iconst 1, 1) := by decide +kernel
theorem dX6_nameOf_91 : decode cX6_nameOf 91 = .ok (.ireturn, 1) := by decide +kernel
theorem dX6_nameOf_92 : decode cX6_nameOf 92 = .ok (.iconst 2, 1) := by decide +kernel
theorem dX6_nameOf_93 : decode cX6_nameOf 93 = .ok (.ireturn, 1) := by decide +kernel
theorem dX6_nameOf_94 : decode cX6_nameOf 94 = .ok (.iconst 3, 1) := by decide +kernel
theorem dX6_nameOf_95 : decode cX6_nameOf 95 = .ok (.ireturn, 1) := by decide +kernel
theorem dX6_nameOf_96 : decode cX6_nameOf 96 = .ok (.iconst 4, 1) := by decide +kernel
theorem dX6_nameOf_97 : decode cX6_nameOf 97 = .ok (.ireturn, 1) := by decide +kernel
theorem dX6_nameOf_98 : decode cX6_nameOf 98 = .ok (.iconst 5, 1) := by decide +kernel
theorem dX6_nameOf_99 : decode cX6_nameOf 99 = .ok (.ireturn, 1) := by decide +kernel
theorem dX6_nameOf_100 : decode cX6_nameOf 100 = .ok (.iconst (-1), 1) := by decide +kernel
theorem dX6_nameOf_101 : decode cX6_nameOf 101 = .ok (.ireturn, 1) := by decide +kernel
theorem dX6_number_0 : decode cX6_number 0 = .ok (.iconst 0, 1) := by decide +kernel
theorem dX6_number_1 : decode cX6_number 1 = .ok (.istore_n 1, 1) := by decide +kernel
theorem dX6_number_2 : decode cX6_number 2 = .ok (.iconst 0, 1) := by decide +kernel
theorem dX6_number_3 : decode cX6_number 3 = .ok (.istore_n 2, 1) := by decide +kernel
theorem dX6_number_4 : decode cX6_number 4 = .ok (.iload_n 2, 1) := by decide +kernel
theorem dX6_number_5 : decode cX6_number 5 = .ok (.iconst 3, 1) := by decide +kernel
theorem dX6_number_6 : decode cX6_number 6 = .ok (.if_icmp .ge 42, 3) := by decide +kernel
theorem dX6_number_9 : decode cX6_number 9 = .ok (.aload_n 0, 1) := by decide +kernel
theorem dX6_number_10 : decode cX6_number 10 = .ok (.invokevirtual 189, 3) := by decide +kernel
theorem dX6_number_13 : decode cX6_number 13 = .ok (.invokestatic 202, 3) := by decide +kernel
theorem dX6_number_16 : decode cX6_number 16 = .ok (.ifCond .eq 32, 3) := by decide +kernel
theorem dX6_number_19 : decode cX6_number 19 = .ok (.bipush 10, 2) := by decide +kernel
theorem dX6_number_21 : decode cX6_number 21 = .ok (.iload_n 1, 1) := by decide +kernel
theorem dX6_number_22 : decode cX6_number 22 = .ok (.imul, 1) := by decide +kernel
theorem dX6_number_23 : decode cX6_number 23 = .ok (.aload_n 0, 1) := by decide +kernel
theorem dX6_number_24 : decode cX6_number 24 = .ok (.invokevirtual 189, 3) := by decide +kernel
theorem dX6_number_27 : decode cX6_number 27 = .ok (.iadd, 1) := by decide +kernel
theorem dX6_number_28 : decode cX6_number 28 = .ok (.bipush 48, 2) := by decide +kernel
theorem dX6_number_30 : decode cX6_number 30 = .ok (.isub, 1) := by decide +kernel
theorem dX6_number_31 : decode cX6_number 31 = .ok (.istore_n 1, 1) := by decide +kernel
theorem dX6_number_32 : decode cX6_number 32 = .ok (.iinc 2 1, 3) := by decide +kernel
theorem dX6_number_35 : decode cX6_number 35 = .ok (.aload_n 0, 1) := by decide +kernel
theorem dX6_number_36 : decode cX6_number 36 = .ok (.dup, 1) := by decide +kernel
theorem dX6_number_37 : decode cX6_number 37 = .ok (.getfield 180, 3) := by decide +kernel
theorem dX6_number_40 : decode cX6_number 40 = .ok (.iconst 1, 1) := by decide +kernel
theorem dX6_number_41 : decode cX6_number 41 = .ok (.iadd, 1) := by decide +kernel
theorem dX6_number_42 : decode cX6_number 42 = .ok (.putfield 180, 3) := by decide +kernel
theorem dX6_number_45 : decode cX6_number 45 = .ok (.goto (-41), 3) := by decide +kernel
theorem dX6_number_48 : decode cX6_number 48 = .ok (.aload_n 0, 1) := by decide +kernel
theorem dX6_number_49 : decode cX6_number 49 = .ok (.iload_n 1, 1) := by decide +kernel
theorem dX6_number_50 : decode cX6_number 50 = .ok (.invokevirtual 205, 3) := by decide +kernel
theorem dX6_number_53 : decode cX6_number 53 = .ok (.return_, 1) := by decide +kernel
theorem dX6_opens_0 : decode cX6_opens 0 = .ok (.aload_n 0, 1) := by decide +kernel
theorem dX6_opens_1 : decode cX6_opens 1 = .ok (.getfield 186, 3) := by decide +kernel
theorem dX6_opens_4 : decode cX6_opens 4 = .ok (.ifCond .ge 11, 3) := by decide +kernel
theorem dX6_opens_7 : decode cX6_opens 7 = .ok (.aload_n 0, 1) := by decide +kernel
theorem dX6_opens_8 : decode cX6_opens 8 = .ok (.invokevirtual 189, 3) := by decide +kernel
theorem dX6_opens_11 : decode cX6_opens 11 = .ok (.iload_n 1, 1) := by decide +kernel
theorem dX6_opens_12 : decode cX6_opens 12 = .ok (.if_icmp .eq 5, 3) := by decide +kernel
theorem dX6_opens_15 : decode cX6_opens 15 = .ok (.iconst 0, 1) := by decide +kernel
theorem dX6_opens_16 : decode cX6_opens 16 = .ok (.ireturn, 1) := by decide +kernel
theorem dX6_opens_17 : decode cX6_opens 17 = .ok (.aload_n 0, 1) := by decide +kernel
theorem dX6_opens_18 : decode cX6_opens 18 = .ok (.getfield 208, 3) := by decide +kernel
theorem dX6_opens_21 : decode cX6_opens 21 = .ok (.iconst 5, 1) := by decide +kernel
theorem dX6_opens_22 : decode cX6_opens 22 = .ok (.if_icmp .ne 9, 3) := by decide +kernel
theorem dX6_opens_25 : decode cX6_opens 25 = .ok (.aload_n 0, 1) := by decide +kernel
theorem dX6_opens_26 : decode cX6_opens 26 = .ok (.invokevirtual 196, 3) := by decide +kernel
theorem dX6_opens_29 : decode cX6_opens 29 = .ok (.iconst 0, 1) := by decide +kernel
theorem dX6_opens_30 : decode cX6_opens 30 = .ok (.ireturn, 1) := by decide +kernel
theorem dX6_opens_31 : decode cX6_opens 31 = .ok (.aload_n 0, 1) := by decide +kernel
theorem dX6_opens_32 : decode cX6_opens 32 = .ok (.dup, 1) := by decide +kernel
theorem dX6_opens_33 : decode cX6_opens 33 = .ok (.getfield 208, 3) := by decide +kernel
theorem dX6_opens_36 : decode cX6_opens 36 = .ok (.iconst 1, 1) := by decide +kernel
theorem dX6_opens_37 : decode cX6_opens 37 = .ok (.iadd, 1) := by decide +kernel
theorem dX6_opens_38 : decode cX6_opens 38 = .ok (.putfield 208, 3) := by decide +kernel
theorem dX6_opens_41 : decode cX6_opens 41 = .ok (.aload_n 0, 1) := by decide +kernel
theorem dX6_opens_42 : decode cX6_opens 42 = .ok (.dup, 1) := by decide +kernel
theorem dX6_opens_43 : decode cX6_opens 43 = .ok (.getfield 180, 3) := by decide +kernel
theorem dX6_opens_46 : decode cX6_opens 46 = .ok (.iconst 1, 1) := by decide +kernel
theorem dX6_opens_47 : decode cX6_opens 47 = .ok (.iadd, 1) := by decide +kernel
theorem dX6_opens_48 : decode cX6_opens 48 = .ok (.putfield 180, 3) := by decide +kernel
theorem dX6_opens_51 : decode cX6_opens 51 = .ok (.iconst 1, 1) := by decide +kernel
theorem dX6_opens_52 : decode cX6_opens 52 = .ok (.ireturn, 1) := by decide +kernel
theorem dX6_factor_0 : decode cX6_factor 0 = .ok (.aload_n 0, 1) := by decide +kernel
theorem dX6_factor_1 : decode cX6_factor 1 = .ok (.getfield 186, 3) := by decide +kernel
theorem dX6_factor_4 : decode cX6_factor 4 = .ok (.ifCond .lt 4, 3) := by decide +kernel
theorem dX6_factor_7 : decode cX6_factor 7 = .ok (.return_, 1) := by decide +kernel
theorem dX6_factor_8 : decode cX6_factor 8 = .ok (.aload_n 0, 1) := by decide +kernel
theorem dX6_factor_9 : decode cX6_factor 9 = .ok (.invokevirtual 189, 3) := by decide +kernel
theorem dX6_factor_12 : decode cX6_factor 12 = .ok (.invokestatic 202, 3) := by decide +kernel
theorem dX6_factor_15 : decode cX6_factor 15 = .ok (.ifCond .eq 10, 3) := by decide +kernel
theorem dX6_factor_18 : decode cX6_factor 18 = .ok (.aload_n 0, 1) := by decide +kernel
theorem dX6_factor_19 : decode cX6_factor 19 = .ok (.invokevirtual 211, 3) := by decide +kernel
theorem dX6_factor_22 : decode cX6_factor 22 = .ok (.goto 159, 3) := by decide +kernel
theorem dX6_factor_25 : decode cX6_factor 25 = .ok (.aload_n 0, 1) := by decide +kernel
theorem dX6_factor_26 : decode cX6_factor 26 = .ok (.invokevirtual 189, 3) := by decide +kernel
theorem dX6_factor_29 : decode cX6_factor 29 = .ok (.invokestatic 214, 3) := by decide +kernel
theorem dX6_factor_32 : decode cX6_factor 32 = .ok (.ifCond .lt 31, 3) := by decide +kernel
theorem dX6_factor_35 : decode cX6_factor 35 = .ok (.aload_n 0, 1) := by decide +kernel
theorem dX6_factor_36 : decode cX6_factor 36 = .ok (.sipush 1000, 3) := by decide +kernel
theorem dX6_factor_39 : decode cX6_factor 39 = .ok (.aload_n 0, 1) := by decide +kernel
theorem dX6_factor_40 : decode cX6_factor 40 = .ok (.invokevirtual 189, 3) := by decide +kernel
theorem dX6_factor_43 : decode cX6_factor 43 = .ok (.invokestatic 214, 3) := by decide +kernel
theorem dX6_factor_46 : decode cX6_factor 46 = .ok (.iadd, 1) := by decide +kernel
theorem dX6_factor_47 : decode cX6_factor 47 = .ok (.invokevirtual 205, 3) := by decide +kernel
theorem dX6_factor_50 : decode cX6_factor 50 = .ok (.aload_n 0, 1) := by decide +kernel
theorem dX6_factor_51 : decode cX6_factor 51 = .ok (.dup, 1) := by decide +kernel
theorem dX6_factor_52 : decode cX6_factor 52 = .ok (.getfield 180, 3) := by decide +kernel
theorem dX6_factor_55 : decode cX6_factor 55 = .ok (.iconst 1, 1) := by decide +kernel
theorem dX6_factor_56 : decode cX6_factor 56 = .ok (.iadd, 1) := by decide +kernel
theorem dX6_factor_57 : decode cX6_factor 57 = .ok (.putfield 180, 3) := by decide +kernel
theorem dX6_factor_60 : decode cX6_factor 60 = .ok (.goto 121, 3) := by decide +kernel
