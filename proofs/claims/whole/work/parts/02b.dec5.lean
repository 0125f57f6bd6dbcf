theorem dX5_init_0 : decode cX5_init 0 = .ok (.aload_n 0, 1) := by decide +kernel
theorem dX5_init_1 : decode cX5_init 1 = .ok (.invokespecial 3, 3) := by decide +kernel
theorem dX5_init_4 : decode cX5_init 4 = .ok (.aload_n 0, 1) := by decide +kernel
theorem dX5_init_5 : decode cX5_init 5 = .ok (.new 9, 3) := by decide +kernel
theorem dX5_init_8 : decode cX5_init 8 = .ok (.dup, 1) := by decide +kernel
theorem dX5_init_9 : decode cX5_init 9 = .ok (.invokespecial 11, 3) := by decide +kernel
theorem dX5_init_12 : decode cX5_init 12 = .ok (.putfield 12, 3) := by decide +kernel
theorem dX5_init_15 : decode cX5_init 15 = .ok (.aload_n 0, 1) := by decide +kernel
theorem dX5_init_16 : decode cX5_init 16 = .ok (.new 9, 3) := by decide +kernel
theorem dX5_init_19 : decode cX5_init 19 = .ok (.dup, 1) := by decide +kernel
theorem dX5_init_20 : decode cX5_init 20 = .ok (.invokespecial 11, 3) := by decide +kernel
theorem dX5_init_23 : decode cX5_init 23 = .ok (.putfield 16, 3) := by decide +kernel
theorem dX5_init_26 : decode cX5_init 26 = .ok (.aload_n 0, 1) := by decide +kernel
theorem dX5_init_27 : decode cX5_init 27 = .ok (.new 9, 3) := by decide +kernel
theorem dX5_init_30 : decode cX5_init 30 = .ok (.dup, 1) := by decide +kernel
theorem dX5_init_31 : decode cX5_init 31 = .ok (.invokespecial 11, 3) := by decide +kernel
theorem dX5_init_34 : decode cX5_init 34 = .ok (.putfield 19, 3) := by decide +kernel
theorem dX5_init_37 : decode cX5_init 37 = .ok (.aload_n 0, 1) := by decide +kernel
theorem dX5_init_38 : decode cX5_init 38 = .ok (.new 22, 3) := by decide +kernel
theorem dX5_init_41 : decode cX5_init 41 = .ok (.dup, 1) := by decide +kernel
theorem dX5_init_42 : decode cX5_init 42 = .ok (.invokespecial 24, 3) := by decide +kernel
theorem dX5_init_45 : decode cX5_init 45 = .ok (.putfield 25, 3) := by decide +kernel
theorem dX5_init_48 : decode cX5_init 48 = .ok (.aload_n 0, 1) := by decide +kernel
theorem dX5_init_49 : decode cX5_init 49 = .ok (.new 22, 3) := by decide +kernel
theorem dX5_init_52 : decode cX5_init 52 = .ok (.dup, 1) := by decide +kernel
theorem dX5_init_53 : decode cX5_init 53 = .ok (.invokespecial 24, 3) := by decide +kernel
theorem dX5_init_56 : decode cX5_init 56 = .ok (.putfield 29, 3) := by decide +kernel
theorem dX5_init_59 : decode cX5_init 59 = .ok (.aload_n 0, 1) := by decide +kernel
theorem dX5_init_60 : decode cX5_init 60 = .ok (.iconst 0, 1) := by decide +kernel
theorem dX5_init_61 : decode cX5_init 61 = .ok (.putfield 32, 3) := by decide +kernel
theorem dX5_init_64 : decode cX5_init 64 = .ok (.aload_n 0, 1) := by decide +kernel
theorem dX5_init_65 : decode cX5_init 65 = .ok (.new 36, 3) := by decide +kernel
theorem dX5_init_68 : decode cX5_init 68 = .ok (.dup, 1) := by decide +kernel
theorem dX5_init_69 : decode cX5_init 69 = .ok (.invokespecial 38, 3) := by decide +kernel
theorem dX5_init_72 : decode cX5_init 72 = .ok (.putfield 39, 3) := by decide +kernel
theorem dX5_init_75 : decode cX5_init 75 = .ok (.aload_n 0, 1) := by decide +kernel
theorem dX5_init_76 : decode cX5_init 76 = .ok (.iconst 4, 1) := by decide +kernel
theorem dX5_init_77 : decode cX5_init 77 = .ok (.anewarray 43, 3) := by decide +kernel
theorem dX5_init_80 : decode cX5_init 80 = .ok (.putfield 45, 3) := by decide +kernel
theorem dX5_init_83 : decode cX5_init 83 = .ok (.aload_n 0, 1) := by decide +kernel
theorem dX5_init_84 : decode cX5_init 84 = .ok (.bipush 7, 2) := by decide +kernel
theorem dX5_init_86 : decode cX5_init 86 = .ok (.newarray .int, 2) := by decide +kernel
theorem dX5_init_88 : decode cX5_init 88 = .ok (.putfield 49, 3) := by decide +kernel
theorem dX5_init_91 : decode cX5_init 91 = .ok (.iconst 0, 1) := by decide +kernel
theorem dX5_init_92 : decode cX5_init 92 = .ok (.istore_n 1, 1) := by decide +kernel
theorem dX5_init_93 : decode cX5_init 93 = .ok (.iload_n 1, 1) := by decide +kernel
theorem dX5_init_94 : decode cX5_init 94 = .ok (.iconst 4, 1) := by decide +kernel
theorem dX5_init_95 : decode cX5_init 95 = .ok (.if_icmp .ge 22, 3) := by decide +kernel
theorem dX5_init_98 : decode cX5_init 98 = .ok (.aload_n 0, 1) := by decide +kernel
theorem dX5_init_99 : decode cX5_init 99 = .ok (.getfield 45, 3) := by decide +kernel
theorem dX5_init_102 : decode cX5_init 102 = .ok (.iload_n 1, 1) := by decide +kernel
theorem dX5_init_103 : decode cX5_init 103 = .ok (.new 43, 3) := by decide +kernel
theorem dX5_init_106 : decode cX5_init 106 = .ok (.dup, 1) := by decide +kernel
theorem dX5_init_107 : decode cX5_init 107 = .ok (.invokespecial 53, 3) := by decide +kernel
theorem dX5_init_110 : decode cX5_init 110 = .ok (.aastore, 1) := by decide +kernel
theorem dX5_init_111 : decode cX5_init 111 = .ok (.iinc 1 1, 3) := by decide +kernel
theorem dX5_init_114 : decode cX5_init 114 = .ok (.goto (-21), 3) := by decide +kernel
theorem dX5_init_117 : decode cX5_init 117 = .ok (.return_, 1) := by decide +kernel
theorem dX5_block_0 : decode cX5_block 0 = .ok (.iload_n 1, 1) := by decide +kernel
theorem dX5_block_1 : decode cX5_block 1 = .ok (.iconst 0, 1) := by decide +kernel
theorem dX5_block_2 : decode cX5_block 2 = .ok (.iconst 5, 1) := by decide +kernel
theorem dX5_block_3 : decode cX5_block 3 = .ok (.invokestatic 54, 3) := by decide +kernel
theorem dX5_block_6 : decode cX5_block 6 = .ok (.ifCond .eq 36, 3) := by decide +kernel
theorem dX5_block_9 : decode cX5_block 9 = .ok (.iload_n 2, 1) := by decide +kernel
theorem dX5_block_10 : decode cX5_block 10 = .ok (.iconst 1, 1) := by decide +kernel
theorem dX5_block_11 : decode cX5_block 11 = .ok (.sipush 999, 3) := by decide +kernel
theorem dX5_block_14 : decode cX5_block 14 = .ok (.invokestatic 54, 3) := by decide +kernel
theorem dX5_block_17 : decode cX5_block 17 = .ok (.ifCond .eq 25, 3) := by decide +kernel
theorem dX5_block_20 : decode cX5_block 20 = .ok (.iload_n 3, 1) := by decide +kernel
theorem dX5_block_21 : decode cX5_block 21 = .ok (.iconst 0, 1) := by decide +kernel
theorem dX5_block_22 : decode cX5_block 22 = .ok (.sipush 999, 3) := by decide +kernel
theorem dX5_block_25 : decode cX5_block 25 = .ok (.invokestatic 54, 3) := by decide +kernel
theorem dX5_block_28 : decode cX5_block 28 = .ok (.ifCond .eq 14, 3) := by decide +kernel
theorem dX5_block_31 : decode cX5_block 31 = .ok (.iload 4, 2) := by decide +kernel
theorem dX5_block_33 : decode cX5_block 33 = .ok (.iconst 0, 1) := by decide +kernel
theorem dX5_block_34 : decode cX5_block 34 = .ok (.bipush 99, 2) := by decide +kernel
theorem dX5_block_36 : decode cX5_block 36 = .ok (.invokestatic 54, 3) := by decide +kernel
theorem dX5_block_39 : decode cX5_block 39 = .ok (.ifCond .ne 10, 3) := by decide +kernel
theorem dX5_block_42 : decode cX5_block 42 = .ok (.aload_n 0, 1) := by decide +kernel
theorem dX5_block_43 : decode cX5_block 43 = .ok (.ldc 58, 2) := by decide +kernel
theorem dX5_block_45 : decode cX5_block 45 = .ok (.invokevirtual 59, 3) := by decide +kernel
theorem dX5_block_48 : decode cX5_block 48 = .ok (.ireturn, 1) := by decide +kernel
theorem dX5_block_49 : decode cX5_block 49 = .ok (.aload_n 0, 1) := by decide +kernel
theorem dX5_block_50 : decode cX5_block 50 = .ok (.getfield 12, 3) := by decide +kernel
theorem dX5_block_53 : decode cX5_block 53 = .ok (.getfield 63, 3) := by decide +kernel
theorem dX5_block_56 : decode cX5_block 56 = .ok (.bipush 10, 2) := by decide +kernel
theorem dX5_block_58 : decode cX5_block 58 = .ok (.if_icmp .lt 10, 3) := by decide +kernel
theorem dX5_block_61 : decode cX5_block 61 = .ok (.aload_n 0, 1) := by decide +kernel
theorem dX5_block_62 : decode cX5_block 62 = .ok (.ldc 67, 2) := by decide +kernel
theorem dX5_block_64 : decode cX5_block 64 = .ok (.invokevirtual 59, 3) := by decide +kernel
theorem dX5_block_67 : decode cX5_block 67 = .ok (.ireturn, 1) := by decide +kernel
theorem dX5_block_68 : decode cX5_block 68 = .ok (.aload_n 0, 1) := by decide +kernel
theorem dX5_block_69 : decode cX5_block 69 = .ok (.getfield 12, 3) := by decide +kernel
theorem dX5_block_72 : decode cX5_block 72 = .ok (.getfield 63, 3) := by decide +kernel
theorem dX5_block_75 : decode cX5_block 75 = .ok (.istore 5, 2) := by decide +kernel
theorem dX5_block_77 : decode cX5_block 77 = .ok (.aload_n 0, 1) := by decide +kernel
theorem dX5_block_78 : decode cX5_block 78 = .ok (.getfield 12, 3) := by decide +kernel
theorem dX5_block_81 : decode cX5_block 81 = .ok (.getfield 68, 3) := by decide +kernel
theorem dX5_block_84 : decode cX5_block 84 = .ok (.iload 5, 2) := by decide +kernel
theorem dX5_block_86 : decode cX5_block 86 = .ok (.aaload, 1) := by decide +kernel
theorem dX5_block_87 : decode cX5_block 87 = .ok (.iload_n 1, 1) := by decide +kernel
theorem dX5_block_88 : decode cX5_block 88 = .ok (.iload_n 2, 1) := by decide +kernel
theorem dX5_block_89 : decode cX5_block 89 = .ok (.iload_n 3, 1) := by decide +kernel
theorem dX5_block_90 : decode cX5_block 90 = .ok (.iload 4, 2) := by decide +kernel
theorem dX5_block_92 : decode cX5_block 92 = .ok (.invokevirtual 72, 3) := by decide +kernel
theorem dX5_block_95 : decode cX5_block 95 = .ok (.aload_n 0, 1) := by decide +kernel
theorem dX5_block_96 : decode cX5_block 96 = .ok (.getfield 12, 3) := by decide +kernel
theorem dX5_block_99 : decode cX5_block 99 = .ok (.dup, 1) := by decide +kernel
theorem dX5_block_100 : decode cX5_block 100 = .ok (.getfield 63, 3) := by decide +kernel
theorem dX5_block_103 : decode cX5_block 103 = .ok (.iconst 1, 1) := by decide +kernel
theorem dX5_block_104 : decode cX5_block 104 = .ok (.iadd, 1) := by decide +kernel
theorem dX5_block_105 : decode cX5_block 105 = .ok (.putfield 63, 3) := by decide +kernel
theorem dX5_block_108 : decode cX5_block 108 = .ok (.iload 5, 2) := by decide +kernel
theorem dX5_block_110 : decode cX5_block 110 = .ok (.ireturn, 1) := by decide +kernel
theorem dX5_of_0 : decode cX5_of 0 = .ok (.aload_n 0, 1) := by decide +kernel
theorem dX5_of_1 : decode cX5_of 1 = .ok (.getfield 12, 3) := by decide +kernel
theorem dX5_of_4 : decode cX5_of 4 = .ok (.iload_n 1, 1) := by decide +kernel
theorem dX5_of_5 : decode cX5_of 5 = .ok (.invokevirtual 78, 3) := by decide +kernel
theorem dX5_of_8 : decode cX5_of 8 = .ok (.ifCond .ne 10, 3) := by decide +kernel
theorem dX5_of_11 : decode cX5_of 11 = .ok (.aload_n 0, 1) := by decide +kernel
theorem dX5_of_12 : decode cX5_of 12 = .ok (.ldc 58, 2) := by decide +kernel
theorem dX5_of_14 : decode cX5_of 14 = .ok (.invokevirtual 59, 3) := by decide +kernel
theorem dX5_of_17 : decode cX5_of 17 = .ok (.ireturn, 1) := by decide +kernel
theorem dX5_of_18 : decode cX5_of 18 = .ok (.aload_n 0, 1) := by decide +kernel
theorem dX5_of_19 : decode cX5_of 19 = .ok (.getfield 12, 3) := by decide +kernel
theorem dX5_of_22 : decode cX5_of 22 = .ok (.getfield 68, 3) := by decide +kernel
theorem dX5_of_25 : decode cX5_of 25 = .ok (.iload_n 1, 1) := by decide +kernel
theorem dX5_of_26 : decode cX5_of 26 = .ok (.aaload, 1) := by decide +kernel
theorem dX5_of_27 : decode cX5_of 27 = .ok (.astore_n 3, 1) := by decide +kernel
theorem dX5_of_28 : decode cX5_of 28 = .ok (.iload_n 2, 1) := by decide +kernel
theorem dX5_of_29 : decode cX5_of 29 = .ok (.tableswitch 108 0 8 #[51, 56, 61, 66, 71, 76, 81, 86, 95], 51) := by decide +kernel
theorem dX5_of_80 : decode cX5_of 80 = .ok (.aload_n 3, 1) := by decide +kernel
theorem dX5_of_81 : decode cX5_of 81 = .ok (.getfield 82, 3) := by decide +kernel
theorem dX5_of_84 : decode cX5_of 84 = .ok (.ireturn, 1) := by decide +kernel
theorem dX5_of_85 : decode cX5_of 85 = .ok (.aload_n 3, 1) := by decide +kernel
theorem dX5_of_86 : decode cX5_of 86 = .ok (.getfield 85, 3) := by decide +kernel
theorem dX5_of_89 : decode cX5_of 89 = .ok (.ireturn, 1) := by decide +kernel
theorem dX5_of_90 : decode cX5_of 90 = .ok (.aload_n 3, 1) := by decide +kernel
theorem dX5_of_91 : decode cX5_of 91 = .ok (.getfield 88, 3) := by decide +kernel
theorem dX5_of_94 : decode cX5_of 94 = .ok (.ireturn, 1) := by decide +kernel
theorem dX5_of_95 : decode cX5_of 95 = .ok (.aload_n 3, 1) := by decide +kernel
theorem dX5_of_96 : decode cX5_of 96 = .ok (.getfield 91, 3) := by decide +kernel
theorem dX5_of_99 : decode cX5_of 99 = .ok (.ireturn, 1) := by decide +kernel
theorem dX5_of_100 : decode cX5_of 100 = .ok (.aload_n 3, 1) := by decide +kernel
theorem dX5_of_101 : decode cX5_of 101 = .ok (.getfield 94, 3) := by decide +kernel
theorem dX5_of_104 : decode cX5_of 104 = .ok (.ireturn, 1) := by decide +kernel
theorem dX5_of_105 : decode cX5_of 105 = .ok (.aload_n 3, 1) := by decide +kernel
theorem dX5_of_106 : decode cX5_of 106 = .ok (.getfield 97, 3) := by decide +kernel
theorem dX5_of_109 : decode cX5_of 109 = .ok (.ireturn, 1) := by decide +kernel
theorem dX5_of_110 : decode cX5_of 110 = .ok (.aload_n 3, 1) := by decide +kernel
theorem dX5_of_111 : decode cX5_of 111 = .ok (.getfield 100, 3) := by decide +kernel
theorem dX5_of_114 : decode cX5_of 114 = .ok (.ireturn, 1) := by decide +kernel
theorem dX5_of_115 : decode cX5_of 115 = .ok (.aload_n 0, 1) := by decide +kernel
theorem dX5_of_116 : decode cX5_of 116 = .ok (.getfield 12, 3) := by decide +kernel
theorem dX5_of_119 : decode cX5_of 119 = .ok (.iload_n 1, 1) := by decide +kernel
theorem dX5_of_120 : decode cX5_of 120 = .ok (.invokevirtual 103, 3) := by decide +kernel
theorem dX5_of_123 : decode cX5_of 123 = .ok (.ireturn, 1) := by decide +kernel
theorem dX5_of_124 : decode cX5_of 124 = .ok (.aload_n 0, 1) := by decide +kernel
theorem dX5_of_125 : decode cX5_of 125 = .ok (.getfield 12, 3) := by decide +kernel
theorem dX5_of_128 : decode cX5_of 128 = .ok (.iload_n 1, 1) := by decide +kernel
theorem dX5_of_129 : decode cX5_of 129 = .ok (.aload_n 3, 1) := by decide +kernel
theorem dX5_of_130 : decode cX5_of 130 = .ok (.getfield 100, 3) := by decide +kernel
theorem dX5_of_133 : decode cX5_of 133 = .ok (.invokevirtual 106, 3) := by decide +kernel
theorem dX5_of_136 : decode cX5_of 136 = .ok (.ireturn, 1) := by decide +kernel
theorem dX5_of_137 : decode cX5_of 137 = .ok (.aload_n 0, 1) := by decide +kernel
theorem dX5_of_138 : decode cX5_of 138 = .ok (.ldc 58, 2) := by decide +kernel
theorem dX5_of_140 : decode cX5_of 140 = .ok (.invokevirtual 59, 3) := by decide +kernel
theorem dX5_of_143 : decode cX5_of 143 = .ok (.ireturn, 1) := by decide +kernel
theorem dX5_set_0 : decode cX5_set 0 = .ok (.aload_n 0, 1) := by decide +kernel
theorem dX5_set_1 : decode cX5_set 1 = .ok (.getfield 12, 3) := by decide +kernel
theorem dX5_set_4 : decode cX5_set 4 = .ok (.iload_n 1, 1) := by decide +kernel
theorem dX5_set_5 : decode cX5_set 5 = .ok (.invokevirtual 78, 3) := by decide +kernel
theorem dX5_set_8 : decode cX5_set 8 = .ok (.ifCond .eq 11, 3) := by decide +kernel
theorem dX5_set_11 : decode cX5_set 11 = .ok (.iload_n 2, 1) := by decide +kernel
theorem dX5_set_12 : decode cX5_set 12 = .ok (.iload_n 3, 1) := by decide +kernel
theorem dX5_set_13 : decode cX5_set 13 = .ok (.invokestatic 110, 3) := by decide +kernel
theorem dX5_set_16 : decode cX5_set 16 = .ok (.ifCond .ne 10, 3) := by decide +kernel
theorem dX5_set_19 : decode cX5_set 19 = .ok (.aload_n 0, 1) := by decide +kernel
theorem dX5_set_20 : decode cX5_set 20 = .ok (.ldc 58, 2) := by decide +kernel
theorem dX5_set_22 : decode cX5_set 22 = .ok (.invokevirtual 59, 3) := by decide +kernel
theorem dX5_set_25 : decode cX5_set 25 = .ok (.ireturn, 1) := by decide +kernel
theorem dX5_set_26 : decode cX5_set 26 = .ok (.aload_n 0, 1) := by decide +kernel
theorem dX5_set_27 : decode cX5_set 27 = .ok (.getfield 12, 3) := by decide +kernel
theorem dX5_set_30 : decode cX5_set 30 = .ok (.getfield 68, 3) := by decide +kernel
theorem dX5_set_33 : decode cX5_set 33 = .ok (.iload_n 1, 1) := by decide +kernel
theorem dX5_set_34 : decode cX5_set 34 = .ok (.aaload, 1) := by decide +kernel
theorem dX5_set_35 : decode cX5_set 35 = .ok (.astore 4, 2) := by decide +kernel
theorem dX5_set_37 : decode cX5_set 37 = .ok (.iload_n 2, 1) := by decide +kernel
theorem dX5_set_38 : decode cX5_set 38 = .ok (.tableswitch 74 1 3 #[26, 42, 58], 26) := by decide +kernel
theorem dX5_set_64 : decode cX5_set 64 = .ok (.aload 4, 2) := by decide +kernel
theorem dX5_set_66 : decode cX5_set 66 = .ok (.getfield 85, 3) := by decide +kernel
theorem dX5_set_69 : decode cX5_set 69 = .ok (.istore 5, 2) := by decide +kernel
theorem dX5_set_71 : decode cX5_set 71 = .ok (.aload 4, 2) := by decide +kernel
theorem dX5_set_73 : decode cX5_set 73 = .ok (.iload_n 3, 1) := by decide +kernel
theorem dX5_set_74 : decode cX5_set 74 = .ok (.putfield 85, 3) := by decide +kernel
theorem dX5_set_77 : decode cX5_set 77 = .ok (.iload 5, 2) := by decide +kernel
theorem dX5_set_79 : decode cX5_set 79 = .ok (.ireturn, 1) := by decide +kernel
theorem dX5_set_80 : decode cX5_set 80 = .ok (.aload 4, 2) := by decide +kernel
theorem dX5_set_82 : decode cX5_set 82 = .ok (.getfield 88, 3) := by decide +kernel
theorem dX5_set_85 : decode cX5_set 85 = .ok (.istore 5, 2) := by decide +kernel
theorem dX5_set_87 : decode cX5_set 87 = .ok (.aload 4, 2) := by decide +kernel
theorem dX5_set_89 : decode cX5_set 89 = .ok (.iload_n 3, 1) := by decide +kernel
theorem dX5_set_90 : decode cX5_set 90 = .ok (.putfield 88, 3) := by decide +kernel
theorem dX5_set_93 : decode cX5_set 93 = .ok (.iload 5, 2) := by decide +kernel
theorem dX5_set_95 : decode cX5_set 95 = .ok (.ireturn, 1) := by decide +kernel
theorem dX5_set_96 : decode cX5_set 96 = .ok (.aload 4, 2) := by decide +kernel
theorem dX5_set_98 : decode cX5_set 98 = .ok (.getfield 91, 3) := by decide +kernel
theorem dX5_set_101 : decode cX5_set 101 = .ok (.istore 5, 2) := by decide +kernel
theorem dX5_set_103 : decode cX5_set 103 = .ok (.aload 4, 2) := by decide +kernel
theorem dX5_set_105 : decode cX5_set 105 = .ok (.iload_n 3, 1) := by decide +kernel
theorem dX5_set_106 : decode cX5_set 106 = .ok (.putfield 91, 3) := by decide +kernel
theorem dX5_set_109 : decode cX5_set 109 = .ok (.iload 5, 2) := by decide +kernel
theorem dX5_set_111 : decode cX5_set 111 = .ok (.ireturn, 1) := by decide +kernel
theorem dX5_set_112 : decode cX5_set 112 = .ok (.aload 4, 2) := by decide +kernel
theorem dX5_set_114 : decode cX5_set 114 = .ok (.getfield 94, 3) := by decide +kernel
theorem dX5_set_117 : decode cX5_set 117 = .ok (.istore 5, 2) := by decide +kernel
theorem dX5_set_119 : decode cX5_set 119 = .ok (.aload 4, 2) := by decide +kernel
theorem dX5_set_121 : decode cX5_set 121 = .ok (.iload_n 3, 1) := by decide +kernel
theorem dX5_set_122 : decode cX5_set 122 = .ok (.putfield 94, 3) := by decide +kernel
theorem dX5_set_125 : decode cX5_set 125 = .ok (.iload 5, 2) := by decide +kernel
theorem dX5_set_127 : decode cX5_set 127 = .ok (.ireturn, 1) := by decide +kernel
theorem dX5_as_0 : decode cX5_as 0 = .ok (.aload_n 0, 1) := by decide +kernel
theorem dX5_as_1 : decode cX5_as 1 = .ok (.getfield 12, 3) := by decide +kernel
theorem dX5_as_4 : decode cX5_as 4 = .ok (.iload_n 1, 1) := by decide +kernel
theorem dX5_as_5 : decode cX5_as 5 = .ok (.invokevirtual 78, 3) := by decide +kernel
theorem dX5_as_8 : decode cX5_as 8 = .ok (.ifCond .eq 12, 3) := by decide +kernel
theorem dX5_as_11 : decode cX5_as 11 = .ok (.iload_n 2, 1) := by decide +kernel
theorem dX5_as_12 : decode cX5_as 12 = .ok (.iconst 0, 1) := by decide +kernel
theorem dX5_as_13 : decode cX5_as 13 = .ok (.iconst 5, 1) := by decide +kernel
theorem dX5_as_14 : decode cX5_as 14 = .ok (.invokestatic 54, 3) := by decide +kernel
theorem dX5_as_17 : decode cX5_as 17 = .ok (.ifCond .ne 10, 3) := by decide +kernel
theorem dX5_as_20 : decode cX5_as 20 = .ok (.aload_n 0, 1) := by decide +kernel
theorem dX5_as_21 : decode cX5_as 21 = .ok (.ldc 58, 2) := by decide +kernel
theorem dX5_as_23 : decode cX5_as 23 = .ok (.invokevirtual 59, 3) := by decide +kernel
theorem dX5_as_26 : decode cX5_as 26 = .ok (.ireturn, 1) := by decide +kernel
theorem dX5_as_27 : decode cX5_as 27 = .ok (.aload_n 0, 1) := by decide +kernel
theorem dX5_as_28 : decode cX5_as 28 = .ok (.getfield 12, 3) := by decide +kernel
theorem dX5_as_31 : decode cX5_as 31 = .ok (.getfield 68, 3) := by decide +kernel
theorem dX5_as_34 : decode cX5_as 34 = .ok (.iload_n 1, 1) := by decide +kernel
theorem dX5_as_35 : decode cX5_as 35 = .ok (.aaload, 1) := by decide +kernel
theorem dX5_as_36 : decode cX5_as 36 = .ok (.astore_n 3, 1) := by decide +kernel
theorem dX5_as_37 : decode cX5_as 37 = .ok (.aload_n 3, 1) := by decide +kernel
theorem dX5_as_38 : decode cX5_as 38 = .ok (.getfield 82, 3) := by decide +kernel
theorem dX5_as_41 : decode cX5_as 41 = .ok (.iload_n 2, 1) := by decide +kernel
theorem dX5_as_42 : decode cX5_as 42 = .ok (.invokestatic 114, 3) := by decide +kernel
theorem dX5_as_45 : decode cX5_as 45 = .ok (.ifCond .ne 10, 3) := by decide +kernel
theorem dX5_as_48 : decode cX5_as 48 = .ok (.aload_n 0, 1) := by decide +kernel
theorem dX5_as_49 : decode cX5_as 49 = .ok (.ldc 117, 2) := by decide +kernel
theorem dX5_as_51 : decode cX5_as 51 = .ok (.invokevirtual 59, 3) := by decide +kernel
theorem dX5_as_54 : decode cX5_as 54 = .ok (.ireturn, 1) := by decide +kernel
theorem dX5_as_55 : decode cX5_as 55 = .ok (.aload_n 0, 1) := by decide +kernel
theorem dX5_as_56 : decode cX5_as 56 = .ok (.getfield 12, 3) := by decide +kernel
theorem dX5_as_59 : decode cX5_as 59 = .ok (.iload_n 1, 1) := by decide +kernel
theorem dX5_as_60 : decode cX5_as 60 = .ok (.aload_n 3, 1) := by decide +kernel
theorem dX5_as_61 : decode cX5_as 61 = .ok (.getfield 100, 3) := by decide +kernel
theorem dX5_as_64 : decode cX5_as 64 = .ok (.invokevirtual 106, 3) := by decide +kernel
theorem dX5_as_67 : decode cX5_as 67 = .ok (.ireturn, 1) := by decide +kernel
theorem dX5_holds_0 : decode cX5_holds 0 = .ok (.aload_n 0, 1) := by decide +kernel
theorem dX5_holds_1 : decode cX5_holds 1 = .ok (.getfield 12, 3) := by decide +kernel
theorem dX5_holds_4 : decode cX5_holds 4 = .ok (.iload_n 1, 1) := by decide +kernel
theorem dX5_holds_5 : decode cX5_holds 5 = .ok (.invokevirtual 78, 3) := by decide +kernel
theorem dX5_holds_8 : decode cX5_holds 8 = .ok (.ifCond .eq 14, 3) := by decide +kernel
theorem dX5_holds_11 : decode cX5_holds 11 = .ok (.iload_n 2, 1) := by decide +kernel
theorem dX5_holds_12 : decode cX5_holds 12 = .ok (.iconst 0, 1) := by decide +kernel
theorem dX5_holds_13 : decode cX5_holds 13 = .ok (.sipush 999, 3) := by decide +kernel
theorem dX5_holds_16 : decode cX5_holds 16 = .ok (.invokestatic 54, 3) := by decide +kernel
theorem dX5_holds_19 : decode cX5_holds 19 = .ok (.ifCond .ne 10, 3) := by decide +kernel
theorem dX5_holds_22 : decode cX5_holds 22 = .ok (.aload_n 0, 1) := by decide +kernel
theorem dX5_holds_23 : decode cX5_holds 23 = .ok (.ldc 58, 2) := by decide +kernel
theorem dX5_holds_25 : decode cX5_holds 25 = .ok (.invokevirtual 59, 3) := by decide +kernel
theorem dX5_holds_28 : decode cX5_holds 28 = .ok (.ireturn, 1) := by decide +kernel
theorem dX5_holds_29 : decode cX5_holds 29 = .ok (.aload_n 0, 1) := by decide +kernel
theorem dX5_holds_30 : decode cX5_holds 30 = .ok (.getfield 12, 3) := by decide +kernel
theorem dX5_holds_33 : decode cX5_holds 33 = .ok (.iload_n 1, 1) := by decide +kernel
theorem dX5_holds_34 : decode cX5_holds 34 = .ok (.iload_n 2, 1) := by decide +kernel
theorem dX5_holds_35 : decode cX5_holds 35 = .ok (.invokevirtual 106, 3) := by decide +kernel
theorem dX5_holds_38 : decode cX5_holds 38 = .ok (.ireturn, 1) := by decide +kernel
theorem dX5_rubs_0 : decode cX5_rubs 0 = .ok (.aload_n 0, 1) := by decide +kernel
theorem dX5_rubs_1 : decode cX5_rubs 1 = .ok (.getfield 12, 3) := by decide +kernel
theorem dX5_rubs_4 : decode cX5_rubs 4 = .ok (.iload_n 1, 1) := by decide +kernel
theorem dX5_rubs_5 : decode cX5_rubs 5 = .ok (.invokevirtual 78, 3) := by decide +kernel
theorem dX5_rubs_8 : decode cX5_rubs 8 = .ok (.ifCond .eq 14, 3) := by decide +kernel
theorem dX5_rubs_11 : decode cX5_rubs 11 = .ok (.iload_n 2, 1) := by decide +kernel
theorem dX5_rubs_12 : decode cX5_rubs 12 = .ok (.iconst 0, 1) := by decide +kernel
theorem dX5_rubs_13 : decode cX5_rubs 13 = .ok (.sipush 999, 3) := by decide +kernel
theorem dX5_rubs_16 : decode cX5_rubs 16 = .ok (.invokestatic 54, 3) := by decide +kernel
theorem dX5_rubs_19 : decode cX5_rubs 19 = .ok (.ifCond .ne 10, 3) := by decide +kernel
theorem dX5_rubs_22 : decode cX5_rubs 22 = .ok (.aload_n 0, 1) := by decide +kernel
theorem dX5_rubs_23 : decode cX5_rubs 23 = .ok (.ldc 58, 2) := by decide +kernel
theorem dX5_rubs_25 : decode cX5_rubs 25 = .ok (.invokevirtual 59, 3) := by decide +kernel
theorem dX5_rubs_28 : decode cX5_rubs 28 = .ok (.ireturn, 1) := by decide +kernel
theorem dX5_rubs_29 : decode cX5_rubs 29 = .ok (.aload_n 0, 1) := by decide +kernel
theorem dX5_rubs_30 : decode cX5_rubs 30 = .ok (.getfield 12, 3) := by decide +kernel
theorem dX5_rubs_33 : decode cX5_rubs 33 = .ok (.getfield 68, 3) := by decide +kernel
theorem dX5_rubs_36 : decode cX5_rubs 36 = .ok (.iload_n 1, 1) := by decide +kernel
theorem dX5_rubs_37 : decode cX5_rubs 37 = .ok (.aaload, 1) := by decide +kernel
theorem dX5_rubs_38 : decode cX5_rubs 38 = .ok (.iload_n 2, 1) := by decide +kernel
theorem dX5_rubs_39 : decode cX5_rubs 39 = .ok (.invokevirtual 118, 3) := by decide +kernel
theorem dX5_rubs_42 : decode cX5_rubs 42 = .ok (.ireturn, 1) := by decide +kernel
theorem dX5_push_0 : decode cX5_push 0 = .ok (.aload_n 0, 1) := by decide +kernel
theorem dX5_push_1 : decode cX5_push 1 = .ok (.getfield 12, 3) := by decide +kernel
theorem dX5_push_4 : decode cX5_push 4 = .ok (.iload_n 1, 1) := by decide +kernel
theorem dX5_push_5 : decode cX5_push 5 = .ok (.invokevirtual 78, 3) := by decide +kernel
theorem dX5_push_8 : decode cX5_push 8 = .ok (.ifCond .eq 16, 3) := by decide +kernel
theorem dX5_push_11 : decode cX5_push 11 = .ok (.iload_n 2, 1) := by decide +kernel
theorem dX5_push_12 : decode cX5_push 12 = .ok (.sipush (-9999), 3) := by decide +kernel
theorem dX5_push_15 : decode cX5_push 15 = .ok (.sipush 9999, 3) := by decide +kernel
theorem dX5_push_18 : decode cX5_push 18 = .ok (.invokestatic 54, 3) := by decide +kernel
theorem dX5_push_21 : decode cX5_push 21 = .ok (.ifCond .ne 10, 3) := by decide +kernel
theorem dX5_push_24 : decode cX5_push 24 = .ok (.aload_n 0, 1) := by decide +kernel
theorem dX5_push_25 : decode cX5_push 25 = .ok (.ldc 58, 2) := by decide +kernel
theorem dX5_push_27 : decode cX5_push 27 = .ok (.invokevirtual 59, 3) := by decide +kernel
theorem dX5_push_30 : decode cX5_push 30 = .ok (.ireturn, 1) := by decide +kernel
theorem dX5_push_31 : decode cX5_push 31 = .ok (.aload_n 0, 1) := by decide +kernel
theorem dX5_push_32 : decode cX5_push 32 = .ok (.getfield 12, 3) := by decide +kernel
theorem dX5_push_35 : decode cX5_push 35 = .ok (.getfield 68, 3) := by decide +kernel
theorem dX5_push_38 : decode cX5_push 38 = .ok (.iload_n 1, 1) := by decide +kernel
theorem dX5_push_39 : decode cX5_push 39 = .ok (.aaload, 1) := by decide +kernel
theorem dX5_push_40 : decode cX5_push 40 = .ok (.astore_n 3, 1) := by decide +kernel
theorem dX5_push_41 : decode cX5_push 41 = .ok (.aload_n 3, 1) := by decide +kernel
theorem dX5_push_42 : decode cX5_push 42 = .ok (.dup, 1) := by decide +kernel
theorem dX5_push_43 : decode cX5_push 43 = .ok (.getfield 97, 3) := by decide +kernel
theorem dX5_push_46 : decode cX5_push 46 = .ok (.iload_n 2, 1) := by decide +kernel
theorem dX5_push_47 : decode cX5_push 47 = .ok (.iadd, 1) := by decide +kernel
theorem dX5_push_48 : decode cX5_push 48 = .ok (.putfield 97, 3) := by decide +kernel
theorem dX5_push_51 : decode cX5_push 51 = .ok (.aload_n 3, 1) := by decide +kernel
theorem dX5_push_52 : decode cX5_push 52 = .ok (.iconst 0, 1) := by decide +kernel
theorem dX5_push_53 : decode cX5_push 53 = .ok (.putfield 100, 3) := by decide +kernel
theorem dX5_push_56 : decode cX5_push 56 = .ok (.aload_n 3, 1) := by decide +kernel
theorem dX5_push_57 : decode cX5_push 57 = .ok (.getfield 97, 3) := by decide +kernel
theorem dX5_push_60 : decode cX5_push 60 = .ok (.ireturn, 1) := by decide +kernel
theorem dX5_oil_0 : decode cX5_oil 0 = .ok (.aload_n 0, 1) := by decide +kernel
theorem dX5_oil_1 : decode cX5_oil 1 = .ok (.getfield 12, 3) := by decide +kernel
theorem dX5_oil_4 : decode cX5_oil 4 = .ok (.iload_n 1, 1) := by decide +kernel
theorem dX5_oil_5 : decode cX5_oil 5 = .ok (.invokevirtual 78, 3) := by decide +kernel
theorem dX5_oil_8 : decode cX5_oil 8 = .ok (.ifCond .eq 13, 3) := by decide +kernel
theorem dX5_oil_11 : decode cX5_oil 11 = .ok (.iload_n 2, 1) := by decide +kernel
theorem dX5_oil_12 : decode cX5_oil 12 = .ok (.iconst 1, 1) := by decide +kernel
theorem dX5_oil_13 : decode cX5_oil 13 = .ok (.bipush 99, 2) := by decide +kernel
theorem dX5_oil_15 : decode cX5_oil 15 = .ok (.invokestatic 54, 3) := by decide +kernel
theorem dX5_oil_18 : decode cX5_oil 18 = .ok (.ifCond .ne 10, 3) := by decide +kernel
theorem dX5_oil_21 : decode cX5_oil 21 = .ok (.aload_n 0, 1) := by decide +kernel
theorem dX5_oil_22 : decode cX5_oil 22 = .ok (.ldc 58, 2) := by decide +kernel
theorem dX5_oil_24 : decode cX5_oil 24 = .ok (.invokevirtual 59, 3) := by decide +kernel
theorem dX5_oil_27 : decode cX5_oil 27 = .ok (.ireturn, 1) := by decide +kernel
theorem dX5_oil_28 : decode cX5_oil 28 = .ok (.aload_n 0, 1) := by decide +kernel
theorem dX5_oil_29 : decode cX5_oil 29 = .ok (.getfield 12, 3) := by decide +kernel
theorem dX5_oil_32 : decode cX5_oil 32 = .ok (.getfield 68, 3) := by decide +kernel
theorem dX5_oil_35 : decode cX5_oil 35 = .ok (.iload_n 1, 1) := by decide +kernel
theorem dX5_oil_36 : decode cX5_oil 36 = .ok (.aaload, 1) := by decide +kernel
theorem dX5_oil_37 : decode cX5_oil 37 = .ok (.astore_n 3, 1) := by decide +kernel
theorem dX5_oil_38 : decode cX5_oil 38 = .ok (.aload_n 3, 1) := by decide +kernel
theorem dX5_oil_39 : decode cX5_oil 39 = .ok (.bipush 99, 2) := by decide +kernel
theorem dX5_oil_41 : decode cX5_oil 41 = .ok (.aload_n 3, 1) := by decide +kernel
theorem dX5_oil_42 : decode cX5_oil 42 = .ok (.getfield 94, 3) := by decide +kernel
theorem dX5_oil_45 : decode cX5_oil 45 = .ok (.iload_n 2, 1) := by decide +kernel
theorem dX5_oil_46 : decode cX5_oil 46 = .ok (.iadd, 1) := by decide +kernel
theorem dX5_oil_47 : decode cX5_oil 47 = .ok (.invokestatic 121, 3) := by decide +kernel
theorem dX5_oil_50 : decode cX5_oil 50 = .ok (.putfield 94, 3) := by decide +kernel
theorem dX5_oil_53 : decode cX5_oil 53 = .ok (.aload_n 3, 1) := by decide +kernel
theorem dX5_oil_54 : decode cX5_oil 54 = .ok (.getfield 94, 3) := by decide +kernel
theorem dX5_oil_57 : decode cX5_oil 57 = .ok (.ireturn, 1) := by decide +kernel
theorem dX5_pace_0 : decode cX5_pace 0 = .ok (.iload_n 1, 1) := by decide +kernel
theorem dX5_pace_1 : decode cX5_pace 1 = .ok (.bipush (-99), 2) := by decide +kernel
theorem dX5_pace_3 : decode cX5_pace 3 = .ok (.bipush 99, 2) := by decide +kernel
theorem dX5_pace_5 : decode cX5_pace 5 = .ok (.invokestatic 54, 3) := by decide +kernel
theorem dX5_pace_8 : decode cX5_pace 8 = .ok (.ifCond .ne 10, 3) := by decide +kernel
theorem dX5_pace_11 : decode cX5_pace 11 = .ok (.aload_n 0, 1) := by decide +kernel
theorem dX5_pace_12 : decode cX5_pace 12 = .ok (.ldc 58, 2) := by decide +kernel
theorem dX5_pace_14 : decode cX5_pace 14 = .ok (.invokevirtual 59, 3) := by decide +kernel
theorem dX5_pace_17 : decode cX5_pace 17 = .ok (.ireturn, 1) := by decide +kernel
theorem dX5_pace_18 : decode cX5_pace 18 = .ok (.aload_n 0, 1) := by decide +kernel
theorem dX5_pace_19 : decode cX5_pace 19 = .ok (.getfield 12, 3) := by decide +kernel
theorem dX5_pace_22 : decode cX5_pace 22 = .ok (.getfield 126, 3) := by decide +kernel
theorem dX5_pace_25 : decode cX5_pace 25 = .ok (.istore_n 2, 1) := by decide +kernel
theorem dX5_pace_26 : decode cX5_pace 26 = .ok (.aload_n 0, 1) := by decide +kernel
theorem dX5_pace_27 : decode cX5_pace 27 = .ok (.getfield 12, 3) := by decide +kernel
theorem dX5_pace_30 : decode cX5_pace 30 = .ok (.iload_n 1, 1) := by decide +kernel
theorem dX5_pace_31 : decode cX5_pace 31 = .ok (.putfield 126, 3) := by decide +kernel
theorem dX5_pace_34 : decode cX5_pace 34 = .ok (.iload_n 2, 1) := by decide +kernel
theorem dX5_pace_35 : decode cX5_pace 35 = .ok (.ireturn, 1) := by decide +kernel
theorem dX5_ticks_0 : decode cX5_ticks 0 = .ok (.iload_n 1, 1) := by decide +kernel
theorem dX5_ticks_1 : decode cX5_ticks 1 = .ok (.iconst 1, 1) := by decide +kernel
theorem dX5_ticks_2 : decode cX5_ticks 2 = .ok (.bipush 100, 2) := by decide +kernel
theorem dX5_ticks_4 : decode cX5_ticks 4 = .ok (.invokestatic 54, 3) := by decide +kernel
theorem dX5_ticks_7 : decode cX5_ticks 7 = .ok (.ifCond .ne 10, 3) := by decide +kernel
theorem dX5_ticks_10 : decode cX5_ticks 10 = .ok (.aload_n 0, 1) := by decide +kernel
theorem dX5_ticks_11 : decode cX5_ticks 11 = .ok (.ldc 58, 2) := by decide +kernel
theorem dX5_ticks_13 : decode cX5_ticks 13 = .ok (.invokevirtual 59, 3) := by decide +kernel
theorem dX5_ticks_16 : decode cX5_ticks 16 = .ok (.ireturn, 1) := by decide +kernel
theorem dX5_ticks_17 : decode cX5_ticks 17 = .ok (.iconst 0, 1) := by decide +kernel
theorem dX5_ticks_18 : decode cX5_ticks 18 = .ok (.istore_n 2, 1) := by decide +kernel
theorem dX5_ticks_19 : decode cX5_ticks 19 = .ok (.iload_n 2, 1) := by decide +kernel
theorem dX5_ticks_20 : decode cX5_ticks 20 = .ok (.iload_n 1, 1) := by decide +kernel
theorem dX5_ticks_21 : decode cX5_ticks 21 = .ok (.if_icmp .ge 27, 3) := by decide +kernel
theorem dX5_ticks_24 : decode cX5_ticks 24 = .ok (.aload_n 0, 1) := by decide +kernel
theorem dX5_ticks_25 : decode cX5_ticks 25 = .ok (.getfield 12, 3) := by decide +kernel
theorem dX5_ticks_28 : decode cX5_ticks 28 = .ok (.invokevirtual 129, 3) := by decide +kernel
theorem dX5_ticks_31 : decode cX5_ticks 31 = .ok (.aload_n 0, 1) := by decide +kernel
theorem dX5_ticks_32 : decode cX5_ticks 32 = .ok (.getfield 25, 3) := by decide +kernel
theorem dX5_ticks_35 : decode cX5_ticks 35 = .ok (.aload_n 0, 1) := by decide +kernel
theorem dX5_ticks_36 : decode cX5_ticks 36 = .ok (.getfield 12, 3) := by decide +kernel
theorem dX5_ticks_39 : decode cX5_ticks 39 = .ok (.invokevirtual 132, 3) := by decide +kernel
theorem dX5_ticks_42 : decode cX5_ticks 42 = .ok (.iinc 2 1, 3) := by decide +kernel
theorem dX5_ticks_45 : decode cX5_ticks 45 = .ok (.goto (-26), 3) := by decide +kernel
theorem dX5_ticks_48 : decode cX5_ticks 48 = .ok (.aload_n 0, 1) := by decide +kernel
theorem dX5_ticks_49 : decode cX5_ticks 49 = .ok (.getfield 12, 3) := by decide +kernel
theorem dX5_ticks_52 : decode cX5_ticks 52 = .ok (.getfield 136, 3) := by decide +kernel
theorem dX5_ticks_55 : decode cX5_ticks 55 = .ok (.ireturn, 1) := by decide +kernel
theorem dX5_until_0 : decode cX5_until 0 = .ok (.iload_n 1, 1) := by decide +kernel
theorem dX5_until_1 : decode cX5_until 1 = .ok (.iconst 1, 1) := by decide +kernel
theorem dX5_until_2 : decode cX5_until 2 = .ok (.sipush 400, 3) := by decide +kernel
theorem dX5_until_5 : decode cX5_until 5 = .ok (.invokestatic 54, 3) := by decide +kernel
theorem dX5_until_8 : decode cX5_until 8 = .ok (.ifCond .eq 13, 3) := by decide +kernel
theorem dX5_until_11 : decode cX5_until 11 = .ok (.iload_n 2, 1) := by decide +kernel
theorem dX5_until_12 : decode cX5_until 12 = .ok (.iconst 1, 1) := by decide +kernel
theorem dX5_until_13 : decode cX5_until 13 = .ok (.bipush 100, 2) := by decide +kernel
theorem dX5_until_15 : decode cX5_until 15 = .ok (.invokestatic 54, 3) := by decide +kernel
theorem dX5_until_18 : decode cX5_until 18 = .ok (.ifCond .ne 10, 3) := by decide +kernel
theorem dX5_until_21 : decode cX5_until 21 = .ok (.aload_n 0, 1) := by decide +kernel
theorem dX5_until_22 : decode cX5_until 22 = .ok (.ldc 58, 2) := by decide +kernel
theorem dX5_until_24 : decode cX5_until 24 = .ok (.invokevirtual 59, 3) := by decide +kernel
theorem dX5_until_27 : decode cX5_until 27 = .ok (.ireturn, 1) := by decide +kernel
theorem dX5_until_28 : decode cX5_until 28 = .ok (.iconst 1, 1) := by decide +kernel
theorem dX5_until_29 : decode cX5_until 29 = .ok (.istore_n 3, 1) := by decide +kernel
theorem dX5_until_30 : decode cX5_until 30 = .ok (.iload_n 3, 1) := by decide +kernel
theorem dX5_until_31 : decode cX5_until 31 = .ok (.iload_n 2, 1) := by decide +kernel
theorem dX5_until_32 : decode cX5_until 32 = .ok (.if_icmp .gt 40, 3) := by decide +kernel
theorem dX5_until_35 : decode cX5_until 35 = .ok (.aload_n 0, 1) := by decide +kernel
theorem dX5_until_36 : decode cX5_until 36 = .ok (.getfield 12, 3) := by decide +kernel
theorem dX5_until_39 : decode cX5_until 39 = .ok (.invokevirtual 129, 3) := by decide +kernel
theorem dX5_until_42 : decode cX5_until 42 = .ok (.aload_n 0, 1) := by decide +kernel
theorem dX5_until_43 : decode cX5_until 43 = .ok (.getfield 25, 3) := by decide +kernel
theorem dX5_until_46 : decode cX5_until 46 = .ok (.aload_n 0, 1) := by decide +kernel
theorem dX5_until_47 : decode cX5_until 47 = .ok (.getfield 12, 3) := by decide +kernel
theorem dX5_until_50 : decode cX5_until 50 = .ok (.invokevirtual 132, 3) := by decide +kernel
theorem dX5_until_53 : decode cX5_until 53 = .ok (.aload_n 0, 1) := by decide +kernel
theorem dX5_until_54 : decode cX5_until 54 = .ok (.getfield 12, 3) := by decide +kernel
theorem dX5_until_57 : decode cX5_until 57 = .ok (.getfield 136, 3) := by decide +kernel
theorem dX5_until_60 : decode cX5_until 60 = .ok (.iload_n 1, 1) := by decide +kernel
theorem dX5_until_61 : decode cX5_until 61 = .ok (.if_icmp .lt 5, 3) := by decide +kernel
theorem dX5_until_64 : decode cX5_until 64 = .ok (.iload_n 3, 1) := by decide +kernel
theorem dX5_until_65 : decode cX5_until 65 = .ok (.ireturn, 1) := by decide +kernel
theorem dX5_until_66 : decode cX5_until 66 = .ok (.iinc 3 1, 3) := by decide +kernel
theorem dX5_until_69 : decode cX5_until 69 = .ok (.goto (-39), 3) := by decide +kernel
theorem dX5_until_72 : decode cX5_until 72 = .ok (.iload_n 2, 1) := by decide +kernel
theorem dX5_until_73 : decode cX5_until 73 = .ok (.ireturn, 1) := by decide +kernel
theorem dX5_book_0 : decode cX5_book 0 = .ok (.iload_n 1, 1) := by decide +kernel
theorem dX5_book_1 : decode cX5_book 1 = .ok (.iconst 0, 1) := by decide +kernel
theorem dX5_book_2 : decode cX5_book 2 = .ok (.aload_n 0, 1) := by decide +kernel
theorem dX5_book_3 : decode cX5_book 3 = .ok (.getfield 25, 3) := by decide +kernel
theorem dX5_book_6 : decode cX5_book 6 = .ok (.getfield 139, 3) := by decide +kernel
theorem dX5_book_9 : decode cX5_book 9 = .ok (.iconst 1, 1) := by decide +kernel
theorem dX5_book_10 : decode cX5_book 10 = .ok (.isub, 1) := by decide +kernel
theorem dX5_book_11 : decode cX5_book 11 = .ok (.invokestatic 54, 3) := by decide +kernel
theorem dX5_book_14 : decode cX5_book 14 = .ok (.ifCond .ne 10, 3) := by decide +kernel
theorem dX5_book_17 : decode cX5_book 17 = .ok (.aload_n 0, 1) := by decide +kernel
theorem dX5_book_18 : decode cX5_book 18 = .ok (.ldc 58, 2) := by decide +kernel
theorem dX5_book_20 : decode cX5_book 20 = .ok (.invokevirtual 59, 3) := by decide +kernel
theorem dX5_book_23 : decode cX5_book 23 = .ok (.ireturn, 1) := by decide +kernel
theorem dX5_book_24 : decode cX5_book 24 = .ok (.iload_n 2, 1) := by decide +kernel
theorem dX5_book_25 : decode cX5_book 25 = .ok (.tableswitch 78 0 2 #[27, 44, 61], 27) := by decide +kernel
theorem dX5_book_52 : decode cX5_book 52 = .ok (.aload_n 0, 1) := by decide +kernel
theorem dX5_book_53 : decode cX5_book 53 = .ok (.getfield 25, 3) := by decide +kernel
theorem dX5_book_56 : decode cX5_book 56 = .ok (.getfield 140, 3) := by decide +kernel
theorem dX5_book_59 : decode cX5_book 59 = .ok (.aload_n 0, 1) := by decide +kernel
theorem dX5_book_60 : decode cX5_book 60 = .ok (.getfield 25, 3) := by decide +kernel
theorem dX5_book_63 : decode cX5_book 63 = .ok (.iload_n 1, 1) := by decide +kernel
theorem dX5_book_64 : decode cX5_book 64 = .ok (.invokevirtual 143, 3) := by decide +kernel
theorem dX5_book_67 : decode cX5_book 67 = .ok (.iaload, 1) := by decide +kernel
theorem dX5_book_68 : decode cX5_book 68 = .ok (.ireturn, 1) := by decide +kernel
theorem dX5_book_69 : decode cX5_book 69 = .ok (.aload_n 0, 1) := by decide +kernel
theorem dX5_book_70 : decode cX5_book 70 = .ok (.getfield 25, 3) := by decide +kernel
theorem dX5_book_73 : decode cX5_book 73 = .ok (.getfield 146, 3) := by decide +kernel
theorem dX5_book_76 : decode cX5_book 76 = .ok (.aload_n 0, 1) := by decide +kernel
theorem dX5_book_77 : decode cX5_book 77 = .ok (.getfield 25, 3) := by decide +kernel
theorem dX5_book_80 : decode cX5_book 80 = .ok (.iload_n 1, 1) := by decide +kernel
theorem dX5_book_81 : decode cX5_book 81 = .ok (.invokevirtual 143, 3) := by decide +kernel
theorem dX5_book_84 : decode cX5_book 84 = .ok (.iaload, 1) := by decide +kernel
theorem dX5_book_85 : decode cX5_book 85 = .ok (.ireturn, 1) := by decide +kernel
theorem dX5_book_86 : decode cX5_book 86 = .ok (.aload_n 0, 1) := by decide +kernel
theorem dX5_book_87 : decode cX5_book 87 = .ok (.getfield 25, 3) := by decide +kernel
theorem dX5_book_90 : decode cX5_book 90 = .ok (.getfield 149, 3) := by decide +kernel
theorem dX5_book_93 : decode cX5_book 93 = .ok (.aload_n 0, 1) := by decide +kernel
theorem dX5_book_94 : decode cX5_book 94 = .ok (.getfield 25, 3) := by decide +kernel
theorem dX5_book_97 : decode cX5_book 97 = .ok (.iload_n 1, 1) := by decide +kernel
theorem dX5_book_98 : decode cX5_book 98 = .ok (.invokevirtual 143, 3) := by decide +kernel
theorem dX5_book_101 : decode cX5_book 101 = .ok (.iaload, 1) := by decide +kernel
theorem dX5_book_102 : decode cX5_book 102 = .ok (.ireturn, 1) := by decide +kernel
theorem dX5_book_103 : decode cX5_book 103 = .ok (.aload_n 0, 1) := by decide +kernel
theorem dX5_book_104 : decode cX5_book 104 = .ok (.ldc 58, 2) := by decide +kernel
theorem dX5_book_106 : decode cX5_book 106 = .ok (.invokevirtual 59, 3) := by decide +kernel
theorem dX5_book_109 : decode cX5_book 109 = .ok (.ireturn, 1) := by decide +kernel
theorem dX5_counts_0 : decode cX5_counts 0 = .ok (.iload_n 1, 1) := by decide +kernel
theorem dX5_counts_1 : decode cX5_counts 1 = .ok (.iconst 0, 1) := by decide +kernel
theorem dX5_counts_2 : decode cX5_counts 2 = .ok (.bipush 6, 2) := by decide +kernel
theorem dX5_counts_4 : decode cX5_counts 4 = .ok (.invokestatic 54, 3) := by decide +kernel
theorem dX5_counts_7 : decode cX5_counts 7 = .ok (.ifCond .ne 10, 3) := by decide +kernel
theorem dX5_counts_10 : decode cX5_counts 10 = .ok (.aload_n 0, 1) := by decide +kernel
theorem dX5_counts_11 : decode cX5_counts 11 = .ok (.ldc 58, 2) := by decide +kernel
theorem dX5_counts_13 : decode cX5_counts 13 = .ok (.invokevirtual 59, 3) := by decide +kernel
theorem dX5_counts_16 : decode cX5_counts 16 = .ok (.ireturn, 1) := by decide +kernel
theorem dX5_counts_17 : decode cX5_counts 17 = .ok (.aload_n 0, 1) := by decide +kernel
theorem dX5_counts_18 : decode cX5_counts 18 = .ok (.getfield 25, 3) := by decide +kernel
theorem dX5_counts_21 : decode cX5_counts 21 = .ok (.getfield 152, 3) := by decide +kernel
theorem dX5_counts_24 : decode cX5_counts 24 = .ok (.iload_n 1, 1) := by decide +kernel
theorem dX5_counts_25 : decode cX5_counts 25 = .ok (.iaload, 1) := by decide +kernel
theorem dX5_counts_26 : decode cX5_counts 26 = .ok (.ireturn, 1) := by decide +kernel
theorem dX5_power_0 : decode cX5_power 0 = .ok (.iconst 2, 1) := by decide +kernel
theorem dX5_power_1 : decode cX5_power 1 = .ok (.istore_n 1, 1) := by decide +kernel
theorem dX5_power_2 : decode cX5_power 2 = .ok (.iload_n 1, 1) := by decide +kernel
theorem dX5_power_3 : decode cX5_power 3 = .ok (.bipush 7, 2) := by decide +kernel
theorem dX5_power_5 : decode cX5_power 5 = .ok (.if_icmp .ge 34, 3) := by decide +kernel
theorem dX5_power_8 : decode cX5_power 8 = .ok (.aload_n 0, 1) := by decide +kernel
theorem dX5_power_9 : decode cX5_power 9 = .ok (.getfield 25, 3) := by decide +kernel
theorem dX5_power_12 : decode cX5_power 12 = .ok (.getfield 152, 3) := by decide +kernel
theorem dX5_power_15 : decode cX5_power 15 = .ok (.iload_n 1, 1) := by decide +kernel
theorem dX5_power_16 : decode cX5_power 16 = .ok (.iaload, 1) := by decide +kernel
theorem dX5_power_17 : decode cX5_power 17 = .ok (.aload_n 0, 1) := by decide +kernel
theorem dX5_power_18 : decode cX5_power 18 = .ok (.getfield 25, 3) := by decide +kernel
theorem dX5_power_21 : decode cX5_power 21 = .ok (.getfield 152, 3) := by decide +kernel
theorem dX5_power_24 : decode cX5_power 24 = .ok (.iload_n 1, 1) := by decide +kernel
theorem dX5_power_25 : decode cX5_power 25 = .ok (.iconst 1, 1) := by decide +kernel
theorem dX5_power_26 : decode cX5_power 26 = .ok (.isub, 1) := by decide +kernel
theorem dX5_power_27 : decode cX5_power 27 = .ok (.iaload, 1) := by decide +kernel
theorem dX5_power_28 : decode cX5_power 28 = .ok (.if_icmp .le 5, 3) := by decide +kernel
theorem dX5_power_31 : decode cX5_power 31 = .ok (.iconst 0, 1) := by decide +kernel
theorem dX5_power_32 : decode cX5_power 32 = .ok (.ireturn, 1) := by decide +kernel
theorem dX5_power_33 : decode cX5_power 33 = .ok (.iinc 1 1, 3) := by decide +kernel
theorem dX5_power_36 : decode cX5_power 36 = .ok (.goto (-34), 3) := by decide +kernel
theorem dX5_power_39 : decode cX5_power 39 = .ok (.iconst 1, 1) := by decide +kernel
theorem dX5_power_40 : decode cX5_power 40 = .ok (.ireturn, 1) := by decide +kernel
theorem dX5_tone_0 : decode cX5_tone 0 = .ok (.iconst (-1), 1) := by decide +kernel
theorem dX5_tone_1 : decode cX5_tone 1 = .ok (.istore_n 1, 1) := by decide +kernel
theorem dX5_tone_2 : decode cX5_tone 2 = .ok (.iconst 0, 1) := by decide +kernel
theorem dX5_tone_3 : decode cX5_tone 3 = .ok (.istore_n 2, 1) := by decide +kernel
theorem dX5_tone_4 : decode cX5_tone 4 = .ok (.iload_n 2, 1) := by decide +kernel
theorem dX5_tone_5 : decode cX5_tone 5 = .ok (.aload_n 0, 1) := by decide +kernel
theorem dX5_tone_6 : decode cX5_tone 6 = .ok (.getfield 25, 3) := by decide +kernel
theorem dX5_tone_9 : decode cX5_tone 9 = .ok (.getfield 139, 3) := by decide +kernel
theorem dX5_tone_12 : decode cX5_tone 12 = .ok (.if_icmp .ge 38, 3) := by decide +kernel
theorem dX5_tone_15 : decode cX5_tone 15 = .ok (.aload_n 0, 1) := by decide +kernel
theorem dX5_tone_16 : decode cX5_tone 16 = .ok (.getfield 25, 3) := by decide +kernel
theorem dX5_tone_19 : decode cX5_tone 19 = .ok (.getfield 140, 3) := by decide +kernel
theorem dX5_tone_22 : decode cX5_tone 22 = .ok (.aload_n 0, 1) := by decide +kernel
theorem dX5_tone_23 : decode cX5_tone 23 = .ok (.getfield 25, 3) := by decide +kernel
theorem dX5_tone_26 : decode cX5_tone 26 = .ok (.iload_n 2, 1) := by decide +kernel
theorem dX5_tone_27 : decode cX5_tone 27 = .ok (.invokevirtual 143, 3) := by decide +kernel
theorem dX5_tone_30 : decode cX5_tone 30 = .ok (.iaload, 1) := by decide +kernel
theorem dX5_tone_31 : decode cX5_tone 31 = .ok (.ifCond .le 13, 3) := by decide +kernel
theorem dX5_tone_34 : decode cX5_tone 34 = .ok (.iload_n 1, 1) := by decide +kernel
theorem dX5_tone_35 : decode cX5_tone 35 = .ok (.ifCond .lt 7, 3) := by decide +kernel
theorem dX5_tone_38 : decode cX5_tone 38 = .ok (.iload_n 2, 1) := by decide +kernel
theorem dX5_tone_39 : decode cX5_tone 39 = .ok (.iload_n 1, 1) := by decide +kernel
theorem dX5_tone_40 : decode cX5_tone 40 = .ok (.isub, 1) := by decide +kernel
theorem dX5_tone_41 : decode cX5_tone 41 = .ok (.ireturn, 1) := by decide +kernel
theorem dX5_tone_42 : decode cX5_tone 42 = .ok (.iload_n 2, 1) := by decide +kernel
theorem dX5_tone_43 : decode cX5_tone 43 = .ok (.istore_n 1, 1) := by decide +kernel
theorem dX5_tone_44 : decode cX5_tone 44 = .ok (.iinc 2 1, 3) := by decide +kernel
theorem dX5_tone_47 : decode cX5_tone 47 = .ok (.goto (-43), 3) := by decide +kernel
theorem dX5_tone_50 : decode cX5_tone 50 = .ok (.aload_n 0, 1) := by decide +kernel
theorem dX5_tone_51 : decode cX5_tone 51 = .ok (.ldc 155, 2) := by decide +kernel
theorem dX5_tone_53 : decode cX5_tone 53 = .ok (.invokevirtual 59, 3) := by decide +kernel
theorem dX5_tone_56 : decode cX5_tone 56 = .ok (.ireturn, 1) := by decide +kernel
theorem dX5_great_0 : decode cX5_great 0 = .ok (.iload_n 1, 1) := by decide +kernel
theorem dX5_great_1 : decode cX5_great 1 = .ok (.iconst 1, 1) := by decide +kernel
theorem dX5_great_2 : decode cX5_great 2 = .ok (.sipush 400, 3) := by decide +kernel
theorem dX5_great_5 : decode cX5_great 5 = .ok (.invokestatic 54, 3) := by decide +kernel
theorem dX5_great_8 : decode cX5_great 8 = .ok (.ifCond .eq 12, 3) := by decide +kernel
theorem dX5_great_11 : decode cX5_great 11 = .ok (.iload_n 2, 1) := by decide +kernel
theorem dX5_great_12 : decode cX5_great 12 = .ok (.iconst 0, 1) := by decide +kernel
theorem dX5_great_13 : decode cX5_great 13 = .ok (.iconst 1, 1) := by decide +kernel
theorem dX5_great_14 : decode cX5_great 14 = .ok (.invokestatic 54, 3) := by decide +kernel
theorem dX5_great_17 : decode cX5_great 17 = .ok (.ifCond .ne 10, 3) := by decide +kernel
theorem dX5_great_20 : decode cX5_great 20 = .ok (.aload_n 0, 1) := by decide +kernel
theorem dX5_great_21 : decode cX5_great 21 = .ok (.ldc 58, 2) := by decide +kernel
theorem dX5_great_23 : decode cX5_great 23 = .ok (.invokevirtual 59, 3) := by decide +kernel
theorem dX5_great_26 : decode cX5_great 26 = .ok (.ireturn, 1) := by decide +kernel
theorem dX5_great_27 : decode cX5_great 27 = .ok (.iconst 0, 1) := by decide +kernel
theorem dX5_great_28 : decode cX5_great 28 = .ok (.istore_n 3, 1) := by decide +kernel
theorem dX5_great_29 : decode cX5_great 29 = .ok (.iconst 0, 1) := by decide +kernel
theorem dX5_great_30 : decode cX5_great 30 = .ok (.istore 4, 2) := by decide +kernel
theorem dX5_great_32 : decode cX5_great 32 = .ok (.iconst 0, 1) := by decide +kernel
theorem dX5_great_33 : decode cX5_great 33 = .ok (.istore 5, 2) := by decide +kernel
theorem dX5_great_35 : decode cX5_great 35 = .ok (.iload 5, 2) := by decide +kernel
theorem dX5_great_37 : decode cX5_great 37 = .ok (.aload_n 0, 1) := by decide +kernel
theorem dX5_great_38 : decode cX5_great 38 = .ok (.getfield 25, 3) := by decide +kernel
theorem dX5_great_41 : decode cX5_great 41 = .ok (.getfield 139, 3) := by decide +kernel
theorem dX5_great_44 : decode cX5_great 44 = .ok (.if_icmp .ge 72, 3) := by decide +kernel
theorem dX5_great_47 : decode cX5_great 47 = .ok (.aload_n 0, 1) := by decide +kernel
theorem dX5_great_48 : decode cX5_great 48 = .ok (.getfield 25, 3) := by decide +kernel
theorem dX5_great_51 : decode cX5_great 51 = .ok (.getfield 140, 3) := by decide +kernel
theorem dX5_great_54 : decode cX5_great 54 = .ok (.aload_n 0, 1) := by decide +kernel
theorem dX5_great_55 : decode cX5_great 55 = .ok (.getfield 25, 3) := by decide +kernel
theorem dX5_great_58 : decode cX5_great 58 = .ok (.iload 5, 2) := by decide +kernel
theorem dX5_great_60 : decode cX5_great 60 = .ok (.invokevirtual 143, 3) := by decide +kernel
theorem dX5_great_63 : decode cX5_great 63 = .ok (.iaload, 1) := by decide +kernel
theorem dX5_great_64 : decode cX5_great 64 = .ok (.iload_n 1, 1) := by decide +kernel
theorem dX5_great_65 : decode cX5_great 65 = .ok (.if_icmp .lt 45, 3) := by decide +kernel
theorem dX5_great_68 : decode cX5_great 68 = .ok (.iinc 3 1, 3) := by decide +kernel
theorem dX5_great_71 : decode cX5_great 71 = .ok (.iload 5, 2) := by decide +kernel
theorem dX5_great_73 : decode cX5_great 73 = .ok (.iconst 1, 1) := by decide +kernel
theorem dX5_great_74 : decode cX5_great 74 = .ok (.iadd, 1) := by decide +kernel
theorem dX5_great_75 : decode cX5_great 75 = .ok (.aload_n 0, 1) := by decide +kernel
theorem dX5_great_76 : decode cX5_great 76 = .ok (.getfield 25, 3) := by decide +kernel
theorem dX5_great_79 : decode cX5_great 79 = .ok (.getfield 139, 3) := by decide +kernel
theorem dX5_great_82 : decode cX5_great 82 = .ok (.if_icmp .ge 28, 3) := by decide +kernel
theorem dX5_great_85 : decode cX5_great 85 = .ok (.aload_n 0, 1) := by decide +kernel
theorem dX5_great_86 : decode cX5_great 86 = .ok (.getfield 25, 3) := by decide +kernel
theorem dX5_great_89 : decode cX5_great 89 = .ok (.getfield 140, 3) := by decide +kernel
theorem dX5_great_92 : decode cX5_great 92 = .ok (.aload_n 0, 1) := by decide +kernel
theorem dX5_great_93 : decode cX5_great 93 = .ok (.getfield 25, 3) := by decide +kernel
theorem dX5_great_96 : decode cX5_great 96 = .ok (.iload 5, 2) := by decide +kernel
theorem dX5_great_98 : decode cX5_great 98 = .ok (.iconst 1, 1) := by decide +kernel
theorem dX5_great_99 : decode cX5_great 99 = .ok (.iadd, 1) := by decide +kernel
theorem dX5_great_100 : decode cX5_great 100 = .ok (.invokevirtual 143, 3) := by decide +kernel
theorem dX5_great_103 : decode cX5_great 103 = .ok (.iaload, 1) := by decide +kernel
theorem dX5_great_104 : decode cX5_great 104 = .ok (.ifCond .le 6, 3) := by decide +kernel
theorem dX5_great_107 : decode cX5_great 107 = .ok (.iinc 4 1, 3) := by decide +kernel
theorem dX5_great_110 : decode cX5_great 110 = .ok (.iinc 5 1, 3) := by decide +kernel
theorem dX5_great_113 : decode cX5_great 113 = .ok (.goto (-78), 3) := by decide +kernel
theorem dX5_great_116 : decode cX5_great 116 = .ok (.iload_n 2, 1) := by decide +kernel
theorem dX5_great_117 : decode cX5_great 117 = .ok (.ifCond .ne 7, 3) := by decide +kernel
theorem dX5_great_120 : decode cX5_great 120 = .ok (.iload_n 3, 1) := by decide +kernel
theorem dX5_great_121 : decode cX5_great 121 = .ok (.goto 5, 3) := by decide +kernel
theorem dX5_great_124 : decode cX5_great 124 = .ok (.iload 4, 2) := by decide +kernel
theorem dX5_great_126 : decode cX5_great 126 = .ok (.ireturn, 1) := by decide +kernel
theorem dX5_noise_0 : decode cX5_noise 0 = .ok (.aload_n 0, 1) := by decide +kernel
theorem dX5_noise_1 : decode cX5_noise 1 = .ok (.getfield 12, 3) := by decide +kernel
theorem dX5_noise_4 : decode cX5_noise 4 = .ok (.iload_n 1, 1) := by decide +kernel
theorem dX5_noise_5 : decode cX5_noise 5 = .ok (.invokevirtual 78, 3) := by decide +kernel
theorem dX5_noise_8 : decode cX5_noise 8 = .ok (.ifCond .ne 11, 3) := by decide +kernel
theorem dX5_noise_11 : decode cX5_noise 11 = .ok (.aload_n 0, 1) := by decide +kernel
theorem dX5_noise_12 : decode cX5_noise 12 = .ok (.ldc 58, 2) := by decide +kernel
theorem dX5_noise_14 : decode cX5_noise 14 = .ok (.invokevirtual 59, 3) := by decide +kernel
theorem dX5_noise_17 : decode cX5_noise 17 = .ok (.i2l, 1) := by decide +kernel
theorem dX5_noise_18 : decode cX5_noise 18 = .ok (.lreturn, 1) := by decide +kernel
theorem dX5_noise_19 : decode cX5_noise 19 = .ok (.lconst 0, 1) := by decide +kernel
theorem dX5_noise_20 : decode cX5_noise 20 = .ok (.lstore_n 2, 1) := by decide +kernel
theorem dX5_noise_21 : decode cX5_noise 21 = .ok (.iconst 0, 1) := by decide +kernel
theorem dX5_noise_22 : decode cX5_noise 22 = .ok (.istore 4, 2) := by decide +kernel
theorem dX5_noise_24 : decode cX5_noise 24 = .ok (.iload 4, 2) := by decide +kernel
theorem dX5_noise_26 : decode cX5_noise 26 = .ok (.aload_n 0, 1) := by decide +kernel
theorem dX5_noise_27 : decode cX5_noise 27 = .ok (.getfield 25, 3) := by decide +kernel
theorem dX5_noise_30 : decode cX5_noise 30 = .ok (.getfield 139, 3) := by decide +kernel
theorem dX5_noise_33 : decode cX5_noise 33 = .ok (.if_icmp .ge 52, 3) := by decide +kernel
theorem dX5_noise_36 : decode cX5_noise 36 = .ok (.aload_n 0, 1) := by decide +kernel
theorem dX5_noise_37 : decode cX5_noise 37 = .ok (.getfield 25, 3) := by decide +kernel
theorem dX5_noise_40 : decode cX5_noise 40 = .ok (.iload 4, 2) := by decide +kernel
theorem dX5_noise_42 : decode cX5_noise 42 = .ok (.invokevirtual 143, 3) := by decide +kernel
theorem dX5_noise_45 : decode cX5_noise 45 = .ok (.istore 5, 2) := by decide +kernel
theorem dX5_noise_47 : decode cX5_noise 47 = .ok (.aload_n 0, 1) := by decide +kernel
theorem dX5_noise_48 : decode cX5_noise 48 = .ok (.getfield 25, 3) := by decide +kernel
theorem dX5_noise_51 : decode cX5_noise 51 = .ok (.getfield 146, 3) := by decide +kernel
theorem dX5_noise_54 : decode cX5_noise 54 = .ok (.iload 5, 2) := by decide +kernel
theorem dX5_noise_56 : decode cX5_noise 56 = .ok (.iaload, 1) := by decide +kernel
theorem dX5_noise_57 : decode cX5_noise 57 = .ok (.iload_n 1, 1) := by decide +kernel
theorem dX5_noise_58 : decode cX5_noise 58 = .ok (.ishr, 1) := by decide +kernel
theorem dX5_noise_59 : decode cX5_noise 59 = .ok (.iconst 1, 1) := by decide +kernel
theorem dX5_noise_60 : decode cX5_noise 60 = .ok (.iand, 1) := by decide +kernel
theorem dX5_noise_61 : decode cX5_noise 61 = .ok (.iconst 1, 1) := by decide +kernel
theorem dX5_noise_62 : decode cX5_noise 62 = .ok (.if_icmp .ne 17, 3) := by decide +kernel
theorem dX5_noise_65 : decode cX5_noise 65 = .ok (.lload_n 2, 1) := by decide +kernel
theorem dX5_noise_66 : decode cX5_noise 66 = .ok (.aload_n 0, 1) := by decide +kernel
theorem dX5_noise_67 : decode cX5_noise 67 = .ok (.getfield 25, 3) := by decide +kernel
theorem dX5_noise_70 : decode cX5_noise 70 = .ok (.getfield 149, 3) := by decide +kernel
theorem dX5_noise_73 : decode cX5_noise 73 = .ok (.iload 5, 2) := by decide +kernel
theorem dX5_noise_75 : decode cX5_noise 75 = .ok (.iaload, 1) := by decide +kernel
theorem dX5_noise_76 : decode cX5_noise 76 = .ok (.i2l, 1) := by decide +kernel
theorem dX5_noise_77 : decode cX5_noise 77 = .ok (.ladd, 1) := by decide +kernel
theorem dX5_noise_78 : decode cX5_noise 78 = .ok (.lstore_n 2, 1) := by decide +kernel
theorem dX5_noise_79 : decode cX5_noise 79 = .ok (.iinc 4 1, 3) := by decide +kernel
theorem dX5_noise_82 : decode cX5_noise 82 = .ok (.goto (-58), 3) := by decide +kernel
theorem dX5_noise_85 : decode cX5_noise 85 = .ok (.lload_n 2, 1) := by decide +kernel
theorem dX5_noise_86 : decode cX5_noise 86 = .ok (.lreturn, 1) := by decide +kernel
theorem dX5_ahead_0 : decode cX5_ahead 0 = .ok (.iload_n 1, 1) := by decide +kernel
theorem dX5_ahead_1 : decode cX5_ahead 1 = .ok (.iconst 1, 1) := by decide +kernel
theorem dX5_ahead_2 : decode cX5_ahead 2 = .ok (.bipush 60, 2) := by decide +kernel
theorem dX5_ahead_4 : decode cX5_ahead 4 = .ok (.invokestatic 54, 3) := by decide +kernel
theorem dX5_ahead_7 : decode cX5_ahead 7 = .ok (.ifCond .eq 20, 3) := by decide +kernel
theorem dX5_ahead_10 : decode cX5_ahead 10 = .ok (.iload_n 2, 1) := by decide +kernel
theorem dX5_ahead_11 : decode cX5_ahead 11 = .ok (.iconst 0, 1) := by decide +kernel
theorem dX5_ahead_12 : decode cX5_ahead 12 = .ok (.iconst 3, 1) := by decide +kernel
theorem dX5_ahead_13 : decode cX5_ahead 13 = .ok (.aload_n 0, 1) := by decide +kernel
theorem dX5_ahead_14 : decode cX5_ahead 14 = .ok (.getfield 12, 3) := by decide +kernel
theorem dX5_ahead_17 : decode cX5_ahead 17 = .ok (.getfield 63, 3) := by decide +kernel
theorem dX5_ahead_20 : decode cX5_ahead 20 = .ok (.iadd, 1) := by decide +kernel
theorem dX5_ahead_21 : decode cX5_ahead 21 = .ok (.invokestatic 54, 3) := by decide +kernel
theorem dX5_ahead_24 : decode cX5_ahead 24 = .ok (.ifCond .ne 10, 3) := by decide +kernel
theorem dX5_ahead_27 : decode cX5_ahead 27 = .ok (.aload_n 0, 1) := by decide +kernel
theorem dX5_ahead_28 : decode cX5_ahead 28 = .ok (.ldc 58, 2) := by decide +kernel
theorem dX5_ahead_30 : decode cX5_ahead 30 = .ok (.invokevirtual 59, 3) := by decide +kernel
theorem dX5_ahead_33 : decode cX5_ahead 33 = .ok (.ireturn, 1) := by decide +kernel
theorem dX5_ahead_34 : decode cX5_ahead 34 = .ok (.iconst 0, 1) := by decide +kernel
theorem dX5_ahead_35 : decode cX5_ahead 35 = .ok (.istore_n 3, 1) := by decide +kernel
theorem dX5_ahead_36 : decode cX5_ahead 36 = .ok (.iconst 0, 1) := by decide +kernel
theorem dX5_ahead_37 : decode cX5_ahead 37 = .ok (.istore 4, 2) := by decide +kernel
theorem dX5_ahead_39 : decode cX5_ahead 39 = .ok (.iconst 0, 1) := by decide +kernel
theorem dX5_ahead_40 : decode cX5_ahead 40 = .ok (.istore 5, 2) := by decide +kernel
theorem dX5_ahead_42 : decode cX5_ahead 42 = .ok (.aload_n 0, 1) := by decide +kernel
theorem dX5_ahead_43 : decode cX5_ahead 43 = .ok (.getfield 19, 3) := by decide +kernel
theorem dX5_ahead_46 : decode cX5_ahead 46 = .ok (.aload_n 0, 1) := by decide +kernel
theorem dX5_ahead_47 : decode cX5_ahead 47 = .ok (.getfield 12, 3) := by decide +kernel
theorem dX5_ahead_50 : decode cX5_ahead 50 = .ok (.invokevirtual 156, 3) := by decide +kernel
theorem dX5_ahead_53 : decode cX5_ahead 53 = .ok (.iconst 0, 1) := by decide +kernel
theorem dX5_ahead_54 : decode cX5_ahead 54 = .ok (.istore 6, 2) := by decide +kernel
theorem dX5_ahead_56 : decode cX5_ahead 56 = .ok (.iload 6, 2) := by decide +kernel
theorem dX5_ahead_58 : decode cX5_ahead 58 = .ok (.iload_n 1, 1) := by decide +kernel
theorem dX5_ahead_59 : decode cX5_ahead 59 = .ok (.if_icmp .ge 60, 3) := by decide +kernel
theorem dX5_ahead_62 : decode cX5_ahead 62 = .ok (.aload_n 0, 1) := by decide +kernel
theorem dX5_ahead_63 : decode cX5_ahead 63 = .ok (.getfield 19, 3) := by decide +kernel
theorem dX5_ahead_66 : decode cX5_ahead 66 = .ok (.invokevirtual 129, 3) := by decide +kernel
theorem dX5_ahead_69 : decode cX5_ahead 69 = .ok (.iload_n 3, 1) := by decide +kernel
theorem dX5_ahead_70 : decode cX5_ahead 70 = .ok (.aload_n 0, 1) := by decide +kernel
theorem dX5_ahead_71 : decode cX5_ahead 71 = .ok (.getfield 19, 3) := by decide +kernel
theorem dX5_ahead_74 : decode cX5_ahead 74 = .ok (.getfield 136, 3) := by decide +kernel
theorem dX5_ahead_77 : decode cX5_ahead 77 = .ok (.ifCond .le 7, 3) := by decide +kernel
theorem dX5_ahead_80 : decode cX5_ahead 80 = .ok (.iconst 1, 1) := by decide +kernel
theorem dX5_ahead_81 : decode cX5_ahead 81 = .ok (.goto 4, 3) := by decide +kernel
theorem dX5_ahead_84 : decode cX5_ahead 84 = .ok (.iconst 0, 1) := by decide +kernel
theorem dX5_ahead_85 : decode cX5_ahead 85 = .ok (.iadd, 1) := by decide +kernel
theorem dX5_ahead_86 : decode cX5_ahead 86 = .ok (.istore_n 3, 1) := by decide +kernel
theorem dX5_ahead_87 : decode cX5_ahead 87 = .ok (.iload 4, 2) := by decide +kernel
theorem dX5_ahead_89 : decode cX5_ahead 89 = .ok (.aload_n 0, 1) := by decide +kernel
theorem dX5_ahead_90 : decode cX5_ahead 90 = .ok (.getfield 19, 3) := by decide +kernel
theorem dX5_ahead_93 : decode cX5_ahead 93 = .ok (.getfield 136, 3) := by decide +kernel
theorem dX5_ahead_96 : decode cX5_ahead 96 = .ok (.invokestatic 159, 3) := by decide +kernel
theorem dX5_ahead_99 : decode cX5_ahead 99 = .ok (.istore 4, 2) := by decide +kernel
theorem dX5_ahead_101 : decode cX5_ahead 101 = .ok (.iload 5, 2) := by decide +kernel
theorem dX5_ahead_103 : decode cX5_ahead 103 = .ok (.aload_n 0, 1) := by decide +kernel
theorem dX5_ahead_104 : decode cX5_ahead 104 = .ok (.getfield 19, 3) := by decide +kernel
theorem dX5_ahead_107 : decode cX5_ahead 107 = .ok (.getfield 162, 3) := by decide +kernel
theorem dX5_ahead_110 : decode cX5_ahead 110 = .ok (.iadd, 1) := by decide +kernel
theorem dX5_ahead_111 : decode cX5_ahead 111 = .ok (.istore 5, 2) := by decide +kernel
theorem dX5_ahead_113 : decode cX5_ahead 113 = .ok (.iinc 6 1, 3) := by decide +kernel
theorem dX5_ahead_116 : decode cX5_ahead 116 = .ok (.goto (-60), 3) := by decide +kernel
theorem dX5_ahead_119 : decode cX5_ahead 119 = .ok (.iload_n 2, 1) := by decide +kernel
theorem dX5_ahead_120 : decode cX5_ahead 120 = .ok (.tableswitch 51 0 3 #[32, 34, 45, 48], 32) := by decide +kernel
theorem dX5_ahead_152 : decode cX5_ahead 152 = .ok (.iload_n 3, 1) := by decide +kernel
theorem dX5_ahead_153 : decode cX5_ahead 153 = .ok (.ireturn, 1) := by decide +kernel
theorem dX5_ahead_154 : decode cX5_ahead 154 = .ok (.iload_n 3, 1) := by decide +kernel
theorem dX5_ahead_155 : decode cX5_ahead 155 = .ok (.iload_n 1, 1) := by decide +kernel
theorem dX5_ahead_156 : decode cX5_ahead 156 = .ok (.if_icmp .ne 7, 3) := by decide +kernel
theorem dX5_ahead_159 : decode cX5_ahead 159 = .ok (.iconst 1, 1) := by decide +kernel
theorem dX5_ahead_160 : decode cX5_ahead 160 = .ok (.goto 4, 3) := by decide +kernel
theorem dX5_ahead_163 : decode cX5_ahead 163 = .ok (.iconst 0, 1) := by decide +kernel
theorem dX5_ahead_164 : decode cX5_ahead 164 = .ok (.ireturn, 1) := by decide +kernel
theorem dX5_ahead_165 : decode cX5_ahead 165 = .ok (.iload 4, 2) := by decide +kernel
theorem dX5_ahead_167 : decode cX5_ahead 167 = .ok (.ireturn, 1) := by decide +kernel
theorem dX5_ahead_168 : decode cX5_ahead 168 = .ok (.iload 5, 2) := by decide +kernel
theorem dX5_ahead_170 : decode cX5_ahead 170 = .ok (.ireturn, 1) := by decide +kernel
theorem dX5_ahead_171 : decode cX5_ahead 171 = .ok (.aload_n 0, 1) := by decide +kernel
theorem dX5_ahead_172 : decode cX5_ahead 172 = .ok (.getfield 19, 3) := by decide +kernel
theorem dX5_ahead_175 : decode cX5_ahead 175 = .ok (.getfield 68, 3) := by decide +kernel
theorem dX5_ahead_178 : decode cX5_ahead 178 = .ok (.iload_n 2, 1) := by decide +kernel
theorem dX5_ahead_179 : decode cX5_ahead 179 = .ok (.iconst 4, 1) := by decide +kernel
theorem dX5_ahead_180 : decode cX5_ahead 180 = .ok (.isub, 1) := by decide +kernel
theorem dX5_ahead_181 : decode cX5_ahead 181 = .ok (.aaload, 1) := by decide +kernel
theorem dX5_ahead_182 : decode cX5_ahead 182 = .ok (.getfield 97, 3) := by decide +kernel
theorem dX5_ahead_185 : decode cX5_ahead 185 = .ok (.ireturn, 1) := by decide +kernel
theorem dX5_from_0 : decode cX5_from 0 = .ok (.iload_n 1, 1) := by decide +kernel
theorem dX5_from_1 : decode cX5_from 1 = .ok (.iconst 1, 1) := by decide +kernel
theorem dX5_from_2 : decode cX5_from 2 = .ok (.bipush 60, 2) := by decide +kernel
theorem dX5_from_4 : decode cX5_from 4 = .ok (.invokestatic 54, 3) := by decide +kernel
theorem dX5_from_7 : decode cX5_from 7 = .ok (.ifCond .ne 10, 3) := by decide +kernel
theorem dX5_from_10 : decode cX5_from 10 = .ok (.aload_n 0, 1) := by decide +kernel
theorem dX5_from_11 : decode cX5_from 11 = .ok (.ldc 58, 2) := by decide +kernel
theorem dX5_from_13 : decode cX5_from 13 = .ok (.invokevirtual 59, 3) := by decide +kernel
theorem dX5_from_16 : decode cX5_from 16 = .ok (.ireturn, 1) := by decide +kernel
theorem dX5_from_17 : decode cX5_from 17 = .ok (.iconst 0, 1) := by decide +kernel
theorem dX5_from_18 : decode cX5_from 18 = .ok (.istore_n 2, 1) := by decide +kernel
theorem dX5_from_19 : decode cX5_from 19 = .ok (.iload_n 2, 1) := by decide +kernel
theorem dX5_from_20 : decode cX5_from 20 = .ok (.bipush 99, 2) := by decide +kernel
theorem dX5_from_22 : decode cX5_from 22 = .ok (.if_icmp .gt 78, 3) := by decide +kernel
theorem dX5_from_25 : decode cX5_from 25 = .ok (.aload_n 0, 1) := by decide +kernel
theorem dX5_from_26 : decode cX5_from 26 = .ok (.getfield 19, 3) := by decide +kernel
theorem dX5_from_29 : decode cX5_from 29 = .ok (.aload_n 0, 1) := by decide +kernel
theorem dX5_from_30 : decode cX5_from 30 = .ok (.getfield 12, 3) := by decide +kernel
theorem dX5_from_33 : decode cX5_from 33 = .ok (.invokevirtual 156, 3) := by decide +kernel
theorem dX5_from_36 : decode cX5_from 36 = .ok (.aload_n 0, 1) := by decide +kernel
theorem dX5_from_37 : decode cX5_from 37 = .ok (.getfield 19, 3) := by decide +kernel
theorem dX5_from_40 : decode cX5_from 40 = .ok (.iload_n 2, 1) := by decide +kernel
theorem dX5_from_41 : decode cX5_from 41 = .ok (.putfield 126, 3) := by decide +kernel
theorem dX5_from_44 : decode cX5_from 44 = .ok (.iconst 1, 1) := by decide +kernel
theorem dX5_from_45 : decode cX5_from 45 = .ok (.istore_n 3, 1) := by decide +kernel
theorem dX5_from_46 : decode cX5_from 46 = .ok (.iconst 0, 1) := by decide +kernel
theorem dX5_from_47 : decode cX5_from 47 = .ok (.istore 4, 2) := by decide +kernel
theorem dX5_from_49 : decode cX5_from 49 = .ok (.iload 4, 2) := by decide +kernel
theorem dX5_from_51 : decode cX5_from 51 = .ok (.iload_n 1, 1) := by decide +kernel
theorem dX5_from_52 : decode cX5_from 52 = .ok (.if_icmp .ge 36, 3) := by decide +kernel
theorem dX5_from_55 : decode cX5_from 55 = .ok (.iload_n 3, 1) := by decide +kernel
theorem dX5_from_56 : decode cX5_from 56 = .ok (.ifCond .eq 32, 3) := by decide +kernel
theorem dX5_from_59 : decode cX5_from 59 = .ok (.aload_n 0, 1) := by decide +kernel
theorem dX5_from_60 : decode cX5_from 60 = .ok (.getfield 19, 3) := by decide +kernel
theorem dX5_from_63 : decode cX5_from 63 = .ok (.invokevirtual 129, 3) := by decide +kernel
theorem dX5_from_66 : decode cX5_from 66 = .ok (.aload_n 0, 1) := by decide +kernel
theorem dX5_from_67 : decode cX5_from 67 = .ok (.getfield 19, 3) := by decide +kernel
theorem dX5_from_70 : decode cX5_from 70 = .ok (.getfield 136, 3) := by decide +kernel
theorem dX5_from_73 : decode cX5_from 73 = .ok (.ifCond .le 7, 3) := by decide +kernel
theorem dX5_from_76 : decode cX5_from 76 = .ok (.iconst 1, 1) := by decide +kernel
theorem dX5_from_77 : decode cX5_from 77 = .ok (.goto 4, 3) := by decide +kernel
theorem dX5_from_80 : decode cX5_from 80 = .ok (.iconst 0, 1) := by decide +kernel
theorem dX5_from_81 : decode cX5_from 81 = .ok (.istore_n 3, 1) := by decide +kernel
theorem dX5_from_82 : decode cX5_from 82 = .ok (.iinc 4 1, 3) := by decide +kernel
theorem dX5_from_85 : decode cX5_from 85 = .ok (.goto (-36), 3) := by decide +kernel
theorem dX5_from_88 : decode cX5_from 88 = .ok (.iload_n 3, 1) := by decide +kernel
theorem dX5_from_89 : decode cX5_from 89 = .ok (.ifCond .eq 5, 3) := by decide +kernel
theorem dX5_from_92 : decode cX5_from 92 = .ok (.iload_n 2, 1) := by decide +kernel
theorem dX5_from_93 : decode cX5_from 93 = .ok (.ireturn, 1) := by decide +kernel
theorem dX5_from_94 : decode cX5_from 94 = .ok (.iinc 2 1, 3) := by decide +kernel
theorem dX5_from_97 : decode cX5_from 97 = .ok (.goto (-78), 3) := by decide +kernel
theorem dX5_from_100 : decode cX5_from 100 = .ok (.aload_n 0, 1) := by decide +kernel
theorem dX5_from_101 : decode cX5_from 101 = .ok (.ldc 155, 2) := by decide +kernel
theorem dX5_from_103 : decode cX5_from 103 = .ok (.invokevirtual 59, 3) := by decide +kernel
theorem dX5_from_106 : decode cX5_from 106 = .ok (.ireturn, 1) := by decide +kernel
theorem dX5_still_0 : decode cX5_still 0 = .ok (.aload_n 0, 1) := by decide +kernel
theorem dX5_still_1 : decode cX5_still 1 = .ok (.getfield 12, 3) := by decide +kernel
theorem dX5_still_4 : decode cX5_still 4 = .ok (.iload_n 1, 1) := by decide +kernel
theorem dX5_still_5 : decode cX5_still 5 = .ok (.invokevirtual 78, 3) := by decide +kernel
theorem dX5_still_8 : decode cX5_still 8 = .ok (.ifCond .eq 24, 3) := by decide +kernel
theorem dX5_still_11 : decode cX5_still 11 = .ok (.iload_n 2, 1) := by decide +kernel
theorem dX5_still_12 : decode cX5_still 12 = .ok (.iconst 1, 1) := by decide +kernel
theorem dX5_still_13 : decode cX5_still 13 = .ok (.bipush 60, 2) := by decide +kernel
theorem dX5_still_15 : decode cX5_still 15 = .ok (.invokestatic 54, 3) := by decide +kernel
theorem dX5_still_18 : decode cX5_still 18 = .ok (.ifCond .eq 14, 3) := by decide +kernel
theorem dX5_still_21 : decode cX5_still 21 = .ok (.iload_n 3, 1) := by decide +kernel
theorem dX5_still_22 : decode cX5_still 22 = .ok (.iconst 0, 1) := by decide +kernel
theorem dX5_still_23 : decode cX5_still 23 = .ok (.sipush 400, 3) := by decide +kernel
theorem dX5_still_26 : decode cX5_still 26 = .ok (.invokestatic 54, 3) := by decide +kernel
theorem dX5_still_29 : decode cX5_still 29 = .ok (.ifCond .ne 10, 3) := by decide +kernel
theorem dX5_still_32 : decode cX5_still 32 = .ok (.aload_n 0, 1) := by decide +kernel
theorem dX5_still_33 : decode cX5_still 33 = .ok (.ldc 58, 2) := by decide +kernel
theorem dX5_still_35 : decode cX5_still 35 = .ok (.invokevirtual 59, 3) := by decide +kernel
theorem dX5_still_38 : decode cX5_still 38 = .ok (.ireturn, 1) := by decide +kernel
theorem dX5_still_39 : decode cX5_still 39 = .ok (.iconst 0, 1) := by decide +kernel
theorem dX5_still_40 : decode cX5_still 40 = .ok (.istore 4, 2) := by decide +kernel
theorem dX5_still_42 : decode cX5_still 42 = .ok (.iload 4, 2) := by decide +kernel
theorem dX5_still_44 : decode cX5_still 44 = .ok (.bipush 99, 2) := by decide +kernel
theorem dX5_still_46 : decode cX5_still 46 = .ok (.if_icmp .gt 90, 3) := by decide +kernel
theorem dX5_still_49 : decode cX5_still 49 = .ok (.aload_n 0, 1) := by decide +kernel
theorem dX5_still_50 : decode cX5_still 50 = .ok (.getfield 19, 3) := by decide +kernel
theorem dX5_still_53 : decode cX5_still 53 = .ok (.aload_n 0, 1) := by decide +kernel
theorem dX5_still_54 : decode cX5_still 54 = .ok (.getfield 12, 3) := by decide +kernel
theorem dX5_still_57 : decode cX5_still 57 = .ok (.invokevirtual 156, 3) := by decide +kernel
theorem dX5_still_60 : decode cX5_still 60 = .ok (.aload_n 0, 1) := by decide +kernel
theorem dX5_still_61 : decode cX5_still 61 = .ok (.getfield 19, 3) := by decide +kernel
theorem dX5_still_64 : decode cX5_still 64 = .ok (.getfield 68, 3) := by decide +kernel
theorem dX5_still_67 : decode cX5_still 67 = .ok (.iload_n 1, 1) := by decide +kernel
theorem dX5_still_68 : decode cX5_still 68 = .ok (.aaload, 1) := by decide +kernel
theorem dX5_still_69 : decode cX5_still 69 = .ok (.iload 4, 2) := by decide +kernel
