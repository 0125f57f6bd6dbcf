theorem dX6_init_0 : decode cX6_init 0 = .ok (.aload_n 0, 1) := by decide +kernel
theorem dX6_init_1 : decode cX6_init 1 = .ok (.invokespecial 1, 3) := by decide +kernel
theorem dX6_init_4 : decode cX6_init 4 = .ok (.aload_n 0, 1) := by decide +kernel
theorem dX6_init_5 : decode cX6_init 5 = .ok (.sipush 448, 3) := by decide +kernel
theorem dX6_init_8 : decode cX6_init 8 = .ok (.newarray .int, 2) := by decide +kernel
theorem dX6_init_10 : decode cX6_init 10 = .ok (.putfield 9, 3) := by decide +kernel
theorem dX6_init_13 : decode cX6_init 13 = .ok (.aload_n 0, 1) := by decide +kernel
theorem dX6_init_14 : decode cX6_init 14 = .ok (.sipush 448, 3) := by decide +kernel
theorem dX6_init_17 : decode cX6_init 17 = .ok (.newarray .int, 2) := by decide +kernel
theorem dX6_init_19 : decode cX6_init 19 = .ok (.putfield 13, 3) := by decide +kernel
theorem dX6_init_22 : decode cX6_init 22 = .ok (.aload_n 0, 1) := by decide +kernel
theorem dX6_init_23 : decode cX6_init 23 = .ok (.sipush 448, 3) := by decide +kernel
theorem dX6_init_26 : decode cX6_init 26 = .ok (.newarray .int, 2) := by decide +kernel
theorem dX6_init_28 : decode cX6_init 28 = .ok (.putfield 16, 3) := by decide +kernel
theorem dX6_init_31 : decode cX6_init 31 = .ok (.aload_n 0, 1) := by decide +kernel
theorem dX6_init_32 : decode cX6_init 32 = .ok (.bipush 60, 2) := by decide +kernel
theorem dX6_init_34 : decode cX6_init 34 = .ok (.newarray .int, 2) := by decide +kernel
theorem dX6_init_36 : decode cX6_init 36 = .ok (.putfield 19, 3) := by decide +kernel
theorem dX6_init_39 : decode cX6_init 39 = .ok (.aload_n 0, 1) := by decide +kernel
theorem dX6_init_40 : decode cX6_init 40 = .ok (.bipush 7, 2) := by decide +kernel
theorem dX6_init_42 : decode cX6_init 42 = .ok (.newarray .int, 2) := by decide +kernel
theorem dX6_init_44 : decode cX6_init 44 = .ok (.putfield 22, 3) := by decide +kernel
theorem dX6_init_47 : decode cX6_init 47 = .ok (.aload_n 0, 1) := by decide +kernel
theorem dX6_init_48 : decode cX6_init 48 = .ok (.bipush 10, 2) := by decide +kernel
theorem dX6_init_50 : decode cX6_init 50 = .ok (.newarray .int, 2) := by decide +kernel
theorem dX6_init_52 : decode cX6_init 52 = .ok (.putfield 25, 3) := by decide +kernel
theorem dX6_init_55 : decode cX6_init 55 = .ok (.aload_n 0, 1) := by decide +kernel
theorem dX6_init_56 : decode cX6_init 56 = .ok (.bipush 10, 2) := by decide +kernel
theorem dX6_init_58 : decode cX6_init 58 = .ok (.newarray .int, 2) := by decide +kernel
theorem dX6_init_60 : decode cX6_init 60 = .ok (.putfield 28, 3) := by decide +kernel
theorem dX6_init_63 : decode cX6_init 63 = .ok (.aload_n 0, 1) := by decide +kernel
theorem dX6_init_64 : decode cX6_init 64 = .ok (.bipush 60, 2) := by decide +kernel
theorem dX6_init_66 : decode cX6_init 66 = .ok (.newarray .int, 2) := by decide +kernel
theorem dX6_init_68 : decode cX6_init 68 = .ok (.putfield 31, 3) := by decide +kernel
theorem dX6_init_71 : decode cX6_init 71 = .ok (.aload_n 0, 1) := by decide +kernel
theorem dX6_init_72 : decode cX6_init 72 = .ok (.bipush 60, 2) := by decide +kernel
theorem dX6_init_74 : decode cX6_init 74 = .ok (.newarray .int, 2) := by decide +kernel
theorem dX6_init_76 : decode cX6_init 76 = .ok (.putfield 34, 3) := by decide +kernel
theorem dX6_init_79 : decode cX6_init 79 = .ok (.aload_n 0, 1) := by decide +kernel
theorem dX6_init_80 : decode cX6_init 80 = .ok (.bipush 64, 2) := by decide +kernel
theorem dX6_init_82 : decode cX6_init 82 = .ok (.newarray .int, 2) := by decide +kernel
theorem dX6_init_84 : decode cX6_init 84 = .ok (.putfield 37, 3) := by decide +kernel
theorem dX6_init_87 : decode cX6_init 87 = .ok (.aload_n 0, 1) := by decide +kernel
theorem dX6_init_88 : decode cX6_init 88 = .ok (.bipush 64, 2) := by decide +kernel
theorem dX6_init_90 : decode cX6_init 90 = .ok (.newarray .int, 2) := by decide +kernel
theorem dX6_init_92 : decode cX6_init 92 = .ok (.putfield 40, 3) := by decide +kernel
theorem dX6_init_95 : decode cX6_init 95 = .ok (.aload_n 0, 1) := by decide +kernel
theorem dX6_init_96 : decode cX6_init 96 = .ok (.iconst 4, 1) := by decide +kernel
theorem dX6_init_97 : decode cX6_init 97 = .ok (.newarray .int, 2) := by decide +kernel
theorem dX6_init_99 : decode cX6_init 99 = .ok (.putfield 43, 3) := by decide +kernel
theorem dX6_init_102 : decode cX6_init 102 = .ok (.aload_n 0, 1) := by decide +kernel
theorem dX6_init_103 : decode cX6_init 103 = .ok (.iconst 4, 1) := by decide +kernel
theorem dX6_init_104 : decode cX6_init 104 = .ok (.newarray .int, 2) := by decide +kernel
theorem dX6_init_106 : decode cX6_init 106 = .ok (.putfield 46, 3) := by decide +kernel
theorem dX6_init_109 : decode cX6_init 109 = .ok (.aload_n 0, 1) := by decide +kernel
theorem dX6_init_110 : decode cX6_init 110 = .ok (.sipush 160, 3) := by decide +kernel
theorem dX6_init_113 : decode cX6_init 113 = .ok (.newarray .long, 2) := by decide +kernel
theorem dX6_init_115 : decode cX6_init 115 = .ok (.putfield 49, 3) := by decide +kernel
theorem dX6_init_118 : decode cX6_init 118 = .ok (.aload_n 0, 1) := by decide +kernel
theorem dX6_init_119 : decode cX6_init 119 = .ok (.bipush 40, 2) := by decide +kernel
theorem dX6_init_121 : decode cX6_init 121 = .ok (.newarray .long, 2) := by decide +kernel
theorem dX6_init_123 : decode cX6_init 123 = .ok (.putfield 53, 3) := by decide +kernel
theorem dX6_init_126 : decode cX6_init 126 = .ok (.aload_n 0, 1) := by decide +kernel
theorem dX6_init_127 : decode cX6_init 127 = .ok (.getfield 9, 3) := by decide +kernel
theorem dX6_init_130 : decode cX6_init 130 = .ok (.iconst 2, 1) := by decide +kernel
theorem dX6_init_131 : decode cX6_init 131 = .ok (.iconst 1, 1) := by decide +kernel
theorem dX6_init_132 : decode cX6_init 132 = .ok (.iastore, 1) := by decide +kernel
theorem dX6_init_133 : decode cX6_init 133 = .ok (.aload_n 0, 1) := by decide +kernel
theorem dX6_init_134 : decode cX6_init 134 = .ok (.getfield 9, 3) := by decide +kernel
theorem dX6_init_137 : decode cX6_init 137 = .ok (.iconst 5, 1) := by decide +kernel
theorem dX6_init_138 : decode cX6_init 138 = .ok (.iconst (-1), 1) := by decide +kernel
theorem dX6_init_139 : decode cX6_init 139 = .ok (.iastore, 1) := by decide +kernel
theorem dX6_init_140 : decode cX6_init 140 = .ok (.iconst 0, 1) := by decide +kernel
theorem dX6_init_141 : decode cX6_init 141 = .ok (.istore_n 1, 1) := by decide +kernel
theorem dX6_init_142 : decode cX6_init 142 = .ok (.iload_n 1, 1) := by decide +kernel
theorem dX6_init_143 : decode cX6_init 143 = .ok (.iconst 4, 1) := by decide +kernel
theorem dX6_init_144 : decode cX6_init 144 = .ok (.if_icmp .ge 16, 3) := by decide +kernel
theorem dX6_init_147 : decode cX6_init 147 = .ok (.aload_n 0, 1) := by decide +kernel
theorem dX6_init_148 : decode cX6_init 148 = .ok (.getfield 43, 3) := by decide +kernel
theorem dX6_init_151 : decode cX6_init 151 = .ok (.iload_n 1, 1) := by decide +kernel
theorem dX6_init_152 : decode cX6_init 152 = .ok (.iconst 0, 1) := by decide +kernel
theorem dX6_init_153 : decode cX6_init 153 = .ok (.iastore, 1) := by decide +kernel
theorem dX6_init_154 : decode cX6_init 154 = .ok (.iinc 1 1, 3) := by decide +kernel
theorem dX6_init_157 : decode cX6_init 157 = .ok (.goto (-15), 3) := by decide +kernel
theorem dX6_init_160 : decode cX6_init 160 = .ok (.return_, 1) := by decide +kernel
theorem dX6_in_0 : decode cX6_in 0 = .ok (.iload_n 0, 1) := by decide +kernel
theorem dX6_in_1 : decode cX6_in 1 = .ok (.iload_n 1, 1) := by decide +kernel
theorem dX6_in_2 : decode cX6_in 2 = .ok (.if_icmp .lt 12, 3) := by decide +kernel
theorem dX6_in_5 : decode cX6_in 5 = .ok (.iload_n 0, 1) := by decide +kernel
theorem dX6_in_6 : decode cX6_in 6 = .ok (.iload_n 2, 1) := by decide +kernel
theorem dX6_in_7 : decode cX6_in 7 = .ok (.if_icmp .gt 7, 3) := by decide +kernel
theorem dX6_in_10 : decode cX6_in 10 = .ok (.iconst 1, 1) := by decide +kernel
theorem dX6_in_11 : decode cX6_in 11 = .ok (.goto 4, 3) := by decide +kernel
theorem dX6_in_14 : decode cX6_in 14 = .ok (.iconst 0, 1) := by decide +kernel
theorem dX6_in_15 : decode cX6_in 15 = .ok (.ireturn, 1) := by decide +kernel
theorem dX6_lesser_0 : decode cX6_lesser 0 = .ok (.iload_n 0, 1) := by decide +kernel
theorem dX6_lesser_1 : decode cX6_lesser 1 = .ok (.iload_n 1, 1) := by decide +kernel
theorem dX6_lesser_2 : decode cX6_lesser 2 = .ok (.if_icmp .ge 7, 3) := by decide +kernel
theorem dX6_lesser_5 : decode cX6_lesser 5 = .ok (.iload_n 0, 1) := by decide +kernel
theorem dX6_lesser_6 : decode cX6_lesser 6 = .ok (.goto 4, 3) := by decide +kernel
theorem dX6_lesser_9 : decode cX6_lesser 9 = .ok (.iload_n 1, 1) := by decide +kernel
theorem dX6_lesser_10 : decode cX6_lesser 10 = .ok (.ireturn, 1) := by decide +kernel
theorem dX6_greater_0 : decode cX6_greater 0 = .ok (.iload_n 0, 1) := by decide +kernel
theorem dX6_greater_1 : decode cX6_greater 1 = .ok (.iload_n 1, 1) := by decide +kernel
theorem dX6_greater_2 : decode cX6_greater 2 = .ok (.if_icmp .le 7, 3) := by decide +kernel
theorem dX6_greater_5 : decode cX6_greater 5 = .ok (.iload_n 0, 1) := by decide +kernel
theorem dX6_greater_6 : decode cX6_greater 6 = .ok (.goto 4, 3) := by decide +kernel
theorem dX6_greater_9 : decode cX6_greater 9 = .ok (.iload_n 1, 1) := by decide +kernel
theorem dX6_greater_10 : decode cX6_greater 10 = .ok (.ireturn, 1) := by decide +kernel
theorem dX6_without_0 : decode cX6_without 0 = .ok (.iload_n 0, 1) := by decide +kernel
theorem dX6_without_1 : decode cX6_without 1 = .ok (.ifCond .ge 9, 3) := by decide +kernel
theorem dX6_without_4 : decode cX6_without 4 = .ok (.iload_n 0, 1) := by decide +kernel
theorem dX6_without_5 : decode cX6_without 5 = .ok (.i2l, 1) := by decide +kernel
theorem dX6_without_6 : decode cX6_without 6 = .ok (.lneg, 1) := by decide +kernel
theorem dX6_without_7 : decode cX6_without 7 = .ok (.goto 5, 3) := by decide +kernel
theorem dX6_without_10 : decode cX6_without 10 = .ok (.iload_n 0, 1) := by decide +kernel
theorem dX6_without_11 : decode cX6_without 11 = .ok (.i2l, 1) := by decide +kernel
theorem dX6_without_12 : decode cX6_without 12 = .ok (.lreturn, 1) := by decide +kernel
theorem dX6_no_0 : decode cX6_no 0 = .ok (.aload_n 0, 1) := by decide +kernel
theorem dX6_no_1 : decode cX6_no 1 = .ok (.getfield 22, 3) := by decide +kernel
theorem dX6_no_4 : decode cX6_no 4 = .ok (.iload_n 1, 1) := by decide +kernel
theorem dX6_no_5 : decode cX6_no 5 = .ok (.dup2, 1) := by decide +kernel
theorem dX6_no_6 : decode cX6_no 6 = .ok (.iaload, 1) := by decide +kernel
theorem dX6_no_7 : decode cX6_no 7 = .ok (.iconst 1, 1) := by decide +kernel
theorem dX6_no_8 : decode cX6_no 8 = .ok (.iadd, 1) := by decide +kernel
theorem dX6_no_9 : decode cX6_no 9 = .ok (.iastore, 1) := by decide +kernel
theorem dX6_no_10 : decode cX6_no 10 = .ok (.ldc 56, 2) := by decide +kernel
theorem dX6_no_12 : decode cX6_no 12 = .ok (.iload_n 1, 1) := by decide +kernel
theorem dX6_no_13 : decode cX6_no 13 = .ok (.isub, 1) := by decide +kernel
theorem dX6_no_14 : decode cX6_no 14 = .ok (.ireturn, 1) := by decide +kernel
theorem dX6_isBlock_0 : decode cX6_isBlock 0 = .ok (.iload_n 1, 1) := by decide +kernel
theorem dX6_isBlock_1 : decode cX6_isBlock 1 = .ok (.iconst 0, 1) := by decide +kernel
theorem dX6_isBlock_2 : decode cX6_isBlock 2 = .ok (.aload_n 0, 1) := by decide +kernel
theorem dX6_isBlock_3 : decode cX6_isBlock 3 = .ok (.getfield 9, 3) := by decide +kernel
theorem dX6_isBlock_6 : decode cX6_isBlock 6 = .ok (.iconst 0, 1) := by decide +kernel
theorem dX6_isBlock_7 : decode cX6_isBlock 7 = .ok (.iaload, 1) := by decide +kernel
theorem dX6_isBlock_8 : decode cX6_isBlock 8 = .ok (.iconst 1, 1) := by decide +kernel
theorem dX6_isBlock_9 : decode cX6_isBlock 9 = .ok (.isub, 1) := by decide +kernel
theorem dX6_isBlock_10 : decode cX6_isBlock 10 = .ok (.invokestatic 57, 3) := by decide +kernel
theorem dX6_isBlock_13 : decode cX6_isBlock 13 = .ok (.ireturn, 1) := by decide +kernel
theorem dX6_at_0 : decode cX6_at 0 = .ok (.aload_n 0, 1) := by decide +kernel
theorem dX6_at_1 : decode cX6_at 1 = .ok (.getfield 9, 3) := by decide +kernel
theorem dX6_at_4 : decode cX6_at 4 = .ok (.bipush 78, 2) := by decide +kernel
theorem dX6_at_6 : decode cX6_at 6 = .ok (.bipush 7, 2) := by decide +kernel
theorem dX6_at_8 : decode cX6_at 8 = .ok (.iload_n 1, 1) := by decide +kernel
theorem dX6_at_9 : decode cX6_at 9 = .ok (.imul, 1) := by decide +kernel
theorem dX6_at_10 : decode cX6_at 10 = .ok (.iadd, 1) := by decide +kernel
theorem dX6_at_11 : decode cX6_at 11 = .ok (.iload_n 2, 1) := by decide +kernel
theorem dX6_at_12 : decode cX6_at 12 = .ok (.iadd, 1) := by decide +kernel
theorem dX6_at_13 : decode cX6_at 13 = .ok (.iaload, 1) := by decide +kernel
theorem dX6_at_14 : decode cX6_at 14 = .ok (.ireturn, 1) := by decide +kernel
theorem dX6_become_0 : decode cX6_become 0 = .ok (.aload_n 0, 1) := by decide +kernel
theorem dX6_become_1 : decode cX6_become 1 = .ok (.iload_n 1, 1) := by decide +kernel
theorem dX6_become_2 : decode cX6_become 2 = .ok (.iload_n 2, 1) := by decide +kernel
theorem dX6_become_3 : decode cX6_become 3 = .ok (.invokevirtual 61, 3) := by decide +kernel
theorem dX6_become_6 : decode cX6_become 6 = .ok (.istore 4, 2) := by decide +kernel
theorem dX6_become_8 : decode cX6_become 8 = .ok (.aload_n 0, 1) := by decide +kernel
theorem dX6_become_9 : decode cX6_become 9 = .ok (.getfield 9, 3) := by decide +kernel
theorem dX6_become_12 : decode cX6_become 12 = .ok (.bipush 78, 2) := by decide +kernel
theorem dX6_become_14 : decode cX6_become 14 = .ok (.bipush 7, 2) := by decide +kernel
theorem dX6_become_16 : decode cX6_become 16 = .ok (.iload_n 1, 1) := by decide +kernel
theorem dX6_become_17 : decode cX6_become 17 = .ok (.imul, 1) := by decide +kernel
theorem dX6_become_18 : decode cX6_become 18 = .ok (.iadd, 1) := by decide +kernel
theorem dX6_become_19 : decode cX6_become 19 = .ok (.iload_n 2, 1) := by decide +kernel
theorem dX6_become_20 : decode cX6_become 20 = .ok (.iadd, 1) := by decide +kernel
theorem dX6_become_21 : decode cX6_become 21 = .ok (.iload_n 3, 1) := by decide +kernel
theorem dX6_become_22 : decode cX6_become 22 = .ok (.iastore, 1) := by decide +kernel
theorem dX6_become_23 : decode cX6_become 23 = .ok (.iload 4, 2) := by decide +kernel
theorem dX6_become_25 : decode cX6_become 25 = .ok (.ireturn, 1) := by decide +kernel
theorem dX6_plainHolds_0 : decode cX6_plainHolds 0 = .ok (.aload_n 0, 1) := by decide +kernel
theorem dX6_plainHolds_1 : decode cX6_plainHolds 1 = .ok (.iload_n 1, 1) := by decide +kernel
theorem dX6_plainHolds_2 : decode cX6_plainHolds 2 = .ok (.iconst 1, 1) := by decide +kernel
theorem dX6_plainHolds_3 : decode cX6_plainHolds 3 = .ok (.invokevirtual 61, 3) := by decide +kernel
theorem dX6_plainHolds_6 : decode cX6_plainHolds 6 = .ok (.iload_n 2, 1) := by decide +kernel
theorem dX6_plainHolds_7 : decode cX6_plainHolds 7 = .ok (.iconst 4, 1) := by decide +kernel
theorem dX6_plainHolds_8 : decode cX6_plainHolds 8 = .ok (.idiv, 1) := by decide +kernel
theorem dX6_plainHolds_9 : decode cX6_plainHolds 9 = .ok (.bipush 50, 2) := by decide +kernel
theorem dX6_plainHolds_11 : decode cX6_plainHolds 11 = .ok (.invokestatic 65, 3) := by decide +kernel
theorem dX6_plainHolds_14 : decode cX6_plainHolds 14 = .ok (.iadd, 1) := by decide +kernel
theorem dX6_plainHolds_15 : decode cX6_plainHolds 15 = .ok (.ireturn, 1) := by decide +kernel
theorem dX6_holdsOf_0 : decode cX6_holdsOf 0 = .ok (.aload_n 0, 1) := by decide +kernel
theorem dX6_holdsOf_1 : decode cX6_holdsOf 1 = .ok (.iload_n 1, 1) := by decide +kernel
theorem dX6_holdsOf_2 : decode cX6_holdsOf 2 = .ok (.iload_n 2, 1) := by decide +kernel
theorem dX6_holdsOf_3 : decode cX6_holdsOf 3 = .ok (.invokevirtual 68, 3) := by decide +kernel
theorem dX6_holdsOf_6 : decode cX6_holdsOf 6 = .ok (.istore_n 3, 1) := by decide +kernel
theorem dX6_holdsOf_7 : decode cX6_holdsOf 7 = .ok (.aload_n 0, 1) := by decide +kernel
theorem dX6_holdsOf_8 : decode cX6_holdsOf 8 = .ok (.iload_n 1, 1) := by decide +kernel
theorem dX6_holdsOf_9 : decode cX6_holdsOf 9 = .ok (.iconst 0, 1) := by decide +kernel
theorem dX6_holdsOf_10 : decode cX6_holdsOf 10 = .ok (.invokevirtual 61, 3) := by decide +kernel
theorem dX6_holdsOf_13 : decode cX6_holdsOf 13 = .ok (.tableswitch 131 1 5 #[35, 39, 54, 89, 105], 35) := by decide +kernel
theorem dX6_holdsOf_48 : decode cX6_holdsOf 48 = .ok (.iload_n 3, 1) := by decide +kernel
theorem dX6_holdsOf_49 : decode cX6_holdsOf 49 = .ok (.iload_n 2, 1) := by decide +kernel
theorem dX6_holdsOf_50 : decode cX6_holdsOf 50 = .ok (.iadd, 1) := by decide +kernel
theorem dX6_holdsOf_51 : decode cX6_holdsOf 51 = .ok (.ireturn, 1) := by decide +kernel
theorem dX6_holdsOf_52 : decode cX6_holdsOf 52 = .ok (.iconst 0, 1) := by decide +kernel
theorem dX6_holdsOf_53 : decode cX6_holdsOf 53 = .ok (.iload_n 3, 1) := by decide +kernel
theorem dX6_holdsOf_54 : decode cX6_holdsOf 54 = .ok (.iconst 2, 1) := by decide +kernel
theorem dX6_holdsOf_55 : decode cX6_holdsOf 55 = .ok (.idiv, 1) := by decide +kernel
theorem dX6_holdsOf_56 : decode cX6_holdsOf 56 = .ok (.aload_n 0, 1) := by decide +kernel
theorem dX6_holdsOf_57 : decode cX6_holdsOf 57 = .ok (.iload_n 1, 1) := by decide +kernel
theorem dX6_holdsOf_58 : decode cX6_holdsOf 58 = .ok (.iconst 4, 1) := by decide +kernel
theorem dX6_holdsOf_59 : decode cX6_holdsOf 59 = .ok (.invokevirtual 61, 3) := by decide +kernel
theorem dX6_holdsOf_62 : decode cX6_holdsOf 62 = .ok (.isub, 1) := by decide +kernel
theorem dX6_holdsOf_63 : decode cX6_holdsOf 63 = .ok (.invokestatic 71, 3) := by decide +kernel
theorem dX6_holdsOf_66 : decode cX6_holdsOf 66 = .ok (.ireturn, 1) := by decide +kernel
theorem dX6_holdsOf_67 : decode cX6_holdsOf 67 = .ok (.aload_n 0, 1) := by decide +kernel
theorem dX6_holdsOf_68 : decode cX6_holdsOf 68 = .ok (.getfield 9, 3) := by decide +kernel
theorem dX6_holdsOf_71 : decode cX6_holdsOf 71 = .ok (.iconst 5, 1) := by decide +kernel
theorem dX6_holdsOf_72 : decode cX6_holdsOf 72 = .ok (.iaload, 1) := by decide +kernel
theorem dX6_holdsOf_73 : decode cX6_holdsOf 73 = .ok (.ifCond .ge 12, 3) := by decide +kernel
theorem dX6_holdsOf_76 : decode cX6_holdsOf 76 = .ok (.aload_n 0, 1) := by decide +kernel
theorem dX6_holdsOf_77 : decode cX6_holdsOf 77 = .ok (.iload_n 1, 1) := by decide +kernel
theorem dX6_holdsOf_78 : decode cX6_holdsOf 78 = .ok (.iconst 1, 1) := by decide +kernel
theorem dX6_holdsOf_79 : decode cX6_holdsOf 79 = .ok (.invokevirtual 61, 3) := by decide +kernel
theorem dX6_holdsOf_82 : decode cX6_holdsOf 82 = .ok (.goto 19, 3) := by decide +kernel
theorem dX6_holdsOf_85 : decode cX6_holdsOf 85 = .ok (.iconst 0, 1) := by decide +kernel
theorem dX6_holdsOf_86 : decode cX6_holdsOf 86 = .ok (.sipush 9999, 3) := by decide +kernel
theorem dX6_holdsOf_89 : decode cX6_holdsOf 89 = .ok (.aload_n 0, 1) := by decide +kernel
theorem dX6_holdsOf_90 : decode cX6_holdsOf 90 = .ok (.iload_n 1, 1) := by decide +kernel
theorem dX6_holdsOf_91 : decode cX6_holdsOf 91 = .ok (.iload_n 2, 1) := by decide +kernel
theorem dX6_holdsOf_92 : decode cX6_holdsOf 92 = .ok (.invokevirtual 74, 3) := by decide +kernel
theorem dX6_holdsOf_95 : decode cX6_holdsOf 95 = .ok (.invokestatic 65, 3) := by decide +kernel
theorem dX6_holdsOf_98 : decode cX6_holdsOf 98 = .ok (.invokestatic 71, 3) := by decide +kernel
theorem dX6_holdsOf_101 : decode cX6_holdsOf 101 = .ok (.ireturn, 1) := by decide +kernel
theorem dX6_holdsOf_102 : decode cX6_holdsOf 102 = .ok (.iload_n 3, 1) := by decide +kernel
theorem dX6_holdsOf_103 : decode cX6_holdsOf 103 = .ok (.iload_n 2, 1) := by decide +kernel
theorem dX6_holdsOf_104 : decode cX6_holdsOf 104 = .ok (.iadd, 1) := by decide +kernel
theorem dX6_holdsOf_105 : decode cX6_holdsOf 105 = .ok (.iload_n 2, 1) := by decide +kernel
theorem dX6_holdsOf_106 : decode cX6_holdsOf 106 = .ok (.bipush 40, 2) := by decide +kernel
theorem dX6_holdsOf_108 : decode cX6_holdsOf 108 = .ok (.if_icmp .lt 7, 3) := by decide +kernel
theorem dX6_holdsOf_111 : decode cX6_holdsOf 111 = .ok (.iconst 3, 1) := by decide +kernel
theorem dX6_holdsOf_112 : decode cX6_holdsOf 112 = .ok (.goto 4, 3) := by decide +kernel
theorem dX6_holdsOf_115 : decode cX6_holdsOf 115 = .ok (.iconst 1, 1) := by decide +kernel
theorem dX6_holdsOf_116 : decode cX6_holdsOf 116 = .ok (.imul, 1) := by decide +kernel
theorem dX6_holdsOf_117 : decode cX6_holdsOf 117 = .ok (.ireturn, 1) := by decide +kernel
theorem dX6_holdsOf_118 : decode cX6_holdsOf 118 = .ok (.iconst 0, 1) := by decide +kernel
theorem dX6_holdsOf_119 : decode cX6_holdsOf 119 = .ok (.iconst 0, 1) := by decide +kernel
theorem dX6_holdsOf_120 : decode cX6_holdsOf 120 = .ok (.iload_n 3, 1) := by decide +kernel
theorem dX6_holdsOf_121 : decode cX6_holdsOf 121 = .ok (.iconst 2, 1) := by decide +kernel
theorem dX6_holdsOf_122 : decode cX6_holdsOf 122 = .ok (.idiv, 1) := by decide +kernel
theorem dX6_holdsOf_123 : decode cX6_holdsOf 123 = .ok (.aload_n 0, 1) := by decide +kernel
theorem dX6_holdsOf_124 : decode cX6_holdsOf 124 = .ok (.iload_n 1, 1) := by decide +kernel
theorem dX6_holdsOf_125 : decode cX6_holdsOf 125 = .ok (.iconst 4, 1) := by decide +kernel
theorem dX6_holdsOf_126 : decode cX6_holdsOf 126 = .ok (.invokevirtual 61, 3) := by decide +kernel
theorem dX6_holdsOf_129 : decode cX6_holdsOf 129 = .ok (.isub, 1) := by decide +kernel
theorem dX6_holdsOf_130 : decode cX6_holdsOf 130 = .ok (.invokestatic 71, 3) := by decide +kernel
theorem dX6_holdsOf_133 : decode cX6_holdsOf 133 = .ok (.aload_n 0, 1) := by decide +kernel
theorem dX6_holdsOf_134 : decode cX6_holdsOf 134 = .ok (.iload_n 1, 1) := by decide +kernel
theorem dX6_holdsOf_135 : decode cX6_holdsOf 135 = .ok (.iconst 4, 1) := by decide +kernel
theorem dX6_holdsOf_136 : decode cX6_holdsOf 136 = .ok (.invokevirtual 61, 3) := by decide +kernel
theorem dX6_holdsOf_139 : decode cX6_holdsOf 139 = .ok (.isub, 1) := by decide +kernel
theorem dX6_holdsOf_140 : decode cX6_holdsOf 140 = .ok (.invokestatic 71, 3) := by decide +kernel
theorem dX6_holdsOf_143 : decode cX6_holdsOf 143 = .ok (.ireturn, 1) := by decide +kernel
theorem dX6_holdsOf_144 : decode cX6_holdsOf 144 = .ok (.iload_n 3, 1) := by decide +kernel
theorem dX6_holdsOf_145 : decode cX6_holdsOf 145 = .ok (.ireturn, 1) := by decide +kernel
theorem dX6_rubsOf_0 : decode cX6_rubsOf 0 = .ok (.aload_n 0, 1) := by decide +kernel
theorem dX6_rubsOf_1 : decode cX6_rubsOf 1 = .ok (.iload_n 1, 1) := by decide +kernel
theorem dX6_rubsOf_2 : decode cX6_rubsOf 2 = .ok (.iconst 2, 1) := by decide +kernel
theorem dX6_rubsOf_3 : decode cX6_rubsOf 3 = .ok (.invokevirtual 61, 3) := by decide +kernel
theorem dX6_rubsOf_6 : decode cX6_rubsOf 6 = .ok (.istore_n 3, 1) := by decide +kernel
theorem dX6_rubsOf_7 : decode cX6_rubsOf 7 = .ok (.aload_n 0, 1) := by decide +kernel
theorem dX6_rubsOf_8 : decode cX6_rubsOf 8 = .ok (.iload_n 1, 1) := by decide +kernel
theorem dX6_rubsOf_9 : decode cX6_rubsOf 9 = .ok (.iconst 0, 1) := by decide +kernel
theorem dX6_rubsOf_10 : decode cX6_rubsOf 10 = .ok (.invokevirtual 61, 3) := by decide +kernel
theorem dX6_rubsOf_13 : decode cX6_rubsOf 13 = .ok (.tableswitch 49 1 5 #[35, 37, 49, 35, 37], 35) := by decide +kernel
theorem dX6_rubsOf_48 : decode cX6_rubsOf 48 = .ok (.iload_n 3, 1) := by decide +kernel
theorem dX6_rubsOf_49 : decode cX6_rubsOf 49 = .ok (.ireturn, 1) := by decide +kernel
theorem dX6_rubsOf_50 : decode cX6_rubsOf 50 = .ok (.sipush 999, 3) := by decide +kernel
theorem dX6_rubsOf_53 : decode cX6_rubsOf 53 = .ok (.iload_n 3, 1) := by decide +kernel
theorem dX6_rubsOf_54 : decode cX6_rubsOf 54 = .ok (.iconst 2, 1) := by decide +kernel
theorem dX6_rubsOf_55 : decode cX6_rubsOf 55 = .ok (.idiv, 1) := by decide +kernel
theorem dX6_rubsOf_56 : decode cX6_rubsOf 56 = .ok (.iload_n 2, 1) := by decide +kernel
theorem dX6_rubsOf_57 : decode cX6_rubsOf 57 = .ok (.iadd, 1) := by decide +kernel
theorem dX6_rubsOf_58 : decode cX6_rubsOf 58 = .ok (.invokestatic 65, 3) := by decide +kernel
theorem dX6_rubsOf_61 : decode cX6_rubsOf 61 = .ok (.ireturn, 1) := by decide +kernel
theorem dX6_rubsOf_62 : decode cX6_rubsOf 62 = .ok (.iconst 0, 1) := by decide +kernel
theorem dX6_rubsOf_63 : decode cX6_rubsOf 63 = .ok (.iload_n 3, 1) := by decide +kernel
theorem dX6_rubsOf_64 : decode cX6_rubsOf 64 = .ok (.iload_n 2, 1) := by decide +kernel
theorem dX6_rubsOf_65 : decode cX6_rubsOf 65 = .ok (.isub, 1) := by decide +kernel
theorem dX6_rubsOf_66 : decode cX6_rubsOf 66 = .ok (.invokestatic 71, 3) := by decide +kernel
theorem dX6_rubsOf_69 : decode cX6_rubsOf 69 = .ok (.ireturn, 1) := by decide +kernel
theorem dX6_placeOf_0 : decode cX6_placeOf 0 = .ok (.iload_n 1, 1) := by decide +kernel
theorem dX6_placeOf_1 : decode cX6_placeOf 1 = .ok (.ifCond .ge 12, 3) := by decide +kernel
theorem dX6_placeOf_4 : decode cX6_placeOf 4 = .ok (.aload_n 0, 1) := by decide +kernel
theorem dX6_placeOf_5 : decode cX6_placeOf 5 = .ok (.getfield 9, 3) := by decide +kernel
theorem dX6_placeOf_8 : decode cX6_placeOf 8 = .ok (.iconst 1, 1) := by decide +kernel
theorem dX6_placeOf_9 : decode cX6_placeOf 9 = .ok (.iaload, 1) := by decide +kernel
theorem dX6_placeOf_10 : decode cX6_placeOf 10 = .ok (.goto 9, 3) := by decide +kernel
theorem dX6_placeOf_13 : decode cX6_placeOf 13 = .ok (.aload_n 0, 1) := by decide +kernel
theorem dX6_placeOf_14 : decode cX6_placeOf 14 = .ok (.iload_n 1, 1) := by decide +kernel
theorem dX6_placeOf_15 : decode cX6_placeOf 15 = .ok (.iconst 5, 1) := by decide +kernel
theorem dX6_placeOf_16 : decode cX6_placeOf 16 = .ok (.invokevirtual 61, 3) := by decide +kernel
theorem dX6_placeOf_19 : decode cX6_placeOf 19 = .ok (.ireturn, 1) := by decide +kernel
theorem dX6_isLast_0 : decode cX6_isLast 0 = .ok (.iload_n 1, 1) := by decide +kernel
theorem dX6_isLast_1 : decode cX6_isLast 1 = .ok (.aload_n 0, 1) := by decide +kernel
theorem dX6_isLast_2 : decode cX6_isLast 2 = .ok (.getfield 9, 3) := by decide +kernel
theorem dX6_isLast_5 : decode cX6_isLast 5 = .ok (.iconst 0, 1) := by decide +kernel
theorem dX6_isLast_6 : decode cX6_isLast 6 = .ok (.iaload, 1) := by decide +kernel
theorem dX6_isLast_7 : decode cX6_isLast 7 = .ok (.iconst 1, 1) := by decide +kernel
theorem dX6_isLast_8 : decode cX6_isLast 8 = .ok (.isub, 1) := by decide +kernel
theorem dX6_isLast_9 : decode cX6_isLast 9 = .ok (.if_icmp .ne 7, 3) := by decide +kernel
theorem dX6_isLast_12 : decode cX6_isLast 12 = .ok (.iconst 1, 1) := by decide +kernel
theorem dX6_isLast_13 : decode cX6_isLast 13 = .ok (.goto 4, 3) := by decide +kernel
theorem dX6_isLast_16 : decode cX6_isLast 16 = .ok (.iconst 0, 1) := by decide +kernel
theorem dX6_isLast_17 : decode cX6_isLast 17 = .ok (.ireturn, 1) := by decide +kernel
theorem dX6_pull_0 : decode cX6_pull 0 = .ok (.aload_n 0, 1) := by decide +kernel
theorem dX6_pull_1 : decode cX6_pull 1 = .ok (.iload_n 1, 1) := by decide +kernel
theorem dX6_pull_2 : decode cX6_pull 2 = .ok (.iconst 3, 1) := by decide +kernel
theorem dX6_pull_3 : decode cX6_pull 3 = .ok (.invokevirtual 61, 3) := by decide +kernel
theorem dX6_pull_6 : decode cX6_pull 6 = .ok (.aload_n 0, 1) := by decide +kernel
theorem dX6_pull_7 : decode cX6_pull 7 = .ok (.iload_n 1, 1) := by decide +kernel
theorem dX6_pull_8 : decode cX6_pull 8 = .ok (.iconst 1, 1) := by decide +kernel
theorem dX6_pull_9 : decode cX6_pull 9 = .ok (.isub, 1) := by decide +kernel
theorem dX6_pull_10 : decode cX6_pull 10 = .ok (.invokevirtual 77, 3) := by decide +kernel
theorem dX6_pull_13 : decode cX6_pull 13 = .ok (.aload_n 0, 1) := by decide +kernel
theorem dX6_pull_14 : decode cX6_pull 14 = .ok (.iload_n 1, 1) := by decide +kernel
theorem dX6_pull_15 : decode cX6_pull 15 = .ok (.invokevirtual 77, 3) := by decide +kernel
theorem dX6_pull_18 : decode cX6_pull 18 = .ok (.isub, 1) := by decide +kernel
theorem dX6_pull_19 : decode cX6_pull 19 = .ok (.imul, 1) := by decide +kernel
theorem dX6_pull_20 : decode cX6_pull 20 = .ok (.istore_n 2, 1) := by decide +kernel
theorem dX6_pull_21 : decode cX6_pull 21 = .ok (.aload_n 0, 1) := by decide +kernel
theorem dX6_pull_22 : decode cX6_pull 22 = .ok (.iload_n 1, 1) := by decide +kernel
theorem dX6_pull_23 : decode cX6_pull 23 = .ok (.invokevirtual 81, 3) := by decide +kernel
theorem dX6_pull_26 : decode cX6_pull 26 = .ok (.ifCond .eq 7, 3) := by decide +kernel
theorem dX6_pull_29 : decode cX6_pull 29 = .ok (.iload_n 2, 1) := by decide +kernel
theorem dX6_pull_30 : decode cX6_pull 30 = .ok (.goto 27, 3) := by decide +kernel
theorem dX6_pull_33 : decode cX6_pull 33 = .ok (.iload_n 2, 1) := by decide +kernel
theorem dX6_pull_34 : decode cX6_pull 34 = .ok (.aload_n 0, 1) := by decide +kernel
theorem dX6_pull_35 : decode cX6_pull 35 = .ok (.iload_n 1, 1) := by decide +kernel
theorem dX6_pull_36 : decode cX6_pull 36 = .ok (.iconst 1, 1) := by decide +kernel
theorem dX6_pull_37 : decode cX6_pull 37 = .ok (.iadd, 1) := by decide +kernel
theorem dX6_pull_38 : decode cX6_pull 38 = .ok (.iconst 3, 1) := by decide +kernel
theorem dX6_pull_39 : decode cX6_pull 39 = .ok (.invokevirtual 61, 3) := by decide +kernel
theorem dX6_pull_42 : decode cX6_pull 42 = .ok (.aload_n 0, 1) := by decide +kernel
theorem dX6_pull_43 : decode cX6_pull 43 = .ok (.iload_n 1, 1) := by decide +kernel
theorem dX6_pull_44 : decode cX6_pull 44 = .ok (.invokevirtual 77, 3) := by decide +kernel
theorem dX6_pull_47 : decode cX6_pull 47 = .ok (.aload_n 0, 1) := by decide +kernel
theorem dX6_pull_48 : decode cX6_pull 48 = .ok (.iload_n 1, 1) := by decide +kernel
theorem dX6_pull_49 : decode cX6_pull 49 = .ok (.iconst 1, 1) := by decide +kernel
theorem dX6_pull_50 : decode cX6_pull 50 = .ok (.iadd, 1) := by decide +kernel
theorem dX6_pull_51 : decode cX6_pull 51 = .ok (.invokevirtual 77, 3) := by decide +kernel
theorem dX6_pull_54 : decode cX6_pull 54 = .ok (.isub, 1) := by decide +kernel
theorem dX6_pull_55 : decode cX6_pull 55 = .ok (.imul, 1) := by decide +kernel
theorem dX6_pull_56 : decode cX6_pull 56 = .ok (.isub, 1) := by decide +kernel
theorem dX6_pull_57 : decode cX6_pull 57 = .ok (.ireturn, 1) := by decide +kernel
theorem dX6_springs_0 : decode cX6_springs 0 = .ok (.iconst 1, 1) := by decide +kernel
theorem dX6_springs_1 : decode cX6_springs 1 = .ok (.aload_n 0, 1) := by decide +kernel
theorem dX6_springs_2 : decode cX6_springs 2 = .ok (.iload_n 1, 1) := by decide +kernel
theorem dX6_springs_3 : decode cX6_springs 3 = .ok (.iconst 3, 1) := by decide +kernel
theorem dX6_springs_4 : decode cX6_springs 4 = .ok (.invokevirtual 61, 3) := by decide +kernel
theorem dX6_springs_7 : decode cX6_springs 7 = .ok (.aload_n 0, 1) := by decide +kernel
theorem dX6_springs_8 : decode cX6_springs 8 = .ok (.iload_n 1, 1) := by decide +kernel
theorem dX6_springs_9 : decode cX6_springs 9 = .ok (.invokevirtual 81, 3) := by decide +kernel
theorem dX6_springs_12 : decode cX6_springs 12 = .ok (.ifCond .eq 7, 3) := by decide +kernel
theorem dX6_springs_15 : decode cX6_springs 15 = .ok (.iconst 0, 1) := by decide +kernel
theorem dX6_springs_16 : decode cX6_springs 16 = .ok (.goto 11, 3) := by decide +kernel
theorem dX6_springs_19 : decode cX6_springs 19 = .ok (.aload_n 0, 1) := by decide +kernel
theorem dX6_springs_20 : decode cX6_springs 20 = .ok (.iload_n 1, 1) := by decide +kernel
theorem dX6_springs_21 : decode cX6_springs 21 = .ok (.iconst 1, 1) := by decide +kernel
theorem dX6_springs_22 : decode cX6_springs 22 = .ok (.iadd, 1) := by decide +kernel
theorem dX6_springs_23 : decode cX6_springs 23 = .ok (.iconst 3, 1) := by decide +kernel
theorem dX6_springs_24 : decode cX6_springs 24 = .ok (.invokevirtual 61, 3) := by decide +kernel
theorem dX6_springs_27 : decode cX6_springs 27 = .ok (.iadd, 1) := by decide +kernel
theorem dX6_springs_28 : decode cX6_springs 28 = .ok (.invokestatic 71, 3) := by decide +kernel
theorem dX6_springs_31 : decode cX6_springs 31 = .ok (.ireturn, 1) := by decide +kernel
theorem dX6_block_0 : decode cX6_block 0 = .ok (.iload_n 1, 1) := by decide +kernel
theorem dX6_block_1 : decode cX6_block 1 = .ok (.iconst 0, 1) := by decide +kernel
theorem dX6_block_2 : decode cX6_block 2 = .ok (.iconst 5, 1) := by decide +kernel
theorem dX6_block_3 : decode cX6_block 3 = .ok (.invokestatic 57, 3) := by decide +kernel
theorem dX6_block_6 : decode cX6_block 6 = .ok (.ifCond .eq 36, 3) := by decide +kernel
theorem dX6_block_9 : decode cX6_block 9 = .ok (.iload_n 2, 1) := by decide +kernel
theorem dX6_block_10 : decode cX6_block 10 = .ok (.iconst 1, 1) := by decide +kernel
theorem dX6_block_11 : decode cX6_block 11 = .ok (.sipush 999, 3) := by decide +kernel
theorem dX6_block_14 : decode cX6_block 14 = .ok (.invokestatic 57, 3) := by decide +kernel
theorem dX6_block_17 : decode cX6_block 17 = .ok (.ifCond .eq 25, 3) := by decide +kernel
theorem dX6_block_20 : decode cX6_block 20 = .ok (.iload_n 3, 1) := by decide +kernel
theorem dX6_block_21 : decode cX6_block 21 = .ok (.iconst 0, 1) := by decide +kernel
theorem dX6_block_22 : decode cX6_block 22 = .ok (.sipush 999, 3) := by decide +kernel
theorem dX6_block_25 : decode cX6_block 25 = .ok (.invokestatic 57, 3) := by decide +kernel
theorem dX6_block_28 : decode cX6_block 28 = .ok (.ifCond .eq 14, 3) := by decide +kernel
theorem dX6_block_31 : decode cX6_block 31 = .ok (.iload 4, 2) := by decide +kernel
theorem dX6_block_33 : decode cX6_block 33 = .ok (.iconst 0, 1) := by decide +kernel
theorem dX6_block_34 : decode cX6_block 34 = .ok (.bipush 99, 2) := by decide +kernel
theorem dX6_block_36 : decode cX6_block 36 = .ok (.invokestatic 57, 3) := by decide +kernel
theorem dX6_block_39 : decode cX6_block 39 = .ok (.ifCond .ne 9, 3) := by decide +kernel
theorem dX6_block_42 : decode cX6_block 42 = .ok (.aload_n 0, 1) := by decide +kernel
theorem dX6_block_43 : decode cX6_block 43 = .ok (.iconst 0, 1) := by decide +kernel
theorem dX6_block_44 : decode cX6_block 44 = .ok (.invokevirtual 85, 3) := by decide +kernel
theorem dX6_block_47 : decode cX6_block 47 = .ok (.ireturn, 1) := by decide +kernel
theorem dX6_block_48 : decode cX6_block 48 = .ok (.aload_n 0, 1) := by decide +kernel
theorem dX6_block_49 : decode cX6_block 49 = .ok (.getfield 9, 3) := by decide +kernel
theorem dX6_block_52 : decode cX6_block 52 = .ok (.iconst 0, 1) := by decide +kernel
theorem dX6_block_53 : decode cX6_block 53 = .ok (.iaload, 1) := by decide +kernel
theorem dX6_block_54 : decode cX6_block 54 = .ok (.istore 5, 2) := by decide +kernel
theorem dX6_block_56 : decode cX6_block 56 = .ok (.iload 5, 2) := by decide +kernel
theorem dX6_block_58 : decode cX6_block 58 = .ok (.bipush 10, 2) := by decide +kernel
theorem dX6_block_60 : decode cX6_block 60 = .ok (.if_icmp .ne 9, 3) := by decide +kernel
theorem dX6_block_63 : decode cX6_block 63 = .ok (.aload_n 0, 1) := by decide +kernel
theorem dX6_block_64 : decode cX6_block 64 = .ok (.iconst 1, 1) := by decide +kernel
theorem dX6_block_65 : decode cX6_block 65 = .ok (.invokevirtual 85, 3) := by decide +kernel
theorem dX6_block_68 : decode cX6_block 68 = .ok (.ireturn, 1) := by decide +kernel
theorem dX6_block_69 : decode cX6_block 69 = .ok (.aload_n 0, 1) := by decide +kernel
theorem dX6_block_70 : decode cX6_block 70 = .ok (.getfield 9, 3) := by decide +kernel
theorem dX6_block_73 : decode cX6_block 73 = .ok (.iconst 0, 1) := by decide +kernel
theorem dX6_block_74 : decode cX6_block 74 = .ok (.dup2, 1) := by decide +kernel
theorem dX6_block_75 : decode cX6_block 75 = .ok (.iaload, 1) := by decide +kernel
theorem dX6_block_76 : decode cX6_block 76 = .ok (.iconst 1, 1) := by decide +kernel
theorem dX6_block_77 : decode cX6_block 77 = .ok (.iadd, 1) := by decide +kernel
theorem dX6_block_78 : decode cX6_block 78 = .ok (.iastore, 1) := by decide +kernel
theorem dX6_block_79 : decode cX6_block 79 = .ok (.aload_n 0, 1) := by decide +kernel
theorem dX6_block_80 : decode cX6_block 80 = .ok (.iload 5, 2) := by decide +kernel
theorem dX6_block_82 : decode cX6_block 82 = .ok (.iconst 0, 1) := by decide +kernel
theorem dX6_block_83 : decode cX6_block 83 = .ok (.iload_n 1, 1) := by decide +kernel
theorem dX6_block_84 : decode cX6_block 84 = .ok (.invokevirtual 88, 3) := by decide +kernel
theorem dX6_block_87 : decode cX6_block 87 = .ok (.pop, 1) := by decide +kernel
theorem dX6_block_88 : decode cX6_block 88 = .ok (.aload_n 0, 1) := by decide +kernel
theorem dX6_block_89 : decode cX6_block 89 = .ok (.iload 5, 2) := by decide +kernel
theorem dX6_block_91 : decode cX6_block 91 = .ok (.iconst 1, 1) := by decide +kernel
theorem dX6_block_92 : decode cX6_block 92 = .ok (.iload_n 2, 1) := by decide +kernel
theorem dX6_block_93 : decode cX6_block 93 = .ok (.invokevirtual 88, 3) := by decide +kernel
theorem dX6_block_96 : decode cX6_block 96 = .ok (.pop, 1) := by decide +kernel
theorem dX6_block_97 : decode cX6_block 97 = .ok (.aload_n 0, 1) := by decide +kernel
theorem dX6_block_98 : decode cX6_block 98 = .ok (.iload 5, 2) := by decide +kernel
theorem dX6_block_100 : decode cX6_block 100 = .ok (.iconst 2, 1) := by decide +kernel
theorem dX6_block_101 : decode cX6_block 101 = .ok (.iload_n 3, 1) := by decide +kernel
theorem dX6_block_102 : decode cX6_block 102 = .ok (.invokevirtual 88, 3) := by decide +kernel
theorem dX6_block_105 : decode cX6_block 105 = .ok (.pop, 1) := by decide +kernel
theorem dX6_block_106 : decode cX6_block 106 = .ok (.aload_n 0, 1) := by decide +kernel
theorem dX6_block_107 : decode cX6_block 107 = .ok (.iload 5, 2) := by decide +kernel
theorem dX6_block_109 : decode cX6_block 109 = .ok (.iconst 3, 1) := by decide +kernel
theorem dX6_block_110 : decode cX6_block 110 = .ok (.iload 4, 2) := by decide +kernel
theorem dX6_block_112 : decode cX6_block 112 = .ok (.invokevirtual 88, 3) := by decide +kernel
theorem dX6_block_115 : decode cX6_block 115 = .ok (.pop, 1) := by decide +kernel
theorem dX6_block_116 : decode cX6_block 116 = .ok (.aload_n 0, 1) := by decide +kernel
theorem dX6_block_117 : decode cX6_block 117 = .ok (.iload 5, 2) := by decide +kernel
theorem dX6_block_119 : decode cX6_block 119 = .ok (.iconst 4, 1) := by decide +kernel
theorem dX6_block_120 : decode cX6_block 120 = .ok (.iconst 0, 1) := by decide +kernel
theorem dX6_block_121 : decode cX6_block 121 = .ok (.invokevirtual 88, 3) := by decide +kernel
theorem dX6_block_124 : decode cX6_block 124 = .ok (.pop, 1) := by decide +kernel
theorem dX6_block_125 : decode cX6_block 125 = .ok (.aload_n 0, 1) := by decide +kernel
theorem dX6_block_126 : decode cX6_block 126 = .ok (.iload 5, 2) := by decide +kernel
theorem dX6_block_128 : decode cX6_block 128 = .ok (.iconst 5, 1) := by decide +kernel
theorem dX6_block_129 : decode cX6_block 129 = .ok (.iconst 0, 1) := by decide +kernel
theorem dX6_block_130 : decode cX6_block 130 = .ok (.invokevirtual 88, 3) := by decide +kernel
theorem dX6_block_133 : decode cX6_block 133 = .ok (.pop, 1) := by decide +kernel
theorem dX6_block_134 : decode cX6_block 134 = .ok (.aload_n 0, 1) := by decide +kernel
theorem dX6_block_135 : decode cX6_block 135 = .ok (.iload 5, 2) := by decide +kernel
theorem dX6_block_137 : decode cX6_block 137 = .ok (.bipush 6, 2) := by decide +kernel
theorem dX6_block_139 : decode cX6_block 139 = .ok (.iconst 0, 1) := by decide +kernel
theorem dX6_block_140 : decode cX6_block 140 = .ok (.invokevirtual 88, 3) := by decide +kernel
theorem dX6_block_143 : decode cX6_block 143 = .ok (.pop, 1) := by decide +kernel
theorem dX6_block_144 : decode cX6_block 144 = .ok (.iload 5, 2) := by decide +kernel
theorem dX6_block_146 : decode cX6_block 146 = .ok (.ireturn, 1) := by decide +kernel
theorem dX6_of_0 : decode cX6_of 0 = .ok (.aload_n 0, 1) := by decide +kernel
theorem dX6_of_1 : decode cX6_of 1 = .ok (.iload_n 1, 1) := by decide +kernel
theorem dX6_of_2 : decode cX6_of 2 = .ok (.invokevirtual 92, 3) := by decide +kernel
theorem dX6_of_5 : decode cX6_of 5 = .ok (.ifCond .eq 13, 3) := by decide +kernel
theorem dX6_of_8 : decode cX6_of 8 = .ok (.iload_n 2, 1) := by decide +kernel
theorem dX6_of_9 : decode cX6_of 9 = .ok (.iconst 0, 1) := by decide +kernel
theorem dX6_of_10 : decode cX6_of 10 = .ok (.bipush 8, 2) := by decide +kernel
theorem dX6_of_12 : decode cX6_of 12 = .ok (.invokestatic 57, 3) := by decide +kernel
theorem dX6_of_15 : decode cX6_of 15 = .ok (.ifCond .ne 9, 3) := by decide +kernel
theorem dX6_of_18 : decode cX6_of 18 = .ok (.aload_n 0, 1) := by decide +kernel
theorem dX6_of_19 : decode cX6_of 19 = .ok (.iconst 0, 1) := by decide +kernel
theorem dX6_of_20 : decode cX6_of 20 = .ok (.invokevirtual 85, 3) := by decide +kernel
theorem dX6_of_23 : decode cX6_of 23 = .ok (.ireturn, 1) := by decide +kernel
theorem dX6_of_24 : decode cX6_of 24 = .ok (.iload_n 2, 1) := by decide +kernel
theorem dX6_of_25 : decode cX6_of 25 = .ok (.bipush 7, 2) := by decide +kernel
theorem dX6_of_27 : decode cX6_of 27 = .ok (.if_icmp .ne 11, 3) := by decide +kernel
theorem dX6_of_30 : decode cX6_of 30 = .ok (.aload_n 0, 1) := by decide +kernel
theorem dX6_of_31 : decode cX6_of 31 = .ok (.iload_n 1, 1) := by decide +kernel
theorem dX6_of_32 : decode cX6_of 32 = .ok (.invokevirtual 95, 3) := by decide +kernel
theorem dX6_of_35 : decode cX6_of 35 = .ok (.goto 30, 3) := by decide +kernel
theorem dX6_of_38 : decode cX6_of 38 = .ok (.iload_n 2, 1) := by decide +kernel
theorem dX6_of_39 : decode cX6_of 39 = .ok (.bipush 8, 2) := by decide +kernel
theorem dX6_of_41 : decode cX6_of 41 = .ok (.if_icmp .ne 18, 3) := by decide +kernel
theorem dX6_of_44 : decode cX6_of 44 = .ok (.aload_n 0, 1) := by decide +kernel
theorem dX6_of_45 : decode cX6_of 45 = .ok (.iload_n 1, 1) := by decide +kernel
theorem dX6_of_46 : decode cX6_of 46 = .ok (.aload_n 0, 1) := by decide +kernel
theorem dX6_of_47 : decode cX6_of 47 = .ok (.iload_n 1, 1) := by decide +kernel
theorem dX6_of_48 : decode cX6_of 48 = .ok (.bipush 6, 2) := by decide +kernel
theorem dX6_of_50 : decode cX6_of 50 = .ok (.invokevirtual 61, 3) := by decide +kernel
theorem dX6_of_53 : decode cX6_of 53 = .ok (.invokevirtual 98, 3) := by decide +kernel
theorem dX6_of_56 : decode cX6_of 56 = .ok (.goto 9, 3) := by decide +kernel
theorem dX6_of_59 : decode cX6_of 59 = .ok (.aload_n 0, 1) := by decide +kernel
theorem dX6_of_60 : decode cX6_of 60 = .ok (.iload_n 1, 1) := by decide +kernel
theorem dX6_of_61 : decode cX6_of 61 = .ok (.iload_n 2, 1) := by decide +kernel
theorem dX6_of_62 : decode cX6_of 62 = .ok (.invokevirtual 61, 3) := by decide +kernel
theorem dX6_of_65 : decode cX6_of 65 = .ok (.ireturn, 1) := by decide +kernel
theorem dX6_set_0 : decode cX6_set 0 = .ok (.aload_n 0, 1) := by decide +kernel
theorem dX6_set_1 : decode cX6_set 1 = .ok (.iload_n 1, 1) := by decide +kernel
theorem dX6_set_2 : decode cX6_set 2 = .ok (.invokevirtual 92, 3) := by decide +kernel
theorem dX6_set_5 : decode cX6_set 5 = .ok (.ifCond .eq 42, 3) := by decide +kernel
theorem dX6_set_8 : decode cX6_set 8 = .ok (.iload_n 2, 1) := by decide +kernel
theorem dX6_set_9 : decode cX6_set 9 = .ok (.iconst 1, 1) := by decide +kernel
theorem dX6_set_10 : decode cX6_set 10 = .ok (.iconst 4, 1) := by decide +kernel
theorem dX6_set_11 : decode cX6_set 11 = .ok (.invokestatic 57, 3) := by decide +kernel
theorem dX6_set_14 : decode cX6_set 14 = .ok (.ifCond .eq 33, 3) := by decide +kernel
theorem dX6_set_17 : decode cX6_set 17 = .ok (.iload_n 3, 1) := by decide +kernel
theorem dX6_set_18 : decode cX6_set 18 = .ok (.iload_n 2, 1) := by decide +kernel
theorem dX6_set_19 : decode cX6_set 19 = .ok (.iconst 1, 1) := by decide +kernel
theorem dX6_set_20 : decode cX6_set 20 = .ok (.if_icmp .ne 7, 3) := by decide +kernel
theorem dX6_set_23 : decode cX6_set 23 = .ok (.iconst 1, 1) := by decide +kernel
theorem dX6_set_24 : decode cX6_set 24 = .ok (.goto 4, 3) := by decide +kernel
theorem dX6_set_27 : decode cX6_set 27 = .ok (.iconst 0, 1) := by decide +kernel
theorem dX6_set_28 : decode cX6_set 28 = .ok (.iload_n 2, 1) := by decide +kernel
theorem dX6_set_29 : decode cX6_set 29 = .ok (.iconst 3, 1) := by decide +kernel
theorem dX6_set_30 : decode cX6_set 30 = .ok (.if_icmp .ge 9, 3) := by decide +kernel
theorem dX6_set_33 : decode cX6_set 33 = .ok (.sipush 999, 3) := by decide +kernel
theorem dX6_set_36 : decode cX6_set 36 = .ok (.goto 5, 3) := by decide +kernel
theorem dX6_set_39 : decode cX6_set 39 = .ok (.bipush 99, 2) := by decide +kernel
theorem dX6_set_41 : decode cX6_set 41 = .ok (.invokestatic 57, 3) := by decide +kernel
theorem dX6_set_44 : decode cX6_set 44 = .ok (.ifCond .ne 9, 3) := by decide +kernel
theorem dX6_set_47 : decode cX6_set 47 = .ok (.aload_n 0, 1) := by decide +kernel
theorem dX6_set_48 : decode cX6_set 48 = .ok (.iconst 0, 1) := by decide +kernel
theorem dX6_set_49 : decode cX6_set 49 = .ok (.invokevirtual 85, 3) := by decide +kernel
theorem dX6_set_52 : decode cX6_set 52 = .ok (.ireturn, 1) := by decide +kernel
theorem dX6_set_53 : decode cX6_set 53 = .ok (.aload_n 0, 1) := by decide +kernel
theorem dX6_set_54 : decode cX6_set 54 = .ok (.iload_n 1, 1) := by decide +kernel
theorem dX6_set_55 : decode cX6_set 55 = .ok (.iload_n 2, 1) := by decide +kernel
theorem dX6_set_56 : decode cX6_set 56 = .ok (.iload_n 3, 1) := by decide +kernel
theorem dX6_set_57 : decode cX6_set 57 = .ok (.invokevirtual 88, 3) := by decide +kernel
theorem dX6_set_60 : decode cX6_set 60 = .ok (.ireturn, 1) := by decide +kernel
theorem dX6_isUnder_0 : decode cX6_isUnder 0 = .ok (.iload_n 1, 1) := by decide +kernel
theorem dX6_isUnder_1 : decode cX6_isUnder 1 = .ok (.ifCond .eq 28, 3) := by decide +kernel
theorem dX6_isUnder_4 : decode cX6_isUnder 4 = .ok (.iload_n 0, 1) := by decide +kernel
theorem dX6_isUnder_5 : decode cX6_isUnder 5 = .ok (.iload_n 1, 1) := by decide +kernel
theorem dX6_isUnder_6 : decode cX6_isUnder 6 = .ok (.if_icmp .eq 23, 3) := by decide +kernel
theorem dX6_isUnder_9 : decode cX6_isUnder 9 = .ok (.iload_n 1, 1) := by decide +kernel
theorem dX6_isUnder_10 : decode cX6_isUnder 10 = .ok (.iconst 1, 1) := by decide +kernel
theorem dX6_isUnder_11 : decode cX6_isUnder 11 = .ok (.if_icmp .ne 8, 3) := by decide +kernel
theorem dX6_isUnder_14 : decode cX6_isUnder 14 = .ok (.iload_n 0, 1) := by decide +kernel
theorem dX6_isUnder_15 : decode cX6_isUnder 15 = .ok (.iconst 4, 1) := by decide +kernel
theorem dX6_isUnder_16 : decode cX6_isUnder 16 = .ok (.if_icmp .eq 13, 3) := by decide +kernel
theorem dX6_isUnder_19 : decode cX6_isUnder 19 = .ok (.iload_n 1, 1) := by decide +kernel
theorem dX6_isUnder_20 : decode cX6_isUnder 20 = .ok (.iconst 2, 1) := by decide +kernel
theorem dX6_isUnder_21 : decode cX6_isUnder 21 = .ok (.if_icmp .ne 12, 3) := by decide +kernel
theorem dX6_isUnder_24 : decode cX6_isUnder 24 = .ok (.iload_n 0, 1) := by decide +kernel
theorem dX6_isUnder_25 : decode cX6_isUnder 25 = .ok (.iconst 5, 1) := by decide +kernel
theorem dX6_isUnder_26 : decode cX6_isUnder 26 = .ok (.if_icmp .ne 7, 3) := by decide +kernel
theorem dX6_isUnder_29 : decode cX6_isUnder 29 = .ok (.iconst 1, 1) := by decide +kernel
theorem dX6_isUnder_30 : decode cX6_isUnder 30 = .ok (.goto 4, 3) := by decide +kernel
theorem dX6_isUnder_33 : decode cX6_isUnder 33 = .ok (.iconst 0, 1) := by decide +kernel
theorem dX6_isUnder_34 : decode cX6_isUnder 34 = .ok (.ireturn, 1) := by decide +kernel
theorem dX6_as_0 : decode cX6_as 0 = .ok (.aload_n 0, 1) := by decide +kernel
theorem dX6_as_1 : decode cX6_as 1 = .ok (.iload_n 1, 1) := by decide +kernel
theorem dX6_as_2 : decode cX6_as 2 = .ok (.invokevirtual 92, 3) := by decide +kernel
theorem dX6_as_5 : decode cX6_as 5 = .ok (.ifCond .eq 12, 3) := by decide +kernel
theorem dX6_as_8 : decode cX6_as 8 = .ok (.iload_n 2, 1) := by decide +kernel
theorem dX6_as_9 : decode cX6_as 9 = .ok (.iconst 0, 1) := by decide +kernel
theorem dX6_as_10 : decode cX6_as 10 = .ok (.iconst 5, 1) := by decide +kernel
theorem dX6_as_11 : decode cX6_as 11 = .ok (.invokestatic 57, 3) := by decide +kernel
theorem dX6_as_14 : decode cX6_as 14 = .ok (.ifCond .ne 9, 3) := by decide +kernel
theorem dX6_as_17 : decode cX6_as 17 = .ok (.aload_n 0, 1) := by decide +kernel
theorem dX6_as_18 : decode cX6_as 18 = .ok (.iconst 0, 1) := by decide +kernel
theorem dX6_as_19 : decode cX6_as 19 = .ok (.invokevirtual 85, 3) := by decide +kernel
theorem dX6_as_22 : decode cX6_as 22 = .ok (.ireturn, 1) := by decide +kernel
theorem dX6_as_23 : decode cX6_as 23 = .ok (.aload_n 0, 1) := by decide +kernel
theorem dX6_as_24 : decode cX6_as 24 = .ok (.iload_n 1, 1) := by decide +kernel
theorem dX6_as_25 : decode cX6_as 25 = .ok (.iconst 0, 1) := by decide +kernel
theorem dX6_as_26 : decode cX6_as 26 = .ok (.invokevirtual 61, 3) := by decide +kernel
theorem dX6_as_29 : decode cX6_as 29 = .ok (.iload_n 2, 1) := by decide +kernel
theorem dX6_as_30 : decode cX6_as 30 = .ok (.invokestatic 101, 3) := by decide +kernel
theorem dX6_as_33 : decode cX6_as 33 = .ok (.ifCond .eq 18, 3) := by decide +kernel
theorem dX6_as_36 : decode cX6_as 36 = .ok (.aload_n 0, 1) := by decide +kernel
theorem dX6_as_37 : decode cX6_as 37 = .ok (.iload_n 1, 1) := by decide +kernel
theorem dX6_as_38 : decode cX6_as 38 = .ok (.aload_n 0, 1) := by decide +kernel
theorem dX6_as_39 : decode cX6_as 39 = .ok (.iload_n 1, 1) := by decide +kernel
theorem dX6_as_40 : decode cX6_as 40 = .ok (.bipush 6, 2) := by decide +kernel
theorem dX6_as_42 : decode cX6_as 42 = .ok (.invokevirtual 61, 3) := by decide +kernel
theorem dX6_as_45 : decode cX6_as 45 = .ok (.invokevirtual 98, 3) := by decide +kernel
theorem dX6_as_48 : decode cX6_as 48 = .ok (.goto 8, 3) := by decide +kernel
theorem dX6_as_51 : decode cX6_as 51 = .ok (.aload_n 0, 1) := by decide +kernel
theorem dX6_as_52 : decode cX6_as 52 = .ok (.iconst 2, 1) := by decide +kernel
theorem dX6_as_53 : decode cX6_as 53 = .ok (.invokevirtual 85, 3) := by decide +kernel
theorem dX6_as_56 : decode cX6_as 56 = .ok (.ireturn, 1) := by decide +kernel
theorem dX6_holds_0 : decode cX6_holds 0 = .ok (.aload_n 0, 1) := by decide +kernel
theorem dX6_holds_1 : decode cX6_holds 1 = .ok (.iload_n 1, 1) := by decide +kernel
theorem dX6_holds_2 : decode cX6_holds 2 = .ok (.invokevirtual 92, 3) := by decide +kernel
theorem dX6_holds_5 : decode cX6_holds 5 = .ok (.ifCond .eq 23, 3) := by decide +kernel
theorem dX6_holds_8 : decode cX6_holds 8 = .ok (.iload_n 2, 1) := by decide +kernel
theorem dX6_holds_9 : decode cX6_holds 9 = .ok (.iconst 0, 1) := by decide +kernel
theorem dX6_holds_10 : decode cX6_holds 10 = .ok (.sipush 999, 3) := by decide +kernel
theorem dX6_holds_13 : decode cX6_holds 13 = .ok (.invokestatic 57, 3) := by decide +kernel
theorem dX6_holds_16 : decode cX6_holds 16 = .ok (.ifCond .eq 12, 3) := by decide +kernel
theorem dX6_holds_19 : decode cX6_holds 19 = .ok (.aload_n 0, 1) := by decide +kernel
theorem dX6_holds_20 : decode cX6_holds 20 = .ok (.iload_n 1, 1) := by decide +kernel
theorem dX6_holds_21 : decode cX6_holds 21 = .ok (.iload_n 2, 1) := by decide +kernel
theorem dX6_holds_22 : decode cX6_holds 22 = .ok (.invokevirtual 98, 3) := by decide +kernel
theorem dX6_holds_25 : decode cX6_holds 25 = .ok (.goto 8, 3) := by decide +kernel
theorem dX6_holds_28 : decode cX6_holds 28 = .ok (.aload_n 0, 1) := by decide +kernel
theorem dX6_holds_29 : decode cX6_holds 29 = .ok (.iconst 0, 1) := by decide +kernel
theorem dX6_holds_30 : decode cX6_holds 30 = .ok (.invokevirtual 85, 3) := by decide +kernel
theorem dX6_holds_33 : decode cX6_holds 33 = .ok (.ireturn, 1) := by decide +kernel
theorem dX6_rubs_0 : decode cX6_rubs 0 = .ok (.aload_n 0, 1) := by decide +kernel
theorem dX6_rubs_1 : decode cX6_rubs 1 = .ok (.iload_n 1, 1) := by decide +kernel
theorem dX6_rubs_2 : decode cX6_rubs 2 = .ok (.invokevirtual 92, 3) := by decide +kernel
theorem dX6_rubs_5 : decode cX6_rubs 5 = .ok (.ifCond .eq 23, 3) := by decide +kernel
theorem dX6_rubs_8 : decode cX6_rubs 8 = .ok (.iload_n 2, 1) := by decide +kernel
theorem dX6_rubs_9 : decode cX6_rubs 9 = .ok (.iconst 0, 1) := by decide +kernel
theorem dX6_rubs_10 : decode cX6_rubs 10 = .ok (.sipush 999, 3) := by decide +kernel
theorem dX6_rubs_13 : decode cX6_rubs 13 = .ok (.invokestatic 57, 3) := by decide +kernel
theorem dX6_rubs_16 : decode cX6_rubs 16 = .ok (.ifCond .eq 12, 3) := by decide +kernel
theorem dX6_rubs_19 : decode cX6_rubs 19 = .ok (.aload_n 0, 1) := by decide +kernel
theorem dX6_rubs_20 : decode cX6_rubs 20 = .ok (.iload_n 1, 1) := by decide +kernel
theorem dX6_rubs_21 : decode cX6_rubs 21 = .ok (.iload_n 2, 1) := by decide +kernel
theorem dX6_rubs_22 : decode cX6_rubs 22 = .ok (.invokevirtual 105, 3) := by decide +kernel
theorem dX6_rubs_25 : decode cX6_rubs 25 = .ok (.goto 8, 3) := by decide +kernel
theorem dX6_rubs_28 : decode cX6_rubs 28 = .ok (.aload_n 0, 1) := by decide +kernel
theorem dX6_rubs_29 : decode cX6_rubs 29 = .ok (.iconst 0, 1) := by decide +kernel
theorem dX6_rubs_30 : decode cX6_rubs 30 = .ok (.invokevirtual 85, 3) := by decide +kernel
theorem dX6_rubs_33 : decode cX6_rubs 33 = .ok (.ireturn, 1) := by decide +kernel
theorem dX6_push_0 : decode cX6_push 0 = .ok (.aload_n 0, 1) := by decide +kernel
theorem dX6_push_1 : decode cX6_push 1 = .ok (.iload_n 1, 1) := by decide +kernel
theorem dX6_push_2 : decode cX6_push 2 = .ok (.invokevirtual 92, 3) := by decide +kernel
theorem dX6_push_5 : decode cX6_push 5 = .ok (.ifCond .eq 16, 3) := by decide +kernel
theorem dX6_push_8 : decode cX6_push 8 = .ok (.iload_n 2, 1) := by decide +kernel
theorem dX6_push_9 : decode cX6_push 9 = .ok (.sipush (-9999), 3) := by decide +kernel
theorem dX6_push_12 : decode cX6_push 12 = .ok (.sipush 9999, 3) := by decide +kernel
theorem dX6_push_15 : decode cX6_push 15 = .ok (.invokestatic 57, 3) := by decide +kernel
theorem dX6_push_18 : decode cX6_push 18 = .ok (.ifCond .ne 9, 3) := by decide +kernel
theorem dX6_push_21 : decode cX6_push 21 = .ok (.aload_n 0, 1) := by decide +kernel
theorem dX6_push_22 : decode cX6_push 22 = .ok (.iconst 0, 1) := by decide +kernel
theorem dX6_push_23 : decode cX6_push 23 = .ok (.invokevirtual 85, 3) := by decide +kernel
theorem dX6_push_26 : decode cX6_push 26 = .ok (.ireturn, 1) := by decide +kernel
theorem dX6_push_27 : decode cX6_push 27 = .ok (.aload_n 0, 1) := by decide +kernel
theorem dX6_push_28 : decode cX6_push 28 = .ok (.iload_n 1, 1) := by decide +kernel
theorem dX6_push_29 : decode cX6_push 29 = .ok (.iconst 5, 1) := by decide +kernel
theorem dX6_push_30 : decode cX6_push 30 = .ok (.aload_n 0, 1) := by decide +kernel
theorem dX6_push_31 : decode cX6_push 31 = .ok (.iload_n 1, 1) := by decide +kernel
theorem dX6_push_32 : decode cX6_push 32 = .ok (.iconst 5, 1) := by decide +kernel
theorem dX6_push_33 : decode cX6_push 33 = .ok (.invokevirtual 61, 3) := by decide +kernel
theorem dX6_push_36 : decode cX6_push 36 = .ok (.iload_n 2, 1) := by decide +kernel
theorem dX6_push_37 : decode cX6_push 37 = .ok (.iadd, 1) := by decide +kernel
theorem dX6_push_38 : decode cX6_push 38 = .ok (.invokevirtual 88, 3) := by decide +kernel
theorem dX6_push_41 : decode cX6_push 41 = .ok (.pop, 1) := by decide +kernel
theorem dX6_push_42 : decode cX6_push 42 = .ok (.aload_n 0, 1) := by decide +kernel
theorem dX6_push_43 : decode cX6_push 43 = .ok (.iload_n 1, 1) := by decide +kernel
theorem dX6_push_44 : decode cX6_push 44 = .ok (.bipush 6, 2) := by decide +kernel
theorem dX6_push_46 : decode cX6_push 46 = .ok (.iconst 0, 1) := by decide +kernel
theorem dX6_push_47 : decode cX6_push 47 = .ok (.invokevirtual 88, 3) := by decide +kernel
theorem dX6_push_50 : decode cX6_push 50 = .ok (.pop, 1) := by decide +kernel
theorem dX6_push_51 : decode cX6_push 51 = .ok (.aload_n 0, 1) := by decide +kernel
theorem dX6_push_52 : decode cX6_push 52 = .ok (.iload_n 1, 1) := by decide +kernel
theorem dX6_push_53 : decode cX6_push 53 = .ok (.iconst 5, 1) := by decide +kernel
theorem dX6_push_54 : decode cX6_push 54 = .ok (.invokevirtual 61, 3) := by decide +kernel
theorem dX6_push_57 : decode cX6_push 57 = .ok (.ireturn, 1) := by decide +kernel
theorem dX6_oil_0 : decode cX6_oil 0 = .ok (.aload_n 0, 1) := by decide +kernel
theorem dX6_oil_1 : decode cX6_oil 1 = .ok (.iload_n 1, 1) := by decide +kernel
theorem dX6_oil_2 : decode cX6_oil 2 = .ok (.invokevirtual 92, 3) := by decide +kernel
theorem dX6_oil_5 : decode cX6_oil 5 = .ok (.ifCond .eq 13, 3) := by decide +kernel
theorem dX6_oil_8 : decode cX6_oil 8 = .ok (.iload_n 2, 1) := by decide +kernel
theorem dX6_oil_9 : decode cX6_oil 9 = .ok (.iconst 1, 1) := by decide +kernel
theorem dX6_oil_10 : decode cX6_oil 10 = .ok (.bipush 99, 2) := by decide +kernel
theorem dX6_oil_12 : decode cX6_oil 12 = .ok (.invokestatic 57, 3) := by decide +kernel
theorem dX6_oil_15 : decode cX6_oil 15 = .ok (.ifCond .ne 9, 3) := by decide +kernel
theorem dX6_oil_18 : decode cX6_oil 18 = .ok (.aload_n 0, 1) := by decide +kernel
theorem dX6_oil_19 : decode cX6_oil 19 = .ok (.iconst 0, 1) := by decide +kernel
theorem dX6_oil_20 : decode cX6_oil 20 = .ok (.invokevirtual 85, 3) := by decide +kernel
theorem dX6_oil_23 : decode cX6_oil 23 = .ok (.ireturn, 1) := by decide +kernel
theorem dX6_oil_24 : decode cX6_oil 24 = .ok (.aload_n 0, 1) := by decide +kernel
theorem dX6_oil_25 : decode cX6_oil 25 = .ok (.iload_n 1, 1) := by decide +kernel
theorem dX6_oil_26 : decode cX6_oil 26 = .ok (.iconst 4, 1) := by decide +kernel
theorem dX6_oil_27 : decode cX6_oil 27 = .ok (.bipush 99, 2) := by decide +kernel
theorem dX6_oil_29 : decode cX6_oil 29 = .ok (.aload_n 0, 1) := by decide +kernel
theorem dX6_oil_30 : decode cX6_oil 30 = .ok (.iload_n 1, 1) := by decide +kernel
theorem dX6_oil_31 : decode cX6_oil 31 = .ok (.iconst 4, 1) := by decide +kernel
theorem dX6_oil_32 : decode cX6_oil 32 = .ok (.invokevirtual 61, 3) := by decide +kernel
theorem dX6_oil_35 : decode cX6_oil 35 = .ok (.iload_n 2, 1) := by decide +kernel
theorem dX6_oil_36 : decode cX6_oil 36 = .ok (.iadd, 1) := by decide +kernel
theorem dX6_oil_37 : decode cX6_oil 37 = .ok (.invokestatic 65, 3) := by decide +kernel
theorem dX6_oil_40 : decode cX6_oil 40 = .ok (.invokevirtual 88, 3) := by decide +kernel
theorem dX6_oil_43 : decode cX6_oil 43 = .ok (.pop, 1) := by decide +kernel
theorem dX6_oil_44 : decode cX6_oil 44 = .ok (.aload_n 0, 1) := by decide +kernel
theorem dX6_oil_45 : decode cX6_oil 45 = .ok (.iload_n 1, 1) := by decide +kernel
theorem dX6_oil_46 : decode cX6_oil 46 = .ok (.iconst 4, 1) := by decide +kernel
theorem dX6_oil_47 : decode cX6_oil 47 = .ok (.invokevirtual 61, 3) := by decide +kernel
theorem dX6_oil_50 : decode cX6_oil 50 = .ok (.ireturn, 1) := by decide +kernel
theorem dX6_pace_0 : decode cX6_pace 0 = .ok (.iload_n 1, 1) := by decide +kernel
theorem dX6_pace_1 : decode cX6_pace 1 = .ok (.bipush (-99), 2) := by decide +kernel
theorem dX6_pace_3 : decode cX6_pace 3 = .ok (.bipush 99, 2) := by decide +kernel
theorem dX6_pace_5 : decode cX6_pace 5 = .ok (.invokestatic 57, 3) := by decide +kernel
theorem dX6_pace_8 : decode cX6_pace 8 = .ok (.ifCond .ne 9, 3) := by decide +kernel
theorem dX6_pace_11 : decode cX6_pace 11 = .ok (.aload_n 0, 1) := by decide +kernel
theorem dX6_pace_12 : decode cX6_pace 12 = .ok (.iconst 0, 1) := by decide +kernel
theorem dX6_pace_13 : decode cX6_pace 13 = .ok (.invokevirtual 85, 3) := by decide +kernel
theorem dX6_pace_16 : decode cX6_pace 16 = .ok (.ireturn, 1) := by decide +kernel
theorem dX6_pace_17 : decode cX6_pace 17 = .ok (.aload_n 0, 1) := by decide +kernel
theorem dX6_pace_18 : decode cX6_pace 18 = .ok (.getfield 9, 3) := by decide +kernel
theorem dX6_pace_21 : decode cX6_pace 21 = .ok (.iconst 2, 1) := by decide +kernel
theorem dX6_pace_22 : decode cX6_pace 22 = .ok (.iaload, 1) := by decide +kernel
theorem dX6_pace_23 : decode cX6_pace 23 = .ok (.istore_n 2, 1) := by decide +kernel
theorem dX6_pace_24 : decode cX6_pace 24 = .ok (.aload_n 0, 1) := by decide +kernel
theorem dX6_pace_25 : decode cX6_pace 25 = .ok (.getfield 9, 3) := by decide +kernel
theorem dX6_pace_28 : decode cX6_pace 28 = .ok (.iconst 2, 1) := by decide +kernel
theorem dX6_pace_29 : decode cX6_pace 29 = .ok (.iload_n 1, 1) := by decide +kernel
theorem dX6_pace_30 : decode cX6_pace 30 = .ok (.iastore, 1) := by decide +kernel
theorem dX6_pace_31 : decode cX6_pace 31 = .ok (.iload_n 2, 1) := by decide +kernel
theorem dX6_pace_32 : decode cX6_pace 32 = .ok (.ireturn, 1) := by decide +kernel
theorem dX6_stepsOf_0 : decode cX6_stepsOf 0 = .ok (.aload_n 0, 1) := by decide +kernel
theorem dX6_stepsOf_1 : decode cX6_stepsOf 1 = .ok (.iload_n 1, 1) := by decide +kernel
theorem dX6_stepsOf_2 : decode cX6_stepsOf 2 = .ok (.invokevirtual 95, 3) := by decide +kernel
theorem dX6_stepsOf_5 : decode cX6_stepsOf 5 = .ok (.istore_n 2, 1) := by decide +kernel
theorem dX6_stepsOf_6 : decode cX6_stepsOf 6 = .ok (.aload_n 0, 1) := by decide +kernel
theorem dX6_stepsOf_7 : decode cX6_stepsOf 7 = .ok (.getfield 108, 3) := by decide +kernel
theorem dX6_stepsOf_10 : decode cX6_stepsOf 10 = .ok (.iload_n 1, 1) := by decide +kernel
theorem dX6_stepsOf_11 : decode cX6_stepsOf 11 = .ok (.ishr, 1) := by decide +kernel
theorem dX6_stepsOf_12 : decode cX6_stepsOf 12 = .ok (.iconst 1, 1) := by decide +kernel
theorem dX6_stepsOf_13 : decode cX6_stepsOf 13 = .ok (.iand, 1) := by decide +kernel
theorem dX6_stepsOf_14 : decode cX6_stepsOf 14 = .ok (.iconst 1, 1) := by decide +kernel
theorem dX6_stepsOf_15 : decode cX6_stepsOf 15 = .ok (.if_icmp .ne 7, 3) := by decide +kernel
theorem dX6_stepsOf_18 : decode cX6_stepsOf 18 = .ok (.iconst 1, 1) := by decide +kernel
theorem dX6_stepsOf_19 : decode cX6_stepsOf 19 = .ok (.goto 4, 3) := by decide +kernel
theorem dX6_stepsOf_22 : decode cX6_stepsOf 22 = .ok (.iconst 0, 1) := by decide +kernel
theorem dX6_stepsOf_23 : decode cX6_stepsOf 23 = .ok (.istore_n 3, 1) := by decide +kernel
theorem dX6_stepsOf_24 : decode cX6_stepsOf 24 = .ok (.aload_n 0, 1) := by decide +kernel
theorem dX6_stepsOf_25 : decode cX6_stepsOf 25 = .ok (.iload_n 1, 1) := by decide +kernel
theorem dX6_stepsOf_26 : decode cX6_stepsOf 26 = .ok (.aload_n 0, 1) := by decide +kernel
theorem dX6_stepsOf_27 : decode cX6_stepsOf 27 = .ok (.getfield 25, 3) := by decide +kernel
theorem dX6_stepsOf_30 : decode cX6_stepsOf 30 = .ok (.iload_n 1, 1) := by decide +kernel
theorem dX6_stepsOf_31 : decode cX6_stepsOf 31 = .ok (.iaload, 1) := by decide +kernel
theorem dX6_stepsOf_32 : decode cX6_stepsOf 32 = .ok (.invokestatic 112, 3) := by decide +kernel
theorem dX6_stepsOf_35 : decode cX6_stepsOf 35 = .ok (.l2i, 1) := by decide +kernel
theorem dX6_stepsOf_36 : decode cX6_stepsOf 36 = .ok (.invokevirtual 105, 3) := by decide +kernel
theorem dX6_stepsOf_39 : decode cX6_stepsOf 39 = .ok (.istore 4, 2) := by decide +kernel
theorem dX6_stepsOf_41 : decode cX6_stepsOf 41 = .ok (.iload_n 3, 1) := by decide +kernel
theorem dX6_stepsOf_42 : decode cX6_stepsOf 42 = .ok (.ifCond .eq 8, 3) := by decide +kernel
theorem dX6_stepsOf_45 : decode cX6_stepsOf 45 = .ok (.iload 4, 2) := by decide +kernel
theorem dX6_stepsOf_47 : decode cX6_stepsOf 47 = .ok (.goto 15, 3) := by decide +kernel
theorem dX6_stepsOf_50 : decode cX6_stepsOf 50 = .ok (.aload_n 0, 1) := by decide +kernel
theorem dX6_stepsOf_51 : decode cX6_stepsOf 51 = .ok (.iload_n 1, 1) := by decide +kernel
theorem dX6_stepsOf_52 : decode cX6_stepsOf 52 = .ok (.aload_n 0, 1) := by decide +kernel
theorem dX6_stepsOf_53 : decode cX6_stepsOf 53 = .ok (.iload_n 1, 1) := by decide +kernel
theorem dX6_stepsOf_54 : decode cX6_stepsOf 54 = .ok (.bipush 6, 2) := by decide +kernel
theorem dX6_stepsOf_56 : decode cX6_stepsOf 56 = .ok (.invokevirtual 61, 3) := by decide +kernel
theorem dX6_stepsOf_59 : decode cX6_stepsOf 59 = .ok (.invokevirtual 98, 3) := by decide +kernel
theorem dX6_stepsOf_62 : decode cX6_stepsOf 62 = .ok (.istore 5, 2) := by decide +kernel
theorem dX6_stepsOf_64 : decode cX6_stepsOf 64 = .ok (.iload_n 2, 1) := by decide +kernel
theorem dX6_stepsOf_65 : decode cX6_stepsOf 65 = .ok (.invokestatic 112, 3) := by decide +kernel
theorem dX6_stepsOf_68 : decode cX6_stepsOf 68 = .ok (.iload 5, 2) := by decide +kernel
theorem dX6_stepsOf_70 : decode cX6_stepsOf 70 = .ok (.i2l, 1) := by decide +kernel
theorem dX6_stepsOf_71 : decode cX6_stepsOf 71 = .ok (.lcmp, 1) := by decide +kernel
theorem dX6_stepsOf_72 : decode cX6_stepsOf 72 = .ok (.ifCond .gt 5, 3) := by decide +kernel
theorem dX6_stepsOf_75 : decode cX6_stepsOf 75 = .ok (.iconst 0, 1) := by decide +kernel
theorem dX6_stepsOf_76 : decode cX6_stepsOf 76 = .ok (.ireturn, 1) := by decide +kernel
theorem dX6_stepsOf_77 : decode cX6_stepsOf 77 = .ok (.iload_n 2, 1) := by decide +kernel
theorem dX6_stepsOf_78 : decode cX6_stepsOf 78 = .ok (.invokestatic 112, 3) := by decide +kernel
theorem dX6_stepsOf_81 : decode cX6_stepsOf 81 = .ok (.iload 4, 2) := by decide +kernel
theorem dX6_stepsOf_83 : decode cX6_stepsOf 83 = .ok (.i2l, 1) := by decide +kernel
theorem dX6_stepsOf_84 : decode cX6_stepsOf 84 = .ok (.lsub, 1) := by decide +kernel
theorem dX6_stepsOf_85 : decode cX6_stepsOf 85 = .ok (.aload_n 0, 1) := by decide +kernel
theorem dX6_stepsOf_86 : decode cX6_stepsOf 86 = .ok (.iload_n 1, 1) := by decide +kernel
theorem dX6_stepsOf_87 : decode cX6_stepsOf 87 = .ok (.invokevirtual 116, 3) := by decide +kernel
theorem dX6_stepsOf_90 : decode cX6_stepsOf 90 = .ok (.i2l, 1) := by decide +kernel
theorem dX6_stepsOf_91 : decode cX6_stepsOf 91 = .ok (.ldiv, 1) := by decide +kernel
theorem dX6_stepsOf_92 : decode cX6_stepsOf 92 = .ok (.lstore 6, 2) := by decide +kernel
theorem dX6_stepsOf_94 : decode cX6_stepsOf 94 = .ok (.lload 6, 2) := by decide +kernel
theorem dX6_stepsOf_96 : decode cX6_stepsOf 96 = .ok (.lconst 1, 1) := by decide +kernel
theorem dX6_stepsOf_97 : decode cX6_stepsOf 97 = .ok (.lcmp, 1) := by decide +kernel
theorem dX6_stepsOf_98 : decode cX6_stepsOf 98 = .ok (.ifCond .ge 7, 3) := by decide +kernel
theorem dX6_stepsOf_101 : decode cX6_stepsOf 101 = .ok (.iconst 1, 1) := by decide +kernel
theorem dX6_stepsOf_102 : decode cX6_stepsOf 102 = .ok (.goto 21, 3) := by decide +kernel
theorem dX6_stepsOf_105 : decode cX6_stepsOf 105 = .ok (.lload 6, 2) := by decide +kernel
theorem dX6_stepsOf_107 : decode cX6_stepsOf 107 = .ok (.ldc2_w 119, 3) := by decide +kernel
theorem dX6_stepsOf_110 : decode cX6_stepsOf 110 = .ok (.lcmp, 1) := by decide +kernel
theorem dX6_stepsOf_111 : decode cX6_stepsOf 111 = .ok (.ifCond .le 9, 3) := by decide +kernel
theorem dX6_stepsOf_114 : decode cX6_stepsOf 114 = .ok (.sipush 999, 3) := by decide +kernel
theorem dX6_stepsOf_117 : decode cX6_stepsOf 117 = .ok (.goto 6, 3) := by decide +kernel
theorem dX6_stepsOf_120 : decode cX6_stepsOf 120 = .ok (.lload 6, 2) := by decide +kernel
theorem dX6_stepsOf_122 : decode cX6_stepsOf 122 = .ok (.l2i, 1) := by decide +kernel
theorem dX6_stepsOf_123 : decode cX6_stepsOf 123 = .ok (.istore 8, 2) := by decide +kernel
theorem dX6_stepsOf_125 : decode cX6_stepsOf 125 = .ok (.iload_n 2, 1) := by decide +kernel
theorem dX6_stepsOf_126 : decode cX6_stepsOf 126 = .ok (.ifCond .ge 9, 3) := by decide +kernel
theorem dX6_stepsOf_129 : decode cX6_stepsOf 129 = .ok (.iload 8, 2) := by decide +kernel
theorem dX6_stepsOf_131 : decode cX6_stepsOf 131 = .ok (.ineg, 1) := by decide +kernel
theorem dX6_stepsOf_132 : decode cX6_stepsOf 132 = .ok (.goto 5, 3) := by decide +kernel
theorem dX6_stepsOf_135 : decode cX6_stepsOf 135 = .ok (.iload 8, 2) := by decide +kernel
theorem dX6_stepsOf_137 : decode cX6_stepsOf 137 = .ok (.ireturn, 1) := by decide +kernel
theorem dX6_round_0 : decode cX6_round 0 = .ok (.iconst 0, 1) := by decide +kernel
theorem dX6_round_1 : decode cX6_round 1 = .ok (.istore_n 1, 1) := by decide +kernel
theorem dX6_round_2 : decode cX6_round 2 = .ok (.iconst 0, 1) := by decide +kernel
theorem dX6_round_3 : decode cX6_round 3 = .ok (.istore_n 2, 1) := by decide +kernel
theorem dX6_round_4 : decode cX6_round 4 = .ok (.iload_n 2, 1) := by decide +kernel
theorem dX6_round_5 : decode cX6_round 5 = .ok (.aload_n 0, 1) := by decide +kernel
theorem dX6_round_6 : decode cX6_round 6 = .ok (.getfield 9, 3) := by decide +kernel
theorem dX6_round_9 : decode cX6_round 9 = .ok (.iconst 0, 1) := by decide +kernel
theorem dX6_round_10 : decode cX6_round 10 = .ok (.iaload, 1) := by decide +kernel
theorem dX6_round_11 : decode cX6_round 11 = .ok (.if_icmp .ge 20, 3) := by decide +kernel
theorem dX6_round_14 : decode cX6_round 14 = .ok (.aload_n 0, 1) := by decide +kernel
theorem dX6_round_15 : decode cX6_round 15 = .ok (.getfield 28, 3) := by decide +kernel
theorem dX6_round_18 : decode cX6_round 18 = .ok (.iload_n 2, 1) := by decide +kernel
theorem dX6_round_19 : decode cX6_round 19 = .ok (.aload_n 0, 1) := by decide +kernel
theorem dX6_round_20 : decode cX6_round 20 = .ok (.iload_n 2, 1) := by decide +kernel
theorem dX6_round_21 : decode cX6_round 21 = .ok (.invokevirtual 121, 3) := by decide +kernel
theorem dX6_round_24 : decode cX6_round 24 = .ok (.iastore, 1) := by decide +kernel
theorem dX6_round_25 : decode cX6_round 25 = .ok (.iinc 2 1, 3) := by decide +kernel
theorem dX6_round_28 : decode cX6_round 28 = .ok (.goto (-24), 3) := by decide +kernel
theorem dX6_round_31 : decode cX6_round 31 = .ok (.iconst 0, 1) := by decide +kernel
theorem dX6_round_32 : decode cX6_round 32 = .ok (.istore_n 2, 1) := by decide +kernel
theorem dX6_round_33 : decode cX6_round 33 = .ok (.iload_n 2, 1) := by decide +kernel
theorem dX6_round_34 : decode cX6_round 34 = .ok (.aload_n 0, 1) := by decide +kernel
theorem dX6_round_35 : decode cX6_round 35 = .ok (.getfield 9, 3) := by decide +kernel
theorem dX6_round_38 : decode cX6_round 38 = .ok (.iconst 0, 1) := by decide +kernel
theorem dX6_round_39 : decode cX6_round 39 = .ok (.iaload, 1) := by decide +kernel
theorem dX6_round_40 : decode cX6_round 40 = .ok (.if_icmp .ge 93, 3) := by decide +kernel
theorem dX6_round_43 : decode cX6_round 43 = .ok (.aload_n 0, 1) := by decide +kernel
theorem dX6_round_44 : decode cX6_round 44 = .ok (.getfield 25, 3) := by decide +kernel
theorem dX6_round_47 : decode cX6_round 47 = .ok (.iload_n 2, 1) := by decide +kernel
theorem dX6_round_48 : decode cX6_round 48 = .ok (.aload_n 0, 1) := by decide +kernel
theorem dX6_round_49 : decode cX6_round 49 = .ok (.getfield 28, 3) := by decide +kernel
theorem dX6_round_52 : decode cX6_round 52 = .ok (.iload_n 2, 1) := by decide +kernel
theorem dX6_round_53 : decode cX6_round 53 = .ok (.iaload, 1) := by decide +kernel
theorem dX6_round_54 : decode cX6_round 54 = .ok (.iastore, 1) := by decide +kernel
theorem dX6_round_55 : decode cX6_round 55 = .ok (.aload_n 0, 1) := by decide +kernel
theorem dX6_round_56 : decode cX6_round 56 = .ok (.getfield 28, 3) := by decide +kernel
theorem dX6_round_59 : decode cX6_round 59 = .ok (.iload_n 2, 1) := by decide +kernel
theorem dX6_round_60 : decode cX6_round 60 = .ok (.iaload, 1) := by decide +kernel
theorem dX6_round_61 : decode cX6_round 61 = .ok (.ifCond .eq 66, 3) := by decide +kernel
theorem dX6_round_64 : decode cX6_round 64 = .ok (.aload_n 0, 1) := by decide +kernel
theorem dX6_round_65 : decode cX6_round 65 = .ok (.iload_n 2, 1) := by decide +kernel
theorem dX6_round_66 : decode cX6_round 66 = .ok (.iconst 5, 1) := by decide +kernel
theorem dX6_round_67 : decode cX6_round 67 = .ok (.aload_n 0, 1) := by decide +kernel
theorem dX6_round_68 : decode cX6_round 68 = .ok (.iload_n 2, 1) := by decide +kernel
theorem dX6_round_69 : decode cX6_round 69 = .ok (.iconst 5, 1) := by decide +kernel
theorem dX6_round_70 : decode cX6_round 70 = .ok (.invokevirtual 61, 3) := by decide +kernel
theorem dX6_round_73 : decode cX6_round 73 = .ok (.aload_n 0, 1) := by decide +kernel
theorem dX6_round_74 : decode cX6_round 74 = .ok (.getfield 28, 3) := by decide +kernel
theorem dX6_round_77 : decode cX6_round 77 = .ok (.iload_n 2, 1) := by decide +kernel
theorem dX6_round_78 : decode cX6_round 78 = .ok (.iaload, 1) := by decide +kernel
theorem dX6_round_79 : decode cX6_round 79 = .ok (.iadd, 1) := by decide +kernel
theorem dX6_round_80 : decode cX6_round 80 = .ok (.invokevirtual 88, 3) := by decide +kernel
theorem dX6_round_83 : decode cX6_round 83 = .ok (.pop, 1) := by decide +kernel
theorem dX6_round_84 : decode cX6_round 84 = .ok (.aload_n 0, 1) := by decide +kernel
theorem dX6_round_85 : decode cX6_round 85 = .ok (.dup, 1) := by decide +kernel
theorem dX6_round_86 : decode cX6_round 86 = .ok (.getfield 108, 3) := by decide +kernel
theorem dX6_round_89 : decode cX6_round 89 = .ok (.iconst 1, 1) := by decide +kernel
theorem dX6_round_90 : decode cX6_round 90 = .ok (.iload_n 2, 1) := by decide +kernel
theorem dX6_round_91 : decode cX6_round 91 = .ok (.ishl, 1) := by decide +kernel
theorem dX6_round_92 : decode cX6_round 92 = .ok (.ior, 1) := by decide +kernel
theorem dX6_round_93 : decode cX6_round 93 = .ok (.putfield 108, 3) := by decide +kernel
theorem dX6_round_96 : decode cX6_round 96 = .ok (.aload_n 0, 1) := by decide +kernel
theorem dX6_round_97 : decode cX6_round 97 = .ok (.dup, 1) := by decide +kernel
theorem dX6_round_98 : decode cX6_round 98 = .ok (.getfield 124, 3) := by decide +kernel
theorem dX6_round_101 : decode cX6_round 101 = .ok (.iconst 1, 1) := by decide +kernel
theorem dX6_round_102 : decode cX6_round 102 = .ok (.iadd, 1) := by decide +kernel
theorem dX6_round_103 : decode cX6_round 103 = .ok (.putfield 124, 3) := by decide +kernel
theorem dX6_round_106 : decode cX6_round 106 = .ok (.aload_n 0, 1) := by decide +kernel
theorem dX6_round_107 : decode cX6_round 107 = .ok (.dup, 1) := by decide +kernel
theorem dX6_round_108 : decode cX6_round 108 = .ok (.getfield 127, 3) := by decide +kernel
theorem dX6_round_111 : decode cX6_round 111 = .ok (.aload_n 0, 1) := by decide +kernel
theorem dX6_round_112 : decode cX6_round 112 = .ok (.getfield 28, 3) := by decide +kernel
theorem dX6_round_115 : decode cX6_round 115 = .ok (.iload_n 2, 1) := by decide +kernel
theorem dX6_round_116 : decode cX6_round 116 = .ok (.iaload, 1) := by decide +kernel
theorem dX6_round_117 : decode cX6_round 117 = .ok (.invokestatic 112, 3) := by decide +kernel
theorem dX6_round_120 : decode cX6_round 120 = .ok (.l2i, 1) := by decide +kernel
theorem dX6_round_121 : decode cX6_round 121 = .ok (.iadd, 1) := by decide +kernel
theorem dX6_round_122 : decode cX6_round 122 = .ok (.putfield 127, 3) := by decide +kernel
theorem dX6_round_125 : decode cX6_round 125 = .ok (.iconst 1, 1) := by decide +kernel
theorem dX6_round_126 : decode cX6_round 126 = .ok (.istore_n 1, 1) := by decide +kernel
theorem dX6_round_127 : decode cX6_round 127 = .ok (.iinc 2 1, 3) := by decide +kernel
theorem dX6_round_130 : decode cX6_round 130 = .ok (.goto (-97), 3) := by decide +kernel
theorem dX6_round_133 : decode cX6_round 133 = .ok (.iload_n 1, 1) := by decide +kernel
theorem dX6_round_134 : decode cX6_round 134 = .ok (.ireturn, 1) := by decide +kernel
theorem dX6_classOf_0 : decode cX6_classOf 0 = .ok (.iconst 0, 1) := by decide +kernel
theorem dX6_classOf_1 : decode cX6_classOf 1 = .ok (.istore_n 1, 1) := by decide +kernel
theorem dX6_classOf_2 : decode cX6_classOf 2 = .ok (.iload_n 0, 1) := by decide +kernel
theorem dX6_classOf_3 : decode cX6_classOf 3 = .ok (.istore_n 2, 1) := by decide +kernel
theorem dX6_classOf_4 : decode cX6_classOf 4 = .ok (.iload_n 2, 1) := by decide +kernel
theorem dX6_classOf_5 : decode cX6_classOf 5 = .ok (.ifCond .le 19, 3) := by decide +kernel
theorem dX6_classOf_8 : decode cX6_classOf 8 = .ok (.iload_n 1, 1) := by decide +kernel
theorem dX6_classOf_9 : decode cX6_classOf 9 = .ok (.bipush 6, 2) := by decide +kernel
theorem dX6_classOf_11 : decode cX6_classOf 11 = .ok (.if_icmp .ge 13, 3) := by decide +kernel
theorem dX6_classOf_14 : decode cX6_classOf 14 = .ok (.iinc 1 1, 3) := by decide +kernel
theorem dX6_classOf_17 : decode cX6_classOf 17 = .ok (.iload_n 2, 1) := by decide +kernel
theorem dX6_classOf_18 : decode cX6_classOf 18 = .ok (.iconst 2, 1) := by decide +kernel
theorem dX6_classOf_19 : decode cX6_classOf 19 = .ok (.idiv, 1) := by decide +kernel
theorem dX6_classOf_20 : decode cX6_classOf 20 = .ok (.istore_n 2, 1) := by decide +kernel
theorem dX6_classOf_21 : decode cX6_classOf 21 = .ok (.goto (-17), 3) := by decide +kernel
theorem dX6_classOf_24 : decode cX6_classOf 24 = .ok (.iload_n 1, 1) := by decide +kernel
theorem dX6_classOf_25 : decode cX6_classOf 25 = .ok (.ireturn, 1) := by decide +kernel
theorem dX6_tick_0 : decode cX6_tick 0 = .ok (.aload_n 0, 1) := by decide +kernel
theorem dX6_tick_1 : decode cX6_tick 1 = .ok (.getfield 9, 3) := by decide +kernel
theorem dX6_tick_4 : decode cX6_tick 4 = .ok (.iconst 1, 1) := by decide +kernel
theorem dX6_tick_5 : decode cX6_tick 5 = .ok (.dup2, 1) := by decide +kernel
theorem dX6_tick_6 : decode cX6_tick 6 = .ok (.iaload, 1) := by decide +kernel
theorem dX6_tick_7 : decode cX6_tick 7 = .ok (.aload_n 0, 1) := by decide +kernel
theorem dX6_tick_8 : decode cX6_tick 8 = .ok (.getfield 9, 3) := by decide +kernel
theorem dX6_tick_11 : decode cX6_tick 11 = .ok (.iconst 2, 1) := by decide +kernel
theorem dX6_tick_12 : decode cX6_tick 12 = .ok (.iaload, 1) := by decide +kernel
theorem dX6_tick_13 : decode cX6_tick 13 = .ok (.iadd, 1) := by decide +kernel
theorem dX6_tick_14 : decode cX6_tick 14 = .ok (.iastore, 1) := by decide +kernel
theorem dX6_tick_15 : decode cX6_tick 15 = .ok (.aload_n 0, 1) := by decide +kernel
theorem dX6_tick_16 : decode cX6_tick 16 = .ok (.iconst 0, 1) := by decide +kernel
theorem dX6_tick_17 : decode cX6_tick 17 = .ok (.putfield 108, 3) := by decide +kernel
theorem dX6_tick_20 : decode cX6_tick 20 = .ok (.aload_n 0, 1) := by decide +kernel
theorem dX6_tick_21 : decode cX6_tick 21 = .ok (.iconst 0, 1) := by decide +kernel
theorem dX6_tick_22 : decode cX6_tick 22 = .ok (.putfield 124, 3) := by decide +kernel
theorem dX6_tick_25 : decode cX6_tick 25 = .ok (.aload_n 0, 1) := by decide +kernel
theorem dX6_tick_26 : decode cX6_tick 26 = .ok (.iconst 0, 1) := by decide +kernel
theorem dX6_tick_27 : decode cX6_tick 27 = .ok (.putfield 127, 3) := by decide +kernel
theorem dX6_tick_30 : decode cX6_tick 30 = .ok (.iconst 0, 1) := by decide +kernel
theorem dX6_tick_31 : decode cX6_tick 31 = .ok (.istore_n 1, 1) := by decide +kernel
theorem dX6_tick_32 : decode cX6_tick 32 = .ok (.iload_n 1, 1) := by decide +kernel
theorem dX6_tick_33 : decode cX6_tick 33 = .ok (.aload_n 0, 1) := by decide +kernel
theorem dX6_tick_34 : decode cX6_tick 34 = .ok (.getfield 9, 3) := by decide +kernel
theorem dX6_tick_37 : decode cX6_tick 37 = .ok (.iconst 0, 1) := by decide +kernel
theorem dX6_tick_38 : decode cX6_tick 38 = .ok (.iaload, 1) := by decide +kernel
theorem dX6_tick_39 : decode cX6_tick 39 = .ok (.if_icmp .ge 16, 3) := by decide +kernel
theorem dX6_tick_42 : decode cX6_tick 42 = .ok (.aload_n 0, 1) := by decide +kernel
theorem dX6_tick_43 : decode cX6_tick 43 = .ok (.getfield 25, 3) := by decide +kernel
theorem dX6_tick_46 : decode cX6_tick 46 = .ok (.iload_n 1, 1) := by decide +kernel
theorem dX6_tick_47 : decode cX6_tick 47 = .ok (.iconst 0, 1) := by decide +kernel
theorem dX6_tick_48 : decode cX6_tick 48 = .ok (.iastore, 1) := by decide +kernel
theorem dX6_tick_49 : decode cX6_tick 49 = .ok (.iinc 1 1, 3) := by decide +kernel
theorem dX6_tick_52 : decode cX6_tick 52 = .ok (.goto (-20), 3) := by decide +kernel
theorem dX6_tick_55 : decode cX6_tick 55 = .ok (.iconst 0, 1) := by decide +kernel
theorem dX6_tick_56 : decode cX6_tick 56 = .ok (.istore_n 1, 1) := by decide +kernel
theorem dX6_tick_57 : decode cX6_tick 57 = .ok (.iconst 1, 1) := by decide +kernel
theorem dX6_tick_58 : decode cX6_tick 58 = .ok (.istore_n 2, 1) := by decide +kernel
theorem dX6_tick_59 : decode cX6_tick 59 = .ok (.iload_n 2, 1) := by decide +kernel
theorem dX6_tick_60 : decode cX6_tick 60 = .ok (.ifCond .eq 20, 3) := by decide +kernel
theorem dX6_tick_63 : decode cX6_tick 63 = .ok (.iload_n 1, 1) := by decide +kernel
theorem dX6_tick_64 : decode cX6_tick 64 = .ok (.bipush 40, 2) := by decide +kernel
theorem dX6_tick_66 : decode cX6_tick 66 = .ok (.if_icmp .ge 14, 3) := by decide +kernel
theorem dX6_tick_69 : decode cX6_tick 69 = .ok (.aload_n 0, 1) := by decide +kernel
theorem dX6_tick_70 : decode cX6_tick 70 = .ok (.invokevirtual 130, 3) := by decide +kernel
theorem dX6_tick_73 : decode cX6_tick 73 = .ok (.istore_n 2, 1) := by decide +kernel
theorem dX6_tick_74 : decode cX6_tick 74 = .ok (.iinc 1 1, 3) := by decide +kernel
theorem dX6_tick_77 : decode cX6_tick 77 = .ok (.goto (-18), 3) := by decide +kernel
theorem dX6_tick_80 : decode cX6_tick 80 = .ok (.aload_n 0, 1) := by decide +kernel
theorem dX6_tick_81 : decode cX6_tick 81 = .ok (.getfield 9, 3) := by decide +kernel
theorem dX6_tick_84 : decode cX6_tick 84 = .ok (.iconst 4, 1) := by decide +kernel
theorem dX6_tick_85 : decode cX6_tick 85 = .ok (.dup2, 1) := by decide +kernel
theorem dX6_tick_86 : decode cX6_tick 86 = .ok (.iaload, 1) := by decide +kernel
theorem dX6_tick_87 : decode cX6_tick 87 = .ok (.iload_n 2, 1) := by decide +kernel
theorem dX6_tick_88 : decode cX6_tick 88 = .ok (.ifCond .eq 7, 3) := by decide +kernel
theorem dX6_tick_91 : decode cX6_tick 91 = .ok (.iconst 1, 1) := by decide +kernel
theorem dX6_tick_92 : decode cX6_tick 92 = .ok (.goto 4, 3) := by decide +kernel
theorem dX6_tick_95 : decode cX6_tick 95 = .ok (.iconst 0, 1) := by decide +kernel
theorem dX6_tick_96 : decode cX6_tick 96 = .ok (.iadd, 1) := by decide +kernel
theorem dX6_tick_97 : decode cX6_tick 97 = .ok (.iastore, 1) := by decide +kernel
theorem dX6_tick_98 : decode cX6_tick 98 = .ok (.iconst 0, 1) := by decide +kernel
theorem dX6_tick_99 : decode cX6_tick 99 = .ok (.istore_n 3, 1) := by decide +kernel
theorem dX6_tick_100 : decode cX6_tick 100 = .ok (.iload_n 3, 1) := by decide +kernel
theorem dX6_tick_101 : decode cX6_tick 101 = .ok (.aload_n 0, 1) := by decide +kernel
theorem dX6_tick_102 : decode cX6_tick 102 = .ok (.getfield 9, 3) := by decide +kernel
theorem dX6_tick_105 : decode cX6_tick 105 = .ok (.iconst 0, 1) := by decide +kernel
theorem dX6_tick_106 : decode cX6_tick 106 = .ok (.iaload, 1) := by decide +kernel
theorem dX6_tick_107 : decode cX6_tick 107 = .ok (.if_icmp .ge 93, 3) := by decide +kernel
theorem dX6_tick_110 : decode cX6_tick 110 = .ok (.aload_n 0, 1) := by decide +kernel
theorem dX6_tick_111 : decode cX6_tick 111 = .ok (.getfield 108, 3) := by decide +kernel
theorem dX6_tick_114 : decode cX6_tick 114 = .ok (.iload_n 3, 1) := by decide +kernel
theorem dX6_tick_115 : decode cX6_tick 115 = .ok (.ishr, 1) := by decide +kernel
theorem dX6_tick_116 : decode cX6_tick 116 = .ok (.iconst 1, 1) := by decide +kernel
theorem dX6_tick_117 : decode cX6_tick 117 = .ok (.iand, 1) := by decide +kernel
theorem dX6_tick_118 : decode cX6_tick 118 = .ok (.iconst 1, 1) := by decide +kernel
theorem dX6_tick_119 : decode cX6_tick 119 = .ok (.if_icmp .ne 7, 3) := by decide +kernel
theorem dX6_tick_122 : decode cX6_tick 122 = .ok (.iconst 1, 1) := by decide +kernel
theorem dX6_tick_123 : decode cX6_tick 123 = .ok (.goto 4, 3) := by decide +kernel
theorem dX6_tick_126 : decode cX6_tick 126 = .ok (.iconst 0, 1) := by decide +kernel
theorem dX6_tick_127 : decode cX6_tick 127 = .ok (.istore 4, 2) := by decide +kernel
theorem dX6_tick_129 : decode cX6_tick 129 = .ok (.aload_n 0, 1) := by decide +kernel
theorem dX6_tick_130 : decode cX6_tick 130 = .ok (.iload_n 3, 1) := by decide +kernel
theorem dX6_tick_131 : decode cX6_tick 131 = .ok (.bipush 6, 2) := by decide +kernel
theorem dX6_tick_133 : decode cX6_tick 133 = .ok (.iload 4, 2) := by decide +kernel
theorem dX6_tick_135 : decode cX6_tick 135 = .ok (.ifCond .eq 7, 3) := by decide +kernel
theorem dX6_tick_138 : decode cX6_tick 138 = .ok (.iconst 0, 1) := by decide +kernel
theorem dX6_tick_139 : decode cX6_tick 139 = .ok (.goto 18, 3) := by decide +kernel
theorem dX6_tick_142 : decode cX6_tick 142 = .ok (.sipush 999, 3) := by decide +kernel
theorem dX6_tick_145 : decode cX6_tick 145 = .ok (.aload_n 0, 1) := by decide +kernel
theorem dX6_tick_146 : decode cX6_tick 146 = .ok (.iload_n 3, 1) := by decide +kernel
theorem dX6_tick_147 : decode cX6_tick 147 = .ok (.bipush 6, 2) := by decide +kernel
theorem dX6_tick_149 : decode cX6_tick 149 = .ok (.invokevirtual 61, 3) := by decide +kernel
theorem dX6_tick_152 : decode cX6_tick 152 = .ok (.iconst 1, 1) := by decide +kernel
theorem dX6_tick_153 : decode cX6_tick 153 = .ok (.iadd, 1) := by decide +kernel
theorem dX6_tick_154 : decode cX6_tick 154 = .ok (.invokestatic 65, 3) := by decide +kernel
theorem dX6_tick_157 : decode cX6_tick 157 = .ok (.invokevirtual 88, 3) := by decide +kernel
theorem dX6_tick_160 : decode cX6_tick 160 = .ok (.pop, 1) := by decide +kernel
theorem dX6_tick_161 : decode cX6_tick 161 = .ok (.aload_n 0, 1) := by decide +kernel
theorem dX6_tick_162 : decode cX6_tick 162 = .ok (.iload_n 3, 1) := by decide +kernel
theorem dX6_tick_163 : decode cX6_tick 163 = .ok (.iconst 4, 1) := by decide +kernel
theorem dX6_tick_164 : decode cX6_tick 164 = .ok (.iload 4, 2) := by decide +kernel
theorem dX6_tick_166 : decode cX6_tick 166 = .ok (.ifCond .eq 18, 3) := by decide +kernel
theorem dX6_tick_169 : decode cX6_tick 169 = .ok (.iconst 0, 1) := by decide +kernel
theorem dX6_tick_170 : decode cX6_tick 170 = .ok (.aload_n 0, 1) := by decide +kernel
theorem dX6_tick_171 : decode cX6_tick 171 = .ok (.iload_n 3, 1) := by decide +kernel
theorem dX6_tick_172 : decode cX6_tick 172 = .ok (.iconst 4, 1) := by decide +kernel
theorem dX6_tick_173 : decode cX6_tick 173 = .ok (.invokevirtual 61, 3) := by decide +kernel
theorem dX6_tick_176 : decode cX6_tick 176 = .ok (.iconst 1, 1) := by decide +kernel
theorem dX6_tick_177 : decode cX6_tick 177 = .ok (.isub, 1) := by decide +kernel
theorem dX6_tick_178 : decode cX6_tick 178 = .ok (.invokestatic 71, 3) := by decide +kernel
theorem dX6_tick_181 : decode cX6_tick 181 = .ok (.goto 9, 3) := by decide +kernel
theorem dX6_tick_184 : decode cX6_tick 184 = .ok (.aload_n 0, 1) := by decide +kernel
theorem dX6_tick_185 : decode cX6_tick 185 = .ok (.iload_n 3, 1) := by decide +kernel
theorem dX6_tick_186 : decode cX6_tick 186 = .ok (.iconst 4, 1) := by decide +kernel
theorem dX6_tick_187 : decode cX6_tick 187 = .ok (.invokevirtual 61, 3) := by decide +kernel
theorem dX6_tick_190 : decode cX6_tick 190 = .ok (.invokevirtual 88, 3) := by decide +kernel
theorem dX6_tick_193 : decode cX6_tick 193 = .ok (.pop, 1) := by decide +kernel
theorem dX6_tick_194 : decode cX6_tick 194 = .ok (.iinc 3 1, 3) := by decide +kernel
theorem dX6_tick_197 : decode cX6_tick 197 = .ok (.goto (-97), 3) := by decide +kernel
