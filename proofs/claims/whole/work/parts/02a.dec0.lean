theorem dX0_init_0 : decode cX0_init 0 = .ok (.aload_n 0, 1) := by decide +kernel
theorem dX0_init_1 : decode cX0_init 1 = .ok (.invokespecial 3, 3) := by decide +kernel
theorem dX0_init_4 : decode cX0_init 4 = .ok (.return_, 1) := by decide +kernel
theorem dX0_begin_0 : decode cX0_begin 0 = .ok (.aload_n 0, 1) := by decide +kernel
theorem dX0_begin_1 : decode cX0_begin 1 = .ok (.iload_n 1, 1) := by decide +kernel
theorem dX0_begin_2 : decode cX0_begin 2 = .ok (.putfield 9, 3) := by decide +kernel
theorem dX0_begin_5 : decode cX0_begin 5 = .ok (.aload_n 0, 1) := by decide +kernel
theorem dX0_begin_6 : decode cX0_begin 6 = .ok (.iload_n 2, 1) := by decide +kernel
theorem dX0_begin_7 : decode cX0_begin 7 = .ok (.putfield 15, 3) := by decide +kernel
theorem dX0_begin_10 : decode cX0_begin 10 = .ok (.aload_n 0, 1) := by decide +kernel
theorem dX0_begin_11 : decode cX0_begin 11 = .ok (.iload_n 3, 1) := by decide +kernel
theorem dX0_begin_12 : decode cX0_begin 12 = .ok (.putfield 18, 3) := by decide +kernel
theorem dX0_begin_15 : decode cX0_begin 15 = .ok (.aload_n 0, 1) := by decide +kernel
theorem dX0_begin_16 : decode cX0_begin 16 = .ok (.iload 4, 2) := by decide +kernel
theorem dX0_begin_18 : decode cX0_begin 18 = .ok (.putfield 21, 3) := by decide +kernel
theorem dX0_begin_21 : decode cX0_begin 21 = .ok (.aload_n 0, 1) := by decide +kernel
theorem dX0_begin_22 : decode cX0_begin 22 = .ok (.iconst 0, 1) := by decide +kernel
theorem dX0_begin_23 : decode cX0_begin 23 = .ok (.putfield 24, 3) := by decide +kernel
theorem dX0_begin_26 : decode cX0_begin 26 = .ok (.aload_n 0, 1) := by decide +kernel
theorem dX0_begin_27 : decode cX0_begin 27 = .ok (.iconst 0, 1) := by decide +kernel
theorem dX0_begin_28 : decode cX0_begin 28 = .ok (.putfield 27, 3) := by decide +kernel
theorem dX0_begin_31 : decode cX0_begin 31 = .ok (.aload_n 0, 1) := by decide +kernel
theorem dX0_begin_32 : decode cX0_begin 32 = .ok (.iconst 0, 1) := by decide +kernel
theorem dX0_begin_33 : decode cX0_begin 33 = .ok (.putfield 30, 3) := by decide +kernel
theorem dX0_begin_36 : decode cX0_begin 36 = .ok (.return_, 1) := by decide +kernel
theorem dX0_copyFrom_0 : decode cX0_copyFrom 0 = .ok (.aload_n 0, 1) := by decide +kernel
theorem dX0_copyFrom_1 : decode cX0_copyFrom 1 = .ok (.aload_n 1, 1) := by decide +kernel
theorem dX0_copyFrom_2 : decode cX0_copyFrom 2 = .ok (.getfield 9, 3) := by decide +kernel
theorem dX0_copyFrom_5 : decode cX0_copyFrom 5 = .ok (.putfield 9, 3) := by decide +kernel
theorem dX0_copyFrom_8 : decode cX0_copyFrom 8 = .ok (.aload_n 0, 1) := by decide +kernel
theorem dX0_copyFrom_9 : decode cX0_copyFrom 9 = .ok (.aload_n 1, 1) := by decide +kernel
theorem dX0_copyFrom_10 : decode cX0_copyFrom 10 = .ok (.getfield 15, 3) := by decide +kernel
theorem dX0_copyFrom_13 : decode cX0_copyFrom 13 = .ok (.putfield 15, 3) := by decide +kernel
theorem dX0_copyFrom_16 : decode cX0_copyFrom 16 = .ok (.aload_n 0, 1) := by decide +kernel
theorem dX0_copyFrom_17 : decode cX0_copyFrom 17 = .ok (.aload_n 1, 1) := by decide +kernel
theorem dX0_copyFrom_18 : decode cX0_copyFrom 18 = .ok (.getfield 18, 3) := by decide +kernel
theorem dX0_copyFrom_21 : decode cX0_copyFrom 21 = .ok (.putfield 18, 3) := by decide +kernel
theorem dX0_copyFrom_24 : decode cX0_copyFrom 24 = .ok (.aload_n 0, 1) := by decide +kernel
theorem dX0_copyFrom_25 : decode cX0_copyFrom 25 = .ok (.aload_n 1, 1) := by decide +kernel
theorem dX0_copyFrom_26 : decode cX0_copyFrom 26 = .ok (.getfield 21, 3) := by decide +kernel
theorem dX0_copyFrom_29 : decode cX0_copyFrom 29 = .ok (.putfield 21, 3) := by decide +kernel
theorem dX0_copyFrom_32 : decode cX0_copyFrom 32 = .ok (.aload_n 0, 1) := by decide +kernel
theorem dX0_copyFrom_33 : decode cX0_copyFrom 33 = .ok (.aload_n 1, 1) := by decide +kernel
theorem dX0_copyFrom_34 : decode cX0_copyFrom 34 = .ok (.getfield 24, 3) := by decide +kernel
theorem dX0_copyFrom_37 : decode cX0_copyFrom 37 = .ok (.putfield 24, 3) := by decide +kernel
theorem dX0_copyFrom_40 : decode cX0_copyFrom 40 = .ok (.aload_n 0, 1) := by decide +kernel
theorem dX0_copyFrom_41 : decode cX0_copyFrom 41 = .ok (.aload_n 1, 1) := by decide +kernel
theorem dX0_copyFrom_42 : decode cX0_copyFrom 42 = .ok (.getfield 27, 3) := by decide +kernel
theorem dX0_copyFrom_45 : decode cX0_copyFrom 45 = .ok (.putfield 27, 3) := by decide +kernel
theorem dX0_copyFrom_48 : decode cX0_copyFrom 48 = .ok (.aload_n 0, 1) := by decide +kernel
theorem dX0_copyFrom_49 : decode cX0_copyFrom 49 = .ok (.aload_n 1, 1) := by decide +kernel
theorem dX0_copyFrom_50 : decode cX0_copyFrom 50 = .ok (.getfield 30, 3) := by decide +kernel
theorem dX0_copyFrom_53 : decode cX0_copyFrom 53 = .ok (.putfield 30, 3) := by decide +kernel
theorem dX0_copyFrom_56 : decode cX0_copyFrom 56 = .ok (.return_, 1) := by decide +kernel
theorem dX0_plainHolds_0 : decode cX0_plainHolds 0 = .ok (.aload_n 0, 1) := by decide +kernel
theorem dX0_plainHolds_1 : decode cX0_plainHolds 1 = .ok (.getfield 15, 3) := by decide +kernel
theorem dX0_plainHolds_4 : decode cX0_plainHolds 4 = .ok (.bipush 50, 2) := by decide +kernel
theorem dX0_plainHolds_6 : decode cX0_plainHolds 6 = .ok (.iload_n 1, 1) := by decide +kernel
theorem dX0_plainHolds_7 : decode cX0_plainHolds 7 = .ok (.iconst 4, 1) := by decide +kernel
theorem dX0_plainHolds_8 : decode cX0_plainHolds 8 = .ok (.idiv, 1) := by decide +kernel
theorem dX0_plainHolds_9 : decode cX0_plainHolds 9 = .ok (.invokestatic 33, 3) := by decide +kernel
theorem dX0_plainHolds_12 : decode cX0_plainHolds 12 = .ok (.iadd, 1) := by decide +kernel
theorem dX0_plainHolds_13 : decode cX0_plainHolds 13 = .ok (.ireturn, 1) := by decide +kernel
theorem dX0_rustyHolds_0 : decode cX0_rustyHolds 0 = .ok (.aload_n 0, 1) := by decide +kernel
theorem dX0_rustyHolds_1 : decode cX0_rustyHolds 1 = .ok (.iload_n 1, 1) := by decide +kernel
theorem dX0_rustyHolds_2 : decode cX0_rustyHolds 2 = .ok (.invokevirtual 39, 3) := by decide +kernel
theorem dX0_rustyHolds_5 : decode cX0_rustyHolds 5 = .ok (.iload_n 1, 1) := by decide +kernel
theorem dX0_rustyHolds_6 : decode cX0_rustyHolds 6 = .ok (.iadd, 1) := by decide +kernel
theorem dX0_rustyHolds_7 : decode cX0_rustyHolds 7 = .ok (.ireturn, 1) := by decide +kernel
theorem dX0_oiledHolds_0 : decode cX0_oiledHolds 0 = .ok (.iconst 0, 1) := by decide +kernel
theorem dX0_oiledHolds_1 : decode cX0_oiledHolds 1 = .ok (.aload_n 0, 1) := by decide +kernel
theorem dX0_oiledHolds_2 : decode cX0_oiledHolds 2 = .ok (.iload_n 1, 1) := by decide +kernel
theorem dX0_oiledHolds_3 : decode cX0_oiledHolds 3 = .ok (.invokevirtual 39, 3) := by decide +kernel
theorem dX0_oiledHolds_6 : decode cX0_oiledHolds 6 = .ok (.iconst 2, 1) := by decide +kernel
theorem dX0_oiledHolds_7 : decode cX0_oiledHolds 7 = .ok (.idiv, 1) := by decide +kernel
theorem dX0_oiledHolds_8 : decode cX0_oiledHolds 8 = .ok (.aload_n 0, 1) := by decide +kernel
theorem dX0_oiledHolds_9 : decode cX0_oiledHolds 9 = .ok (.getfield 24, 3) := by decide +kernel
theorem dX0_oiledHolds_12 : decode cX0_oiledHolds 12 = .ok (.isub, 1) := by decide +kernel
theorem dX0_oiledHolds_13 : decode cX0_oiledHolds 13 = .ok (.invokestatic 43, 3) := by decide +kernel
theorem dX0_oiledHolds_16 : decode cX0_oiledHolds 16 = .ok (.ireturn, 1) := by decide +kernel
theorem dX0_rubsBy_0 : decode cX0_rubsBy 0 = .ok (.aload_n 0, 1) := by decide +kernel
theorem dX0_rubsBy_1 : decode cX0_rubsBy 1 = .ok (.getfield 9, 3) := by decide +kernel
theorem dX0_rubsBy_4 : decode cX0_rubsBy 4 = .ok (.tableswitch 56 1 5 #[36, 41, 56, 36, 41], 36) := by decide +kernel
theorem dX0_rubsBy_40 : decode cX0_rubsBy 40 = .ok (.aload_n 0, 1) := by decide +kernel
theorem dX0_rubsBy_41 : decode cX0_rubsBy 41 = .ok (.getfield 18, 3) := by decide +kernel
theorem dX0_rubsBy_44 : decode cX0_rubsBy 44 = .ok (.ireturn, 1) := by decide +kernel
theorem dX0_rubsBy_45 : decode cX0_rubsBy 45 = .ok (.sipush 999, 3) := by decide +kernel
theorem dX0_rubsBy_48 : decode cX0_rubsBy 48 = .ok (.aload_n 0, 1) := by decide +kernel
theorem dX0_rubsBy_49 : decode cX0_rubsBy 49 = .ok (.getfield 18, 3) := by decide +kernel
theorem dX0_rubsBy_52 : decode cX0_rubsBy 52 = .ok (.iconst 2, 1) := by decide +kernel
theorem dX0_rubsBy_53 : decode cX0_rubsBy 53 = .ok (.idiv, 1) := by decide +kernel
theorem dX0_rubsBy_54 : decode cX0_rubsBy 54 = .ok (.iload_n 1, 1) := by decide +kernel
theorem dX0_rubsBy_55 : decode cX0_rubsBy 55 = .ok (.iadd, 1) := by decide +kernel
theorem dX0_rubsBy_56 : decode cX0_rubsBy 56 = .ok (.invokestatic 33, 3) := by decide +kernel
theorem dX0_rubsBy_59 : decode cX0_rubsBy 59 = .ok (.ireturn, 1) := by decide +kernel
theorem dX0_rubsBy_60 : decode cX0_rubsBy 60 = .ok (.iconst 0, 1) := by decide +kernel
theorem dX0_rubsBy_61 : decode cX0_rubsBy 61 = .ok (.aload_n 0, 1) := by decide +kernel
theorem dX0_rubsBy_62 : decode cX0_rubsBy 62 = .ok (.getfield 18, 3) := by decide +kernel
theorem dX0_rubsBy_65 : decode cX0_rubsBy 65 = .ok (.iload_n 1, 1) := by decide +kernel
theorem dX0_rubsBy_66 : decode cX0_rubsBy 66 = .ok (.isub, 1) := by decide +kernel
theorem dX0_rubsBy_67 : decode cX0_rubsBy 67 = .ok (.invokestatic 43, 3) := by decide +kernel
theorem dX0_rubsBy_70 : decode cX0_rubsBy 70 = .ok (.ireturn, 1) := by decide +kernel
theorem dX0_startTick_0 : decode cX0_startTick 0 = .ok (.aload_n 0, 1) := by decide +kernel
theorem dX0_startTick_1 : decode cX0_startTick 1 = .ok (.iload_n 1, 1) := by decide +kernel
theorem dX0_startTick_2 : decode cX0_startTick 2 = .ok (.putfield 46, 3) := by decide +kernel
theorem dX0_startTick_5 : decode cX0_startTick 5 = .ok (.aload_n 0, 1) := by decide +kernel
theorem dX0_startTick_6 : decode cX0_startTick 6 = .ok (.iconst 0, 1) := by decide +kernel
theorem dX0_startTick_7 : decode cX0_startTick 7 = .ok (.putfield 49, 3) := by decide +kernel
theorem dX0_startTick_10 : decode cX0_startTick 10 = .ok (.aload_n 0, 1) := by decide +kernel
theorem dX0_startTick_11 : decode cX0_startTick 11 = .ok (.iconst 0, 1) := by decide +kernel
theorem dX0_startTick_12 : decode cX0_startTick 12 = .ok (.putfield 52, 3) := by decide +kernel
theorem dX0_startTick_15 : decode cX0_startTick 15 = .ok (.return_, 1) := by decide +kernel
theorem dX0_move_0 : decode cX0_move 0 = .ok (.aload_n 0, 1) := by decide +kernel
theorem dX0_move_1 : decode cX0_move 1 = .ok (.getfield 56, 3) := by decide +kernel
theorem dX0_move_4 : decode cX0_move 4 = .ok (.i2l, 1) := by decide +kernel
theorem dX0_move_5 : decode cX0_move 5 = .ok (.invokestatic 59, 3) := by decide +kernel
theorem dX0_move_8 : decode cX0_move 8 = .ok (.lstore_n 2, 1) := by decide +kernel
theorem dX0_move_9 : decode cX0_move 9 = .ok (.aload_n 0, 1) := by decide +kernel
theorem dX0_move_10 : decode cX0_move 10 = .ok (.aload_n 0, 1) := by decide +kernel
theorem dX0_move_11 : decode cX0_move 11 = .ok (.getfield 49, 3) := by decide +kernel
theorem dX0_move_14 : decode cX0_move 14 = .ok (.invokevirtual 63, 3) := by decide +kernel
theorem dX0_move_17 : decode cX0_move 17 = .ok (.istore 4, 2) := by decide +kernel
theorem dX0_move_19 : decode cX0_move 19 = .ok (.lload_n 2, 1) := by decide +kernel
theorem dX0_move_20 : decode cX0_move 20 = .ok (.aload_n 0, 1) := by decide +kernel
theorem dX0_move_21 : decode cX0_move 21 = .ok (.getfield 52, 3) := by decide +kernel
theorem dX0_move_24 : decode cX0_move 24 = .ok (.ifCond .eq 8, 3) := by decide +kernel
theorem dX0_move_27 : decode cX0_move 27 = .ok (.iload 4, 2) := by decide +kernel
theorem dX0_move_29 : decode cX0_move 29 = .ok (.goto 7, 3) := by decide +kernel
theorem dX0_move_32 : decode cX0_move 32 = .ok (.aload_n 0, 1) := by decide +kernel
theorem dX0_move_33 : decode cX0_move 33 = .ok (.getfield 46, 3) := by decide +kernel
theorem dX0_move_36 : decode cX0_move 36 = .ok (.i2l, 1) := by decide +kernel
theorem dX0_move_37 : decode cX0_move 37 = .ok (.lcmp, 1) := by decide +kernel
theorem dX0_move_38 : decode cX0_move 38 = .ok (.ifCond .gt 9, 3) := by decide +kernel
theorem dX0_move_41 : decode cX0_move 41 = .ok (.aload_n 0, 1) := by decide +kernel
theorem dX0_move_42 : decode cX0_move 42 = .ok (.iconst 0, 1) := by decide +kernel
theorem dX0_move_43 : decode cX0_move 43 = .ok (.putfield 49, 3) := by decide +kernel
theorem dX0_move_46 : decode cX0_move 46 = .ok (.return_, 1) := by decide +kernel
theorem dX0_move_47 : decode cX0_move 47 = .ok (.lload_n 2, 1) := by decide +kernel
theorem dX0_move_48 : decode cX0_move 48 = .ok (.iload 4, 2) := by decide +kernel
theorem dX0_move_50 : decode cX0_move 50 = .ok (.i2l, 1) := by decide +kernel
theorem dX0_move_51 : decode cX0_move 51 = .ok (.lsub, 1) := by decide +kernel
theorem dX0_move_52 : decode cX0_move 52 = .ok (.iconst 1, 1) := by decide +kernel
theorem dX0_move_53 : decode cX0_move 53 = .ok (.iload_n 1, 1) := by decide +kernel
theorem dX0_move_54 : decode cX0_move 54 = .ok (.invokestatic 43, 3) := by decide +kernel
theorem dX0_move_57 : decode cX0_move 57 = .ok (.i2l, 1) := by decide +kernel
theorem dX0_move_58 : decode cX0_move 58 = .ok (.ldiv, 1) := by decide +kernel
theorem dX0_move_59 : decode cX0_move 59 = .ok (.lstore 5, 2) := by decide +kernel
theorem dX0_move_61 : decode cX0_move 61 = .ok (.aload_n 0, 1) := by decide +kernel
theorem dX0_move_62 : decode cX0_move 62 = .ok (.lconst 1, 1) := by decide +kernel
theorem dX0_move_63 : decode cX0_move 63 = .ok (.ldc2_w 66, 3) := by decide +kernel
theorem dX0_move_66 : decode cX0_move 66 = .ok (.lload 5, 2) := by decide +kernel
theorem dX0_move_68 : decode cX0_move 68 = .ok (.invokestatic 68, 3) := by decide +kernel
theorem dX0_move_71 : decode cX0_move 71 = .ok (.invokestatic 71, 3) := by decide +kernel
theorem dX0_move_74 : decode cX0_move 74 = .ok (.l2i, 1) := by decide +kernel
theorem dX0_move_75 : decode cX0_move 75 = .ok (.putfield 49, 3) := by decide +kernel
theorem dX0_move_78 : decode cX0_move 78 = .ok (.aload_n 0, 1) := by decide +kernel
theorem dX0_move_79 : decode cX0_move 79 = .ok (.dup, 1) := by decide +kernel
theorem dX0_move_80 : decode cX0_move 80 = .ok (.getfield 27, 3) := by decide +kernel
theorem dX0_move_83 : decode cX0_move 83 = .ok (.aload_n 0, 1) := by decide +kernel
theorem dX0_move_84 : decode cX0_move 84 = .ok (.getfield 56, 3) := by decide +kernel
theorem dX0_move_87 : decode cX0_move 87 = .ok (.ifCond .le 10, 3) := by decide +kernel
theorem dX0_move_90 : decode cX0_move 90 = .ok (.aload_n 0, 1) := by decide +kernel
theorem dX0_move_91 : decode cX0_move 91 = .ok (.getfield 49, 3) := by decide +kernel
theorem dX0_move_94 : decode cX0_move 94 = .ok (.goto 8, 3) := by decide +kernel
theorem dX0_move_97 : decode cX0_move 97 = .ok (.aload_n 0, 1) := by decide +kernel
theorem dX0_move_98 : decode cX0_move 98 = .ok (.getfield 49, 3) := by decide +kernel
theorem dX0_move_101 : decode cX0_move 101 = .ok (.ineg, 1) := by decide +kernel
theorem dX0_move_102 : decode cX0_move 102 = .ok (.iadd, 1) := by decide +kernel
theorem dX0_move_103 : decode cX0_move 103 = .ok (.putfield 27, 3) := by decide +kernel
theorem dX0_move_106 : decode cX0_move 106 = .ok (.aload_n 0, 1) := by decide +kernel
theorem dX0_move_107 : decode cX0_move 107 = .ok (.iconst 1, 1) := by decide +kernel
theorem dX0_move_108 : decode cX0_move 108 = .ok (.putfield 52, 3) := by decide +kernel
theorem dX0_move_111 : decode cX0_move 111 = .ok (.return_, 1) := by decide +kernel
theorem dX0_endTick_0 : decode cX0_endTick 0 = .ok (.aload_n 0, 1) := by decide +kernel
theorem dX0_endTick_1 : decode cX0_endTick 1 = .ok (.getfield 52, 3) := by decide +kernel
theorem dX0_endTick_4 : decode cX0_endTick 4 = .ok (.ifCond .eq 25, 3) := by decide +kernel
theorem dX0_endTick_7 : decode cX0_endTick 7 = .ok (.aload_n 0, 1) := by decide +kernel
theorem dX0_endTick_8 : decode cX0_endTick 8 = .ok (.iconst 0, 1) := by decide +kernel
theorem dX0_endTick_9 : decode cX0_endTick 9 = .ok (.putfield 30, 3) := by decide +kernel
theorem dX0_endTick_12 : decode cX0_endTick 12 = .ok (.aload_n 0, 1) := by decide +kernel
theorem dX0_endTick_13 : decode cX0_endTick 13 = .ok (.iconst 0, 1) := by decide +kernel
theorem dX0_endTick_14 : decode cX0_endTick 14 = .ok (.aload_n 0, 1) := by decide +kernel
theorem dX0_endTick_15 : decode cX0_endTick 15 = .ok (.getfield 24, 3) := by decide +kernel
theorem dX0_endTick_18 : decode cX0_endTick 18 = .ok (.iconst 1, 1) := by decide +kernel
theorem dX0_endTick_19 : decode cX0_endTick 19 = .ok (.isub, 1) := by decide +kernel
theorem dX0_endTick_20 : decode cX0_endTick 20 = .ok (.invokestatic 43, 3) := by decide +kernel
theorem dX0_endTick_23 : decode cX0_endTick 23 = .ok (.putfield 24, 3) := by decide +kernel
theorem dX0_endTick_26 : decode cX0_endTick 26 = .ok (.goto 19, 3) := by decide +kernel
theorem dX0_endTick_29 : decode cX0_endTick 29 = .ok (.aload_n 0, 1) := by decide +kernel
theorem dX0_endTick_30 : decode cX0_endTick 30 = .ok (.sipush 999, 3) := by decide +kernel
theorem dX0_endTick_33 : decode cX0_endTick 33 = .ok (.aload_n 0, 1) := by decide +kernel
theorem dX0_endTick_34 : decode cX0_endTick 34 = .ok (.getfield 30, 3) := by decide +kernel
theorem dX0_endTick_37 : decode cX0_endTick 37 = .ok (.iconst 1, 1) := by decide +kernel
theorem dX0_endTick_38 : decode cX0_endTick 38 = .ok (.iadd, 1) := by decide +kernel
theorem dX0_endTick_39 : decode cX0_endTick 39 = .ok (.invokestatic 33, 3) := by decide +kernel
theorem dX0_endTick_42 : decode cX0_endTick 42 = .ok (.putfield 30, 3) := by decide +kernel
theorem dX0_endTick_45 : decode cX0_endTick 45 = .ok (.return_, 1) := by decide +kernel
theorem dX1_init_0 : decode cX1_init 0 = .ok (.aload_n 0, 1) := by decide +kernel
theorem dX1_init_1 : decode cX1_init 1 = .ok (.invokespecial 3, 3) := by decide +kernel
theorem dX1_init_4 : decode cX1_init 4 = .ok (.aload_n 0, 1) := by decide +kernel
theorem dX1_init_5 : decode cX1_init 5 = .ok (.bipush 100, 2) := by decide +kernel
theorem dX1_init_7 : decode cX1_init 7 = .ok (.newarray .int, 2) := by decide +kernel
theorem dX1_init_9 : decode cX1_init 9 = .ok (.putfield 9, 3) := by decide +kernel
theorem dX1_init_12 : decode cX1_init 12 = .ok (.aload_n 0, 1) := by decide +kernel
theorem dX1_init_13 : decode cX1_init 13 = .ok (.bipush 100, 2) := by decide +kernel
theorem dX1_init_15 : decode cX1_init 15 = .ok (.newarray .int, 2) := by decide +kernel
theorem dX1_init_17 : decode cX1_init 17 = .ok (.putfield 15, 3) := by decide +kernel
theorem dX1_init_20 : decode cX1_init 20 = .ok (.aload_n 0, 1) := by decide +kernel
theorem dX1_init_21 : decode cX1_init 21 = .ok (.bipush 100, 2) := by decide +kernel
theorem dX1_init_23 : decode cX1_init 23 = .ok (.newarray .int, 2) := by decide +kernel
theorem dX1_init_25 : decode cX1_init 25 = .ok (.putfield 18, 3) := by decide +kernel
theorem dX1_init_28 : decode cX1_init 28 = .ok (.aload_n 0, 1) := by decide +kernel
theorem dX1_init_29 : decode cX1_init 29 = .ok (.bipush 7, 2) := by decide +kernel
theorem dX1_init_31 : decode cX1_init 31 = .ok (.newarray .int, 2) := by decide +kernel
theorem dX1_init_33 : decode cX1_init 33 = .ok (.putfield 21, 3) := by decide +kernel
theorem dX1_init_36 : decode cX1_init 36 = .ok (.aload_n 0, 1) := by decide +kernel
theorem dX1_init_37 : decode cX1_init 37 = .ok (.iconst 0, 1) := by decide +kernel
theorem dX1_init_38 : decode cX1_init 38 = .ok (.putfield 24, 3) := by decide +kernel
theorem dX1_init_41 : decode cX1_init 41 = .ok (.aload_n 0, 1) := by decide +kernel
theorem dX1_init_42 : decode cX1_init 42 = .ok (.iconst 0, 1) := by decide +kernel
theorem dX1_init_43 : decode cX1_init 43 = .ok (.putfield 28, 3) := by decide +kernel
theorem dX1_init_46 : decode cX1_init 46 = .ok (.aload_n 0, 1) := by decide +kernel
theorem dX1_init_47 : decode cX1_init 47 = .ok (.iconst 0, 1) := by decide +kernel
theorem dX1_init_48 : decode cX1_init 48 = .ok (.putfield 31, 3) := by decide +kernel
theorem dX1_init_51 : decode cX1_init 51 = .ok (.aload_n 0, 1) := by decide +kernel
theorem dX1_init_52 : decode cX1_init 52 = .ok (.iconst 0, 1) := by decide +kernel
theorem dX1_init_53 : decode cX1_init 53 = .ok (.putfield 34, 3) := by decide +kernel
theorem dX1_init_56 : decode cX1_init 56 = .ok (.return_, 1) := by decide +kernel
theorem dX1_copyFrom_0 : decode cX1_copyFrom 0 = .ok (.aload_n 1, 1) := by decide +kernel
theorem dX1_copyFrom_1 : decode cX1_copyFrom 1 = .ok (.getfield 9, 3) := by decide +kernel
theorem dX1_copyFrom_4 : decode cX1_copyFrom 4 = .ok (.iconst 0, 1) := by decide +kernel
theorem dX1_copyFrom_5 : decode cX1_copyFrom 5 = .ok (.aload_n 0, 1) := by decide +kernel
theorem dX1_copyFrom_6 : decode cX1_copyFrom 6 = .ok (.getfield 9, 3) := by decide +kernel
theorem dX1_copyFrom_9 : decode cX1_copyFrom 9 = .ok (.iconst 0, 1) := by decide +kernel
theorem dX1_copyFrom_10 : decode cX1_copyFrom 10 = .ok (.bipush 100, 2) := by decide +kernel
theorem dX1_copyFrom_12 : decode cX1_copyFrom 12 = .ok (.invokestatic 37, 3) := by decide +kernel
theorem dX1_copyFrom_15 : decode cX1_copyFrom 15 = .ok (.aload_n 1, 1) := by decide +kernel
theorem dX1_copyFrom_16 : decode cX1_copyFrom 16 = .ok (.getfield 15, 3) := by decide +kernel
theorem dX1_copyFrom_19 : decode cX1_copyFrom 19 = .ok (.iconst 0, 1) := by decide +kernel
theorem dX1_copyFrom_20 : decode cX1_copyFrom 20 = .ok (.aload_n 0, 1) := by decide +kernel
theorem dX1_copyFrom_21 : decode cX1_copyFrom 21 = .ok (.getfield 15, 3) := by decide +kernel
theorem dX1_copyFrom_24 : decode cX1_copyFrom 24 = .ok (.iconst 0, 1) := by decide +kernel
theorem dX1_copyFrom_25 : decode cX1_copyFrom 25 = .ok (.bipush 100, 2) := by decide +kernel
theorem dX1_copyFrom_27 : decode cX1_copyFrom 27 = .ok (.invokestatic 37, 3) := by decide +kernel
theorem dX1_copyFrom_30 : decode cX1_copyFrom 30 = .ok (.aload_n 1, 1) := by decide +kernel
theorem dX1_copyFrom_31 : decode cX1_copyFrom 31 = .ok (.getfield 18, 3) := by decide +kernel
theorem dX1_copyFrom_34 : decode cX1_copyFrom 34 = .ok (.iconst 0, 1) := by decide +kernel
theorem dX1_copyFrom_35 : decode cX1_copyFrom 35 = .ok (.aload_n 0, 1) := by decide +kernel
theorem dX1_copyFrom_36 : decode cX1_copyFrom 36 = .ok (.getfield 18, 3) := by decide +kernel
theorem dX1_copyFrom_39 : decode cX1_copyFrom 39 = .ok (.iconst 0, 1) := by decide +kernel
theorem dX1_copyFrom_40 : decode cX1_copyFrom 40 = .ok (.bipush 100, 2) := by decide +kernel
theorem dX1_copyFrom_42 : decode cX1_copyFrom 42 = .ok (.invokestatic 37, 3) := by decide +kernel
theorem dX1_copyFrom_45 : decode cX1_copyFrom 45 = .ok (.aload_n 1, 1) := by decide +kernel
theorem dX1_copyFrom_46 : decode cX1_copyFrom 46 = .ok (.getfield 21, 3) := by decide +kernel
theorem dX1_copyFrom_49 : decode cX1_copyFrom 49 = .ok (.iconst 0, 1) := by decide +kernel
theorem dX1_copyFrom_50 : decode cX1_copyFrom 50 = .ok (.aload_n 0, 1) := by decide +kernel
theorem dX1_copyFrom_51 : decode cX1_copyFrom 51 = .ok (.getfield 21, 3) := by decide +kernel
theorem dX1_copyFrom_54 : decode cX1_copyFrom 54 = .ok (.iconst 0, 1) := by decide +kernel
theorem dX1_copyFrom_55 : decode cX1_copyFrom 55 = .ok (.bipush 7, 2) := by decide +kernel
theorem dX1_copyFrom_57 : decode cX1_copyFrom 57 = .ok (.invokestatic 37, 3) := by decide +kernel
theorem dX1_copyFrom_60 : decode cX1_copyFrom 60 = .ok (.aload_n 0, 1) := by decide +kernel
theorem dX1_copyFrom_61 : decode cX1_copyFrom 61 = .ok (.aload_n 1, 1) := by decide +kernel
theorem dX1_copyFrom_62 : decode cX1_copyFrom 62 = .ok (.getfield 24, 3) := by decide +kernel
theorem dX1_copyFrom_65 : decode cX1_copyFrom 65 = .ok (.putfield 24, 3) := by decide +kernel
theorem dX1_copyFrom_68 : decode cX1_copyFrom 68 = .ok (.aload_n 0, 1) := by decide +kernel
theorem dX1_copyFrom_69 : decode cX1_copyFrom 69 = .ok (.aload_n 1, 1) := by decide +kernel
theorem dX1_copyFrom_70 : decode cX1_copyFrom 70 = .ok (.getfield 28, 3) := by decide +kernel
theorem dX1_copyFrom_73 : decode cX1_copyFrom 73 = .ok (.putfield 28, 3) := by decide +kernel
theorem dX1_copyFrom_76 : decode cX1_copyFrom 76 = .ok (.aload_n 0, 1) := by decide +kernel
theorem dX1_copyFrom_77 : decode cX1_copyFrom 77 = .ok (.aload_n 1, 1) := by decide +kernel
theorem dX1_copyFrom_78 : decode cX1_copyFrom 78 = .ok (.getfield 31, 3) := by decide +kernel
theorem dX1_copyFrom_81 : decode cX1_copyFrom 81 = .ok (.putfield 31, 3) := by decide +kernel
theorem dX1_copyFrom_84 : decode cX1_copyFrom 84 = .ok (.aload_n 0, 1) := by decide +kernel
theorem dX1_copyFrom_85 : decode cX1_copyFrom 85 = .ok (.aload_n 1, 1) := by decide +kernel
theorem dX1_copyFrom_86 : decode cX1_copyFrom 86 = .ok (.getfield 34, 3) := by decide +kernel
theorem dX1_copyFrom_89 : decode cX1_copyFrom 89 = .ok (.putfield 34, 3) := by decide +kernel
theorem dX1_copyFrom_92 : decode cX1_copyFrom 92 = .ok (.return_, 1) := by decide +kernel
theorem dX1_slot_0 : decode cX1_slot 0 = .ok (.aload_n 0, 1) := by decide +kernel
theorem dX1_slot_1 : decode cX1_slot 1 = .ok (.getfield 28, 3) := by decide +kernel
theorem dX1_slot_4 : decode cX1_slot 4 = .ok (.iconst 1, 1) := by decide +kernel
theorem dX1_slot_5 : decode cX1_slot 5 = .ok (.isub, 1) := by decide +kernel
theorem dX1_slot_6 : decode cX1_slot 6 = .ok (.iload_n 1, 1) := by decide +kernel
theorem dX1_slot_7 : decode cX1_slot 7 = .ok (.isub, 1) := by decide +kernel
theorem dX1_slot_8 : decode cX1_slot 8 = .ok (.bipush 100, 2) := by decide +kernel
theorem dX1_slot_10 : decode cX1_slot 10 = .ok (.invokestatic 43, 3) := by decide +kernel
theorem dX1_slot_13 : decode cX1_slot 13 = .ok (.ireturn, 1) := by decide +kernel
theorem dX1_enter_0 : decode cX1_enter 0 = .ok (.aload_n 0, 1) := by decide +kernel
theorem dX1_enter_1 : decode cX1_enter 1 = .ok (.getfield 9, 3) := by decide +kernel
theorem dX1_enter_4 : decode cX1_enter 4 = .ok (.aload_n 0, 1) := by decide +kernel
theorem dX1_enter_5 : decode cX1_enter 5 = .ok (.getfield 28, 3) := by decide +kernel
theorem dX1_enter_8 : decode cX1_enter 8 = .ok (.aload_n 1, 1) := by decide +kernel
theorem dX1_enter_9 : decode cX1_enter 9 = .ok (.getfield 49, 3) := by decide +kernel
theorem dX1_enter_12 : decode cX1_enter 12 = .ok (.iastore, 1) := by decide +kernel
theorem dX1_enter_13 : decode cX1_enter 13 = .ok (.aload_n 0, 1) := by decide +kernel
theorem dX1_enter_14 : decode cX1_enter 14 = .ok (.getfield 15, 3) := by decide +kernel
theorem dX1_enter_17 : decode cX1_enter 17 = .ok (.aload_n 0, 1) := by decide +kernel
theorem dX1_enter_18 : decode cX1_enter 18 = .ok (.getfield 28, 3) := by decide +kernel
theorem dX1_enter_21 : decode cX1_enter 21 = .ok (.aload_n 1, 1) := by decide +kernel
theorem dX1_enter_22 : decode cX1_enter 22 = .ok (.getfield 54, 3) := by decide +kernel
theorem dX1_enter_25 : decode cX1_enter 25 = .ok (.iastore, 1) := by decide +kernel
theorem dX1_enter_26 : decode cX1_enter 26 = .ok (.aload_n 0, 1) := by decide +kernel
theorem dX1_enter_27 : decode cX1_enter 27 = .ok (.getfield 18, 3) := by decide +kernel
theorem dX1_enter_30 : decode cX1_enter 30 = .ok (.aload_n 0, 1) := by decide +kernel
theorem dX1_enter_31 : decode cX1_enter 31 = .ok (.getfield 28, 3) := by decide +kernel
theorem dX1_enter_34 : decode cX1_enter 34 = .ok (.aload_n 1, 1) := by decide +kernel
theorem dX1_enter_35 : decode cX1_enter 35 = .ok (.getfield 57, 3) := by decide +kernel
theorem dX1_enter_38 : decode cX1_enter 38 = .ok (.iastore, 1) := by decide +kernel
theorem dX1_enter_39 : decode cX1_enter 39 = .ok (.aload_n 0, 1) := by decide +kernel
theorem dX1_enter_40 : decode cX1_enter 40 = .ok (.aload_n 0, 1) := by decide +kernel
theorem dX1_enter_41 : decode cX1_enter 41 = .ok (.getfield 28, 3) := by decide +kernel
theorem dX1_enter_44 : decode cX1_enter 44 = .ok (.iconst 1, 1) := by decide +kernel
theorem dX1_enter_45 : decode cX1_enter 45 = .ok (.iadd, 1) := by decide +kernel
theorem dX1_enter_46 : decode cX1_enter 46 = .ok (.bipush 100, 2) := by decide +kernel
theorem dX1_enter_48 : decode cX1_enter 48 = .ok (.irem, 1) := by decide +kernel
theorem dX1_enter_49 : decode cX1_enter 49 = .ok (.putfield 28, 3) := by decide +kernel
theorem dX1_enter_52 : decode cX1_enter 52 = .ok (.aload_n 0, 1) := by decide +kernel
theorem dX1_enter_53 : decode cX1_enter 53 = .ok (.bipush 100, 2) := by decide +kernel
theorem dX1_enter_55 : decode cX1_enter 55 = .ok (.aload_n 0, 1) := by decide +kernel
theorem dX1_enter_56 : decode cX1_enter 56 = .ok (.getfield 24, 3) := by decide +kernel
theorem dX1_enter_59 : decode cX1_enter 59 = .ok (.iconst 1, 1) := by decide +kernel
theorem dX1_enter_60 : decode cX1_enter 60 = .ok (.iadd, 1) := by decide +kernel
theorem dX1_enter_61 : decode cX1_enter 61 = .ok (.invokestatic 60, 3) := by decide +kernel
theorem dX1_enter_64 : decode cX1_enter 64 = .ok (.putfield 24, 3) := by decide +kernel
theorem dX1_enter_67 : decode cX1_enter 67 = .ok (.aload_n 0, 1) := by decide +kernel
theorem dX1_enter_68 : decode cX1_enter 68 = .ok (.getfield 21, 3) := by decide +kernel
theorem dX1_enter_71 : decode cX1_enter 71 = .ok (.aload_n 1, 1) := by decide +kernel
theorem dX1_enter_72 : decode cX1_enter 72 = .ok (.getfield 49, 3) := by decide +kernel
theorem dX1_enter_75 : decode cX1_enter 75 = .ok (.invokestatic 63, 3) := by decide +kernel
theorem dX1_enter_78 : decode cX1_enter 78 = .ok (.dup2, 1) := by decide +kernel
theorem dX1_enter_79 : decode cX1_enter 79 = .ok (.iaload, 1) := by decide +kernel
theorem dX1_enter_80 : decode cX1_enter 80 = .ok (.iconst 1, 1) := by decide +kernel
theorem dX1_enter_81 : decode cX1_enter 81 = .ok (.iadd, 1) := by decide +kernel
theorem dX1_enter_82 : decode cX1_enter 82 = .ok (.iastore, 1) := by decide +kernel
theorem dX1_enter_83 : decode cX1_enter 83 = .ok (.aload_n 0, 1) := by decide +kernel
theorem dX1_enter_84 : decode cX1_enter 84 = .ok (.dup, 1) := by decide +kernel
theorem dX1_enter_85 : decode cX1_enter 85 = .ok (.getfield 31, 3) := by decide +kernel
theorem dX1_enter_88 : decode cX1_enter 88 = .ok (.iconst 1, 1) := by decide +kernel
theorem dX1_enter_89 : decode cX1_enter 89 = .ok (.iadd, 1) := by decide +kernel
theorem dX1_enter_90 : decode cX1_enter 90 = .ok (.putfield 31, 3) := by decide +kernel
theorem dX1_enter_93 : decode cX1_enter 93 = .ok (.aload_n 0, 1) := by decide +kernel
theorem dX1_enter_94 : decode cX1_enter 94 = .ok (.dup, 1) := by decide +kernel
theorem dX1_enter_95 : decode cX1_enter 95 = .ok (.getfield 34, 3) := by decide +kernel
theorem dX1_enter_98 : decode cX1_enter 98 = .ok (.aload_n 1, 1) := by decide +kernel
theorem dX1_enter_99 : decode cX1_enter 99 = .ok (.getfield 67, 3) := by decide +kernel
theorem dX1_enter_102 : decode cX1_enter 102 = .ok (.ifCond .eq 7, 3) := by decide +kernel
theorem dX1_enter_105 : decode cX1_enter 105 = .ok (.iconst 1, 1) := by decide +kernel
theorem dX1_enter_106 : decode cX1_enter 106 = .ok (.goto 4, 3) := by decide +kernel
theorem dX1_enter_109 : decode cX1_enter 109 = .ok (.iconst 0, 1) := by decide +kernel
theorem dX1_enter_110 : decode cX1_enter 110 = .ok (.iadd, 1) := by decide +kernel
theorem dX1_enter_111 : decode cX1_enter 111 = .ok (.putfield 34, 3) := by decide +kernel
theorem dX1_enter_114 : decode cX1_enter 114 = .ok (.return_, 1) := by decide +kernel
theorem dX1_classOf_0 : decode cX1_classOf 0 = .ok (.iconst 0, 1) := by decide +kernel
theorem dX1_classOf_1 : decode cX1_classOf 1 = .ok (.istore_n 1, 1) := by decide +kernel
theorem dX1_classOf_2 : decode cX1_classOf 2 = .ok (.iload_n 1, 1) := by decide +kernel
theorem dX1_classOf_3 : decode cX1_classOf 3 = .ok (.bipush 6, 2) := by decide +kernel
theorem dX1_classOf_5 : decode cX1_classOf 5 = .ok (.if_icmp .ge 16, 3) := by decide +kernel
theorem dX1_classOf_8 : decode cX1_classOf 8 = .ok (.iload_n 0, 1) := by decide +kernel
theorem dX1_classOf_9 : decode cX1_classOf 9 = .ok (.iconst 1, 1) := by decide +kernel
theorem dX1_classOf_10 : decode cX1_classOf 10 = .ok (.iload_n 1, 1) := by decide +kernel
theorem dX1_classOf_11 : decode cX1_classOf 11 = .ok (.ishl, 1) := by decide +kernel
theorem dX1_classOf_12 : decode cX1_classOf 12 = .ok (.if_icmp .lt 9, 3) := by decide +kernel
theorem dX1_classOf_15 : decode cX1_classOf 15 = .ok (.iinc 1 1, 3) := by decide +kernel
theorem dX1_classOf_18 : decode cX1_classOf 18 = .ok (.goto (-16), 3) := by decide +kernel
theorem dX1_classOf_21 : decode cX1_classOf 21 = .ok (.iload_n 1, 1) := by decide +kernel
theorem dX1_classOf_22 : decode cX1_classOf 22 = .ok (.ireturn, 1) := by decide +kernel
theorem dX2_init_0 : decode cX2_init 0 = .ok (.aload_n 0, 1) := by decide +kernel
theorem dX2_init_1 : decode cX2_init 1 = .ok (.invokespecial 3, 3) := by decide +kernel
theorem dX2_init_4 : decode cX2_init 4 = .ok (.aload_n 0, 1) := by decide +kernel
theorem dX2_init_5 : decode cX2_init 5 = .ok (.bipush 10, 2) := by decide +kernel
theorem dX2_init_7 : decode cX2_init 7 = .ok (.anewarray 9, 3) := by decide +kernel
theorem dX2_init_10 : decode cX2_init 10 = .ok (.putfield 11, 3) := by decide +kernel
theorem dX2_init_13 : decode cX2_init 13 = .ok (.aload_n 0, 1) := by decide +kernel
theorem dX2_init_14 : decode cX2_init 14 = .ok (.iconst 0, 1) := by decide +kernel
theorem dX2_init_15 : decode cX2_init 15 = .ok (.putfield 17, 3) := by decide +kernel
theorem dX2_init_18 : decode cX2_init 18 = .ok (.aload_n 0, 1) := by decide +kernel
theorem dX2_init_19 : decode cX2_init 19 = .ok (.iconst 0, 1) := by decide +kernel
theorem dX2_init_20 : decode cX2_init 20 = .ok (.putfield 21, 3) := by decide +kernel
theorem dX2_init_23 : decode cX2_init 23 = .ok (.aload_n 0, 1) := by decide +kernel
theorem dX2_init_24 : decode cX2_init 24 = .ok (.iconst 1, 1) := by decide +kernel
theorem dX2_init_25 : decode cX2_init 25 = .ok (.putfield 24, 3) := by decide +kernel
theorem dX2_init_28 : decode cX2_init 28 = .ok (.aload_n 0, 1) := by decide +kernel
theorem dX2_init_29 : decode cX2_init 29 = .ok (.new 27, 3) := by decide +kernel
theorem dX2_init_32 : decode cX2_init 32 = .ok (.dup, 1) := by decide +kernel
theorem dX2_init_33 : decode cX2_init 33 = .ok (.invokespecial 29, 3) := by decide +kernel
theorem dX2_init_36 : decode cX2_init 36 = .ok (.putfield 30, 3) := by decide +kernel
theorem dX2_init_39 : decode cX2_init 39 = .ok (.aload_n 0, 1) := by decide +kernel
theorem dX2_init_40 : decode cX2_init 40 = .ok (.iconst 0, 1) := by decide +kernel
theorem dX2_init_41 : decode cX2_init 41 = .ok (.putfield 34, 3) := by decide +kernel
theorem dX2_init_44 : decode cX2_init 44 = .ok (.aload_n 0, 1) := by decide +kernel
theorem dX2_init_45 : decode cX2_init 45 = .ok (.iconst 0, 1) := by decide +kernel
theorem dX2_init_46 : decode cX2_init 46 = .ok (.putfield 37, 3) := by decide +kernel
theorem dX2_init_49 : decode cX2_init 49 = .ok (.aload_n 0, 1) := by decide +kernel
theorem dX2_init_50 : decode cX2_init 50 = .ok (.iconst 0, 1) := by decide +kernel
theorem dX2_init_51 : decode cX2_init 51 = .ok (.putfield 40, 3) := by decide +kernel
theorem dX2_init_54 : decode cX2_init 54 = .ok (.aload_n 0, 1) := by decide +kernel
theorem dX2_init_55 : decode cX2_init 55 = .ok (.iconst 0, 1) := by decide +kernel
theorem dX2_init_56 : decode cX2_init 56 = .ok (.putfield 43, 3) := by decide +kernel
theorem dX2_init_59 : decode cX2_init 59 = .ok (.iconst 0, 1) := by decide +kernel
theorem dX2_init_60 : decode cX2_init 60 = .ok (.istore_n 1, 1) := by decide +kernel
theorem dX2_init_61 : decode cX2_init 61 = .ok (.iload_n 1, 1) := by decide +kernel
theorem dX2_init_62 : decode cX2_init 62 = .ok (.bipush 10, 2) := by decide +kernel
theorem dX2_init_64 : decode cX2_init 64 = .ok (.if_icmp .ge 22, 3) := by decide +kernel
theorem dX2_init_67 : decode cX2_init 67 = .ok (.aload_n 0, 1) := by decide +kernel
theorem dX2_init_68 : decode cX2_init 68 = .ok (.getfield 11, 3) := by decide +kernel
theorem dX2_init_71 : decode cX2_init 71 = .ok (.iload_n 1, 1) := by decide +kernel
theorem dX2_init_72 : decode cX2_init 72 = .ok (.new 9, 3) := by decide +kernel
theorem dX2_init_75 : decode cX2_init 75 = .ok (.dup, 1) := by decide +kernel
theorem dX2_init_76 : decode cX2_init 76 = .ok (.invokespecial 47, 3) := by decide +kernel
theorem dX2_init_79 : decode cX2_init 79 = .ok (.aastore, 1) := by decide +kernel
theorem dX2_init_80 : decode cX2_init 80 = .ok (.iinc 1 1, 3) := by decide +kernel
theorem dX2_init_83 : decode cX2_init 83 = .ok (.goto (-22), 3) := by decide +kernel
theorem dX2_init_86 : decode cX2_init 86 = .ok (.return_, 1) := by decide +kernel
theorem dX2_copyFrom_0 : decode cX2_copyFrom 0 = .ok (.aload_n 0, 1) := by decide +kernel
theorem dX2_copyFrom_1 : decode cX2_copyFrom 1 = .ok (.aload_n 1, 1) := by decide +kernel
theorem dX2_copyFrom_2 : decode cX2_copyFrom 2 = .ok (.getfield 17, 3) := by decide +kernel
theorem dX2_copyFrom_5 : decode cX2_copyFrom 5 = .ok (.putfield 17, 3) := by decide +kernel
theorem dX2_copyFrom_8 : decode cX2_copyFrom 8 = .ok (.aload_n 0, 1) := by decide +kernel
theorem dX2_copyFrom_9 : decode cX2_copyFrom 9 = .ok (.aload_n 1, 1) := by decide +kernel
theorem dX2_copyFrom_10 : decode cX2_copyFrom 10 = .ok (.getfield 21, 3) := by decide +kernel
theorem dX2_copyFrom_13 : decode cX2_copyFrom 13 = .ok (.putfield 21, 3) := by decide +kernel
theorem dX2_copyFrom_16 : decode cX2_copyFrom 16 = .ok (.aload_n 0, 1) := by decide +kernel
theorem dX2_copyFrom_17 : decode cX2_copyFrom 17 = .ok (.aload_n 1, 1) := by decide +kernel
theorem dX2_copyFrom_18 : decode cX2_copyFrom 18 = .ok (.getfield 24, 3) := by decide +kernel
theorem dX2_copyFrom_21 : decode cX2_copyFrom 21 = .ok (.putfield 24, 3) := by decide +kernel
theorem dX2_copyFrom_24 : decode cX2_copyFrom 24 = .ok (.aload_n 0, 1) := by decide +kernel
theorem dX2_copyFrom_25 : decode cX2_copyFrom 25 = .ok (.getfield 30, 3) := by decide +kernel
theorem dX2_copyFrom_28 : decode cX2_copyFrom 28 = .ok (.aload_n 1, 1) := by decide +kernel
theorem dX2_copyFrom_29 : decode cX2_copyFrom 29 = .ok (.getfield 30, 3) := by decide +kernel
theorem dX2_copyFrom_32 : decode cX2_copyFrom 32 = .ok (.invokevirtual 48, 3) := by decide +kernel
theorem dX2_copyFrom_35 : decode cX2_copyFrom 35 = .ok (.iconst 0, 1) := by decide +kernel
theorem dX2_copyFrom_36 : decode cX2_copyFrom 36 = .ok (.istore_n 2, 1) := by decide +kernel
theorem dX2_copyFrom_37 : decode cX2_copyFrom 37 = .ok (.iload_n 2, 1) := by decide +kernel
theorem dX2_copyFrom_38 : decode cX2_copyFrom 38 = .ok (.aload_n 0, 1) := by decide +kernel
theorem dX2_copyFrom_39 : decode cX2_copyFrom 39 = .ok (.getfield 17, 3) := by decide +kernel
theorem dX2_copyFrom_42 : decode cX2_copyFrom 42 = .ok (.if_icmp .ge 24, 3) := by decide +kernel
theorem dX2_copyFrom_45 : decode cX2_copyFrom 45 = .ok (.aload_n 0, 1) := by decide +kernel
theorem dX2_copyFrom_46 : decode cX2_copyFrom 46 = .ok (.getfield 11, 3) := by decide +kernel
theorem dX2_copyFrom_49 : decode cX2_copyFrom 49 = .ok (.iload_n 2, 1) := by decide +kernel
theorem dX2_copyFrom_50 : decode cX2_copyFrom 50 = .ok (.aaload, 1) := by decide +kernel
theorem dX2_copyFrom_51 : decode cX2_copyFrom 51 = .ok (.aload_n 1, 1) := by decide +kernel
theorem dX2_copyFrom_52 : decode cX2_copyFrom 52 = .ok (.getfield 11, 3) := by decide +kernel
theorem dX2_copyFrom_55 : decode cX2_copyFrom 55 = .ok (.iload_n 2, 1) := by decide +kernel
theorem dX2_copyFrom_56 : decode cX2_copyFrom 56 = .ok (.aaload, 1) := by decide +kernel
theorem dX2_copyFrom_57 : decode cX2_copyFrom 57 = .ok (.invokevirtual 52, 3) := by decide +kernel
theorem dX2_copyFrom_60 : decode cX2_copyFrom 60 = .ok (.iinc 2 1, 3) := by decide +kernel
theorem dX2_copyFrom_63 : decode cX2_copyFrom 63 = .ok (.goto (-26), 3) := by decide +kernel
theorem dX2_copyFrom_66 : decode cX2_copyFrom 66 = .ok (.return_, 1) := by decide +kernel
theorem dX2_has_0 : decode cX2_has 0 = .ok (.iload_n 1, 1) := by decide +kernel
theorem dX2_has_1 : decode cX2_has 1 = .ok (.ifCond .lt 15, 3) := by decide +kernel
theorem dX2_has_4 : decode cX2_has 4 = .ok (.iload_n 1, 1) := by decide +kernel
theorem dX2_has_5 : decode cX2_has 5 = .ok (.aload_n 0, 1) := by decide +kernel
theorem dX2_has_6 : decode cX2_has 6 = .ok (.getfield 17, 3) := by decide +kernel
theorem dX2_has_9 : decode cX2_has 9 = .ok (.if_icmp .ge 7, 3) := by decide +kernel
theorem dX2_has_12 : decode cX2_has 12 = .ok (.iconst 1, 1) := by decide +kernel
theorem dX2_has_13 : decode cX2_has 13 = .ok (.goto 4, 3) := by decide +kernel
theorem dX2_has_16 : decode cX2_has 16 = .ok (.iconst 0, 1) := by decide +kernel
theorem dX2_has_17 : decode cX2_has 17 = .ok (.ireturn, 1) := by decide +kernel
theorem dX2_pullOf_0 : decode cX2_pullOf 0 = .ok (.aload_n 0, 1) := by decide +kernel
theorem dX2_pullOf_1 : decode cX2_pullOf 1 = .ok (.getfield 11, 3) := by decide +kernel
theorem dX2_pullOf_4 : decode cX2_pullOf 4 = .ok (.iload_n 1, 1) := by decide +kernel
theorem dX2_pullOf_5 : decode cX2_pullOf 5 = .ok (.aaload, 1) := by decide +kernel
theorem dX2_pullOf_6 : decode cX2_pullOf 6 = .ok (.astore_n 2, 1) := by decide +kernel
theorem dX2_pullOf_7 : decode cX2_pullOf 7 = .ok (.iload_n 1, 1) := by decide +kernel
theorem dX2_pullOf_8 : decode cX2_pullOf 8 = .ok (.ifCond .ne 10, 3) := by decide +kernel
theorem dX2_pullOf_11 : decode cX2_pullOf 11 = .ok (.aload_n 0, 1) := by decide +kernel
theorem dX2_pullOf_12 : decode cX2_pullOf 12 = .ok (.getfield 21, 3) := by decide +kernel
theorem dX2_pullOf_15 : decode cX2_pullOf 15 = .ok (.goto 14, 3) := by decide +kernel
theorem dX2_pullOf_18 : decode cX2_pullOf 18 = .ok (.aload_n 0, 1) := by decide +kernel
theorem dX2_pullOf_19 : decode cX2_pullOf 19 = .ok (.getfield 11, 3) := by decide +kernel
theorem dX2_pullOf_22 : decode cX2_pullOf 22 = .ok (.iload_n 1, 1) := by decide +kernel
theorem dX2_pullOf_23 : decode cX2_pullOf 23 = .ok (.iconst 1, 1) := by decide +kernel
theorem dX2_pullOf_24 : decode cX2_pullOf 24 = .ok (.isub, 1) := by decide +kernel
theorem dX2_pullOf_25 : decode cX2_pullOf 25 = .ok (.aaload, 1) := by decide +kernel
theorem dX2_pullOf_26 : decode cX2_pullOf 26 = .ok (.getfield 55, 3) := by decide +kernel
theorem dX2_pullOf_29 : decode cX2_pullOf 29 = .ok (.istore_n 3, 1) := by decide +kernel
theorem dX2_pullOf_30 : decode cX2_pullOf 30 = .ok (.aload_n 2, 1) := by decide +kernel
theorem dX2_pullOf_31 : decode cX2_pullOf 31 = .ok (.getfield 58, 3) := by decide +kernel
theorem dX2_pullOf_34 : decode cX2_pullOf 34 = .ok (.iload_n 3, 1) := by decide +kernel
theorem dX2_pullOf_35 : decode cX2_pullOf 35 = .ok (.aload_n 2, 1) := by decide +kernel
theorem dX2_pullOf_36 : decode cX2_pullOf 36 = .ok (.getfield 55, 3) := by decide +kernel
theorem dX2_pullOf_39 : decode cX2_pullOf 39 = .ok (.isub, 1) := by decide +kernel
theorem dX2_pullOf_40 : decode cX2_pullOf 40 = .ok (.imul, 1) := by decide +kernel
theorem dX2_pullOf_41 : decode cX2_pullOf 41 = .ok (.istore 4, 2) := by decide +kernel
theorem dX2_pullOf_43 : decode cX2_pullOf 43 = .ok (.iload_n 1, 1) := by decide +kernel
theorem dX2_pullOf_44 : decode cX2_pullOf 44 = .ok (.iconst 1, 1) := by decide +kernel
theorem dX2_pullOf_45 : decode cX2_pullOf 45 = .ok (.iadd, 1) := by decide +kernel
theorem dX2_pullOf_46 : decode cX2_pullOf 46 = .ok (.aload_n 0, 1) := by decide +kernel
theorem dX2_pullOf_47 : decode cX2_pullOf 47 = .ok (.getfield 17, 3) := by decide +kernel
theorem dX2_pullOf_50 : decode cX2_pullOf 50 = .ok (.if_icmp .ge 34, 3) := by decide +kernel
theorem dX2_pullOf_53 : decode cX2_pullOf 53 = .ok (.aload_n 0, 1) := by decide +kernel
theorem dX2_pullOf_54 : decode cX2_pullOf 54 = .ok (.getfield 11, 3) := by decide +kernel
theorem dX2_pullOf_57 : decode cX2_pullOf 57 = .ok (.iload_n 1, 1) := by decide +kernel
theorem dX2_pullOf_58 : decode cX2_pullOf 58 = .ok (.iconst 1, 1) := by decide +kernel
theorem dX2_pullOf_59 : decode cX2_pullOf 59 = .ok (.iadd, 1) := by decide +kernel
theorem dX2_pullOf_60 : decode cX2_pullOf 60 = .ok (.aaload, 1) := by decide +kernel
theorem dX2_pullOf_61 : decode cX2_pullOf 61 = .ok (.astore 5, 2) := by decide +kernel
theorem dX2_pullOf_63 : decode cX2_pullOf 63 = .ok (.iload 4, 2) := by decide +kernel
theorem dX2_pullOf_65 : decode cX2_pullOf 65 = .ok (.aload 5, 2) := by decide +kernel
theorem dX2_pullOf_67 : decode cX2_pullOf 67 = .ok (.getfield 58, 3) := by decide +kernel
theorem dX2_pullOf_70 : decode cX2_pullOf 70 = .ok (.aload_n 2, 1) := by decide +kernel
theorem dX2_pullOf_71 : decode cX2_pullOf 71 = .ok (.getfield 55, 3) := by decide +kernel
theorem dX2_pullOf_74 : decode cX2_pullOf 74 = .ok (.aload 5, 2) := by decide +kernel
theorem dX2_pullOf_76 : decode cX2_pullOf 76 = .ok (.getfield 55, 3) := by decide +kernel
theorem dX2_pullOf_79 : decode cX2_pullOf 79 = .ok (.isub, 1) := by decide +kernel
theorem dX2_pullOf_80 : decode cX2_pullOf 80 = .ok (.imul, 1) := by decide +kernel
theorem dX2_pullOf_81 : decode cX2_pullOf 81 = .ok (.isub, 1) := by decide +kernel
theorem dX2_pullOf_82 : decode cX2_pullOf 82 = .ok (.istore 4, 2) := by decide +kernel
theorem dX2_pullOf_84 : decode cX2_pullOf 84 = .ok (.iload 4, 2) := by decide +kernel
theorem dX2_pullOf_86 : decode cX2_pullOf 86 = .ok (.ireturn, 1) := by decide +kernel
theorem dX2_holdsOf_0 : decode cX2_holdsOf 0 = .ok (.aload_n 0, 1) := by decide +kernel
theorem dX2_holdsOf_1 : decode cX2_holdsOf 1 = .ok (.getfield 11, 3) := by decide +kernel
theorem dX2_holdsOf_4 : decode cX2_holdsOf 4 = .ok (.iload_n 1, 1) := by decide +kernel
theorem dX2_holdsOf_5 : decode cX2_holdsOf 5 = .ok (.aaload, 1) := by decide +kernel
theorem dX2_holdsOf_6 : decode cX2_holdsOf 6 = .ok (.astore_n 3, 1) := by decide +kernel
theorem dX2_holdsOf_7 : decode cX2_holdsOf 7 = .ok (.aload_n 3, 1) := by decide +kernel
theorem dX2_holdsOf_8 : decode cX2_holdsOf 8 = .ok (.getfield 61, 3) := by decide +kernel
theorem dX2_holdsOf_11 : decode cX2_holdsOf 11 = .ok (.tableswitch 122 1 5 #[33, 39, 45, 85, 107], 33) := by decide +kernel
theorem dX2_holdsOf_44 : decode cX2_holdsOf 44 = .ok (.aload_n 3, 1) := by decide +kernel
theorem dX2_holdsOf_45 : decode cX2_holdsOf 45 = .ok (.iload_n 2, 1) := by decide +kernel
theorem dX2_holdsOf_46 : decode cX2_holdsOf 46 = .ok (.invokevirtual 64, 3) := by decide +kernel
theorem dX2_holdsOf_49 : decode cX2_holdsOf 49 = .ok (.ireturn, 1) := by decide +kernel
theorem dX2_holdsOf_50 : decode cX2_holdsOf 50 = .ok (.aload_n 3, 1) := by decide +kernel
theorem dX2_holdsOf_51 : decode cX2_holdsOf 51 = .ok (.iload_n 2, 1) := by decide +kernel
theorem dX2_holdsOf_52 : decode cX2_holdsOf 52 = .ok (.invokevirtual 68, 3) := by decide +kernel
theorem dX2_holdsOf_55 : decode cX2_holdsOf 55 = .ok (.ireturn, 1) := by decide +kernel
theorem dX2_holdsOf_56 : decode cX2_holdsOf 56 = .ok (.aload_n 0, 1) := by decide +kernel
theorem dX2_holdsOf_57 : decode cX2_holdsOf 57 = .ok (.getfield 30, 3) := by decide +kernel
theorem dX2_holdsOf_60 : decode cX2_holdsOf 60 = .ok (.getfield 71, 3) := by decide +kernel
theorem dX2_holdsOf_63 : decode cX2_holdsOf 63 = .ok (.ifCond .ne 8, 3) := by decide +kernel
theorem dX2_holdsOf_66 : decode cX2_holdsOf 66 = .ok (.aload_n 3, 1) := by decide +kernel
theorem dX2_holdsOf_67 : decode cX2_holdsOf 67 = .ok (.getfield 72, 3) := by decide +kernel
theorem dX2_holdsOf_70 : decode cX2_holdsOf 70 = .ok (.ireturn, 1) := by decide +kernel
theorem dX2_holdsOf_71 : decode cX2_holdsOf 71 = .ok (.iconst 0, 1) := by decide +kernel
theorem dX2_holdsOf_72 : decode cX2_holdsOf 72 = .ok (.sipush 9999, 3) := by decide +kernel
theorem dX2_holdsOf_75 : decode cX2_holdsOf 75 = .ok (.aload_n 0, 1) := by decide +kernel
theorem dX2_holdsOf_76 : decode cX2_holdsOf 76 = .ok (.getfield 30, 3) := by decide +kernel
theorem dX2_holdsOf_79 : decode cX2_holdsOf 79 = .ok (.aload_n 3, 1) := by decide +kernel
theorem dX2_holdsOf_80 : decode cX2_holdsOf 80 = .ok (.iload_n 1, 1) := by decide +kernel
theorem dX2_holdsOf_81 : decode cX2_holdsOf 81 = .ok (.aload_n 0, 1) := by decide +kernel
theorem dX2_holdsOf_82 : decode cX2_holdsOf 82 = .ok (.getfield 24, 3) := by decide +kernel
theorem dX2_holdsOf_85 : decode cX2_holdsOf 85 = .ok (.iload_n 2, 1) := by decide +kernel
theorem dX2_holdsOf_86 : decode cX2_holdsOf 86 = .ok (.invokevirtual 75, 3) := by decide +kernel
theorem dX2_holdsOf_89 : decode cX2_holdsOf 89 = .ok (.invokestatic 79, 3) := by decide +kernel
theorem dX2_holdsOf_92 : decode cX2_holdsOf 92 = .ok (.invokestatic 85, 3) := by decide +kernel
theorem dX2_holdsOf_95 : decode cX2_holdsOf 95 = .ok (.ireturn, 1) := by decide +kernel
theorem dX2_holdsOf_96 : decode cX2_holdsOf 96 = .ok (.iload_n 2, 1) := by decide +kernel
theorem dX2_holdsOf_97 : decode cX2_holdsOf 97 = .ok (.bipush 40, 2) := by decide +kernel
theorem dX2_holdsOf_99 : decode cX2_holdsOf 99 = .ok (.if_icmp .lt 13, 3) := by decide +kernel
theorem dX2_holdsOf_102 : decode cX2_holdsOf 102 = .ok (.iconst 3, 1) := by decide +kernel
theorem dX2_holdsOf_103 : decode cX2_holdsOf 103 = .ok (.aload_n 3, 1) := by decide +kernel
theorem dX2_holdsOf_104 : decode cX2_holdsOf 104 = .ok (.iload_n 2, 1) := by decide +kernel
theorem dX2_holdsOf_105 : decode cX2_holdsOf 105 = .ok (.invokevirtual 64, 3) := by decide +kernel
theorem dX2_holdsOf_108 : decode cX2_holdsOf 108 = .ok (.imul, 1) := by decide +kernel
theorem dX2_holdsOf_109 : decode cX2_holdsOf 109 = .ok (.goto 8, 3) := by decide +kernel
theorem dX2_holdsOf_112 : decode cX2_holdsOf 112 = .ok (.aload_n 3, 1) := by decide +kernel
theorem dX2_holdsOf_113 : decode cX2_holdsOf 113 = .ok (.iload_n 2, 1) := by decide +kernel
theorem dX2_holdsOf_114 : decode cX2_holdsOf 114 = .ok (.invokevirtual 64, 3) := by decide +kernel
theorem dX2_holdsOf_117 : decode cX2_holdsOf 117 = .ok (.ireturn, 1) := by decide +kernel
theorem dX2_holdsOf_118 : decode cX2_holdsOf 118 = .ok (.iconst 0, 1) := by decide +kernel
theorem dX2_holdsOf_119 : decode cX2_holdsOf 119 = .ok (.aload_n 3, 1) := by decide +kernel
theorem dX2_holdsOf_120 : decode cX2_holdsOf 120 = .ok (.iload_n 2, 1) := by decide +kernel
theorem dX2_holdsOf_121 : decode cX2_holdsOf 121 = .ok (.invokevirtual 68, 3) := by decide +kernel
theorem dX2_holdsOf_124 : decode cX2_holdsOf 124 = .ok (.aload_n 3, 1) := by decide +kernel
theorem dX2_holdsOf_125 : decode cX2_holdsOf 125 = .ok (.getfield 88, 3) := by decide +kernel
theorem dX2_holdsOf_128 : decode cX2_holdsOf 128 = .ok (.isub, 1) := by decide +kernel
theorem dX2_holdsOf_129 : decode cX2_holdsOf 129 = .ok (.invokestatic 85, 3) := by decide +kernel
theorem dX2_holdsOf_132 : decode cX2_holdsOf 132 = .ok (.ireturn, 1) := by decide +kernel
theorem dX2_holdsOf_133 : decode cX2_holdsOf 133 = .ok (.aload_n 3, 1) := by decide +kernel
theorem dX2_holdsOf_134 : decode cX2_holdsOf 134 = .ok (.iload_n 2, 1) := by decide +kernel
theorem dX2_holdsOf_135 : decode cX2_holdsOf 135 = .ok (.invokevirtual 91, 3) := by decide +kernel
theorem dX2_holdsOf_138 : decode cX2_holdsOf 138 = .ok (.ireturn, 1) := by decide +kernel
theorem dX2_tick_0 : decode cX2_tick 0 = .ok (.aload_n 0, 1) := by decide +kernel
theorem dX2_tick_1 : decode cX2_tick 1 = .ok (.dup, 1) := by decide +kernel
theorem dX2_tick_2 : decode cX2_tick 2 = .ok (.getfield 21, 3) := by decide +kernel
theorem dX2_tick_5 : decode cX2_tick 5 = .ok (.aload_n 0, 1) := by decide +kernel
theorem dX2_tick_6 : decode cX2_tick 6 = .ok (.getfield 24, 3) := by decide +kernel
theorem dX2_tick_9 : decode cX2_tick 9 = .ok (.iadd, 1) := by decide +kernel
theorem dX2_tick_10 : decode cX2_tick 10 = .ok (.putfield 21, 3) := by decide +kernel
theorem dX2_tick_13 : decode cX2_tick 13 = .ok (.aload_n 0, 1) := by decide +kernel
theorem dX2_tick_14 : decode cX2_tick 14 = .ok (.iconst 0, 1) := by decide +kernel
theorem dX2_tick_15 : decode cX2_tick 15 = .ok (.putfield 34, 3) := by decide +kernel
theorem dX2_tick_18 : decode cX2_tick 18 = .ok (.aload_n 0, 1) := by decide +kernel
theorem dX2_tick_19 : decode cX2_tick 19 = .ok (.iconst 0, 1) := by decide +kernel
theorem dX2_tick_20 : decode cX2_tick 20 = .ok (.putfield 37, 3) := by decide +kernel
theorem dX2_tick_23 : decode cX2_tick 23 = .ok (.aload_n 0, 1) := by decide +kernel
theorem dX2_tick_24 : decode cX2_tick 24 = .ok (.iconst 0, 1) := by decide +kernel
theorem dX2_tick_25 : decode cX2_tick 25 = .ok (.putfield 40, 3) := by decide +kernel
theorem dX2_tick_28 : decode cX2_tick 28 = .ok (.iconst 0, 1) := by decide +kernel
theorem dX2_tick_29 : decode cX2_tick 29 = .ok (.istore_n 1, 1) := by decide +kernel
theorem dX2_tick_30 : decode cX2_tick 30 = .ok (.iload_n 1, 1) := by decide +kernel
theorem dX2_tick_31 : decode cX2_tick 31 = .ok (.aload_n 0, 1) := by decide +kernel
theorem dX2_tick_32 : decode cX2_tick 32 = .ok (.getfield 17, 3) := by decide +kernel
theorem dX2_tick_35 : decode cX2_tick 35 = .ok (.if_icmp .ge 32, 3) := by decide +kernel
theorem dX2_tick_38 : decode cX2_tick 38 = .ok (.aload_n 0, 1) := by decide +kernel
theorem dX2_tick_39 : decode cX2_tick 39 = .ok (.getfield 11, 3) := by decide +kernel
theorem dX2_tick_42 : decode cX2_tick 42 = .ok (.iload_n 1, 1) := by decide +kernel
theorem dX2_tick_43 : decode cX2_tick 43 = .ok (.aaload, 1) := by decide +kernel
theorem dX2_tick_44 : decode cX2_tick 44 = .ok (.aload_n 0, 1) := by decide +kernel
theorem dX2_tick_45 : decode cX2_tick 45 = .ok (.iload_n 1, 1) := by decide +kernel
theorem dX2_tick_46 : decode cX2_tick 46 = .ok (.aload_n 0, 1) := by decide +kernel
theorem dX2_tick_47 : decode cX2_tick 47 = .ok (.getfield 11, 3) := by decide +kernel
theorem dX2_tick_50 : decode cX2_tick 50 = .ok (.iload_n 1, 1) := by decide +kernel
theorem dX2_tick_51 : decode cX2_tick 51 = .ok (.aaload, 1) := by decide +kernel
theorem dX2_tick_52 : decode cX2_tick 52 = .ok (.getfield 94, 3) := by decide +kernel
theorem dX2_tick_55 : decode cX2_tick 55 = .ok (.invokevirtual 97, 3) := by decide +kernel
theorem dX2_tick_58 : decode cX2_tick 58 = .ok (.invokevirtual 100, 3) := by decide +kernel
theorem dX2_tick_61 : decode cX2_tick 61 = .ok (.iinc 1 1, 3) := by decide +kernel
theorem dX2_tick_64 : decode cX2_tick 64 = .ok (.goto (-34), 3) := by decide +kernel
theorem dX2_tick_67 : decode cX2_tick 67 = .ok (.iconst 1, 1) := by decide +kernel
theorem dX2_tick_68 : decode cX2_tick 68 = .ok (.istore_n 1, 1) := by decide +kernel
theorem dX2_tick_69 : decode cX2_tick 69 = .ok (.iconst 0, 1) := by decide +kernel
theorem dX2_tick_70 : decode cX2_tick 70 = .ok (.istore_n 2, 1) := by decide +kernel
theorem dX2_tick_71 : decode cX2_tick 71 = .ok (.iload_n 2, 1) := by decide +kernel
theorem dX2_tick_72 : decode cX2_tick 72 = .ok (.bipush 40, 2) := by decide +kernel
theorem dX2_tick_74 : decode cX2_tick 74 = .ok (.if_icmp .ge 18, 3) := by decide +kernel
theorem dX2_tick_77 : decode cX2_tick 77 = .ok (.iload_n 1, 1) := by decide +kernel
theorem dX2_tick_78 : decode cX2_tick 78 = .ok (.ifCond .eq 14, 3) := by decide +kernel
theorem dX2_tick_81 : decode cX2_tick 81 = .ok (.aload_n 0, 1) := by decide +kernel
theorem dX2_tick_82 : decode cX2_tick 82 = .ok (.invokevirtual 104, 3) := by decide +kernel
theorem dX2_tick_85 : decode cX2_tick 85 = .ok (.istore_n 1, 1) := by decide +kernel
theorem dX2_tick_86 : decode cX2_tick 86 = .ok (.iinc 2 1, 3) := by decide +kernel
theorem dX2_tick_89 : decode cX2_tick 89 = .ok (.goto (-18), 3) := by decide +kernel
theorem dX2_tick_92 : decode cX2_tick 92 = .ok (.aload_n 0, 1) := by decide +kernel
theorem dX2_tick_93 : decode cX2_tick 93 = .ok (.iload_n 1, 1) := by decide +kernel
theorem dX2_tick_94 : decode cX2_tick 94 = .ok (.putfield 43, 3) := by decide +kernel
theorem dX2_tick_97 : decode cX2_tick 97 = .ok (.iconst 0, 1) := by decide +kernel
theorem dX2_tick_98 : decode cX2_tick 98 = .ok (.istore_n 2, 1) := by decide +kernel
theorem dX2_tick_99 : decode cX2_tick 99 = .ok (.iload_n 2, 1) := by decide +kernel
theorem dX2_tick_100 : decode cX2_tick 100 = .ok (.aload_n 0, 1) := by decide +kernel
theorem dX2_tick_101 : decode cX2_tick 101 = .ok (.getfield 17, 3) := by decide +kernel
theorem dX2_tick_104 : decode cX2_tick 104 = .ok (.if_icmp .ge 18, 3) := by decide +kernel
theorem dX2_tick_107 : decode cX2_tick 107 = .ok (.aload_n 0, 1) := by decide +kernel
theorem dX2_tick_108 : decode cX2_tick 108 = .ok (.getfield 11, 3) := by decide +kernel
theorem dX2_tick_111 : decode cX2_tick 111 = .ok (.iload_n 2, 1) := by decide +kernel
theorem dX2_tick_112 : decode cX2_tick 112 = .ok (.aaload, 1) := by decide +kernel
theorem dX2_tick_113 : decode cX2_tick 113 = .ok (.invokevirtual 108, 3) := by decide +kernel
theorem dX2_tick_116 : decode cX2_tick 116 = .ok (.iinc 2 1, 3) := by decide +kernel
theorem dX2_tick_119 : decode cX2_tick 119 = .ok (.goto (-20), 3) := by decide +kernel
theorem dX2_tick_122 : decode cX2_tick 122 = .ok (.return_, 1) := by decide +kernel
theorem dX2_round_0 : decode cX2_round 0 = .ok (.iconst 0, 1) := by decide +kernel
theorem dX2_round_1 : decode cX2_round 1 = .ok (.istore_n 1, 1) := by decide +kernel
theorem dX2_round_2 : decode cX2_round 2 = .ok (.iload_n 1, 1) := by decide +kernel
theorem dX2_round_3 : decode cX2_round 3 = .ok (.aload_n 0, 1) := by decide +kernel
theorem dX2_round_4 : decode cX2_round 4 = .ok (.getfield 17, 3) := by decide +kernel
theorem dX2_round_7 : decode cX2_round 7 = .ok (.if_icmp .ge 23, 3) := by decide +kernel
theorem dX2_round_10 : decode cX2_round 10 = .ok (.aload_n 0, 1) := by decide +kernel
theorem dX2_round_11 : decode cX2_round 11 = .ok (.getfield 11, 3) := by decide +kernel
theorem dX2_round_14 : decode cX2_round 14 = .ok (.iload_n 1, 1) := by decide +kernel
theorem dX2_round_15 : decode cX2_round 15 = .ok (.aaload, 1) := by decide +kernel
theorem dX2_round_16 : decode cX2_round 16 = .ok (.aload_n 0, 1) := by decide +kernel
theorem dX2_round_17 : decode cX2_round 17 = .ok (.iload_n 1, 1) := by decide +kernel
theorem dX2_round_18 : decode cX2_round 18 = .ok (.invokevirtual 111, 3) := by decide +kernel
theorem dX2_round_21 : decode cX2_round 21 = .ok (.putfield 114, 3) := by decide +kernel
theorem dX2_round_24 : decode cX2_round 24 = .ok (.iinc 1 1, 3) := by decide +kernel
theorem dX2_round_27 : decode cX2_round 27 = .ok (.goto (-25), 3) := by decide +kernel
theorem dX2_round_30 : decode cX2_round 30 = .ok (.iconst 0, 1) := by decide +kernel
theorem dX2_round_31 : decode cX2_round 31 = .ok (.istore_n 1, 1) := by decide +kernel
theorem dX2_round_32 : decode cX2_round 32 = .ok (.iconst 0, 1) := by decide +kernel
theorem dX2_round_33 : decode cX2_round 33 = .ok (.istore_n 2, 1) := by decide +kernel
theorem dX2_round_34 : decode cX2_round 34 = .ok (.iload_n 2, 1) := by decide +kernel
theorem dX2_round_35 : decode cX2_round 35 = .ok (.aload_n 0, 1) := by decide +kernel
theorem dX2_round_36 : decode cX2_round 36 = .ok (.getfield 17, 3) := by decide +kernel
theorem dX2_round_39 : decode cX2_round 39 = .ok (.if_icmp .ge 94, 3) := by decide +kernel
theorem dX2_round_42 : decode cX2_round 42 = .ok (.aload_n 0, 1) := by decide +kernel
theorem dX2_round_43 : decode cX2_round 43 = .ok (.getfield 11, 3) := by decide +kernel
theorem dX2_round_46 : decode cX2_round 46 = .ok (.iload_n 2, 1) := by decide +kernel
theorem dX2_round_47 : decode cX2_round 47 = .ok (.aaload, 1) := by decide +kernel
theorem dX2_round_48 : decode cX2_round 48 = .ok (.astore_n 3, 1) := by decide +kernel
theorem dX2_round_49 : decode cX2_round 49 = .ok (.aload_n 3, 1) := by decide +kernel
theorem dX2_round_50 : decode cX2_round 50 = .ok (.aload_n 3, 1) := by decide +kernel
theorem dX2_round_51 : decode cX2_round 51 = .ok (.getfield 58, 3) := by decide +kernel
theorem dX2_round_54 : decode cX2_round 54 = .ok (.iload_n 2, 1) := by decide +kernel
theorem dX2_round_55 : decode cX2_round 55 = .ok (.iconst 1, 1) := by decide +kernel
theorem dX2_round_56 : decode cX2_round 56 = .ok (.iadd, 1) := by decide +kernel
theorem dX2_round_57 : decode cX2_round 57 = .ok (.aload_n 0, 1) := by decide +kernel
theorem dX2_round_58 : decode cX2_round 58 = .ok (.getfield 17, 3) := by decide +kernel
theorem dX2_round_61 : decode cX2_round 61 = .ok (.if_icmp .ge 17, 3) := by decide +kernel
theorem dX2_round_64 : decode cX2_round 64 = .ok (.aload_n 0, 1) := by decide +kernel
theorem dX2_round_65 : decode cX2_round 65 = .ok (.getfield 11, 3) := by decide +kernel
theorem dX2_round_68 : decode cX2_round 68 = .ok (.iload_n 2, 1) := by decide +kernel
theorem dX2_round_69 : decode cX2_round 69 = .ok (.iconst 1, 1) := by decide +kernel
theorem dX2_round_70 : decode cX2_round 70 = .ok (.iadd, 1) := by decide +kernel
theorem dX2_round_71 : decode cX2_round 71 = .ok (.aaload, 1) := by decide +kernel
theorem dX2_round_72 : decode cX2_round 72 = .ok (.getfield 58, 3) := by decide +kernel
theorem dX2_round_75 : decode cX2_round 75 = .ok (.goto 4, 3) := by decide +kernel
theorem dX2_round_78 : decode cX2_round 78 = .ok (.iconst 0, 1) := by decide +kernel
theorem dX2_round_79 : decode cX2_round 79 = .ok (.iadd, 1) := by decide +kernel
theorem dX2_round_80 : decode cX2_round 80 = .ok (.invokevirtual 117, 3) := by decide +kernel
theorem dX2_round_83 : decode cX2_round 83 = .ok (.aload_n 3, 1) := by decide +kernel
theorem dX2_round_84 : decode cX2_round 84 = .ok (.getfield 120, 3) := by decide +kernel
theorem dX2_round_87 : decode cX2_round 87 = .ok (.ifCond .le 40, 3) := by decide +kernel
theorem dX2_round_90 : decode cX2_round 90 = .ok (.iconst 1, 1) := by decide +kernel
theorem dX2_round_91 : decode cX2_round 91 = .ok (.istore_n 1, 1) := by decide +kernel
theorem dX2_round_92 : decode cX2_round 92 = .ok (.aload_n 0, 1) := by decide +kernel
theorem dX2_round_93 : decode cX2_round 93 = .ok (.dup, 1) := by decide +kernel
theorem dX2_round_94 : decode cX2_round 94 = .ok (.getfield 34, 3) := by decide +kernel
theorem dX2_round_97 : decode cX2_round 97 = .ok (.iconst 1, 1) := by decide +kernel
theorem dX2_round_98 : decode cX2_round 98 = .ok (.iadd, 1) := by decide +kernel
theorem dX2_round_99 : decode cX2_round 99 = .ok (.putfield 34, 3) := by decide +kernel
theorem dX2_round_102 : decode cX2_round 102 = .ok (.aload_n 0, 1) := by decide +kernel
theorem dX2_round_103 : decode cX2_round 103 = .ok (.dup, 1) := by decide +kernel
theorem dX2_round_104 : decode cX2_round 104 = .ok (.getfield 37, 3) := by decide +kernel
theorem dX2_round_107 : decode cX2_round 107 = .ok (.iconst 1, 1) := by decide +kernel
theorem dX2_round_108 : decode cX2_round 108 = .ok (.iload_n 2, 1) := by decide +kernel
theorem dX2_round_109 : decode cX2_round 109 = .ok (.ishl, 1) := by decide +kernel
theorem dX2_round_110 : decode cX2_round 110 = .ok (.ior, 1) := by decide +kernel
theorem dX2_round_111 : decode cX2_round 111 = .ok (.putfield 37, 3) := by decide +kernel
theorem dX2_round_114 : decode cX2_round 114 = .ok (.aload_n 0, 1) := by decide +kernel
theorem dX2_round_115 : decode cX2_round 115 = .ok (.dup, 1) := by decide +kernel
theorem dX2_round_116 : decode cX2_round 116 = .ok (.getfield 40, 3) := by decide +kernel
theorem dX2_round_119 : decode cX2_round 119 = .ok (.aload_n 3, 1) := by decide +kernel
theorem dX2_round_120 : decode cX2_round 120 = .ok (.getfield 120, 3) := by decide +kernel
theorem dX2_round_123 : decode cX2_round 123 = .ok (.iadd, 1) := by decide +kernel
theorem dX2_round_124 : decode cX2_round 124 = .ok (.putfield 40, 3) := by decide +kernel
theorem dX2_round_127 : decode cX2_round 127 = .ok (.iinc 2 1, 3) := by decide +kernel
theorem dX2_round_130 : decode cX2_round 130 = .ok (.goto (-96), 3) := by decide +kernel
theorem dX2_round_133 : decode cX2_round 133 = .ok (.iload_n 1, 1) := by decide +kernel
theorem dX2_round_134 : decode cX2_round 134 = .ok (.ireturn, 1) := by decide +kernel
theorem dX3_init_0 : decode cX3_init 0 = .ok (.aload_n 0, 1) := by decide +kernel
theorem dX3_init_1 : decode cX3_init 1 = .ok (.invokespecial 3, 3) := by decide +kernel
theorem dX3_init_4 : decode cX3_init 4 = .ok (.aload_n 0, 1) := by decide +kernel
theorem dX3_init_5 : decode cX3_init 5 = .ok (.bipush 40, 2) := by decide +kernel
theorem dX3_init_7 : decode cX3_init 7 = .ok (.newarray .long, 2) := by decide +kernel
theorem dX3_init_9 : decode cX3_init 9 = .ok (.putfield 9, 3) := by decide +kernel
theorem dX3_init_12 : decode cX3_init 12 = .ok (.aload_n 0, 1) := by decide +kernel
theorem dX3_init_13 : decode cX3_init 13 = .ok (.iconst 0, 1) := by decide +kernel
theorem dX3_init_14 : decode cX3_init 14 = .ok (.putfield 15, 3) := by decide +kernel
theorem dX3_init_17 : decode cX3_init 17 = .ok (.aload_n 0, 1) := by decide +kernel
theorem dX3_init_18 : decode cX3_init 18 = .ok (.iconst 0, 1) := by decide +kernel
theorem dX3_init_19 : decode cX3_init 19 = .ok (.putfield 19, 3) := by decide +kernel
theorem dX3_init_22 : decode cX3_init 22 = .ok (.return_, 1) := by decide +kernel
theorem dX3_isMissing_0 : decode cX3_isMissing 0 = .ok (.aload_n 0, 1) := by decide +kernel
theorem dX3_isMissing_1 : decode cX3_isMissing 1 = .ok (.getfield 15, 3) := by decide +kernel
theorem dX3_isMissing_4 : decode cX3_isMissing 4 = .ok (.ifCond .ne 7, 3) := by decide +kernel
theorem dX3_isMissing_7 : decode cX3_isMissing 7 = .ok (.iconst 1, 1) := by decide +kernel
theorem dX3_isMissing_8 : decode cX3_isMissing 8 = .ok (.goto 4, 3) := by decide +kernel
theorem dX3_isMissing_11 : decode cX3_isMissing 11 = .ok (.iconst 0, 1) := by decide +kernel
theorem dX3_isMissing_12 : decode cX3_isMissing 12 = .ok (.ireturn, 1) := by decide +kernel
theorem dX3_begin_0 : decode cX3_begin 0 = .ok (.aload_n 0, 1) := by decide +kernel
theorem dX3_begin_1 : decode cX3_begin 1 = .ok (.iload_n 1, 1) := by decide +kernel
theorem dX3_begin_2 : decode cX3_begin 2 = .ok (.putfield 15, 3) := by decide +kernel
theorem dX3_begin_5 : decode cX3_begin 5 = .ok (.aload_n 0, 1) := by decide +kernel
theorem dX3_begin_6 : decode cX3_begin 6 = .ok (.iload_n 1, 1) := by decide +kernel
theorem dX3_begin_7 : decode cX3_begin 7 = .ok (.ifCond .ne 7, 3) := by decide +kernel
theorem dX3_begin_10 : decode cX3_begin 10 = .ok (.iconst 0, 1) := by decide +kernel
theorem dX3_begin_11 : decode cX3_begin 11 = .ok (.goto 4, 3) := by decide +kernel
theorem dX3_begin_14 : decode cX3_begin 14 = .ok (.iload_n 2, 1) := by decide +kernel
theorem dX3_begin_15 : decode cX3_begin 15 = .ok (.putfield 19, 3) := by decide +kernel
theorem dX3_begin_18 : decode cX3_begin 18 = .ok (.iconst 0, 1) := by decide +kernel
theorem dX3_begin_19 : decode cX3_begin 19 = .ok (.istore_n 3, 1) := by decide +kernel
theorem dX3_begin_20 : decode cX3_begin 20 = .ok (.iload_n 3, 1) := by decide +kernel
theorem dX3_begin_21 : decode cX3_begin 21 = .ok (.bipush 40, 2) := by decide +kernel
theorem dX3_begin_23 : decode cX3_begin 23 = .ok (.if_icmp .ge 16, 3) := by decide +kernel
theorem dX3_begin_26 : decode cX3_begin 26 = .ok (.aload_n 0, 1) := by decide +kernel
theorem dX3_begin_27 : decode cX3_begin 27 = .ok (.getfield 9, 3) := by decide +kernel
theorem dX3_begin_30 : decode cX3_begin 30 = .ok (.iload_n 3, 1) := by decide +kernel
theorem dX3_begin_31 : decode cX3_begin 31 = .ok (.lconst 0, 1) := by decide +kernel
theorem dX3_begin_32 : decode cX3_begin 32 = .ok (.lastore, 1) := by decide +kernel
theorem dX3_begin_33 : decode cX3_begin 33 = .ok (.iinc 3 1, 3) := by decide +kernel
theorem dX3_begin_36 : decode cX3_begin 36 = .ok (.goto (-16), 3) := by decide +kernel
theorem dX3_begin_39 : decode cX3_begin 39 = .ok (.return_, 1) := by decide +kernel
theorem dX3_lowestBits_0 : decode cX3_lowestBits 0 = .ok (.aload_n 0, 1) := by decide +kernel
theorem dX3_lowestBits_1 : decode cX3_lowestBits 1 = .ok (.getfield 15, 3) := by decide +kernel
theorem dX3_lowestBits_4 : decode cX3_lowestBits 4 = .ok (.lookupswitch 38 #[(8, 28), (16, 33)], 28) := by decide +kernel
theorem dX3_lowestBits_32 : decode cX3_lowestBits 32 = .ok (.lload_n 1, 1) := by decide +kernel
theorem dX3_lowestBits_33 : decode cX3_lowestBits 33 = .ok (.l2i, 1) := by decide +kernel
theorem dX3_lowestBits_34 : decode cX3_lowestBits 34 = .ok (.i2b, 1) := by decide +kernel
theorem dX3_lowestBits_35 : decode cX3_lowestBits 35 = .ok (.i2l, 1) := by decide +kernel
theorem dX3_lowestBits_36 : decode cX3_lowestBits 36 = .ok (.lreturn, 1) := by decide +kernel
theorem dX3_lowestBits_37 : decode cX3_lowestBits 37 = .ok (.lload_n 1, 1) := by decide +kernel
theorem dX3_lowestBits_38 : decode cX3_lowestBits 38 = .ok (.l2i, 1) := by decide +kernel
theorem dX3_lowestBits_39 : decode cX3_lowestBits 39 = .ok (.i2s, 1) := by decide +kernel
theorem dX3_lowestBits_40 : decode cX3_lowestBits 40 = .ok (.i2l, 1) := by decide +kernel
theorem dX3_lowestBits_41 : decode cX3_lowestBits 41 = .ok (.lreturn, 1) := by decide +kernel
theorem dX3_lowestBits_42 : decode cX3_lowestBits 42 = .ok (.lload_n 1, 1) := by decide +kernel
theorem dX3_lowestBits_43 : decode cX3_lowestBits 43 = .ok (.lreturn, 1) := by decide +kernel
theorem dX3_hasPart_0 : decode cX3_hasPart 0 = .ok (.iload_n 1, 1) := by decide +kernel
theorem dX3_hasPart_1 : decode cX3_hasPart 1 = .ok (.ifCond .lt 29, 3) := by decide +kernel
theorem dX3_hasPart_4 : decode cX3_hasPart 4 = .ok (.iload_n 2, 1) := by decide +kernel
theorem dX3_hasPart_5 : decode cX3_hasPart 5 = .ok (.ifCond .lt 25, 3) := by decide +kernel
theorem dX3_hasPart_8 : decode cX3_hasPart 8 = .ok (.iload_n 2, 1) := by decide +kernel
theorem dX3_hasPart_9 : decode cX3_hasPart 9 = .ok (.aload_n 0, 1) := by decide +kernel
theorem dX3_hasPart_10 : decode cX3_hasPart 10 = .ok (.getfield 19, 3) := by decide +kernel
theorem dX3_hasPart_13 : decode cX3_hasPart 13 = .ok (.if_icmp .gt 17, 3) := by decide +kernel
theorem dX3_hasPart_16 : decode cX3_hasPart 16 = .ok (.iload_n 1, 1) := by decide +kernel
theorem dX3_hasPart_17 : decode cX3_hasPart 17 = .ok (.aload_n 0, 1) := by decide +kernel
theorem dX3_hasPart_18 : decode cX3_hasPart 18 = .ok (.getfield 19, 3) := by decide +kernel
theorem dX3_hasPart_21 : decode cX3_hasPart 21 = .ok (.iload_n 2, 1) := by decide +kernel
theorem dX3_hasPart_22 : decode cX3_hasPart 22 = .ok (.isub, 1) := by decide +kernel
theorem dX3_hasPart_23 : decode cX3_hasPart 23 = .ok (.if_icmp .gt 7, 3) := by decide +kernel
theorem dX3_hasPart_26 : decode cX3_hasPart 26 = .ok (.iconst 1, 1) := by decide +kernel
theorem dX3_hasPart_27 : decode cX3_hasPart 27 = .ok (.goto 4, 3) := by decide +kernel
theorem dX3_hasPart_30 : decode cX3_hasPart 30 = .ok (.iconst 0, 1) := by decide +kernel
theorem dX3_hasPart_31 : decode cX3_hasPart 31 = .ok (.ireturn, 1) := by decide +kernel
theorem dX4_init_0 : decode cX4_init 0 = .ok (.aload_n 0, 1) := by decide +kernel
theorem dX4_init_1 : decode cX4_init 1 = .ok (.invokespecial 3, 3) := by decide +kernel
theorem dX4_init_4 : decode cX4_init 4 = .ok (.aload_n 0, 1) := by decide +kernel
theorem dX4_init_5 : decode cX4_init 5 = .ok (.bipush 60, 2) := by decide +kernel
theorem dX4_init_7 : decode cX4_init 7 = .ok (.newarray .int, 2) := by decide +kernel
theorem dX4_init_9 : decode cX4_init 9 = .ok (.putfield 9, 3) := by decide +kernel
theorem dX4_init_12 : decode cX4_init 12 = .ok (.aload_n 0, 1) := by decide +kernel
theorem dX4_init_13 : decode cX4_init 13 = .ok (.iconst 0, 1) := by decide +kernel
theorem dX4_init_14 : decode cX4_init 14 = .ok (.putfield 15, 3) := by decide +kernel
theorem dX4_init_17 : decode cX4_init 17 = .ok (.return_, 1) := by decide +kernel
theorem dX4_copyFrom_0 : decode cX4_copyFrom 0 = .ok (.aload_n 0, 1) := by decide +kernel
theorem dX4_copyFrom_1 : decode cX4_copyFrom 1 = .ok (.aload_n 1, 1) := by decide +kernel
theorem dX4_copyFrom_2 : decode cX4_copyFrom 2 = .ok (.getfield 15, 3) := by decide +kernel
theorem dX4_copyFrom_5 : decode cX4_copyFrom 5 = .ok (.putfield 15, 3) := by decide +kernel
theorem dX4_copyFrom_8 : decode cX4_copyFrom 8 = .ok (.aload_n 1, 1) := by decide +kernel
theorem dX4_copyFrom_9 : decode cX4_copyFrom 9 = .ok (.getfield 9, 3) := by decide +kernel
theorem dX4_copyFrom_12 : decode cX4_copyFrom 12 = .ok (.iconst 0, 1) := by decide +kernel
theorem dX4_copyFrom_13 : decode cX4_copyFrom 13 = .ok (.aload_n 0, 1) := by decide +kernel
theorem dX4_copyFrom_14 : decode cX4_copyFrom 14 = .ok (.getfield 9, 3) := by decide +kernel
theorem dX4_copyFrom_17 : decode cX4_copyFrom 17 = .ok (.iconst 0, 1) := by decide +kernel
theorem dX4_copyFrom_18 : decode cX4_copyFrom 18 = .ok (.aload_n 0, 1) := by decide +kernel
theorem dX4_copyFrom_19 : decode cX4_copyFrom 19 = .ok (.getfield 15, 3) := by decide +kernel
theorem dX4_copyFrom_22 : decode cX4_copyFrom 22 = .ok (.invokestatic 19, 3) := by decide +kernel
theorem dX4_copyFrom_25 : decode cX4_copyFrom 25 = .ok (.return_, 1) := by decide +kernel
theorem dX4_findFault_0 : decode cX4_findFault 0 = .ok (.aload_n 0, 1) := by decide +kernel
theorem dX4_findFault_1 : decode cX4_findFault 1 = .ok (.invokevirtual 25, 3) := by decide +kernel
theorem dX4_findFault_4 : decode cX4_findFault 4 = .ok (.aload_n 0, 1) := by decide +kernel
theorem dX4_findFault_5 : decode cX4_findFault 5 = .ok (.iconst 0, 1) := by decide +kernel
theorem dX4_findFault_6 : decode cX4_findFault 6 = .ok (.invokevirtual 28, 3) := by decide +kernel
theorem dX4_findFault_9 : decode cX4_findFault 9 = .ok (.pop, 1) := by decide +kernel
theorem dX4_findFault_10 : decode cX4_findFault 10 = .ok (.aload_n 0, 1) := by decide +kernel
theorem dX4_findFault_11 : decode cX4_findFault 11 = .ok (.getfield 32, 3) := by decide +kernel
theorem dX4_findFault_14 : decode cX4_findFault 14 = .ok (.ifCond .ge 22, 3) := by decide +kernel
theorem dX4_findFault_17 : decode cX4_findFault 17 = .ok (.aload_n 0, 1) := by decide +kernel
theorem dX4_findFault_18 : decode cX4_findFault 18 = .ok (.getfield 35, 3) := by decide +kernel
theorem dX4_findFault_21 : decode cX4_findFault 21 = .ok (.aload_n 0, 1) := by decide +kernel
theorem dX4_findFault_22 : decode cX4_findFault 22 = .ok (.getfield 15, 3) := by decide +kernel
theorem dX4_findFault_25 : decode cX4_findFault 25 = .ok (.if_icmp .ge 11, 3) := by decide +kernel
theorem dX4_findFault_28 : decode cX4_findFault 28 = .ok (.aload_n 0, 1) := by decide +kernel
theorem dX4_findFault_29 : decode cX4_findFault 29 = .ok (.aload_n 0, 1) := by decide +kernel
theorem dX4_findFault_30 : decode cX4_findFault 30 = .ok (.getfield 35, 3) := by decide +kernel
theorem dX4_findFault_33 : decode cX4_findFault 33 = .ok (.putfield 32, 3) := by decide +kernel
theorem dX4_findFault_36 : decode cX4_findFault 36 = .ok (.aload_n 0, 1) := by decide +kernel
theorem dX4_findFault_37 : decode cX4_findFault 37 = .ok (.getfield 32, 3) := by decide +kernel
theorem dX4_findFault_40 : decode cX4_findFault 40 = .ok (.ireturn, 1) := by decide +kernel
theorem dX4_valueFor_0 : decode cX4_valueFor 0 = .ok (.aload_n 0, 1) := by decide +kernel
theorem dX4_valueFor_1 : decode cX4_valueFor 1 = .ok (.iload 4, 2) := by decide +kernel
theorem dX4_valueFor_3 : decode cX4_valueFor 3 = .ok (.putfield 38, 3) := by decide +kernel
theorem dX4_valueFor_6 : decode cX4_valueFor 6 = .ok (.aload_n 0, 1) := by decide +kernel
theorem dX4_valueFor_7 : decode cX4_valueFor 7 = .ok (.aload_n 1, 1) := by decide +kernel
theorem dX4_valueFor_8 : decode cX4_valueFor 8 = .ok (.getfield 41, 3) := by decide +kernel
theorem dX4_valueFor_11 : decode cX4_valueFor 11 = .ok (.putfield 46, 3) := by decide +kernel
theorem dX4_valueFor_14 : decode cX4_valueFor 14 = .ok (.aload_n 0, 1) := by decide +kernel
theorem dX4_valueFor_15 : decode cX4_valueFor 15 = .ok (.aload_n 1, 1) := by decide +kernel
theorem dX4_valueFor_16 : decode cX4_valueFor 16 = .ok (.getfield 47, 3) := by decide +kernel
theorem dX4_valueFor_19 : decode cX4_valueFor 19 = .ok (.putfield 50, 3) := by decide +kernel
theorem dX4_valueFor_22 : decode cX4_valueFor 22 = .ok (.aload_n 0, 1) := by decide +kernel
theorem dX4_valueFor_23 : decode cX4_valueFor 23 = .ok (.iload_n 2, 1) := by decide +kernel
theorem dX4_valueFor_24 : decode cX4_valueFor 24 = .ok (.putfield 51, 3) := by decide +kernel
theorem dX4_valueFor_27 : decode cX4_valueFor 27 = .ok (.aload_n 0, 1) := by decide +kernel
theorem dX4_valueFor_28 : decode cX4_valueFor 28 = .ok (.aload_n 1, 1) := by decide +kernel
theorem dX4_valueFor_29 : decode cX4_valueFor 29 = .ok (.getfield 54, 3) := by decide +kernel
theorem dX4_valueFor_32 : decode cX4_valueFor 32 = .ok (.putfield 57, 3) := by decide +kernel
theorem dX4_valueFor_35 : decode cX4_valueFor 35 = .ok (.aload_n 0, 1) := by decide +kernel
theorem dX4_valueFor_36 : decode cX4_valueFor 36 = .ok (.iload_n 3, 1) := by decide +kernel
theorem dX4_valueFor_37 : decode cX4_valueFor 37 = .ok (.putfield 58, 3) := by decide +kernel
theorem dX4_valueFor_40 : decode cX4_valueFor 40 = .ok (.aload_n 0, 1) := by decide +kernel
theorem dX4_valueFor_41 : decode cX4_valueFor 41 = .ok (.invokevirtual 25, 3) := by decide +kernel
theorem dX4_valueFor_44 : decode cX4_valueFor 44 = .ok (.aload_n 0, 1) := by decide +kernel
theorem dX4_valueFor_45 : decode cX4_valueFor 45 = .ok (.iconst 0, 1) := by decide +kernel
theorem dX4_valueFor_46 : decode cX4_valueFor 46 = .ok (.invokevirtual 28, 3) := by decide +kernel
theorem dX4_valueFor_49 : decode cX4_valueFor 49 = .ok (.ireturn, 1) := by decide +kernel
theorem dX4_begin_0 : decode cX4_begin 0 = .ok (.aload_n 0, 1) := by decide +kernel
theorem dX4_begin_1 : decode cX4_begin 1 = .ok (.iconst 0, 1) := by decide +kernel
theorem dX4_begin_2 : decode cX4_begin 2 = .ok (.putfield 35, 3) := by decide +kernel
theorem dX4_begin_5 : decode cX4_begin 5 = .ok (.aload_n 0, 1) := by decide +kernel
theorem dX4_begin_6 : decode cX4_begin 6 = .ok (.iconst (-1), 1) := by decide +kernel
theorem dX4_begin_7 : decode cX4_begin 7 = .ok (.putfield 32, 3) := by decide +kernel
theorem dX4_begin_10 : decode cX4_begin 10 = .ok (.aload_n 0, 1) := by decide +kernel
theorem dX4_begin_11 : decode cX4_begin 11 = .ok (.aload_n 0, 1) := by decide +kernel
theorem dX4_begin_12 : decode cX4_begin 12 = .ok (.getfield 15, 3) := by decide +kernel
theorem dX4_begin_15 : decode cX4_begin 15 = .ok (.ifCond .le 12, 3) := by decide +kernel
theorem dX4_begin_18 : decode cX4_begin 18 = .ok (.aload_n 0, 1) := by decide +kernel
theorem dX4_begin_19 : decode cX4_begin 19 = .ok (.getfield 9, 3) := by decide +kernel
theorem dX4_begin_22 : decode cX4_begin 22 = .ok (.iconst 0, 1) := by decide +kernel
theorem dX4_begin_23 : decode cX4_begin 23 = .ok (.iaload, 1) := by decide +kernel
theorem dX4_begin_24 : decode cX4_begin 24 = .ok (.goto 4, 3) := by decide +kernel
theorem dX4_begin_27 : decode cX4_begin 27 = .ok (.iconst (-1), 1) := by decide +kernel
theorem dX4_begin_28 : decode cX4_begin 28 = .ok (.putfield 61, 3) := by decide +kernel
theorem dX4_begin_31 : decode cX4_begin 31 = .ok (.return_, 1) := by decide +kernel
theorem dX4_pass_0 : decode cX4_pass 0 = .ok (.aload_n 0, 1) := by decide +kernel
theorem dX4_pass_1 : decode cX4_pass 1 = .ok (.getfield 32, 3) := by decide +kernel
theorem dX4_pass_4 : decode cX4_pass 4 = .ok (.ifCond .ge 35, 3) := by decide +kernel
theorem dX4_pass_7 : decode cX4_pass 7 = .ok (.aload_n 0, 1) := by decide +kernel
theorem dX4_pass_8 : decode cX4_pass 8 = .ok (.getfield 35, 3) := by decide +kernel
theorem dX4_pass_11 : decode cX4_pass 11 = .ok (.aload_n 0, 1) := by decide +kernel
theorem dX4_pass_12 : decode cX4_pass 12 = .ok (.getfield 15, 3) := by decide +kernel
theorem dX4_pass_15 : decode cX4_pass 15 = .ok (.if_icmp .ge 24, 3) := by decide +kernel
theorem dX4_pass_18 : decode cX4_pass 18 = .ok (.aload_n 0, 1) := by decide +kernel
theorem dX4_pass_19 : decode cX4_pass 19 = .ok (.getfield 61, 3) := by decide +kernel
theorem dX4_pass_22 : decode cX4_pass 22 = .ok (.iload_n 1, 1) := by decide +kernel
theorem dX4_pass_23 : decode cX4_pass 23 = .ok (.if_icmp .ne 16, 3) := by decide +kernel
theorem dX4_pass_26 : decode cX4_pass 26 = .ok (.aload_n 0, 1) := by decide +kernel
theorem dX4_pass_27 : decode cX4_pass 27 = .ok (.dup, 1) := by decide +kernel
theorem dX4_pass_28 : decode cX4_pass 28 = .ok (.getfield 35, 3) := by decide +kernel
theorem dX4_pass_31 : decode cX4_pass 31 = .ok (.iconst 1, 1) := by decide +kernel
theorem dX4_pass_32 : decode cX4_pass 32 = .ok (.iadd, 1) := by decide +kernel
theorem dX4_pass_33 : decode cX4_pass 33 = .ok (.putfield 35, 3) := by decide +kernel
theorem dX4_pass_36 : decode cX4_pass 36 = .ok (.goto 18, 3) := by decide +kernel
theorem dX4_pass_39 : decode cX4_pass 39 = .ok (.aload_n 0, 1) := by decide +kernel
theorem dX4_pass_40 : decode cX4_pass 40 = .ok (.getfield 32, 3) := by decide +kernel
theorem dX4_pass_43 : decode cX4_pass 43 = .ok (.ifCond .ge 11, 3) := by decide +kernel
theorem dX4_pass_46 : decode cX4_pass 46 = .ok (.aload_n 0, 1) := by decide +kernel
theorem dX4_pass_47 : decode cX4_pass 47 = .ok (.aload_n 0, 1) := by decide +kernel
theorem dX4_pass_48 : decode cX4_pass 48 = .ok (.getfield 35, 3) := by decide +kernel
theorem dX4_pass_51 : decode cX4_pass 51 = .ok (.putfield 32, 3) := by decide +kernel
theorem dX4_pass_54 : decode cX4_pass 54 = .ok (.aload_n 0, 1) := by decide +kernel
theorem dX4_pass_55 : decode cX4_pass 55 = .ok (.aload_n 0, 1) := by decide +kernel
theorem dX4_pass_56 : decode cX4_pass 56 = .ok (.getfield 32, 3) := by decide +kernel
theorem dX4_pass_59 : decode cX4_pass 59 = .ok (.ifCond .ge 26, 3) := by decide +kernel
theorem dX4_pass_62 : decode cX4_pass 62 = .ok (.aload_n 0, 1) := by decide +kernel
theorem dX4_pass_63 : decode cX4_pass 63 = .ok (.getfield 35, 3) := by decide +kernel
theorem dX4_pass_66 : decode cX4_pass 66 = .ok (.aload_n 0, 1) := by decide +kernel
theorem dX4_pass_67 : decode cX4_pass 67 = .ok (.getfield 15, 3) := by decide +kernel
theorem dX4_pass_70 : decode cX4_pass 70 = .ok (.if_icmp .ge 15, 3) := by decide +kernel
theorem dX4_pass_73 : decode cX4_pass 73 = .ok (.aload_n 0, 1) := by decide +kernel
theorem dX4_pass_74 : decode cX4_pass 74 = .ok (.getfield 9, 3) := by decide +kernel
theorem dX4_pass_77 : decode cX4_pass 77 = .ok (.aload_n 0, 1) := by decide +kernel
theorem dX4_pass_78 : decode cX4_pass 78 = .ok (.getfield 35, 3) := by decide +kernel
theorem dX4_pass_81 : decode cX4_pass 81 = .ok (.iaload, 1) := by decide +kernel
theorem dX4_pass_82 : decode cX4_pass 82 = .ok (.goto 4, 3) := by decide +kernel
theorem dX4_pass_85 : decode cX4_pass 85 = .ok (.iconst (-1), 1) := by decide +kernel
theorem dX4_pass_86 : decode cX4_pass 86 = .ok (.putfield 61, 3) := by decide +kernel
theorem dX4_pass_89 : decode cX4_pass 89 = .ok (.return_, 1) := by decide +kernel
theorem dX4_sum_0 : decode cX4_sum 0 = .ok (.aload_n 0, 1) := by decide +kernel
theorem dX4_sum_1 : decode cX4_sum 1 = .ok (.iload_n 1, 1) := by decide +kernel
theorem dX4_sum_2 : decode cX4_sum 2 = .ok (.invokevirtual 64, 3) := by decide +kernel
theorem dX4_sum_5 : decode cX4_sum 5 = .ok (.istore_n 2, 1) := by decide +kernel
theorem dX4_sum_6 : decode cX4_sum 6 = .ok (.iconst 0, 1) := by decide +kernel
theorem dX4_sum_7 : decode cX4_sum 7 = .ok (.istore_n 3, 1) := by decide +kernel
theorem dX4_sum_8 : decode cX4_sum 8 = .ok (.iload_n 3, 1) := by decide +kernel
theorem dX4_sum_9 : decode cX4_sum 9 = .ok (.bipush 60, 2) := by decide +kernel
theorem dX4_sum_11 : decode cX4_sum 11 = .ok (.if_icmp .ge 65, 3) := by decide +kernel
theorem dX4_sum_14 : decode cX4_sum 14 = .ok (.aload_n 0, 1) := by decide +kernel
theorem dX4_sum_15 : decode cX4_sum 15 = .ok (.getfield 61, 3) := by decide +kernel
theorem dX4_sum_18 : decode cX4_sum 18 = .ok (.bipush 43, 2) := by decide +kernel
theorem dX4_sum_20 : decode cX4_sum 20 = .ok (.if_icmp .eq 12, 3) := by decide +kernel
theorem dX4_sum_23 : decode cX4_sum 23 = .ok (.aload_n 0, 1) := by decide +kernel
theorem dX4_sum_24 : decode cX4_sum 24 = .ok (.getfield 61, 3) := by decide +kernel
theorem dX4_sum_27 : decode cX4_sum 27 = .ok (.bipush 45, 2) := by decide +kernel
theorem dX4_sum_29 : decode cX4_sum 29 = .ok (.if_icmp .ne 47, 3) := by decide +kernel
theorem dX4_sum_32 : decode cX4_sum 32 = .ok (.aload_n 0, 1) := by decide +kernel
theorem dX4_sum_33 : decode cX4_sum 33 = .ok (.getfield 61, 3) := by decide +kernel
theorem dX4_sum_36 : decode cX4_sum 36 = .ok (.istore 4, 2) := by decide +kernel
theorem dX4_sum_38 : decode cX4_sum 38 = .ok (.aload_n 0, 1) := by decide +kernel
theorem dX4_sum_39 : decode cX4_sum 39 = .ok (.iload 4, 2) := by decide +kernel
theorem dX4_sum_41 : decode cX4_sum 41 = .ok (.invokevirtual 67, 3) := by decide +kernel
theorem dX4_sum_44 : decode cX4_sum 44 = .ok (.aload_n 0, 1) := by decide +kernel
theorem dX4_sum_45 : decode cX4_sum 45 = .ok (.iload_n 1, 1) := by decide +kernel
theorem dX4_sum_46 : decode cX4_sum 46 = .ok (.invokevirtual 64, 3) := by decide +kernel
theorem dX4_sum_49 : decode cX4_sum 49 = .ok (.istore 5, 2) := by decide +kernel
theorem dX4_sum_51 : decode cX4_sum 51 = .ok (.iload 4, 2) := by decide +kernel
theorem dX4_sum_53 : decode cX4_sum 53 = .ok (.bipush 43, 2) := by decide +kernel
theorem dX4_sum_55 : decode cX4_sum 55 = .ok (.if_icmp .ne 10, 3) := by decide +kernel
theorem dX4_sum_58 : decode cX4_sum 58 = .ok (.iload_n 2, 1) := by decide +kernel
theorem dX4_sum_59 : decode cX4_sum 59 = .ok (.iload 5, 2) := by decide +kernel
theorem dX4_sum_61 : decode cX4_sum 61 = .ok (.iadd, 1) := by decide +kernel
theorem dX4_sum_62 : decode cX4_sum 62 = .ok (.goto 7, 3) := by decide +kernel
theorem dX4_sum_65 : decode cX4_sum 65 = .ok (.iload_n 2, 1) := by decide +kernel
theorem dX4_sum_66 : decode cX4_sum 66 = .ok (.iload 5, 2) := by decide +kernel
theorem dX4_sum_68 : decode cX4_sum 68 = .ok (.isub, 1) := by decide +kernel
theorem dX4_sum_69 : decode cX4_sum 69 = .ok (.istore_n 2, 1) := by decide +kernel
theorem dX4_sum_70 : decode cX4_sum 70 = .ok (.iinc 3 1, 3) := by decide +kernel
theorem dX4_sum_73 : decode cX4_sum 73 = .ok (.goto (-65), 3) := by decide +kernel
theorem dX4_sum_76 : decode cX4_sum 76 = .ok (.iload_n 2, 1) := by decide +kernel
theorem dX4_sum_77 : decode cX4_sum 77 = .ok (.ireturn, 1) := by decide +kernel
theorem dX4_product_0 : decode cX4_product 0 = .ok (.aload_n 0, 1) := by decide +kernel
theorem dX4_product_1 : decode cX4_product 1 = .ok (.iload_n 1, 1) := by decide +kernel
theorem dX4_product_2 : decode cX4_product 2 = .ok (.invokevirtual 71, 3) := by decide +kernel
theorem dX4_product_5 : decode cX4_product 5 = .ok (.istore_n 2, 1) := by decide +kernel
theorem dX4_product_6 : decode cX4_product 6 = .ok (.iconst 0, 1) := by decide +kernel
theorem dX4_product_7 : decode cX4_product 7 = .ok (.istore_n 3, 1) := by decide +kernel
theorem dX4_product_8 : decode cX4_product 8 = .ok (.iload_n 3, 1) := by decide +kernel
theorem dX4_product_9 : decode cX4_product 9 = .ok (.bipush 60, 2) := by decide +kernel
theorem dX4_product_11 : decode cX4_product 11 = .ok (.if_icmp .ge 75, 3) := by decide +kernel
theorem dX4_product_14 : decode cX4_product 14 = .ok (.aload_n 0, 1) := by decide +kernel
theorem dX4_product_15 : decode cX4_product 15 = .ok (.getfield 61, 3) := by decide +kernel
theorem dX4_product_18 : decode cX4_product 18 = .ok (.bipush 42, 2) := by decide +kernel
theorem dX4_product_20 : decode cX4_product 20 = .ok (.if_icmp .eq 12, 3) := by decide +kernel
theorem dX4_product_23 : decode cX4_product 23 = .ok (.aload_n 0, 1) := by decide +kernel
theorem dX4_product_24 : decode cX4_product 24 = .ok (.getfield 61, 3) := by decide +kernel
theorem dX4_product_27 : decode cX4_product 27 = .ok (.bipush 47, 2) := by decide +kernel
theorem dX4_product_29 : decode cX4_product 29 = .ok (.if_icmp .ne 57, 3) := by decide +kernel
theorem dX4_product_32 : decode cX4_product 32 = .ok (.aload_n 0, 1) := by decide +kernel
theorem dX4_product_33 : decode cX4_product 33 = .ok (.getfield 61, 3) := by decide +kernel
theorem dX4_product_36 : decode cX4_product 36 = .ok (.istore 4, 2) := by decide +kernel
theorem dX4_product_38 : decode cX4_product 38 = .ok (.aload_n 0, 1) := by decide +kernel
theorem dX4_product_39 : decode cX4_product 39 = .ok (.iload 4, 2) := by decide +kernel
theorem dX4_product_41 : decode cX4_product 41 = .ok (.invokevirtual 67, 3) := by decide +kernel
theorem dX4_product_44 : decode cX4_product 44 = .ok (.aload_n 0, 1) := by decide +kernel
theorem dX4_product_45 : decode cX4_product 45 = .ok (.iload_n 1, 1) := by decide +kernel
theorem dX4_product_46 : decode cX4_product 46 = .ok (.invokevirtual 71, 3) := by decide +kernel
theorem dX4_product_49 : decode cX4_product 49 = .ok (.istore 5, 2) := by decide +kernel
theorem dX4_product_51 : decode cX4_product 51 = .ok (.iload 4, 2) := by decide +kernel
theorem dX4_product_53 : decode cX4_product 53 = .ok (.bipush 42, 2) := by decide +kernel
theorem dX4_product_55 : decode cX4_product 55 = .ok (.if_icmp .ne 11, 3) := by decide +kernel
theorem dX4_product_58 : decode cX4_product 58 = .ok (.iload_n 2, 1) := by decide +kernel
theorem dX4_product_59 : decode cX4_product 59 = .ok (.iload 5, 2) := by decide +kernel
theorem dX4_product_61 : decode cX4_product 61 = .ok (.imul, 1) := by decide +kernel
theorem dX4_product_62 : decode cX4_product 62 = .ok (.istore_n 2, 1) := by decide +kernel
theorem dX4_product_63 : decode cX4_product 63 = .ok (.goto 17, 3) := by decide +kernel
theorem dX4_product_66 : decode cX4_product 66 = .ok (.iload 5, 2) := by decide +kernel
theorem dX4_product_68 : decode cX4_product 68 = .ok (.ifCond .ne 7, 3) := by decide +kernel
theorem dX4_product_71 : decode cX4_product 71 = .ok (.iconst 0, 1) := by decide +kernel
theorem dX4_product_72 : decode cX4_product 72 = .ok (.goto 7, 3) := by decide +kernel
theorem dX4_product_75 : decode cX4_product 75 = .ok (.iload_n 2, 1) := by decide +kernel
theorem dX4_product_76 : decode cX4_product 76 = .ok (.iload 5, 2) := by decide +kernel
theorem dX4_product_78 : decode cX4_product 78 = .ok (.idiv, 1) := by decide +kernel
theorem dX4_product_79 : decode cX4_product 79 = .ok (.istore_n 2, 1) := by decide +kernel
theorem dX4_product_80 : decode cX4_product 80 = .ok (.iinc 3 1, 3) := by decide +kernel
theorem dX4_product_83 : decode cX4_product 83 = .ok (.goto (-75), 3) := by decide +kernel
theorem dX4_product_86 : decode cX4_product 86 = .ok (.iload_n 2, 1) := by decide +kernel
theorem dX4_product_87 : decode cX4_product 87 = .ok (.ireturn, 1) := by decide +kernel
theorem dX4_factor_0 : decode cX4_factor 0 = .ok (.aload_n 0, 1) := by decide +kernel
theorem dX4_factor_1 : decode cX4_factor 1 = .ok (.getfield 61, 3) := by decide +kernel
theorem dX4_factor_4 : decode cX4_factor 4 = .ok (.istore_n 2, 1) := by decide +kernel
theorem dX4_factor_5 : decode cX4_factor 5 = .ok (.iconst 0, 1) := by decide +kernel
theorem dX4_factor_6 : decode cX4_factor 6 = .ok (.istore_n 3, 1) := by decide +kernel
theorem dX4_factor_7 : decode cX4_factor 7 = .ok (.iload_n 2, 1) := by decide +kernel
theorem dX4_factor_8 : decode cX4_factor 8 = .ok (.bipush 48, 2) := by decide +kernel
theorem dX4_factor_10 : decode cX4_factor 10 = .ok (.if_icmp .lt 65, 3) := by decide +kernel
theorem dX4_factor_13 : decode cX4_factor 13 = .ok (.iload_n 2, 1) := by decide +kernel
theorem dX4_factor_14 : decode cX4_factor 14 = .ok (.bipush 57, 2) := by decide +kernel
theorem dX4_factor_16 : decode cX4_factor 16 = .ok (.if_icmp .gt 59, 3) := by decide +kernel
theorem dX4_factor_19 : decode cX4_factor 19 = .ok (.iconst 0, 1) := by decide +kernel
theorem dX4_factor_20 : decode cX4_factor 20 = .ok (.istore 4, 2) := by decide +kernel
theorem dX4_factor_22 : decode cX4_factor 22 = .ok (.iload 4, 2) := by decide +kernel
theorem dX4_factor_24 : decode cX4_factor 24 = .ok (.iconst 3, 1) := by decide +kernel
theorem dX4_factor_25 : decode cX4_factor 25 = .ok (.if_icmp .ge 48, 3) := by decide +kernel
theorem dX4_factor_28 : decode cX4_factor 28 = .ok (.aload_n 0, 1) := by decide +kernel
theorem dX4_factor_29 : decode cX4_factor 29 = .ok (.getfield 61, 3) := by decide +kernel
theorem dX4_factor_32 : decode cX4_factor 32 = .ok (.bipush 48, 2) := by decide +kernel
theorem dX4_factor_34 : decode cX4_factor 34 = .ok (.if_icmp .lt 39, 3) := by decide +kernel
theorem dX4_factor_37 : decode cX4_factor 37 = .ok (.aload_n 0, 1) := by decide +kernel
theorem dX4_factor_38 : decode cX4_factor 38 = .ok (.getfield 61, 3) := by decide +kernel
theorem dX4_factor_41 : decode cX4_factor 41 = .ok (.bipush 57, 2) := by decide +kernel
theorem dX4_factor_43 : decode cX4_factor 43 = .ok (.if_icmp .gt 30, 3) := by decide +kernel
theorem dX4_factor_46 : decode cX4_factor 46 = .ok (.bipush 10, 2) := by decide +kernel
theorem dX4_factor_48 : decode cX4_factor 48 = .ok (.iload_n 3, 1) := by decide +kernel
theorem dX4_factor_49 : decode cX4_factor 49 = .ok (.imul, 1) := by decide +kernel
theorem dX4_factor_50 : decode cX4_factor 50 = .ok (.aload_n 0, 1) := by decide +kernel
theorem dX4_factor_51 : decode cX4_factor 51 = .ok (.getfield 61, 3) := by decide +kernel
theorem dX4_factor_54 : decode cX4_factor 54 = .ok (.iadd, 1) := by decide +kernel
theorem dX4_factor_55 : decode cX4_factor 55 = .ok (.bipush 48, 2) := by decide +kernel
theorem dX4_factor_57 : decode cX4_factor 57 = .ok (.isub, 1) := by decide +kernel
theorem dX4_factor_58 : decode cX4_factor 58 = .ok (.istore_n 3, 1) := by decide +kernel
theorem dX4_factor_59 : decode cX4_factor 59 = .ok (.aload_n 0, 1) := by decide +kernel
theorem dX4_factor_60 : decode cX4_factor 60 = .ok (.aload_n 0, 1) := by decide +kernel
theorem dX4_factor_61 : decode cX4_factor 61 = .ok (.getfield 61, 3) := by decide +kernel
theorem dX4_factor_64 : decode cX4_factor 64 = .ok (.invokevirtual 67, 3) := by decide +kernel
theorem dX4_factor_67 : decode cX4_factor 67 = .ok (.iinc 4 1, 3) := by decide +kernel
theorem dX4_factor_70 : decode cX4_factor 70 = .ok (.goto (-48), 3) := by decide +kernel
theorem dX4_factor_73 : decode cX4_factor 73 = .ok (.iload_n 3, 1) := by decide +kernel
theorem dX4_factor_74 : decode cX4_factor 74 = .ok (.ireturn, 1) := by decide +kernel
theorem dX4_factor_75 : decode cX4_factor 75 = .ok (.iload_n 2, 1) := by decide +kernel
theorem dX4_factor_76 : decode cX4_factor 76 = .ok (.bipush 45, 2) := by decide +kernel
theorem dX4_factor_78 : decode cX4_factor 78 = .ok (.if_icmp .eq 15, 3) := by decide +kernel
theorem dX4_factor_81 : decode cX4_factor 81 = .ok (.iload_n 2, 1) := by decide +kernel
theorem dX4_factor_82 : decode cX4_factor 82 = .ok (.bipush 40, 2) := by decide +kernel
theorem dX4_factor_84 : decode cX4_factor 84 = .ok (.if_icmp .eq 9, 3) := by decide +kernel
theorem dX4_factor_87 : decode cX4_factor 87 = .ok (.iload_n 2, 1) := by decide +kernel
theorem dX4_factor_88 : decode cX4_factor 88 = .ok (.bipush 91, 2) := by decide +kernel
theorem dX4_factor_90 : decode cX4_factor 90 = .ok (.if_icmp .ne 87, 3) := by decide +kernel
theorem dX4_factor_93 : decode cX4_factor 93 = .ok (.iload_n 1, 1) := by decide +kernel
theorem dX4_factor_94 : decode cX4_factor 94 = .ok (.iconst 5, 1) := by decide +kernel
theorem dX4_factor_95 : decode cX4_factor 95 = .ok (.if_icmp .lt 11, 3) := by decide +kernel
theorem dX4_factor_98 : decode cX4_factor 98 = .ok (.aload_n 0, 1) := by decide +kernel
theorem dX4_factor_99 : decode cX4_factor 99 = .ok (.bipush (-2), 2) := by decide +kernel
theorem dX4_factor_101 : decode cX4_factor 101 = .ok (.invokevirtual 67, 3) := by decide +kernel
theorem dX4_factor_104 : decode cX4_factor 104 = .ok (.iconst 0, 1) := by decide +kernel
theorem dX4_factor_105 : decode cX4_factor 105 = .ok (.ireturn, 1) := by decide +kernel
theorem dX4_factor_106 : decode cX4_factor 106 = .ok (.aload_n 0, 1) := by decide +kernel
theorem dX4_factor_107 : decode cX4_factor 107 = .ok (.iload_n 2, 1) := by decide +kernel
theorem dX4_factor_108 : decode cX4_factor 108 = .ok (.invokevirtual 67, 3) := by decide +kernel
theorem dX4_factor_111 : decode cX4_factor 111 = .ok (.iload_n 2, 1) := by decide +kernel
theorem dX4_factor_112 : decode cX4_factor 112 = .ok (.bipush 45, 2) := by decide +kernel
theorem dX4_factor_114 : decode cX4_factor 114 = .ok (.if_icmp .ne 12, 3) := by decide +kernel
theorem dX4_factor_117 : decode cX4_factor 117 = .ok (.aload_n 0, 1) := by decide +kernel
theorem dX4_factor_118 : decode cX4_factor 118 = .ok (.iload_n 1, 1) := by decide +kernel
theorem dX4_factor_119 : decode cX4_factor 119 = .ok (.iconst 1, 1) := by decide +kernel
theorem dX4_factor_120 : decode cX4_factor 120 = .ok (.iadd, 1) := by decide +kernel
theorem dX4_factor_121 : decode cX4_factor 121 = .ok (.invokevirtual 71, 3) := by decide +kernel
theorem dX4_factor_124 : decode cX4_factor 124 = .ok (.ineg, 1) := by decide +kernel
theorem dX4_factor_125 : decode cX4_factor 125 = .ok (.ireturn, 1) := by decide +kernel
theorem dX4_factor_126 : decode cX4_factor 126 = .ok (.aload_n 0, 1) := by decide +kernel
theorem dX4_factor_127 : decode cX4_factor 127 = .ok (.iload_n 1, 1) := by decide +kernel
theorem dX4_factor_128 : decode cX4_factor 128 = .ok (.iconst 1, 1) := by decide +kernel
theorem dX4_factor_129 : decode cX4_factor 129 = .ok (.iadd, 1) := by decide +kernel
theorem dX4_factor_130 : decode cX4_factor 130 = .ok (.invokevirtual 28, 3) := by decide +kernel
theorem dX4_factor_133 : decode cX4_factor 133 = .ok (.istore_n 3, 1) := by decide +kernel
theorem dX4_factor_134 : decode cX4_factor 134 = .ok (.iload_n 2, 1) := by decide +kernel
theorem dX4_factor_135 : decode cX4_factor 135 = .ok (.bipush 91, 2) := by decide +kernel
theorem dX4_factor_137 : decode cX4_factor 137 = .ok (.if_icmp .ne 21, 3) := by decide +kernel
theorem dX4_factor_140 : decode cX4_factor 140 = .ok (.aload_n 0, 1) := by decide +kernel
theorem dX4_factor_141 : decode cX4_factor 141 = .ok (.bipush 44, 2) := by decide +kernel
theorem dX4_factor_143 : decode cX4_factor 143 = .ok (.invokevirtual 67, 3) := by decide +kernel
theorem dX4_factor_146 : decode cX4_factor 146 = .ok (.iload_n 3, 1) := by decide +kernel
theorem dX4_factor_147 : decode cX4_factor 147 = .ok (.aload_n 0, 1) := by decide +kernel
theorem dX4_factor_148 : decode cX4_factor 148 = .ok (.iload_n 1, 1) := by decide +kernel
theorem dX4_factor_149 : decode cX4_factor 149 = .ok (.iconst 1, 1) := by decide +kernel
theorem dX4_factor_150 : decode cX4_factor 150 = .ok (.iadd, 1) := by decide +kernel
theorem dX4_factor_151 : decode cX4_factor 151 = .ok (.invokevirtual 28, 3) := by decide +kernel
theorem dX4_factor_154 : decode cX4_factor 154 = .ok (.invokestatic 74, 3) := by decide +kernel
theorem dX4_factor_157 : decode cX4_factor 157 = .ok (.istore_n 3, 1) := by decide +kernel
theorem dX4_factor_158 : decode cX4_factor 158 = .ok (.aload_n 0, 1) := by decide +kernel
theorem dX4_factor_159 : decode cX4_factor 159 = .ok (.iload_n 2, 1) := by decide +kernel
theorem dX4_factor_160 : decode cX4_factor 160 = .ok (.bipush 91, 2) := by decide +kernel
theorem dX4_factor_162 : decode cX4_factor 162 = .ok (.if_icmp .ne 8, 3) := by decide +kernel
theorem dX4_factor_165 : decode cX4_factor 165 = .ok (.bipush 93, 2) := by decide +kernel
theorem dX4_factor_167 : decode cX4_factor 167 = .ok (.goto 5, 3) := by decide +kernel
theorem dX4_factor_170 : decode cX4_factor 170 = .ok (.bipush 41, 2) := by decide +kernel
theorem dX4_factor_172 : decode cX4_factor 172 = .ok (.invokevirtual 67, 3) := by decide +kernel
theorem dX4_factor_175 : decode cX4_factor 175 = .ok (.iload_n 3, 1) := by decide +kernel
theorem dX4_factor_176 : decode cX4_factor 176 = .ok (.ireturn, 1) := by decide +kernel
theorem dX4_factor_177 : decode cX4_factor 177 = .ok (.aload_n 0, 1) := by decide +kernel
theorem dX4_factor_178 : decode cX4_factor 178 = .ok (.iload_n 2, 1) := by decide +kernel
theorem dX4_factor_179 : decode cX4_factor 179 = .ok (.invokevirtual 80, 3) := by decide +kernel
theorem dX4_factor_182 : decode cX4_factor 182 = .ok (.istore_n 3, 1) := by decide +kernel
theorem dX4_factor_183 : decode cX4_factor 183 = .ok (.aload_n 0, 1) := by decide +kernel
theorem dX4_factor_184 : decode cX4_factor 184 = .ok (.iload_n 2, 1) := by decide +kernel
theorem dX4_factor_185 : decode cX4_factor 185 = .ok (.invokestatic 83, 3) := by decide +kernel
theorem dX4_factor_188 : decode cX4_factor 188 = .ok (.ifCond .eq 7, 3) := by decide +kernel
theorem dX4_factor_191 : decode cX4_factor 191 = .ok (.iload_n 2, 1) := by decide +kernel
theorem dX4_factor_192 : decode cX4_factor 192 = .ok (.goto 5, 3) := by decide +kernel
theorem dX4_factor_195 : decode cX4_factor 195 = .ok (.bipush (-2), 2) := by decide +kernel
theorem dX4_factor_197 : decode cX4_factor 197 = .ok (.invokevirtual 67, 3) := by decide +kernel
theorem dX4_factor_200 : decode cX4_factor 200 = .ok (.iload_n 3, 1) := by decide +kernel
theorem dX4_factor_201 : decode cX4_factor 201 = .ok (.ireturn, 1) := by decide +kernel
theorem dX4_isName_0 : decode cX4_isName 0 = .ok (.iload_n 0, 1) := by decide +kernel
theorem dX4_isName_1 : decode cX4_isName 1 = .ok (.bipush 115, 2) := by decide +kernel
theorem dX4_isName_3 : decode cX4_isName 3 = .ok (.if_icmp .eq 33, 3) := by decide +kernel
theorem dX4_isName_6 : decode cX4_isName 6 = .ok (.iload_n 0, 1) := by decide +kernel
theorem dX4_isName_7 : decode cX4_isName 7 = .ok (.bipush 98, 2) := by decide +kernel
theorem dX4_isName_9 : decode cX4_isName 9 = .ok (.if_icmp .eq 27, 3) := by decide +kernel
theorem dX4_isName_12 : decode cX4_isName 12 = .ok (.iload_n 0, 1) := by decide +kernel
theorem dX4_isName_13 : decode cX4_isName 13 = .ok (.bipush 103, 2) := by decide +kernel
theorem dX4_isName_15 : decode cX4_isName 15 = .ok (.if_icmp .eq 21, 3) := by decide +kernel
theorem dX4_isName_18 : decode cX4_isName 18 = .ok (.iload_n 0, 1) := by decide +kernel
theorem dX4_isName_19 : decode cX4_isName 19 = .ok (.bipush 107, 2) := by decide +kernel
theorem dX4_isName_21 : decode cX4_isName 21 = .ok (.if_icmp .eq 15, 3) := by decide +kernel
theorem dX4_isName_24 : decode cX4_isName 24 = .ok (.iload_n 0, 1) := by decide +kernel
theorem dX4_isName_25 : decode cX4_isName 25 = .ok (.bipush 100, 2) := by decide +kernel
theorem dX4_isName_27 : decode cX4_isName 27 = .ok (.if_icmp .eq 9, 3) := by decide +kernel
theorem dX4_isName_30 : decode cX4_isName 30 = .ok (.iload_n 0, 1) := by decide +kernel
theorem dX4_isName_31 : decode cX4_isName 31 = .ok (.bipush 112, 2) := by decide +kernel
theorem dX4_isName_33 : decode cX4_isName 33 = .ok (.if_icmp .ne 7, 3) := by decide +kernel
theorem dX4_isName_36 : decode cX4_isName 36 = .ok (.iconst 1, 1) := by decide +kernel
theorem dX4_isName_37 : decode cX4_isName 37 = .ok (.goto 4, 3) := by decide +kernel
theorem dX4_isName_40 : decode cX4_isName 40 = .ok (.iconst 0, 1) := by decide +kernel
theorem dX4_isName_41 : decode cX4_isName 41 = .ok (.ireturn, 1) := by decide +kernel
theorem dX4_named_0 : decode cX4_named 0 = .ok (.iload_n 1, 1) := by decide +kernel
theorem dX4_named_1 : decode cX4_named 1 = .ok (.tableswitch 117 98 115 #[92, 117, 107, 117, 117, 97, 117, 117, 117, 102, 117, 117, 117, 117, 112, 117, 117, 87], 87) := by decide +kernel
theorem dX4_named_88 : decode cX4_named 88 = .ok (.aload_n 0, 1) := by decide +kernel
theorem dX4_named_89 : decode cX4_named 89 = .ok (.getfield 38, 3) := by decide +kernel
theorem dX4_named_92 : decode cX4_named 92 = .ok (.ireturn, 1) := by decide +kernel
theorem dX4_named_93 : decode cX4_named 93 = .ok (.aload_n 0, 1) := by decide +kernel
theorem dX4_named_94 : decode cX4_named 94 = .ok (.getfield 46, 3) := by decide +kernel
theorem dX4_named_97 : decode cX4_named 97 = .ok (.ireturn, 1) := by decide +kernel
theorem dX4_named_98 : decode cX4_named 98 = .ok (.aload_n 0, 1) := by decide +kernel
theorem dX4_named_99 : decode cX4_named 99 = .ok (.getfield 50, 3) := by decide +kernel
theorem dX4_named_102 : decode cX4_named 102 = .ok (.ireturn, 1) := by decide +kernel
theorem dX4_named_103 : decode cX4_named 103 = .ok (.aload_n 0, 1) := by decide +kernel
theorem dX4_named_104 : decode cX4_named 104 = .ok (.getfield 51, 3) := by decide +kernel
theorem dX4_named_107 : decode cX4_named 107 = .ok (.ireturn, 1) := by decide +kernel
theorem dX4_named_108 : decode cX4_named 108 = .ok (.aload_n 0, 1) := by decide +kernel
theorem dX4_named_109 : decode cX4_named 109 = .ok (.getfield 57, 3) := by decide +kernel
theorem dX4_named_112 : decode cX4_named 112 = .ok (.ireturn, 1) := by decide +kernel
theorem dX4_named_113 : decode cX4_named 113 = .ok (.aload_n 0, 1) := by decide +kernel
theorem dX4_named_114 : decode cX4_named 114 = .ok (.getfield 58, 3) := by decide +kernel
theorem dX4_named_117 : decode cX4_named 117 = .ok (.ireturn, 1) := by decide +kernel
theorem dX4_named_118 : decode cX4_named 118 = .ok (.iconst 0, 1) := by decide +kernel
theorem dX4_named_119 : decode cX4_named 119 = .ok (.ireturn, 1) := by decide +kernel
theorem dJ9_floorMod_7cf53_0 : decode cJ9_floorMod_7cf53 0 = .ok (.iload_n 0, 1) := by decide +kernel
theorem dJ9_floorMod_7cf53_1 : decode cJ9_floorMod_7cf53 1 = .ok (.iload_n 1, 1) := by decide +kernel
theorem dJ9_floorMod_7cf53_2 : decode cJ9_floorMod_7cf53 2 = .ok (.irem, 1) := by decide +kernel
theorem dJ9_floorMod_7cf53_3 : decode cJ9_floorMod_7cf53 3 = .ok (.istore_n 2, 1) := by decide +kernel
theorem dJ9_floorMod_7cf53_4 : decode cJ9_floorMod_7cf53 4 = .ok (.iload_n 0, 1) := by decide +kernel
theorem dJ9_floorMod_7cf53_5 : decode cJ9_floorMod_7cf53 5 = .ok (.iload_n 1, 1) := by decide +kernel
theorem dJ9_floorMod_7cf53_6 : decode cJ9_floorMod_7cf53 6 = .ok (.ixor, 1) := by decide +kernel
theorem dJ9_floorMod_7cf53_7 : decode cJ9_floorMod_7cf53 7 = .ok (.ifCond .ge 11, 3) := by decide +kernel
theorem dJ9_floorMod_7cf53_10 : decode cJ9_floorMod_7cf53 10 = .ok (.iload_n 2, 1) := by decide +kernel
theorem dJ9_floorMod_7cf53_11 : decode cJ9_floorMod_7cf53 11 = .ok (.ifCond .eq 7, 3) := by decide +kernel
theorem dJ9_floorMod_7cf53_14 : decode cJ9_floorMod_7cf53 14 = .ok (.iload_n 2, 1) := by decide +kernel
theorem dJ9_floorMod_7cf53_15 : decode cJ9_floorMod_7cf53 15 = .ok (.iload_n 1, 1) := by decide +kernel
theorem dJ9_floorMod_7cf53_16 : decode cJ9_floorMod_7cf53 16 = .ok (.iadd, 1) := by decide +kernel
theorem dJ9_floorMod_7cf53_17 : decode cJ9_floorMod_7cf53 17 = .ok (.ireturn, 1) := by decide +kernel
theorem dJ9_floorMod_7cf53_18 : decode cJ9_floorMod_7cf53 18 = .ok (.iload_n 2, 1) := by decide +kernel
theorem dJ9_floorMod_7cf53_19 : decode cJ9_floorMod_7cf53 19 = .ok (.ireturn, 1) := by decide +kernel
