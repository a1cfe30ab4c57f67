theorem dX10_phaseOf_0 : decode cX10_phaseOf 0 = .ok (.aload_n 0, 1) := by decide +kernel
theorem dX10_phaseOf_1 : decode cX10_phaseOf 1 = .ok (.iload_n 1, 1) := by decide +kernel
theorem dX10_phaseOf_2 : decode cX10_phaseOf 2 = .ok (.invokevirtual 215, 3) := by decide +kernel
theorem dX10_phaseOf_5 : decode cX10_phaseOf 5 = .ok (.ifCond .eq 12, 3) := by decide +kernel
theorem dX10_phaseOf_8 : decode cX10_phaseOf 8 = .ok (.iload_n 2, 1) := by decide +kernel
theorem dX10_phaseOf_9 : decode cX10_phaseOf 9 = .ok (.iconst 0, 1) := by decide +kernel
theorem dX10_phaseOf_10 : decode cX10_phaseOf 10 = .ok (.iconst 3, 1) := by decide +kernel
theorem dX10_phaseOf_11 : decode cX10_phaseOf 11 = .ok (.invokestatic 49, 3) := by decide +kernel
theorem dX10_phaseOf_14 : decode cX10_phaseOf 14 = .ok (.ifCond .ne 5, 3) := by decide +kernel
theorem dX10_phaseOf_17 : decode cX10_phaseOf 17 = .ok (.iconst (-1), 1) := by decide +kernel
theorem dX10_phaseOf_18 : decode cX10_phaseOf 18 = .ok (.ireturn, 1) := by decide +kernel
theorem dX10_phaseOf_19 : decode cX10_phaseOf 19 = .ok (.iload_n 2, 1) := by decide +kernel
theorem dX10_phaseOf_20 : decode cX10_phaseOf 20 = .ok (.iconst 3, 1) := by decide +kernel
theorem dX10_phaseOf_21 : decode cX10_phaseOf 21 = .ok (.if_icmp .ge 20, 3) := by decide +kernel
theorem dX10_phaseOf_24 : decode cX10_phaseOf 24 = .ok (.aload_n 0, 1) := by decide +kernel
theorem dX10_phaseOf_25 : decode cX10_phaseOf 25 = .ok (.getfield 11, 3) := by decide +kernel
theorem dX10_phaseOf_28 : decode cX10_phaseOf 28 = .ok (.sipush 216, 3) := by decide +kernel
theorem dX10_phaseOf_31 : decode cX10_phaseOf 31 = .ok (.iconst 3, 1) := by decide +kernel
theorem dX10_phaseOf_32 : decode cX10_phaseOf 32 = .ok (.iload_n 1, 1) := by decide +kernel
theorem dX10_phaseOf_33 : decode cX10_phaseOf 33 = .ok (.imul, 1) := by decide +kernel
theorem dX10_phaseOf_34 : decode cX10_phaseOf 34 = .ok (.iadd, 1) := by decide +kernel
theorem dX10_phaseOf_35 : decode cX10_phaseOf 35 = .ok (.iload_n 2, 1) := by decide +kernel
theorem dX10_phaseOf_36 : decode cX10_phaseOf 36 = .ok (.iadd, 1) := by decide +kernel
theorem dX10_phaseOf_37 : decode cX10_phaseOf 37 = .ok (.iaload, 1) := by decide +kernel
theorem dX10_phaseOf_38 : decode cX10_phaseOf 38 = .ok (.goto 16, 3) := by decide +kernel
theorem dX10_phaseOf_41 : decode cX10_phaseOf 41 = .ok (.aload_n 0, 1) := by decide +kernel
theorem dX10_phaseOf_42 : decode cX10_phaseOf 42 = .ok (.iload_n 1, 1) := by decide +kernel
theorem dX10_phaseOf_43 : decode cX10_phaseOf 43 = .ok (.invokevirtual 154, 3) := by decide +kernel
theorem dX10_phaseOf_46 : decode cX10_phaseOf 46 = .ok (.ifCond .eq 7, 3) := by decide +kernel
theorem dX10_phaseOf_49 : decode cX10_phaseOf 49 = .ok (.iconst 1, 1) := by decide +kernel
theorem dX10_phaseOf_50 : decode cX10_phaseOf 50 = .ok (.goto 4, 3) := by decide +kernel
theorem dX10_phaseOf_53 : decode cX10_phaseOf 53 = .ok (.iconst 0, 1) := by decide +kernel
theorem dX10_phaseOf_54 : decode cX10_phaseOf 54 = .ok (.ireturn, 1) := by decide +kernel
set_option maxRecDepth 20000 in
theorem ggX10_taken_X10_isSignal : GoodIn wsX10_taken wsX10_isSignal := goodIn_r _ [5, 6, 7, 8, 4, 9, 14, 15, 16, 17, 18, 19, 20, 21, 22, 23, 24, 25, 26, 27, 28, 29, 30] (by decide +kernel) (by decide +kernel)
set_option maxRecDepth 20000 in
theorem gX10_taken_X10_isSignal : GoodIn wsX10_taken (wsV RX10 96 RX10 yX10_isSignal wsX10_isSignal) := goodIn_app (goodIn_of _ (by decide +kernel)) ggX10_taken_X10_isSignal
set_option maxRecDepth 20000 in
theorem ggX10_taken_X10_isIn : GoodIn wsX10_taken wsX10_isIn := goodIn_r _ [9] (by decide +kernel) (by decide +kernel)
set_option maxRecDepth 20000 in
theorem gX10_taken_X10_isIn : GoodIn wsX10_taken (va_wsS RX10 49 yX10_isIn wsX10_isIn) := goodIn_app (goodIn_of _ (by decide +kernel)) ggX10_taken_X10_isIn
set_option maxRecDepth 20000 in
theorem ggX10_taken_X10_at : GoodIn wsX10_taken wsX10_at := goodIn_r _ [13, 6, 14, 15, 16, 17, 18, 19, 20, 21, 22, 23, 24, 25, 26, 27, 28, 29, 30] (by decide +kernel) (by decide +kernel)
set_option maxRecDepth 20000 in
theorem gX10_taken_X10_at : GoodIn wsX10_taken (wsV RX10 56 RX10 yX10_at wsX10_at) := goodIn_app (goodIn_of _ (by decide +kernel)) ggX10_taken_X10_at
theorem dX10_taken_0 : decode cX10_taken 0 = .ok (.aload_n 0, 1) := by decide +kernel
theorem dX10_taken_1 : decode cX10_taken 1 = .ok (.iload_n 1, 1) := by decide +kernel
theorem dX10_taken_2 : decode cX10_taken 2 = .ok (.invokevirtual 96, 3) := by decide +kernel
theorem dX10_taken_5 : decode cX10_taken 5 = .ok (.ifCond .ne 5, 3) := by decide +kernel
theorem dX10_taken_8 : decode cX10_taken 8 = .ok (.iconst (-1), 1) := by decide +kernel
theorem dX10_taken_9 : decode cX10_taken 9 = .ok (.ireturn, 1) := by decide +kernel
theorem dX10_taken_10 : decode cX10_taken 10 = .ok (.iload_n 2, 1) := by decide +kernel
theorem dX10_taken_11 : decode cX10_taken 11 = .ok (.iconst 0, 1) := by decide +kernel
theorem dX10_taken_12 : decode cX10_taken 12 = .ok (.iconst 4, 1) := by decide +kernel
theorem dX10_taken_13 : decode cX10_taken 13 = .ok (.invokestatic 49, 3) := by decide +kernel
theorem dX10_taken_16 : decode cX10_taken 16 = .ok (.ifCond .ne 6, 3) := by decide +kernel
theorem dX10_taken_19 : decode cX10_taken 19 = .ok (.bipush (-2), 2) := by decide +kernel
theorem dX10_taken_21 : decode cX10_taken 21 = .ok (.ireturn, 1) := by decide +kernel
theorem dX10_taken_22 : decode cX10_taken 22 = .ok (.aload_n 0, 1) := by decide +kernel
theorem dX10_taken_23 : decode cX10_taken 23 = .ok (.iload_n 1, 1) := by decide +kernel
theorem dX10_taken_24 : decode cX10_taken 24 = .ok (.iconst 0, 1) := by decide +kernel
theorem dX10_taken_25 : decode cX10_taken 25 = .ok (.invokevirtual 56, 3) := by decide +kernel
theorem dX10_taken_28 : decode cX10_taken 28 = .ok (.istore_n 3, 1) := by decide +kernel
theorem dX10_taken_29 : decode cX10_taken 29 = .ok (.iload_n 2, 1) := by decide +kernel
theorem dX10_taken_30 : decode cX10_taken 30 = .ok (.ifCond .eq 46, 3) := by decide +kernel
theorem dX10_taken_33 : decode cX10_taken 33 = .ok (.iload_n 2, 1) := by decide +kernel
theorem dX10_taken_34 : decode cX10_taken 34 = .ok (.iconst 1, 1) := by decide +kernel
theorem dX10_taken_35 : decode cX10_taken 35 = .ok (.if_icmp .ne 8, 3) := by decide +kernel
theorem dX10_taken_38 : decode cX10_taken 38 = .ok (.iload_n 3, 1) := by decide +kernel
theorem dX10_taken_39 : decode cX10_taken 39 = .ok (.iconst 1, 1) := by decide +kernel
theorem dX10_taken_40 : decode cX10_taken 40 = .ok (.if_icmp .ne 36, 3) := by decide +kernel
theorem dX10_taken_43 : decode cX10_taken 43 = .ok (.iload_n 2, 1) := by decide +kernel
theorem dX10_taken_44 : decode cX10_taken 44 = .ok (.iconst 2, 1) := by decide +kernel
theorem dX10_taken_45 : decode cX10_taken 45 = .ok (.if_icmp .ne 12, 3) := by decide +kernel
theorem dX10_taken_48 : decode cX10_taken 48 = .ok (.iload_n 3, 1) := by decide +kernel
theorem dX10_taken_49 : decode cX10_taken 49 = .ok (.ifCond .eq 27, 3) := by decide +kernel
theorem dX10_taken_52 : decode cX10_taken 52 = .ok (.iload_n 3, 1) := by decide +kernel
theorem dX10_taken_53 : decode cX10_taken 53 = .ok (.iconst 2, 1) := by decide +kernel
theorem dX10_taken_54 : decode cX10_taken 54 = .ok (.if_icmp .eq 22, 3) := by decide +kernel
theorem dX10_taken_57 : decode cX10_taken 57 = .ok (.iload_n 2, 1) := by decide +kernel
theorem dX10_taken_58 : decode cX10_taken 58 = .ok (.iconst 3, 1) := by decide +kernel
theorem dX10_taken_59 : decode cX10_taken 59 = .ok (.if_icmp .ne 7, 3) := by decide +kernel
theorem dX10_taken_62 : decode cX10_taken 62 = .ok (.iload_n 3, 1) := by decide +kernel
theorem dX10_taken_63 : decode cX10_taken 63 = .ok (.ifCond .eq 13, 3) := by decide +kernel
theorem dX10_taken_66 : decode cX10_taken 66 = .ok (.iload_n 2, 1) := by decide +kernel
theorem dX10_taken_67 : decode cX10_taken 67 = .ok (.iconst 4, 1) := by decide +kernel
theorem dX10_taken_68 : decode cX10_taken 68 = .ok (.if_icmp .ne 12, 3) := by decide +kernel
theorem dX10_taken_71 : decode cX10_taken 71 = .ok (.iload_n 3, 1) := by decide +kernel
theorem dX10_taken_72 : decode cX10_taken 72 = .ok (.iconst 1, 1) := by decide +kernel
theorem dX10_taken_73 : decode cX10_taken 73 = .ok (.if_icmp .ne 7, 3) := by decide +kernel
theorem dX10_taken_76 : decode cX10_taken 76 = .ok (.iconst 1, 1) := by decide +kernel
theorem dX10_taken_77 : decode cX10_taken 77 = .ok (.goto 4, 3) := by decide +kernel
theorem dX10_taken_80 : decode cX10_taken 80 = .ok (.iconst 0, 1) := by decide +kernel
theorem dX10_taken_81 : decode cX10_taken 81 = .ok (.istore 4, 2) := by decide +kernel
theorem dX10_taken_83 : decode cX10_taken 83 = .ok (.iload 4, 2) := by decide +kernel
theorem dX10_taken_85 : decode cX10_taken 85 = .ok (.ifCond .eq 7, 3) := by decide +kernel
theorem dX10_taken_88 : decode cX10_taken 88 = .ok (.iload_n 3, 1) := by decide +kernel
theorem dX10_taken_89 : decode cX10_taken 89 = .ok (.goto 5, 3) := by decide +kernel
theorem dX10_taken_92 : decode cX10_taken 92 = .ok (.bipush (-12), 2) := by decide +kernel
theorem dX10_taken_94 : decode cX10_taken 94 = .ok (.ireturn, 1) := by decide +kernel
theorem dX10_recordAt_0 : decode cX10_recordAt 0 = .ok (.aload_n 0, 1) := by decide +kernel
theorem dX10_recordAt_1 : decode cX10_recordAt 1 = .ok (.getfield 11, 3) := by decide +kernel
theorem dX10_recordAt_4 : decode cX10_recordAt 4 = .ok (.sipush 234, 3) := by decide +kernel
theorem dX10_recordAt_7 : decode cX10_recordAt 7 = .ok (.iconst 3, 1) := by decide +kernel
theorem dX10_recordAt_8 : decode cX10_recordAt 8 = .ok (.iload_n 1, 1) := by decide +kernel
theorem dX10_recordAt_9 : decode cX10_recordAt 9 = .ok (.imul, 1) := by decide +kernel
theorem dX10_recordAt_10 : decode cX10_recordAt 10 = .ok (.iadd, 1) := by decide +kernel
theorem dX10_recordAt_11 : decode cX10_recordAt 11 = .ok (.iload_n 2, 1) := by decide +kernel
theorem dX10_recordAt_12 : decode cX10_recordAt 12 = .ok (.iadd, 1) := by decide +kernel
theorem dX10_recordAt_13 : decode cX10_recordAt 13 = .ok (.iaload, 1) := by decide +kernel
theorem dX10_recordAt_14 : decode cX10_recordAt 14 = .ok (.ireturn, 1) := by decide +kernel
set_option maxRecDepth 20000 in
theorem ggX10_recorded_X10_isIn : GoodIn wsX10_recorded wsX10_isIn := goodIn_r _ [5] (by decide +kernel) (by decide +kernel)
set_option maxRecDepth 20000 in
theorem gX10_recorded_X10_isIn : GoodIn wsX10_recorded (va_wsS RX10 49 yX10_isIn wsX10_isIn) := goodIn_app (goodIn_of _ (by decide +kernel)) ggX10_recorded_X10_isIn
set_option maxRecDepth 20000 in
theorem ggX10_recorded_X10_recordAt : GoodIn wsX10_recorded wsX10_recordAt := goodIn_r _ [9, 1, 10, 11, 12, 13, 14, 15, 16, 17, 18, 19, 20, 21, 22, 23, 24, 25, 26] (by decide +kernel) (by decide +kernel)
set_option maxRecDepth 20000 in
theorem gX10_recorded_X10_recordAt : GoodIn wsX10_recorded (wsV RX10 218 RX10 yX10_recordAt wsX10_recordAt) := goodIn_app (goodIn_of _ (by decide +kernel)) ggX10_recorded_X10_recordAt
theorem dX10_recorded_0 : decode cX10_recorded 0 = .ok (.iload_n 2, 1) := by decide +kernel
theorem dX10_recorded_1 : decode cX10_recorded 1 = .ok (.iconst 0, 1) := by decide +kernel
theorem dX10_recorded_2 : decode cX10_recorded 2 = .ok (.iconst 2, 1) := by decide +kernel
theorem dX10_recorded_3 : decode cX10_recorded 3 = .ok (.invokestatic 49, 3) := by decide +kernel
theorem dX10_recorded_6 : decode cX10_recorded 6 = .ok (.ifCond .ne 5, 3) := by decide +kernel
theorem dX10_recorded_9 : decode cX10_recorded 9 = .ok (.iconst (-1), 1) := by decide +kernel
theorem dX10_recorded_10 : decode cX10_recorded 10 = .ok (.ireturn, 1) := by decide +kernel
theorem dX10_recorded_11 : decode cX10_recorded 11 = .ok (.iload_n 1, 1) := by decide +kernel
theorem dX10_recorded_12 : decode cX10_recorded 12 = .ok (.iconst 0, 1) := by decide +kernel
theorem dX10_recorded_13 : decode cX10_recorded 13 = .ok (.aload_n 0, 1) := by decide +kernel
theorem dX10_recorded_14 : decode cX10_recorded 14 = .ok (.getfield 11, 3) := by decide +kernel
theorem dX10_recorded_17 : decode cX10_recorded 17 = .ok (.bipush 15, 2) := by decide +kernel
theorem dX10_recorded_19 : decode cX10_recorded 19 = .ok (.iaload, 1) := by decide +kernel
theorem dX10_recorded_20 : decode cX10_recorded 20 = .ok (.iconst 1, 1) := by decide +kernel
theorem dX10_recorded_21 : decode cX10_recorded 21 = .ok (.isub, 1) := by decide +kernel
theorem dX10_recorded_22 : decode cX10_recorded 22 = .ok (.invokestatic 49, 3) := by decide +kernel
theorem dX10_recorded_25 : decode cX10_recorded 25 = .ok (.ifCond .eq 22, 3) := by decide +kernel
theorem dX10_recorded_28 : decode cX10_recorded 28 = .ok (.aload_n 0, 1) := by decide +kernel
theorem dX10_recorded_29 : decode cX10_recorded 29 = .ok (.aload_n 0, 1) := by decide +kernel
theorem dX10_recorded_30 : decode cX10_recorded 30 = .ok (.getfield 11, 3) := by decide +kernel
theorem dX10_recorded_33 : decode cX10_recorded 33 = .ok (.bipush 15, 2) := by decide +kernel
theorem dX10_recorded_35 : decode cX10_recorded 35 = .ok (.iaload, 1) := by decide +kernel
theorem dX10_recorded_36 : decode cX10_recorded 36 = .ok (.iconst 1, 1) := by decide +kernel
theorem dX10_recorded_37 : decode cX10_recorded 37 = .ok (.isub, 1) := by decide +kernel
theorem dX10_recorded_38 : decode cX10_recorded 38 = .ok (.iload_n 1, 1) := by decide +kernel
theorem dX10_recorded_39 : decode cX10_recorded 39 = .ok (.isub, 1) := by decide +kernel
theorem dX10_recorded_40 : decode cX10_recorded 40 = .ok (.iload_n 2, 1) := by decide +kernel
theorem dX10_recorded_41 : decode cX10_recorded 41 = .ok (.invokevirtual 218, 3) := by decide +kernel
theorem dX10_recorded_44 : decode cX10_recorded 44 = .ok (.goto 5, 3) := by decide +kernel
theorem dX10_recorded_47 : decode cX10_recorded 47 = .ok (.bipush (-2), 2) := by decide +kernel
theorem dX10_recorded_49 : decode cX10_recorded 49 = .ok (.ireturn, 1) := by decide +kernel
set_option maxRecDepth 20000 in
theorem ggX10_greens_X10_isSignal : GoodIn wsX10_greens wsX10_isSignal := goodIn_r _ [13, 1, 14, 15, 12, 16, 21, 22, 23, 24, 25, 26, 27, 28, 29, 30, 31, 32, 33, 34, 35, 36, 37] (by decide +kernel) (by decide +kernel)
set_option maxRecDepth 20000 in
theorem gX10_greens_X10_isSignal : GoodIn wsX10_greens (wsV RX10 96 RX10 yX10_isSignal wsX10_isSignal) := goodIn_app (goodIn_of _ (by decide +kernel)) ggX10_greens_X10_isSignal
set_option maxRecDepth 20000 in
theorem ggX10_greens_X10_isIn : GoodIn wsX10_greens wsX10_isIn := goodIn_r _ [16] (by decide +kernel) (by decide +kernel)
set_option maxRecDepth 20000 in
theorem gX10_greens_X10_isIn : GoodIn wsX10_greens (va_wsS RX10 49 yX10_isIn wsX10_isIn) := goodIn_app (goodIn_of _ (by decide +kernel)) ggX10_greens_X10_isIn
set_option maxRecDepth 20000 in
theorem ggX10_greens_X10_recordAt : GoodIn wsX10_greens wsX10_recordAt := goodIn_r _ [20, 1, 21, 22, 23, 24, 25, 26, 27, 28, 29, 30, 31, 32, 33, 34, 35, 36, 37] (by decide +kernel) (by decide +kernel)
set_option maxRecDepth 20000 in
theorem gX10_greens_X10_recordAt : GoodIn wsX10_greens (wsV RX10 218 RX10 yX10_recordAt wsX10_recordAt) := goodIn_app (goodIn_of _ (by decide +kernel)) ggX10_greens_X10_recordAt
theorem dX10_greens_0 : decode cX10_greens 0 = .ok (.aload_n 0, 1) := by decide +kernel
theorem dX10_greens_1 : decode cX10_greens 1 = .ok (.iload_n 1, 1) := by decide +kernel
theorem dX10_greens_2 : decode cX10_greens 2 = .ok (.invokevirtual 96, 3) := by decide +kernel
theorem dX10_greens_5 : decode cX10_greens 5 = .ok (.ifCond .eq 12, 3) := by decide +kernel
theorem dX10_greens_8 : decode cX10_greens 8 = .ok (.iload_n 2, 1) := by decide +kernel
theorem dX10_greens_9 : decode cX10_greens 9 = .ok (.iconst 0, 1) := by decide +kernel
theorem dX10_greens_10 : decode cX10_greens 10 = .ok (.iconst 3, 1) := by decide +kernel
theorem dX10_greens_11 : decode cX10_greens 11 = .ok (.invokestatic 49, 3) := by decide +kernel
theorem dX10_greens_14 : decode cX10_greens 14 = .ok (.ifCond .ne 5, 3) := by decide +kernel
theorem dX10_greens_17 : decode cX10_greens 17 = .ok (.iconst (-1), 1) := by decide +kernel
theorem dX10_greens_18 : decode cX10_greens 18 = .ok (.ireturn, 1) := by decide +kernel
theorem dX10_greens_19 : decode cX10_greens 19 = .ok (.iconst 0, 1) := by decide +kernel
theorem dX10_greens_20 : decode cX10_greens 20 = .ok (.istore_n 3, 1) := by decide +kernel
theorem dX10_greens_21 : decode cX10_greens 21 = .ok (.iconst 0, 1) := by decide +kernel
theorem dX10_greens_22 : decode cX10_greens 22 = .ok (.istore 4, 2) := by decide +kernel
theorem dX10_greens_24 : decode cX10_greens 24 = .ok (.bipush (-5), 2) := by decide +kernel
theorem dX10_greens_26 : decode cX10_greens 26 = .ok (.istore 5, 2) := by decide +kernel
theorem dX10_greens_28 : decode cX10_greens 28 = .ok (.bipush (-5), 2) := by decide +kernel
theorem dX10_greens_30 : decode cX10_greens 30 = .ok (.istore 6, 2) := by decide +kernel
theorem dX10_greens_32 : decode cX10_greens 32 = .ok (.iconst 0, 1) := by decide +kernel
theorem dX10_greens_33 : decode cX10_greens 33 = .ok (.istore 7, 2) := by decide +kernel
theorem dX10_greens_35 : decode cX10_greens 35 = .ok (.iload 7, 2) := by decide +kernel
theorem dX10_greens_37 : decode cX10_greens 37 = .ok (.aload_n 0, 1) := by decide +kernel
theorem dX10_greens_38 : decode cX10_greens 38 = .ok (.getfield 11, 3) := by decide +kernel
theorem dX10_greens_41 : decode cX10_greens 41 = .ok (.bipush 15, 2) := by decide +kernel
theorem dX10_greens_43 : decode cX10_greens 43 = .ok (.iaload, 1) := by decide +kernel
theorem dX10_greens_44 : decode cX10_greens 44 = .ok (.if_icmp .ge 78, 3) := by decide +kernel
theorem dX10_greens_47 : decode cX10_greens 47 = .ok (.aload_n 0, 1) := by decide +kernel
theorem dX10_greens_48 : decode cX10_greens 48 = .ok (.iload 7, 2) := by decide +kernel
theorem dX10_greens_50 : decode cX10_greens 50 = .ok (.iconst 0, 1) := by decide +kernel
theorem dX10_greens_51 : decode cX10_greens 51 = .ok (.invokevirtual 218, 3) := by decide +kernel
theorem dX10_greens_54 : decode cX10_greens 54 = .ok (.iload_n 1, 1) := by decide +kernel
theorem dX10_greens_55 : decode cX10_greens 55 = .ok (.if_icmp .eq 6, 3) := by decide +kernel
theorem dX10_greens_58 : decode cX10_greens 58 = .ok (.goto 58, 3) := by decide +kernel
theorem dX10_greens_61 : decode cX10_greens 61 = .ok (.aload_n 0, 1) := by decide +kernel
theorem dX10_greens_62 : decode cX10_greens 62 = .ok (.iload 7, 2) := by decide +kernel
theorem dX10_greens_64 : decode cX10_greens 64 = .ok (.iconst 2, 1) := by decide +kernel
theorem dX10_greens_65 : decode cX10_greens 65 = .ok (.invokevirtual 218, 3) := by decide +kernel
theorem dX10_greens_68 : decode cX10_greens 68 = .ok (.aload_n 0, 1) := by decide +kernel
theorem dX10_greens_69 : decode cX10_greens 69 = .ok (.iload 7, 2) := by decide +kernel
theorem dX10_greens_71 : decode cX10_greens 71 = .ok (.iconst 1, 1) := by decide +kernel
theorem dX10_greens_72 : decode cX10_greens 72 = .ok (.invokevirtual 218, 3) := by decide +kernel
theorem dX10_greens_75 : decode cX10_greens 75 = .ok (.isub, 1) := by decide +kernel
theorem dX10_greens_76 : decode cX10_greens 76 = .ok (.istore 8, 2) := by decide +kernel
theorem dX10_greens_78 : decode cX10_greens 78 = .ok (.iinc 3 1, 3) := by decide +kernel
theorem dX10_greens_81 : decode cX10_greens 81 = .ok (.iload 4, 2) := by decide +kernel
theorem dX10_greens_83 : decode cX10_greens 83 = .ok (.iload 8, 2) := by decide +kernel
theorem dX10_greens_85 : decode cX10_greens 85 = .ok (.iadd, 1) := by decide +kernel
theorem dX10_greens_86 : decode cX10_greens 86 = .ok (.istore 4, 2) := by decide +kernel
theorem dX10_greens_88 : decode cX10_greens 88 = .ok (.iload 5, 2) := by decide +kernel
theorem dX10_greens_90 : decode cX10_greens 90 = .ok (.ifCond .ge 8, 3) := by decide +kernel
theorem dX10_greens_93 : decode cX10_greens 93 = .ok (.iload 8, 2) := by decide +kernel
theorem dX10_greens_95 : decode cX10_greens 95 = .ok (.goto 10, 3) := by decide +kernel
theorem dX10_greens_98 : decode cX10_greens 98 = .ok (.iload 5, 2) := by decide +kernel
theorem dX10_greens_100 : decode cX10_greens 100 = .ok (.iload 8, 2) := by decide +kernel
theorem dX10_greens_102 : decode cX10_greens 102 = .ok (.invokestatic 100, 3) := by decide +kernel
theorem dX10_greens_105 : decode cX10_greens 105 = .ok (.istore 5, 2) := by decide +kernel
theorem dX10_greens_107 : decode cX10_greens 107 = .ok (.iload 6, 2) := by decide +kernel
theorem dX10_greens_109 : decode cX10_greens 109 = .ok (.iload 8, 2) := by decide +kernel
theorem dX10_greens_111 : decode cX10_greens 111 = .ok (.invokestatic 73, 3) := by decide +kernel
theorem dX10_greens_114 : decode cX10_greens 114 = .ok (.istore 6, 2) := by decide +kernel
theorem dX10_greens_116 : decode cX10_greens 116 = .ok (.iinc 7 1, 3) := by decide +kernel
theorem dX10_greens_119 : decode cX10_greens 119 = .ok (.goto (-84), 3) := by decide +kernel
theorem dX10_greens_122 : decode cX10_greens 122 = .ok (.iload_n 2, 1) := by decide +kernel
theorem dX10_greens_123 : decode cX10_greens 123 = .ok (.ifCond .ne 7, 3) := by decide +kernel
theorem dX10_greens_126 : decode cX10_greens 126 = .ok (.iload_n 3, 1) := by decide +kernel
theorem dX10_greens_127 : decode cX10_greens 127 = .ok (.goto 25, 3) := by decide +kernel
theorem dX10_greens_130 : decode cX10_greens 130 = .ok (.iload_n 2, 1) := by decide +kernel
theorem dX10_greens_131 : decode cX10_greens 131 = .ok (.iconst 1, 1) := by decide +kernel
theorem dX10_greens_132 : decode cX10_greens 132 = .ok (.if_icmp .ne 8, 3) := by decide +kernel
theorem dX10_greens_135 : decode cX10_greens 135 = .ok (.iload 4, 2) := by decide +kernel
theorem dX10_greens_137 : decode cX10_greens 137 = .ok (.goto 15, 3) := by decide +kernel
theorem dX10_greens_140 : decode cX10_greens 140 = .ok (.iload_n 2, 1) := by decide +kernel
theorem dX10_greens_141 : decode cX10_greens 141 = .ok (.iconst 2, 1) := by decide +kernel
theorem dX10_greens_142 : decode cX10_greens 142 = .ok (.if_icmp .ne 8, 3) := by decide +kernel
theorem dX10_greens_145 : decode cX10_greens 145 = .ok (.iload 5, 2) := by decide +kernel
theorem dX10_greens_147 : decode cX10_greens 147 = .ok (.goto 5, 3) := by decide +kernel
theorem dX10_greens_150 : decode cX10_greens 150 = .ok (.iload 6, 2) := by decide +kernel
theorem dX10_greens_152 : decode cX10_greens 152 = .ok (.ireturn, 1) := by decide +kernel
set_option maxRecDepth 20000 in
theorem ggX10_couldBy_X10_placeIn : GoodIn wsX10_couldBy wsX10_placeIn := goodIn_r _ [5, 6, 7, 8, 4, 9, 10, 21, 22, 23, 24, 25, 26, 27, 28, 29, 30, 31, 32, 33, 34, 35, 36, 37] (by decide +kernel) (by decide +kernel)
set_option maxRecDepth 20000 in
theorem gX10_couldBy_X10_placeIn : GoodIn wsX10_couldBy (wsV RX10 63 RX10 yX10_placeIn wsX10_placeIn) := goodIn_app (goodIn_of _ (by decide +kernel)) ggX10_couldBy_X10_placeIn
set_option maxRecDepth 20000 in
theorem ggX10_couldBy_X10_pace : GoodIn wsX10_couldBy wsX10_pace := goodIn_r _ [14, 15, 6, 7, 8, 4, 9, 10, 21, 22, 23, 24, 25, 26, 27, 28, 29, 30, 31, 32, 33, 34, 35, 36, 37] (by decide +kernel) (by decide +kernel)
set_option maxRecDepth 20000 in
theorem gX10_couldBy_X10_pace : GoodIn wsX10_couldBy (wsV RX10 70 RX10 yX10_pace wsX10_pace) := goodIn_app (goodIn_of _ (by decide +kernel)) ggX10_couldBy_X10_pace
set_option maxRecDepth 20000 in
theorem ggX10_couldBy_X10_amber : GoodIn wsX10_couldBy wsX10_amber := goodIn_r _ [19, 20, 6, 7, 8, 4, 9, 10, 21, 22, 23, 24, 25, 26, 27, 28, 29, 30, 31, 32, 33, 34, 35, 36, 37] (by decide +kernel) (by decide +kernel)
set_option maxRecDepth 20000 in
theorem gX10_couldBy_X10_amber : GoodIn wsX10_couldBy (wsV RX10 66 RX10 yX10_amber wsX10_amber) := goodIn_app (goodIn_of _ (by decide +kernel)) ggX10_couldBy_X10_amber
theorem dX10_couldBy_0 : decode cX10_couldBy 0 = .ok (.aload_n 0, 1) := by decide +kernel
theorem dX10_couldBy_1 : decode cX10_couldBy 1 = .ok (.iload_n 1, 1) := by decide +kernel
theorem dX10_couldBy_2 : decode cX10_couldBy 2 = .ok (.iload 4, 2) := by decide +kernel
theorem dX10_couldBy_4 : decode cX10_couldBy 4 = .ok (.invokevirtual 63, 3) := by decide +kernel
theorem dX10_couldBy_7 : decode cX10_couldBy 7 = .ok (.istore 6, 2) := by decide +kernel
theorem dX10_couldBy_9 : decode cX10_couldBy 9 = .ok (.iload 6, 2) := by decide +kernel
theorem dX10_couldBy_11 : decode cX10_couldBy 11 = .ok (.ifCond .lt 18, 3) := by decide +kernel
theorem dX10_couldBy_14 : decode cX10_couldBy 14 = .ok (.iload 5, 2) := by decide +kernel
theorem dX10_couldBy_16 : decode cX10_couldBy 16 = .ok (.iload_n 2, 1) := by decide +kernel
theorem dX10_couldBy_17 : decode cX10_couldBy 17 = .ok (.aload_n 0, 1) := by decide +kernel
theorem dX10_couldBy_18 : decode cX10_couldBy 18 = .ok (.iload_n 1, 1) := by decide +kernel
theorem dX10_couldBy_19 : decode cX10_couldBy 19 = .ok (.invokevirtual 70, 3) := by decide +kernel
theorem dX10_couldBy_22 : decode cX10_couldBy 22 = .ok (.iload 6, 2) := by decide +kernel
theorem dX10_couldBy_24 : decode cX10_couldBy 24 = .ok (.imul, 1) := by decide +kernel
theorem dX10_couldBy_25 : decode cX10_couldBy 25 = .ok (.iadd, 1) := by decide +kernel
theorem dX10_couldBy_26 : decode cX10_couldBy 26 = .ok (.if_icmp .ge 5, 3) := by decide +kernel
theorem dX10_couldBy_29 : decode cX10_couldBy 29 = .ok (.iconst 0, 1) := by decide +kernel
theorem dX10_couldBy_30 : decode cX10_couldBy 30 = .ok (.ireturn, 1) := by decide +kernel
theorem dX10_couldBy_31 : decode cX10_couldBy 31 = .ok (.iload_n 3, 1) := by decide +kernel
theorem dX10_couldBy_32 : decode cX10_couldBy 32 = .ok (.ifCond .lt 26, 3) := by decide +kernel
theorem dX10_couldBy_35 : decode cX10_couldBy 35 = .ok (.iload 5, 2) := by decide +kernel
theorem dX10_couldBy_37 : decode cX10_couldBy 37 = .ok (.iload_n 3, 1) := by decide +kernel
theorem dX10_couldBy_38 : decode cX10_couldBy 38 = .ok (.aload_n 0, 1) := by decide +kernel
theorem dX10_couldBy_39 : decode cX10_couldBy 39 = .ok (.iload_n 1, 1) := by decide +kernel
theorem dX10_couldBy_40 : decode cX10_couldBy 40 = .ok (.invokevirtual 66, 3) := by decide +kernel
theorem dX10_couldBy_43 : decode cX10_couldBy 43 = .ok (.iadd, 1) := by decide +kernel
theorem dX10_couldBy_44 : decode cX10_couldBy 44 = .ok (.aload_n 0, 1) := by decide +kernel
theorem dX10_couldBy_45 : decode cX10_couldBy 45 = .ok (.iload_n 1, 1) := by decide +kernel
theorem dX10_couldBy_46 : decode cX10_couldBy 46 = .ok (.invokevirtual 70, 3) := by decide +kernel
theorem dX10_couldBy_49 : decode cX10_couldBy 49 = .ok (.iload 6, 2) := by decide +kernel
theorem dX10_couldBy_51 : decode cX10_couldBy 51 = .ok (.iconst 1, 1) := by decide +kernel
theorem dX10_couldBy_52 : decode cX10_couldBy 52 = .ok (.iadd, 1) := by decide +kernel
theorem dX10_couldBy_53 : decode cX10_couldBy 53 = .ok (.imul, 1) := by decide +kernel
theorem dX10_couldBy_54 : decode cX10_couldBy 54 = .ok (.iadd, 1) := by decide +kernel
theorem dX10_couldBy_55 : decode cX10_couldBy 55 = .ok (.if_icmp .ge 7, 3) := by decide +kernel
theorem dX10_couldBy_58 : decode cX10_couldBy 58 = .ok (.iconst 1, 1) := by decide +kernel
theorem dX10_couldBy_59 : decode cX10_couldBy 59 = .ok (.goto 4, 3) := by decide +kernel
theorem dX10_couldBy_62 : decode cX10_couldBy 62 = .ok (.iconst 0, 1) := by decide +kernel
theorem dX10_couldBy_63 : decode cX10_couldBy 63 = .ok (.ireturn, 1) := by decide +kernel
set_option maxRecDepth 20000 in
theorem ggX10_coulds_X10_couldBy : GoodIn wsX10_coulds wsX10_couldBy := goodIn_r _ [6, 7, 8, 9, 5, 10, 11, 12, 13, 14, 1, 15, 16, 17, 18, 19, 20, 21, 22, 23, 24, 29, 30, 31, 32, 33, 34, 35, 36, 37, 38, 39, 40, 41, 42, 43, 44, 45] (by decide +kernel) (by decide +kernel)
set_option maxRecDepth 20000 in
theorem gX10_coulds_X10_couldBy : GoodIn wsX10_coulds (wsV RX10 221 RX10 yX10_couldBy wsX10_couldBy) := goodIn_app (goodIn_of _ (by decide +kernel)) ggX10_coulds_X10_couldBy
set_option maxRecDepth 20000 in
theorem ggX10_coulds_X10_recordAt : GoodIn wsX10_coulds wsX10_recordAt := goodIn_r _ [28, 1, 29, 30, 31, 32, 33, 34, 35, 36, 37, 38, 39, 40, 41, 42, 43, 44, 45] (by decide +kernel) (by decide +kernel)
set_option maxRecDepth 20000 in
theorem gX10_coulds_X10_recordAt : GoodIn wsX10_coulds (wsV RX10 218 RX10 yX10_recordAt wsX10_recordAt) := goodIn_app (goodIn_of _ (by decide +kernel)) ggX10_coulds_X10_recordAt
set_option maxRecDepth 20000 in
theorem ggX10_coulds_X10_at : GoodIn wsX10_coulds wsX10_at := goodIn_r _ [14, 1, 29, 30, 31, 32, 33, 34, 35, 36, 37, 38, 39, 40, 41, 42, 43, 44, 45] (by decide +kernel) (by decide +kernel)
set_option maxRecDepth 20000 in
theorem gX10_coulds_X10_at : GoodIn wsX10_coulds (wsV RX10 56 RX10 yX10_at wsX10_at) := goodIn_app (goodIn_of _ (by decide +kernel)) ggX10_coulds_X10_at
theorem dX10_coulds_0 : decode cX10_coulds 0 = .ok (.iconst 0, 1) := by decide +kernel
theorem dX10_coulds_1 : decode cX10_coulds 1 = .ok (.istore 4, 2) := by decide +kernel
theorem dX10_coulds_3 : decode cX10_coulds 3 = .ok (.iload_n 3, 1) := by decide +kernel
theorem dX10_coulds_4 : decode cX10_coulds 4 = .ok (.iconst 1, 1) := by decide +kernel
theorem dX10_coulds_5 : decode cX10_coulds 5 = .ok (.if_icmp .ne 85, 3) := by decide +kernel
theorem dX10_coulds_8 : decode cX10_coulds 8 = .ok (.iconst 0, 1) := by decide +kernel
theorem dX10_coulds_9 : decode cX10_coulds 9 = .ok (.istore 5, 2) := by decide +kernel
theorem dX10_coulds_11 : decode cX10_coulds 11 = .ok (.iload 5, 2) := by decide +kernel
theorem dX10_coulds_13 : decode cX10_coulds 13 = .ok (.aload_n 0, 1) := by decide +kernel
theorem dX10_coulds_14 : decode cX10_coulds 14 = .ok (.getfield 11, 3) := by decide +kernel
theorem dX10_coulds_17 : decode cX10_coulds 17 = .ok (.bipush 18, 2) := by decide +kernel
theorem dX10_coulds_19 : decode cX10_coulds 19 = .ok (.iaload, 1) := by decide +kernel
theorem dX10_coulds_20 : decode cX10_coulds 20 = .ok (.if_icmp .ge 67, 3) := by decide +kernel
theorem dX10_coulds_23 : decode cX10_coulds 23 = .ok (.sipush 321, 3) := by decide +kernel
theorem dX10_coulds_26 : decode cX10_coulds 26 = .ok (.iconst 3, 1) := by decide +kernel
theorem dX10_coulds_27 : decode cX10_coulds 27 = .ok (.iload 5, 2) := by decide +kernel
theorem dX10_coulds_29 : decode cX10_coulds 29 = .ok (.imul, 1) := by decide +kernel
theorem dX10_coulds_30 : decode cX10_coulds 30 = .ok (.iadd, 1) := by decide +kernel
theorem dX10_coulds_31 : decode cX10_coulds 31 = .ok (.istore 6, 2) := by decide +kernel
theorem dX10_coulds_33 : decode cX10_coulds 33 = .ok (.aload_n 0, 1) := by decide +kernel
theorem dX10_coulds_34 : decode cX10_coulds 34 = .ok (.aload_n 0, 1) := by decide +kernel
theorem dX10_coulds_35 : decode cX10_coulds 35 = .ok (.getfield 11, 3) := by decide +kernel
theorem dX10_coulds_38 : decode cX10_coulds 38 = .ok (.iload 6, 2) := by decide +kernel
theorem dX10_coulds_40 : decode cX10_coulds 40 = .ok (.iaload, 1) := by decide +kernel
theorem dX10_coulds_41 : decode cX10_coulds 41 = .ok (.aload_n 0, 1) := by decide +kernel
theorem dX10_coulds_42 : decode cX10_coulds 42 = .ok (.getfield 11, 3) := by decide +kernel
theorem dX10_coulds_45 : decode cX10_coulds 45 = .ok (.iload 6, 2) := by decide +kernel
theorem dX10_coulds_47 : decode cX10_coulds 47 = .ok (.iconst 1, 1) := by decide +kernel
theorem dX10_coulds_48 : decode cX10_coulds 48 = .ok (.iadd, 1) := by decide +kernel
theorem dX10_coulds_49 : decode cX10_coulds 49 = .ok (.iaload, 1) := by decide +kernel
theorem dX10_coulds_50 : decode cX10_coulds 50 = .ok (.aload_n 0, 1) := by decide +kernel
theorem dX10_coulds_51 : decode cX10_coulds 51 = .ok (.getfield 11, 3) := by decide +kernel
theorem dX10_coulds_54 : decode cX10_coulds 54 = .ok (.iload 6, 2) := by decide +kernel
theorem dX10_coulds_56 : decode cX10_coulds 56 = .ok (.iconst 2, 1) := by decide +kernel
theorem dX10_coulds_57 : decode cX10_coulds 57 = .ok (.iadd, 1) := by decide +kernel
theorem dX10_coulds_58 : decode cX10_coulds 58 = .ok (.iaload, 1) := by decide +kernel
theorem dX10_coulds_59 : decode cX10_coulds 59 = .ok (.iload_n 1, 1) := by decide +kernel
theorem dX10_coulds_60 : decode cX10_coulds 60 = .ok (.iload_n 2, 1) := by decide +kernel
theorem dX10_coulds_61 : decode cX10_coulds 61 = .ok (.invokevirtual 221, 3) := by decide +kernel
theorem dX10_coulds_64 : decode cX10_coulds 64 = .ok (.ifCond .eq 17, 3) := by decide +kernel
theorem dX10_coulds_67 : decode cX10_coulds 67 = .ok (.iload 4, 2) := by decide +kernel
theorem dX10_coulds_69 : decode cX10_coulds 69 = .ok (.iconst 1, 1) := by decide +kernel
theorem dX10_coulds_70 : decode cX10_coulds 70 = .ok (.aload_n 0, 1) := by decide +kernel
theorem dX10_coulds_71 : decode cX10_coulds 71 = .ok (.getfield 11, 3) := by decide +kernel
theorem dX10_coulds_74 : decode cX10_coulds 74 = .ok (.iload 6, 2) := by decide +kernel
theorem dX10_coulds_76 : decode cX10_coulds 76 = .ok (.iaload, 1) := by decide +kernel
theorem dX10_coulds_77 : decode cX10_coulds 77 = .ok (.ishl, 1) := by decide +kernel
theorem dX10_coulds_78 : decode cX10_coulds 78 = .ok (.ior, 1) := by decide +kernel
theorem dX10_coulds_79 : decode cX10_coulds 79 = .ok (.istore 4, 2) := by decide +kernel
theorem dX10_coulds_81 : decode cX10_coulds 81 = .ok (.iinc 5 1, 3) := by decide +kernel
theorem dX10_coulds_84 : decode cX10_coulds 84 = .ok (.goto (-73), 3) := by decide +kernel
theorem dX10_coulds_87 : decode cX10_coulds 87 = .ok (.iload 4, 2) := by decide +kernel
theorem dX10_coulds_89 : decode cX10_coulds 89 = .ok (.ireturn, 1) := by decide +kernel
theorem dX10_coulds_90 : decode cX10_coulds 90 = .ok (.iconst 0, 1) := by decide +kernel
theorem dX10_coulds_91 : decode cX10_coulds 91 = .ok (.istore 5, 2) := by decide +kernel
theorem dX10_coulds_93 : decode cX10_coulds 93 = .ok (.iload 5, 2) := by decide +kernel
theorem dX10_coulds_95 : decode cX10_coulds 95 = .ok (.aload_n 0, 1) := by decide +kernel
theorem dX10_coulds_96 : decode cX10_coulds 96 = .ok (.getfield 11, 3) := by decide +kernel
theorem dX10_coulds_99 : decode cX10_coulds 99 = .ok (.bipush 15, 2) := by decide +kernel
theorem dX10_coulds_101 : decode cX10_coulds 101 = .ok (.iaload, 1) := by decide +kernel
theorem dX10_coulds_102 : decode cX10_coulds 102 = .ok (.if_icmp .ge 53, 3) := by decide +kernel
theorem dX10_coulds_105 : decode cX10_coulds 105 = .ok (.aload_n 0, 1) := by decide +kernel
theorem dX10_coulds_106 : decode cX10_coulds 106 = .ok (.aload_n 0, 1) := by decide +kernel
theorem dX10_coulds_107 : decode cX10_coulds 107 = .ok (.iload 5, 2) := by decide +kernel
theorem dX10_coulds_109 : decode cX10_coulds 109 = .ok (.iconst 0, 1) := by decide +kernel
theorem dX10_coulds_110 : decode cX10_coulds 110 = .ok (.invokevirtual 218, 3) := by decide +kernel
theorem dX10_coulds_113 : decode cX10_coulds 113 = .ok (.aload_n 0, 1) := by decide +kernel
theorem dX10_coulds_114 : decode cX10_coulds 114 = .ok (.iload 5, 2) := by decide +kernel
theorem dX10_coulds_116 : decode cX10_coulds 116 = .ok (.iconst 1, 1) := by decide +kernel
theorem dX10_coulds_117 : decode cX10_coulds 117 = .ok (.invokevirtual 218, 3) := by decide +kernel
theorem dX10_coulds_120 : decode cX10_coulds 120 = .ok (.aload_n 0, 1) := by decide +kernel
theorem dX10_coulds_121 : decode cX10_coulds 121 = .ok (.iload 5, 2) := by decide +kernel
theorem dX10_coulds_123 : decode cX10_coulds 123 = .ok (.iconst 2, 1) := by decide +kernel
theorem dX10_coulds_124 : decode cX10_coulds 124 = .ok (.invokevirtual 218, 3) := by decide +kernel
theorem dX10_coulds_127 : decode cX10_coulds 127 = .ok (.iload_n 1, 1) := by decide +kernel
theorem dX10_coulds_128 : decode cX10_coulds 128 = .ok (.iload_n 2, 1) := by decide +kernel
theorem dX10_coulds_129 : decode cX10_coulds 129 = .ok (.invokevirtual 221, 3) := by decide +kernel
theorem dX10_coulds_132 : decode cX10_coulds 132 = .ok (.ifCond .eq 17, 3) := by decide +kernel
theorem dX10_coulds_135 : decode cX10_coulds 135 = .ok (.iload 4, 2) := by decide +kernel
theorem dX10_coulds_137 : decode cX10_coulds 137 = .ok (.iconst 1, 1) := by decide +kernel
theorem dX10_coulds_138 : decode cX10_coulds 138 = .ok (.aload_n 0, 1) := by decide +kernel
theorem dX10_coulds_139 : decode cX10_coulds 139 = .ok (.iload 5, 2) := by decide +kernel
theorem dX10_coulds_141 : decode cX10_coulds 141 = .ok (.iconst 0, 1) := by decide +kernel
theorem dX10_coulds_142 : decode cX10_coulds 142 = .ok (.invokevirtual 218, 3) := by decide +kernel
theorem dX10_coulds_145 : decode cX10_coulds 145 = .ok (.ishl, 1) := by decide +kernel
theorem dX10_coulds_146 : decode cX10_coulds 146 = .ok (.ior, 1) := by decide +kernel
theorem dX10_coulds_147 : decode cX10_coulds 147 = .ok (.istore 4, 2) := by decide +kernel
theorem dX10_coulds_149 : decode cX10_coulds 149 = .ok (.iinc 5 1, 3) := by decide +kernel
theorem dX10_coulds_152 : decode cX10_coulds 152 = .ok (.goto (-59), 3) := by decide +kernel
theorem dX10_coulds_155 : decode cX10_coulds 155 = .ok (.iconst 0, 1) := by decide +kernel
theorem dX10_coulds_156 : decode cX10_coulds 156 = .ok (.istore 5, 2) := by decide +kernel
theorem dX10_coulds_158 : decode cX10_coulds 158 = .ok (.iload 5, 2) := by decide +kernel
theorem dX10_coulds_160 : decode cX10_coulds 160 = .ok (.aload_n 0, 1) := by decide +kernel
theorem dX10_coulds_161 : decode cX10_coulds 161 = .ok (.getfield 11, 3) := by decide +kernel
theorem dX10_coulds_164 : decode cX10_coulds 164 = .ok (.bipush 13, 2) := by decide +kernel
theorem dX10_coulds_166 : decode cX10_coulds 166 = .ok (.iaload, 1) := by decide +kernel
theorem dX10_coulds_167 : decode cX10_coulds 167 = .ok (.if_icmp .ge 51, 3) := by decide +kernel
theorem dX10_coulds_170 : decode cX10_coulds 170 = .ok (.aload_n 0, 1) := by decide +kernel
theorem dX10_coulds_171 : decode cX10_coulds 171 = .ok (.iload 5, 2) := by decide +kernel
theorem dX10_coulds_173 : decode cX10_coulds 173 = .ok (.bipush 6, 2) := by decide +kernel
theorem dX10_coulds_175 : decode cX10_coulds 175 = .ok (.invokevirtual 56, 3) := by decide +kernel
theorem dX10_coulds_178 : decode cX10_coulds 178 = .ok (.iconst 1, 1) := by decide +kernel
theorem dX10_coulds_179 : decode cX10_coulds 179 = .ok (.if_icmp .ne 33, 3) := by decide +kernel
theorem dX10_coulds_182 : decode cX10_coulds 182 = .ok (.aload_n 0, 1) := by decide +kernel
theorem dX10_coulds_183 : decode cX10_coulds 183 = .ok (.iload 5, 2) := by decide +kernel
theorem dX10_coulds_185 : decode cX10_coulds 185 = .ok (.aload_n 0, 1) := by decide +kernel
theorem dX10_coulds_186 : decode cX10_coulds 186 = .ok (.iload 5, 2) := by decide +kernel
theorem dX10_coulds_188 : decode cX10_coulds 188 = .ok (.bipush 7, 2) := by decide +kernel
theorem dX10_coulds_190 : decode cX10_coulds 190 = .ok (.invokevirtual 56, 3) := by decide +kernel
theorem dX10_coulds_193 : decode cX10_coulds 193 = .ok (.bipush (-5), 2) := by decide +kernel
theorem dX10_coulds_195 : decode cX10_coulds 195 = .ok (.iload_n 1, 1) := by decide +kernel
theorem dX10_coulds_196 : decode cX10_coulds 196 = .ok (.iload_n 2, 1) := by decide +kernel
theorem dX10_coulds_197 : decode cX10_coulds 197 = .ok (.invokevirtual 221, 3) := by decide +kernel
theorem dX10_coulds_200 : decode cX10_coulds 200 = .ok (.ifCond .eq 12, 3) := by decide +kernel
theorem dX10_coulds_203 : decode cX10_coulds 203 = .ok (.iload 4, 2) := by decide +kernel
theorem dX10_coulds_205 : decode cX10_coulds 205 = .ok (.iconst 1, 1) := by decide +kernel
theorem dX10_coulds_206 : decode cX10_coulds 206 = .ok (.iload 5, 2) := by decide +kernel
theorem dX10_coulds_208 : decode cX10_coulds 208 = .ok (.ishl, 1) := by decide +kernel
theorem dX10_coulds_209 : decode cX10_coulds 209 = .ok (.ior, 1) := by decide +kernel
theorem dX10_coulds_210 : decode cX10_coulds 210 = .ok (.istore 4, 2) := by decide +kernel
theorem dX10_coulds_212 : decode cX10_coulds 212 = .ok (.iinc 5 1, 3) := by decide +kernel
theorem dX10_coulds_215 : decode cX10_coulds 215 = .ok (.goto (-57), 3) := by decide +kernel
theorem dX10_coulds_218 : decode cX10_coulds 218 = .ok (.iload 4, 2) := by decide +kernel
theorem dX10_coulds_220 : decode cX10_coulds 220 = .ok (.ireturn, 1) := by decide +kernel
set_option maxRecDepth 20000 in
theorem ggX10_could_X10_isIn : GoodIn wsX10_could wsX10_isIn := goodIn_r _ [4] (by decide +kernel) (by decide +kernel)
set_option maxRecDepth 20000 in
theorem gX10_could_X10_isIn : GoodIn wsX10_could (va_wsS RX10 49 yX10_isIn wsX10_isIn) := goodIn_app (goodIn_of _ (by decide +kernel)) ggX10_could_X10_isIn
set_option maxRecDepth 20000 in
theorem ggX10_could_X10_coulds : GoodIn wsX10_could wsX10_coulds := goodIn_r _ [8, 9, 10, 11, 12, 3, 13, 14, 15, 16, 17, 18, 19, 20, 21, 22, 23, 24, 25, 26, 27, 28, 29, 30, 31, 32, 33, 34, 35, 36, 37, 38, 39, 40, 41, 42, 43, 44, 45, 46, 47, 48, 49, 50, 51, 52] (by decide +kernel) (by decide +kernel)
set_option maxRecDepth 20000 in
theorem gX10_could_X10_coulds : GoodIn wsX10_could (wsV RX10 225 RX10 yX10_coulds wsX10_coulds) := goodIn_app (goodIn_of _ (by decide +kernel)) ggX10_could_X10_coulds
theorem dX10_could_0 : decode cX10_could 0 = .ok (.iload_n 3, 1) := by decide +kernel
theorem dX10_could_1 : decode cX10_could 1 = .ok (.iconst 0, 1) := by decide +kernel
theorem dX10_could_2 : decode cX10_could 2 = .ok (.iconst 1, 1) := by decide +kernel
theorem dX10_could_3 : decode cX10_could 3 = .ok (.invokestatic 49, 3) := by decide +kernel
theorem dX10_could_6 : decode cX10_could 6 = .ok (.ifCond .ne 5, 3) := by decide +kernel
theorem dX10_could_9 : decode cX10_could 9 = .ok (.iconst (-1), 1) := by decide +kernel
theorem dX10_could_10 : decode cX10_could 10 = .ok (.ireturn, 1) := by decide +kernel
theorem dX10_could_11 : decode cX10_could 11 = .ok (.iload_n 1, 1) := by decide +kernel
theorem dX10_could_12 : decode cX10_could 12 = .ok (.iconst 0, 1) := by decide +kernel
theorem dX10_could_13 : decode cX10_could 13 = .ok (.bipush 63, 2) := by decide +kernel
theorem dX10_could_15 : decode cX10_could 15 = .ok (.invokestatic 49, 3) := by decide +kernel
theorem dX10_could_18 : decode cX10_could 18 = .ok (.ifCond .eq 24, 3) := by decide +kernel
theorem dX10_could_21 : decode cX10_could 21 = .ok (.iload_n 2, 1) := by decide +kernel
theorem dX10_could_22 : decode cX10_could 22 = .ok (.iconst 0, 1) := by decide +kernel
theorem dX10_could_23 : decode cX10_could 23 = .ok (.sipush 9999, 3) := by decide +kernel
theorem dX10_could_26 : decode cX10_could 26 = .ok (.invokestatic 49, 3) := by decide +kernel
theorem dX10_could_29 : decode cX10_could 29 = .ok (.ifCond .eq 13, 3) := by decide +kernel
theorem dX10_could_32 : decode cX10_could 32 = .ok (.aload_n 0, 1) := by decide +kernel
theorem dX10_could_33 : decode cX10_could 33 = .ok (.iload_n 1, 1) := by decide +kernel
theorem dX10_could_34 : decode cX10_could 34 = .ok (.iload_n 2, 1) := by decide +kernel
theorem dX10_could_35 : decode cX10_could 35 = .ok (.iload_n 3, 1) := by decide +kernel
theorem dX10_could_36 : decode cX10_could 36 = .ok (.invokevirtual 225, 3) := by decide +kernel
theorem dX10_could_39 : decode cX10_could 39 = .ok (.goto 5, 3) := by decide +kernel
theorem dX10_could_42 : decode cX10_could 42 = .ok (.bipush (-2), 2) := by decide +kernel
theorem dX10_could_44 : decode cX10_could 44 = .ok (.ireturn, 1) := by decide +kernel
set_option maxRecDepth 20000 in
theorem ggX10_crowded_X10_isIn : GoodIn wsX10_crowded wsX10_isIn := goodIn_r _ [4] (by decide +kernel) (by decide +kernel)
set_option maxRecDepth 20000 in
theorem gX10_crowded_X10_isIn : GoodIn wsX10_crowded (va_wsS RX10 49 yX10_isIn wsX10_isIn) := goodIn_app (goodIn_of _ (by decide +kernel)) ggX10_crowded_X10_isIn
set_option maxRecDepth 20000 in
theorem ggX10_crowded_X10_coulds : GoodIn wsX10_crowded wsX10_coulds := goodIn_r _ [8, 9, 10, 11, 12, 3, 13, 14, 15, 16, 17, 18, 19, 20, 21, 22, 23, 24, 25, 26, 27, 28, 29, 30, 31, 32, 33, 34, 35, 36, 37, 38, 39, 40, 41, 42, 43, 44, 45, 46, 47, 48, 49, 50, 51, 52] (by decide +kernel) (by decide +kernel)
set_option maxRecDepth 20000 in
theorem gX10_crowded_X10_coulds : GoodIn wsX10_crowded (wsV RX10 225 RX10 yX10_coulds wsX10_coulds) := goodIn_app (goodIn_of _ (by decide +kernel)) ggX10_crowded_X10_coulds
theorem dX10_crowded_0 : decode cX10_crowded 0 = .ok (.iload_n 2, 1) := by decide +kernel
theorem dX10_crowded_1 : decode cX10_crowded 1 = .ok (.iconst 0, 1) := by decide +kernel
theorem dX10_crowded_2 : decode cX10_crowded 2 = .ok (.iconst 1, 1) := by decide +kernel
theorem dX10_crowded_3 : decode cX10_crowded 3 = .ok (.invokestatic 49, 3) := by decide +kernel
theorem dX10_crowded_6 : decode cX10_crowded 6 = .ok (.ifCond .ne 5, 3) := by decide +kernel
theorem dX10_crowded_9 : decode cX10_crowded 9 = .ok (.iconst (-1), 1) := by decide +kernel
theorem dX10_crowded_10 : decode cX10_crowded 10 = .ok (.ireturn, 1) := by decide +kernel
theorem dX10_crowded_11 : decode cX10_crowded 11 = .ok (.iload_n 1, 1) := by decide +kernel
theorem dX10_crowded_12 : decode cX10_crowded 12 = .ok (.iconst 0, 1) := by decide +kernel
theorem dX10_crowded_13 : decode cX10_crowded 13 = .ok (.sipush 9999, 3) := by decide +kernel
theorem dX10_crowded_16 : decode cX10_crowded 16 = .ok (.invokestatic 49, 3) := by decide +kernel
theorem dX10_crowded_19 : decode cX10_crowded 19 = .ok (.ifCond .ne 6, 3) := by decide +kernel
theorem dX10_crowded_22 : decode cX10_crowded 22 = .ok (.bipush (-2), 2) := by decide +kernel
theorem dX10_crowded_24 : decode cX10_crowded 24 = .ok (.ireturn, 1) := by decide +kernel
theorem dX10_crowded_25 : decode cX10_crowded 25 = .ok (.iconst 0, 1) := by decide +kernel
theorem dX10_crowded_26 : decode cX10_crowded 26 = .ok (.istore_n 3, 1) := by decide +kernel
theorem dX10_crowded_27 : decode cX10_crowded 27 = .ok (.iload_n 3, 1) := by decide +kernel
theorem dX10_crowded_28 : decode cX10_crowded 28 = .ok (.bipush 64, 2) := by decide +kernel
theorem dX10_crowded_30 : decode cX10_crowded 30 = .ok (.if_icmp .ge 30, 3) := by decide +kernel
theorem dX10_crowded_33 : decode cX10_crowded 33 = .ok (.aload_n 0, 1) := by decide +kernel
theorem dX10_crowded_34 : decode cX10_crowded 34 = .ok (.iload_n 3, 1) := by decide +kernel
theorem dX10_crowded_35 : decode cX10_crowded 35 = .ok (.iload_n 1, 1) := by decide +kernel
theorem dX10_crowded_36 : decode cX10_crowded 36 = .ok (.iload_n 2, 1) := by decide +kernel
theorem dX10_crowded_37 : decode cX10_crowded 37 = .ok (.invokevirtual 225, 3) := by decide +kernel
theorem dX10_crowded_40 : decode cX10_crowded 40 = .ok (.istore 4, 2) := by decide +kernel
theorem dX10_crowded_42 : decode cX10_crowded 42 = .ok (.iload 4, 2) := by decide +kernel
theorem dX10_crowded_44 : decode cX10_crowded 44 = .ok (.iload 4, 2) := by decide +kernel
theorem dX10_crowded_46 : decode cX10_crowded 46 = .ok (.iconst 1, 1) := by decide +kernel
theorem dX10_crowded_47 : decode cX10_crowded 47 = .ok (.isub, 1) := by decide +kernel
theorem dX10_crowded_48 : decode cX10_crowded 48 = .ok (.iand, 1) := by decide +kernel
theorem dX10_crowded_49 : decode cX10_crowded 49 = .ok (.ifCond .eq 5, 3) := by decide +kernel
theorem dX10_crowded_52 : decode cX10_crowded 52 = .ok (.iload_n 3, 1) := by decide +kernel
theorem dX10_crowded_53 : decode cX10_crowded 53 = .ok (.ireturn, 1) := by decide +kernel
theorem dX10_crowded_54 : decode cX10_crowded 54 = .ok (.iinc 3 1, 3) := by decide +kernel
theorem dX10_crowded_57 : decode cX10_crowded 57 = .ok (.goto (-30), 3) := by decide +kernel
theorem dX10_crowded_60 : decode cX10_crowded 60 = .ok (.bipush (-5), 2) := by decide +kernel
theorem dX10_crowded_62 : decode cX10_crowded 62 = .ok (.ireturn, 1) := by decide +kernel
set_option maxRecDepth 20000 in
theorem ggX10_green_X10_isSignal : GoodIn wsX10_green wsX10_isSignal := goodIn_r _ [6, 1, 7, 8, 5, 9, 10, 11, 12, 13, 14, 15, 16, 17, 18, 19, 20, 21, 22, 23, 24, 25, 26] (by decide +kernel) (by decide +kernel)
set_option maxRecDepth 20000 in
theorem gX10_green_X10_isSignal : GoodIn wsX10_green (wsV RX10 96 RX10 yX10_isSignal wsX10_isSignal) := goodIn_app (goodIn_of _ (by decide +kernel)) ggX10_green_X10_isSignal
set_option maxRecDepth 20000 in
theorem ggX10_green_X10_isIn : GoodIn wsX10_green wsX10_isIn := goodIn_r _ [9] (by decide +kernel) (by decide +kernel)
set_option maxRecDepth 20000 in
theorem gX10_green_X10_isIn : GoodIn wsX10_green (va_wsS RX10 49 yX10_isIn wsX10_isIn) := goodIn_app (goodIn_of _ (by decide +kernel)) ggX10_green_X10_isIn
theorem dX10_green_0 : decode cX10_green 0 = .ok (.iload_n 1, 1) := by decide +kernel
theorem dX10_green_1 : decode cX10_green 1 = .ok (.iconst (-1), 1) := by decide +kernel
theorem dX10_green_2 : decode cX10_green 2 = .ok (.if_icmp .ne 13, 3) := by decide +kernel
theorem dX10_green_5 : decode cX10_green 5 = .ok (.aload_n 0, 1) := by decide +kernel
theorem dX10_green_6 : decode cX10_green 6 = .ok (.getfield 11, 3) := by decide +kernel
theorem dX10_green_9 : decode cX10_green 9 = .ok (.bipush 18, 2) := by decide +kernel
theorem dX10_green_11 : decode cX10_green 11 = .ok (.iconst 0, 1) := by decide +kernel
theorem dX10_green_12 : decode cX10_green 12 = .ok (.iastore, 1) := by decide +kernel
theorem dX10_green_13 : decode cX10_green 13 = .ok (.iconst 0, 1) := by decide +kernel
theorem dX10_green_14 : decode cX10_green 14 = .ok (.ireturn, 1) := by decide +kernel
theorem dX10_green_15 : decode cX10_green 15 = .ok (.aload_n 0, 1) := by decide +kernel
theorem dX10_green_16 : decode cX10_green 16 = .ok (.iload_n 1, 1) := by decide +kernel
theorem dX10_green_17 : decode cX10_green 17 = .ok (.invokevirtual 96, 3) := by decide +kernel
theorem dX10_green_20 : decode cX10_green 20 = .ok (.ifCond .ne 5, 3) := by decide +kernel
theorem dX10_green_23 : decode cX10_green 23 = .ok (.iconst (-1), 1) := by decide +kernel
theorem dX10_green_24 : decode cX10_green 24 = .ok (.ireturn, 1) := by decide +kernel
theorem dX10_green_25 : decode cX10_green 25 = .ok (.iload_n 2, 1) := by decide +kernel
theorem dX10_green_26 : decode cX10_green 26 = .ok (.iconst 0, 1) := by decide +kernel
theorem dX10_green_27 : decode cX10_green 27 = .ok (.sipush 9998, 3) := by decide +kernel
theorem dX10_green_30 : decode cX10_green 30 = .ok (.invokestatic 49, 3) := by decide +kernel
theorem dX10_green_33 : decode cX10_green 33 = .ok (.ifCond .eq 15, 3) := by decide +kernel
theorem dX10_green_36 : decode cX10_green 36 = .ok (.iload_n 3, 1) := by decide +kernel
theorem dX10_green_37 : decode cX10_green 37 = .ok (.iload_n 2, 1) := by decide +kernel
theorem dX10_green_38 : decode cX10_green 38 = .ok (.if_icmp .le 10, 3) := by decide +kernel
theorem dX10_green_41 : decode cX10_green 41 = .ok (.iload_n 3, 1) := by decide +kernel
theorem dX10_green_42 : decode cX10_green 42 = .ok (.sipush 9999, 3) := by decide +kernel
theorem dX10_green_45 : decode cX10_green 45 = .ok (.if_icmp .le 6, 3) := by decide +kernel
theorem dX10_green_48 : decode cX10_green 48 = .ok (.bipush (-2), 2) := by decide +kernel
theorem dX10_green_50 : decode cX10_green 50 = .ok (.ireturn, 1) := by decide +kernel
theorem dX10_green_51 : decode cX10_green 51 = .ok (.aload_n 0, 1) := by decide +kernel
theorem dX10_green_52 : decode cX10_green 52 = .ok (.getfield 11, 3) := by decide +kernel
theorem dX10_green_55 : decode cX10_green 55 = .ok (.bipush 18, 2) := by decide +kernel
theorem dX10_green_57 : decode cX10_green 57 = .ok (.iaload, 1) := by decide +kernel
theorem dX10_green_58 : decode cX10_green 58 = .ok (.bipush 8, 2) := by decide +kernel
theorem dX10_green_60 : decode cX10_green 60 = .ok (.if_icmp .ne 6, 3) := by decide +kernel
theorem dX10_green_63 : decode cX10_green 63 = .ok (.bipush (-4), 2) := by decide +kernel
theorem dX10_green_65 : decode cX10_green 65 = .ok (.ireturn, 1) := by decide +kernel
theorem dX10_green_66 : decode cX10_green 66 = .ok (.sipush 321, 3) := by decide +kernel
theorem dX10_green_69 : decode cX10_green 69 = .ok (.iconst 3, 1) := by decide +kernel
theorem dX10_green_70 : decode cX10_green 70 = .ok (.aload_n 0, 1) := by decide +kernel
theorem dX10_green_71 : decode cX10_green 71 = .ok (.getfield 11, 3) := by decide +kernel
theorem dX10_green_74 : decode cX10_green 74 = .ok (.bipush 18, 2) := by decide +kernel
theorem dX10_green_76 : decode cX10_green 76 = .ok (.iaload, 1) := by decide +kernel
theorem dX10_green_77 : decode cX10_green 77 = .ok (.imul, 1) := by decide +kernel
theorem dX10_green_78 : decode cX10_green 78 = .ok (.iadd, 1) := by decide +kernel
theorem dX10_green_79 : decode cX10_green 79 = .ok (.istore 4, 2) := by decide +kernel
theorem dX10_green_81 : decode cX10_green 81 = .ok (.aload_n 0, 1) := by decide +kernel
theorem dX10_green_82 : decode cX10_green 82 = .ok (.getfield 11, 3) := by decide +kernel
theorem dX10_green_85 : decode cX10_green 85 = .ok (.iload 4, 2) := by decide +kernel
theorem dX10_green_87 : decode cX10_green 87 = .ok (.iload_n 1, 1) := by decide +kernel
theorem dX10_green_88 : decode cX10_green 88 = .ok (.iastore, 1) := by decide +kernel
theorem dX10_green_89 : decode cX10_green 89 = .ok (.aload_n 0, 1) := by decide +kernel
theorem dX10_green_90 : decode cX10_green 90 = .ok (.getfield 11, 3) := by decide +kernel
theorem dX10_green_93 : decode cX10_green 93 = .ok (.iload 4, 2) := by decide +kernel
theorem dX10_green_95 : decode cX10_green 95 = .ok (.iconst 1, 1) := by decide +kernel
theorem dX10_green_96 : decode cX10_green 96 = .ok (.iadd, 1) := by decide +kernel
theorem dX10_green_97 : decode cX10_green 97 = .ok (.iload_n 2, 1) := by decide +kernel
theorem dX10_green_98 : decode cX10_green 98 = .ok (.iastore, 1) := by decide +kernel
theorem dX10_green_99 : decode cX10_green 99 = .ok (.aload_n 0, 1) := by decide +kernel
theorem dX10_green_100 : decode cX10_green 100 = .ok (.getfield 11, 3) := by decide +kernel
theorem dX10_green_103 : decode cX10_green 103 = .ok (.iload 4, 2) := by decide +kernel
theorem dX10_green_105 : decode cX10_green 105 = .ok (.iconst 2, 1) := by decide +kernel
theorem dX10_green_106 : decode cX10_green 106 = .ok (.iadd, 1) := by decide +kernel
theorem dX10_green_107 : decode cX10_green 107 = .ok (.iload_n 3, 1) := by decide +kernel
theorem dX10_green_108 : decode cX10_green 108 = .ok (.iastore, 1) := by decide +kernel
theorem dX10_green_109 : decode cX10_green 109 = .ok (.aload_n 0, 1) := by decide +kernel
theorem dX10_green_110 : decode cX10_green 110 = .ok (.getfield 11, 3) := by decide +kernel
theorem dX10_green_113 : decode cX10_green 113 = .ok (.bipush 18, 2) := by decide +kernel
theorem dX10_green_115 : decode cX10_green 115 = .ok (.dup2, 1) := by decide +kernel
theorem dX10_green_116 : decode cX10_green 116 = .ok (.iaload, 1) := by decide +kernel
theorem dX10_green_117 : decode cX10_green 117 = .ok (.iconst 1, 1) := by decide +kernel
theorem dX10_green_118 : decode cX10_green 118 = .ok (.iadd, 1) := by decide +kernel
theorem dX10_green_119 : decode cX10_green 119 = .ok (.iastore, 1) := by decide +kernel
theorem dX10_green_120 : decode cX10_green 120 = .ok (.aload_n 0, 1) := by decide +kernel
theorem dX10_green_121 : decode cX10_green 121 = .ok (.getfield 11, 3) := by decide +kernel
theorem dX10_green_124 : decode cX10_green 124 = .ok (.bipush 18, 2) := by decide +kernel
theorem dX10_green_126 : decode cX10_green 126 = .ok (.iaload, 1) := by decide +kernel
theorem dX10_green_127 : decode cX10_green 127 = .ok (.ireturn, 1) := by decide +kernel
set_option maxRecDepth 20000 in
theorem ggX10_isSafe_X10_meet : GoodIn wsX10_isSafe wsX10_meet := goodIn_r _ [7, 2, 8, 9, 10, 11, 12, 13, 14, 15, 16, 17, 18, 19, 20, 21, 22, 23, 24] (by decide +kernel) (by decide +kernel)
set_option maxRecDepth 20000 in
theorem gX10_isSafe_X10_meet : GoodIn wsX10_isSafe (wsV RX10 81 RX10 yX10_meet wsX10_meet) := goodIn_app (goodIn_of _ (by decide +kernel)) ggX10_isSafe_X10_meet
theorem dX10_isSafe_0 : decode cX10_isSafe 0 = .ok (.aload_n 0, 1) := by decide +kernel
theorem dX10_isSafe_1 : decode cX10_isSafe 1 = .ok (.getfield 11, 3) := by decide +kernel
theorem dX10_isSafe_4 : decode cX10_isSafe 4 = .ok (.sipush 321, 3) := by decide +kernel
theorem dX10_isSafe_7 : decode cX10_isSafe 7 = .ok (.iconst 3, 1) := by decide +kernel
theorem dX10_isSafe_8 : decode cX10_isSafe 8 = .ok (.iload_n 1, 1) := by decide +kernel
theorem dX10_isSafe_9 : decode cX10_isSafe 9 = .ok (.imul, 1) := by decide +kernel
theorem dX10_isSafe_10 : decode cX10_isSafe 10 = .ok (.iadd, 1) := by decide +kernel
theorem dX10_isSafe_11 : decode cX10_isSafe 11 = .ok (.iaload, 1) := by decide +kernel
theorem dX10_isSafe_12 : decode cX10_isSafe 12 = .ok (.istore_n 3, 1) := by decide +kernel
theorem dX10_isSafe_13 : decode cX10_isSafe 13 = .ok (.aload_n 0, 1) := by decide +kernel
theorem dX10_isSafe_14 : decode cX10_isSafe 14 = .ok (.getfield 11, 3) := by decide +kernel
theorem dX10_isSafe_17 : decode cX10_isSafe 17 = .ok (.sipush 321, 3) := by decide +kernel
theorem dX10_isSafe_20 : decode cX10_isSafe 20 = .ok (.iconst 3, 1) := by decide +kernel
theorem dX10_isSafe_21 : decode cX10_isSafe 21 = .ok (.iload_n 2, 1) := by decide +kernel
theorem dX10_isSafe_22 : decode cX10_isSafe 22 = .ok (.imul, 1) := by decide +kernel
theorem dX10_isSafe_23 : decode cX10_isSafe 23 = .ok (.iadd, 1) := by decide +kernel
theorem dX10_isSafe_24 : decode cX10_isSafe 24 = .ok (.iaload, 1) := by decide +kernel
theorem dX10_isSafe_25 : decode cX10_isSafe 25 = .ok (.istore 4, 2) := by decide +kernel
theorem dX10_isSafe_27 : decode cX10_isSafe 27 = .ok (.aload_n 0, 1) := by decide +kernel
theorem dX10_isSafe_28 : decode cX10_isSafe 28 = .ok (.iload_n 3, 1) := by decide +kernel
theorem dX10_isSafe_29 : decode cX10_isSafe 29 = .ok (.iload 4, 2) := by decide +kernel
theorem dX10_isSafe_31 : decode cX10_isSafe 31 = .ok (.invokevirtual 81, 3) := by decide +kernel
theorem dX10_isSafe_34 : decode cX10_isSafe 34 = .ok (.ifCond .eq 91, 3) := by decide +kernel
theorem dX10_isSafe_37 : decode cX10_isSafe 37 = .ok (.aload_n 0, 1) := by decide +kernel
theorem dX10_isSafe_38 : decode cX10_isSafe 38 = .ok (.getfield 11, 3) := by decide +kernel
theorem dX10_isSafe_41 : decode cX10_isSafe 41 = .ok (.sipush 321, 3) := by decide +kernel
theorem dX10_isSafe_44 : decode cX10_isSafe 44 = .ok (.iconst 3, 1) := by decide +kernel
theorem dX10_isSafe_45 : decode cX10_isSafe 45 = .ok (.iload_n 1, 1) := by decide +kernel
theorem dX10_isSafe_46 : decode cX10_isSafe 46 = .ok (.imul, 1) := by decide +kernel
theorem dX10_isSafe_47 : decode cX10_isSafe 47 = .ok (.iadd, 1) := by decide +kernel
theorem dX10_isSafe_48 : decode cX10_isSafe 48 = .ok (.iconst 1, 1) := by decide +kernel
theorem dX10_isSafe_49 : decode cX10_isSafe 49 = .ok (.iadd, 1) := by decide +kernel
theorem dX10_isSafe_50 : decode cX10_isSafe 50 = .ok (.iaload, 1) := by decide +kernel
theorem dX10_isSafe_51 : decode cX10_isSafe 51 = .ok (.aload_n 0, 1) := by decide +kernel
theorem dX10_isSafe_52 : decode cX10_isSafe 52 = .ok (.getfield 11, 3) := by decide +kernel
theorem dX10_isSafe_55 : decode cX10_isSafe 55 = .ok (.sipush 321, 3) := by decide +kernel
theorem dX10_isSafe_58 : decode cX10_isSafe 58 = .ok (.iconst 3, 1) := by decide +kernel
theorem dX10_isSafe_59 : decode cX10_isSafe 59 = .ok (.iload_n 2, 1) := by decide +kernel
theorem dX10_isSafe_60 : decode cX10_isSafe 60 = .ok (.imul, 1) := by decide +kernel
theorem dX10_isSafe_61 : decode cX10_isSafe 61 = .ok (.iadd, 1) := by decide +kernel
theorem dX10_isSafe_62 : decode cX10_isSafe 62 = .ok (.iconst 2, 1) := by decide +kernel
theorem dX10_isSafe_63 : decode cX10_isSafe 63 = .ok (.iadd, 1) := by decide +kernel
theorem dX10_isSafe_64 : decode cX10_isSafe 64 = .ok (.iaload, 1) := by decide +kernel
theorem dX10_isSafe_65 : decode cX10_isSafe 65 = .ok (.isub, 1) := by decide +kernel
theorem dX10_isSafe_66 : decode cX10_isSafe 66 = .ok (.aload_n 0, 1) := by decide +kernel
theorem dX10_isSafe_67 : decode cX10_isSafe 67 = .ok (.getfield 21, 3) := by decide +kernel
theorem dX10_isSafe_70 : decode cX10_isSafe 70 = .ok (.bipush 8, 2) := by decide +kernel
theorem dX10_isSafe_72 : decode cX10_isSafe 72 = .ok (.iload 4, 2) := by decide +kernel
theorem dX10_isSafe_74 : decode cX10_isSafe 74 = .ok (.imul, 1) := by decide +kernel
theorem dX10_isSafe_75 : decode cX10_isSafe 75 = .ok (.iload_n 3, 1) := by decide +kernel
theorem dX10_isSafe_76 : decode cX10_isSafe 76 = .ok (.iadd, 1) := by decide +kernel
theorem dX10_isSafe_77 : decode cX10_isSafe 77 = .ok (.iaload, 1) := by decide +kernel
theorem dX10_isSafe_78 : decode cX10_isSafe 78 = .ok (.if_icmp .ge 47, 3) := by decide +kernel
theorem dX10_isSafe_81 : decode cX10_isSafe 81 = .ok (.aload_n 0, 1) := by decide +kernel
theorem dX10_isSafe_82 : decode cX10_isSafe 82 = .ok (.getfield 11, 3) := by decide +kernel
theorem dX10_isSafe_85 : decode cX10_isSafe 85 = .ok (.sipush 321, 3) := by decide +kernel
theorem dX10_isSafe_88 : decode cX10_isSafe 88 = .ok (.iconst 3, 1) := by decide +kernel
theorem dX10_isSafe_89 : decode cX10_isSafe 89 = .ok (.iload_n 2, 1) := by decide +kernel
theorem dX10_isSafe_90 : decode cX10_isSafe 90 = .ok (.imul, 1) := by decide +kernel
theorem dX10_isSafe_91 : decode cX10_isSafe 91 = .ok (.iadd, 1) := by decide +kernel
theorem dX10_isSafe_92 : decode cX10_isSafe 92 = .ok (.iconst 1, 1) := by decide +kernel
theorem dX10_isSafe_93 : decode cX10_isSafe 93 = .ok (.iadd, 1) := by decide +kernel
theorem dX10_isSafe_94 : decode cX10_isSafe 94 = .ok (.iaload, 1) := by decide +kernel
theorem dX10_isSafe_95 : decode cX10_isSafe 95 = .ok (.aload_n 0, 1) := by decide +kernel
theorem dX10_isSafe_96 : decode cX10_isSafe 96 = .ok (.getfield 11, 3) := by decide +kernel
theorem dX10_isSafe_99 : decode cX10_isSafe 99 = .ok (.sipush 321, 3) := by decide +kernel
theorem dX10_isSafe_102 : decode cX10_isSafe 102 = .ok (.iconst 3, 1) := by decide +kernel
theorem dX10_isSafe_103 : decode cX10_isSafe 103 = .ok (.iload_n 1, 1) := by decide +kernel
theorem dX10_isSafe_104 : decode cX10_isSafe 104 = .ok (.imul, 1) := by decide +kernel
theorem dX10_isSafe_105 : decode cX10_isSafe 105 = .ok (.iadd, 1) := by decide +kernel
theorem dX10_isSafe_106 : decode cX10_isSafe 106 = .ok (.iconst 2, 1) := by decide +kernel
theorem dX10_isSafe_107 : decode cX10_isSafe 107 = .ok (.iadd, 1) := by decide +kernel
theorem dX10_isSafe_108 : decode cX10_isSafe 108 = .ok (.iaload, 1) := by decide +kernel
theorem dX10_isSafe_109 : decode cX10_isSafe 109 = .ok (.isub, 1) := by decide +kernel
theorem dX10_isSafe_110 : decode cX10_isSafe 110 = .ok (.aload_n 0, 1) := by decide +kernel
theorem dX10_isSafe_111 : decode cX10_isSafe 111 = .ok (.getfield 21, 3) := by decide +kernel
theorem dX10_isSafe_114 : decode cX10_isSafe 114 = .ok (.bipush 8, 2) := by decide +kernel
theorem dX10_isSafe_116 : decode cX10_isSafe 116 = .ok (.iload_n 3, 1) := by decide +kernel
theorem dX10_isSafe_117 : decode cX10_isSafe 117 = .ok (.imul, 1) := by decide +kernel
theorem dX10_isSafe_118 : decode cX10_isSafe 118 = .ok (.iload 4, 2) := by decide +kernel
theorem dX10_isSafe_120 : decode cX10_isSafe 120 = .ok (.iadd, 1) := by decide +kernel
theorem dX10_isSafe_121 : decode cX10_isSafe 121 = .ok (.iaload, 1) := by decide +kernel
theorem dX10_isSafe_122 : decode cX10_isSafe 122 = .ok (.if_icmp .lt 7, 3) := by decide +kernel
theorem dX10_isSafe_125 : decode cX10_isSafe 125 = .ok (.iconst 1, 1) := by decide +kernel
theorem dX10_isSafe_126 : decode cX10_isSafe 126 = .ok (.goto 4, 3) := by decide +kernel
theorem dX10_isSafe_129 : decode cX10_isSafe 129 = .ok (.iconst 0, 1) := by decide +kernel
theorem dX10_isSafe_130 : decode cX10_isSafe 130 = .ok (.ireturn, 1) := by decide +kernel
set_option maxRecDepth 20000 in
theorem ggX10_proved_X10_isSafe : GoodIn wsX10_proved wsX10_isSafe := goodIn_r _ [6, 1, 7, 8, 9, 10, 5, 11, 12, 13, 14, 15, 16, 17, 18, 19, 20, 21, 22, 23, 24, 25, 26, 27, 28] (by decide +kernel) (by decide +kernel)
set_option maxRecDepth 20000 in
theorem gX10_proved_X10_isSafe : GoodIn wsX10_proved (wsV RX10 228 RX10 yX10_isSafe wsX10_isSafe) := goodIn_app (goodIn_of _ (by decide +kernel)) ggX10_proved_X10_isSafe
theorem dX10_proved_0 : decode cX10_proved 0 = .ok (.iconst 0, 1) := by decide +kernel
theorem dX10_proved_1 : decode cX10_proved 1 = .ok (.istore_n 1, 1) := by decide +kernel
theorem dX10_proved_2 : decode cX10_proved 2 = .ok (.iload_n 1, 1) := by decide +kernel
theorem dX10_proved_3 : decode cX10_proved 3 = .ok (.aload_n 0, 1) := by decide +kernel
theorem dX10_proved_4 : decode cX10_proved 4 = .ok (.getfield 11, 3) := by decide +kernel
theorem dX10_proved_7 : decode cX10_proved 7 = .ok (.bipush 18, 2) := by decide +kernel
theorem dX10_proved_9 : decode cX10_proved 9 = .ok (.iaload, 1) := by decide +kernel
theorem dX10_proved_10 : decode cX10_proved 10 = .ok (.if_icmp .ge 33, 3) := by decide +kernel
theorem dX10_proved_13 : decode cX10_proved 13 = .ok (.iconst 0, 1) := by decide +kernel
theorem dX10_proved_14 : decode cX10_proved 14 = .ok (.istore_n 2, 1) := by decide +kernel
theorem dX10_proved_15 : decode cX10_proved 15 = .ok (.iload_n 2, 1) := by decide +kernel
theorem dX10_proved_16 : decode cX10_proved 16 = .ok (.iload_n 1, 1) := by decide +kernel
theorem dX10_proved_17 : decode cX10_proved 17 = .ok (.if_icmp .ge 20, 3) := by decide +kernel
theorem dX10_proved_20 : decode cX10_proved 20 = .ok (.aload_n 0, 1) := by decide +kernel
theorem dX10_proved_21 : decode cX10_proved 21 = .ok (.iload_n 1, 1) := by decide +kernel
theorem dX10_proved_22 : decode cX10_proved 22 = .ok (.iload_n 2, 1) := by decide +kernel
theorem dX10_proved_23 : decode cX10_proved 23 = .ok (.invokevirtual 228, 3) := by decide +kernel
theorem dX10_proved_26 : decode cX10_proved 26 = .ok (.ifCond .ne 5, 3) := by decide +kernel
theorem dX10_proved_29 : decode cX10_proved 29 = .ok (.iload_n 1, 1) := by decide +kernel
theorem dX10_proved_30 : decode cX10_proved 30 = .ok (.ireturn, 1) := by decide +kernel
theorem dX10_proved_31 : decode cX10_proved 31 = .ok (.iinc 2 1, 3) := by decide +kernel
theorem dX10_proved_34 : decode cX10_proved 34 = .ok (.goto (-19), 3) := by decide +kernel
theorem dX10_proved_37 : decode cX10_proved 37 = .ok (.iinc 1 1, 3) := by decide +kernel
theorem dX10_proved_40 : decode cX10_proved 40 = .ok (.goto (-38), 3) := by decide +kernel
theorem dX10_proved_43 : decode cX10_proved 43 = .ok (.bipush (-5), 2) := by decide +kernel
theorem dX10_proved_45 : decode cX10_proved 45 = .ok (.ireturn, 1) := by decide +kernel
set_option maxRecDepth 20000 in
theorem ggX10_wave_X10_isIn : GoodIn wsX10_wave wsX10_isIn := goodIn_r _ [5] (by decide +kernel) (by decide +kernel)
set_option maxRecDepth 20000 in
theorem gX10_wave_X10_isIn : GoodIn wsX10_wave (va_wsS RX10 49 yX10_isIn wsX10_isIn) := goodIn_app (goodIn_of _ (by decide +kernel)) ggX10_wave_X10_isIn
theorem dX10_wave_0 : decode cX10_wave 0 = .ok (.iload_n 1, 1) := by decide +kernel
theorem dX10_wave_1 : decode cX10_wave 1 = .ok (.bipush 20, 2) := by decide +kernel
theorem dX10_wave_3 : decode cX10_wave 3 = .ok (.bipush 60, 2) := by decide +kernel
theorem dX10_wave_5 : decode cX10_wave 5 = .ok (.invokestatic 49, 3) := by decide +kernel
theorem dX10_wave_8 : decode cX10_wave 8 = .ok (.ifCond .ne 6, 3) := by decide +kernel
theorem dX10_wave_11 : decode cX10_wave 11 = .ok (.bipush (-2), 2) := by decide +kernel
theorem dX10_wave_13 : decode cX10_wave 13 = .ok (.ireturn, 1) := by decide +kernel
theorem dX10_wave_14 : decode cX10_wave 14 = .ok (.aload_n 0, 1) := by decide +kernel
theorem dX10_wave_15 : decode cX10_wave 15 = .ok (.getfield 11, 3) := by decide +kernel
theorem dX10_wave_18 : decode cX10_wave 18 = .ok (.bipush 16, 2) := by decide +kernel
theorem dX10_wave_20 : decode cX10_wave 20 = .ok (.iaload, 1) := by decide +kernel
theorem dX10_wave_21 : decode cX10_wave 21 = .ok (.istore_n 2, 1) := by decide +kernel
theorem dX10_wave_22 : decode cX10_wave 22 = .ok (.aload_n 0, 1) := by decide +kernel
theorem dX10_wave_23 : decode cX10_wave 23 = .ok (.getfield 11, 3) := by decide +kernel
theorem dX10_wave_26 : decode cX10_wave 26 = .ok (.bipush 16, 2) := by decide +kernel
theorem dX10_wave_28 : decode cX10_wave 28 = .ok (.iload_n 1, 1) := by decide +kernel
theorem dX10_wave_29 : decode cX10_wave 29 = .ok (.iastore, 1) := by decide +kernel
theorem dX10_wave_30 : decode cX10_wave 30 = .ok (.aload_n 0, 1) := by decide +kernel
theorem dX10_wave_31 : decode cX10_wave 31 = .ok (.getfield 11, 3) := by decide +kernel
theorem dX10_wave_34 : decode cX10_wave 34 = .ok (.bipush 17, 2) := by decide +kernel
theorem dX10_wave_36 : decode cX10_wave 36 = .ok (.iconst 0, 1) := by decide +kernel
theorem dX10_wave_37 : decode cX10_wave 37 = .ok (.iastore, 1) := by decide +kernel
theorem dX10_wave_38 : decode cX10_wave 38 = .ok (.iload_n 2, 1) := by decide +kernel
theorem dX10_wave_39 : decode cX10_wave 39 = .ok (.ireturn, 1) := by decide +kernel
set_option maxRecDepth 20000 in
theorem ggX10_mayBe_X10_isIn : GoodIn wsX10_mayBe wsX10_isIn := goodIn_r _ [5] (by decide +kernel) (by decide +kernel)
set_option maxRecDepth 20000 in
theorem gX10_mayBe_X10_isIn : GoodIn wsX10_mayBe (va_wsS RX10 49 yX10_isIn wsX10_isIn) := goodIn_app (goodIn_of _ (by decide +kernel)) ggX10_mayBe_X10_isIn
theorem dX10_mayBe_0 : decode cX10_mayBe 0 = .ok (.iload_n 1, 1) := by decide +kernel
theorem dX10_mayBe_1 : decode cX10_mayBe 1 = .ok (.ifCond .ne 20, 3) := by decide +kernel
theorem dX10_mayBe_4 : decode cX10_mayBe 4 = .ok (.iload_n 2, 1) := by decide +kernel
theorem dX10_mayBe_5 : decode cX10_mayBe 5 = .ok (.iconst 0, 1) := by decide +kernel
theorem dX10_mayBe_6 : decode cX10_mayBe 6 = .ok (.aload_n 0, 1) := by decide +kernel
theorem dX10_mayBe_7 : decode cX10_mayBe 7 = .ok (.getfield 11, 3) := by decide +kernel
theorem dX10_mayBe_10 : decode cX10_mayBe 10 = .ok (.bipush 16, 2) := by decide +kernel
theorem dX10_mayBe_12 : decode cX10_mayBe 12 = .ok (.iaload, 1) := by decide +kernel
theorem dX10_mayBe_13 : decode cX10_mayBe 13 = .ok (.iconst 1, 1) := by decide +kernel
theorem dX10_mayBe_14 : decode cX10_mayBe 14 = .ok (.isub, 1) := by decide +kernel
theorem dX10_mayBe_15 : decode cX10_mayBe 15 = .ok (.invokestatic 49, 3) := by decide +kernel
theorem dX10_mayBe_18 : decode cX10_mayBe 18 = .ok (.goto 30, 3) := by decide +kernel
theorem dX10_mayBe_21 : decode cX10_mayBe 21 = .ok (.iload_n 1, 1) := by decide +kernel
theorem dX10_mayBe_22 : decode cX10_mayBe 22 = .ok (.iconst 1, 1) := by decide +kernel
theorem dX10_mayBe_23 : decode cX10_mayBe 23 = .ok (.if_icmp .ne 18, 3) := by decide +kernel
theorem dX10_mayBe_26 : decode cX10_mayBe 26 = .ok (.iload_n 2, 1) := by decide +kernel
theorem dX10_mayBe_27 : decode cX10_mayBe 27 = .ok (.iconst 1, 1) := by decide +kernel
theorem dX10_mayBe_28 : decode cX10_mayBe 28 = .ok (.aload_n 0, 1) := by decide +kernel
theorem dX10_mayBe_29 : decode cX10_mayBe 29 = .ok (.getfield 11, 3) := by decide +kernel
theorem dX10_mayBe_32 : decode cX10_mayBe 32 = .ok (.bipush 16, 2) := by decide +kernel
theorem dX10_mayBe_34 : decode cX10_mayBe 34 = .ok (.iaload, 1) := by decide +kernel
theorem dX10_mayBe_35 : decode cX10_mayBe 35 = .ok (.invokestatic 49, 3) := by decide +kernel
theorem dX10_mayBe_38 : decode cX10_mayBe 38 = .ok (.goto 10, 3) := by decide +kernel
theorem dX10_mayBe_41 : decode cX10_mayBe 41 = .ok (.iload_n 2, 1) := by decide +kernel
theorem dX10_mayBe_42 : decode cX10_mayBe 42 = .ok (.iconst 0, 1) := by decide +kernel
theorem dX10_mayBe_43 : decode cX10_mayBe 43 = .ok (.bipush 99, 2) := by decide +kernel
theorem dX10_mayBe_45 : decode cX10_mayBe 45 = .ok (.invokestatic 49, 3) := by decide +kernel
theorem dX10_mayBe_48 : decode cX10_mayBe 48 = .ok (.ireturn, 1) := by decide +kernel
set_option maxRecDepth 20000 in
theorem ggX10_node_X10_mayBe : GoodIn wsX10_node wsX10_mayBe := goodIn_r _ [6, 1, 7, 8, 5, 9, 10, 11, 12, 13, 14, 15, 16, 17, 18, 19, 20, 21, 22, 23, 24, 25, 26] (by decide +kernel) (by decide +kernel)
set_option maxRecDepth 20000 in
theorem gX10_node_X10_mayBe : GoodIn wsX10_node (wsV RX10 231 RX10 yX10_mayBe wsX10_mayBe) := goodIn_app (goodIn_of _ (by decide +kernel)) ggX10_node_X10_mayBe
theorem dX10_node_0 : decode cX10_node 0 = .ok (.aload_n 0, 1) := by decide +kernel
theorem dX10_node_1 : decode cX10_node 1 = .ok (.iconst 0, 1) := by decide +kernel
theorem dX10_node_2 : decode cX10_node 2 = .ok (.iload_n 1, 1) := by decide +kernel
theorem dX10_node_3 : decode cX10_node 3 = .ok (.invokevirtual 231, 3) := by decide +kernel
theorem dX10_node_6 : decode cX10_node 6 = .ok (.ifCond .eq 21, 3) := by decide +kernel
theorem dX10_node_9 : decode cX10_node 9 = .ok (.aload_n 0, 1) := by decide +kernel
theorem dX10_node_10 : decode cX10_node 10 = .ok (.iconst 1, 1) := by decide +kernel
theorem dX10_node_11 : decode cX10_node 11 = .ok (.iload_n 2, 1) := by decide +kernel
theorem dX10_node_12 : decode cX10_node 12 = .ok (.invokevirtual 231, 3) := by decide +kernel
theorem dX10_node_15 : decode cX10_node 15 = .ok (.ifCond .eq 12, 3) := by decide +kernel
theorem dX10_node_18 : decode cX10_node 18 = .ok (.aload_n 0, 1) := by decide +kernel
theorem dX10_node_19 : decode cX10_node 19 = .ok (.iconst 2, 1) := by decide +kernel
theorem dX10_node_20 : decode cX10_node 20 = .ok (.iload_n 3, 1) := by decide +kernel
theorem dX10_node_21 : decode cX10_node 21 = .ok (.invokevirtual 231, 3) := by decide +kernel
theorem dX10_node_24 : decode cX10_node 24 = .ok (.ifCond .ne 6, 3) := by decide +kernel
theorem dX10_node_27 : decode cX10_node 27 = .ok (.bipush (-2), 2) := by decide +kernel
theorem dX10_node_29 : decode cX10_node 29 = .ok (.ireturn, 1) := by decide +kernel
theorem dX10_node_30 : decode cX10_node 30 = .ok (.aload_n 0, 1) := by decide +kernel
theorem dX10_node_31 : decode cX10_node 31 = .ok (.getfield 11, 3) := by decide +kernel
theorem dX10_node_34 : decode cX10_node 34 = .ok (.bipush 17, 2) := by decide +kernel
theorem dX10_node_36 : decode cX10_node 36 = .ok (.iaload, 1) := by decide +kernel
theorem dX10_node_37 : decode cX10_node 37 = .ok (.iconst 5, 1) := by decide +kernel
theorem dX10_node_38 : decode cX10_node 38 = .ok (.if_icmp .ne 6, 3) := by decide +kernel
theorem dX10_node_41 : decode cX10_node 41 = .ok (.bipush (-4), 2) := by decide +kernel
theorem dX10_node_43 : decode cX10_node 43 = .ok (.ireturn, 1) := by decide +kernel
theorem dX10_node_44 : decode cX10_node 44 = .ok (.sipush 306, 3) := by decide +kernel
theorem dX10_node_47 : decode cX10_node 47 = .ok (.iconst 3, 1) := by decide +kernel
theorem dX10_node_48 : decode cX10_node 48 = .ok (.aload_n 0, 1) := by decide +kernel
theorem dX10_node_49 : decode cX10_node 49 = .ok (.getfield 11, 3) := by decide +kernel
theorem dX10_node_52 : decode cX10_node 52 = .ok (.bipush 17, 2) := by decide +kernel
theorem dX10_node_54 : decode cX10_node 54 = .ok (.iaload, 1) := by decide +kernel
theorem dX10_node_55 : decode cX10_node 55 = .ok (.imul, 1) := by decide +kernel
theorem dX10_node_56 : decode cX10_node 56 = .ok (.iadd, 1) := by decide +kernel
theorem dX10_node_57 : decode cX10_node 57 = .ok (.istore 4, 2) := by decide +kernel
theorem dX10_node_59 : decode cX10_node 59 = .ok (.aload_n 0, 1) := by decide +kernel
theorem dX10_node_60 : decode cX10_node 60 = .ok (.getfield 11, 3) := by decide +kernel
theorem dX10_node_63 : decode cX10_node 63 = .ok (.iload 4, 2) := by decide +kernel
theorem dX10_node_65 : decode cX10_node 65 = .ok (.iload_n 1, 1) := by decide +kernel
theorem dX10_node_66 : decode cX10_node 66 = .ok (.iastore, 1) := by decide +kernel
theorem dX10_node_67 : decode cX10_node 67 = .ok (.aload_n 0, 1) := by decide +kernel
theorem dX10_node_68 : decode cX10_node 68 = .ok (.getfield 11, 3) := by decide +kernel
theorem dX10_node_71 : decode cX10_node 71 = .ok (.iload 4, 2) := by decide +kernel
theorem dX10_node_73 : decode cX10_node 73 = .ok (.iconst 1, 1) := by decide +kernel
theorem dX10_node_74 : decode cX10_node 74 = .ok (.iadd, 1) := by decide +kernel
theorem dX10_node_75 : decode cX10_node 75 = .ok (.iload_n 2, 1) := by decide +kernel
theorem dX10_node_76 : decode cX10_node 76 = .ok (.iastore, 1) := by decide +kernel
theorem dX10_node_77 : decode cX10_node 77 = .ok (.aload_n 0, 1) := by decide +kernel
theorem dX10_node_78 : decode cX10_node 78 = .ok (.getfield 11, 3) := by decide +kernel
theorem dX10_node_81 : decode cX10_node 81 = .ok (.iload 4, 2) := by decide +kernel
theorem dX10_node_83 : decode cX10_node 83 = .ok (.iconst 2, 1) := by decide +kernel
theorem dX10_node_84 : decode cX10_node 84 = .ok (.iadd, 1) := by decide +kernel
theorem dX10_node_85 : decode cX10_node 85 = .ok (.iload_n 3, 1) := by decide +kernel
theorem dX10_node_86 : decode cX10_node 86 = .ok (.iastore, 1) := by decide +kernel
theorem dX10_node_87 : decode cX10_node 87 = .ok (.aload_n 0, 1) := by decide +kernel
theorem dX10_node_88 : decode cX10_node 88 = .ok (.getfield 11, 3) := by decide +kernel
theorem dX10_node_91 : decode cX10_node 91 = .ok (.bipush 17, 2) := by decide +kernel
theorem dX10_node_93 : decode cX10_node 93 = .ok (.dup2, 1) := by decide +kernel
theorem dX10_node_94 : decode cX10_node 94 = .ok (.iaload, 1) := by decide +kernel
theorem dX10_node_95 : decode cX10_node 95 = .ok (.iconst 1, 1) := by decide +kernel
theorem dX10_node_96 : decode cX10_node 96 = .ok (.iadd, 1) := by decide +kernel
theorem dX10_node_97 : decode cX10_node 97 = .ok (.iastore, 1) := by decide +kernel
theorem dX10_node_98 : decode cX10_node 98 = .ok (.aload_n 0, 1) := by decide +kernel
theorem dX10_node_99 : decode cX10_node 99 = .ok (.getfield 11, 3) := by decide +kernel
theorem dX10_node_102 : decode cX10_node 102 = .ok (.bipush 17, 2) := by decide +kernel
theorem dX10_node_104 : decode cX10_node 104 = .ok (.iaload, 1) := by decide +kernel
theorem dX10_node_105 : decode cX10_node 105 = .ok (.iconst 1, 1) := by decide +kernel
theorem dX10_node_106 : decode cX10_node 106 = .ok (.isub, 1) := by decide +kernel
theorem dX10_node_107 : decode cX10_node 107 = .ok (.ireturn, 1) := by decide +kernel
set_option maxRecDepth 20000 in
theorem ggX10_isNode_X10_isIn : GoodIn wsX10_isNode wsX10_isIn := goodIn_r _ [5] (by decide +kernel) (by decide +kernel)
set_option maxRecDepth 20000 in
theorem gX10_isNode_X10_isIn : GoodIn wsX10_isNode (va_wsS RX10 49 yX10_isIn wsX10_isIn) := goodIn_app (goodIn_of _ (by decide +kernel)) ggX10_isNode_X10_isIn
theorem dX10_isNode_0 : decode cX10_isNode 0 = .ok (.iload_n 1, 1) := by decide +kernel
theorem dX10_isNode_1 : decode cX10_isNode 1 = .ok (.iconst 0, 1) := by decide +kernel
theorem dX10_isNode_2 : decode cX10_isNode 2 = .ok (.aload_n 0, 1) := by decide +kernel
theorem dX10_isNode_3 : decode cX10_isNode 3 = .ok (.getfield 11, 3) := by decide +kernel
theorem dX10_isNode_6 : decode cX10_isNode 6 = .ok (.bipush 17, 2) := by decide +kernel
theorem dX10_isNode_8 : decode cX10_isNode 8 = .ok (.iaload, 1) := by decide +kernel
theorem dX10_isNode_9 : decode cX10_isNode 9 = .ok (.iconst 1, 1) := by decide +kernel
theorem dX10_isNode_10 : decode cX10_isNode 10 = .ok (.isub, 1) := by decide +kernel
theorem dX10_isNode_11 : decode cX10_isNode 11 = .ok (.invokestatic 49, 3) := by decide +kernel
theorem dX10_isNode_14 : decode cX10_isNode 14 = .ok (.ireturn, 1) := by decide +kernel
set_option maxRecDepth 20000 in
theorem ggX10_change_X10_isNode : GoodIn wsX10_change wsX10_isNode := goodIn_r _ [6, 1, 7, 8, 5, 9, 14, 15, 16, 17, 18, 19, 20, 21, 22, 23, 24, 25, 26, 27, 28, 29, 30] (by decide +kernel) (by decide +kernel)
set_option maxRecDepth 20000 in
theorem gX10_change_X10_isNode : GoodIn wsX10_change (wsV RX10 234 RX10 yX10_isNode wsX10_isNode) := goodIn_app (goodIn_of _ (by decide +kernel)) ggX10_change_X10_isNode
set_option maxRecDepth 20000 in
theorem ggX10_change_X10_isIn : GoodIn wsX10_change wsX10_isIn := goodIn_r _ [9] (by decide +kernel) (by decide +kernel)
set_option maxRecDepth 20000 in
theorem gX10_change_X10_isIn : GoodIn wsX10_change (va_wsS RX10 49 yX10_isIn wsX10_isIn) := goodIn_app (goodIn_of _ (by decide +kernel)) ggX10_change_X10_isIn
set_option maxRecDepth 20000 in
theorem ggX10_change_X10_mayBe : GoodIn wsX10_change wsX10_mayBe := goodIn_r _ [13, 1, 7, 8, 5, 9, 14, 15, 16, 17, 18, 19, 20, 21, 22, 23, 24, 25, 26, 27, 28, 29, 30] (by decide +kernel) (by decide +kernel)
set_option maxRecDepth 20000 in
theorem gX10_change_X10_mayBe : GoodIn wsX10_change (wsV RX10 231 RX10 yX10_mayBe wsX10_mayBe) := goodIn_app (goodIn_of _ (by decide +kernel)) ggX10_change_X10_mayBe
theorem dX10_change_0 : decode cX10_change 0 = .ok (.aload_n 0, 1) := by decide +kernel
theorem dX10_change_1 : decode cX10_change 1 = .ok (.iload_n 1, 1) := by decide +kernel
theorem dX10_change_2 : decode cX10_change 2 = .ok (.invokevirtual 234, 3) := by decide +kernel
theorem dX10_change_5 : decode cX10_change 5 = .ok (.ifCond .eq 12, 3) := by decide +kernel
theorem dX10_change_8 : decode cX10_change 8 = .ok (.iload_n 2, 1) := by decide +kernel
theorem dX10_change_9 : decode cX10_change 9 = .ok (.iconst 0, 1) := by decide +kernel
theorem dX10_change_10 : decode cX10_change 10 = .ok (.iconst 2, 1) := by decide +kernel
theorem dX10_change_11 : decode cX10_change 11 = .ok (.invokestatic 49, 3) := by decide +kernel
theorem dX10_change_14 : decode cX10_change 14 = .ok (.ifCond .ne 5, 3) := by decide +kernel
theorem dX10_change_17 : decode cX10_change 17 = .ok (.iconst (-1), 1) := by decide +kernel
theorem dX10_change_18 : decode cX10_change 18 = .ok (.ireturn, 1) := by decide +kernel
theorem dX10_change_19 : decode cX10_change 19 = .ok (.aload_n 0, 1) := by decide +kernel
theorem dX10_change_20 : decode cX10_change 20 = .ok (.iload_n 2, 1) := by decide +kernel
theorem dX10_change_21 : decode cX10_change 21 = .ok (.iload_n 3, 1) := by decide +kernel
theorem dX10_change_22 : decode cX10_change 22 = .ok (.invokevirtual 231, 3) := by decide +kernel
theorem dX10_change_25 : decode cX10_change 25 = .ok (.ifCond .ne 6, 3) := by decide +kernel
theorem dX10_change_28 : decode cX10_change 28 = .ok (.bipush (-2), 2) := by decide +kernel
theorem dX10_change_30 : decode cX10_change 30 = .ok (.ireturn, 1) := by decide +kernel
theorem dX10_change_31 : decode cX10_change 31 = .ok (.aload_n 0, 1) := by decide +kernel
theorem dX10_change_32 : decode cX10_change 32 = .ok (.getfield 11, 3) := by decide +kernel
theorem dX10_change_35 : decode cX10_change 35 = .ok (.sipush 306, 3) := by decide +kernel
theorem dX10_change_38 : decode cX10_change 38 = .ok (.iconst 3, 1) := by decide +kernel
theorem dX10_change_39 : decode cX10_change 39 = .ok (.iload_n 1, 1) := by decide +kernel
theorem dX10_change_40 : decode cX10_change 40 = .ok (.imul, 1) := by decide +kernel
theorem dX10_change_41 : decode cX10_change 41 = .ok (.iadd, 1) := by decide +kernel
theorem dX10_change_42 : decode cX10_change 42 = .ok (.iload_n 2, 1) := by decide +kernel
theorem dX10_change_43 : decode cX10_change 43 = .ok (.iadd, 1) := by decide +kernel
theorem dX10_change_44 : decode cX10_change 44 = .ok (.iaload, 1) := by decide +kernel
theorem dX10_change_45 : decode cX10_change 45 = .ok (.istore 4, 2) := by decide +kernel
theorem dX10_change_47 : decode cX10_change 47 = .ok (.aload_n 0, 1) := by decide +kernel
theorem dX10_change_48 : decode cX10_change 48 = .ok (.getfield 11, 3) := by decide +kernel
theorem dX10_change_51 : decode cX10_change 51 = .ok (.sipush 306, 3) := by decide +kernel
theorem dX10_change_54 : decode cX10_change 54 = .ok (.iconst 3, 1) := by decide +kernel
theorem dX10_change_55 : decode cX10_change 55 = .ok (.iload_n 1, 1) := by decide +kernel
theorem dX10_change_56 : decode cX10_change 56 = .ok (.imul, 1) := by decide +kernel
theorem dX10_change_57 : decode cX10_change 57 = .ok (.iadd, 1) := by decide +kernel
theorem dX10_change_58 : decode cX10_change 58 = .ok (.iload_n 2, 1) := by decide +kernel
theorem dX10_change_59 : decode cX10_change 59 = .ok (.iadd, 1) := by decide +kernel
theorem dX10_change_60 : decode cX10_change 60 = .ok (.iload_n 3, 1) := by decide +kernel
theorem dX10_change_61 : decode cX10_change 61 = .ok (.iastore, 1) := by decide +kernel
theorem dX10_change_62 : decode cX10_change 62 = .ok (.iload 4, 2) := by decide +kernel
theorem dX10_change_64 : decode cX10_change 64 = .ok (.ireturn, 1) := by decide +kernel
theorem dX10_isOpen_0 : decode cX10_isOpen 0 = .ok (.iload_n 2, 1) := by decide +kernel
theorem dX10_isOpen_1 : decode cX10_isOpen 1 = .ok (.aload_n 0, 1) := by decide +kernel
theorem dX10_isOpen_2 : decode cX10_isOpen 2 = .ok (.getfield 11, 3) := by decide +kernel
theorem dX10_isOpen_5 : decode cX10_isOpen 5 = .ok (.sipush 306, 3) := by decide +kernel
theorem dX10_isOpen_8 : decode cX10_isOpen 8 = .ok (.iconst 3, 1) := by decide +kernel
theorem dX10_isOpen_9 : decode cX10_isOpen 9 = .ok (.iload_n 1, 1) := by decide +kernel
theorem dX10_isOpen_10 : decode cX10_isOpen 10 = .ok (.imul, 1) := by decide +kernel
theorem dX10_isOpen_11 : decode cX10_isOpen 11 = .ok (.iadd, 1) := by decide +kernel
theorem dX10_isOpen_12 : decode cX10_isOpen 12 = .ok (.iaload, 1) := by decide +kernel
theorem dX10_isOpen_13 : decode cX10_isOpen 13 = .ok (.isub, 1) := by decide +kernel
theorem dX10_isOpen_14 : decode cX10_isOpen 14 = .ok (.aload_n 0, 1) := by decide +kernel
theorem dX10_isOpen_15 : decode cX10_isOpen 15 = .ok (.getfield 11, 3) := by decide +kernel
theorem dX10_isOpen_18 : decode cX10_isOpen 18 = .ok (.bipush 16, 2) := by decide +kernel
theorem dX10_isOpen_20 : decode cX10_isOpen 20 = .ok (.iaload, 1) := by decide +kernel
theorem dX10_isOpen_21 : decode cX10_isOpen 21 = .ok (.irem, 1) := by decide +kernel
theorem dX10_isOpen_22 : decode cX10_isOpen 22 = .ok (.istore_n 3, 1) := by decide +kernel
theorem dX10_isOpen_23 : decode cX10_isOpen 23 = .ok (.iload_n 3, 1) := by decide +kernel
theorem dX10_isOpen_24 : decode cX10_isOpen 24 = .ok (.ifCond .ge 15, 3) := by decide +kernel
theorem dX10_isOpen_27 : decode cX10_isOpen 27 = .ok (.iload_n 3, 1) := by decide +kernel
theorem dX10_isOpen_28 : decode cX10_isOpen 28 = .ok (.aload_n 0, 1) := by decide +kernel
theorem dX10_isOpen_29 : decode cX10_isOpen 29 = .ok (.getfield 11, 3) := by decide +kernel
theorem dX10_isOpen_32 : decode cX10_isOpen 32 = .ok (.bipush 16, 2) := by decide +kernel
theorem dX10_isOpen_34 : decode cX10_isOpen 34 = .ok (.iaload, 1) := by decide +kernel
theorem dX10_isOpen_35 : decode cX10_isOpen 35 = .ok (.iadd, 1) := by decide +kernel
theorem dX10_isOpen_36 : decode cX10_isOpen 36 = .ok (.goto 4, 3) := by decide +kernel
theorem dX10_isOpen_39 : decode cX10_isOpen 39 = .ok (.iload_n 3, 1) := by decide +kernel
theorem dX10_isOpen_40 : decode cX10_isOpen 40 = .ok (.aload_n 0, 1) := by decide +kernel
theorem dX10_isOpen_41 : decode cX10_isOpen 41 = .ok (.getfield 11, 3) := by decide +kernel
theorem dX10_isOpen_44 : decode cX10_isOpen 44 = .ok (.sipush 306, 3) := by decide +kernel
theorem dX10_isOpen_47 : decode cX10_isOpen 47 = .ok (.iconst 3, 1) := by decide +kernel
theorem dX10_isOpen_48 : decode cX10_isOpen 48 = .ok (.iload_n 1, 1) := by decide +kernel
theorem dX10_isOpen_49 : decode cX10_isOpen 49 = .ok (.imul, 1) := by decide +kernel
theorem dX10_isOpen_50 : decode cX10_isOpen 50 = .ok (.iadd, 1) := by decide +kernel
theorem dX10_isOpen_51 : decode cX10_isOpen 51 = .ok (.iconst 1, 1) := by decide +kernel
theorem dX10_isOpen_52 : decode cX10_isOpen 52 = .ok (.iadd, 1) := by decide +kernel
theorem dX10_isOpen_53 : decode cX10_isOpen 53 = .ok (.iaload, 1) := by decide +kernel
theorem dX10_isOpen_54 : decode cX10_isOpen 54 = .ok (.if_icmp .ge 7, 3) := by decide +kernel
theorem dX10_isOpen_57 : decode cX10_isOpen 57 = .ok (.iconst 1, 1) := by decide +kernel
theorem dX10_isOpen_58 : decode cX10_isOpen 58 = .ok (.goto 4, 3) := by decide +kernel
theorem dX10_isOpen_61 : decode cX10_isOpen 61 = .ok (.iconst 0, 1) := by decide +kernel
theorem dX10_isOpen_62 : decode cX10_isOpen 62 = .ok (.ireturn, 1) := by decide +kernel
set_option maxRecDepth 20000 in
theorem ggX10_bandOf_X10_isOpen : GoodIn wsX10_bandOf wsX10_isOpen := goodIn_r _ [6, 1, 7, 8, 9, 10, 11, 12, 13, 14, 15, 16, 17, 18, 19, 20, 21, 22, 23] (by decide +kernel) (by decide +kernel)
set_option maxRecDepth 20000 in
theorem gX10_bandOf_X10_isOpen : GoodIn wsX10_bandOf (wsV RX10 237 RX10 yX10_isOpen wsX10_isOpen) := goodIn_app (goodIn_of _ (by decide +kernel)) ggX10_bandOf_X10_isOpen
theorem dX10_bandOf_0 : decode cX10_bandOf 0 = .ok (.iconst 0, 1) := by decide +kernel
theorem dX10_bandOf_1 : decode cX10_bandOf 1 = .ok (.istore_n 2, 1) := by decide +kernel
theorem dX10_bandOf_2 : decode cX10_bandOf 2 = .ok (.iconst 0, 1) := by decide +kernel
theorem dX10_bandOf_3 : decode cX10_bandOf 3 = .ok (.istore_n 3, 1) := by decide +kernel
theorem dX10_bandOf_4 : decode cX10_bandOf 4 = .ok (.iload_n 3, 1) := by decide +kernel
theorem dX10_bandOf_5 : decode cX10_bandOf 5 = .ok (.aload_n 0, 1) := by decide +kernel
theorem dX10_bandOf_6 : decode cX10_bandOf 6 = .ok (.getfield 11, 3) := by decide +kernel
theorem dX10_bandOf_9 : decode cX10_bandOf 9 = .ok (.bipush 16, 2) := by decide +kernel
theorem dX10_bandOf_11 : decode cX10_bandOf 11 = .ok (.iaload, 1) := by decide +kernel
theorem dX10_bandOf_12 : decode cX10_bandOf 12 = .ok (.if_icmp .ge 131, 3) := by decide +kernel
theorem dX10_bandOf_15 : decode cX10_bandOf 15 = .ok (.aload_n 0, 1) := by decide +kernel
theorem dX10_bandOf_16 : decode cX10_bandOf 16 = .ok (.getfield 11, 3) := by decide +kernel
theorem dX10_bandOf_19 : decode cX10_bandOf 19 = .ok (.bipush 17, 2) := by decide +kernel
theorem dX10_bandOf_21 : decode cX10_bandOf 21 = .ok (.iaload, 1) := by decide +kernel
theorem dX10_bandOf_22 : decode cX10_bandOf 22 = .ok (.ifCond .le 121, 3) := by decide +kernel
theorem dX10_bandOf_25 : decode cX10_bandOf 25 = .ok (.iconst 1, 1) := by decide +kernel
theorem dX10_bandOf_26 : decode cX10_bandOf 26 = .ok (.istore 4, 2) := by decide +kernel
theorem dX10_bandOf_28 : decode cX10_bandOf 28 = .ok (.iload_n 3, 1) := by decide +kernel
theorem dX10_bandOf_29 : decode cX10_bandOf 29 = .ok (.istore 5, 2) := by decide +kernel
theorem dX10_bandOf_31 : decode cX10_bandOf 31 = .ok (.iconst 0, 1) := by decide +kernel
theorem dX10_bandOf_32 : decode cX10_bandOf 32 = .ok (.istore 6, 2) := by decide +kernel
theorem dX10_bandOf_34 : decode cX10_bandOf 34 = .ok (.iload 6, 2) := by decide +kernel
theorem dX10_bandOf_36 : decode cX10_bandOf 36 = .ok (.aload_n 0, 1) := by decide +kernel
theorem dX10_bandOf_37 : decode cX10_bandOf 37 = .ok (.getfield 11, 3) := by decide +kernel
theorem dX10_bandOf_40 : decode cX10_bandOf 40 = .ok (.bipush 17, 2) := by decide +kernel
theorem dX10_bandOf_42 : decode cX10_bandOf 42 = .ok (.iaload, 1) := by decide +kernel
theorem dX10_bandOf_43 : decode cX10_bandOf 43 = .ok (.if_icmp .ge 81, 3) := by decide +kernel
theorem dX10_bandOf_46 : decode cX10_bandOf 46 = .ok (.iload_n 1, 1) := by decide +kernel
theorem dX10_bandOf_47 : decode cX10_bandOf 47 = .ok (.ifCond .ne 8, 3) := by decide +kernel
theorem dX10_bandOf_50 : decode cX10_bandOf 50 = .ok (.iload 6, 2) := by decide +kernel
theorem dX10_bandOf_52 : decode cX10_bandOf 52 = .ok (.goto 15, 3) := by decide +kernel
theorem dX10_bandOf_55 : decode cX10_bandOf 55 = .ok (.aload_n 0, 1) := by decide +kernel
theorem dX10_bandOf_56 : decode cX10_bandOf 56 = .ok (.getfield 11, 3) := by decide +kernel
theorem dX10_bandOf_59 : decode cX10_bandOf 59 = .ok (.bipush 17, 2) := by decide +kernel
theorem dX10_bandOf_61 : decode cX10_bandOf 61 = .ok (.iaload, 1) := by decide +kernel
theorem dX10_bandOf_62 : decode cX10_bandOf 62 = .ok (.iconst 1, 1) := by decide +kernel
theorem dX10_bandOf_63 : decode cX10_bandOf 63 = .ok (.isub, 1) := by decide +kernel
theorem dX10_bandOf_64 : decode cX10_bandOf 64 = .ok (.iload 6, 2) := by decide +kernel
theorem dX10_bandOf_66 : decode cX10_bandOf 66 = .ok (.isub, 1) := by decide +kernel
theorem dX10_bandOf_67 : decode cX10_bandOf 67 = .ok (.istore 7, 2) := by decide +kernel
theorem dX10_bandOf_69 : decode cX10_bandOf 69 = .ok (.iload 6, 2) := by decide +kernel
theorem dX10_bandOf_71 : decode cX10_bandOf 71 = .ok (.ifCond .le 34, 3) := by decide +kernel
theorem dX10_bandOf_74 : decode cX10_bandOf 74 = .ok (.iload 5, 2) := by decide +kernel
theorem dX10_bandOf_76 : decode cX10_bandOf 76 = .ok (.aload_n 0, 1) := by decide +kernel
theorem dX10_bandOf_77 : decode cX10_bandOf 77 = .ok (.getfield 11, 3) := by decide +kernel
theorem dX10_bandOf_80 : decode cX10_bandOf 80 = .ok (.sipush 306, 3) := by decide +kernel
theorem dX10_bandOf_83 : decode cX10_bandOf 83 = .ok (.iconst 3, 1) := by decide +kernel
theorem dX10_bandOf_84 : decode cX10_bandOf 84 = .ok (.iload_n 1, 1) := by decide +kernel
theorem dX10_bandOf_85 : decode cX10_bandOf 85 = .ok (.ifCond .ne 10, 3) := by decide +kernel
theorem dX10_bandOf_88 : decode cX10_bandOf 88 = .ok (.iload 7, 2) := by decide +kernel
theorem dX10_bandOf_90 : decode cX10_bandOf 90 = .ok (.iconst 1, 1) := by decide +kernel
theorem dX10_bandOf_91 : decode cX10_bandOf 91 = .ok (.isub, 1) := by decide +kernel
theorem dX10_bandOf_92 : decode cX10_bandOf 92 = .ok (.goto 5, 3) := by decide +kernel
theorem dX10_bandOf_95 : decode cX10_bandOf 95 = .ok (.iload 7, 2) := by decide +kernel
theorem dX10_bandOf_97 : decode cX10_bandOf 97 = .ok (.imul, 1) := by decide +kernel
theorem dX10_bandOf_98 : decode cX10_bandOf 98 = .ok (.iadd, 1) := by decide +kernel
theorem dX10_bandOf_99 : decode cX10_bandOf 99 = .ok (.iconst 2, 1) := by decide +kernel
theorem dX10_bandOf_100 : decode cX10_bandOf 100 = .ok (.iadd, 1) := by decide +kernel
theorem dX10_bandOf_101 : decode cX10_bandOf 101 = .ok (.iaload, 1) := by decide +kernel
theorem dX10_bandOf_102 : decode cX10_bandOf 102 = .ok (.iadd, 1) := by decide +kernel
theorem dX10_bandOf_103 : decode cX10_bandOf 103 = .ok (.istore 5, 2) := by decide +kernel
theorem dX10_bandOf_105 : decode cX10_bandOf 105 = .ok (.iload 4, 2) := by decide +kernel
theorem dX10_bandOf_107 : decode cX10_bandOf 107 = .ok (.aload_n 0, 1) := by decide +kernel
theorem dX10_bandOf_108 : decode cX10_bandOf 108 = .ok (.iload 7, 2) := by decide +kernel
theorem dX10_bandOf_110 : decode cX10_bandOf 110 = .ok (.iload 5, 2) := by decide +kernel
theorem dX10_bandOf_112 : decode cX10_bandOf 112 = .ok (.invokevirtual 237, 3) := by decide +kernel
theorem dX10_bandOf_115 : decode cX10_bandOf 115 = .ok (.iand, 1) := by decide +kernel
theorem dX10_bandOf_116 : decode cX10_bandOf 116 = .ok (.istore 4, 2) := by decide +kernel
theorem dX10_bandOf_118 : decode cX10_bandOf 118 = .ok (.iinc 6 1, 3) := by decide +kernel
theorem dX10_bandOf_121 : decode cX10_bandOf 121 = .ok (.goto (-87), 3) := by decide +kernel
theorem dX10_bandOf_124 : decode cX10_bandOf 124 = .ok (.iload_n 2, 1) := by decide +kernel
theorem dX10_bandOf_125 : decode cX10_bandOf 125 = .ok (.iload 4, 2) := by decide +kernel
theorem dX10_bandOf_127 : decode cX10_bandOf 127 = .ok (.ifCond .eq 7, 3) := by decide +kernel
theorem dX10_bandOf_130 : decode cX10_bandOf 130 = .ok (.iconst 1, 1) := by decide +kernel
theorem dX10_bandOf_131 : decode cX10_bandOf 131 = .ok (.goto 4, 3) := by decide +kernel
theorem dX10_bandOf_134 : decode cX10_bandOf 134 = .ok (.iconst 0, 1) := by decide +kernel
theorem dX10_bandOf_135 : decode cX10_bandOf 135 = .ok (.iadd, 1) := by decide +kernel
theorem dX10_bandOf_136 : decode cX10_bandOf 136 = .ok (.istore_n 2, 1) := by decide +kernel
theorem dX10_bandOf_137 : decode cX10_bandOf 137 = .ok (.iinc 3 1, 3) := by decide +kernel
theorem dX10_bandOf_140 : decode cX10_bandOf 140 = .ok (.goto (-136), 3) := by decide +kernel
theorem dX10_bandOf_143 : decode cX10_bandOf 143 = .ok (.iload_n 2, 1) := by decide +kernel
theorem dX10_bandOf_144 : decode cX10_bandOf 144 = .ok (.ireturn, 1) := by decide +kernel
set_option maxRecDepth 20000 in
theorem ggX10_bands_X10_bandOf : GoodIn wsX10_bands wsX10_bandOf := goodIn_r _ [5, 6, 7, 8, 9, 4, 10, 11, 12, 13, 14, 15, 16, 17, 18, 19, 20, 21, 22, 23, 24, 25, 26, 27] (by decide +kernel) (by decide +kernel)
set_option maxRecDepth 20000 in
theorem gX10_bands_X10_bandOf : GoodIn wsX10_bands (wsV RX10 240 RX10 yX10_bandOf wsX10_bandOf) := goodIn_app (goodIn_of _ (by decide +kernel)) ggX10_bands_X10_bandOf
theorem dX10_bands_0 : decode cX10_bands 0 = .ok (.aload_n 0, 1) := by decide +kernel
theorem dX10_bands_1 : decode cX10_bands 1 = .ok (.iconst 0, 1) := by decide +kernel
theorem dX10_bands_2 : decode cX10_bands 2 = .ok (.invokevirtual 240, 3) := by decide +kernel
theorem dX10_bands_5 : decode cX10_bands 5 = .ok (.aload_n 0, 1) := by decide +kernel
theorem dX10_bands_6 : decode cX10_bands 6 = .ok (.iconst 1, 1) := by decide +kernel
theorem dX10_bands_7 : decode cX10_bands 7 = .ok (.invokevirtual 240, 3) := by decide +kernel
theorem dX10_bands_10 : decode cX10_bands 10 = .ok (.iadd, 1) := by decide +kernel
theorem dX10_bands_11 : decode cX10_bands 11 = .ok (.ireturn, 1) := by decide +kernel
set_option maxRecDepth 20000 in
theorem ggX10_band_X10_isIn : GoodIn wsX10_band wsX10_isIn := goodIn_r _ [4] (by decide +kernel) (by decide +kernel)
set_option maxRecDepth 20000 in
theorem gX10_band_X10_isIn : GoodIn wsX10_band (va_wsS RX10 49 yX10_isIn wsX10_isIn) := goodIn_app (goodIn_of _ (by decide +kernel)) ggX10_band_X10_isIn
set_option maxRecDepth 20000 in
theorem ggX10_band_X10_bands : GoodIn wsX10_band wsX10_bands := goodIn_r _ [8, 9, 10, 11, 3, 12, 13, 14, 15, 16, 17, 18, 19, 20, 21, 22, 23, 24, 25, 26, 27, 28, 29, 30, 31, 32, 33, 34] (by decide +kernel) (by decide +kernel)
set_option maxRecDepth 20000 in
theorem gX10_band_X10_bands : GoodIn wsX10_band (wsV RX10 243 RX10 yX10_bands wsX10_bands) := goodIn_app (goodIn_of _ (by decide +kernel)) ggX10_band_X10_bands
set_option maxRecDepth 20000 in
theorem ggX10_band_X10_bandOf : GoodIn wsX10_band wsX10_bandOf := goodIn_r _ [12, 13, 14, 15, 16, 3, 17, 18, 19, 20, 21, 22, 23, 24, 25, 26, 27, 28, 29, 30, 31, 32, 33, 34] (by decide +kernel) (by decide +kernel)
set_option maxRecDepth 20000 in
theorem gX10_band_X10_bandOf : GoodIn wsX10_band (wsV RX10 240 RX10 yX10_bandOf wsX10_bandOf) := goodIn_app (goodIn_of _ (by decide +kernel)) ggX10_band_X10_bandOf
theorem dX10_band_0 : decode cX10_band 0 = .ok (.iload_n 1, 1) := by decide +kernel
theorem dX10_band_1 : decode cX10_band 1 = .ok (.iconst 0, 1) := by decide +kernel
theorem dX10_band_2 : decode cX10_band 2 = .ok (.iconst 2, 1) := by decide +kernel
theorem dX10_band_3 : decode cX10_band 3 = .ok (.invokestatic 49, 3) := by decide +kernel
theorem dX10_band_6 : decode cX10_band 6 = .ok (.ifCond .ne 7, 3) := by decide +kernel
theorem dX10_band_9 : decode cX10_band 9 = .ok (.iconst (-1), 1) := by decide +kernel
theorem dX10_band_10 : decode cX10_band 10 = .ok (.goto 20, 3) := by decide +kernel
theorem dX10_band_13 : decode cX10_band 13 = .ok (.iload_n 1, 1) := by decide +kernel
theorem dX10_band_14 : decode cX10_band 14 = .ok (.iconst 2, 1) := by decide +kernel
theorem dX10_band_15 : decode cX10_band 15 = .ok (.if_icmp .ne 10, 3) := by decide +kernel
theorem dX10_band_18 : decode cX10_band 18 = .ok (.aload_n 0, 1) := by decide +kernel
theorem dX10_band_19 : decode cX10_band 19 = .ok (.invokevirtual 243, 3) := by decide +kernel
theorem dX10_band_22 : decode cX10_band 22 = .ok (.goto 8, 3) := by decide +kernel
theorem dX10_band_25 : decode cX10_band 25 = .ok (.aload_n 0, 1) := by decide +kernel
theorem dX10_band_26 : decode cX10_band 26 = .ok (.iload_n 1, 1) := by decide +kernel
theorem dX10_band_27 : decode cX10_band 27 = .ok (.invokevirtual 240, 3) := by decide +kernel
theorem dX10_band_30 : decode cX10_band 30 = .ok (.ireturn, 1) := by decide +kernel
set_option maxRecDepth 20000 in
theorem ggX10_bestOffset_X10_bands : GoodIn wsX10_bestOffset wsX10_bands := goodIn_r _ [7, 8, 9, 10, 6, 11, 1, 12, 13, 14, 15, 16, 17, 18, 19, 20, 21, 22, 23, 24, 25, 26, 27, 28, 29, 30, 31, 32] (by decide +kernel) (by decide +kernel)
set_option maxRecDepth 20000 in
theorem gX10_bestOffset_X10_bands : GoodIn wsX10_bestOffset (wsV RX10 243 RX10 yX10_bands wsX10_bands) := goodIn_app (goodIn_of _ (by decide +kernel)) ggX10_bestOffset_X10_bands
theorem dX10_bestOffset_0 : decode cX10_bestOffset 0 = .ok (.aload_n 0, 1) := by decide +kernel
theorem dX10_bestOffset_1 : decode cX10_bestOffset 1 = .ok (.getfield 11, 3) := by decide +kernel
theorem dX10_bestOffset_4 : decode cX10_bestOffset 4 = .ok (.sipush 306, 3) := by decide +kernel
theorem dX10_bestOffset_7 : decode cX10_bestOffset 7 = .ok (.iconst 3, 1) := by decide +kernel
theorem dX10_bestOffset_8 : decode cX10_bestOffset 8 = .ok (.iload_n 1, 1) := by decide +kernel
theorem dX10_bestOffset_9 : decode cX10_bestOffset 9 = .ok (.imul, 1) := by decide +kernel
theorem dX10_bestOffset_10 : decode cX10_bestOffset 10 = .ok (.iadd, 1) := by decide +kernel
theorem dX10_bestOffset_11 : decode cX10_bestOffset 11 = .ok (.iaload, 1) := by decide +kernel
theorem dX10_bestOffset_12 : decode cX10_bestOffset 12 = .ok (.istore_n 2, 1) := by decide +kernel
theorem dX10_bestOffset_13 : decode cX10_bestOffset 13 = .ok (.iconst 0, 1) := by decide +kernel
theorem dX10_bestOffset_14 : decode cX10_bestOffset 14 = .ok (.istore_n 3, 1) := by decide +kernel
theorem dX10_bestOffset_15 : decode cX10_bestOffset 15 = .ok (.aload_n 0, 1) := by decide +kernel
theorem dX10_bestOffset_16 : decode cX10_bestOffset 16 = .ok (.iconst (-1), 1) := by decide +kernel
theorem dX10_bestOffset_17 : decode cX10_bestOffset 17 = .ok (.putfield 246, 3) := by decide +kernel
theorem dX10_bestOffset_20 : decode cX10_bestOffset 20 = .ok (.iconst 0, 1) := by decide +kernel
theorem dX10_bestOffset_21 : decode cX10_bestOffset 21 = .ok (.istore 4, 2) := by decide +kernel
theorem dX10_bestOffset_23 : decode cX10_bestOffset 23 = .ok (.iload 4, 2) := by decide +kernel
theorem dX10_bestOffset_25 : decode cX10_bestOffset 25 = .ok (.aload_n 0, 1) := by decide +kernel
theorem dX10_bestOffset_26 : decode cX10_bestOffset 26 = .ok (.getfield 11, 3) := by decide +kernel
theorem dX10_bestOffset_29 : decode cX10_bestOffset 29 = .ok (.bipush 16, 2) := by decide +kernel
theorem dX10_bestOffset_31 : decode cX10_bestOffset 31 = .ok (.iaload, 1) := by decide +kernel
theorem dX10_bestOffset_32 : decode cX10_bestOffset 32 = .ok (.if_icmp .ge 50, 3) := by decide +kernel
theorem dX10_bestOffset_35 : decode cX10_bestOffset 35 = .ok (.aload_n 0, 1) := by decide +kernel
theorem dX10_bestOffset_36 : decode cX10_bestOffset 36 = .ok (.getfield 11, 3) := by decide +kernel
theorem dX10_bestOffset_39 : decode cX10_bestOffset 39 = .ok (.sipush 306, 3) := by decide +kernel
theorem dX10_bestOffset_42 : decode cX10_bestOffset 42 = .ok (.iconst 3, 1) := by decide +kernel
theorem dX10_bestOffset_43 : decode cX10_bestOffset 43 = .ok (.iload_n 1, 1) := by decide +kernel
theorem dX10_bestOffset_44 : decode cX10_bestOffset 44 = .ok (.imul, 1) := by decide +kernel
theorem dX10_bestOffset_45 : decode cX10_bestOffset 45 = .ok (.iadd, 1) := by decide +kernel
theorem dX10_bestOffset_46 : decode cX10_bestOffset 46 = .ok (.iload 4, 2) := by decide +kernel
theorem dX10_bestOffset_48 : decode cX10_bestOffset 48 = .ok (.iastore, 1) := by decide +kernel
theorem dX10_bestOffset_49 : decode cX10_bestOffset 49 = .ok (.aload_n 0, 1) := by decide +kernel
theorem dX10_bestOffset_50 : decode cX10_bestOffset 50 = .ok (.invokevirtual 243, 3) := by decide +kernel
theorem dX10_bestOffset_53 : decode cX10_bestOffset 53 = .ok (.istore 5, 2) := by decide +kernel
theorem dX10_bestOffset_55 : decode cX10_bestOffset 55 = .ok (.iload 5, 2) := by decide +kernel
theorem dX10_bestOffset_57 : decode cX10_bestOffset 57 = .ok (.aload_n 0, 1) := by decide +kernel
theorem dX10_bestOffset_58 : decode cX10_bestOffset 58 = .ok (.getfield 246, 3) := by decide +kernel
theorem dX10_bestOffset_61 : decode cX10_bestOffset 61 = .ok (.if_icmp .gt 6, 3) := by decide +kernel
theorem dX10_bestOffset_64 : decode cX10_bestOffset 64 = .ok (.goto 12, 3) := by decide +kernel
theorem dX10_bestOffset_67 : decode cX10_bestOffset 67 = .ok (.aload_n 0, 1) := by decide +kernel
theorem dX10_bestOffset_68 : decode cX10_bestOffset 68 = .ok (.iload 5, 2) := by decide +kernel
theorem dX10_bestOffset_70 : decode cX10_bestOffset 70 = .ok (.putfield 246, 3) := by decide +kernel
theorem dX10_bestOffset_73 : decode cX10_bestOffset 73 = .ok (.iload 4, 2) := by decide +kernel
theorem dX10_bestOffset_75 : decode cX10_bestOffset 75 = .ok (.istore_n 3, 1) := by decide +kernel
theorem dX10_bestOffset_76 : decode cX10_bestOffset 76 = .ok (.iinc 4 1, 3) := by decide +kernel
theorem dX10_bestOffset_79 : decode cX10_bestOffset 79 = .ok (.goto (-56), 3) := by decide +kernel
theorem dX10_bestOffset_82 : decode cX10_bestOffset 82 = .ok (.aload_n 0, 1) := by decide +kernel
theorem dX10_bestOffset_83 : decode cX10_bestOffset 83 = .ok (.getfield 11, 3) := by decide +kernel
theorem dX10_bestOffset_86 : decode cX10_bestOffset 86 = .ok (.sipush 306, 3) := by decide +kernel
theorem dX10_bestOffset_89 : decode cX10_bestOffset 89 = .ok (.iconst 3, 1) := by decide +kernel
theorem dX10_bestOffset_90 : decode cX10_bestOffset 90 = .ok (.iload_n 1, 1) := by decide +kernel
theorem dX10_bestOffset_91 : decode cX10_bestOffset 91 = .ok (.imul, 1) := by decide +kernel
theorem dX10_bestOffset_92 : decode cX10_bestOffset 92 = .ok (.iadd, 1) := by decide +kernel
theorem dX10_bestOffset_93 : decode cX10_bestOffset 93 = .ok (.iload_n 2, 1) := by decide +kernel
theorem dX10_bestOffset_94 : decode cX10_bestOffset 94 = .ok (.iastore, 1) := by decide +kernel
theorem dX10_bestOffset_95 : decode cX10_bestOffset 95 = .ok (.iload_n 3, 1) := by decide +kernel
theorem dX10_bestOffset_96 : decode cX10_bestOffset 96 = .ok (.ireturn, 1) := by decide +kernel
set_option maxRecDepth 20000 in
theorem ggX10_nodeBest_X10_isNode : GoodIn wsX10_nodeBest wsX10_isNode := goodIn_r _ [6, 7, 8, 9, 5, 10, 32, 33, 34, 35, 36, 37, 38, 39, 40, 41, 42, 43, 44, 45, 46, 47, 48] (by decide +kernel) (by decide +kernel)
set_option maxRecDepth 20000 in
theorem gX10_nodeBest_X10_isNode : GoodIn wsX10_nodeBest (wsV RX10 234 RX10 yX10_isNode wsX10_isNode) := goodIn_app (goodIn_of _ (by decide +kernel)) ggX10_nodeBest_X10_isNode
set_option maxRecDepth 20000 in
theorem ggX10_nodeBest_X10_isIn : GoodIn wsX10_nodeBest wsX10_isIn := goodIn_r _ [10] (by decide +kernel) (by decide +kernel)
set_option maxRecDepth 20000 in
theorem gX10_nodeBest_X10_isIn : GoodIn wsX10_nodeBest (va_wsS RX10 49 yX10_isIn wsX10_isIn) := goodIn_app (goodIn_of _ (by decide +kernel)) ggX10_nodeBest_X10_isIn
set_option maxRecDepth 20000 in
theorem ggX10_nodeBest_X10_counts : GoodIn wsX10_nodeBest wsX10_counts := goodIn_r _ [14, 15, 32, 33, 34, 35, 36, 37, 38, 39, 40, 41, 42, 43, 44, 45, 46, 47, 48] (by decide +kernel) (by decide +kernel)
set_option maxRecDepth 20000 in
theorem gX10_nodeBest_X10_counts : GoodIn wsX10_nodeBest (wsV RX10 203 RX10 yX10_counts wsX10_counts) := goodIn_app (goodIn_of _ (by decide +kernel)) ggX10_nodeBest_X10_counts
set_option maxRecDepth 20000 in
theorem ggX10_nodeBest_X10_bestOffset : GoodIn wsX10_nodeBest wsX10_bestOffset := goodIn_r _ [19, 7, 1, 20, 21, 22, 5, 23, 24, 25, 26, 27, 28, 29, 30, 31, 32, 33, 34, 35, 36, 37, 38, 39, 40, 41, 42, 43, 44, 45, 46, 47, 48] (by decide +kernel) (by decide +kernel)
set_option maxRecDepth 20000 in
theorem gX10_nodeBest_X10_bestOffset : GoodIn wsX10_nodeBest (wsV RX10 249 RX10 yX10_bestOffset wsX10_bestOffset) := goodIn_app (goodIn_of _ (by decide +kernel)) ggX10_nodeBest_X10_bestOffset
theorem dX10_nodeBest_0 : decode cX10_nodeBest 0 = .ok (.aload_n 0, 1) := by decide +kernel
theorem dX10_nodeBest_1 : decode cX10_nodeBest 1 = .ok (.iload_n 1, 1) := by decide +kernel
theorem dX10_nodeBest_2 : decode cX10_nodeBest 2 = .ok (.invokevirtual 234, 3) := by decide +kernel
theorem dX10_nodeBest_5 : decode cX10_nodeBest 5 = .ok (.ifCond .eq 12, 3) := by decide +kernel
theorem dX10_nodeBest_8 : decode cX10_nodeBest 8 = .ok (.iload_n 2, 1) := by decide +kernel
theorem dX10_nodeBest_9 : decode cX10_nodeBest 9 = .ok (.iconst 0, 1) := by decide +kernel
theorem dX10_nodeBest_10 : decode cX10_nodeBest 10 = .ok (.iconst 1, 1) := by decide +kernel
theorem dX10_nodeBest_11 : decode cX10_nodeBest 11 = .ok (.invokestatic 49, 3) := by decide +kernel
theorem dX10_nodeBest_14 : decode cX10_nodeBest 14 = .ok (.ifCond .ne 5, 3) := by decide +kernel
theorem dX10_nodeBest_17 : decode cX10_nodeBest 17 = .ok (.iconst (-1), 1) := by decide +kernel
theorem dX10_nodeBest_18 : decode cX10_nodeBest 18 = .ok (.ireturn, 1) := by decide +kernel
theorem dX10_nodeBest_19 : decode cX10_nodeBest 19 = .ok (.aload_n 0, 1) := by decide +kernel
theorem dX10_nodeBest_20 : decode cX10_nodeBest 20 = .ok (.bipush 10, 2) := by decide +kernel
theorem dX10_nodeBest_22 : decode cX10_nodeBest 22 = .ok (.invokevirtual 203, 3) := by decide +kernel
theorem dX10_nodeBest_25 : decode cX10_nodeBest 25 = .ok (.ifCond .ne 6, 3) := by decide +kernel
theorem dX10_nodeBest_28 : decode cX10_nodeBest 28 = .ok (.bipush (-4), 2) := by decide +kernel
theorem dX10_nodeBest_30 : decode cX10_nodeBest 30 = .ok (.ireturn, 1) := by decide +kernel
theorem dX10_nodeBest_31 : decode cX10_nodeBest 31 = .ok (.aload_n 0, 1) := by decide +kernel
theorem dX10_nodeBest_32 : decode cX10_nodeBest 32 = .ok (.iload_n 1, 1) := by decide +kernel
theorem dX10_nodeBest_33 : decode cX10_nodeBest 33 = .ok (.invokevirtual 249, 3) := by decide +kernel
theorem dX10_nodeBest_36 : decode cX10_nodeBest 36 = .ok (.istore_n 3, 1) := by decide +kernel
theorem dX10_nodeBest_37 : decode cX10_nodeBest 37 = .ok (.iload_n 2, 1) := by decide +kernel
theorem dX10_nodeBest_38 : decode cX10_nodeBest 38 = .ok (.ifCond .ne 7, 3) := by decide +kernel
theorem dX10_nodeBest_41 : decode cX10_nodeBest 41 = .ok (.iload_n 3, 1) := by decide +kernel
theorem dX10_nodeBest_42 : decode cX10_nodeBest 42 = .ok (.goto 7, 3) := by decide +kernel
theorem dX10_nodeBest_45 : decode cX10_nodeBest 45 = .ok (.aload_n 0, 1) := by decide +kernel
theorem dX10_nodeBest_46 : decode cX10_nodeBest 46 = .ok (.getfield 246, 3) := by decide +kernel
theorem dX10_nodeBest_49 : decode cX10_nodeBest 49 = .ok (.ireturn, 1) := by decide +kernel
set_option maxRecDepth 20000 in
theorem ggX10_tune_X10_counts : GoodIn wsX10_tune wsX10_counts := goodIn_r _ [7, 8, 25, 26, 27, 28, 29, 30, 31, 32, 33, 34, 35, 36, 37, 38, 39, 40, 41] (by decide +kernel) (by decide +kernel)
set_option maxRecDepth 20000 in
theorem gX10_tune_X10_counts : GoodIn wsX10_tune (wsV RX10 203 RX10 yX10_counts wsX10_counts) := goodIn_app (goodIn_of _ (by decide +kernel)) ggX10_tune_X10_counts
set_option maxRecDepth 20000 in
theorem ggX10_tune_X10_bestOffset : GoodIn wsX10_tune wsX10_bestOffset := goodIn_r _ [12, 1, 2, 13, 14, 15, 6, 16, 17, 18, 19, 20, 21, 22, 23, 24, 25, 26, 27, 28, 29, 30, 31, 32, 33, 34, 35, 36, 37, 38, 39, 40, 41] (by decide +kernel) (by decide +kernel)
set_option maxRecDepth 20000 in
theorem gX10_tune_X10_bestOffset : GoodIn wsX10_tune (wsV RX10 249 RX10 yX10_bestOffset wsX10_bestOffset) := goodIn_app (goodIn_of _ (by decide +kernel)) ggX10_tune_X10_bestOffset
set_option maxRecDepth 20000 in
theorem ggX10_tune_X10_bands : GoodIn wsX10_tune wsX10_bands := goodIn_r _ [16, 17, 18, 19, 6, 20, 1, 21, 22, 23, 24, 25, 26, 27, 28, 29, 30, 31, 32, 33, 34, 35, 36, 37, 38, 39, 40, 41] (by decide +kernel) (by decide +kernel)
set_option maxRecDepth 20000 in
theorem gX10_tune_X10_bands : GoodIn wsX10_tune (wsV RX10 243 RX10 yX10_bands wsX10_bands) := goodIn_app (goodIn_of _ (by decide +kernel)) ggX10_tune_X10_bands
theorem dX10_tune_0 : decode cX10_tune 0 = .ok (.aload_n 0, 1) := by decide +kernel
theorem dX10_tune_1 : decode cX10_tune 1 = .ok (.sipush 200, 3) := by decide +kernel
theorem dX10_tune_4 : decode cX10_tune 4 = .ok (.invokevirtual 203, 3) := by decide +kernel
theorem dX10_tune_7 : decode cX10_tune 7 = .ok (.ifCond .ne 6, 3) := by decide +kernel
theorem dX10_tune_10 : decode cX10_tune 10 = .ok (.bipush (-4), 2) := by decide +kernel
theorem dX10_tune_12 : decode cX10_tune 12 = .ok (.ireturn, 1) := by decide +kernel
theorem dX10_tune_13 : decode cX10_tune 13 = .ok (.iconst 0, 1) := by decide +kernel
theorem dX10_tune_14 : decode cX10_tune 14 = .ok (.istore_n 1, 1) := by decide +kernel
theorem dX10_tune_15 : decode cX10_tune 15 = .ok (.iload_n 1, 1) := by decide +kernel
theorem dX10_tune_16 : decode cX10_tune 16 = .ok (.iconst 4, 1) := by decide +kernel
theorem dX10_tune_17 : decode cX10_tune 17 = .ok (.if_icmp .ge 58, 3) := by decide +kernel
theorem dX10_tune_20 : decode cX10_tune 20 = .ok (.iconst 0, 1) := by decide +kernel
theorem dX10_tune_21 : decode cX10_tune 21 = .ok (.istore_n 2, 1) := by decide +kernel
theorem dX10_tune_22 : decode cX10_tune 22 = .ok (.iload_n 2, 1) := by decide +kernel
theorem dX10_tune_23 : decode cX10_tune 23 = .ok (.aload_n 0, 1) := by decide +kernel
theorem dX10_tune_24 : decode cX10_tune 24 = .ok (.getfield 11, 3) := by decide +kernel
theorem dX10_tune_27 : decode cX10_tune 27 = .ok (.bipush 17, 2) := by decide +kernel
theorem dX10_tune_29 : decode cX10_tune 29 = .ok (.iaload, 1) := by decide +kernel
theorem dX10_tune_30 : decode cX10_tune 30 = .ok (.if_icmp .ge 39, 3) := by decide +kernel
theorem dX10_tune_33 : decode cX10_tune 33 = .ok (.aload_n 0, 1) := by decide +kernel
theorem dX10_tune_34 : decode cX10_tune 34 = .ok (.iload_n 2, 1) := by decide +kernel
theorem dX10_tune_35 : decode cX10_tune 35 = .ok (.invokevirtual 249, 3) := by decide +kernel
theorem dX10_tune_38 : decode cX10_tune 38 = .ok (.istore_n 3, 1) := by decide +kernel
theorem dX10_tune_39 : decode cX10_tune 39 = .ok (.aload_n 0, 1) := by decide +kernel
theorem dX10_tune_40 : decode cX10_tune 40 = .ok (.getfield 246, 3) := by decide +kernel
theorem dX10_tune_43 : decode cX10_tune 43 = .ok (.aload_n 0, 1) := by decide +kernel
theorem dX10_tune_44 : decode cX10_tune 44 = .ok (.invokevirtual 243, 3) := by decide +kernel
theorem dX10_tune_47 : decode cX10_tune 47 = .ok (.if_icmp .le 16, 3) := by decide +kernel
theorem dX10_tune_50 : decode cX10_tune 50 = .ok (.aload_n 0, 1) := by decide +kernel
theorem dX10_tune_51 : decode cX10_tune 51 = .ok (.getfield 11, 3) := by decide +kernel
theorem dX10_tune_54 : decode cX10_tune 54 = .ok (.sipush 306, 3) := by decide +kernel
theorem dX10_tune_57 : decode cX10_tune 57 = .ok (.iconst 3, 1) := by decide +kernel
theorem dX10_tune_58 : decode cX10_tune 58 = .ok (.iload_n 2, 1) := by decide +kernel
theorem dX10_tune_59 : decode cX10_tune 59 = .ok (.imul, 1) := by decide +kernel
theorem dX10_tune_60 : decode cX10_tune 60 = .ok (.iadd, 1) := by decide +kernel
theorem dX10_tune_61 : decode cX10_tune 61 = .ok (.iload_n 3, 1) := by decide +kernel
theorem dX10_tune_62 : decode cX10_tune 62 = .ok (.iastore, 1) := by decide +kernel
theorem dX10_tune_63 : decode cX10_tune 63 = .ok (.iinc 2 1, 3) := by decide +kernel
theorem dX10_tune_66 : decode cX10_tune 66 = .ok (.goto (-44), 3) := by decide +kernel
theorem dX10_tune_69 : decode cX10_tune 69 = .ok (.iinc 1 1, 3) := by decide +kernel
theorem dX10_tune_72 : decode cX10_tune 72 = .ok (.goto (-57), 3) := by decide +kernel
theorem dX10_tune_75 : decode cX10_tune 75 = .ok (.aload_n 0, 1) := by decide +kernel
theorem dX10_tune_76 : decode cX10_tune 76 = .ok (.invokevirtual 243, 3) := by decide +kernel
theorem dX10_tune_79 : decode cX10_tune 79 = .ok (.ireturn, 1) := by decide +kernel
set_option maxRecDepth 20000 in
theorem ggX10_thinks_X10_copies : GoodIn wsX10_thinks wsX10_copies := goodIn_r _ [6] (by decide +kernel) (by decide +kernel)
set_option maxRecDepth 20000 in
theorem gX10_thinks_X10_copies : GoodIn wsX10_thinks (va_wsS RX10 252 yX10_copies wsX10_copies) := goodIn_app (goodIn_of _ (by decide +kernel)) ggX10_thinks_X10_copies
theorem dX10_thinks_0 : decode cX10_thinks 0 = .ok (.aload_n 0, 1) := by decide +kernel
theorem dX10_thinks_1 : decode cX10_thinks 1 = .ok (.getfield 11, 3) := by decide +kernel
theorem dX10_thinks_4 : decode cX10_thinks 4 = .ok (.aload_n 0, 1) := by decide +kernel
theorem dX10_thinks_5 : decode cX10_thinks 5 = .ok (.getfield 18, 3) := by decide +kernel
theorem dX10_thinks_8 : decode cX10_thinks 8 = .ok (.invokestatic 252, 3) := by decide +kernel
theorem dX10_thinks_11 : decode cX10_thinks 11 = .ok (.return_, 1) := by decide +kernel
set_option maxRecDepth 20000 in
theorem ggX10_forgets_X10_copies : GoodIn wsX10_forgets wsX10_copies := goodIn_r _ [6] (by decide +kernel) (by decide +kernel)
set_option maxRecDepth 20000 in
theorem gX10_forgets_X10_copies : GoodIn wsX10_forgets (va_wsS RX10 252 yX10_copies wsX10_copies) := goodIn_app (goodIn_of _ (by decide +kernel)) ggX10_forgets_X10_copies
theorem dX10_forgets_0 : decode cX10_forgets 0 = .ok (.aload_n 0, 1) := by decide +kernel
theorem dX10_forgets_1 : decode cX10_forgets 1 = .ok (.getfield 18, 3) := by decide +kernel
theorem dX10_forgets_4 : decode cX10_forgets 4 = .ok (.aload_n 0, 1) := by decide +kernel
theorem dX10_forgets_5 : decode cX10_forgets 5 = .ok (.getfield 11, 3) := by decide +kernel
theorem dX10_forgets_8 : decode cX10_forgets 8 = .ok (.invokestatic 252, 3) := by decide +kernel
theorem dX10_forgets_11 : decode cX10_forgets 11 = .ok (.return_, 1) := by decide +kernel
set_option maxRecDepth 20000 in
theorem ggX10_would_X10_isIn : GoodIn wsX10_would wsX10_isIn := goodIn_r _ [5] (by decide +kernel) (by decide +kernel)
set_option maxRecDepth 20000 in
theorem gX10_would_X10_isIn : GoodIn wsX10_would (va_wsS RX10 49 yX10_isIn wsX10_isIn) := goodIn_app (goodIn_of _ (by decide +kernel)) ggX10_would_X10_isIn
set_option maxRecDepth 20000 in
theorem ggX10_would_X10_counts : GoodIn wsX10_would wsX10_counts := goodIn_r _ [9, 10, 144, 145, 146, 147, 148, 149, 150, 151, 152, 153, 154, 155, 156, 157, 158, 159, 160] (by decide +kernel) (by decide +kernel)
set_option maxRecDepth 20000 in
theorem gX10_would_X10_counts : GoodIn wsX10_would (wsV RX10 203 RX10 yX10_counts wsX10_counts) := goodIn_app (goodIn_of _ (by decide +kernel)) ggX10_would_X10_counts
set_option maxRecDepth 20000 in
theorem ggX10_would_X10_thinks : GoodIn wsX10_would wsX10_thinks := goodIn_r _ [14, 1, 15, 16, 17, 4, 18, 144, 145, 146, 147, 148, 149, 150, 151, 152, 153, 154, 155, 156, 157, 158, 159, 160] (by decide +kernel) (by decide +kernel)
set_option maxRecDepth 20000 in
theorem gX10_would_X10_thinks : GoodIn wsX10_would (wsV RX10 256 RX10 yX10_thinks wsX10_thinks) := goodIn_app (goodIn_of _ (by decide +kernel)) ggX10_would_X10_thinks
set_option maxRecDepth 20000 in
theorem ggX10_would_X10_passes : GoodIn wsX10_would wsX10_passes := goodIn_r _ [22, 23, 24, 25, 4, 26, 1, 27, 28, 29, 30, 31, 32, 33, 34, 35, 36, 37, 38, 39, 40, 41, 42, 43, 44, 45, 46, 47, 48, 49, 50, 51, 52, 53, 54, 55, 56, 57, 58, 59, 60, 61, 62, 63, 64, 65, 66, 67, 68, 69, 70, 71, 72, 73, 74, 75, 76, 77, 78, 79, 80, 81, 82, 83, 84, 85, 86, 87, 88, 89, 90, 91, 92, 93, 94, 95, 96, 97, 98, 99, 100, 101, 102, 103, 104, 105, 106, 107, 108, 109, 110, 111, 112, 113, 114, 115, 116, 117, 118, 119, 120, 121, 122, 144, 145, 146, 147, 148, 149, 150, 151, 152, 153, 154, 155, 156, 157, 158, 159, 160] (by decide +kernel) (by decide +kernel)
set_option maxRecDepth 20000 in
theorem gX10_would_X10_passes : GoodIn wsX10_would (wsV RX10 206 RX10 yX10_passes wsX10_passes) := goodIn_app (goodIn_of _ (by decide +kernel)) ggX10_would_X10_passes
set_option maxRecDepth 20000 in
theorem ggX10_would_X10_told : GoodIn wsX10_would wsX10_told := goodIn_r _ [126, 1, 127, 128, 129, 4, 130, 131, 132, 133, 134, 31, 32, 33, 34, 135, 136, 137, 138, 139, 86, 87, 88, 89, 90, 91, 92, 93, 59, 60, 61, 62, 63, 64, 65, 94, 95, 96, 97, 119, 120, 121, 122, 144, 145, 146, 147, 148, 149, 150, 151, 152, 153, 154, 155, 156, 157, 158, 159, 160] (by decide +kernel) (by decide +kernel)
set_option maxRecDepth 20000 in
theorem gX10_would_X10_told : GoodIn wsX10_would (wsV RX10 259 RX10 yX10_told wsX10_told) := goodIn_app (goodIn_of _ (by decide +kernel)) ggX10_would_X10_told
set_option maxRecDepth 20000 in
theorem ggX10_would_X10_forgets : GoodIn wsX10_would wsX10_forgets := goodIn_r _ [143, 15, 1, 16, 17, 4, 18, 144, 145, 146, 147, 148, 149, 150, 151, 152, 153, 154, 155, 156, 157, 158, 159, 160] (by decide +kernel) (by decide +kernel)
set_option maxRecDepth 20000 in
theorem gX10_would_X10_forgets : GoodIn wsX10_would (wsV RX10 262 RX10 yX10_forgets wsX10_forgets) := goodIn_app (goodIn_of _ (by decide +kernel)) ggX10_would_X10_forgets
theorem dX10_would_0 : decode cX10_would 0 = .ok (.iload_n 2, 1) := by decide +kernel
theorem dX10_would_1 : decode cX10_would 1 = .ok (.iconst 0, 1) := by decide +kernel
theorem dX10_would_2 : decode cX10_would 2 = .ok (.bipush 18, 2) := by decide +kernel
theorem dX10_would_4 : decode cX10_would 4 = .ok (.invokestatic 49, 3) := by decide +kernel
theorem dX10_would_7 : decode cX10_would 7 = .ok (.ifCond .ne 5, 3) := by decide +kernel
theorem dX10_would_10 : decode cX10_would 10 = .ok (.iconst (-1), 1) := by decide +kernel
theorem dX10_would_11 : decode cX10_would 11 = .ok (.ireturn, 1) := by decide +kernel
theorem dX10_would_12 : decode cX10_would 12 = .ok (.iload_n 1, 1) := by decide +kernel
theorem dX10_would_13 : decode cX10_would 13 = .ok (.iconst 0, 1) := by decide +kernel
theorem dX10_would_14 : decode cX10_would 14 = .ok (.bipush 99, 2) := by decide +kernel
theorem dX10_would_16 : decode cX10_would 16 = .ok (.invokestatic 49, 3) := by decide +kernel
theorem dX10_would_19 : decode cX10_would 19 = .ok (.ifCond .ne 6, 3) := by decide +kernel
theorem dX10_would_22 : decode cX10_would 22 = .ok (.bipush (-2), 2) := by decide +kernel
theorem dX10_would_24 : decode cX10_would 24 = .ok (.ireturn, 1) := by decide +kernel
theorem dX10_would_25 : decode cX10_would 25 = .ok (.aload_n 0, 1) := by decide +kernel
theorem dX10_would_26 : decode cX10_would 26 = .ok (.getfield 11, 3) := by decide +kernel
theorem dX10_would_29 : decode cX10_would 29 = .ok (.iconst 2, 1) := by decide +kernel
theorem dX10_would_30 : decode cX10_would 30 = .ok (.iaload, 1) := by decide +kernel
theorem dX10_would_31 : decode cX10_would 31 = .ok (.ifCond .ne 6, 3) := by decide +kernel
theorem dX10_would_34 : decode cX10_would 34 = .ok (.bipush (-3), 2) := by decide +kernel
theorem dX10_would_36 : decode cX10_would 36 = .ok (.ireturn, 1) := by decide +kernel
theorem dX10_would_37 : decode cX10_would 37 = .ok (.aload_n 0, 1) := by decide +kernel
theorem dX10_would_38 : decode cX10_would 38 = .ok (.iload_n 1, 1) := by decide +kernel
theorem dX10_would_39 : decode cX10_would 39 = .ok (.invokevirtual 203, 3) := by decide +kernel
theorem dX10_would_42 : decode cX10_would 42 = .ok (.ifCond .ne 6, 3) := by decide +kernel
theorem dX10_would_45 : decode cX10_would 45 = .ok (.bipush (-4), 2) := by decide +kernel
theorem dX10_would_47 : decode cX10_would 47 = .ok (.ireturn, 1) := by decide +kernel
theorem dX10_would_48 : decode cX10_would 48 = .ok (.aload_n 0, 1) := by decide +kernel
theorem dX10_would_49 : decode cX10_would 49 = .ok (.invokevirtual 256, 3) := by decide +kernel
theorem dX10_would_52 : decode cX10_would 52 = .ok (.aload_n 0, 1) := by decide +kernel
theorem dX10_would_53 : decode cX10_would 53 = .ok (.iload_n 1, 1) := by decide +kernel
theorem dX10_would_54 : decode cX10_would 54 = .ok (.invokevirtual 206, 3) := by decide +kernel
theorem dX10_would_57 : decode cX10_would 57 = .ok (.aload_n 0, 1) := by decide +kernel
theorem dX10_would_58 : decode cX10_would 58 = .ok (.iload_n 2, 1) := by decide +kernel
theorem dX10_would_59 : decode cX10_would 59 = .ok (.invokevirtual 259, 3) := by decide +kernel
theorem dX10_would_62 : decode cX10_would 62 = .ok (.istore_n 3, 1) := by decide +kernel
theorem dX10_would_63 : decode cX10_would 63 = .ok (.aload_n 0, 1) := by decide +kernel
theorem dX10_would_64 : decode cX10_would 64 = .ok (.invokevirtual 262, 3) := by decide +kernel
theorem dX10_would_67 : decode cX10_would 67 = .ok (.iload_n 3, 1) := by decide +kernel
theorem dX10_would_68 : decode cX10_would 68 = .ok (.ireturn, 1) := by decide +kernel
set_option maxRecDepth 20000 in
theorem ggX10_turns__X10_isSignal : GoodIn wsX10_turns_ wsX10_isSignal := goodIn_r _ [6, 1, 7, 8, 5, 9, 127, 128, 129, 130, 131, 132, 133, 134, 135, 136, 137, 138, 139, 140, 141, 142, 143] (by decide +kernel) (by decide +kernel)
set_option maxRecDepth 20000 in
theorem gX10_turns__X10_isSignal : GoodIn wsX10_turns_ (wsV RX10 96 RX10 yX10_isSignal wsX10_isSignal) := goodIn_app (goodIn_of _ (by decide +kernel)) ggX10_turns__X10_isSignal
set_option maxRecDepth 20000 in
theorem ggX10_turns__X10_isIn : GoodIn wsX10_turns_ wsX10_isIn := goodIn_r _ [9] (by decide +kernel) (by decide +kernel)
set_option maxRecDepth 20000 in
theorem gX10_turns__X10_isIn : GoodIn wsX10_turns_ (va_wsS RX10 49 yX10_isIn wsX10_isIn) := goodIn_app (goodIn_of _ (by decide +kernel)) ggX10_turns__X10_isIn
set_option maxRecDepth 20000 in
theorem ggX10_turns__X10_counts : GoodIn wsX10_turns_ wsX10_counts := goodIn_r _ [13, 14, 127, 128, 129, 130, 131, 132, 133, 134, 135, 136, 137, 138, 139, 140, 141, 142, 143] (by decide +kernel) (by decide +kernel)
set_option maxRecDepth 20000 in
theorem gX10_turns__X10_counts : GoodIn wsX10_turns_ (wsV RX10 203 RX10 yX10_counts wsX10_counts) := goodIn_app (goodIn_of _ (by decide +kernel)) ggX10_turns__X10_counts
set_option maxRecDepth 20000 in
theorem ggX10_turns__X10_thinks : GoodIn wsX10_turns_ wsX10_thinks := goodIn_r _ [18, 1, 19, 20, 21, 5, 22, 127, 128, 129, 130, 131, 132, 133, 134, 135, 136, 137, 138, 139, 140, 141, 142, 143] (by decide +kernel) (by decide +kernel)
set_option maxRecDepth 20000 in
theorem gX10_turns__X10_thinks : GoodIn wsX10_turns_ (wsV RX10 256 RX10 yX10_thinks wsX10_thinks) := goodIn_app (goodIn_of _ (by decide +kernel)) ggX10_turns__X10_thinks
set_option maxRecDepth 20000 in
theorem ggX10_turns__X10_turns : GoodIn wsX10_turns_ wsX10_turns := goodIn_r _ [26, 1, 27, 28, 29, 5, 30, 31, 32, 33, 34, 35, 36, 37, 38, 39, 40, 41, 42, 43, 44, 45, 46, 47, 48, 49, 50, 51, 52, 53, 54, 55, 56, 57, 58, 59, 60, 61, 62, 63, 64, 65, 66, 67, 68, 69, 70, 71, 72, 73, 74, 75, 76, 77, 78, 79, 80, 81, 82, 83, 84, 85, 86, 87, 88, 89, 90, 91, 92, 93, 94, 95, 96, 97, 98, 99, 100, 101, 102, 103, 104, 105, 106, 107, 108, 109, 110, 127, 128, 129, 130, 131, 132, 133, 134, 135, 136, 137, 138, 139, 140, 141, 142, 143] (by decide +kernel) (by decide +kernel)
set_option maxRecDepth 20000 in
theorem gX10_turns__X10_turns : GoodIn wsX10_turns_ (wsV RX10 194 RX10 yX10_turns wsX10_turns) := goodIn_app (goodIn_of _ (by decide +kernel)) ggX10_turns__X10_turns
set_option maxRecDepth 20000 in
theorem ggX10_turns__X10_at : GoodIn wsX10_turns_ wsX10_at := goodIn_r _ [34, 1, 127, 128, 129, 130, 131, 132, 133, 134, 135, 136, 137, 138, 139, 140, 141, 142, 143] (by decide +kernel) (by decide +kernel)
set_option maxRecDepth 20000 in
theorem gX10_turns__X10_at : GoodIn wsX10_turns_ (wsV RX10 56 RX10 yX10_at wsX10_at) := goodIn_app (goodIn_of _ (by decide +kernel)) ggX10_turns__X10_at
set_option maxRecDepth 20000 in
theorem ggX10_turns__X10_ends : GoodIn wsX10_turns_ wsX10_ends := goodIn_r _ [114, 1, 115, 116, 117, 5, 118, 44, 45, 46, 47, 31, 32, 33, 34, 66, 67, 68, 69, 51, 52, 53, 54, 119, 120, 121, 122, 127, 128, 129, 130, 131, 132, 133, 134, 135, 136, 137, 138, 139, 140, 141, 142, 143] (by decide +kernel) (by decide +kernel)
set_option maxRecDepth 20000 in
theorem gX10_turns__X10_ends : GoodIn wsX10_turns_ (wsV RX10 197 RX10 yX10_ends wsX10_ends) := goodIn_app (goodIn_of _ (by decide +kernel)) ggX10_turns__X10_ends
set_option maxRecDepth 20000 in
theorem ggX10_turns__X10_forgets : GoodIn wsX10_turns_ wsX10_forgets := goodIn_r _ [126, 19, 1, 20, 21, 5, 22, 127, 128, 129, 130, 131, 132, 133, 134, 135, 136, 137, 138, 139, 140, 141, 142, 143] (by decide +kernel) (by decide +kernel)
set_option maxRecDepth 20000 in
theorem gX10_turns__X10_forgets : GoodIn wsX10_turns_ (wsV RX10 262 RX10 yX10_forgets wsX10_forgets) := goodIn_app (goodIn_of _ (by decide +kernel)) ggX10_turns__X10_forgets
theorem dX10_turns__0 : decode cX10_turns_ 0 = .ok (.aload_n 0, 1) := by decide +kernel
theorem dX10_turns__1 : decode cX10_turns_ 1 = .ok (.iload_n 1, 1) := by decide +kernel
theorem dX10_turns__2 : decode cX10_turns_ 2 = .ok (.invokevirtual 96, 3) := by decide +kernel
theorem dX10_turns__5 : decode cX10_turns_ 5 = .ok (.ifCond .ne 5, 3) := by decide +kernel
theorem dX10_turns__8 : decode cX10_turns_ 8 = .ok (.iconst (-1), 1) := by decide +kernel
theorem dX10_turns__9 : decode cX10_turns_ 9 = .ok (.ireturn, 1) := by decide +kernel
theorem dX10_turns__10 : decode cX10_turns_ 10 = .ok (.iload_n 2, 1) := by decide +kernel
theorem dX10_turns__11 : decode cX10_turns_ 11 = .ok (.iconst 0, 1) := by decide +kernel
theorem dX10_turns__12 : decode cX10_turns_ 12 = .ok (.bipush 99, 2) := by decide +kernel
theorem dX10_turns__14 : decode cX10_turns_ 14 = .ok (.invokestatic 49, 3) := by decide +kernel
theorem dX10_turns__17 : decode cX10_turns_ 17 = .ok (.ifCond .ne 6, 3) := by decide +kernel
theorem dX10_turns__20 : decode cX10_turns_ 20 = .ok (.bipush (-2), 2) := by decide +kernel
theorem dX10_turns__22 : decode cX10_turns_ 22 = .ok (.ireturn, 1) := by decide +kernel
theorem dX10_turns__23 : decode cX10_turns_ 23 = .ok (.aload_n 0, 1) := by decide +kernel
theorem dX10_turns__24 : decode cX10_turns_ 24 = .ok (.getfield 11, 3) := by decide +kernel
theorem dX10_turns__27 : decode cX10_turns_ 27 = .ok (.iconst 2, 1) := by decide +kernel
theorem dX10_turns__28 : decode cX10_turns_ 28 = .ok (.iaload, 1) := by decide +kernel
theorem dX10_turns__29 : decode cX10_turns_ 29 = .ok (.ifCond .ne 6, 3) := by decide +kernel
theorem dX10_turns__32 : decode cX10_turns_ 32 = .ok (.bipush (-3), 2) := by decide +kernel
theorem dX10_turns__34 : decode cX10_turns_ 34 = .ok (.ireturn, 1) := by decide +kernel
theorem dX10_turns__35 : decode cX10_turns_ 35 = .ok (.aload_n 0, 1) := by decide +kernel
theorem dX10_turns__36 : decode cX10_turns_ 36 = .ok (.iload_n 2, 1) := by decide +kernel
theorem dX10_turns__37 : decode cX10_turns_ 37 = .ok (.invokevirtual 203, 3) := by decide +kernel
theorem dX10_turns__40 : decode cX10_turns_ 40 = .ok (.ifCond .ne 6, 3) := by decide +kernel
theorem dX10_turns__43 : decode cX10_turns_ 43 = .ok (.bipush (-4), 2) := by decide +kernel
theorem dX10_turns__45 : decode cX10_turns_ 45 = .ok (.ireturn, 1) := by decide +kernel
theorem dX10_turns__46 : decode cX10_turns_ 46 = .ok (.aload_n 0, 1) := by decide +kernel
theorem dX10_turns__47 : decode cX10_turns_ 47 = .ok (.invokevirtual 256, 3) := by decide +kernel
theorem dX10_turns__50 : decode cX10_turns_ 50 = .ok (.bipush (-5), 2) := by decide +kernel
theorem dX10_turns__52 : decode cX10_turns_ 52 = .ok (.istore_n 3, 1) := by decide +kernel
theorem dX10_turns__53 : decode cX10_turns_ 53 = .ok (.iconst 0, 1) := by decide +kernel
theorem dX10_turns__54 : decode cX10_turns_ 54 = .ok (.istore 4, 2) := by decide +kernel
theorem dX10_turns__56 : decode cX10_turns_ 56 = .ok (.iload 4, 2) := by decide +kernel
theorem dX10_turns__58 : decode cX10_turns_ 58 = .ok (.iload_n 2, 1) := by decide +kernel
theorem dX10_turns__59 : decode cX10_turns_ 59 = .ok (.if_icmp .ge 44, 3) := by decide +kernel
theorem dX10_turns__62 : decode cX10_turns_ 62 = .ok (.iload_n 3, 1) := by decide +kernel
theorem dX10_turns__63 : decode cX10_turns_ 63 = .ok (.ifCond .ge 40, 3) := by decide +kernel
theorem dX10_turns__66 : decode cX10_turns_ 66 = .ok (.aload_n 0, 1) := by decide +kernel
theorem dX10_turns__67 : decode cX10_turns_ 67 = .ok (.invokevirtual 194, 3) := by decide +kernel
theorem dX10_turns__70 : decode cX10_turns_ 70 = .ok (.aload_n 0, 1) := by decide +kernel
theorem dX10_turns__71 : decode cX10_turns_ 71 = .ok (.iload_n 1, 1) := by decide +kernel
theorem dX10_turns__72 : decode cX10_turns_ 72 = .ok (.bipush 6, 2) := by decide +kernel
theorem dX10_turns__74 : decode cX10_turns_ 74 = .ok (.invokevirtual 56, 3) := by decide +kernel
theorem dX10_turns__77 : decode cX10_turns_ 77 = .ok (.iconst 1, 1) := by decide +kernel
theorem dX10_turns__78 : decode cX10_turns_ 78 = .ok (.if_icmp .ne 12, 3) := by decide +kernel
theorem dX10_turns__81 : decode cX10_turns_ 81 = .ok (.aload_n 0, 1) := by decide +kernel
theorem dX10_turns__82 : decode cX10_turns_ 82 = .ok (.getfield 11, 3) := by decide +kernel
theorem dX10_turns__85 : decode cX10_turns_ 85 = .ok (.iconst 3, 1) := by decide +kernel
theorem dX10_turns__86 : decode cX10_turns_ 86 = .ok (.iaload, 1) := by decide +kernel
theorem dX10_turns__87 : decode cX10_turns_ 87 = .ok (.goto 5, 3) := by decide +kernel
theorem dX10_turns__90 : decode cX10_turns_ 90 = .ok (.bipush (-5), 2) := by decide +kernel
theorem dX10_turns__92 : decode cX10_turns_ 92 = .ok (.istore_n 3, 1) := by decide +kernel
theorem dX10_turns__93 : decode cX10_turns_ 93 = .ok (.aload_n 0, 1) := by decide +kernel
theorem dX10_turns__94 : decode cX10_turns_ 94 = .ok (.invokevirtual 197, 3) := by decide +kernel
theorem dX10_turns__97 : decode cX10_turns_ 97 = .ok (.iinc 4 1, 3) := by decide +kernel
theorem dX10_turns__100 : decode cX10_turns_ 100 = .ok (.goto (-44), 3) := by decide +kernel
theorem dX10_turns__103 : decode cX10_turns_ 103 = .ok (.aload_n 0, 1) := by decide +kernel
theorem dX10_turns__104 : decode cX10_turns_ 104 = .ok (.invokevirtual 262, 3) := by decide +kernel
theorem dX10_turns__107 : decode cX10_turns_ 107 = .ok (.iload_n 3, 1) := by decide +kernel
theorem dX10_turns__108 : decode cX10_turns_ 108 = .ok (.ireturn, 1) := by decide +kernel
set_option maxRecDepth 20000 in
theorem ggX10_gaps_X10_puts : GoodIn wsX10_gaps wsX10_puts := goodIn_r _ [6, 1, 7, 8, 9, 10, 11, 12, 13, 14, 15, 16, 17, 18, 19, 20, 21, 22, 23] (by decide +kernel) (by decide +kernel)
set_option maxRecDepth 20000 in
theorem gX10_gaps_X10_puts : GoodIn wsX10_gaps (wsV RX10 85 RX10 yX10_puts wsX10_puts) := goodIn_app (goodIn_of _ (by decide +kernel)) ggX10_gaps_X10_puts
theorem dX10_gaps_0 : decode cX10_gaps 0 = .ok (.iconst 0, 1) := by decide +kernel
theorem dX10_gaps_1 : decode cX10_gaps 1 = .ok (.istore_n 2, 1) := by decide +kernel
theorem dX10_gaps_2 : decode cX10_gaps 2 = .ok (.iload_n 2, 1) := by decide +kernel
theorem dX10_gaps_3 : decode cX10_gaps 3 = .ok (.aload_n 0, 1) := by decide +kernel
theorem dX10_gaps_4 : decode cX10_gaps 4 = .ok (.getfield 11, 3) := by decide +kernel
theorem dX10_gaps_7 : decode cX10_gaps 7 = .ok (.bipush 13, 2) := by decide +kernel
theorem dX10_gaps_9 : decode cX10_gaps 9 = .ok (.iaload, 1) := by decide +kernel
theorem dX10_gaps_10 : decode cX10_gaps 10 = .ok (.if_icmp .ge 16, 3) := by decide +kernel
theorem dX10_gaps_13 : decode cX10_gaps 13 = .ok (.aload_n 0, 1) := by decide +kernel
theorem dX10_gaps_14 : decode cX10_gaps 14 = .ok (.iload_n 2, 1) := by decide +kernel
theorem dX10_gaps_15 : decode cX10_gaps 15 = .ok (.iconst 3, 1) := by decide +kernel
theorem dX10_gaps_16 : decode cX10_gaps 16 = .ok (.iload_n 1, 1) := by decide +kernel
theorem dX10_gaps_17 : decode cX10_gaps 17 = .ok (.invokevirtual 85, 3) := by decide +kernel
theorem dX10_gaps_20 : decode cX10_gaps 20 = .ok (.iinc 2 1, 3) := by decide +kernel
theorem dX10_gaps_23 : decode cX10_gaps 23 = .ok (.goto (-21), 3) := by decide +kernel
theorem dX10_gaps_26 : decode cX10_gaps 26 = .ok (.return_, 1) := by decide +kernel
set_option maxRecDepth 20000 in
theorem ggX10_best_X10_isIn : GoodIn wsX10_best wsX10_isIn := goodIn_r _ [5] (by decide +kernel) (by decide +kernel)
set_option maxRecDepth 20000 in
theorem gX10_best_X10_isIn : GoodIn wsX10_best (va_wsS RX10 49 yX10_isIn wsX10_isIn) := goodIn_app (goodIn_of _ (by decide +kernel)) ggX10_best_X10_isIn
set_option maxRecDepth 20000 in
theorem ggX10_best_X10_counts : GoodIn wsX10_best wsX10_counts := goodIn_r _ [9, 10, 131, 132, 133, 134, 135, 136, 137, 138, 139, 140, 141, 142, 143, 144, 145, 146, 147] (by decide +kernel) (by decide +kernel)
set_option maxRecDepth 20000 in
theorem gX10_best_X10_counts : GoodIn wsX10_best (wsV RX10 203 RX10 yX10_counts wsX10_counts) := goodIn_app (goodIn_of _ (by decide +kernel)) ggX10_best_X10_counts
set_option maxRecDepth 20000 in
theorem ggX10_best_X10_thinks : GoodIn wsX10_best wsX10_thinks := goodIn_r _ [14, 1, 15, 16, 17, 4, 18, 131, 132, 133, 134, 135, 136, 137, 138, 139, 140, 141, 142, 143, 144, 145, 146, 147] (by decide +kernel) (by decide +kernel)
set_option maxRecDepth 20000 in
theorem gX10_best_X10_thinks : GoodIn wsX10_best (wsV RX10 256 RX10 yX10_thinks wsX10_thinks) := goodIn_app (goodIn_of _ (by decide +kernel)) ggX10_best_X10_thinks
set_option maxRecDepth 20000 in
theorem ggX10_best_X10_gaps : GoodIn wsX10_best wsX10_gaps := goodIn_r _ [22, 1, 23, 24, 25, 4, 26, 131, 132, 133, 134, 135, 136, 137, 138, 139, 140, 141, 142, 143, 144, 145, 146, 147] (by decide +kernel) (by decide +kernel)
set_option maxRecDepth 20000 in
theorem gX10_best_X10_gaps : GoodIn wsX10_best (wsV RX10 265 RX10 yX10_gaps wsX10_gaps) := goodIn_app (goodIn_of _ (by decide +kernel)) ggX10_best_X10_gaps
set_option maxRecDepth 20000 in
theorem ggX10_best_X10_passes : GoodIn wsX10_best wsX10_passes := goodIn_r _ [30, 31, 32, 33, 4, 34, 1, 35, 36, 37, 38, 39, 40, 41, 42, 43, 44, 45, 46, 47, 48, 49, 50, 51, 52, 53, 54, 55, 56, 57, 58, 23, 24, 25, 26, 59, 60, 61, 62, 63, 64, 65, 66, 67, 68, 69, 70, 71, 72, 73, 74, 75, 76, 77, 78, 79, 80, 81, 82, 83, 84, 85, 86, 87, 88, 89, 90, 91, 92, 93, 94, 95, 96, 97, 98, 99, 100, 101, 102, 103, 104, 105, 106, 107, 108, 109, 110, 111, 112, 113, 114, 115, 116, 117, 118, 119, 120, 121, 122, 123, 124, 125, 126, 131, 132, 133, 134, 135, 136, 137, 138, 139, 140, 141, 142, 143, 144, 145, 146, 147] (by decide +kernel) (by decide +kernel)
set_option maxRecDepth 20000 in
theorem gX10_best_X10_passes : GoodIn wsX10_best (wsV RX10 206 RX10 yX10_passes wsX10_passes) := goodIn_app (goodIn_of _ (by decide +kernel)) ggX10_best_X10_passes
set_option maxRecDepth 20000 in
theorem ggX10_best_X10_forgets : GoodIn wsX10_best wsX10_forgets := goodIn_r _ [130, 15, 1, 16, 17, 4, 18, 131, 132, 133, 134, 135, 136, 137, 138, 139, 140, 141, 142, 143, 144, 145, 146, 147] (by decide +kernel) (by decide +kernel)
set_option maxRecDepth 20000 in
theorem gX10_best_X10_forgets : GoodIn wsX10_best (wsV RX10 262 RX10 yX10_forgets wsX10_forgets) := goodIn_app (goodIn_of _ (by decide +kernel)) ggX10_best_X10_forgets
theorem dX10_best_0 : decode cX10_best 0 = .ok (.iload_n 2, 1) := by decide +kernel
theorem dX10_best_1 : decode cX10_best 1 = .ok (.iconst 0, 1) := by decide +kernel
theorem dX10_best_2 : decode cX10_best 2 = .ok (.iconst 1, 1) := by decide +kernel
theorem dX10_best_3 : decode cX10_best 3 = .ok (.invokestatic 49, 3) := by decide +kernel
theorem dX10_best_6 : decode cX10_best 6 = .ok (.ifCond .ne 5, 3) := by decide +kernel
theorem dX10_best_9 : decode cX10_best 9 = .ok (.iconst (-1), 1) := by decide +kernel
theorem dX10_best_10 : decode cX10_best 10 = .ok (.ireturn, 1) := by decide +kernel
theorem dX10_best_11 : decode cX10_best 11 = .ok (.iload_n 1, 1) := by decide +kernel
theorem dX10_best_12 : decode cX10_best 12 = .ok (.iconst 0, 1) := by decide +kernel
theorem dX10_best_13 : decode cX10_best 13 = .ok (.bipush 60, 2) := by decide +kernel
theorem dX10_best_15 : decode cX10_best 15 = .ok (.invokestatic 49, 3) := by decide +kernel
theorem dX10_best_18 : decode cX10_best 18 = .ok (.ifCond .ne 6, 3) := by decide +kernel
theorem dX10_best_21 : decode cX10_best 21 = .ok (.bipush (-2), 2) := by decide +kernel
theorem dX10_best_23 : decode cX10_best 23 = .ok (.ireturn, 1) := by decide +kernel
theorem dX10_best_24 : decode cX10_best 24 = .ok (.aload_n 0, 1) := by decide +kernel
theorem dX10_best_25 : decode cX10_best 25 = .ok (.getfield 11, 3) := by decide +kernel
theorem dX10_best_28 : decode cX10_best 28 = .ok (.iconst 2, 1) := by decide +kernel
theorem dX10_best_29 : decode cX10_best 29 = .ok (.iaload, 1) := by decide +kernel
theorem dX10_best_30 : decode cX10_best 30 = .ok (.ifCond .ne 6, 3) := by decide +kernel
theorem dX10_best_33 : decode cX10_best 33 = .ok (.bipush (-3), 2) := by decide +kernel
theorem dX10_best_35 : decode cX10_best 35 = .ok (.ireturn, 1) := by decide +kernel
theorem dX10_best_36 : decode cX10_best 36 = .ok (.aload_n 0, 1) := by decide +kernel
theorem dX10_best_37 : decode cX10_best 37 = .ok (.bipush 9, 2) := by decide +kernel
theorem dX10_best_39 : decode cX10_best 39 = .ok (.iload_n 1, 1) := by decide +kernel
theorem dX10_best_40 : decode cX10_best 40 = .ok (.imul, 1) := by decide +kernel
theorem dX10_best_41 : decode cX10_best 41 = .ok (.invokevirtual 203, 3) := by decide +kernel
theorem dX10_best_44 : decode cX10_best 44 = .ok (.ifCond .ne 6, 3) := by decide +kernel
theorem dX10_best_47 : decode cX10_best 47 = .ok (.bipush (-4), 2) := by decide +kernel
theorem dX10_best_49 : decode cX10_best 49 = .ok (.ireturn, 1) := by decide +kernel
theorem dX10_best_50 : decode cX10_best 50 = .ok (.aload_n 0, 1) := by decide +kernel
theorem dX10_best_51 : decode cX10_best 51 = .ok (.invokevirtual 256, 3) := by decide +kernel
theorem dX10_best_54 : decode cX10_best 54 = .ok (.iconst 0, 1) := by decide +kernel
theorem dX10_best_55 : decode cX10_best 55 = .ok (.istore_n 3, 1) := by decide +kernel
theorem dX10_best_56 : decode cX10_best 56 = .ok (.iconst 0, 1) := by decide +kernel
theorem dX10_best_57 : decode cX10_best 57 = .ok (.istore 4, 2) := by decide +kernel
theorem dX10_best_59 : decode cX10_best 59 = .ok (.iconst 1, 1) := by decide +kernel
theorem dX10_best_60 : decode cX10_best 60 = .ok (.istore 5, 2) := by decide +kernel
theorem dX10_best_62 : decode cX10_best 62 = .ok (.iload 5, 2) := by decide +kernel
theorem dX10_best_64 : decode cX10_best 64 = .ok (.bipush 9, 2) := by decide +kernel
theorem dX10_best_66 : decode cX10_best 66 = .ok (.if_icmp .gt 52, 3) := by decide +kernel
theorem dX10_best_69 : decode cX10_best 69 = .ok (.aload_n 0, 1) := by decide +kernel
theorem dX10_best_70 : decode cX10_best 70 = .ok (.iload 5, 2) := by decide +kernel
theorem dX10_best_72 : decode cX10_best 72 = .ok (.invokevirtual 265, 3) := by decide +kernel
theorem dX10_best_75 : decode cX10_best 75 = .ok (.aload_n 0, 1) := by decide +kernel
theorem dX10_best_76 : decode cX10_best 76 = .ok (.iload_n 1, 1) := by decide +kernel
theorem dX10_best_77 : decode cX10_best 77 = .ok (.invokevirtual 206, 3) := by decide +kernel
theorem dX10_best_80 : decode cX10_best 80 = .ok (.iload_n 3, 1) := by decide +kernel
theorem dX10_best_81 : decode cX10_best 81 = .ok (.ifCond .eq 15, 3) := by decide +kernel
theorem dX10_best_84 : decode cX10_best 84 = .ok (.aload_n 0, 1) := by decide +kernel
theorem dX10_best_85 : decode cX10_best 85 = .ok (.getfield 11, 3) := by decide +kernel
theorem dX10_best_88 : decode cX10_best 88 = .ok (.bipush 7, 2) := by decide +kernel
theorem dX10_best_90 : decode cX10_best 90 = .ok (.iaload, 1) := by decide +kernel
theorem dX10_best_91 : decode cX10_best 91 = .ok (.iload 4, 2) := by decide +kernel
theorem dX10_best_93 : decode cX10_best 93 = .ok (.if_icmp .ge 15, 3) := by decide +kernel
theorem dX10_best_96 : decode cX10_best 96 = .ok (.iload 5, 2) := by decide +kernel
theorem dX10_best_98 : decode cX10_best 98 = .ok (.istore_n 3, 1) := by decide +kernel
theorem dX10_best_99 : decode cX10_best 99 = .ok (.aload_n 0, 1) := by decide +kernel
theorem dX10_best_100 : decode cX10_best 100 = .ok (.getfield 11, 3) := by decide +kernel
theorem dX10_best_103 : decode cX10_best 103 = .ok (.bipush 7, 2) := by decide +kernel
theorem dX10_best_105 : decode cX10_best 105 = .ok (.iaload, 1) := by decide +kernel
theorem dX10_best_106 : decode cX10_best 106 = .ok (.istore 4, 2) := by decide +kernel
theorem dX10_best_108 : decode cX10_best 108 = .ok (.aload_n 0, 1) := by decide +kernel
theorem dX10_best_109 : decode cX10_best 109 = .ok (.invokevirtual 262, 3) := by decide +kernel
theorem dX10_best_112 : decode cX10_best 112 = .ok (.iinc 5 1, 3) := by decide +kernel
theorem dX10_best_115 : decode cX10_best 115 = .ok (.goto (-53), 3) := by decide +kernel
theorem dX10_best_118 : decode cX10_best 118 = .ok (.iload_n 2, 1) := by decide +kernel
theorem dX10_best_119 : decode cX10_best 119 = .ok (.ifCond .ne 7, 3) := by decide +kernel
theorem dX10_best_122 : decode cX10_best 122 = .ok (.iload_n 3, 1) := by decide +kernel
theorem dX10_best_123 : decode cX10_best 123 = .ok (.goto 5, 3) := by decide +kernel
theorem dX10_best_126 : decode cX10_best 126 = .ok (.iload 4, 2) := by decide +kernel
theorem dX10_best_128 : decode cX10_best 128 = .ok (.ireturn, 1) := by decide +kernel
set_option maxRecDepth 20000 in
theorem ggX10_note_X10_isIn : GoodIn wsX10_note wsX10_isIn := goodIn_r _ [6] (by decide +kernel) (by decide +kernel)
set_option maxRecDepth 20000 in
theorem gX10_note_X10_isIn : GoodIn wsX10_note (va_wsS RX10 49 yX10_isIn wsX10_isIn) := goodIn_app (goodIn_of _ (by decide +kernel)) ggX10_note_X10_isIn
theorem dX10_note_0 : decode cX10_note 0 = .ok (.iload_n 1, 1) := by decide +kernel
theorem dX10_note_1 : decode cX10_note 1 = .ok (.iconst (-1), 1) := by decide +kernel
theorem dX10_note_2 : decode cX10_note 2 = .ok (.if_icmp .ne 13, 3) := by decide +kernel
theorem dX10_note_5 : decode cX10_note 5 = .ok (.aload_n 0, 1) := by decide +kernel
theorem dX10_note_6 : decode cX10_note 6 = .ok (.getfield 11, 3) := by decide +kernel
theorem dX10_note_9 : decode cX10_note 9 = .ok (.bipush 19, 2) := by decide +kernel
theorem dX10_note_11 : decode cX10_note 11 = .ok (.iconst 0, 1) := by decide +kernel
theorem dX10_note_12 : decode cX10_note 12 = .ok (.iastore, 1) := by decide +kernel
theorem dX10_note_13 : decode cX10_note 13 = .ok (.iconst 0, 1) := by decide +kernel
theorem dX10_note_14 : decode cX10_note 14 = .ok (.ireturn, 1) := by decide +kernel
theorem dX10_note_15 : decode cX10_note 15 = .ok (.iload_n 1, 1) := by decide +kernel
theorem dX10_note_16 : decode cX10_note 16 = .ok (.iconst 0, 1) := by decide +kernel
theorem dX10_note_17 : decode cX10_note 17 = .ok (.ldc_w 268, 3) := by decide +kernel
theorem dX10_note_20 : decode cX10_note 20 = .ok (.invokestatic 49, 3) := by decide +kernel
theorem dX10_note_23 : decode cX10_note 23 = .ok (.ifCond .eq 14, 3) := by decide +kernel
theorem dX10_note_26 : decode cX10_note 26 = .ok (.iload_n 2, 1) := by decide +kernel
theorem dX10_note_27 : decode cX10_note 27 = .ok (.iconst 0, 1) := by decide +kernel
theorem dX10_note_28 : decode cX10_note 28 = .ok (.sipush 255, 3) := by decide +kernel
theorem dX10_note_31 : decode cX10_note 31 = .ok (.invokestatic 49, 3) := by decide +kernel
theorem dX10_note_34 : decode cX10_note 34 = .ok (.ifCond .ne 6, 3) := by decide +kernel
theorem dX10_note_37 : decode cX10_note 37 = .ok (.bipush (-2), 2) := by decide +kernel
theorem dX10_note_39 : decode cX10_note 39 = .ok (.ireturn, 1) := by decide +kernel
theorem dX10_note_40 : decode cX10_note 40 = .ok (.aload_n 0, 1) := by decide +kernel
theorem dX10_note_41 : decode cX10_note 41 = .ok (.getfield 11, 3) := by decide +kernel
theorem dX10_note_44 : decode cX10_note 44 = .ok (.bipush 19, 2) := by decide +kernel
theorem dX10_note_46 : decode cX10_note 46 = .ok (.iaload, 1) := by decide +kernel
theorem dX10_note_47 : decode cX10_note 47 = .ok (.iconst 5, 1) := by decide +kernel
theorem dX10_note_48 : decode cX10_note 48 = .ok (.if_icmp .ne 6, 3) := by decide +kernel
theorem dX10_note_51 : decode cX10_note 51 = .ok (.bipush (-4), 2) := by decide +kernel
theorem dX10_note_53 : decode cX10_note 53 = .ok (.ireturn, 1) := by decide +kernel
theorem dX10_note_54 : decode cX10_note 54 = .ok (.aload_n 0, 1) := by decide +kernel
theorem dX10_note_55 : decode cX10_note 55 = .ok (.getfield 11, 3) := by decide +kernel
theorem dX10_note_58 : decode cX10_note 58 = .ok (.sipush 345, 3) := by decide +kernel
theorem dX10_note_61 : decode cX10_note 61 = .ok (.iconst 2, 1) := by decide +kernel
theorem dX10_note_62 : decode cX10_note 62 = .ok (.aload_n 0, 1) := by decide +kernel
theorem dX10_note_63 : decode cX10_note 63 = .ok (.getfield 11, 3) := by decide +kernel
theorem dX10_note_66 : decode cX10_note 66 = .ok (.bipush 19, 2) := by decide +kernel
theorem dX10_note_68 : decode cX10_note 68 = .ok (.iaload, 1) := by decide +kernel
theorem dX10_note_69 : decode cX10_note 69 = .ok (.imul, 1) := by decide +kernel
theorem dX10_note_70 : decode cX10_note 70 = .ok (.iadd, 1) := by decide +kernel
theorem dX10_note_71 : decode cX10_note 71 = .ok (.iload_n 1, 1) := by decide +kernel
theorem dX10_note_72 : decode cX10_note 72 = .ok (.iastore, 1) := by decide +kernel
theorem dX10_note_73 : decode cX10_note 73 = .ok (.aload_n 0, 1) := by decide +kernel
theorem dX10_note_74 : decode cX10_note 74 = .ok (.getfield 11, 3) := by decide +kernel
theorem dX10_note_77 : decode cX10_note 77 = .ok (.sipush 345, 3) := by decide +kernel
theorem dX10_note_80 : decode cX10_note 80 = .ok (.iconst 2, 1) := by decide +kernel
theorem dX10_note_81 : decode cX10_note 81 = .ok (.aload_n 0, 1) := by decide +kernel
theorem dX10_note_82 : decode cX10_note 82 = .ok (.getfield 11, 3) := by decide +kernel
theorem dX10_note_85 : decode cX10_note 85 = .ok (.bipush 19, 2) := by decide +kernel
theorem dX10_note_87 : decode cX10_note 87 = .ok (.iaload, 1) := by decide +kernel
theorem dX10_note_88 : decode cX10_note 88 = .ok (.imul, 1) := by decide +kernel
theorem dX10_note_89 : decode cX10_note 89 = .ok (.iadd, 1) := by decide +kernel
theorem dX10_note_90 : decode cX10_note 90 = .ok (.iconst 1, 1) := by decide +kernel
theorem dX10_note_91 : decode cX10_note 91 = .ok (.iadd, 1) := by decide +kernel
theorem dX10_note_92 : decode cX10_note 92 = .ok (.iload_n 2, 1) := by decide +kernel
theorem dX10_note_93 : decode cX10_note 93 = .ok (.iastore, 1) := by decide +kernel
theorem dX10_note_94 : decode cX10_note 94 = .ok (.aload_n 0, 1) := by decide +kernel
theorem dX10_note_95 : decode cX10_note 95 = .ok (.getfield 11, 3) := by decide +kernel
theorem dX10_note_98 : decode cX10_note 98 = .ok (.bipush 19, 2) := by decide +kernel
theorem dX10_note_100 : decode cX10_note 100 = .ok (.dup2, 1) := by decide +kernel
theorem dX10_note_101 : decode cX10_note 101 = .ok (.iaload, 1) := by decide +kernel
theorem dX10_note_102 : decode cX10_note 102 = .ok (.iconst 1, 1) := by decide +kernel
theorem dX10_note_103 : decode cX10_note 103 = .ok (.iadd, 1) := by decide +kernel
theorem dX10_note_104 : decode cX10_note 104 = .ok (.iastore, 1) := by decide +kernel
theorem dX10_note_105 : decode cX10_note 105 = .ok (.aload_n 0, 1) := by decide +kernel
theorem dX10_note_106 : decode cX10_note 106 = .ok (.getfield 11, 3) := by decide +kernel
theorem dX10_note_109 : decode cX10_note 109 = .ok (.bipush 19, 2) := by decide +kernel
theorem dX10_note_111 : decode cX10_note 111 = .ok (.iaload, 1) := by decide +kernel
theorem dX10_note_112 : decode cX10_note 112 = .ok (.ireturn, 1) := by decide +kernel
set_option maxRecDepth 20000 in
theorem ggX10_notesSo_X10_passes : GoodIn wsX10_notesSo wsX10_passes := goodIn_r _ [6, 7, 8, 9, 5, 10, 1, 11, 12, 13, 14, 15, 16, 17, 18, 19, 20, 21, 22, 23, 24, 25, 26, 27, 28, 29, 30, 31, 32, 33, 34, 35, 36, 37, 38, 39, 40, 41, 42, 43, 44, 45, 46, 47, 48, 49, 50, 51, 52, 53, 54, 55, 56, 57, 58, 59, 60, 61, 62, 63, 64, 65, 66, 67, 68, 69, 70, 71, 72, 73, 74, 75, 76, 77, 78, 79, 80, 81, 82, 83, 84, 85, 86, 87, 88, 89, 90, 91, 92, 93, 94, 95, 96, 97, 98, 99, 100, 101, 102, 103, 104, 105, 106, 120, 121, 122, 123, 124, 125, 126, 127, 128, 129, 130, 131, 132, 133, 134, 135, 136] (by decide +kernel) (by decide +kernel)
set_option maxRecDepth 20000 in
theorem gX10_notesSo_X10_passes : GoodIn wsX10_notesSo (wsV RX10 206 RX10 yX10_passes wsX10_passes) := goodIn_app (goodIn_of _ (by decide +kernel)) ggX10_notesSo_X10_passes
set_option maxRecDepth 20000 in
theorem ggX10_notesSo_X10_lights : GoodIn wsX10_notesSo wsX10_lights := goodIn_r _ [110, 1, 111, 112, 113, 5, 114, 15, 16, 17, 18, 115, 116, 117, 118, 119, 120, 121, 122, 123, 124, 125, 126, 127, 128, 129, 130, 131, 132, 133, 134, 135, 136] (by decide +kernel) (by decide +kernel)
set_option maxRecDepth 20000 in
theorem gX10_notesSo_X10_lights : GoodIn wsX10_notesSo (wsV RX10 212 RX10 yX10_lights wsX10_lights) := goodIn_app (goodIn_of _ (by decide +kernel)) ggX10_notesSo_X10_lights
theorem dX10_notesSo_0 : decode cX10_notesSo 0 = .ok (.iconst 0, 1) := by decide +kernel
theorem dX10_notesSo_1 : decode cX10_notesSo 1 = .ok (.istore_n 1, 1) := by decide +kernel
theorem dX10_notesSo_2 : decode cX10_notesSo 2 = .ok (.iconst 0, 1) := by decide +kernel
theorem dX10_notesSo_3 : decode cX10_notesSo 3 = .ok (.istore_n 2, 1) := by decide +kernel
theorem dX10_notesSo_4 : decode cX10_notesSo 4 = .ok (.iload_n 2, 1) := by decide +kernel
theorem dX10_notesSo_5 : decode cX10_notesSo 5 = .ok (.bipush 60, 2) := by decide +kernel
theorem dX10_notesSo_7 : decode cX10_notesSo 7 = .ok (.if_icmp .ge 90, 3) := by decide +kernel
theorem dX10_notesSo_10 : decode cX10_notesSo 10 = .ok (.aload_n 0, 1) := by decide +kernel
theorem dX10_notesSo_11 : decode cX10_notesSo 11 = .ok (.getfield 11, 3) := by decide +kernel
theorem dX10_notesSo_14 : decode cX10_notesSo 14 = .ok (.iconst 3, 1) := by decide +kernel
theorem dX10_notesSo_15 : decode cX10_notesSo 15 = .ok (.iaload, 1) := by decide +kernel
theorem dX10_notesSo_16 : decode cX10_notesSo 16 = .ok (.istore_n 3, 1) := by decide +kernel
theorem dX10_notesSo_17 : decode cX10_notesSo 17 = .ok (.aload_n 0, 1) := by decide +kernel
theorem dX10_notesSo_18 : decode cX10_notesSo 18 = .ok (.iconst 1, 1) := by decide +kernel
theorem dX10_notesSo_19 : decode cX10_notesSo 19 = .ok (.invokevirtual 206, 3) := by decide +kernel
theorem dX10_notesSo_22 : decode cX10_notesSo 22 = .ok (.iconst 0, 1) := by decide +kernel
theorem dX10_notesSo_23 : decode cX10_notesSo 23 = .ok (.istore 4, 2) := by decide +kernel
theorem dX10_notesSo_25 : decode cX10_notesSo 25 = .ok (.iload 4, 2) := by decide +kernel
theorem dX10_notesSo_27 : decode cX10_notesSo 27 = .ok (.aload_n 0, 1) := by decide +kernel
theorem dX10_notesSo_28 : decode cX10_notesSo 28 = .ok (.getfield 11, 3) := by decide +kernel
theorem dX10_notesSo_31 : decode cX10_notesSo 31 = .ok (.bipush 19, 2) := by decide +kernel
theorem dX10_notesSo_33 : decode cX10_notesSo 33 = .ok (.iaload, 1) := by decide +kernel
theorem dX10_notesSo_34 : decode cX10_notesSo 34 = .ok (.if_icmp .ge 57, 3) := by decide +kernel
theorem dX10_notesSo_37 : decode cX10_notesSo 37 = .ok (.iload_n 1, 1) := by decide +kernel
theorem dX10_notesSo_38 : decode cX10_notesSo 38 = .ok (.aload_n 0, 1) := by decide +kernel
theorem dX10_notesSo_39 : decode cX10_notesSo 39 = .ok (.getfield 11, 3) := by decide +kernel
theorem dX10_notesSo_42 : decode cX10_notesSo 42 = .ok (.sipush 345, 3) := by decide +kernel
theorem dX10_notesSo_45 : decode cX10_notesSo 45 = .ok (.iconst 2, 1) := by decide +kernel
theorem dX10_notesSo_46 : decode cX10_notesSo 46 = .ok (.iload 4, 2) := by decide +kernel
theorem dX10_notesSo_48 : decode cX10_notesSo 48 = .ok (.imul, 1) := by decide +kernel
theorem dX10_notesSo_49 : decode cX10_notesSo 49 = .ok (.iadd, 1) := by decide +kernel
theorem dX10_notesSo_50 : decode cX10_notesSo 50 = .ok (.iaload, 1) := by decide +kernel
theorem dX10_notesSo_51 : decode cX10_notesSo 51 = .ok (.iload_n 3, 1) := by decide +kernel
theorem dX10_notesSo_52 : decode cX10_notesSo 52 = .ok (.if_icmp .ne 30, 3) := by decide +kernel
theorem dX10_notesSo_55 : decode cX10_notesSo 55 = .ok (.aload_n 0, 1) := by decide +kernel
theorem dX10_notesSo_56 : decode cX10_notesSo 56 = .ok (.getfield 11, 3) := by decide +kernel
theorem dX10_notesSo_59 : decode cX10_notesSo 59 = .ok (.sipush 345, 3) := by decide +kernel
theorem dX10_notesSo_62 : decode cX10_notesSo 62 = .ok (.iconst 2, 1) := by decide +kernel
theorem dX10_notesSo_63 : decode cX10_notesSo 63 = .ok (.iload 4, 2) := by decide +kernel
theorem dX10_notesSo_65 : decode cX10_notesSo 65 = .ok (.imul, 1) := by decide +kernel
theorem dX10_notesSo_66 : decode cX10_notesSo 66 = .ok (.iadd, 1) := by decide +kernel
theorem dX10_notesSo_67 : decode cX10_notesSo 67 = .ok (.iconst 1, 1) := by decide +kernel
theorem dX10_notesSo_68 : decode cX10_notesSo 68 = .ok (.iadd, 1) := by decide +kernel
theorem dX10_notesSo_69 : decode cX10_notesSo 69 = .ok (.iaload, 1) := by decide +kernel
theorem dX10_notesSo_70 : decode cX10_notesSo 70 = .ok (.aload_n 0, 1) := by decide +kernel
theorem dX10_notesSo_71 : decode cX10_notesSo 71 = .ok (.iconst 2, 1) := by decide +kernel
theorem dX10_notesSo_72 : decode cX10_notesSo 72 = .ok (.invokevirtual 212, 3) := by decide +kernel
theorem dX10_notesSo_75 : decode cX10_notesSo 75 = .ok (.if_icmp .ne 7, 3) := by decide +kernel
theorem dX10_notesSo_78 : decode cX10_notesSo 78 = .ok (.iconst 1, 1) := by decide +kernel
theorem dX10_notesSo_79 : decode cX10_notesSo 79 = .ok (.goto 4, 3) := by decide +kernel
theorem dX10_notesSo_82 : decode cX10_notesSo 82 = .ok (.iconst 0, 1) := by decide +kernel
theorem dX10_notesSo_83 : decode cX10_notesSo 83 = .ok (.iadd, 1) := by decide +kernel
theorem dX10_notesSo_84 : decode cX10_notesSo 84 = .ok (.istore_n 1, 1) := by decide +kernel
theorem dX10_notesSo_85 : decode cX10_notesSo 85 = .ok (.iinc 4 1, 3) := by decide +kernel
theorem dX10_notesSo_88 : decode cX10_notesSo 88 = .ok (.goto (-63), 3) := by decide +kernel
theorem dX10_notesSo_91 : decode cX10_notesSo 91 = .ok (.iinc 2 1, 3) := by decide +kernel
theorem dX10_notesSo_94 : decode cX10_notesSo 94 = .ok (.goto (-90), 3) := by decide +kernel
theorem dX10_notesSo_97 : decode cX10_notesSo 97 = .ok (.iload_n 1, 1) := by decide +kernel
theorem dX10_notesSo_98 : decode cX10_notesSo 98 = .ok (.ireturn, 1) := by decide +kernel
set_option maxRecDepth 20000 in
theorem ggX10_fits_X10_isIn : GoodIn wsX10_fits wsX10_isIn := goodIn_r _ [5] (by decide +kernel) (by decide +kernel)
set_option maxRecDepth 20000 in
theorem gX10_fits_X10_isIn : GoodIn wsX10_fits (va_wsS RX10 49 yX10_isIn wsX10_isIn) := goodIn_app (goodIn_of _ (by decide +kernel)) ggX10_fits_X10_isIn
set_option maxRecDepth 20000 in
theorem ggX10_fits_X10_counts : GoodIn wsX10_fits wsX10_counts := goodIn_r _ [9, 10, 148, 149, 150, 151, 152, 153, 154, 155, 156, 157, 158, 159, 160, 161, 162, 163, 164] (by decide +kernel) (by decide +kernel)
set_option maxRecDepth 20000 in
theorem gX10_fits_X10_counts : GoodIn wsX10_fits (wsV RX10 203 RX10 yX10_counts wsX10_counts) := goodIn_app (goodIn_of _ (by decide +kernel)) ggX10_fits_X10_counts
set_option maxRecDepth 20000 in
theorem ggX10_fits_X10_thinks : GoodIn wsX10_fits wsX10_thinks := goodIn_r _ [14, 1, 15, 16, 17, 4, 18, 148, 149, 150, 151, 152, 153, 154, 155, 156, 157, 158, 159, 160, 161, 162, 163, 164] (by decide +kernel) (by decide +kernel)
set_option maxRecDepth 20000 in
theorem gX10_fits_X10_thinks : GoodIn wsX10_fits (wsV RX10 256 RX10 yX10_thinks wsX10_thinks) := goodIn_app (goodIn_of _ (by decide +kernel)) ggX10_fits_X10_thinks
set_option maxRecDepth 20000 in
theorem ggX10_fits_X10_gaps : GoodIn wsX10_fits wsX10_gaps := goodIn_r _ [22, 1, 23, 24, 25, 4, 26, 148, 149, 150, 151, 152, 153, 154, 155, 156, 157, 158, 159, 160, 161, 162, 163, 164] (by decide +kernel) (by decide +kernel)
set_option maxRecDepth 20000 in
theorem gX10_fits_X10_gaps : GoodIn wsX10_fits (wsV RX10 265 RX10 yX10_gaps wsX10_gaps) := goodIn_app (goodIn_of _ (by decide +kernel)) ggX10_fits_X10_gaps
set_option maxRecDepth 20000 in
theorem ggX10_fits_X10_notesSo : GoodIn wsX10_fits wsX10_notesSo := goodIn_r _ [30, 1, 31, 32, 33, 4, 34, 35, 36, 37, 38, 39, 40, 41, 42, 43, 44, 45, 46, 47, 48, 49, 50, 51, 52, 53, 54, 55, 56, 57, 58, 59, 60, 61, 62, 23, 24, 25, 26, 63, 64, 65, 66, 67, 68, 69, 70, 71, 72, 73, 74, 75, 76, 77, 78, 79, 80, 81, 82, 83, 84, 85, 86, 87, 88, 89, 90, 91, 92, 93, 94, 95, 96, 97, 98, 99, 100, 101, 102, 103, 104, 105, 106, 107, 108, 109, 110, 111, 112, 113, 114, 115, 116, 117, 118, 119, 120, 121, 122, 123, 124, 125, 126, 127, 128, 129, 130, 131, 132, 133, 134, 135, 136, 137, 138, 139, 140, 141, 142, 143, 148, 149, 150, 151, 152, 153, 154, 155, 156, 157, 158, 159, 160, 161, 162, 163, 164] (by decide +kernel) (by decide +kernel)
set_option maxRecDepth 20000 in
theorem gX10_fits_X10_notesSo : GoodIn wsX10_fits (wsV RX10 269 RX10 yX10_notesSo wsX10_notesSo) := goodIn_app (goodIn_of _ (by decide +kernel)) ggX10_fits_X10_notesSo
set_option maxRecDepth 20000 in
theorem ggX10_fits_X10_forgets : GoodIn wsX10_fits wsX10_forgets := goodIn_r _ [147, 15, 1, 16, 17, 4, 18, 148, 149, 150, 151, 152, 153, 154, 155, 156, 157, 158, 159, 160, 161, 162, 163, 164] (by decide +kernel) (by decide +kernel)
set_option maxRecDepth 20000 in
theorem gX10_fits_X10_forgets : GoodIn wsX10_fits (wsV RX10 262 RX10 yX10_forgets wsX10_forgets) := goodIn_app (goodIn_of _ (by decide +kernel)) ggX10_fits_X10_forgets
theorem dX10_fits_0 : decode cX10_fits 0 = .ok (.iload_n 1, 1) := by decide +kernel
theorem dX10_fits_1 : decode cX10_fits 1 = .ok (.iconst 0, 1) := by decide +kernel
theorem dX10_fits_2 : decode cX10_fits 2 = .ok (.iconst 1, 1) := by decide +kernel
theorem dX10_fits_3 : decode cX10_fits 3 = .ok (.invokestatic 49, 3) := by decide +kernel
theorem dX10_fits_6 : decode cX10_fits 6 = .ok (.ifCond .ne 5, 3) := by decide +kernel
theorem dX10_fits_9 : decode cX10_fits 9 = .ok (.iconst (-1), 1) := by decide +kernel
theorem dX10_fits_10 : decode cX10_fits 10 = .ok (.ireturn, 1) := by decide +kernel
theorem dX10_fits_11 : decode cX10_fits 11 = .ok (.aload_n 0, 1) := by decide +kernel
theorem dX10_fits_12 : decode cX10_fits 12 = .ok (.getfield 11, 3) := by decide +kernel
theorem dX10_fits_15 : decode cX10_fits 15 = .ok (.iconst 2, 1) := by decide +kernel
theorem dX10_fits_16 : decode cX10_fits 16 = .ok (.iaload, 1) := by decide +kernel
theorem dX10_fits_17 : decode cX10_fits 17 = .ok (.ifCond .ne 6, 3) := by decide +kernel
theorem dX10_fits_20 : decode cX10_fits 20 = .ok (.bipush (-3), 2) := by decide +kernel
theorem dX10_fits_22 : decode cX10_fits 22 = .ok (.ireturn, 1) := by decide +kernel
theorem dX10_fits_23 : decode cX10_fits 23 = .ok (.aload_n 0, 1) := by decide +kernel
theorem dX10_fits_24 : decode cX10_fits 24 = .ok (.sipush 540, 3) := by decide +kernel
theorem dX10_fits_27 : decode cX10_fits 27 = .ok (.invokevirtual 203, 3) := by decide +kernel
theorem dX10_fits_30 : decode cX10_fits 30 = .ok (.ifCond .ne 6, 3) := by decide +kernel
theorem dX10_fits_33 : decode cX10_fits 33 = .ok (.bipush (-4), 2) := by decide +kernel
theorem dX10_fits_35 : decode cX10_fits 35 = .ok (.ireturn, 1) := by decide +kernel
theorem dX10_fits_36 : decode cX10_fits 36 = .ok (.aload_n 0, 1) := by decide +kernel
theorem dX10_fits_37 : decode cX10_fits 37 = .ok (.invokevirtual 256, 3) := by decide +kernel
theorem dX10_fits_40 : decode cX10_fits 40 = .ok (.iconst 0, 1) := by decide +kernel
theorem dX10_fits_41 : decode cX10_fits 41 = .ok (.istore_n 2, 1) := by decide +kernel
theorem dX10_fits_42 : decode cX10_fits 42 = .ok (.bipush (-5), 2) := by decide +kernel
theorem dX10_fits_44 : decode cX10_fits 44 = .ok (.istore_n 3, 1) := by decide +kernel
theorem dX10_fits_45 : decode cX10_fits 45 = .ok (.bipush 9, 2) := by decide +kernel
theorem dX10_fits_47 : decode cX10_fits 47 = .ok (.istore 4, 2) := by decide +kernel
theorem dX10_fits_49 : decode cX10_fits 49 = .ok (.iload 4, 2) := by decide +kernel
theorem dX10_fits_51 : decode cX10_fits 51 = .ok (.iconst 1, 1) := by decide +kernel
theorem dX10_fits_52 : decode cX10_fits 52 = .ok (.if_icmp .lt 39, 3) := by decide +kernel
theorem dX10_fits_55 : decode cX10_fits 55 = .ok (.aload_n 0, 1) := by decide +kernel
theorem dX10_fits_56 : decode cX10_fits 56 = .ok (.iload 4, 2) := by decide +kernel
theorem dX10_fits_58 : decode cX10_fits 58 = .ok (.invokevirtual 265, 3) := by decide +kernel
theorem dX10_fits_61 : decode cX10_fits 61 = .ok (.aload_n 0, 1) := by decide +kernel
theorem dX10_fits_62 : decode cX10_fits 62 = .ok (.invokevirtual 269, 3) := by decide +kernel
theorem dX10_fits_65 : decode cX10_fits 65 = .ok (.aload_n 0, 1) := by decide +kernel
theorem dX10_fits_66 : decode cX10_fits 66 = .ok (.getfield 11, 3) := by decide +kernel
theorem dX10_fits_69 : decode cX10_fits 69 = .ok (.bipush 19, 2) := by decide +kernel
theorem dX10_fits_71 : decode cX10_fits 71 = .ok (.iaload, 1) := by decide +kernel
theorem dX10_fits_72 : decode cX10_fits 72 = .ok (.if_icmp .ne 9, 3) := by decide +kernel
theorem dX10_fits_75 : decode cX10_fits 75 = .ok (.iinc 2 1, 3) := by decide +kernel
theorem dX10_fits_78 : decode cX10_fits 78 = .ok (.iload 4, 2) := by decide +kernel
theorem dX10_fits_80 : decode cX10_fits 80 = .ok (.istore_n 3, 1) := by decide +kernel
theorem dX10_fits_81 : decode cX10_fits 81 = .ok (.aload_n 0, 1) := by decide +kernel
theorem dX10_fits_82 : decode cX10_fits 82 = .ok (.invokevirtual 262, 3) := by decide +kernel
theorem dX10_fits_85 : decode cX10_fits 85 = .ok (.iinc 4 (-1), 3) := by decide +kernel
theorem dX10_fits_88 : decode cX10_fits 88 = .ok (.goto (-39), 3) := by decide +kernel
theorem dX10_fits_91 : decode cX10_fits 91 = .ok (.iload_n 1, 1) := by decide +kernel
theorem dX10_fits_92 : decode cX10_fits 92 = .ok (.ifCond .ne 7, 3) := by decide +kernel
theorem dX10_fits_95 : decode cX10_fits 95 = .ok (.iload_n 2, 1) := by decide +kernel
theorem dX10_fits_96 : decode cX10_fits 96 = .ok (.goto 4, 3) := by decide +kernel
theorem dX10_fits_99 : decode cX10_fits 99 = .ok (.iload_n 3, 1) := by decide +kernel
theorem dX10_fits_100 : decode cX10_fits 100 = .ok (.ireturn, 1) := by decide +kernel
set_option maxRecDepth 20000 in
theorem ggX10_dayOf_X10_thinks : GoodIn wsX10_dayOf wsX10_thinks := goodIn_r _ [6, 1, 7, 8, 9, 5, 10, 119, 120, 121, 122, 123, 124, 125, 126, 127, 128, 129, 130, 131, 132, 133, 134, 135] (by decide +kernel) (by decide +kernel)
set_option maxRecDepth 20000 in
theorem gX10_dayOf_X10_thinks : GoodIn wsX10_dayOf (wsV RX10 256 RX10 yX10_thinks wsX10_thinks) := goodIn_app (goodIn_of _ (by decide +kernel)) ggX10_dayOf_X10_thinks
set_option maxRecDepth 20000 in
theorem ggX10_dayOf_X10_passes : GoodIn wsX10_dayOf wsX10_passes := goodIn_r _ [14, 15, 16, 17, 5, 18, 1, 19, 20, 21, 22, 23, 24, 25, 26, 27, 28, 29, 30, 31, 32, 33, 34, 35, 36, 37, 38, 39, 40, 41, 42, 43, 44, 45, 46, 47, 48, 49, 50, 51, 52, 53, 54, 55, 56, 57, 58, 59, 60, 61, 62, 63, 64, 65, 66, 67, 68, 69, 70, 71, 72, 73, 74, 75, 76, 77, 78, 79, 80, 81, 82, 83, 84, 85, 86, 87, 88, 89, 90, 91, 92, 93, 94, 95, 96, 97, 98, 99, 100, 101, 102, 103, 104, 105, 106, 107, 108, 109, 110, 111, 112, 113, 114, 119, 120, 121, 122, 123, 124, 125, 126, 127, 128, 129, 130, 131, 132, 133, 134, 135] (by decide +kernel) (by decide +kernel)
set_option maxRecDepth 20000 in
theorem gX10_dayOf_X10_passes : GoodIn wsX10_dayOf (wsV RX10 206 RX10 yX10_passes wsX10_passes) := goodIn_app (goodIn_of _ (by decide +kernel)) ggX10_dayOf_X10_passes
set_option maxRecDepth 20000 in
theorem ggX10_dayOf_X10_forgets : GoodIn wsX10_dayOf wsX10_forgets := goodIn_r _ [118, 7, 1, 8, 9, 5, 10, 119, 120, 121, 122, 123, 124, 125, 126, 127, 128, 129, 130, 131, 132, 133, 134, 135] (by decide +kernel) (by decide +kernel)
set_option maxRecDepth 20000 in
theorem gX10_dayOf_X10_forgets : GoodIn wsX10_dayOf (wsV RX10 262 RX10 yX10_forgets wsX10_forgets) := goodIn_app (goodIn_of _ (by decide +kernel)) ggX10_dayOf_X10_forgets
theorem dX10_dayOf_0 : decode cX10_dayOf 0 = .ok (.aload_n 0, 1) := by decide +kernel
theorem dX10_dayOf_1 : decode cX10_dayOf 1 = .ok (.invokevirtual 256, 3) := by decide +kernel
theorem dX10_dayOf_4 : decode cX10_dayOf 4 = .ok (.aload_n 0, 1) := by decide +kernel
theorem dX10_dayOf_5 : decode cX10_dayOf 5 = .ok (.getfield 11, 3) := by decide +kernel
theorem dX10_dayOf_8 : decode cX10_dayOf 8 = .ok (.bipush 7, 2) := by decide +kernel
theorem dX10_dayOf_10 : decode cX10_dayOf 10 = .ok (.iaload, 1) := by decide +kernel
theorem dX10_dayOf_11 : decode cX10_dayOf 11 = .ok (.istore_n 3, 1) := by decide +kernel
theorem dX10_dayOf_12 : decode cX10_dayOf 12 = .ok (.aload_n 0, 1) := by decide +kernel
theorem dX10_dayOf_13 : decode cX10_dayOf 13 = .ok (.getfield 11, 3) := by decide +kernel
theorem dX10_dayOf_16 : decode cX10_dayOf 16 = .ok (.iconst 0, 1) := by decide +kernel
theorem dX10_dayOf_17 : decode cX10_dayOf 17 = .ok (.iload_n 1, 1) := by decide +kernel
theorem dX10_dayOf_18 : decode cX10_dayOf 18 = .ok (.iastore, 1) := by decide +kernel
theorem dX10_dayOf_19 : decode cX10_dayOf 19 = .ok (.aload_n 0, 1) := by decide +kernel
theorem dX10_dayOf_20 : decode cX10_dayOf 20 = .ok (.iload_n 2, 1) := by decide +kernel
theorem dX10_dayOf_21 : decode cX10_dayOf 21 = .ok (.invokevirtual 206, 3) := by decide +kernel
theorem dX10_dayOf_24 : decode cX10_dayOf 24 = .ok (.aload_n 0, 1) := by decide +kernel
theorem dX10_dayOf_25 : decode cX10_dayOf 25 = .ok (.getfield 11, 3) := by decide +kernel
theorem dX10_dayOf_28 : decode cX10_dayOf 28 = .ok (.bipush 7, 2) := by decide +kernel
theorem dX10_dayOf_30 : decode cX10_dayOf 30 = .ok (.iaload, 1) := by decide +kernel
theorem dX10_dayOf_31 : decode cX10_dayOf 31 = .ok (.iload_n 3, 1) := by decide +kernel
theorem dX10_dayOf_32 : decode cX10_dayOf 32 = .ok (.isub, 1) := by decide +kernel
theorem dX10_dayOf_33 : decode cX10_dayOf 33 = .ok (.istore 4, 2) := by decide +kernel
theorem dX10_dayOf_35 : decode cX10_dayOf 35 = .ok (.aload_n 0, 1) := by decide +kernel
theorem dX10_dayOf_36 : decode cX10_dayOf 36 = .ok (.invokevirtual 262, 3) := by decide +kernel
theorem dX10_dayOf_39 : decode cX10_dayOf 39 = .ok (.iload 4, 2) := by decide +kernel
theorem dX10_dayOf_41 : decode cX10_dayOf 41 = .ok (.ireturn, 1) := by decide +kernel
set_option maxRecDepth 20000 in
theorem ggX10_day_X10_isIn : GoodIn wsX10_day wsX10_isIn := goodIn_r _ [5] (by decide +kernel) (by decide +kernel)
set_option maxRecDepth 20000 in
theorem gX10_day_X10_isIn : GoodIn wsX10_day (va_wsS RX10 49 yX10_isIn wsX10_isIn) := goodIn_app (goodIn_of _ (by decide +kernel)) ggX10_day_X10_isIn
set_option maxRecDepth 20000 in
theorem ggX10_day_X10_counts : GoodIn wsX10_day wsX10_counts := goodIn_r _ [9, 10, 131, 132, 133, 134, 135, 136, 137, 138, 139, 140, 141, 142, 143, 144, 145, 146, 147] (by decide +kernel) (by decide +kernel)
set_option maxRecDepth 20000 in
theorem gX10_day_X10_counts : GoodIn wsX10_day (wsV RX10 203 RX10 yX10_counts wsX10_counts) := goodIn_app (goodIn_of _ (by decide +kernel)) ggX10_day_X10_counts
set_option maxRecDepth 20000 in
theorem ggX10_day_X10_dayOf : GoodIn wsX10_day wsX10_dayOf := goodIn_r _ [14, 1, 15, 16, 17, 4, 18, 19, 20, 21, 22, 23, 24, 25, 26, 27, 28, 29, 30, 31, 32, 33, 34, 35, 36, 37, 38, 39, 40, 41, 42, 43, 44, 45, 46, 47, 48, 49, 50, 51, 52, 53, 54, 55, 56, 57, 58, 59, 60, 61, 62, 63, 64, 65, 66, 67, 68, 69, 70, 71, 72, 73, 74, 75, 76, 77, 78, 79, 80, 81, 82, 83, 84, 85, 86, 87, 88, 89, 90, 91, 92, 93, 94, 95, 96, 97, 98, 99, 100, 101, 102, 103, 104, 105, 106, 107, 108, 109, 110, 111, 112, 113, 114, 115, 116, 117, 118, 119, 120, 121, 122, 123, 124, 125, 126, 127, 128, 129, 130, 131, 132, 133, 134, 135, 136, 137, 138, 139, 140, 141, 142, 143, 144, 145, 146, 147] (by decide +kernel) (by decide +kernel)
set_option maxRecDepth 20000 in
theorem gX10_day_X10_dayOf : GoodIn wsX10_day (wsV RX10 272 RX10 yX10_dayOf wsX10_dayOf) := goodIn_app (goodIn_of _ (by decide +kernel)) ggX10_day_X10_dayOf
theorem dX10_day_0 : decode cX10_day 0 = .ok (.iload_n 2, 1) := by decide +kernel
theorem dX10_day_1 : decode cX10_day 1 = .ok (.iconst 0, 1) := by decide +kernel
theorem dX10_day_2 : decode cX10_day 2 = .ok (.bipush 99, 2) := by decide +kernel
theorem dX10_day_4 : decode cX10_day 4 = .ok (.invokestatic 49, 3) := by decide +kernel
theorem dX10_day_7 : decode cX10_day 7 = .ok (.ifCond .ne 6, 3) := by decide +kernel
theorem dX10_day_10 : decode cX10_day 10 = .ok (.bipush (-2), 2) := by decide +kernel
theorem dX10_day_12 : decode cX10_day 12 = .ok (.ireturn, 1) := by decide +kernel
theorem dX10_day_13 : decode cX10_day 13 = .ok (.aload_n 0, 1) := by decide +kernel
theorem dX10_day_14 : decode cX10_day 14 = .ok (.getfield 11, 3) := by decide +kernel
theorem dX10_day_17 : decode cX10_day 17 = .ok (.iconst 2, 1) := by decide +kernel
theorem dX10_day_18 : decode cX10_day 18 = .ok (.iaload, 1) := by decide +kernel
theorem dX10_day_19 : decode cX10_day 19 = .ok (.ifCond .ne 6, 3) := by decide +kernel
theorem dX10_day_22 : decode cX10_day 22 = .ok (.bipush (-3), 2) := by decide +kernel
theorem dX10_day_24 : decode cX10_day 24 = .ok (.ireturn, 1) := by decide +kernel
theorem dX10_day_25 : decode cX10_day 25 = .ok (.aload_n 0, 1) := by decide +kernel
theorem dX10_day_26 : decode cX10_day 26 = .ok (.iload_n 2, 1) := by decide +kernel
theorem dX10_day_27 : decode cX10_day 27 = .ok (.invokevirtual 203, 3) := by decide +kernel
theorem dX10_day_30 : decode cX10_day 30 = .ok (.ifCond .eq 12, 3) := by decide +kernel
theorem dX10_day_33 : decode cX10_day 33 = .ok (.aload_n 0, 1) := by decide +kernel
theorem dX10_day_34 : decode cX10_day 34 = .ok (.iload_n 1, 1) := by decide +kernel
theorem dX10_day_35 : decode cX10_day 35 = .ok (.iload_n 2, 1) := by decide +kernel
theorem dX10_day_36 : decode cX10_day 36 = .ok (.invokevirtual 272, 3) := by decide +kernel
theorem dX10_day_39 : decode cX10_day 39 = .ok (.goto 5, 3) := by decide +kernel
theorem dX10_day_42 : decode cX10_day 42 = .ok (.bipush (-4), 2) := by decide +kernel
theorem dX10_day_44 : decode cX10_day 44 = .ok (.ireturn, 1) := by decide +kernel
set_option maxRecDepth 20000 in
theorem ggX10_common_X10_common : GoodIn wsX10_common wsX10_common := goodIn_r _ [0, 1, 2, 3] (by decide +kernel) (by decide +kernel)
set_option maxRecDepth 20000 in
theorem gX10_common_X10_common : GoodIn wsX10_common (va_wsS RX10 275 yX10_common wsX10_common) := goodIn_app (goodIn_of _ (by decide +kernel)) ggX10_common_X10_common
theorem dX10_common_0 : decode cX10_common 0 = .ok (.iload_n 1, 1) := by decide +kernel
theorem dX10_common_1 : decode cX10_common 1 = .ok (.ifCond .ne 7, 3) := by decide +kernel
theorem dX10_common_4 : decode cX10_common 4 = .ok (.iload_n 0, 1) := by decide +kernel
theorem dX10_common_5 : decode cX10_common 5 = .ok (.goto 10, 3) := by decide +kernel
theorem dX10_common_8 : decode cX10_common 8 = .ok (.iload_n 1, 1) := by decide +kernel
theorem dX10_common_9 : decode cX10_common 9 = .ok (.iload_n 0, 1) := by decide +kernel
theorem dX10_common_10 : decode cX10_common 10 = .ok (.iload_n 1, 1) := by decide +kernel
theorem dX10_common_11 : decode cX10_common 11 = .ok (.irem, 1) := by decide +kernel
theorem dX10_common_12 : decode cX10_common 12 = .ok (.invokestatic 275, 3) := by decide +kernel
theorem dX10_common_15 : decode cX10_common 15 = .ok (.ireturn, 1) := by decide +kernel
set_option maxRecDepth 20000 in
theorem ggX10_part_X10_common : GoodIn wsX10_part wsX10_common := goodIn_r _ [4, 1, 2, 3] (by decide +kernel) (by decide +kernel)
set_option maxRecDepth 20000 in
theorem gX10_part_X10_common : GoodIn wsX10_part (va_wsS RX10 275 yX10_common wsX10_common) := goodIn_app (goodIn_of _ (by decide +kernel)) ggX10_part_X10_common
theorem dX10_part_0 : decode cX10_part 0 = .ok (.iload_n 2, 1) := by decide +kernel
theorem dX10_part_1 : decode cX10_part 1 = .ok (.ifCond .ne 7, 3) := by decide +kernel
theorem dX10_part_4 : decode cX10_part 4 = .ok (.iload_n 0, 1) := by decide +kernel
theorem dX10_part_5 : decode cX10_part 5 = .ok (.goto 4, 3) := by decide +kernel
theorem dX10_part_8 : decode cX10_part 8 = .ok (.iload_n 1, 1) := by decide +kernel
theorem dX10_part_9 : decode cX10_part 9 = .ok (.iload_n 0, 1) := by decide +kernel
theorem dX10_part_10 : decode cX10_part 10 = .ok (.iload_n 1, 1) := by decide +kernel
theorem dX10_part_11 : decode cX10_part 11 = .ok (.invokestatic 275, 3) := by decide +kernel
theorem dX10_part_14 : decode cX10_part 14 = .ok (.idiv, 1) := by decide +kernel
theorem dX10_part_15 : decode cX10_part 15 = .ok (.i2l, 1) := by decide +kernel
theorem dX10_part_16 : decode cX10_part 16 = .ok (.lreturn, 1) := by decide +kernel
set_option maxRecDepth 20000 in
theorem ggX10_chance_X10_isIn : GoodIn wsX10_chance wsX10_isIn := goodIn_r _ [7] (by decide +kernel) (by decide +kernel)
set_option maxRecDepth 20000 in
theorem gX10_chance_X10_isIn : GoodIn wsX10_chance (va_wsS RX10 49 yX10_isIn wsX10_isIn) := goodIn_app (goodIn_of _ (by decide +kernel)) ggX10_chance_X10_isIn
set_option maxRecDepth 20000 in
theorem ggX10_chance_X10_counts : GoodIn wsX10_chance wsX10_counts := goodIn_r _ [11, 12, 139, 140, 141, 142, 143, 144, 145, 146, 147, 148, 149, 150, 151, 152, 153, 154, 155] (by decide +kernel) (by decide +kernel)
set_option maxRecDepth 20000 in
theorem gX10_chance_X10_counts : GoodIn wsX10_chance (wsV RX10 203 RX10 yX10_counts wsX10_counts) := goodIn_app (goodIn_of _ (by decide +kernel)) ggX10_chance_X10_counts
set_option maxRecDepth 20000 in
theorem ggX10_chance_X10_dayOf : GoodIn wsX10_chance wsX10_dayOf := goodIn_r _ [16, 2, 17, 18, 19, 6, 20, 21, 22, 23, 24, 25, 26, 27, 28, 29, 30, 31, 32, 33, 34, 35, 36, 37, 38, 39, 40, 41, 42, 43, 44, 45, 46, 47, 48, 49, 50, 51, 52, 53, 54, 55, 56, 57, 58, 59, 60, 61, 62, 63, 64, 65, 66, 67, 68, 69, 70, 71, 72, 73, 74, 75, 76, 77, 78, 79, 80, 81, 82, 83, 84, 85, 86, 87, 88, 89, 90, 91, 92, 93, 94, 95, 96, 97, 98, 99, 100, 101, 102, 103, 104, 105, 106, 107, 108, 109, 110, 111, 112, 113, 114, 115, 116, 117, 118, 119, 120, 121, 122, 123, 124, 125, 126, 127, 128, 129, 130, 131, 132, 139, 140, 141, 142, 143, 144, 145, 146, 147, 148, 149, 150, 151, 152, 153, 154, 155] (by decide +kernel) (by decide +kernel)
set_option maxRecDepth 20000 in
theorem gX10_chance_X10_dayOf : GoodIn wsX10_chance (wsV RX10 272 RX10 yX10_dayOf wsX10_dayOf) := goodIn_app (goodIn_of _ (by decide +kernel)) ggX10_chance_X10_dayOf
set_option maxRecDepth 20000 in
theorem ggX10_chance_X10_part : GoodIn wsX10_chance wsX10_part := goodIn_r _ [135, 136, 137, 6, 138] (by decide +kernel) (by decide +kernel)
set_option maxRecDepth 20000 in
theorem gX10_chance_X10_part : GoodIn wsX10_chance (va_wsS RX10 280 yX10_part wsX10_part) := goodIn_app (goodIn_of _ (by decide +kernel)) ggX10_chance_X10_part
theorem dX10_chance_0 : decode cX10_chance 0 = .ok (.iload_n 2, 1) := by decide +kernel
theorem dX10_chance_1 : decode cX10_chance 1 = .ok (.iconst 0, 1) := by decide +kernel
theorem dX10_chance_2 : decode cX10_chance 2 = .ok (.bipush 99, 2) := by decide +kernel
theorem dX10_chance_4 : decode cX10_chance 4 = .ok (.invokestatic 49, 3) := by decide +kernel
theorem dX10_chance_7 : decode cX10_chance 7 = .ok (.ifCond .eq 53, 3) := by decide +kernel
theorem dX10_chance_10 : decode cX10_chance 10 = .ok (.iload_n 3, 1) := by decide +kernel
theorem dX10_chance_11 : decode cX10_chance 11 = .ok (.iconst 1, 1) := by decide +kernel
theorem dX10_chance_12 : decode cX10_chance 12 = .ok (.iconst 4, 1) := by decide +kernel
theorem dX10_chance_13 : decode cX10_chance 13 = .ok (.invokestatic 49, 3) := by decide +kernel
theorem dX10_chance_16 : decode cX10_chance 16 = .ok (.ifCond .eq 44, 3) := by decide +kernel
theorem dX10_chance_19 : decode cX10_chance 19 = .ok (.iload 4, 2) := by decide +kernel
theorem dX10_chance_21 : decode cX10_chance 21 = .ok (.iconst 0, 1) := by decide +kernel
theorem dX10_chance_22 : decode cX10_chance 22 = .ok (.ldc_w 268, 3) := by decide +kernel
theorem dX10_chance_25 : decode cX10_chance 25 = .ok (.invokestatic 49, 3) := by decide +kernel
theorem dX10_chance_28 : decode cX10_chance 28 = .ok (.ifCond .eq 32, 3) := by decide +kernel
theorem dX10_chance_31 : decode cX10_chance 31 = .ok (.iload 5, 2) := by decide +kernel
theorem dX10_chance_33 : decode cX10_chance 33 = .ok (.iconst 0, 1) := by decide +kernel
theorem dX10_chance_34 : decode cX10_chance 34 = .ok (.iconst 1, 1) := by decide +kernel
theorem dX10_chance_35 : decode cX10_chance 35 = .ok (.invokestatic 49, 3) := by decide +kernel
theorem dX10_chance_38 : decode cX10_chance 38 = .ok (.ifCond .eq 22, 3) := by decide +kernel
theorem dX10_chance_41 : decode cX10_chance 41 = .ok (.aload_n 0, 1) := by decide +kernel
theorem dX10_chance_42 : decode cX10_chance 42 = .ok (.getfield 11, 3) := by decide +kernel
theorem dX10_chance_45 : decode cX10_chance 45 = .ok (.iconst 2, 1) := by decide +kernel
theorem dX10_chance_46 : decode cX10_chance 46 = .ok (.iaload, 1) := by decide +kernel
theorem dX10_chance_47 : decode cX10_chance 47 = .ok (.ifCond .eq 13, 3) := by decide +kernel
theorem dX10_chance_50 : decode cX10_chance 50 = .ok (.aload_n 0, 1) := by decide +kernel
theorem dX10_chance_51 : decode cX10_chance 51 = .ok (.iload_n 3, 1) := by decide +kernel
theorem dX10_chance_52 : decode cX10_chance 52 = .ok (.iload_n 2, 1) := by decide +kernel
theorem dX10_chance_53 : decode cX10_chance 53 = .ok (.imul, 1) := by decide +kernel
theorem dX10_chance_54 : decode cX10_chance 54 = .ok (.invokevirtual 203, 3) := by decide +kernel
theorem dX10_chance_57 : decode cX10_chance 57 = .ok (.ifCond .ne 7, 3) := by decide +kernel
theorem dX10_chance_60 : decode cX10_chance 60 = .ok (.ldc2_w 278, 3) := by decide +kernel
theorem dX10_chance_63 : decode cX10_chance 63 = .ok (.lreturn, 1) := by decide +kernel
theorem dX10_chance_64 : decode cX10_chance 64 = .ok (.iconst 0, 1) := by decide +kernel
theorem dX10_chance_65 : decode cX10_chance 65 = .ok (.istore 6, 2) := by decide +kernel
theorem dX10_chance_67 : decode cX10_chance 67 = .ok (.iconst 0, 1) := by decide +kernel
theorem dX10_chance_68 : decode cX10_chance 68 = .ok (.istore 7, 2) := by decide +kernel
theorem dX10_chance_70 : decode cX10_chance 70 = .ok (.iload 7, 2) := by decide +kernel
theorem dX10_chance_72 : decode cX10_chance 72 = .ok (.iload_n 3, 1) := by decide +kernel
theorem dX10_chance_73 : decode cX10_chance 73 = .ok (.if_icmp .ge 33, 3) := by decide +kernel
theorem dX10_chance_76 : decode cX10_chance 76 = .ok (.iload 6, 2) := by decide +kernel
theorem dX10_chance_78 : decode cX10_chance 78 = .ok (.aload_n 0, 1) := by decide +kernel
theorem dX10_chance_79 : decode cX10_chance 79 = .ok (.iload_n 1, 1) := by decide +kernel
theorem dX10_chance_80 : decode cX10_chance 80 = .ok (.iload 7, 2) := by decide +kernel
theorem dX10_chance_82 : decode cX10_chance 82 = .ok (.iadd, 1) := by decide +kernel
theorem dX10_chance_83 : decode cX10_chance 83 = .ok (.iload_n 2, 1) := by decide +kernel
theorem dX10_chance_84 : decode cX10_chance 84 = .ok (.invokevirtual 272, 3) := by decide +kernel
theorem dX10_chance_87 : decode cX10_chance 87 = .ok (.iload 4, 2) := by decide +kernel
theorem dX10_chance_89 : decode cX10_chance 89 = .ok (.if_icmp .gt 7, 3) := by decide +kernel
theorem dX10_chance_92 : decode cX10_chance 92 = .ok (.iconst 1, 1) := by decide +kernel
theorem dX10_chance_93 : decode cX10_chance 93 = .ok (.goto 4, 3) := by decide +kernel
theorem dX10_chance_96 : decode cX10_chance 96 = .ok (.iconst 0, 1) := by decide +kernel
theorem dX10_chance_97 : decode cX10_chance 97 = .ok (.iadd, 1) := by decide +kernel
theorem dX10_chance_98 : decode cX10_chance 98 = .ok (.istore 6, 2) := by decide +kernel
theorem dX10_chance_100 : decode cX10_chance 100 = .ok (.iinc 7 1, 3) := by decide +kernel
theorem dX10_chance_103 : decode cX10_chance 103 = .ok (.goto (-33), 3) := by decide +kernel
theorem dX10_chance_106 : decode cX10_chance 106 = .ok (.iload 6, 2) := by decide +kernel
theorem dX10_chance_108 : decode cX10_chance 108 = .ok (.iload_n 3, 1) := by decide +kernel
theorem dX10_chance_109 : decode cX10_chance 109 = .ok (.iload 5, 2) := by decide +kernel
theorem dX10_chance_111 : decode cX10_chance 111 = .ok (.invokestatic 280, 3) := by decide +kernel
theorem dX10_chance_114 : decode cX10_chance 114 = .ok (.lreturn, 1) := by decide +kernel
set_option maxRecDepth 20000 in
theorem ggX10_mean_X10_isIn : GoodIn wsX10_mean wsX10_isIn := goodIn_r _ [6] (by decide +kernel) (by decide +kernel)
set_option maxRecDepth 20000 in
theorem gX10_mean_X10_isIn : GoodIn wsX10_mean (va_wsS RX10 49 yX10_isIn wsX10_isIn) := goodIn_app (goodIn_of _ (by decide +kernel)) ggX10_mean_X10_isIn
set_option maxRecDepth 20000 in
theorem ggX10_mean_X10_part : GoodIn wsX10_mean wsX10_part := goodIn_r _ [9, 10, 11, 5, 12] (by decide +kernel) (by decide +kernel)
set_option maxRecDepth 20000 in
theorem gX10_mean_X10_part : GoodIn wsX10_mean (va_wsS RX10 280 yX10_part wsX10_part) := goodIn_app (goodIn_of _ (by decide +kernel)) ggX10_mean_X10_part
theorem dX10_mean_0 : decode cX10_mean 0 = .ok (.iload_n 1, 1) := by decide +kernel
theorem dX10_mean_1 : decode cX10_mean 1 = .ok (.iconst 0, 1) := by decide +kernel
theorem dX10_mean_2 : decode cX10_mean 2 = .ok (.iconst 1, 1) := by decide +kernel
theorem dX10_mean_3 : decode cX10_mean 3 = .ok (.invokestatic 49, 3) := by decide +kernel
theorem dX10_mean_6 : decode cX10_mean 6 = .ok (.ifCond .eq 34, 3) := by decide +kernel
theorem dX10_mean_9 : decode cX10_mean 9 = .ok (.aload_n 0, 1) := by decide +kernel
theorem dX10_mean_10 : decode cX10_mean 10 = .ok (.getfield 11, 3) := by decide +kernel
theorem dX10_mean_13 : decode cX10_mean 13 = .ok (.bipush 8, 2) := by decide +kernel
theorem dX10_mean_15 : decode cX10_mean 15 = .ok (.iaload, 1) := by decide +kernel
theorem dX10_mean_16 : decode cX10_mean 16 = .ok (.ifCond .le 24, 3) := by decide +kernel
theorem dX10_mean_19 : decode cX10_mean 19 = .ok (.aload_n 0, 1) := by decide +kernel
theorem dX10_mean_20 : decode cX10_mean 20 = .ok (.getfield 11, 3) := by decide +kernel
theorem dX10_mean_23 : decode cX10_mean 23 = .ok (.bipush 7, 2) := by decide +kernel
theorem dX10_mean_25 : decode cX10_mean 25 = .ok (.iaload, 1) := by decide +kernel
theorem dX10_mean_26 : decode cX10_mean 26 = .ok (.aload_n 0, 1) := by decide +kernel
theorem dX10_mean_27 : decode cX10_mean 27 = .ok (.getfield 11, 3) := by decide +kernel
theorem dX10_mean_30 : decode cX10_mean 30 = .ok (.bipush 8, 2) := by decide +kernel
theorem dX10_mean_32 : decode cX10_mean 32 = .ok (.iaload, 1) := by decide +kernel
theorem dX10_mean_33 : decode cX10_mean 33 = .ok (.iload_n 1, 1) := by decide +kernel
theorem dX10_mean_34 : decode cX10_mean 34 = .ok (.invokestatic 280, 3) := by decide +kernel
theorem dX10_mean_37 : decode cX10_mean 37 = .ok (.goto 6, 3) := by decide +kernel
theorem dX10_mean_40 : decode cX10_mean 40 = .ok (.ldc2_w 278, 3) := by decide +kernel
theorem dX10_mean_43 : decode cX10_mean 43 = .ok (.lreturn, 1) := by decide +kernel
set_option maxRecDepth 20000 in
theorem ggX10_plan_X10_isIn : GoodIn wsX10_plan wsX10_isIn := goodIn_r _ [5] (by decide +kernel) (by decide +kernel)
set_option maxRecDepth 20000 in
theorem gX10_plan_X10_isIn : GoodIn wsX10_plan (va_wsS RX10 49 yX10_isIn wsX10_isIn) := goodIn_app (goodIn_of _ (by decide +kernel)) ggX10_plan_X10_isIn
theorem dX10_plan_0 : decode cX10_plan 0 = .ok (.iload_n 1, 1) := by decide +kernel
theorem dX10_plan_1 : decode cX10_plan 1 = .ok (.iconst (-1), 1) := by decide +kernel
theorem dX10_plan_2 : decode cX10_plan 2 = .ok (.if_icmp .ne 13, 3) := by decide +kernel
theorem dX10_plan_5 : decode cX10_plan 5 = .ok (.aload_n 0, 1) := by decide +kernel
theorem dX10_plan_6 : decode cX10_plan 6 = .ok (.getfield 11, 3) := by decide +kernel
theorem dX10_plan_9 : decode cX10_plan 9 = .ok (.bipush 20, 2) := by decide +kernel
theorem dX10_plan_11 : decode cX10_plan 11 = .ok (.iconst 0, 1) := by decide +kernel
theorem dX10_plan_12 : decode cX10_plan 12 = .ok (.iastore, 1) := by decide +kernel
theorem dX10_plan_13 : decode cX10_plan 13 = .ok (.iconst 0, 1) := by decide +kernel
theorem dX10_plan_14 : decode cX10_plan 14 = .ok (.ireturn, 1) := by decide +kernel
theorem dX10_plan_15 : decode cX10_plan 15 = .ok (.iload_n 1, 1) := by decide +kernel
theorem dX10_plan_16 : decode cX10_plan 16 = .ok (.iconst 0, 1) := by decide +kernel
theorem dX10_plan_17 : decode cX10_plan 17 = .ok (.iconst 3, 1) := by decide +kernel
theorem dX10_plan_18 : decode cX10_plan 18 = .ok (.invokestatic 49, 3) := by decide +kernel
theorem dX10_plan_21 : decode cX10_plan 21 = .ok (.ifCond .ne 5, 3) := by decide +kernel
theorem dX10_plan_24 : decode cX10_plan 24 = .ok (.iconst (-1), 1) := by decide +kernel
theorem dX10_plan_25 : decode cX10_plan 25 = .ok (.ireturn, 1) := by decide +kernel
theorem dX10_plan_26 : decode cX10_plan 26 = .ok (.iload_n 1, 1) := by decide +kernel
theorem dX10_plan_27 : decode cX10_plan 27 = .ok (.ifCond .ne 13, 3) := by decide +kernel
theorem dX10_plan_30 : decode cX10_plan 30 = .ok (.iload_n 2, 1) := by decide +kernel
theorem dX10_plan_31 : decode cX10_plan 31 = .ok (.iconst 0, 1) := by decide +kernel
theorem dX10_plan_32 : decode cX10_plan 32 = .ok (.bipush 99, 2) := by decide +kernel
theorem dX10_plan_34 : decode cX10_plan 34 = .ok (.invokestatic 49, 3) := by decide +kernel
theorem dX10_plan_37 : decode cX10_plan 37 = .ok (.ifCond .eq 20, 3) := by decide +kernel
theorem dX10_plan_40 : decode cX10_plan 40 = .ok (.iload_n 1, 1) := by decide +kernel
theorem dX10_plan_41 : decode cX10_plan 41 = .ok (.iconst 2, 1) := by decide +kernel
theorem dX10_plan_42 : decode cX10_plan 42 = .ok (.irem, 1) := by decide +kernel
theorem dX10_plan_43 : decode cX10_plan 43 = .ok (.iconst 1, 1) := by decide +kernel
theorem dX10_plan_44 : decode cX10_plan 44 = .ok (.if_icmp .ne 16, 3) := by decide +kernel
theorem dX10_plan_47 : decode cX10_plan 47 = .ok (.iload_n 2, 1) := by decide +kernel
theorem dX10_plan_48 : decode cX10_plan 48 = .ok (.iconst 0, 1) := by decide +kernel
theorem dX10_plan_49 : decode cX10_plan 49 = .ok (.bipush 7, 2) := by decide +kernel
theorem dX10_plan_51 : decode cX10_plan 51 = .ok (.invokestatic 49, 3) := by decide +kernel
theorem dX10_plan_54 : decode cX10_plan 54 = .ok (.ifCond .ne 6, 3) := by decide +kernel
theorem dX10_plan_57 : decode cX10_plan 57 = .ok (.bipush (-2), 2) := by decide +kernel
theorem dX10_plan_59 : decode cX10_plan 59 = .ok (.ireturn, 1) := by decide +kernel
theorem dX10_plan_60 : decode cX10_plan 60 = .ok (.aload_n 0, 1) := by decide +kernel
theorem dX10_plan_61 : decode cX10_plan 61 = .ok (.getfield 11, 3) := by decide +kernel
theorem dX10_plan_64 : decode cX10_plan 64 = .ok (.bipush 20, 2) := by decide +kernel
theorem dX10_plan_66 : decode cX10_plan 66 = .ok (.iaload, 1) := by decide +kernel
theorem dX10_plan_67 : decode cX10_plan 67 = .ok (.bipush 8, 2) := by decide +kernel
theorem dX10_plan_69 : decode cX10_plan 69 = .ok (.if_icmp .ne 6, 3) := by decide +kernel
theorem dX10_plan_72 : decode cX10_plan 72 = .ok (.bipush (-4), 2) := by decide +kernel
theorem dX10_plan_74 : decode cX10_plan 74 = .ok (.ireturn, 1) := by decide +kernel
theorem dX10_plan_75 : decode cX10_plan 75 = .ok (.aload_n 0, 1) := by decide +kernel
theorem dX10_plan_76 : decode cX10_plan 76 = .ok (.getfield 11, 3) := by decide +kernel
theorem dX10_plan_79 : decode cX10_plan 79 = .ok (.sipush 355, 3) := by decide +kernel
theorem dX10_plan_82 : decode cX10_plan 82 = .ok (.iconst 2, 1) := by decide +kernel
theorem dX10_plan_83 : decode cX10_plan 83 = .ok (.aload_n 0, 1) := by decide +kernel
theorem dX10_plan_84 : decode cX10_plan 84 = .ok (.getfield 11, 3) := by decide +kernel
theorem dX10_plan_87 : decode cX10_plan 87 = .ok (.bipush 20, 2) := by decide +kernel
theorem dX10_plan_89 : decode cX10_plan 89 = .ok (.iaload, 1) := by decide +kernel
theorem dX10_plan_90 : decode cX10_plan 90 = .ok (.imul, 1) := by decide +kernel
theorem dX10_plan_91 : decode cX10_plan 91 = .ok (.iadd, 1) := by decide +kernel
theorem dX10_plan_92 : decode cX10_plan 92 = .ok (.iload_n 1, 1) := by decide +kernel
theorem dX10_plan_93 : decode cX10_plan 93 = .ok (.iastore, 1) := by decide +kernel
theorem dX10_plan_94 : decode cX10_plan 94 = .ok (.aload_n 0, 1) := by decide +kernel
theorem dX10_plan_95 : decode cX10_plan 95 = .ok (.getfield 11, 3) := by decide +kernel
theorem dX10_plan_98 : decode cX10_plan 98 = .ok (.sipush 355, 3) := by decide +kernel
theorem dX10_plan_101 : decode cX10_plan 101 = .ok (.iconst 2, 1) := by decide +kernel
theorem dX10_plan_102 : decode cX10_plan 102 = .ok (.aload_n 0, 1) := by decide +kernel
theorem dX10_plan_103 : decode cX10_plan 103 = .ok (.getfield 11, 3) := by decide +kernel
theorem dX10_plan_106 : decode cX10_plan 106 = .ok (.bipush 20, 2) := by decide +kernel
theorem dX10_plan_108 : decode cX10_plan 108 = .ok (.iaload, 1) := by decide +kernel
theorem dX10_plan_109 : decode cX10_plan 109 = .ok (.imul, 1) := by decide +kernel
theorem dX10_plan_110 : decode cX10_plan 110 = .ok (.iadd, 1) := by decide +kernel
theorem dX10_plan_111 : decode cX10_plan 111 = .ok (.iconst 1, 1) := by decide +kernel
theorem dX10_plan_112 : decode cX10_plan 112 = .ok (.iadd, 1) := by decide +kernel
theorem dX10_plan_113 : decode cX10_plan 113 = .ok (.iload_n 2, 1) := by decide +kernel
theorem dX10_plan_114 : decode cX10_plan 114 = .ok (.iastore, 1) := by decide +kernel
theorem dX10_plan_115 : decode cX10_plan 115 = .ok (.aload_n 0, 1) := by decide +kernel
theorem dX10_plan_116 : decode cX10_plan 116 = .ok (.getfield 11, 3) := by decide +kernel
theorem dX10_plan_119 : decode cX10_plan 119 = .ok (.bipush 20, 2) := by decide +kernel
theorem dX10_plan_121 : decode cX10_plan 121 = .ok (.dup2, 1) := by decide +kernel
theorem dX10_plan_122 : decode cX10_plan 122 = .ok (.iaload, 1) := by decide +kernel
theorem dX10_plan_123 : decode cX10_plan 123 = .ok (.iconst 1, 1) := by decide +kernel
theorem dX10_plan_124 : decode cX10_plan 124 = .ok (.iadd, 1) := by decide +kernel
theorem dX10_plan_125 : decode cX10_plan 125 = .ok (.iastore, 1) := by decide +kernel
theorem dX10_plan_126 : decode cX10_plan 126 = .ok (.aload_n 0, 1) := by decide +kernel
theorem dX10_plan_127 : decode cX10_plan 127 = .ok (.getfield 11, 3) := by decide +kernel
theorem dX10_plan_130 : decode cX10_plan 130 = .ok (.bipush 20, 2) := by decide +kernel
theorem dX10_plan_132 : decode cX10_plan 132 = .ok (.iaload, 1) := by decide +kernel
theorem dX10_plan_133 : decode cX10_plan 133 = .ok (.ireturn, 1) := by decide +kernel
set_option maxRecDepth 20000 in
theorem ggX10_does_X10_passes : GoodIn wsX10_does wsX10_passes := goodIn_r _ [5, 6, 7, 8, 4, 9, 10, 11, 12, 13, 14, 15, 16, 17, 18, 19, 20, 21, 22, 23, 24, 25, 26, 27, 28, 29, 30, 31, 32, 33, 34, 35, 36, 37, 38, 39, 40, 41, 42, 43, 44, 45, 46, 47, 48, 49, 50, 51, 52, 53, 54, 55, 56, 57, 58, 59, 60, 61, 62, 63, 64, 65, 66, 67, 68, 69, 70, 71, 72, 73, 74, 75, 76, 77, 78, 79, 80, 81, 82, 83, 84, 85, 86, 87, 88, 89, 90, 91, 92, 93, 94, 95, 96, 97, 98, 99, 100, 101, 102, 103, 104, 105, 106, 122, 123, 124, 125, 126, 127, 128, 129, 130, 131, 132, 133, 134, 135, 136, 137, 138] (by decide +kernel) (by decide +kernel)
set_option maxRecDepth 20000 in
theorem gX10_does_X10_passes : GoodIn wsX10_does (wsV RX10 206 RX10 yX10_passes wsX10_passes) := goodIn_app (goodIn_of _ (by decide +kernel)) ggX10_does_X10_passes
set_option maxRecDepth 20000 in
theorem ggX10_does_X10_emergency : GoodIn wsX10_does wsX10_emergency := goodIn_r _ [110, 10, 111, 112, 113, 4, 114, 115, 116, 117, 54, 55, 56, 57, 43, 44, 45, 46, 47, 48, 49, 122, 123, 124, 125, 126, 127, 128, 129, 130, 131, 132, 133, 134, 135, 136, 137, 138] (by decide +kernel) (by decide +kernel)
set_option maxRecDepth 20000 in
theorem gX10_does_X10_emergency : GoodIn wsX10_does (wsV RX10 284 RX10 yX10_emergency wsX10_emergency) := goodIn_app (goodIn_of _ (by decide +kernel)) ggX10_does_X10_emergency
set_option maxRecDepth 20000 in
theorem ggX10_does_X10_over : GoodIn wsX10_does wsX10_over := goodIn_r _ [121, 10, 122, 123, 124, 125, 126, 127, 128, 129, 130, 131, 132, 133, 134, 135, 136, 137, 138] (by decide +kernel) (by decide +kernel)
set_option maxRecDepth 20000 in
theorem gX10_does_X10_over : GoodIn wsX10_does (wsV RX10 287 RX10 yX10_over wsX10_over) := goodIn_app (goodIn_of _ (by decide +kernel)) ggX10_does_X10_over
set_option maxRecDepth 20000 in
theorem ggX10_does_X10_isSignal : GoodIn wsX10_does wsX10_isSignal := goodIn_r _ [114, 10, 115, 116, 4, 117, 122, 123, 124, 125, 126, 127, 128, 129, 130, 131, 132, 133, 134, 135, 136, 137, 138] (by decide +kernel) (by decide +kernel)
set_option maxRecDepth 20000 in
theorem gX10_does_X10_isSignal : GoodIn wsX10_does (wsV RX10 96 RX10 yX10_isSignal wsX10_isSignal) := goodIn_app (goodIn_of _ (by decide +kernel)) ggX10_does_X10_isSignal
set_option maxRecDepth 20000 in
theorem ggX10_does_X10_puts : GoodIn wsX10_does wsX10_puts := goodIn_r _ [38, 10, 122, 123, 124, 125, 126, 127, 128, 129, 130, 131, 132, 133, 134, 135, 136, 137, 138] (by decide +kernel) (by decide +kernel)
set_option maxRecDepth 20000 in
theorem gX10_does_X10_puts : GoodIn wsX10_does (wsV RX10 85 RX10 yX10_puts wsX10_puts) := goodIn_app (goodIn_of _ (by decide +kernel)) ggX10_does_X10_puts
theorem dX10_does_0 : decode cX10_does 0 = .ok (.iload_n 1, 1) := by decide +kernel
theorem dX10_does_1 : decode cX10_does 1 = .ok (.ifCond .ne 8, 3) := by decide +kernel
theorem dX10_does_4 : decode cX10_does 4 = .ok (.aload_n 0, 1) := by decide +kernel
theorem dX10_does_5 : decode cX10_does 5 = .ok (.iload_n 2, 1) := by decide +kernel
theorem dX10_does_6 : decode cX10_does 6 = .ok (.invokevirtual 206, 3) := by decide +kernel
theorem dX10_does_9 : decode cX10_does 9 = .ok (.iload_n 1, 1) := by decide +kernel
theorem dX10_does_10 : decode cX10_does 10 = .ok (.iconst 1, 1) := by decide +kernel
theorem dX10_does_11 : decode cX10_does 11 = .ok (.if_icmp .ne 9, 3) := by decide +kernel
theorem dX10_does_14 : decode cX10_does 14 = .ok (.aload_n 0, 1) := by decide +kernel
theorem dX10_does_15 : decode cX10_does 15 = .ok (.iload_n 2, 1) := by decide +kernel
theorem dX10_does_16 : decode cX10_does 16 = .ok (.invokevirtual 284, 3) := by decide +kernel
theorem dX10_does_19 : decode cX10_does 19 = .ok (.pop, 1) := by decide +kernel
theorem dX10_does_20 : decode cX10_does 20 = .ok (.iload_n 1, 1) := by decide +kernel
theorem dX10_does_21 : decode cX10_does 21 = .ok (.iconst 2, 1) := by decide +kernel
theorem dX10_does_22 : decode cX10_does 22 = .ok (.if_icmp .ne 8, 3) := by decide +kernel
theorem dX10_does_25 : decode cX10_does 25 = .ok (.aload_n 0, 1) := by decide +kernel
theorem dX10_does_26 : decode cX10_does 26 = .ok (.invokevirtual 287, 3) := by decide +kernel
theorem dX10_does_29 : decode cX10_does 29 = .ok (.pop, 1) := by decide +kernel
theorem dX10_does_30 : decode cX10_does 30 = .ok (.iload_n 1, 1) := by decide +kernel
theorem dX10_does_31 : decode cX10_does 31 = .ok (.iconst 3, 1) := by decide +kernel
theorem dX10_does_32 : decode cX10_does 32 = .ok (.if_icmp .ne 18, 3) := by decide +kernel
theorem dX10_does_35 : decode cX10_does 35 = .ok (.aload_n 0, 1) := by decide +kernel
theorem dX10_does_36 : decode cX10_does 36 = .ok (.iload_n 2, 1) := by decide +kernel
theorem dX10_does_37 : decode cX10_does 37 = .ok (.invokevirtual 96, 3) := by decide +kernel
theorem dX10_does_40 : decode cX10_does 40 = .ok (.ifCond .eq 10, 3) := by decide +kernel
theorem dX10_does_43 : decode cX10_does 43 = .ok (.aload_n 0, 1) := by decide +kernel
theorem dX10_does_44 : decode cX10_does 44 = .ok (.iload_n 2, 1) := by decide +kernel
theorem dX10_does_45 : decode cX10_does 45 = .ok (.iconst 5, 1) := by decide +kernel
theorem dX10_does_46 : decode cX10_does 46 = .ok (.iconst 0, 1) := by decide +kernel
theorem dX10_does_47 : decode cX10_does 47 = .ok (.invokevirtual 85, 3) := by decide +kernel
theorem dX10_does_50 : decode cX10_does 50 = .ok (.return_, 1) := by decide +kernel
set_option maxRecDepth 20000 in
theorem ggX10_ends__X10_isIn : GoodIn wsX10_ends_ wsX10_isIn := goodIn_r _ [5] (by decide +kernel) (by decide +kernel)
set_option maxRecDepth 20000 in
theorem gX10_ends__X10_isIn : GoodIn wsX10_ends_ (va_wsS RX10 49 yX10_isIn wsX10_isIn) := goodIn_app (goodIn_of _ (by decide +kernel)) ggX10_ends__X10_isIn
set_option maxRecDepth 20000 in
theorem ggX10_ends__X10_counts : GoodIn wsX10_ends_ wsX10_counts := goodIn_r _ [9, 10, 143, 144, 145, 146, 147, 148, 149, 150, 151, 152, 153, 154, 155, 156, 157, 158, 159] (by decide +kernel) (by decide +kernel)
set_option maxRecDepth 20000 in
theorem gX10_ends__X10_counts : GoodIn wsX10_ends_ (wsV RX10 203 RX10 yX10_counts wsX10_counts) := goodIn_app (goodIn_of _ (by decide +kernel)) ggX10_ends__X10_counts
set_option maxRecDepth 20000 in
theorem ggX10_ends__X10_thinks : GoodIn wsX10_ends_ wsX10_thinks := goodIn_r _ [14, 1, 15, 16, 17, 4, 18, 143, 144, 145, 146, 147, 148, 149, 150, 151, 152, 153, 154, 155, 156, 157, 158, 159] (by decide +kernel) (by decide +kernel)
set_option maxRecDepth 20000 in
theorem gX10_ends__X10_thinks : GoodIn wsX10_ends_ (wsV RX10 256 RX10 yX10_thinks wsX10_thinks) := goodIn_app (goodIn_of _ (by decide +kernel)) ggX10_ends__X10_thinks
set_option maxRecDepth 20000 in
theorem ggX10_ends__X10_does : GoodIn wsX10_ends_ wsX10_does := goodIn_r _ [22, 23, 24, 25, 4, 26, 27, 28, 29, 30, 1, 31, 32, 33, 34, 35, 36, 37, 38, 39, 40, 41, 42, 43, 44, 45, 46, 47, 48, 49, 50, 51, 52, 53, 54, 55, 56, 57, 58, 59, 60, 61, 62, 63, 64, 65, 66, 67, 68, 69, 70, 71, 72, 73, 74, 75, 76, 77, 78, 79, 80, 81, 82, 83, 84, 85, 86, 87, 88, 89, 90, 91, 92, 93, 94, 95, 96, 97, 98, 99, 100, 101, 102, 103, 104, 105, 106, 107, 108, 109, 110, 111, 112, 113, 114, 115, 116, 117, 118, 119, 120, 121, 122, 123, 124, 125, 126, 127, 128, 129, 130, 131, 132, 133, 134, 2, 3, 5, 135, 136, 137, 138, 143, 144, 145, 146, 147, 148, 149, 150, 151, 152, 153, 154, 155, 156, 157, 158, 159] (by decide +kernel) (by decide +kernel)
set_option maxRecDepth 20000 in
theorem gX10_ends__X10_does : GoodIn wsX10_ends_ (wsV RX10 290 RX10 yX10_does wsX10_does) := goodIn_app (goodIn_of _ (by decide +kernel)) ggX10_ends__X10_does
set_option maxRecDepth 20000 in
theorem ggX10_ends__X10_forgets : GoodIn wsX10_ends_ wsX10_forgets := goodIn_r _ [142, 15, 1, 16, 17, 4, 18, 143, 144, 145, 146, 147, 148, 149, 150, 151, 152, 153, 154, 155, 156, 157, 158, 159] (by decide +kernel) (by decide +kernel)
set_option maxRecDepth 20000 in
theorem gX10_ends__X10_forgets : GoodIn wsX10_ends_ (wsV RX10 262 RX10 yX10_forgets wsX10_forgets) := goodIn_app (goodIn_of _ (by decide +kernel)) ggX10_ends__X10_forgets
theorem dX10_ends__0 : decode cX10_ends_ 0 = .ok (.iload_n 1, 1) := by decide +kernel
theorem dX10_ends__1 : decode cX10_ends_ 1 = .ok (.iconst 0, 1) := by decide +kernel
theorem dX10_ends__2 : decode cX10_ends_ 2 = .ok (.iconst 1, 1) := by decide +kernel
theorem dX10_ends__3 : decode cX10_ends_ 3 = .ok (.invokestatic 49, 3) := by decide +kernel
theorem dX10_ends__6 : decode cX10_ends_ 6 = .ok (.ifCond .ne 5, 3) := by decide +kernel
theorem dX10_ends__9 : decode cX10_ends_ 9 = .ok (.iconst (-1), 1) := by decide +kernel
theorem dX10_ends__10 : decode cX10_ends_ 10 = .ok (.ireturn, 1) := by decide +kernel
theorem dX10_ends__11 : decode cX10_ends_ 11 = .ok (.aload_n 0, 1) := by decide +kernel
theorem dX10_ends__12 : decode cX10_ends_ 12 = .ok (.getfield 11, 3) := by decide +kernel
theorem dX10_ends__15 : decode cX10_ends_ 15 = .ok (.iconst 2, 1) := by decide +kernel
theorem dX10_ends__16 : decode cX10_ends_ 16 = .ok (.iaload, 1) := by decide +kernel
theorem dX10_ends__17 : decode cX10_ends_ 17 = .ok (.ifCond .ne 6, 3) := by decide +kernel
theorem dX10_ends__20 : decode cX10_ends_ 20 = .ok (.bipush (-3), 2) := by decide +kernel
theorem dX10_ends__22 : decode cX10_ends_ 22 = .ok (.ireturn, 1) := by decide +kernel
theorem dX10_ends__23 : decode cX10_ends_ 23 = .ok (.iconst 0, 1) := by decide +kernel
theorem dX10_ends__24 : decode cX10_ends_ 24 = .ok (.istore_n 2, 1) := by decide +kernel
theorem dX10_ends__25 : decode cX10_ends_ 25 = .ok (.iconst 0, 1) := by decide +kernel
theorem dX10_ends__26 : decode cX10_ends_ 26 = .ok (.istore_n 3, 1) := by decide +kernel
theorem dX10_ends__27 : decode cX10_ends_ 27 = .ok (.iload_n 3, 1) := by decide +kernel
theorem dX10_ends__28 : decode cX10_ends_ 28 = .ok (.aload_n 0, 1) := by decide +kernel
theorem dX10_ends__29 : decode cX10_ends_ 29 = .ok (.getfield 11, 3) := by decide +kernel
theorem dX10_ends__32 : decode cX10_ends_ 32 = .ok (.bipush 20, 2) := by decide +kernel
theorem dX10_ends__34 : decode cX10_ends_ 34 = .ok (.iaload, 1) := by decide +kernel
theorem dX10_ends__35 : decode cX10_ends_ 35 = .ok (.if_icmp .ge 45, 3) := by decide +kernel
theorem dX10_ends__38 : decode cX10_ends_ 38 = .ok (.iload_n 2, 1) := by decide +kernel
theorem dX10_ends__39 : decode cX10_ends_ 39 = .ok (.aload_n 0, 1) := by decide +kernel
theorem dX10_ends__40 : decode cX10_ends_ 40 = .ok (.getfield 11, 3) := by decide +kernel
theorem dX10_ends__43 : decode cX10_ends_ 43 = .ok (.sipush 355, 3) := by decide +kernel
theorem dX10_ends__46 : decode cX10_ends_ 46 = .ok (.iconst 2, 1) := by decide +kernel
theorem dX10_ends__47 : decode cX10_ends_ 47 = .ok (.iload_n 3, 1) := by decide +kernel
theorem dX10_ends__48 : decode cX10_ends_ 48 = .ok (.imul, 1) := by decide +kernel
theorem dX10_ends__49 : decode cX10_ends_ 49 = .ok (.iadd, 1) := by decide +kernel
theorem dX10_ends__50 : decode cX10_ends_ 50 = .ok (.iaload, 1) := by decide +kernel
theorem dX10_ends__51 : decode cX10_ends_ 51 = .ok (.ifCond .ne 20, 3) := by decide +kernel
theorem dX10_ends__54 : decode cX10_ends_ 54 = .ok (.aload_n 0, 1) := by decide +kernel
theorem dX10_ends__55 : decode cX10_ends_ 55 = .ok (.getfield 11, 3) := by decide +kernel
theorem dX10_ends__58 : decode cX10_ends_ 58 = .ok (.sipush 355, 3) := by decide +kernel
theorem dX10_ends__61 : decode cX10_ends_ 61 = .ok (.iconst 2, 1) := by decide +kernel
theorem dX10_ends__62 : decode cX10_ends_ 62 = .ok (.iload_n 3, 1) := by decide +kernel
theorem dX10_ends__63 : decode cX10_ends_ 63 = .ok (.imul, 1) := by decide +kernel
theorem dX10_ends__64 : decode cX10_ends_ 64 = .ok (.iadd, 1) := by decide +kernel
theorem dX10_ends__65 : decode cX10_ends_ 65 = .ok (.iconst 1, 1) := by decide +kernel
theorem dX10_ends__66 : decode cX10_ends_ 66 = .ok (.iadd, 1) := by decide +kernel
theorem dX10_ends__67 : decode cX10_ends_ 67 = .ok (.iaload, 1) := by decide +kernel
theorem dX10_ends__68 : decode cX10_ends_ 68 = .ok (.goto 4, 3) := by decide +kernel
theorem dX10_ends__71 : decode cX10_ends_ 71 = .ok (.iconst 0, 1) := by decide +kernel
theorem dX10_ends__72 : decode cX10_ends_ 72 = .ok (.iadd, 1) := by decide +kernel
theorem dX10_ends__73 : decode cX10_ends_ 73 = .ok (.istore_n 2, 1) := by decide +kernel
theorem dX10_ends__74 : decode cX10_ends_ 74 = .ok (.iinc 3 1, 3) := by decide +kernel
theorem dX10_ends__77 : decode cX10_ends_ 77 = .ok (.goto (-50), 3) := by decide +kernel
theorem dX10_ends__80 : decode cX10_ends_ 80 = .ok (.aload_n 0, 1) := by decide +kernel
theorem dX10_ends__81 : decode cX10_ends_ 81 = .ok (.iload_n 2, 1) := by decide +kernel
theorem dX10_ends__82 : decode cX10_ends_ 82 = .ok (.invokevirtual 203, 3) := by decide +kernel
theorem dX10_ends__85 : decode cX10_ends_ 85 = .ok (.ifCond .ne 6, 3) := by decide +kernel
theorem dX10_ends__88 : decode cX10_ends_ 88 = .ok (.bipush (-4), 2) := by decide +kernel
theorem dX10_ends__90 : decode cX10_ends_ 90 = .ok (.ireturn, 1) := by decide +kernel
theorem dX10_ends__91 : decode cX10_ends_ 91 = .ok (.aload_n 0, 1) := by decide +kernel
theorem dX10_ends__92 : decode cX10_ends_ 92 = .ok (.invokevirtual 256, 3) := by decide +kernel
theorem dX10_ends__95 : decode cX10_ends_ 95 = .ok (.iconst 0, 1) := by decide +kernel
theorem dX10_ends__96 : decode cX10_ends_ 96 = .ok (.istore_n 3, 1) := by decide +kernel
theorem dX10_ends__97 : decode cX10_ends_ 97 = .ok (.iload_n 3, 1) := by decide +kernel
theorem dX10_ends__98 : decode cX10_ends_ 98 = .ok (.aload_n 0, 1) := by decide +kernel
theorem dX10_ends__99 : decode cX10_ends_ 99 = .ok (.getfield 11, 3) := by decide +kernel
theorem dX10_ends__102 : decode cX10_ends_ 102 = .ok (.bipush 20, 2) := by decide +kernel
theorem dX10_ends__104 : decode cX10_ends_ 104 = .ok (.iaload, 1) := by decide +kernel
theorem dX10_ends__105 : decode cX10_ends_ 105 = .ok (.if_icmp .ge 39, 3) := by decide +kernel
theorem dX10_ends__108 : decode cX10_ends_ 108 = .ok (.aload_n 0, 1) := by decide +kernel
theorem dX10_ends__109 : decode cX10_ends_ 109 = .ok (.aload_n 0, 1) := by decide +kernel
theorem dX10_ends__110 : decode cX10_ends_ 110 = .ok (.getfield 11, 3) := by decide +kernel
theorem dX10_ends__113 : decode cX10_ends_ 113 = .ok (.sipush 355, 3) := by decide +kernel
theorem dX10_ends__116 : decode cX10_ends_ 116 = .ok (.iconst 2, 1) := by decide +kernel
theorem dX10_ends__117 : decode cX10_ends_ 117 = .ok (.iload_n 3, 1) := by decide +kernel
theorem dX10_ends__118 : decode cX10_ends_ 118 = .ok (.imul, 1) := by decide +kernel
theorem dX10_ends__119 : decode cX10_ends_ 119 = .ok (.iadd, 1) := by decide +kernel
theorem dX10_ends__120 : decode cX10_ends_ 120 = .ok (.iaload, 1) := by decide +kernel
theorem dX10_ends__121 : decode cX10_ends_ 121 = .ok (.aload_n 0, 1) := by decide +kernel
theorem dX10_ends__122 : decode cX10_ends_ 122 = .ok (.getfield 11, 3) := by decide +kernel
theorem dX10_ends__125 : decode cX10_ends_ 125 = .ok (.sipush 355, 3) := by decide +kernel
theorem dX10_ends__128 : decode cX10_ends_ 128 = .ok (.iconst 2, 1) := by decide +kernel
theorem dX10_ends__129 : decode cX10_ends_ 129 = .ok (.iload_n 3, 1) := by decide +kernel
theorem dX10_ends__130 : decode cX10_ends_ 130 = .ok (.imul, 1) := by decide +kernel
theorem dX10_ends__131 : decode cX10_ends_ 131 = .ok (.iadd, 1) := by decide +kernel
theorem dX10_ends__132 : decode cX10_ends_ 132 = .ok (.iconst 1, 1) := by decide +kernel
theorem dX10_ends__133 : decode cX10_ends_ 133 = .ok (.iadd, 1) := by decide +kernel
theorem dX10_ends__134 : decode cX10_ends_ 134 = .ok (.iaload, 1) := by decide +kernel
theorem dX10_ends__135 : decode cX10_ends_ 135 = .ok (.invokevirtual 290, 3) := by decide +kernel
theorem dX10_ends__138 : decode cX10_ends_ 138 = .ok (.iinc 3 1, 3) := by decide +kernel
theorem dX10_ends__141 : decode cX10_ends_ 141 = .ok (.goto (-44), 3) := by decide +kernel
theorem dX10_ends__144 : decode cX10_ends_ 144 = .ok (.aload_n 0, 1) := by decide +kernel
theorem dX10_ends__145 : decode cX10_ends_ 145 = .ok (.getfield 11, 3) := by decide +kernel
theorem dX10_ends__148 : decode cX10_ends_ 148 = .ok (.iload_n 1, 1) := by decide +kernel
theorem dX10_ends__149 : decode cX10_ends_ 149 = .ok (.ifCond .ne 8, 3) := by decide +kernel
theorem dX10_ends__152 : decode cX10_ends_ 152 = .ok (.bipush 7, 2) := by decide +kernel
theorem dX10_ends__154 : decode cX10_ends_ 154 = .ok (.goto 5, 3) := by decide +kernel
theorem dX10_ends__157 : decode cX10_ends_ 157 = .ok (.bipush 8, 2) := by decide +kernel
theorem dX10_ends__159 : decode cX10_ends_ 159 = .ok (.iaload, 1) := by decide +kernel
theorem dX10_ends__160 : decode cX10_ends_ 160 = .ok (.istore_n 3, 1) := by decide +kernel
theorem dX10_ends__161 : decode cX10_ends_ 161 = .ok (.aload_n 0, 1) := by decide +kernel
theorem dX10_ends__162 : decode cX10_ends_ 162 = .ok (.invokevirtual 262, 3) := by decide +kernel
theorem dX10_ends__165 : decode cX10_ends_ 165 = .ok (.iload_n 3, 1) := by decide +kernel
theorem dX10_ends__166 : decode cX10_ends_ 166 = .ok (.ireturn, 1) := by decide +kernel
set_option maxRecDepth 20000 in
theorem ggX10_isTape_X10_isIn : GoodIn wsX10_isTape wsX10_isIn := goodIn_r _ [4] (by decide +kernel) (by decide +kernel)
set_option maxRecDepth 20000 in
theorem gX10_isTape_X10_isIn : GoodIn wsX10_isTape (va_wsS RX10 49 yX10_isIn wsX10_isIn) := goodIn_app (goodIn_of _ (by decide +kernel)) ggX10_isTape_X10_isIn
theorem dX10_isTape_0 : decode cX10_isTape 0 = .ok (.iload_n 0, 1) := by decide +kernel
theorem dX10_isTape_1 : decode cX10_isTape 1 = .ok (.iconst 0, 1) := by decide +kernel
theorem dX10_isTape_2 : decode cX10_isTape 2 = .ok (.iconst 5, 1) := by decide +kernel
theorem dX10_isTape_3 : decode cX10_isTape 3 = .ok (.invokestatic 49, 3) := by decide +kernel
theorem dX10_isTape_6 : decode cX10_isTape 6 = .ok (.ireturn, 1) := by decide +kernel
set_option maxRecDepth 20000 in
theorem ggX10_judge_X10_isTape : GoodIn wsX10_judge wsX10_isTape := goodIn_r _ [8, 9, 10, 7, 11] (by decide +kernel) (by decide +kernel)
set_option maxRecDepth 20000 in
theorem gX10_judge_X10_isTape : GoodIn wsX10_judge (va_wsS RX10 293 yX10_isTape wsX10_isTape) := goodIn_app (goodIn_of _ (by decide +kernel)) ggX10_judge_X10_isTape
set_option maxRecDepth 20000 in
theorem ggX10_judge_X10_isIn : GoodIn wsX10_judge wsX10_isIn := goodIn_r _ [11] (by decide +kernel) (by decide +kernel)
set_option maxRecDepth 20000 in
theorem gX10_judge_X10_isIn : GoodIn wsX10_judge (va_wsS RX10 49 yX10_isIn wsX10_isIn) := goodIn_app (goodIn_of _ (by decide +kernel)) ggX10_judge_X10_isIn
set_option maxRecDepth 20000 in
theorem ggX10_judge_X10_light : GoodIn wsX10_judge wsX10_light := goodIn_r _ [15, 2, 16, 17, 18, 7, 19, 20, 21, 22, 23, 24, 25, 26, 27, 28, 29, 30, 31, 32, 33, 34, 35, 36, 37, 38, 39, 40, 41] (by decide +kernel) (by decide +kernel)
set_option maxRecDepth 20000 in
theorem gX10_judge_X10_light : GoodIn wsX10_judge (wsV RX10 209 RX10 yX10_light wsX10_light) := goodIn_app (goodIn_of _ (by decide +kernel)) ggX10_judge_X10_light
theorem dX10_judge_0 : decode cX10_judge 0 = .ok (.iload_n 1, 1) := by decide +kernel
theorem dX10_judge_1 : decode cX10_judge 1 = .ok (.invokestatic 293, 3) := by decide +kernel
theorem dX10_judge_4 : decode cX10_judge 4 = .ok (.ifCond .ne 5, 3) := by decide +kernel
theorem dX10_judge_7 : decode cX10_judge 7 = .ok (.iconst (-1), 1) := by decide +kernel
theorem dX10_judge_8 : decode cX10_judge 8 = .ok (.ireturn, 1) := by decide +kernel
theorem dX10_judge_9 : decode cX10_judge 9 = .ok (.aload_n 0, 1) := by decide +kernel
theorem dX10_judge_10 : decode cX10_judge 10 = .ok (.getfield 33, 3) := by decide +kernel
theorem dX10_judge_13 : decode cX10_judge 13 = .ok (.iload_n 1, 1) := by decide +kernel
theorem dX10_judge_14 : decode cX10_judge 14 = .ok (.iaload, 1) := by decide +kernel
theorem dX10_judge_15 : decode cX10_judge 15 = .ok (.ifCond .le 6, 3) := by decide +kernel
theorem dX10_judge_18 : decode cX10_judge 18 = .ok (.bipush (-12), 2) := by decide +kernel
theorem dX10_judge_20 : decode cX10_judge 20 = .ok (.ireturn, 1) := by decide +kernel
theorem dX10_judge_21 : decode cX10_judge 21 = .ok (.iconst 0, 1) := by decide +kernel
theorem dX10_judge_22 : decode cX10_judge 22 = .ok (.istore_n 3, 1) := by decide +kernel
theorem dX10_judge_23 : decode cX10_judge 23 = .ok (.iload_n 3, 1) := by decide +kernel
theorem dX10_judge_24 : decode cX10_judge 24 = .ok (.aload_n 0, 1) := by decide +kernel
theorem dX10_judge_25 : decode cX10_judge 25 = .ok (.getfield 11, 3) := by decide +kernel
theorem dX10_judge_28 : decode cX10_judge 28 = .ok (.bipush 13, 2) := by decide +kernel
theorem dX10_judge_30 : decode cX10_judge 30 = .ok (.iaload, 1) := by decide +kernel
theorem dX10_judge_31 : decode cX10_judge 31 = .ok (.if_icmp .ge 66, 3) := by decide +kernel
theorem dX10_judge_34 : decode cX10_judge 34 = .ok (.aload_n 0, 1) := by decide +kernel
theorem dX10_judge_35 : decode cX10_judge 35 = .ok (.getfield 33, 3) := by decide +kernel
theorem dX10_judge_38 : decode cX10_judge 38 = .ok (.iload_n 1, 1) := by decide +kernel
theorem dX10_judge_39 : decode cX10_judge 39 = .ok (.iaload, 1) := by decide +kernel
theorem dX10_judge_40 : decode cX10_judge 40 = .ok (.ifCond .lt 21, 3) := by decide +kernel
theorem dX10_judge_43 : decode cX10_judge 43 = .ok (.iload_n 2, 1) := by decide +kernel
theorem dX10_judge_44 : decode cX10_judge 44 = .ok (.iconst 0, 1) := by decide +kernel
theorem dX10_judge_45 : decode cX10_judge 45 = .ok (.aload_n 0, 1) := by decide +kernel
theorem dX10_judge_46 : decode cX10_judge 46 = .ok (.getfield 36, 3) := by decide +kernel
theorem dX10_judge_49 : decode cX10_judge 49 = .ok (.iload_n 1, 1) := by decide +kernel
theorem dX10_judge_50 : decode cX10_judge 50 = .ok (.iaload, 1) := by decide +kernel
theorem dX10_judge_51 : decode cX10_judge 51 = .ok (.iconst 1, 1) := by decide +kernel
theorem dX10_judge_52 : decode cX10_judge 52 = .ok (.isub, 1) := by decide +kernel
theorem dX10_judge_53 : decode cX10_judge 53 = .ok (.iload_n 3, 1) := by decide +kernel
theorem dX10_judge_54 : decode cX10_judge 54 = .ok (.isub, 1) := by decide +kernel
theorem dX10_judge_55 : decode cX10_judge 55 = .ok (.invokestatic 49, 3) := by decide +kernel
theorem dX10_judge_58 : decode cX10_judge 58 = .ok (.ifCond .ne 8, 3) := by decide +kernel
theorem dX10_judge_61 : decode cX10_judge 61 = .ok (.bipush 100, 2) := by decide +kernel
theorem dX10_judge_63 : decode cX10_judge 63 = .ok (.iload_n 3, 1) := by decide +kernel
theorem dX10_judge_64 : decode cX10_judge 64 = .ok (.iadd, 1) := by decide +kernel
theorem dX10_judge_65 : decode cX10_judge 65 = .ok (.ireturn, 1) := by decide +kernel
theorem dX10_judge_66 : decode cX10_judge 66 = .ok (.aload_n 0, 1) := by decide +kernel
theorem dX10_judge_67 : decode cX10_judge 67 = .ok (.getfield 39, 3) := by decide +kernel
theorem dX10_judge_70 : decode cX10_judge 70 = .ok (.bipush 60, 2) := by decide +kernel
theorem dX10_judge_72 : decode cX10_judge 72 = .ok (.iload_n 1, 1) := by decide +kernel
theorem dX10_judge_73 : decode cX10_judge 73 = .ok (.imul, 1) := by decide +kernel
theorem dX10_judge_74 : decode cX10_judge 74 = .ok (.iload_n 2, 1) := by decide +kernel
theorem dX10_judge_75 : decode cX10_judge 75 = .ok (.iadd, 1) := by decide +kernel
theorem dX10_judge_76 : decode cX10_judge 76 = .ok (.iload_n 3, 1) := by decide +kernel
theorem dX10_judge_77 : decode cX10_judge 77 = .ok (.iadd, 1) := by decide +kernel
theorem dX10_judge_78 : decode cX10_judge 78 = .ok (.laload, 1) := by decide +kernel
theorem dX10_judge_79 : decode cX10_judge 79 = .ok (.aload_n 0, 1) := by decide +kernel
theorem dX10_judge_80 : decode cX10_judge 80 = .ok (.iload_n 3, 1) := by decide +kernel
theorem dX10_judge_81 : decode cX10_judge 81 = .ok (.invokevirtual 209, 3) := by decide +kernel
theorem dX10_judge_84 : decode cX10_judge 84 = .ok (.i2l, 1) := by decide +kernel
theorem dX10_judge_85 : decode cX10_judge 85 = .ok (.lcmp, 1) := by decide +kernel
theorem dX10_judge_86 : decode cX10_judge 86 = .ok (.ifCond .eq 5, 3) := by decide +kernel
theorem dX10_judge_89 : decode cX10_judge 89 = .ok (.iload_n 3, 1) := by decide +kernel
theorem dX10_judge_90 : decode cX10_judge 90 = .ok (.ireturn, 1) := by decide +kernel
theorem dX10_judge_91 : decode cX10_judge 91 = .ok (.iinc 3 1, 3) := by decide +kernel
theorem dX10_judge_94 : decode cX10_judge 94 = .ok (.goto (-71), 3) := by decide +kernel
theorem dX10_judge_97 : decode cX10_judge 97 = .ok (.bipush (-5), 2) := by decide +kernel
theorem dX10_judge_99 : decode cX10_judge 99 = .ok (.ireturn, 1) := by decide +kernel
set_option maxRecDepth 20000 in
theorem ggX10_image_X10_copies : GoodIn wsX10_image wsX10_copies := goodIn_r _ [7] (by decide +kernel) (by decide +kernel)
set_option maxRecDepth 20000 in
theorem gX10_image_X10_copies : GoodIn wsX10_image (va_wsS RX10 252 yX10_copies wsX10_copies) := goodIn_app (goodIn_of _ (by decide +kernel)) ggX10_image_X10_copies
theorem dX10_image_0 : decode cX10_image 0 = .ok (.aload_n 0, 1) := by decide +kernel
theorem dX10_image_1 : decode cX10_image 1 = .ok (.getfield 11, 3) := by decide +kernel
theorem dX10_image_4 : decode cX10_image 4 = .ok (.aload_n 0, 1) := by decide +kernel
theorem dX10_image_5 : decode cX10_image 5 = .ok (.getfield 15, 3) := by decide +kernel
theorem dX10_image_8 : decode cX10_image 8 = .ok (.invokestatic 252, 3) := by decide +kernel
theorem dX10_image_11 : decode cX10_image 11 = .ok (.aload_n 0, 1) := by decide +kernel
theorem dX10_image_12 : decode cX10_image 12 = .ok (.iconst 1, 1) := by decide +kernel
theorem dX10_image_13 : decode cX10_image 13 = .ok (.putfield 296, 3) := by decide +kernel
theorem dX10_image_16 : decode cX10_image 16 = .ok (.aload_n 0, 1) := by decide +kernel
theorem dX10_image_17 : decode cX10_image 17 = .ok (.getfield 11, 3) := by decide +kernel
theorem dX10_image_20 : decode cX10_image 20 = .ok (.iconst 3, 1) := by decide +kernel
theorem dX10_image_21 : decode cX10_image 21 = .ok (.iaload, 1) := by decide +kernel
theorem dX10_image_22 : decode cX10_image 22 = .ok (.ireturn, 1) := by decide +kernel
set_option maxRecDepth 20000 in
theorem ggX10_undo_X10_copies : GoodIn wsX10_undo wsX10_copies := goodIn_r _ [7] (by decide +kernel) (by decide +kernel)
set_option maxRecDepth 20000 in
theorem gX10_undo_X10_copies : GoodIn wsX10_undo (va_wsS RX10 252 yX10_copies wsX10_copies) := goodIn_app (goodIn_of _ (by decide +kernel)) ggX10_undo_X10_copies
set_option maxRecDepth 20000 in
theorem ggX10_undo_X10_clears_ : GoodIn wsX10_undo wsX10_clears_ := goodIn_r _ [11, 12, 13, 14, 6, 15, 16, 17, 18, 19, 20, 21, 3, 22, 23, 24, 25, 26, 27, 28, 29, 30, 31, 32, 33, 34, 35, 36, 37, 38, 39, 40, 41, 42, 43, 44, 45, 46, 47, 48, 49, 50, 51, 52, 53, 54, 55, 56] (by decide +kernel) (by decide +kernel)
set_option maxRecDepth 20000 in
theorem gX10_undo_X10_clears_ : GoodIn wsX10_undo (wsV RX10 46 RX10 yX10_clears_ wsX10_clears_) := goodIn_app (goodIn_of _ (by decide +kernel)) ggX10_undo_X10_clears_
theorem dX10_undo_0 : decode cX10_undo 0 = .ok (.aload_n 0, 1) := by decide +kernel
theorem dX10_undo_1 : decode cX10_undo 1 = .ok (.getfield 296, 3) := by decide +kernel
theorem dX10_undo_4 : decode cX10_undo 4 = .ok (.ifCond .ne 6, 3) := by decide +kernel
theorem dX10_undo_7 : decode cX10_undo 7 = .ok (.bipush (-3), 2) := by decide +kernel
theorem dX10_undo_9 : decode cX10_undo 9 = .ok (.ireturn, 1) := by decide +kernel
theorem dX10_undo_10 : decode cX10_undo 10 = .ok (.aload_n 0, 1) := by decide +kernel
theorem dX10_undo_11 : decode cX10_undo 11 = .ok (.getfield 15, 3) := by decide +kernel
theorem dX10_undo_14 : decode cX10_undo 14 = .ok (.aload_n 0, 1) := by decide +kernel
theorem dX10_undo_15 : decode cX10_undo 15 = .ok (.getfield 11, 3) := by decide +kernel
theorem dX10_undo_18 : decode cX10_undo 18 = .ok (.invokestatic 252, 3) := by decide +kernel
theorem dX10_undo_21 : decode cX10_undo 21 = .ok (.aload_n 0, 1) := by decide +kernel
theorem dX10_undo_22 : decode cX10_undo 22 = .ok (.invokevirtual 46, 3) := by decide +kernel
theorem dX10_undo_25 : decode cX10_undo 25 = .ok (.aload_n 0, 1) := by decide +kernel
theorem dX10_undo_26 : decode cX10_undo 26 = .ok (.getfield 11, 3) := by decide +kernel
theorem dX10_undo_29 : decode cX10_undo 29 = .ok (.iconst 3, 1) := by decide +kernel
theorem dX10_undo_30 : decode cX10_undo 30 = .ok (.iaload, 1) := by decide +kernel
theorem dX10_undo_31 : decode cX10_undo 31 = .ok (.ireturn, 1) := by decide +kernel
theorem dX10_count_0 : decode cX10_count 0 = .ok (.iload_n 1, 1) := by decide +kernel
theorem dX10_count_1 : decode cX10_count 1 = .ok (.tableswitch 105 0 7 #[47, 52, 60, 68, 76, 84, 89, 97], 47) := by decide +kernel
theorem dX10_count_48 : decode cX10_count 48 = .ok (.aload_n 0, 1) := by decide +kernel
theorem dX10_count_49 : decode cX10_count 49 = .ok (.getfield 103, 3) := by decide +kernel
theorem dX10_count_52 : decode cX10_count 52 = .ok (.ireturn, 1) := by decide +kernel
theorem dX10_count_53 : decode cX10_count 53 = .ok (.aload_n 0, 1) := by decide +kernel
theorem dX10_count_54 : decode cX10_count 54 = .ok (.getfield 11, 3) := by decide +kernel
theorem dX10_count_57 : decode cX10_count 57 = .ok (.bipush 19, 2) := by decide +kernel
theorem dX10_count_59 : decode cX10_count 59 = .ok (.iaload, 1) := by decide +kernel
theorem dX10_count_60 : decode cX10_count 60 = .ok (.ireturn, 1) := by decide +kernel
theorem dX10_count_61 : decode cX10_count 61 = .ok (.aload_n 0, 1) := by decide +kernel
theorem dX10_count_62 : decode cX10_count 62 = .ok (.getfield 11, 3) := by decide +kernel
theorem dX10_count_65 : decode cX10_count 65 = .ok (.bipush 20, 2) := by decide +kernel
theorem dX10_count_67 : decode cX10_count 67 = .ok (.iaload, 1) := by decide +kernel
theorem dX10_count_68 : decode cX10_count 68 = .ok (.ireturn, 1) := by decide +kernel
theorem dX10_count_69 : decode cX10_count 69 = .ok (.aload_n 0, 1) := by decide +kernel
theorem dX10_count_70 : decode cX10_count 70 = .ok (.getfield 11, 3) := by decide +kernel
theorem dX10_count_73 : decode cX10_count 73 = .ok (.bipush 18, 2) := by decide +kernel
theorem dX10_count_75 : decode cX10_count 75 = .ok (.iaload, 1) := by decide +kernel
theorem dX10_count_76 : decode cX10_count 76 = .ok (.ireturn, 1) := by decide +kernel
theorem dX10_count_77 : decode cX10_count 77 = .ok (.aload_n 0, 1) := by decide +kernel
theorem dX10_count_78 : decode cX10_count 78 = .ok (.getfield 11, 3) := by decide +kernel
theorem dX10_count_81 : decode cX10_count 81 = .ok (.bipush 17, 2) := by decide +kernel
theorem dX10_count_83 : decode cX10_count 83 = .ok (.iaload, 1) := by decide +kernel
theorem dX10_count_84 : decode cX10_count 84 = .ok (.ireturn, 1) := by decide +kernel
theorem dX10_count_85 : decode cX10_count 85 = .ok (.aload_n 0, 1) := by decide +kernel
theorem dX10_count_86 : decode cX10_count 86 = .ok (.getfield 200, 3) := by decide +kernel
theorem dX10_count_89 : decode cX10_count 89 = .ok (.ireturn, 1) := by decide +kernel
theorem dX10_count_90 : decode cX10_count 90 = .ok (.aload_n 0, 1) := by decide +kernel
theorem dX10_count_91 : decode cX10_count 91 = .ok (.getfield 11, 3) := by decide +kernel
theorem dX10_count_94 : decode cX10_count 94 = .ok (.bipush 15, 2) := by decide +kernel
theorem dX10_count_96 : decode cX10_count 96 = .ok (.iaload, 1) := by decide +kernel
theorem dX10_count_97 : decode cX10_count 97 = .ok (.ireturn, 1) := by decide +kernel
theorem dX10_count_98 : decode cX10_count 98 = .ok (.aload_n 0, 1) := by decide +kernel
theorem dX10_count_99 : decode cX10_count 99 = .ok (.getfield 11, 3) := by decide +kernel
theorem dX10_count_102 : decode cX10_count 102 = .ok (.bipush 16, 2) := by decide +kernel
theorem dX10_count_104 : decode cX10_count 104 = .ok (.iaload, 1) := by decide +kernel
theorem dX10_count_105 : decode cX10_count 105 = .ok (.ireturn, 1) := by decide +kernel
theorem dX10_count_106 : decode cX10_count 106 = .ok (.bipush (-2), 2) := by decide +kernel
theorem dX10_count_108 : decode cX10_count 108 = .ok (.ireturn, 1) := by decide +kernel
set_option maxRecDepth 20000 in
theorem ggX10_tape_X10_isTape : GoodIn wsX10_tape wsX10_isTape := goodIn_r _ [7, 8, 9, 6, 10] (by decide +kernel) (by decide +kernel)
set_option maxRecDepth 20000 in
theorem gX10_tape_X10_isTape : GoodIn wsX10_tape (va_wsS RX10 293 yX10_isTape wsX10_isTape) := goodIn_app (goodIn_of _ (by decide +kernel)) ggX10_tape_X10_isTape
set_option maxRecDepth 20000 in
theorem ggX10_tape_X10_isIn : GoodIn wsX10_tape wsX10_isIn := goodIn_r _ [10] (by decide +kernel) (by decide +kernel)
set_option maxRecDepth 20000 in
theorem gX10_tape_X10_isIn : GoodIn wsX10_tape (va_wsS RX10 49 yX10_isIn wsX10_isIn) := goodIn_app (goodIn_of _ (by decide +kernel)) ggX10_tape_X10_isIn
theorem dX10_tape_0 : decode cX10_tape 0 = .ok (.iload_n 1, 1) := by decide +kernel
theorem dX10_tape_1 : decode cX10_tape 1 = .ok (.invokestatic 293, 3) := by decide +kernel
theorem dX10_tape_4 : decode cX10_tape 4 = .ok (.ifCond .ne 5, 3) := by decide +kernel
theorem dX10_tape_7 : decode cX10_tape 7 = .ok (.iconst (-1), 1) := by decide +kernel
theorem dX10_tape_8 : decode cX10_tape 8 = .ok (.ireturn, 1) := by decide +kernel
theorem dX10_tape_9 : decode cX10_tape 9 = .ok (.iload_n 2, 1) := by decide +kernel
theorem dX10_tape_10 : decode cX10_tape 10 = .ok (.iconst (-1), 1) := by decide +kernel
theorem dX10_tape_11 : decode cX10_tape 11 = .ok (.iconst 4, 1) := by decide +kernel
theorem dX10_tape_12 : decode cX10_tape 12 = .ok (.invokestatic 49, 3) := by decide +kernel
theorem dX10_tape_15 : decode cX10_tape 15 = .ok (.ifCond .eq 13, 3) := by decide +kernel
theorem dX10_tape_18 : decode cX10_tape 18 = .ok (.iload_n 2, 1) := by decide +kernel
theorem dX10_tape_19 : decode cX10_tape 19 = .ok (.ifCond .lt 12, 3) := by decide +kernel
theorem dX10_tape_22 : decode cX10_tape 22 = .ok (.iload_n 3, 1) := by decide +kernel
theorem dX10_tape_23 : decode cX10_tape 23 = .ok (.bipush 60, 2) := by decide +kernel
theorem dX10_tape_25 : decode cX10_tape 25 = .ok (.if_icmp .le 6, 3) := by decide +kernel
theorem dX10_tape_28 : decode cX10_tape 28 = .ok (.bipush (-2), 2) := by decide +kernel
theorem dX10_tape_30 : decode cX10_tape 30 = .ok (.ireturn, 1) := by decide +kernel
theorem dX10_tape_31 : decode cX10_tape 31 = .ok (.iload_n 2, 1) := by decide +kernel
theorem dX10_tape_32 : decode cX10_tape 32 = .ok (.ifCond .lt 10, 3) := by decide +kernel
theorem dX10_tape_35 : decode cX10_tape 35 = .ok (.iload_n 3, 1) := by decide +kernel
theorem dX10_tape_36 : decode cX10_tape 36 = .ok (.ifCond .ge 6, 3) := by decide +kernel
theorem dX10_tape_39 : decode cX10_tape 39 = .ok (.bipush (-14), 2) := by decide +kernel
theorem dX10_tape_41 : decode cX10_tape 41 = .ok (.ireturn, 1) := by decide +kernel
theorem dX10_tape_42 : decode cX10_tape 42 = .ok (.aload_n 0, 1) := by decide +kernel
theorem dX10_tape_43 : decode cX10_tape 43 = .ok (.getfield 33, 3) := by decide +kernel
theorem dX10_tape_46 : decode cX10_tape 46 = .ok (.iload_n 1, 1) := by decide +kernel
theorem dX10_tape_47 : decode cX10_tape 47 = .ok (.iload_n 2, 1) := by decide +kernel
theorem dX10_tape_48 : decode cX10_tape 48 = .ok (.iastore, 1) := by decide +kernel
theorem dX10_tape_49 : decode cX10_tape 49 = .ok (.aload_n 0, 1) := by decide +kernel
theorem dX10_tape_50 : decode cX10_tape 50 = .ok (.getfield 36, 3) := by decide +kernel
theorem dX10_tape_53 : decode cX10_tape 53 = .ok (.iload_n 1, 1) := by decide +kernel
theorem dX10_tape_54 : decode cX10_tape 54 = .ok (.iload_n 2, 1) := by decide +kernel
theorem dX10_tape_55 : decode cX10_tape 55 = .ok (.ifCond .ge 7, 3) := by decide +kernel
theorem dX10_tape_58 : decode cX10_tape 58 = .ok (.iconst 0, 1) := by decide +kernel
theorem dX10_tape_59 : decode cX10_tape 59 = .ok (.goto 4, 3) := by decide +kernel
theorem dX10_tape_62 : decode cX10_tape 62 = .ok (.iload_n 3, 1) := by decide +kernel
theorem dX10_tape_63 : decode cX10_tape 63 = .ok (.iastore, 1) := by decide +kernel
theorem dX10_tape_64 : decode cX10_tape 64 = .ok (.iconst 0, 1) := by decide +kernel
theorem dX10_tape_65 : decode cX10_tape 65 = .ok (.istore 4, 2) := by decide +kernel
theorem dX10_tape_67 : decode cX10_tape 67 = .ok (.iload 4, 2) := by decide +kernel
theorem dX10_tape_69 : decode cX10_tape 69 = .ok (.aload_n 0, 1) := by decide +kernel
theorem dX10_tape_70 : decode cX10_tape 70 = .ok (.getfield 36, 3) := by decide +kernel
theorem dX10_tape_73 : decode cX10_tape 73 = .ok (.iload_n 1, 1) := by decide +kernel
theorem dX10_tape_74 : decode cX10_tape 74 = .ok (.iaload, 1) := by decide +kernel
theorem dX10_tape_75 : decode cX10_tape 75 = .ok (.if_icmp .ge 22, 3) := by decide +kernel
theorem dX10_tape_78 : decode cX10_tape 78 = .ok (.aload_n 0, 1) := by decide +kernel
theorem dX10_tape_79 : decode cX10_tape 79 = .ok (.getfield 39, 3) := by decide +kernel
theorem dX10_tape_82 : decode cX10_tape 82 = .ok (.bipush 60, 2) := by decide +kernel
theorem dX10_tape_84 : decode cX10_tape 84 = .ok (.iload_n 1, 1) := by decide +kernel
theorem dX10_tape_85 : decode cX10_tape 85 = .ok (.imul, 1) := by decide +kernel
theorem dX10_tape_86 : decode cX10_tape 86 = .ok (.iload 4, 2) := by decide +kernel
theorem dX10_tape_88 : decode cX10_tape 88 = .ok (.iadd, 1) := by decide +kernel
theorem dX10_tape_89 : decode cX10_tape 89 = .ok (.lconst 0, 1) := by decide +kernel
theorem dX10_tape_90 : decode cX10_tape 90 = .ok (.lastore, 1) := by decide +kernel
theorem dX10_tape_91 : decode cX10_tape 91 = .ok (.iinc 4 1, 3) := by decide +kernel
theorem dX10_tape_94 : decode cX10_tape 94 = .ok (.goto (-27), 3) := by decide +kernel
theorem dX10_tape_97 : decode cX10_tape 97 = .ok (.iconst 1, 1) := by decide +kernel
theorem dX10_tape_98 : decode cX10_tape 98 = .ok (.ireturn, 1) := by decide +kernel
set_option maxRecDepth 20000 in
theorem ggX10_item_X10_isTape : GoodIn wsX10_item wsX10_isTape := goodIn_r _ [7, 8, 9, 6, 10] (by decide +kernel) (by decide +kernel)
set_option maxRecDepth 20000 in
theorem gX10_item_X10_isTape : GoodIn wsX10_item (va_wsS RX10 293 yX10_isTape wsX10_isTape) := goodIn_app (goodIn_of _ (by decide +kernel)) ggX10_item_X10_isTape
set_option maxRecDepth 20000 in
theorem ggX10_item_X10_isIn : GoodIn wsX10_item wsX10_isIn := goodIn_r _ [10] (by decide +kernel) (by decide +kernel)
set_option maxRecDepth 20000 in
theorem gX10_item_X10_isIn : GoodIn wsX10_item (va_wsS RX10 49 yX10_isIn wsX10_isIn) := goodIn_app (goodIn_of _ (by decide +kernel)) ggX10_item_X10_isIn
theorem dX10_item_0 : decode cX10_item 0 = .ok (.iload_n 1, 1) := by decide +kernel
theorem dX10_item_1 : decode cX10_item 1 = .ok (.invokestatic 293, 3) := by decide +kernel
theorem dX10_item_4 : decode cX10_item 4 = .ok (.ifCond .ne 5, 3) := by decide +kernel
theorem dX10_item_7 : decode cX10_item 7 = .ok (.iconst (-1), 1) := by decide +kernel
theorem dX10_item_8 : decode cX10_item 8 = .ok (.ireturn, 1) := by decide +kernel
theorem dX10_item_9 : decode cX10_item 9 = .ok (.aload_n 0, 1) := by decide +kernel
theorem dX10_item_10 : decode cX10_item 10 = .ok (.getfield 33, 3) := by decide +kernel
theorem dX10_item_13 : decode cX10_item 13 = .ok (.iload_n 1, 1) := by decide +kernel
theorem dX10_item_14 : decode cX10_item 14 = .ok (.iaload, 1) := by decide +kernel
theorem dX10_item_15 : decode cX10_item 15 = .ok (.ifCond .ge 6, 3) := by decide +kernel
theorem dX10_item_18 : decode cX10_item 18 = .ok (.bipush (-11), 2) := by decide +kernel
theorem dX10_item_20 : decode cX10_item 20 = .ok (.ireturn, 1) := by decide +kernel
theorem dX10_item_21 : decode cX10_item 21 = .ok (.iload_n 2, 1) := by decide +kernel
theorem dX10_item_22 : decode cX10_item 22 = .ok (.iconst 0, 1) := by decide +kernel
theorem dX10_item_23 : decode cX10_item 23 = .ok (.aload_n 0, 1) := by decide +kernel
theorem dX10_item_24 : decode cX10_item 24 = .ok (.getfield 36, 3) := by decide +kernel
theorem dX10_item_27 : decode cX10_item 27 = .ok (.iload_n 1, 1) := by decide +kernel
theorem dX10_item_28 : decode cX10_item 28 = .ok (.iaload, 1) := by decide +kernel
theorem dX10_item_29 : decode cX10_item 29 = .ok (.iconst 1, 1) := by decide +kernel
theorem dX10_item_30 : decode cX10_item 30 = .ok (.isub, 1) := by decide +kernel
theorem dX10_item_31 : decode cX10_item 31 = .ok (.invokestatic 49, 3) := by decide +kernel
theorem dX10_item_34 : decode cX10_item 34 = .ok (.ifCond .ne 6, 3) := by decide +kernel
theorem dX10_item_37 : decode cX10_item 37 = .ok (.bipush (-13), 2) := by decide +kernel
theorem dX10_item_39 : decode cX10_item 39 = .ok (.ireturn, 1) := by decide +kernel
theorem dX10_item_40 : decode cX10_item 40 = .ok (.aload_n 0, 1) := by decide +kernel
theorem dX10_item_41 : decode cX10_item 41 = .ok (.getfield 39, 3) := by decide +kernel
theorem dX10_item_44 : decode cX10_item 44 = .ok (.bipush 60, 2) := by decide +kernel
theorem dX10_item_46 : decode cX10_item 46 = .ok (.iload_n 1, 1) := by decide +kernel
theorem dX10_item_47 : decode cX10_item 47 = .ok (.imul, 1) := by decide +kernel
theorem dX10_item_48 : decode cX10_item 48 = .ok (.iload_n 2, 1) := by decide +kernel
theorem dX10_item_49 : decode cX10_item 49 = .ok (.iadd, 1) := by decide +kernel
theorem dX10_item_50 : decode cX10_item 50 = .ok (.aload_n 0, 1) := by decide +kernel
theorem dX10_item_51 : decode cX10_item 51 = .ok (.getfield 33, 3) := by decide +kernel
theorem dX10_item_54 : decode cX10_item 54 = .ok (.iload_n 1, 1) := by decide +kernel
theorem dX10_item_55 : decode cX10_item 55 = .ok (.iaload, 1) := by decide +kernel
theorem dX10_item_56 : decode cX10_item 56 = .ok (.ifCond .ne 10, 3) := by decide +kernel
theorem dX10_item_59 : decode cX10_item 59 = .ok (.lload_n 3, 1) := by decide +kernel
theorem dX10_item_60 : decode cX10_item 60 = .ok (.l2i, 1) := by decide +kernel
theorem dX10_item_61 : decode cX10_item 61 = .ok (.i2b, 1) := by decide +kernel
theorem dX10_item_62 : decode cX10_item 62 = .ok (.i2l, 1) := by decide +kernel
theorem dX10_item_63 : decode cX10_item 63 = .ok (.goto 61, 3) := by decide +kernel
theorem dX10_item_66 : decode cX10_item 66 = .ok (.aload_n 0, 1) := by decide +kernel
theorem dX10_item_67 : decode cX10_item 67 = .ok (.getfield 33, 3) := by decide +kernel
theorem dX10_item_70 : decode cX10_item 70 = .ok (.iload_n 1, 1) := by decide +kernel
theorem dX10_item_71 : decode cX10_item 71 = .ok (.iaload, 1) := by decide +kernel
theorem dX10_item_72 : decode cX10_item 72 = .ok (.iconst 1, 1) := by decide +kernel
theorem dX10_item_73 : decode cX10_item 73 = .ok (.if_icmp .ne 10, 3) := by decide +kernel
theorem dX10_item_76 : decode cX10_item 76 = .ok (.lload_n 3, 1) := by decide +kernel
theorem dX10_item_77 : decode cX10_item 77 = .ok (.l2i, 1) := by decide +kernel
theorem dX10_item_78 : decode cX10_item 78 = .ok (.i2s, 1) := by decide +kernel
theorem dX10_item_79 : decode cX10_item 79 = .ok (.i2l, 1) := by decide +kernel
theorem dX10_item_80 : decode cX10_item 80 = .ok (.goto 44, 3) := by decide +kernel
theorem dX10_item_83 : decode cX10_item 83 = .ok (.aload_n 0, 1) := by decide +kernel
theorem dX10_item_84 : decode cX10_item 84 = .ok (.getfield 33, 3) := by decide +kernel
theorem dX10_item_87 : decode cX10_item 87 = .ok (.iload_n 1, 1) := by decide +kernel
theorem dX10_item_88 : decode cX10_item 88 = .ok (.iaload, 1) := by decide +kernel
theorem dX10_item_89 : decode cX10_item 89 = .ok (.iconst 2, 1) := by decide +kernel
theorem dX10_item_90 : decode cX10_item 90 = .ok (.if_icmp .ne 9, 3) := by decide +kernel
theorem dX10_item_93 : decode cX10_item 93 = .ok (.lload_n 3, 1) := by decide +kernel
theorem dX10_item_94 : decode cX10_item 94 = .ok (.l2i, 1) := by decide +kernel
theorem dX10_item_95 : decode cX10_item 95 = .ok (.i2l, 1) := by decide +kernel
theorem dX10_item_96 : decode cX10_item 96 = .ok (.goto 28, 3) := by decide +kernel
theorem dX10_item_99 : decode cX10_item 99 = .ok (.aload_n 0, 1) := by decide +kernel
theorem dX10_item_100 : decode cX10_item 100 = .ok (.getfield 33, 3) := by decide +kernel
theorem dX10_item_103 : decode cX10_item 103 = .ok (.iload_n 1, 1) := by decide +kernel
theorem dX10_item_104 : decode cX10_item 104 = .ok (.iaload, 1) := by decide +kernel
theorem dX10_item_105 : decode cX10_item 105 = .ok (.iconst 3, 1) := by decide +kernel
theorem dX10_item_106 : decode cX10_item 106 = .ok (.if_icmp .ne 7, 3) := by decide +kernel
theorem dX10_item_109 : decode cX10_item 109 = .ok (.lload_n 3, 1) := by decide +kernel
theorem dX10_item_110 : decode cX10_item 110 = .ok (.goto 14, 3) := by decide +kernel
theorem dX10_item_113 : decode cX10_item 113 = .ok (.lload_n 3, 1) := by decide +kernel
theorem dX10_item_114 : decode cX10_item 114 = .ok (.lconst 0, 1) := by decide +kernel
theorem dX10_item_115 : decode cX10_item 115 = .ok (.lcmp, 1) := by decide +kernel
theorem dX10_item_116 : decode cX10_item 116 = .ok (.ifCond .eq 7, 3) := by decide +kernel
theorem dX10_item_119 : decode cX10_item 119 = .ok (.lconst 1, 1) := by decide +kernel
theorem dX10_item_120 : decode cX10_item 120 = .ok (.goto 4, 3) := by decide +kernel
theorem dX10_item_123 : decode cX10_item 123 = .ok (.lconst 0, 1) := by decide +kernel
theorem dX10_item_124 : decode cX10_item 124 = .ok (.lastore, 1) := by decide +kernel
theorem dX10_item_125 : decode cX10_item 125 = .ok (.iconst 1, 1) := by decide +kernel
theorem dX10_item_126 : decode cX10_item 126 = .ok (.ireturn, 1) := by decide +kernel
set_option maxRecDepth 20000 in
theorem ggX10_peek_X10_isTape : GoodIn wsX10_peek wsX10_isTape := goodIn_r _ [8, 9, 10, 7, 11] (by decide +kernel) (by decide +kernel)
set_option maxRecDepth 20000 in
theorem gX10_peek_X10_isTape : GoodIn wsX10_peek (va_wsS RX10 293 yX10_isTape wsX10_isTape) := goodIn_app (goodIn_of _ (by decide +kernel)) ggX10_peek_X10_isTape
set_option maxRecDepth 20000 in
theorem ggX10_peek_X10_isIn : GoodIn wsX10_peek wsX10_isIn := goodIn_r _ [11] (by decide +kernel) (by decide +kernel)
set_option maxRecDepth 20000 in
theorem gX10_peek_X10_isIn : GoodIn wsX10_peek (va_wsS RX10 49 yX10_isIn wsX10_isIn) := goodIn_app (goodIn_of _ (by decide +kernel)) ggX10_peek_X10_isIn
theorem dX10_peek_0 : decode cX10_peek 0 = .ok (.iload_n 1, 1) := by decide +kernel
theorem dX10_peek_1 : decode cX10_peek 1 = .ok (.invokestatic 293, 3) := by decide +kernel
theorem dX10_peek_4 : decode cX10_peek 4 = .ok (.ifCond .eq 42, 3) := by decide +kernel
theorem dX10_peek_7 : decode cX10_peek 7 = .ok (.aload_n 0, 1) := by decide +kernel
theorem dX10_peek_8 : decode cX10_peek 8 = .ok (.getfield 33, 3) := by decide +kernel
theorem dX10_peek_11 : decode cX10_peek 11 = .ok (.iload_n 1, 1) := by decide +kernel
theorem dX10_peek_12 : decode cX10_peek 12 = .ok (.iaload, 1) := by decide +kernel
theorem dX10_peek_13 : decode cX10_peek 13 = .ok (.ifCond .lt 33, 3) := by decide +kernel
theorem dX10_peek_16 : decode cX10_peek 16 = .ok (.iload_n 2, 1) := by decide +kernel
theorem dX10_peek_17 : decode cX10_peek 17 = .ok (.iconst 0, 1) := by decide +kernel
theorem dX10_peek_18 : decode cX10_peek 18 = .ok (.aload_n 0, 1) := by decide +kernel
theorem dX10_peek_19 : decode cX10_peek 19 = .ok (.getfield 36, 3) := by decide +kernel
theorem dX10_peek_22 : decode cX10_peek 22 = .ok (.iload_n 1, 1) := by decide +kernel
theorem dX10_peek_23 : decode cX10_peek 23 = .ok (.iaload, 1) := by decide +kernel
theorem dX10_peek_24 : decode cX10_peek 24 = .ok (.iconst 1, 1) := by decide +kernel
theorem dX10_peek_25 : decode cX10_peek 25 = .ok (.isub, 1) := by decide +kernel
theorem dX10_peek_26 : decode cX10_peek 26 = .ok (.invokestatic 49, 3) := by decide +kernel
theorem dX10_peek_29 : decode cX10_peek 29 = .ok (.ifCond .eq 17, 3) := by decide +kernel
theorem dX10_peek_32 : decode cX10_peek 32 = .ok (.aload_n 0, 1) := by decide +kernel
theorem dX10_peek_33 : decode cX10_peek 33 = .ok (.getfield 39, 3) := by decide +kernel
theorem dX10_peek_36 : decode cX10_peek 36 = .ok (.bipush 60, 2) := by decide +kernel
theorem dX10_peek_38 : decode cX10_peek 38 = .ok (.iload_n 1, 1) := by decide +kernel
theorem dX10_peek_39 : decode cX10_peek 39 = .ok (.imul, 1) := by decide +kernel
theorem dX10_peek_40 : decode cX10_peek 40 = .ok (.iload_n 2, 1) := by decide +kernel
theorem dX10_peek_41 : decode cX10_peek 41 = .ok (.iadd, 1) := by decide +kernel
theorem dX10_peek_42 : decode cX10_peek 42 = .ok (.laload, 1) := by decide +kernel
theorem dX10_peek_43 : decode cX10_peek 43 = .ok (.goto 6, 3) := by decide +kernel
theorem dX10_peek_46 : decode cX10_peek 46 = .ok (.ldc2_w 278, 3) := by decide +kernel
theorem dX10_peek_49 : decode cX10_peek 49 = .ok (.lreturn, 1) := by decide +kernel
set_option maxRecDepth 20000 in
theorem ggX10_shift_X10_isTape : GoodIn wsX10_shift wsX10_isTape := goodIn_r _ [8, 9, 10, 7, 11] (by decide +kernel) (by decide +kernel)
set_option maxRecDepth 20000 in
theorem gX10_shift_X10_isTape : GoodIn wsX10_shift (va_wsS RX10 293 yX10_isTape wsX10_isTape) := goodIn_app (goodIn_of _ (by decide +kernel)) ggX10_shift_X10_isTape
theorem dX10_shift_0 : decode cX10_shift 0 = .ok (.iload_n 1, 1) := by decide +kernel
theorem dX10_shift_1 : decode cX10_shift 1 = .ok (.invokestatic 293, 3) := by decide +kernel
theorem dX10_shift_4 : decode cX10_shift 4 = .ok (.ifCond .eq 10, 3) := by decide +kernel
theorem dX10_shift_7 : decode cX10_shift 7 = .ok (.iload_n 3, 1) := by decide +kernel
theorem dX10_shift_8 : decode cX10_shift 8 = .ok (.invokestatic 293, 3) := by decide +kernel
theorem dX10_shift_11 : decode cX10_shift 11 = .ok (.ifCond .ne 5, 3) := by decide +kernel
theorem dX10_shift_14 : decode cX10_shift 14 = .ok (.iconst (-1), 1) := by decide +kernel
theorem dX10_shift_15 : decode cX10_shift 15 = .ok (.ireturn, 1) := by decide +kernel
theorem dX10_shift_16 : decode cX10_shift 16 = .ok (.aload_n 0, 1) := by decide +kernel
theorem dX10_shift_17 : decode cX10_shift 17 = .ok (.getfield 33, 3) := by decide +kernel
theorem dX10_shift_20 : decode cX10_shift 20 = .ok (.iload_n 1, 1) := by decide +kernel
theorem dX10_shift_21 : decode cX10_shift 21 = .ok (.iaload, 1) := by decide +kernel
theorem dX10_shift_22 : decode cX10_shift 22 = .ok (.ifCond .lt 12, 3) := by decide +kernel
theorem dX10_shift_25 : decode cX10_shift 25 = .ok (.aload_n 0, 1) := by decide +kernel
theorem dX10_shift_26 : decode cX10_shift 26 = .ok (.getfield 33, 3) := by decide +kernel
theorem dX10_shift_29 : decode cX10_shift 29 = .ok (.iload_n 3, 1) := by decide +kernel
theorem dX10_shift_30 : decode cX10_shift 30 = .ok (.iaload, 1) := by decide +kernel
theorem dX10_shift_31 : decode cX10_shift 31 = .ok (.ifCond .ge 6, 3) := by decide +kernel
theorem dX10_shift_34 : decode cX10_shift 34 = .ok (.bipush (-11), 2) := by decide +kernel
theorem dX10_shift_36 : decode cX10_shift 36 = .ok (.ireturn, 1) := by decide +kernel
theorem dX10_shift_37 : decode cX10_shift 37 = .ok (.aload_n 0, 1) := by decide +kernel
theorem dX10_shift_38 : decode cX10_shift 38 = .ok (.getfield 33, 3) := by decide +kernel
theorem dX10_shift_41 : decode cX10_shift 41 = .ok (.iload_n 1, 1) := by decide +kernel
theorem dX10_shift_42 : decode cX10_shift 42 = .ok (.iaload, 1) := by decide +kernel
theorem dX10_shift_43 : decode cX10_shift 43 = .ok (.aload_n 0, 1) := by decide +kernel
theorem dX10_shift_44 : decode cX10_shift 44 = .ok (.getfield 33, 3) := by decide +kernel
theorem dX10_shift_47 : decode cX10_shift 47 = .ok (.iload_n 3, 1) := by decide +kernel
theorem dX10_shift_48 : decode cX10_shift 48 = .ok (.iaload, 1) := by decide +kernel
theorem dX10_shift_49 : decode cX10_shift 49 = .ok (.if_icmp .eq 6, 3) := by decide +kernel
theorem dX10_shift_52 : decode cX10_shift 52 = .ok (.bipush (-12), 2) := by decide +kernel
theorem dX10_shift_54 : decode cX10_shift 54 = .ok (.ireturn, 1) := by decide +kernel
theorem dX10_shift_55 : decode cX10_shift 55 = .ok (.iload 5, 2) := by decide +kernel
theorem dX10_shift_57 : decode cX10_shift 57 = .ok (.ifCond .lt 39, 3) := by decide +kernel
theorem dX10_shift_60 : decode cX10_shift 60 = .ok (.iload_n 2, 1) := by decide +kernel
theorem dX10_shift_61 : decode cX10_shift 61 = .ok (.ifCond .lt 35, 3) := by decide +kernel
theorem dX10_shift_64 : decode cX10_shift 64 = .ok (.iload 4, 2) := by decide +kernel
theorem dX10_shift_66 : decode cX10_shift 66 = .ok (.ifCond .lt 30, 3) := by decide +kernel
theorem dX10_shift_69 : decode cX10_shift 69 = .ok (.iload 5, 2) := by decide +kernel
theorem dX10_shift_71 : decode cX10_shift 71 = .ok (.aload_n 0, 1) := by decide +kernel
theorem dX10_shift_72 : decode cX10_shift 72 = .ok (.getfield 36, 3) := by decide +kernel
theorem dX10_shift_75 : decode cX10_shift 75 = .ok (.iload_n 1, 1) := by decide +kernel
theorem dX10_shift_76 : decode cX10_shift 76 = .ok (.iaload, 1) := by decide +kernel
theorem dX10_shift_77 : decode cX10_shift 77 = .ok (.iload_n 2, 1) := by decide +kernel
theorem dX10_shift_78 : decode cX10_shift 78 = .ok (.isub, 1) := by decide +kernel
theorem dX10_shift_79 : decode cX10_shift 79 = .ok (.if_icmp .gt 17, 3) := by decide +kernel
theorem dX10_shift_82 : decode cX10_shift 82 = .ok (.iload 5, 2) := by decide +kernel
theorem dX10_shift_84 : decode cX10_shift 84 = .ok (.aload_n 0, 1) := by decide +kernel
theorem dX10_shift_85 : decode cX10_shift 85 = .ok (.getfield 36, 3) := by decide +kernel
theorem dX10_shift_88 : decode cX10_shift 88 = .ok (.iload_n 3, 1) := by decide +kernel
theorem dX10_shift_89 : decode cX10_shift 89 = .ok (.iaload, 1) := by decide +kernel
theorem dX10_shift_90 : decode cX10_shift 90 = .ok (.iload 4, 2) := by decide +kernel
theorem dX10_shift_92 : decode cX10_shift 92 = .ok (.isub, 1) := by decide +kernel
theorem dX10_shift_93 : decode cX10_shift 93 = .ok (.if_icmp .le 6, 3) := by decide +kernel
theorem dX10_shift_96 : decode cX10_shift 96 = .ok (.bipush (-13), 2) := by decide +kernel
theorem dX10_shift_98 : decode cX10_shift 98 = .ok (.ireturn, 1) := by decide +kernel
theorem dX10_shift_99 : decode cX10_shift 99 = .ok (.iconst 0, 1) := by decide +kernel
theorem dX10_shift_100 : decode cX10_shift 100 = .ok (.istore 6, 2) := by decide +kernel
theorem dX10_shift_102 : decode cX10_shift 102 = .ok (.iload 6, 2) := by decide +kernel
theorem dX10_shift_104 : decode cX10_shift 104 = .ok (.iload 5, 2) := by decide +kernel
theorem dX10_shift_106 : decode cX10_shift 106 = .ok (.if_icmp .ge 30, 3) := by decide +kernel
theorem dX10_shift_109 : decode cX10_shift 109 = .ok (.aload_n 0, 1) := by decide +kernel
theorem dX10_shift_110 : decode cX10_shift 110 = .ok (.getfield 43, 3) := by decide +kernel
theorem dX10_shift_113 : decode cX10_shift 113 = .ok (.iload 6, 2) := by decide +kernel
theorem dX10_shift_115 : decode cX10_shift 115 = .ok (.aload_n 0, 1) := by decide +kernel
theorem dX10_shift_116 : decode cX10_shift 116 = .ok (.getfield 39, 3) := by decide +kernel
theorem dX10_shift_119 : decode cX10_shift 119 = .ok (.bipush 60, 2) := by decide +kernel
theorem dX10_shift_121 : decode cX10_shift 121 = .ok (.iload_n 1, 1) := by decide +kernel
theorem dX10_shift_122 : decode cX10_shift 122 = .ok (.imul, 1) := by decide +kernel
theorem dX10_shift_123 : decode cX10_shift 123 = .ok (.iload_n 2, 1) := by decide +kernel
theorem dX10_shift_124 : decode cX10_shift 124 = .ok (.iadd, 1) := by decide +kernel
theorem dX10_shift_125 : decode cX10_shift 125 = .ok (.iload 6, 2) := by decide +kernel
theorem dX10_shift_127 : decode cX10_shift 127 = .ok (.iadd, 1) := by decide +kernel
theorem dX10_shift_128 : decode cX10_shift 128 = .ok (.laload, 1) := by decide +kernel
theorem dX10_shift_129 : decode cX10_shift 129 = .ok (.lastore, 1) := by decide +kernel
theorem dX10_shift_130 : decode cX10_shift 130 = .ok (.iinc 6 1, 3) := by decide +kernel
theorem dX10_shift_133 : decode cX10_shift 133 = .ok (.goto (-31), 3) := by decide +kernel
theorem dX10_shift_136 : decode cX10_shift 136 = .ok (.iconst 0, 1) := by decide +kernel
theorem dX10_shift_137 : decode cX10_shift 137 = .ok (.istore 6, 2) := by decide +kernel
theorem dX10_shift_139 : decode cX10_shift 139 = .ok (.iload 6, 2) := by decide +kernel
theorem dX10_shift_141 : decode cX10_shift 141 = .ok (.iload 5, 2) := by decide +kernel
theorem dX10_shift_143 : decode cX10_shift 143 = .ok (.if_icmp .ge 31, 3) := by decide +kernel
theorem dX10_shift_146 : decode cX10_shift 146 = .ok (.aload_n 0, 1) := by decide +kernel
theorem dX10_shift_147 : decode cX10_shift 147 = .ok (.getfield 39, 3) := by decide +kernel
theorem dX10_shift_150 : decode cX10_shift 150 = .ok (.bipush 60, 2) := by decide +kernel
theorem dX10_shift_152 : decode cX10_shift 152 = .ok (.iload_n 3, 1) := by decide +kernel
theorem dX10_shift_153 : decode cX10_shift 153 = .ok (.imul, 1) := by decide +kernel
theorem dX10_shift_154 : decode cX10_shift 154 = .ok (.iload 4, 2) := by decide +kernel
theorem dX10_shift_156 : decode cX10_shift 156 = .ok (.iadd, 1) := by decide +kernel
theorem dX10_shift_157 : decode cX10_shift 157 = .ok (.iload 6, 2) := by decide +kernel
theorem dX10_shift_159 : decode cX10_shift 159 = .ok (.iadd, 1) := by decide +kernel
theorem dX10_shift_160 : decode cX10_shift 160 = .ok (.aload_n 0, 1) := by decide +kernel
theorem dX10_shift_161 : decode cX10_shift 161 = .ok (.getfield 43, 3) := by decide +kernel
theorem dX10_shift_164 : decode cX10_shift 164 = .ok (.iload 6, 2) := by decide +kernel
theorem dX10_shift_166 : decode cX10_shift 166 = .ok (.laload, 1) := by decide +kernel
theorem dX10_shift_167 : decode cX10_shift 167 = .ok (.lastore, 1) := by decide +kernel
theorem dX10_shift_168 : decode cX10_shift 168 = .ok (.iinc 6 1, 3) := by decide +kernel
theorem dX10_shift_171 : decode cX10_shift 171 = .ok (.goto (-32), 3) := by decide +kernel
theorem dX10_shift_174 : decode cX10_shift 174 = .ok (.iload 5, 2) := by decide +kernel
theorem dX10_shift_176 : decode cX10_shift 176 = .ok (.ireturn, 1) := by decide +kernel
theorem dJ6_bitCount_0f7a4_0 : decode cJ6_bitCount_0f7a4 0 = .ok (.iload_n 0, 1) := by decide +kernel
theorem dJ6_bitCount_0f7a4_1 : decode cJ6_bitCount_0f7a4 1 = .ok (.iload_n 0, 1) := by decide +kernel
theorem dJ6_bitCount_0f7a4_2 : decode cJ6_bitCount_0f7a4 2 = .ok (.iconst 1, 1) := by decide +kernel
theorem dJ6_bitCount_0f7a4_3 : decode cJ6_bitCount_0f7a4 3 = .ok (.iushr, 1) := by decide +kernel
theorem dJ6_bitCount_0f7a4_4 : decode cJ6_bitCount_0f7a4 4 = .ok (.ldc_w 265, 3) := by decide +kernel
theorem dJ6_bitCount_0f7a4_7 : decode cJ6_bitCount_0f7a4 7 = .ok (.iand, 1) := by decide +kernel
theorem dJ6_bitCount_0f7a4_8 : decode cJ6_bitCount_0f7a4 8 = .ok (.isub, 1) := by decide +kernel
theorem dJ6_bitCount_0f7a4_9 : decode cJ6_bitCount_0f7a4 9 = .ok (.istore_n 0, 1) := by decide +kernel
theorem dJ6_bitCount_0f7a4_10 : decode cJ6_bitCount_0f7a4 10 = .ok (.iload_n 0, 1) := by decide +kernel
theorem dJ6_bitCount_0f7a4_11 : decode cJ6_bitCount_0f7a4 11 = .ok (.ldc_w 266, 3) := by decide +kernel
theorem dJ6_bitCount_0f7a4_14 : decode cJ6_bitCount_0f7a4 14 = .ok (.iand, 1) := by decide +kernel
theorem dJ6_bitCount_0f7a4_15 : decode cJ6_bitCount_0f7a4 15 = .ok (.iload_n 0, 1) := by decide +kernel
theorem dJ6_bitCount_0f7a4_16 : decode cJ6_bitCount_0f7a4 16 = .ok (.iconst 2, 1) := by decide +kernel
theorem dJ6_bitCount_0f7a4_17 : decode cJ6_bitCount_0f7a4 17 = .ok (.iushr, 1) := by decide +kernel
theorem dJ6_bitCount_0f7a4_18 : decode cJ6_bitCount_0f7a4 18 = .ok (.ldc_w 266, 3) := by decide +kernel
theorem dJ6_bitCount_0f7a4_21 : decode cJ6_bitCount_0f7a4 21 = .ok (.iand, 1) := by decide +kernel
theorem dJ6_bitCount_0f7a4_22 : decode cJ6_bitCount_0f7a4 22 = .ok (.iadd, 1) := by decide +kernel
theorem dJ6_bitCount_0f7a4_23 : decode cJ6_bitCount_0f7a4 23 = .ok (.istore_n 0, 1) := by decide +kernel
theorem dJ6_bitCount_0f7a4_24 : decode cJ6_bitCount_0f7a4 24 = .ok (.iload_n 0, 1) := by decide +kernel
theorem dJ6_bitCount_0f7a4_25 : decode cJ6_bitCount_0f7a4 25 = .ok (.iload_n 0, 1) := by decide +kernel
theorem dJ6_bitCount_0f7a4_26 : decode cJ6_bitCount_0f7a4 26 = .ok (.iconst 4, 1) := by decide +kernel
theorem dJ6_bitCount_0f7a4_27 : decode cJ6_bitCount_0f7a4 27 = .ok (.iushr, 1) := by decide +kernel
theorem dJ6_bitCount_0f7a4_28 : decode cJ6_bitCount_0f7a4 28 = .ok (.iadd, 1) := by decide +kernel
theorem dJ6_bitCount_0f7a4_29 : decode cJ6_bitCount_0f7a4 29 = .ok (.ldc_w 267, 3) := by decide +kernel
theorem dJ6_bitCount_0f7a4_32 : decode cJ6_bitCount_0f7a4 32 = .ok (.iand, 1) := by decide +kernel
theorem dJ6_bitCount_0f7a4_33 : decode cJ6_bitCount_0f7a4 33 = .ok (.istore_n 0, 1) := by decide +kernel
theorem dJ6_bitCount_0f7a4_34 : decode cJ6_bitCount_0f7a4 34 = .ok (.iload_n 0, 1) := by decide +kernel
theorem dJ6_bitCount_0f7a4_35 : decode cJ6_bitCount_0f7a4 35 = .ok (.iload_n 0, 1) := by decide +kernel
theorem dJ6_bitCount_0f7a4_36 : decode cJ6_bitCount_0f7a4 36 = .ok (.bipush 8, 2) := by decide +kernel
theorem dJ6_bitCount_0f7a4_38 : decode cJ6_bitCount_0f7a4 38 = .ok (.iushr, 1) := by decide +kernel
theorem dJ6_bitCount_0f7a4_39 : decode cJ6_bitCount_0f7a4 39 = .ok (.iadd, 1) := by decide +kernel
theorem dJ6_bitCount_0f7a4_40 : decode cJ6_bitCount_0f7a4 40 = .ok (.istore_n 0, 1) := by decide +kernel
theorem dJ6_bitCount_0f7a4_41 : decode cJ6_bitCount_0f7a4 41 = .ok (.iload_n 0, 1) := by decide +kernel
theorem dJ6_bitCount_0f7a4_42 : decode cJ6_bitCount_0f7a4 42 = .ok (.iload_n 0, 1) := by decide +kernel
theorem dJ6_bitCount_0f7a4_43 : decode cJ6_bitCount_0f7a4 43 = .ok (.bipush 16, 2) := by decide +kernel
theorem dJ6_bitCount_0f7a4_45 : decode cJ6_bitCount_0f7a4 45 = .ok (.iushr, 1) := by decide +kernel
theorem dJ6_bitCount_0f7a4_46 : decode cJ6_bitCount_0f7a4 46 = .ok (.iadd, 1) := by decide +kernel
theorem dJ6_bitCount_0f7a4_47 : decode cJ6_bitCount_0f7a4 47 = .ok (.istore_n 0, 1) := by decide +kernel
theorem dJ6_bitCount_0f7a4_48 : decode cJ6_bitCount_0f7a4 48 = .ok (.iload_n 0, 1) := by decide +kernel
theorem dJ6_bitCount_0f7a4_49 : decode cJ6_bitCount_0f7a4 49 = .ok (.bipush 63, 2) := by decide +kernel
theorem dJ6_bitCount_0f7a4_51 : decode cJ6_bitCount_0f7a4 51 = .ok (.iand, 1) := by decide +kernel
theorem dJ6_bitCount_0f7a4_52 : decode cJ6_bitCount_0f7a4 52 = .ok (.ireturn, 1) := by decide +kernel
theorem dJ13_bitCount_95d88_0 : decode cJ13_bitCount_95d88 0 = .ok (.lload_n 0, 1) := by decide +kernel
theorem dJ13_bitCount_95d88_1 : decode cJ13_bitCount_95d88 1 = .ok (.lload_n 0, 1) := by decide +kernel
theorem dJ13_bitCount_95d88_2 : decode cJ13_bitCount_95d88 2 = .ok (.iconst 1, 1) := by decide +kernel
theorem dJ13_bitCount_95d88_3 : decode cJ13_bitCount_95d88 3 = .ok (.lushr, 1) := by decide +kernel
theorem dJ13_bitCount_95d88_4 : decode cJ13_bitCount_95d88 4 = .ok (.ldc2_w 314, 3) := by decide +kernel
theorem dJ13_bitCount_95d88_7 : decode cJ13_bitCount_95d88 7 = .ok (.land, 1) := by decide +kernel
theorem dJ13_bitCount_95d88_8 : decode cJ13_bitCount_95d88 8 = .ok (.lsub, 1) := by decide +kernel
theorem dJ13_bitCount_95d88_9 : decode cJ13_bitCount_95d88 9 = .ok (.lstore_n 0, 1) := by decide +kernel
theorem dJ13_bitCount_95d88_10 : decode cJ13_bitCount_95d88 10 = .ok (.lload_n 0, 1) := by decide +kernel
theorem dJ13_bitCount_95d88_11 : decode cJ13_bitCount_95d88 11 = .ok (.ldc2_w 316, 3) := by decide +kernel
theorem dJ13_bitCount_95d88_14 : decode cJ13_bitCount_95d88 14 = .ok (.land, 1) := by decide +kernel
theorem dJ13_bitCount_95d88_15 : decode cJ13_bitCount_95d88 15 = .ok (.lload_n 0, 1) := by decide +kernel
theorem dJ13_bitCount_95d88_16 : decode cJ13_bitCount_95d88 16 = .ok (.iconst 2, 1) := by decide +kernel
theorem dJ13_bitCount_95d88_17 : decode cJ13_bitCount_95d88 17 = .ok (.lushr, 1) := by decide +kernel
theorem dJ13_bitCount_95d88_18 : decode cJ13_bitCount_95d88 18 = .ok (.ldc2_w 316, 3) := by decide +kernel
theorem dJ13_bitCount_95d88_21 : decode cJ13_bitCount_95d88 21 = .ok (.land, 1) := by decide +kernel
theorem dJ13_bitCount_95d88_22 : decode cJ13_bitCount_95d88 22 = .ok (.ladd, 1) := by decide +kernel
theorem dJ13_bitCount_95d88_23 : decode cJ13_bitCount_95d88 23 = .ok (.lstore_n 0, 1) := by decide +kernel
theorem dJ13_bitCount_95d88_24 : decode cJ13_bitCount_95d88 24 = .ok (.lload_n 0, 1) := by decide +kernel
theorem dJ13_bitCount_95d88_25 : decode cJ13_bitCount_95d88 25 = .ok (.lload_n 0, 1) := by decide +kernel
theorem dJ13_bitCount_95d88_26 : decode cJ13_bitCount_95d88 26 = .ok (.iconst 4, 1) := by decide +kernel
theorem dJ13_bitCount_95d88_27 : decode cJ13_bitCount_95d88 27 = .ok (.lushr, 1) := by decide +kernel
theorem dJ13_bitCount_95d88_28 : decode cJ13_bitCount_95d88 28 = .ok (.ladd, 1) := by decide +kernel
theorem dJ13_bitCount_95d88_29 : decode cJ13_bitCount_95d88 29 = .ok (.ldc2_w 318, 3) := by decide +kernel
theorem dJ13_bitCount_95d88_32 : decode cJ13_bitCount_95d88 32 = .ok (.land, 1) := by decide +kernel
theorem dJ13_bitCount_95d88_33 : decode cJ13_bitCount_95d88 33 = .ok (.lstore_n 0, 1) := by decide +kernel
theorem dJ13_bitCount_95d88_34 : decode cJ13_bitCount_95d88 34 = .ok (.lload_n 0, 1) := by decide +kernel
theorem dJ13_bitCount_95d88_35 : decode cJ13_bitCount_95d88 35 = .ok (.lload_n 0, 1) := by decide +kernel
theorem dJ13_bitCount_95d88_36 : decode cJ13_bitCount_95d88 36 = .ok (.bipush 8, 2) := by decide +kernel
theorem dJ13_bitCount_95d88_38 : decode cJ13_bitCount_95d88 38 = .ok (.lushr, 1) := by decide +kernel
theorem dJ13_bitCount_95d88_39 : decode cJ13_bitCount_95d88 39 = .ok (.ladd, 1) := by decide +kernel
theorem dJ13_bitCount_95d88_40 : decode cJ13_bitCount_95d88 40 = .ok (.lstore_n 0, 1) := by decide +kernel
theorem dJ13_bitCount_95d88_41 : decode cJ13_bitCount_95d88 41 = .ok (.lload_n 0, 1) := by decide +kernel
theorem dJ13_bitCount_95d88_42 : decode cJ13_bitCount_95d88 42 = .ok (.lload_n 0, 1) := by decide +kernel
theorem dJ13_bitCount_95d88_43 : decode cJ13_bitCount_95d88 43 = .ok (.bipush 16, 2) := by decide +kernel
theorem dJ13_bitCount_95d88_45 : decode cJ13_bitCount_95d88 45 = .ok (.lushr, 1) := by decide +kernel
theorem dJ13_bitCount_95d88_46 : decode cJ13_bitCount_95d88 46 = .ok (.ladd, 1) := by decide +kernel
theorem dJ13_bitCount_95d88_47 : decode cJ13_bitCount_95d88 47 = .ok (.lstore_n 0, 1) := by decide +kernel
theorem dJ13_bitCount_95d88_48 : decode cJ13_bitCount_95d88 48 = .ok (.lload_n 0, 1) := by decide +kernel
theorem dJ13_bitCount_95d88_49 : decode cJ13_bitCount_95d88 49 = .ok (.lload_n 0, 1) := by decide +kernel
theorem dJ13_bitCount_95d88_50 : decode cJ13_bitCount_95d88 50 = .ok (.bipush 32, 2) := by decide +kernel
theorem dJ13_bitCount_95d88_52 : decode cJ13_bitCount_95d88 52 = .ok (.lushr, 1) := by decide +kernel
theorem dJ13_bitCount_95d88_53 : decode cJ13_bitCount_95d88 53 = .ok (.ladd, 1) := by decide +kernel
theorem dJ13_bitCount_95d88_54 : decode cJ13_bitCount_95d88 54 = .ok (.lstore_n 0, 1) := by decide +kernel
theorem dJ13_bitCount_95d88_55 : decode cJ13_bitCount_95d88 55 = .ok (.lload_n 0, 1) := by decide +kernel
theorem dJ13_bitCount_95d88_56 : decode cJ13_bitCount_95d88 56 = .ok (.l2i, 1) := by decide +kernel
theorem dJ13_bitCount_95d88_57 : decode cJ13_bitCount_95d88 57 = .ok (.bipush 127, 2) := by decide +kernel
theorem dJ13_bitCount_95d88_59 : decode cJ13_bitCount_95d88 59 = .ok (.iand, 1) := by decide +kernel
theorem dJ13_bitCount_95d88_60 : decode cJ13_bitCount_95d88 60 = .ok (.ireturn, 1) := by decide +kernel
theorem dJ9_floorMod_7cf53_0 : decode cJ9_floorMod_7cf53 0 = .ok (.iload_n 0, 1) := by decide +kernel
theorem dJ9_floorMod_7cf53_1 : decode cJ9_floorMod_7cf53 1 = .ok (.iload_n 1, 1) := by decide +kernel
theorem dJ9_floorMod_7cf53_2 : decode cJ9_floorMod_7cf53 2 = .ok (.irem, 1) := by decide +kernel
theorem dJ9_floorMod_7cf53_3 : decode cJ9_floorMod_7cf53 3 = .ok (.istore_n 2, 1) := by decide +kernel
theorem dJ9_floorMod_7cf53_4 : decode cJ9_floorMod_7cf53 4 = .ok (.iload_n 0, 1) := by decide +kernel
theorem dJ9_floorMod_7cf53_5 : decode cJ9_floorMod_7cf53 5 = .ok (.iload_n 1, 1) := by decide +kernel
theorem dJ9_floorMod_7cf53_6 : decode cJ9_floorMod_7cf53 6 = .ok (.ixor, 1) := by decide +kernel
theorem dJ9_floorMod_7cf53_7 : decode cJ9_floorMod_7cf53 7 = .ok (.ifCond .ge 11, 3) := by decide +kernel
theorem dJ9_floorMod_7cf53_10 : decode cJ9_floorMod_7cf53 10 = .ok (.iload_n 2, 1) := by decide +kernel
theorem dJ9_floorMod_7cf53_11 : decode cJ9_floorMod_7cf53 11 = .ok (.ifCond .eq 7, 3) := by decide +kernel
theorem dJ9_floorMod_7cf53_14 : decode cJ9_floorMod_7cf53 14 = .ok (.iload_n 2, 1) := by decide +kernel
theorem dJ9_floorMod_7cf53_15 : decode cJ9_floorMod_7cf53 15 = .ok (.iload_n 1, 1) := by decide +kernel
theorem dJ9_floorMod_7cf53_16 : decode cJ9_floorMod_7cf53 16 = .ok (.iadd, 1) := by decide +kernel
theorem dJ9_floorMod_7cf53_17 : decode cJ9_floorMod_7cf53 17 = .ok (.ireturn, 1) := by decide +kernel
theorem dJ9_floorMod_7cf53_18 : decode cJ9_floorMod_7cf53 18 = .ok (.iload_n 2, 1) := by decide +kernel
theorem dJ9_floorMod_7cf53_19 : decode cJ9_floorMod_7cf53 19 = .ok (.ireturn, 1) := by decide +kernel
theorem dJ9_max_7cf53_0 : decode cJ9_max_7cf53 0 = .ok (.iload_n 0, 1) := by decide +kernel
theorem dJ9_max_7cf53_1 : decode cJ9_max_7cf53 1 = .ok (.iload_n 1, 1) := by decide +kernel
theorem dJ9_max_7cf53_2 : decode cJ9_max_7cf53 2 = .ok (.if_icmp .lt 7, 3) := by decide +kernel
theorem dJ9_max_7cf53_5 : decode cJ9_max_7cf53 5 = .ok (.iload_n 0, 1) := by decide +kernel
theorem dJ9_max_7cf53_6 : decode cJ9_max_7cf53 6 = .ok (.goto 4, 3) := by decide +kernel
theorem dJ9_max_7cf53_9 : decode cJ9_max_7cf53 9 = .ok (.iload_n 1, 1) := by decide +kernel
theorem dJ9_max_7cf53_10 : decode cJ9_max_7cf53 10 = .ok (.ireturn, 1) := by decide +kernel
theorem dJ9_min_7cf53_0 : decode cJ9_min_7cf53 0 = .ok (.iload_n 0, 1) := by decide +kernel
theorem dJ9_min_7cf53_1 : decode cJ9_min_7cf53 1 = .ok (.iload_n 1, 1) := by decide +kernel
theorem dJ9_min_7cf53_2 : decode cJ9_min_7cf53 2 = .ok (.if_icmp .gt 7, 3) := by decide +kernel
theorem dJ9_min_7cf53_5 : decode cJ9_min_7cf53 5 = .ok (.iload_n 0, 1) := by decide +kernel
theorem dJ9_min_7cf53_6 : decode cJ9_min_7cf53 6 = .ok (.goto 4, 3) := by decide +kernel
theorem dJ9_min_7cf53_9 : decode cJ9_min_7cf53 9 = .ok (.iload_n 1, 1) := by decide +kernel
theorem dJ9_min_7cf53_10 : decode cJ9_min_7cf53 10 = .ok (.ireturn, 1) := by decide +kernel
theorem dJ7_fill_d0a16_0 : decode cJ7_fill_d0a16 0 = .ok (.iconst 0, 1) := by decide +kernel
theorem dJ7_fill_d0a16_1 : decode cJ7_fill_d0a16 1 = .ok (.istore_n 3, 1) := by decide +kernel
theorem dJ7_fill_d0a16_2 : decode cJ7_fill_d0a16 2 = .ok (.aload_n 0, 1) := by decide +kernel
theorem dJ7_fill_d0a16_3 : decode cJ7_fill_d0a16 3 = .ok (.arraylength, 1) := by decide +kernel
theorem dJ7_fill_d0a16_4 : decode cJ7_fill_d0a16 4 = .ok (.istore 4, 2) := by decide +kernel
theorem dJ7_fill_d0a16_6 : decode cJ7_fill_d0a16 6 = .ok (.iload_n 3, 1) := by decide +kernel
theorem dJ7_fill_d0a16_7 : decode cJ7_fill_d0a16 7 = .ok (.iload 4, 2) := by decide +kernel
theorem dJ7_fill_d0a16_9 : decode cJ7_fill_d0a16 9 = .ok (.if_icmp .ge 13, 3) := by decide +kernel
theorem dJ7_fill_d0a16_12 : decode cJ7_fill_d0a16 12 = .ok (.aload_n 0, 1) := by decide +kernel
theorem dJ7_fill_d0a16_13 : decode cJ7_fill_d0a16 13 = .ok (.iload_n 3, 1) := by decide +kernel
theorem dJ7_fill_d0a16_14 : decode cJ7_fill_d0a16 14 = .ok (.lload_n 1, 1) := by decide +kernel
theorem dJ7_fill_d0a16_15 : decode cJ7_fill_d0a16 15 = .ok (.lastore, 1) := by decide +kernel
theorem dJ7_fill_d0a16_16 : decode cJ7_fill_d0a16 16 = .ok (.iinc 3 1, 3) := by decide +kernel
theorem dJ7_fill_d0a16_19 : decode cJ7_fill_d0a16 19 = .ok (.goto (-13), 3) := by decide +kernel
theorem dJ7_fill_d0a16_22 : decode cJ7_fill_d0a16 22 = .ok (.return_, 1) := by decide +kernel
theorem dJ7_fill_53178_0 : decode cJ7_fill_53178 0 = .ok (.iconst 0, 1) := by decide +kernel
theorem dJ7_fill_53178_1 : decode cJ7_fill_53178 1 = .ok (.istore_n 2, 1) := by decide +kernel
theorem dJ7_fill_53178_2 : decode cJ7_fill_53178 2 = .ok (.aload_n 0, 1) := by decide +kernel
theorem dJ7_fill_53178_3 : decode cJ7_fill_53178 3 = .ok (.arraylength, 1) := by decide +kernel
theorem dJ7_fill_53178_4 : decode cJ7_fill_53178 4 = .ok (.istore_n 3, 1) := by decide +kernel
theorem dJ7_fill_53178_5 : decode cJ7_fill_53178 5 = .ok (.iload_n 2, 1) := by decide +kernel
theorem dJ7_fill_53178_6 : decode cJ7_fill_53178 6 = .ok (.iload_n 3, 1) := by decide +kernel
theorem dJ7_fill_53178_7 : decode cJ7_fill_53178 7 = .ok (.if_icmp .ge 13, 3) := by decide +kernel
theorem dJ7_fill_53178_10 : decode cJ7_fill_53178 10 = .ok (.aload_n 0, 1) := by decide +kernel
theorem dJ7_fill_53178_11 : decode cJ7_fill_53178 11 = .ok (.iload_n 2, 1) := by decide +kernel
theorem dJ7_fill_53178_12 : decode cJ7_fill_53178 12 = .ok (.iload_n 1, 1) := by decide +kernel
theorem dJ7_fill_53178_13 : decode cJ7_fill_53178 13 = .ok (.iastore, 1) := by decide +kernel
theorem dJ7_fill_53178_14 : decode cJ7_fill_53178 14 = .ok (.iinc 2 1, 3) := by decide +kernel
theorem dJ7_fill_53178_17 : decode cJ7_fill_53178 17 = .ok (.goto (-12), 3) := by decide +kernel
theorem dJ7_fill_53178_20 : decode cJ7_fill_53178 20 = .ok (.return_, 1) := by decide +kernel
theorem dL_law_0 : decode cL_law 0 = .ok (.new 7, 3) := by decide +kernel
theorem dL_law_3 : decode cL_law 3 = .ok (.dup, 1) := by decide +kernel
theorem dL_law_4 : decode cL_law 4 = .ok (.invokespecial 9, 3) := by decide +kernel
theorem dL_law_7 : decode cL_law 7 = .ok (.astore_n 1, 1) := by decide +kernel
theorem dL_law_8 : decode cL_law 8 = .ok (.new 10, 3) := by decide +kernel
theorem dL_law_11 : decode cL_law 11 = .ok (.dup, 1) := by decide +kernel
theorem dL_law_12 : decode cL_law 12 = .ok (.invokespecial 12, 3) := by decide +kernel
theorem dL_law_15 : decode cL_law 15 = .ok (.astore_n 2, 1) := by decide +kernel
theorem dL_law_16 : decode cL_law 16 = .ok (.iconst 0, 1) := by decide +kernel
theorem dL_law_17 : decode cL_law 17 = .ok (.istore_n 3, 1) := by decide +kernel
theorem dL_law_18 : decode cL_law 18 = .ok (.iload_n 3, 1) := by decide +kernel
theorem dL_law_19 : decode cL_law 19 = .ok (.aload_n 0, 1) := by decide +kernel
theorem dL_law_20 : decode cL_law 20 = .ok (.arraylength, 1) := by decide +kernel
theorem dL_law_21 : decode cL_law 21 = .ok (.bipush 6, 2) := by decide +kernel
theorem dL_law_23 : decode cL_law 23 = .ok (.isub, 1) := by decide +kernel
theorem dL_law_24 : decode cL_law 24 = .ok (.if_icmp .gt 1857, 3) := by decide +kernel
theorem dL_law_27 : decode cL_law 27 = .ok (.aload_n 0, 1) := by decide +kernel
theorem dL_law_28 : decode cL_law 28 = .ok (.iload_n 3, 1) := by decide +kernel
theorem dL_law_29 : decode cL_law 29 = .ok (.iaload, 1) := by decide +kernel
theorem dL_law_30 : decode cL_law 30 = .ok (.bipush 63, 2) := by decide +kernel
theorem dL_law_32 : decode cL_law 32 = .ok (.iand, 1) := by decide +kernel
theorem dL_law_33 : decode cL_law 33 = .ok (.tableswitch 1842 0 51 #[223, 256, 289, 332, 355, 368, 391, 424, 437, 480, 513, 536, 559, 572, 595, 618, 651, 684, 717, 750, 773, 806, 839, 872, 905, 948, 981, 1024, 1037, 1060, 1103, 1146, 1169, 1202, 1215, 1248, 1281, 1314, 1347, 1370, 1403, 1467, 1491, 1524, 1547, 1580, 1593, 1606, 1629, 1672, 1745, 1779], 223) := by decide +kernel
theorem dL_law_256 : decode cL_law 256 = .ok (.aload_n 1, 1) := by decide +kernel
theorem dL_law_257 : decode cL_law 257 = .ok (.aload_n 0, 1) := by decide +kernel
theorem dL_law_258 : decode cL_law 258 = .ok (.iload_n 3, 1) := by decide +kernel
theorem dL_law_259 : decode cL_law 259 = .ok (.iconst 1, 1) := by decide +kernel
theorem dL_law_260 : decode cL_law 260 = .ok (.iadd, 1) := by decide +kernel
theorem dL_law_261 : decode cL_law 261 = .ok (.iaload, 1) := by decide +kernel
theorem dL_law_262 : decode cL_law 262 = .ok (.aload_n 0, 1) := by decide +kernel
theorem dL_law_263 : decode cL_law 263 = .ok (.iload_n 3, 1) := by decide +kernel
theorem dL_law_264 : decode cL_law 264 = .ok (.iconst 2, 1) := by decide +kernel
theorem dL_law_265 : decode cL_law 265 = .ok (.iadd, 1) := by decide +kernel
theorem dL_law_266 : decode cL_law 266 = .ok (.iaload, 1) := by decide +kernel
theorem dL_law_267 : decode cL_law 267 = .ok (.invokevirtual 13, 3) := by decide +kernel
theorem dL_law_270 : decode cL_law 270 = .ok (.aload_n 2, 1) := by decide +kernel
theorem dL_law_271 : decode cL_law 271 = .ok (.aload_n 0, 1) := by decide +kernel
theorem dL_law_272 : decode cL_law 272 = .ok (.iload_n 3, 1) := by decide +kernel
theorem dL_law_273 : decode cL_law 273 = .ok (.iconst 1, 1) := by decide +kernel
theorem dL_law_274 : decode cL_law 274 = .ok (.iadd, 1) := by decide +kernel
theorem dL_law_275 : decode cL_law 275 = .ok (.iaload, 1) := by decide +kernel
theorem dL_law_276 : decode cL_law 276 = .ok (.aload_n 0, 1) := by decide +kernel
theorem dL_law_277 : decode cL_law 277 = .ok (.iload_n 3, 1) := by decide +kernel
theorem dL_law_278 : decode cL_law 278 = .ok (.iconst 2, 1) := by decide +kernel
theorem dL_law_279 : decode cL_law 279 = .ok (.iadd, 1) := by decide +kernel
theorem dL_law_280 : decode cL_law 280 = .ok (.iaload, 1) := by decide +kernel
theorem dL_law_281 : decode cL_law 281 = .ok (.invokevirtual 17, 3) := by decide +kernel
theorem dL_law_284 : decode cL_law 284 = .ok (.if_icmp .eq 1591, 3) := by decide +kernel
theorem dL_law_287 : decode cL_law 287 = .ok (.iconst 0, 1) := by decide +kernel
theorem dL_law_288 : decode cL_law 288 = .ok (.ireturn, 1) := by decide +kernel
theorem dL_law_289 : decode cL_law 289 = .ok (.aload_n 1, 1) := by decide +kernel
theorem dL_law_290 : decode cL_law 290 = .ok (.aload_n 0, 1) := by decide +kernel
theorem dL_law_291 : decode cL_law 291 = .ok (.iload_n 3, 1) := by decide +kernel
theorem dL_law_292 : decode cL_law 292 = .ok (.iconst 1, 1) := by decide +kernel
theorem dL_law_293 : decode cL_law 293 = .ok (.iadd, 1) := by decide +kernel
theorem dL_law_294 : decode cL_law 294 = .ok (.iaload, 1) := by decide +kernel
theorem dL_law_295 : decode cL_law 295 = .ok (.aload_n 0, 1) := by decide +kernel
theorem dL_law_296 : decode cL_law 296 = .ok (.iload_n 3, 1) := by decide +kernel
theorem dL_law_297 : decode cL_law 297 = .ok (.iconst 2, 1) := by decide +kernel
theorem dL_law_298 : decode cL_law 298 = .ok (.iadd, 1) := by decide +kernel
theorem dL_law_299 : decode cL_law 299 = .ok (.iaload, 1) := by decide +kernel
theorem dL_law_300 : decode cL_law 300 = .ok (.invokevirtual 18, 3) := by decide +kernel
theorem dL_law_303 : decode cL_law 303 = .ok (.aload_n 2, 1) := by decide +kernel
theorem dL_law_304 : decode cL_law 304 = .ok (.aload_n 0, 1) := by decide +kernel
theorem dL_law_305 : decode cL_law 305 = .ok (.iload_n 3, 1) := by decide +kernel
theorem dL_law_306 : decode cL_law 306 = .ok (.iconst 1, 1) := by decide +kernel
theorem dL_law_307 : decode cL_law 307 = .ok (.iadd, 1) := by decide +kernel
theorem dL_law_308 : decode cL_law 308 = .ok (.iaload, 1) := by decide +kernel
theorem dL_law_309 : decode cL_law 309 = .ok (.aload_n 0, 1) := by decide +kernel
theorem dL_law_310 : decode cL_law 310 = .ok (.iload_n 3, 1) := by decide +kernel
theorem dL_law_311 : decode cL_law 311 = .ok (.iconst 2, 1) := by decide +kernel
theorem dL_law_312 : decode cL_law 312 = .ok (.iadd, 1) := by decide +kernel
theorem dL_law_313 : decode cL_law 313 = .ok (.iaload, 1) := by decide +kernel
theorem dL_law_314 : decode cL_law 314 = .ok (.invokevirtual 21, 3) := by decide +kernel
theorem dL_law_317 : decode cL_law 317 = .ok (.if_icmp .eq 1558, 3) := by decide +kernel
theorem dL_law_320 : decode cL_law 320 = .ok (.iconst 0, 1) := by decide +kernel
theorem dL_law_321 : decode cL_law 321 = .ok (.ireturn, 1) := by decide +kernel
theorem dL_law_322 : decode cL_law 322 = .ok (.aload_n 1, 1) := by decide +kernel
theorem dL_law_323 : decode cL_law 323 = .ok (.aload_n 0, 1) := by decide +kernel
theorem dL_law_324 : decode cL_law 324 = .ok (.iload_n 3, 1) := by decide +kernel
theorem dL_law_325 : decode cL_law 325 = .ok (.iconst 1, 1) := by decide +kernel
theorem dL_law_326 : decode cL_law 326 = .ok (.iadd, 1) := by decide +kernel
theorem dL_law_327 : decode cL_law 327 = .ok (.iaload, 1) := by decide +kernel
theorem dL_law_328 : decode cL_law 328 = .ok (.aload_n 0, 1) := by decide +kernel
theorem dL_law_329 : decode cL_law 329 = .ok (.iload_n 3, 1) := by decide +kernel
theorem dL_law_330 : decode cL_law 330 = .ok (.iconst 2, 1) := by decide +kernel
theorem dL_law_331 : decode cL_law 331 = .ok (.iadd, 1) := by decide +kernel
theorem dL_law_332 : decode cL_law 332 = .ok (.iaload, 1) := by decide +kernel
theorem dL_law_333 : decode cL_law 333 = .ok (.aload_n 0, 1) := by decide +kernel
theorem dL_law_334 : decode cL_law 334 = .ok (.iload_n 3, 1) := by decide +kernel
theorem dL_law_335 : decode cL_law 335 = .ok (.iconst 3, 1) := by decide +kernel
theorem dL_law_336 : decode cL_law 336 = .ok (.iadd, 1) := by decide +kernel
theorem dL_law_337 : decode cL_law 337 = .ok (.iaload, 1) := by decide +kernel
theorem dL_law_338 : decode cL_law 338 = .ok (.invokevirtual 22, 3) := by decide +kernel
theorem dL_law_341 : decode cL_law 341 = .ok (.aload_n 2, 1) := by decide +kernel
theorem dL_law_342 : decode cL_law 342 = .ok (.aload_n 0, 1) := by decide +kernel
theorem dL_law_343 : decode cL_law 343 = .ok (.iload_n 3, 1) := by decide +kernel
theorem dL_law_344 : decode cL_law 344 = .ok (.iconst 1, 1) := by decide +kernel
theorem dL_law_345 : decode cL_law 345 = .ok (.iadd, 1) := by decide +kernel
theorem dL_law_346 : decode cL_law 346 = .ok (.iaload, 1) := by decide +kernel
theorem dL_law_347 : decode cL_law 347 = .ok (.aload_n 0, 1) := by decide +kernel
theorem dL_law_348 : decode cL_law 348 = .ok (.iload_n 3, 1) := by decide +kernel
theorem dL_law_349 : decode cL_law 349 = .ok (.iconst 2, 1) := by decide +kernel
theorem dL_law_350 : decode cL_law 350 = .ok (.iadd, 1) := by decide +kernel
theorem dL_law_351 : decode cL_law 351 = .ok (.iaload, 1) := by decide +kernel
theorem dL_law_352 : decode cL_law 352 = .ok (.aload_n 0, 1) := by decide +kernel
theorem dL_law_353 : decode cL_law 353 = .ok (.iload_n 3, 1) := by decide +kernel
theorem dL_law_354 : decode cL_law 354 = .ok (.iconst 3, 1) := by decide +kernel
theorem dL_law_355 : decode cL_law 355 = .ok (.iadd, 1) := by decide +kernel
theorem dL_law_356 : decode cL_law 356 = .ok (.iaload, 1) := by decide +kernel
theorem dL_law_357 : decode cL_law 357 = .ok (.invokevirtual 26, 3) := by decide +kernel
theorem dL_law_360 : decode cL_law 360 = .ok (.if_icmp .eq 1515, 3) := by decide +kernel
theorem dL_law_363 : decode cL_law 363 = .ok (.iconst 0, 1) := by decide +kernel
theorem dL_law_364 : decode cL_law 364 = .ok (.ireturn, 1) := by decide +kernel
theorem dL_law_365 : decode cL_law 365 = .ok (.aload_n 1, 1) := by decide +kernel
theorem dL_law_366 : decode cL_law 366 = .ok (.aload_n 0, 1) := by decide +kernel
theorem dL_law_367 : decode cL_law 367 = .ok (.iload_n 3, 1) := by decide +kernel
theorem dL_law_368 : decode cL_law 368 = .ok (.iconst 1, 1) := by decide +kernel
theorem dL_law_369 : decode cL_law 369 = .ok (.iadd, 1) := by decide +kernel
theorem dL_law_370 : decode cL_law 370 = .ok (.iaload, 1) := by decide +kernel
theorem dL_law_371 : decode cL_law 371 = .ok (.invokevirtual 27, 3) := by decide +kernel
theorem dL_law_374 : decode cL_law 374 = .ok (.aload_n 2, 1) := by decide +kernel
theorem dL_law_375 : decode cL_law 375 = .ok (.aload_n 0, 1) := by decide +kernel
theorem dL_law_376 : decode cL_law 376 = .ok (.iload_n 3, 1) := by decide +kernel
theorem dL_law_377 : decode cL_law 377 = .ok (.iconst 1, 1) := by decide +kernel
theorem dL_law_378 : decode cL_law 378 = .ok (.iadd, 1) := by decide +kernel
theorem dL_law_379 : decode cL_law 379 = .ok (.iaload, 1) := by decide +kernel
theorem dL_law_380 : decode cL_law 380 = .ok (.invokevirtual 31, 3) := by decide +kernel
theorem dL_law_383 : decode cL_law 383 = .ok (.if_icmp .eq 1492, 3) := by decide +kernel
theorem dL_law_386 : decode cL_law 386 = .ok (.iconst 0, 1) := by decide +kernel
theorem dL_law_387 : decode cL_law 387 = .ok (.ireturn, 1) := by decide +kernel
theorem dL_law_388 : decode cL_law 388 = .ok (.aload_n 1, 1) := by decide +kernel
theorem dL_law_389 : decode cL_law 389 = .ok (.invokevirtual 32, 3) := by decide +kernel
theorem dL_law_392 : decode cL_law 392 = .ok (.aload_n 2, 1) := by decide +kernel
theorem dL_law_393 : decode cL_law 393 = .ok (.invokevirtual 36, 3) := by decide +kernel
theorem dL_law_396 : decode cL_law 396 = .ok (.if_icmp .eq 1479, 3) := by decide +kernel
theorem dL_law_399 : decode cL_law 399 = .ok (.iconst 0, 1) := by decide +kernel
theorem dL_law_400 : decode cL_law 400 = .ok (.ireturn, 1) := by decide +kernel
theorem dL_law_401 : decode cL_law 401 = .ok (.aload_n 1, 1) := by decide +kernel
theorem dL_law_402 : decode cL_law 402 = .ok (.aload_n 0, 1) := by decide +kernel
theorem dL_law_403 : decode cL_law 403 = .ok (.iload_n 3, 1) := by decide +kernel
theorem dL_law_404 : decode cL_law 404 = .ok (.iconst 1, 1) := by decide +kernel
theorem dL_law_405 : decode cL_law 405 = .ok (.iadd, 1) := by decide +kernel
theorem dL_law_406 : decode cL_law 406 = .ok (.iaload, 1) := by decide +kernel
theorem dL_law_407 : decode cL_law 407 = .ok (.invokevirtual 37, 3) := by decide +kernel
theorem dL_law_410 : decode cL_law 410 = .ok (.aload_n 2, 1) := by decide +kernel
theorem dL_law_411 : decode cL_law 411 = .ok (.aload_n 0, 1) := by decide +kernel
theorem dL_law_412 : decode cL_law 412 = .ok (.iload_n 3, 1) := by decide +kernel
theorem dL_law_413 : decode cL_law 413 = .ok (.iconst 1, 1) := by decide +kernel
theorem dL_law_414 : decode cL_law 414 = .ok (.iadd, 1) := by decide +kernel
theorem dL_law_415 : decode cL_law 415 = .ok (.iaload, 1) := by decide +kernel
theorem dL_law_416 : decode cL_law 416 = .ok (.invokevirtual 40, 3) := by decide +kernel
theorem dL_law_419 : decode cL_law 419 = .ok (.if_icmp .eq 1456, 3) := by decide +kernel
theorem dL_law_422 : decode cL_law 422 = .ok (.iconst 0, 1) := by decide +kernel
theorem dL_law_423 : decode cL_law 423 = .ok (.ireturn, 1) := by decide +kernel
theorem dL_law_424 : decode cL_law 424 = .ok (.aload_n 1, 1) := by decide +kernel
theorem dL_law_425 : decode cL_law 425 = .ok (.aload_n 0, 1) := by decide +kernel
theorem dL_law_426 : decode cL_law 426 = .ok (.iload_n 3, 1) := by decide +kernel
theorem dL_law_427 : decode cL_law 427 = .ok (.iconst 1, 1) := by decide +kernel
theorem dL_law_428 : decode cL_law 428 = .ok (.iadd, 1) := by decide +kernel
theorem dL_law_429 : decode cL_law 429 = .ok (.iaload, 1) := by decide +kernel
theorem dL_law_430 : decode cL_law 430 = .ok (.aload_n 0, 1) := by decide +kernel
theorem dL_law_431 : decode cL_law 431 = .ok (.iload_n 3, 1) := by decide +kernel
theorem dL_law_432 : decode cL_law 432 = .ok (.iconst 2, 1) := by decide +kernel
theorem dL_law_433 : decode cL_law 433 = .ok (.iadd, 1) := by decide +kernel
theorem dL_law_434 : decode cL_law 434 = .ok (.iaload, 1) := by decide +kernel
theorem dL_law_435 : decode cL_law 435 = .ok (.invokevirtual 41, 3) := by decide +kernel
theorem dL_law_438 : decode cL_law 438 = .ok (.aload_n 2, 1) := by decide +kernel
theorem dL_law_439 : decode cL_law 439 = .ok (.aload_n 0, 1) := by decide +kernel
theorem dL_law_440 : decode cL_law 440 = .ok (.iload_n 3, 1) := by decide +kernel
theorem dL_law_441 : decode cL_law 441 = .ok (.iconst 1, 1) := by decide +kernel
theorem dL_law_442 : decode cL_law 442 = .ok (.iadd, 1) := by decide +kernel
theorem dL_law_443 : decode cL_law 443 = .ok (.iaload, 1) := by decide +kernel
theorem dL_law_444 : decode cL_law 444 = .ok (.aload_n 0, 1) := by decide +kernel
theorem dL_law_445 : decode cL_law 445 = .ok (.iload_n 3, 1) := by decide +kernel
theorem dL_law_446 : decode cL_law 446 = .ok (.iconst 2, 1) := by decide +kernel
theorem dL_law_447 : decode cL_law 447 = .ok (.iadd, 1) := by decide +kernel
theorem dL_law_448 : decode cL_law 448 = .ok (.iaload, 1) := by decide +kernel
theorem dL_law_449 : decode cL_law 449 = .ok (.invokevirtual 44, 3) := by decide +kernel
theorem dL_law_452 : decode cL_law 452 = .ok (.if_icmp .eq 1423, 3) := by decide +kernel
theorem dL_law_455 : decode cL_law 455 = .ok (.iconst 0, 1) := by decide +kernel
theorem dL_law_456 : decode cL_law 456 = .ok (.ireturn, 1) := by decide +kernel
theorem dL_law_457 : decode cL_law 457 = .ok (.aload_n 1, 1) := by decide +kernel
theorem dL_law_458 : decode cL_law 458 = .ok (.invokevirtual 45, 3) := by decide +kernel
theorem dL_law_461 : decode cL_law 461 = .ok (.aload_n 2, 1) := by decide +kernel
theorem dL_law_462 : decode cL_law 462 = .ok (.invokevirtual 48, 3) := by decide +kernel
theorem dL_law_465 : decode cL_law 465 = .ok (.if_icmp .eq 1410, 3) := by decide +kernel
theorem dL_law_468 : decode cL_law 468 = .ok (.iconst 0, 1) := by decide +kernel
theorem dL_law_469 : decode cL_law 469 = .ok (.ireturn, 1) := by decide +kernel
theorem dL_law_470 : decode cL_law 470 = .ok (.aload_n 1, 1) := by decide +kernel
theorem dL_law_471 : decode cL_law 471 = .ok (.aload_n 0, 1) := by decide +kernel
theorem dL_law_472 : decode cL_law 472 = .ok (.iload_n 3, 1) := by decide +kernel
theorem dL_law_473 : decode cL_law 473 = .ok (.iconst 1, 1) := by decide +kernel
theorem dL_law_474 : decode cL_law 474 = .ok (.iadd, 1) := by decide +kernel
theorem dL_law_475 : decode cL_law 475 = .ok (.iaload, 1) := by decide +kernel
theorem dL_law_476 : decode cL_law 476 = .ok (.aload_n 0, 1) := by decide +kernel
theorem dL_law_477 : decode cL_law 477 = .ok (.iload_n 3, 1) := by decide +kernel
theorem dL_law_478 : decode cL_law 478 = .ok (.iconst 2, 1) := by decide +kernel
theorem dL_law_479 : decode cL_law 479 = .ok (.iadd, 1) := by decide +kernel
theorem dL_law_480 : decode cL_law 480 = .ok (.iaload, 1) := by decide +kernel
theorem dL_law_481 : decode cL_law 481 = .ok (.aload_n 0, 1) := by decide +kernel
theorem dL_law_482 : decode cL_law 482 = .ok (.iload_n 3, 1) := by decide +kernel
theorem dL_law_483 : decode cL_law 483 = .ok (.iconst 3, 1) := by decide +kernel
theorem dL_law_484 : decode cL_law 484 = .ok (.iadd, 1) := by decide +kernel
theorem dL_law_485 : decode cL_law 485 = .ok (.iaload, 1) := by decide +kernel
theorem dL_law_486 : decode cL_law 486 = .ok (.invokevirtual 49, 3) := by decide +kernel
theorem dL_law_489 : decode cL_law 489 = .ok (.aload_n 2, 1) := by decide +kernel
theorem dL_law_490 : decode cL_law 490 = .ok (.aload_n 0, 1) := by decide +kernel
theorem dL_law_491 : decode cL_law 491 = .ok (.iload_n 3, 1) := by decide +kernel
theorem dL_law_492 : decode cL_law 492 = .ok (.iconst 1, 1) := by decide +kernel
theorem dL_law_493 : decode cL_law 493 = .ok (.iadd, 1) := by decide +kernel
theorem dL_law_494 : decode cL_law 494 = .ok (.iaload, 1) := by decide +kernel
theorem dL_law_495 : decode cL_law 495 = .ok (.aload_n 0, 1) := by decide +kernel
theorem dL_law_496 : decode cL_law 496 = .ok (.iload_n 3, 1) := by decide +kernel
theorem dL_law_497 : decode cL_law 497 = .ok (.iconst 2, 1) := by decide +kernel
theorem dL_law_498 : decode cL_law 498 = .ok (.iadd, 1) := by decide +kernel
theorem dL_law_499 : decode cL_law 499 = .ok (.iaload, 1) := by decide +kernel
theorem dL_law_500 : decode cL_law 500 = .ok (.aload_n 0, 1) := by decide +kernel
theorem dL_law_501 : decode cL_law 501 = .ok (.iload_n 3, 1) := by decide +kernel
theorem dL_law_502 : decode cL_law 502 = .ok (.iconst 3, 1) := by decide +kernel
theorem dL_law_503 : decode cL_law 503 = .ok (.iadd, 1) := by decide +kernel
theorem dL_law_504 : decode cL_law 504 = .ok (.iaload, 1) := by decide +kernel
theorem dL_law_505 : decode cL_law 505 = .ok (.invokevirtual 52, 3) := by decide +kernel
theorem dL_law_508 : decode cL_law 508 = .ok (.if_icmp .eq 1367, 3) := by decide +kernel
theorem dL_law_511 : decode cL_law 511 = .ok (.iconst 0, 1) := by decide +kernel
theorem dL_law_512 : decode cL_law 512 = .ok (.ireturn, 1) := by decide +kernel
theorem dL_law_513 : decode cL_law 513 = .ok (.aload_n 1, 1) := by decide +kernel
theorem dL_law_514 : decode cL_law 514 = .ok (.aload_n 0, 1) := by decide +kernel
theorem dL_law_515 : decode cL_law 515 = .ok (.iload_n 3, 1) := by decide +kernel
theorem dL_law_516 : decode cL_law 516 = .ok (.iconst 1, 1) := by decide +kernel
theorem dL_law_517 : decode cL_law 517 = .ok (.iadd, 1) := by decide +kernel
theorem dL_law_518 : decode cL_law 518 = .ok (.iaload, 1) := by decide +kernel
theorem dL_law_519 : decode cL_law 519 = .ok (.aload_n 0, 1) := by decide +kernel
theorem dL_law_520 : decode cL_law 520 = .ok (.iload_n 3, 1) := by decide +kernel
theorem dL_law_521 : decode cL_law 521 = .ok (.iconst 2, 1) := by decide +kernel
theorem dL_law_522 : decode cL_law 522 = .ok (.iadd, 1) := by decide +kernel
theorem dL_law_523 : decode cL_law 523 = .ok (.iaload, 1) := by decide +kernel
theorem dL_law_524 : decode cL_law 524 = .ok (.invokevirtual 53, 3) := by decide +kernel
theorem dL_law_527 : decode cL_law 527 = .ok (.aload_n 2, 1) := by decide +kernel
theorem dL_law_528 : decode cL_law 528 = .ok (.aload_n 0, 1) := by decide +kernel
theorem dL_law_529 : decode cL_law 529 = .ok (.iload_n 3, 1) := by decide +kernel
theorem dL_law_530 : decode cL_law 530 = .ok (.iconst 1, 1) := by decide +kernel
theorem dL_law_531 : decode cL_law 531 = .ok (.iadd, 1) := by decide +kernel
theorem dL_law_532 : decode cL_law 532 = .ok (.iaload, 1) := by decide +kernel
theorem dL_law_533 : decode cL_law 533 = .ok (.aload_n 0, 1) := by decide +kernel
theorem dL_law_534 : decode cL_law 534 = .ok (.iload_n 3, 1) := by decide +kernel
theorem dL_law_535 : decode cL_law 535 = .ok (.iconst 2, 1) := by decide +kernel
theorem dL_law_536 : decode cL_law 536 = .ok (.iadd, 1) := by decide +kernel
theorem dL_law_537 : decode cL_law 537 = .ok (.iaload, 1) := by decide +kernel
theorem dL_law_538 : decode cL_law 538 = .ok (.invokevirtual 56, 3) := by decide +kernel
theorem dL_law_541 : decode cL_law 541 = .ok (.if_icmp .eq 1334, 3) := by decide +kernel
theorem dL_law_544 : decode cL_law 544 = .ok (.iconst 0, 1) := by decide +kernel
theorem dL_law_545 : decode cL_law 545 = .ok (.ireturn, 1) := by decide +kernel
theorem dL_law_546 : decode cL_law 546 = .ok (.aload_n 1, 1) := by decide +kernel
theorem dL_law_547 : decode cL_law 547 = .ok (.aload_n 0, 1) := by decide +kernel
theorem dL_law_548 : decode cL_law 548 = .ok (.iload_n 3, 1) := by decide +kernel
theorem dL_law_549 : decode cL_law 549 = .ok (.iconst 1, 1) := by decide +kernel
theorem dL_law_550 : decode cL_law 550 = .ok (.iadd, 1) := by decide +kernel
theorem dL_law_551 : decode cL_law 551 = .ok (.iaload, 1) := by decide +kernel
theorem dL_law_552 : decode cL_law 552 = .ok (.invokevirtual 57, 3) := by decide +kernel
theorem dL_law_555 : decode cL_law 555 = .ok (.aload_n 2, 1) := by decide +kernel
theorem dL_law_556 : decode cL_law 556 = .ok (.aload_n 0, 1) := by decide +kernel
theorem dL_law_557 : decode cL_law 557 = .ok (.iload_n 3, 1) := by decide +kernel
theorem dL_law_558 : decode cL_law 558 = .ok (.iconst 1, 1) := by decide +kernel
theorem dL_law_559 : decode cL_law 559 = .ok (.iadd, 1) := by decide +kernel
theorem dL_law_560 : decode cL_law 560 = .ok (.iaload, 1) := by decide +kernel
theorem dL_law_561 : decode cL_law 561 = .ok (.invokevirtual 60, 3) := by decide +kernel
theorem dL_law_564 : decode cL_law 564 = .ok (.if_icmp .eq 1311, 3) := by decide +kernel
theorem dL_law_567 : decode cL_law 567 = .ok (.iconst 0, 1) := by decide +kernel
theorem dL_law_568 : decode cL_law 568 = .ok (.ireturn, 1) := by decide +kernel
theorem dL_law_569 : decode cL_law 569 = .ok (.aload_n 1, 1) := by decide +kernel
theorem dL_law_570 : decode cL_law 570 = .ok (.aload_n 0, 1) := by decide +kernel
theorem dL_law_571 : decode cL_law 571 = .ok (.iload_n 3, 1) := by decide +kernel
theorem dL_law_572 : decode cL_law 572 = .ok (.iconst 1, 1) := by decide +kernel
theorem dL_law_573 : decode cL_law 573 = .ok (.iadd, 1) := by decide +kernel
theorem dL_law_574 : decode cL_law 574 = .ok (.iaload, 1) := by decide +kernel
theorem dL_law_575 : decode cL_law 575 = .ok (.invokevirtual 61, 3) := by decide +kernel
theorem dL_law_578 : decode cL_law 578 = .ok (.aload_n 2, 1) := by decide +kernel
theorem dL_law_579 : decode cL_law 579 = .ok (.aload_n 0, 1) := by decide +kernel
theorem dL_law_580 : decode cL_law 580 = .ok (.iload_n 3, 1) := by decide +kernel
theorem dL_law_581 : decode cL_law 581 = .ok (.iconst 1, 1) := by decide +kernel
theorem dL_law_582 : decode cL_law 582 = .ok (.iadd, 1) := by decide +kernel
theorem dL_law_583 : decode cL_law 583 = .ok (.iaload, 1) := by decide +kernel
theorem dL_law_584 : decode cL_law 584 = .ok (.invokevirtual 64, 3) := by decide +kernel
theorem dL_law_587 : decode cL_law 587 = .ok (.if_icmp .eq 1288, 3) := by decide +kernel
theorem dL_law_590 : decode cL_law 590 = .ok (.iconst 0, 1) := by decide +kernel
theorem dL_law_591 : decode cL_law 591 = .ok (.ireturn, 1) := by decide +kernel
theorem dL_law_592 : decode cL_law 592 = .ok (.aload_n 1, 1) := by decide +kernel
theorem dL_law_593 : decode cL_law 593 = .ok (.invokevirtual 65, 3) := by decide +kernel
theorem dL_law_596 : decode cL_law 596 = .ok (.aload_n 2, 1) := by decide +kernel
theorem dL_law_597 : decode cL_law 597 = .ok (.invokevirtual 68, 3) := by decide +kernel
theorem dL_law_600 : decode cL_law 600 = .ok (.if_icmp .eq 1275, 3) := by decide +kernel
theorem dL_law_603 : decode cL_law 603 = .ok (.iconst 0, 1) := by decide +kernel
theorem dL_law_604 : decode cL_law 604 = .ok (.ireturn, 1) := by decide +kernel
theorem dL_law_605 : decode cL_law 605 = .ok (.aload_n 1, 1) := by decide +kernel
theorem dL_law_606 : decode cL_law 606 = .ok (.aload_n 0, 1) := by decide +kernel
theorem dL_law_607 : decode cL_law 607 = .ok (.iload_n 3, 1) := by decide +kernel
theorem dL_law_608 : decode cL_law 608 = .ok (.iconst 1, 1) := by decide +kernel
theorem dL_law_609 : decode cL_law 609 = .ok (.iadd, 1) := by decide +kernel
theorem dL_law_610 : decode cL_law 610 = .ok (.iaload, 1) := by decide +kernel
theorem dL_law_611 : decode cL_law 611 = .ok (.invokevirtual 69, 3) := by decide +kernel
theorem dL_law_614 : decode cL_law 614 = .ok (.aload_n 2, 1) := by decide +kernel
theorem dL_law_615 : decode cL_law 615 = .ok (.aload_n 0, 1) := by decide +kernel
theorem dL_law_616 : decode cL_law 616 = .ok (.iload_n 3, 1) := by decide +kernel
theorem dL_law_617 : decode cL_law 617 = .ok (.iconst 1, 1) := by decide +kernel
theorem dL_law_618 : decode cL_law 618 = .ok (.iadd, 1) := by decide +kernel
theorem dL_law_619 : decode cL_law 619 = .ok (.iaload, 1) := by decide +kernel
theorem dL_law_620 : decode cL_law 620 = .ok (.invokevirtual 72, 3) := by decide +kernel
theorem dL_law_623 : decode cL_law 623 = .ok (.if_icmp .eq 1252, 3) := by decide +kernel
theorem dL_law_626 : decode cL_law 626 = .ok (.iconst 0, 1) := by decide +kernel
theorem dL_law_627 : decode cL_law 627 = .ok (.ireturn, 1) := by decide +kernel
theorem dL_law_628 : decode cL_law 628 = .ok (.aload_n 1, 1) := by decide +kernel
theorem dL_law_629 : decode cL_law 629 = .ok (.aload_n 0, 1) := by decide +kernel
theorem dL_law_630 : decode cL_law 630 = .ok (.iload_n 3, 1) := by decide +kernel
theorem dL_law_631 : decode cL_law 631 = .ok (.iconst 1, 1) := by decide +kernel
theorem dL_law_632 : decode cL_law 632 = .ok (.iadd, 1) := by decide +kernel
theorem dL_law_633 : decode cL_law 633 = .ok (.iaload, 1) := by decide +kernel
theorem dL_law_634 : decode cL_law 634 = .ok (.invokevirtual 73, 3) := by decide +kernel
theorem dL_law_637 : decode cL_law 637 = .ok (.aload_n 2, 1) := by decide +kernel
theorem dL_law_638 : decode cL_law 638 = .ok (.aload_n 0, 1) := by decide +kernel
theorem dL_law_639 : decode cL_law 639 = .ok (.iload_n 3, 1) := by decide +kernel
theorem dL_law_640 : decode cL_law 640 = .ok (.iconst 1, 1) := by decide +kernel
theorem dL_law_641 : decode cL_law 641 = .ok (.iadd, 1) := by decide +kernel
theorem dL_law_642 : decode cL_law 642 = .ok (.iaload, 1) := by decide +kernel
theorem dL_law_643 : decode cL_law 643 = .ok (.invokevirtual 76, 3) := by decide +kernel
theorem dL_law_646 : decode cL_law 646 = .ok (.if_icmp .eq 1229, 3) := by decide +kernel
theorem dL_law_649 : decode cL_law 649 = .ok (.iconst 0, 1) := by decide +kernel
theorem dL_law_650 : decode cL_law 650 = .ok (.ireturn, 1) := by decide +kernel
theorem dL_law_651 : decode cL_law 651 = .ok (.aload_n 1, 1) := by decide +kernel
theorem dL_law_652 : decode cL_law 652 = .ok (.aload_n 0, 1) := by decide +kernel
theorem dL_law_653 : decode cL_law 653 = .ok (.iload_n 3, 1) := by decide +kernel
theorem dL_law_654 : decode cL_law 654 = .ok (.iconst 1, 1) := by decide +kernel
theorem dL_law_655 : decode cL_law 655 = .ok (.iadd, 1) := by decide +kernel
theorem dL_law_656 : decode cL_law 656 = .ok (.iaload, 1) := by decide +kernel
theorem dL_law_657 : decode cL_law 657 = .ok (.aload_n 0, 1) := by decide +kernel
theorem dL_law_658 : decode cL_law 658 = .ok (.iload_n 3, 1) := by decide +kernel
theorem dL_law_659 : decode cL_law 659 = .ok (.iconst 2, 1) := by decide +kernel
theorem dL_law_660 : decode cL_law 660 = .ok (.iadd, 1) := by decide +kernel
theorem dL_law_661 : decode cL_law 661 = .ok (.iaload, 1) := by decide +kernel
theorem dL_law_662 : decode cL_law 662 = .ok (.invokevirtual 77, 3) := by decide +kernel
theorem dL_law_665 : decode cL_law 665 = .ok (.aload_n 2, 1) := by decide +kernel
theorem dL_law_666 : decode cL_law 666 = .ok (.aload_n 0, 1) := by decide +kernel
theorem dL_law_667 : decode cL_law 667 = .ok (.iload_n 3, 1) := by decide +kernel
theorem dL_law_668 : decode cL_law 668 = .ok (.iconst 1, 1) := by decide +kernel
theorem dL_law_669 : decode cL_law 669 = .ok (.iadd, 1) := by decide +kernel
theorem dL_law_670 : decode cL_law 670 = .ok (.iaload, 1) := by decide +kernel
theorem dL_law_671 : decode cL_law 671 = .ok (.aload_n 0, 1) := by decide +kernel
theorem dL_law_672 : decode cL_law 672 = .ok (.iload_n 3, 1) := by decide +kernel
theorem dL_law_673 : decode cL_law 673 = .ok (.iconst 2, 1) := by decide +kernel
theorem dL_law_674 : decode cL_law 674 = .ok (.iadd, 1) := by decide +kernel
theorem dL_law_675 : decode cL_law 675 = .ok (.iaload, 1) := by decide +kernel
theorem dL_law_676 : decode cL_law 676 = .ok (.invokevirtual 80, 3) := by decide +kernel
theorem dL_law_679 : decode cL_law 679 = .ok (.if_icmp .eq 1196, 3) := by decide +kernel
theorem dL_law_682 : decode cL_law 682 = .ok (.iconst 0, 1) := by decide +kernel
theorem dL_law_683 : decode cL_law 683 = .ok (.ireturn, 1) := by decide +kernel
theorem dL_law_684 : decode cL_law 684 = .ok (.aload_n 1, 1) := by decide +kernel
theorem dL_law_685 : decode cL_law 685 = .ok (.aload_n 0, 1) := by decide +kernel
theorem dL_law_686 : decode cL_law 686 = .ok (.iload_n 3, 1) := by decide +kernel
theorem dL_law_687 : decode cL_law 687 = .ok (.iconst 1, 1) := by decide +kernel
theorem dL_law_688 : decode cL_law 688 = .ok (.iadd, 1) := by decide +kernel
theorem dL_law_689 : decode cL_law 689 = .ok (.iaload, 1) := by decide +kernel
theorem dL_law_690 : decode cL_law 690 = .ok (.aload_n 0, 1) := by decide +kernel
theorem dL_law_691 : decode cL_law 691 = .ok (.iload_n 3, 1) := by decide +kernel
theorem dL_law_692 : decode cL_law 692 = .ok (.iconst 2, 1) := by decide +kernel
theorem dL_law_693 : decode cL_law 693 = .ok (.iadd, 1) := by decide +kernel
theorem dL_law_694 : decode cL_law 694 = .ok (.iaload, 1) := by decide +kernel
theorem dL_law_695 : decode cL_law 695 = .ok (.invokevirtual 81, 3) := by decide +kernel
theorem dL_law_698 : decode cL_law 698 = .ok (.aload_n 2, 1) := by decide +kernel
theorem dL_law_699 : decode cL_law 699 = .ok (.aload_n 0, 1) := by decide +kernel
theorem dL_law_700 : decode cL_law 700 = .ok (.iload_n 3, 1) := by decide +kernel
theorem dL_law_701 : decode cL_law 701 = .ok (.iconst 1, 1) := by decide +kernel
theorem dL_law_702 : decode cL_law 702 = .ok (.iadd, 1) := by decide +kernel
theorem dL_law_703 : decode cL_law 703 = .ok (.iaload, 1) := by decide +kernel
theorem dL_law_704 : decode cL_law 704 = .ok (.aload_n 0, 1) := by decide +kernel
theorem dL_law_705 : decode cL_law 705 = .ok (.iload_n 3, 1) := by decide +kernel
theorem dL_law_706 : decode cL_law 706 = .ok (.iconst 2, 1) := by decide +kernel
theorem dL_law_707 : decode cL_law 707 = .ok (.iadd, 1) := by decide +kernel
theorem dL_law_708 : decode cL_law 708 = .ok (.iaload, 1) := by decide +kernel
theorem dL_law_709 : decode cL_law 709 = .ok (.invokevirtual 84, 3) := by decide +kernel
theorem dL_law_712 : decode cL_law 712 = .ok (.if_icmp .eq 1163, 3) := by decide +kernel
theorem dL_law_715 : decode cL_law 715 = .ok (.iconst 0, 1) := by decide +kernel
theorem dL_law_716 : decode cL_law 716 = .ok (.ireturn, 1) := by decide +kernel
theorem dL_law_717 : decode cL_law 717 = .ok (.aload_n 1, 1) := by decide +kernel
theorem dL_law_718 : decode cL_law 718 = .ok (.aload_n 0, 1) := by decide +kernel
theorem dL_law_719 : decode cL_law 719 = .ok (.iload_n 3, 1) := by decide +kernel
theorem dL_law_720 : decode cL_law 720 = .ok (.iconst 1, 1) := by decide +kernel
theorem dL_law_721 : decode cL_law 721 = .ok (.iadd, 1) := by decide +kernel
theorem dL_law_722 : decode cL_law 722 = .ok (.iaload, 1) := by decide +kernel
theorem dL_law_723 : decode cL_law 723 = .ok (.aload_n 0, 1) := by decide +kernel
theorem dL_law_724 : decode cL_law 724 = .ok (.iload_n 3, 1) := by decide +kernel
theorem dL_law_725 : decode cL_law 725 = .ok (.iconst 2, 1) := by decide +kernel
theorem dL_law_726 : decode cL_law 726 = .ok (.iadd, 1) := by decide +kernel
theorem dL_law_727 : decode cL_law 727 = .ok (.iaload, 1) := by decide +kernel
theorem dL_law_728 : decode cL_law 728 = .ok (.invokevirtual 85, 3) := by decide +kernel
theorem dL_law_731 : decode cL_law 731 = .ok (.aload_n 2, 1) := by decide +kernel
theorem dL_law_732 : decode cL_law 732 = .ok (.aload_n 0, 1) := by decide +kernel
theorem dL_law_733 : decode cL_law 733 = .ok (.iload_n 3, 1) := by decide +kernel
theorem dL_law_734 : decode cL_law 734 = .ok (.iconst 1, 1) := by decide +kernel
theorem dL_law_735 : decode cL_law 735 = .ok (.iadd, 1) := by decide +kernel
theorem dL_law_736 : decode cL_law 736 = .ok (.iaload, 1) := by decide +kernel
theorem dL_law_737 : decode cL_law 737 = .ok (.aload_n 0, 1) := by decide +kernel
theorem dL_law_738 : decode cL_law 738 = .ok (.iload_n 3, 1) := by decide +kernel
theorem dL_law_739 : decode cL_law 739 = .ok (.iconst 2, 1) := by decide +kernel
theorem dL_law_740 : decode cL_law 740 = .ok (.iadd, 1) := by decide +kernel
theorem dL_law_741 : decode cL_law 741 = .ok (.iaload, 1) := by decide +kernel
theorem dL_law_742 : decode cL_law 742 = .ok (.invokevirtual 88, 3) := by decide +kernel
theorem dL_law_745 : decode cL_law 745 = .ok (.if_icmp .eq 1130, 3) := by decide +kernel
theorem dL_law_748 : decode cL_law 748 = .ok (.iconst 0, 1) := by decide +kernel
theorem dL_law_749 : decode cL_law 749 = .ok (.ireturn, 1) := by decide +kernel
theorem dL_law_750 : decode cL_law 750 = .ok (.aload_n 1, 1) := by decide +kernel
theorem dL_law_751 : decode cL_law 751 = .ok (.aload_n 0, 1) := by decide +kernel
theorem dL_law_752 : decode cL_law 752 = .ok (.iload_n 3, 1) := by decide +kernel
theorem dL_law_753 : decode cL_law 753 = .ok (.iconst 1, 1) := by decide +kernel
theorem dL_law_754 : decode cL_law 754 = .ok (.iadd, 1) := by decide +kernel
theorem dL_law_755 : decode cL_law 755 = .ok (.iaload, 1) := by decide +kernel
theorem dL_law_756 : decode cL_law 756 = .ok (.aload_n 0, 1) := by decide +kernel
theorem dL_law_757 : decode cL_law 757 = .ok (.iload_n 3, 1) := by decide +kernel
theorem dL_law_758 : decode cL_law 758 = .ok (.iconst 2, 1) := by decide +kernel
theorem dL_law_759 : decode cL_law 759 = .ok (.iadd, 1) := by decide +kernel
theorem dL_law_760 : decode cL_law 760 = .ok (.iaload, 1) := by decide +kernel
theorem dL_law_761 : decode cL_law 761 = .ok (.invokevirtual 89, 3) := by decide +kernel
theorem dL_law_764 : decode cL_law 764 = .ok (.aload_n 2, 1) := by decide +kernel
theorem dL_law_765 : decode cL_law 765 = .ok (.aload_n 0, 1) := by decide +kernel
theorem dL_law_766 : decode cL_law 766 = .ok (.iload_n 3, 1) := by decide +kernel
theorem dL_law_767 : decode cL_law 767 = .ok (.iconst 1, 1) := by decide +kernel
theorem dL_law_768 : decode cL_law 768 = .ok (.iadd, 1) := by decide +kernel
theorem dL_law_769 : decode cL_law 769 = .ok (.iaload, 1) := by decide +kernel
theorem dL_law_770 : decode cL_law 770 = .ok (.aload_n 0, 1) := by decide +kernel
theorem dL_law_771 : decode cL_law 771 = .ok (.iload_n 3, 1) := by decide +kernel
theorem dL_law_772 : decode cL_law 772 = .ok (.iconst 2, 1) := by decide +kernel
theorem dL_law_773 : decode cL_law 773 = .ok (.iadd, 1) := by decide +kernel
theorem dL_law_774 : decode cL_law 774 = .ok (.iaload, 1) := by decide +kernel
theorem dL_law_775 : decode cL_law 775 = .ok (.invokevirtual 92, 3) := by decide +kernel
theorem dL_law_778 : decode cL_law 778 = .ok (.if_icmp .eq 1097, 3) := by decide +kernel
theorem dL_law_781 : decode cL_law 781 = .ok (.iconst 0, 1) := by decide +kernel
theorem dL_law_782 : decode cL_law 782 = .ok (.ireturn, 1) := by decide +kernel
theorem dL_law_783 : decode cL_law 783 = .ok (.aload_n 1, 1) := by decide +kernel
theorem dL_law_784 : decode cL_law 784 = .ok (.aload_n 0, 1) := by decide +kernel
theorem dL_law_785 : decode cL_law 785 = .ok (.iload_n 3, 1) := by decide +kernel
theorem dL_law_786 : decode cL_law 786 = .ok (.iconst 1, 1) := by decide +kernel
theorem dL_law_787 : decode cL_law 787 = .ok (.iadd, 1) := by decide +kernel
theorem dL_law_788 : decode cL_law 788 = .ok (.iaload, 1) := by decide +kernel
theorem dL_law_789 : decode cL_law 789 = .ok (.invokevirtual 93, 3) := by decide +kernel
theorem dL_law_792 : decode cL_law 792 = .ok (.aload_n 2, 1) := by decide +kernel
theorem dL_law_793 : decode cL_law 793 = .ok (.aload_n 0, 1) := by decide +kernel
theorem dL_law_794 : decode cL_law 794 = .ok (.iload_n 3, 1) := by decide +kernel
theorem dL_law_795 : decode cL_law 795 = .ok (.iconst 1, 1) := by decide +kernel
theorem dL_law_796 : decode cL_law 796 = .ok (.iadd, 1) := by decide +kernel
theorem dL_law_797 : decode cL_law 797 = .ok (.iaload, 1) := by decide +kernel
theorem dL_law_798 : decode cL_law 798 = .ok (.invokevirtual 96, 3) := by decide +kernel
theorem dL_law_801 : decode cL_law 801 = .ok (.if_icmp .eq 1074, 3) := by decide +kernel
theorem dL_law_804 : decode cL_law 804 = .ok (.iconst 0, 1) := by decide +kernel
theorem dL_law_805 : decode cL_law 805 = .ok (.ireturn, 1) := by decide +kernel
theorem dL_law_806 : decode cL_law 806 = .ok (.aload_n 1, 1) := by decide +kernel
theorem dL_law_807 : decode cL_law 807 = .ok (.aload_n 0, 1) := by decide +kernel
theorem dL_law_808 : decode cL_law 808 = .ok (.iload_n 3, 1) := by decide +kernel
theorem dL_law_809 : decode cL_law 809 = .ok (.iconst 1, 1) := by decide +kernel
theorem dL_law_810 : decode cL_law 810 = .ok (.iadd, 1) := by decide +kernel
theorem dL_law_811 : decode cL_law 811 = .ok (.iaload, 1) := by decide +kernel
theorem dL_law_812 : decode cL_law 812 = .ok (.aload_n 0, 1) := by decide +kernel
theorem dL_law_813 : decode cL_law 813 = .ok (.iload_n 3, 1) := by decide +kernel
theorem dL_law_814 : decode cL_law 814 = .ok (.iconst 2, 1) := by decide +kernel
theorem dL_law_815 : decode cL_law 815 = .ok (.iadd, 1) := by decide +kernel
theorem dL_law_816 : decode cL_law 816 = .ok (.iaload, 1) := by decide +kernel
theorem dL_law_817 : decode cL_law 817 = .ok (.invokevirtual 97, 3) := by decide +kernel
theorem dL_law_820 : decode cL_law 820 = .ok (.aload_n 2, 1) := by decide +kernel
theorem dL_law_821 : decode cL_law 821 = .ok (.aload_n 0, 1) := by decide +kernel
theorem dL_law_822 : decode cL_law 822 = .ok (.iload_n 3, 1) := by decide +kernel
theorem dL_law_823 : decode cL_law 823 = .ok (.iconst 1, 1) := by decide +kernel
theorem dL_law_824 : decode cL_law 824 = .ok (.iadd, 1) := by decide +kernel
theorem dL_law_825 : decode cL_law 825 = .ok (.iaload, 1) := by decide +kernel
theorem dL_law_826 : decode cL_law 826 = .ok (.aload_n 0, 1) := by decide +kernel
theorem dL_law_827 : decode cL_law 827 = .ok (.iload_n 3, 1) := by decide +kernel
theorem dL_law_828 : decode cL_law 828 = .ok (.iconst 2, 1) := by decide +kernel
theorem dL_law_829 : decode cL_law 829 = .ok (.iadd, 1) := by decide +kernel
theorem dL_law_830 : decode cL_law 830 = .ok (.iaload, 1) := by decide +kernel
theorem dL_law_831 : decode cL_law 831 = .ok (.invokevirtual 100, 3) := by decide +kernel
theorem dL_law_834 : decode cL_law 834 = .ok (.if_icmp .eq 1041, 3) := by decide +kernel
theorem dL_law_837 : decode cL_law 837 = .ok (.iconst 0, 1) := by decide +kernel
theorem dL_law_838 : decode cL_law 838 = .ok (.ireturn, 1) := by decide +kernel
theorem dL_law_839 : decode cL_law 839 = .ok (.aload_n 1, 1) := by decide +kernel
theorem dL_law_840 : decode cL_law 840 = .ok (.aload_n 0, 1) := by decide +kernel
theorem dL_law_841 : decode cL_law 841 = .ok (.iload_n 3, 1) := by decide +kernel
theorem dL_law_842 : decode cL_law 842 = .ok (.iconst 1, 1) := by decide +kernel
theorem dL_law_843 : decode cL_law 843 = .ok (.iadd, 1) := by decide +kernel
theorem dL_law_844 : decode cL_law 844 = .ok (.iaload, 1) := by decide +kernel
theorem dL_law_845 : decode cL_law 845 = .ok (.aload_n 0, 1) := by decide +kernel
theorem dL_law_846 : decode cL_law 846 = .ok (.iload_n 3, 1) := by decide +kernel
theorem dL_law_847 : decode cL_law 847 = .ok (.iconst 2, 1) := by decide +kernel
theorem dL_law_848 : decode cL_law 848 = .ok (.iadd, 1) := by decide +kernel
theorem dL_law_849 : decode cL_law 849 = .ok (.iaload, 1) := by decide +kernel
theorem dL_law_850 : decode cL_law 850 = .ok (.invokevirtual 101, 3) := by decide +kernel
theorem dL_law_853 : decode cL_law 853 = .ok (.aload_n 2, 1) := by decide +kernel
theorem dL_law_854 : decode cL_law 854 = .ok (.aload_n 0, 1) := by decide +kernel
theorem dL_law_855 : decode cL_law 855 = .ok (.iload_n 3, 1) := by decide +kernel
theorem dL_law_856 : decode cL_law 856 = .ok (.iconst 1, 1) := by decide +kernel
theorem dL_law_857 : decode cL_law 857 = .ok (.iadd, 1) := by decide +kernel
theorem dL_law_858 : decode cL_law 858 = .ok (.iaload, 1) := by decide +kernel
theorem dL_law_859 : decode cL_law 859 = .ok (.aload_n 0, 1) := by decide +kernel
theorem dL_law_860 : decode cL_law 860 = .ok (.iload_n 3, 1) := by decide +kernel
theorem dL_law_861 : decode cL_law 861 = .ok (.iconst 2, 1) := by decide +kernel
theorem dL_law_862 : decode cL_law 862 = .ok (.iadd, 1) := by decide +kernel
theorem dL_law_863 : decode cL_law 863 = .ok (.iaload, 1) := by decide +kernel
theorem dL_law_864 : decode cL_law 864 = .ok (.invokevirtual 104, 3) := by decide +kernel
theorem dL_law_867 : decode cL_law 867 = .ok (.if_icmp .eq 1008, 3) := by decide +kernel
theorem dL_law_870 : decode cL_law 870 = .ok (.iconst 0, 1) := by decide +kernel
theorem dL_law_871 : decode cL_law 871 = .ok (.ireturn, 1) := by decide +kernel
theorem dL_law_872 : decode cL_law 872 = .ok (.aload_n 1, 1) := by decide +kernel
theorem dL_law_873 : decode cL_law 873 = .ok (.aload_n 0, 1) := by decide +kernel
theorem dL_law_874 : decode cL_law 874 = .ok (.iload_n 3, 1) := by decide +kernel
theorem dL_law_875 : decode cL_law 875 = .ok (.iconst 1, 1) := by decide +kernel
theorem dL_law_876 : decode cL_law 876 = .ok (.iadd, 1) := by decide +kernel
theorem dL_law_877 : decode cL_law 877 = .ok (.iaload, 1) := by decide +kernel
theorem dL_law_878 : decode cL_law 878 = .ok (.aload_n 0, 1) := by decide +kernel
theorem dL_law_879 : decode cL_law 879 = .ok (.iload_n 3, 1) := by decide +kernel
theorem dL_law_880 : decode cL_law 880 = .ok (.iconst 2, 1) := by decide +kernel
theorem dL_law_881 : decode cL_law 881 = .ok (.iadd, 1) := by decide +kernel
theorem dL_law_882 : decode cL_law 882 = .ok (.iaload, 1) := by decide +kernel
theorem dL_law_883 : decode cL_law 883 = .ok (.invokevirtual 105, 3) := by decide +kernel
theorem dL_law_886 : decode cL_law 886 = .ok (.aload_n 2, 1) := by decide +kernel
theorem dL_law_887 : decode cL_law 887 = .ok (.aload_n 0, 1) := by decide +kernel
theorem dL_law_888 : decode cL_law 888 = .ok (.iload_n 3, 1) := by decide +kernel
theorem dL_law_889 : decode cL_law 889 = .ok (.iconst 1, 1) := by decide +kernel
theorem dL_law_890 : decode cL_law 890 = .ok (.iadd, 1) := by decide +kernel
theorem dL_law_891 : decode cL_law 891 = .ok (.iaload, 1) := by decide +kernel
theorem dL_law_892 : decode cL_law 892 = .ok (.aload_n 0, 1) := by decide +kernel
theorem dL_law_893 : decode cL_law 893 = .ok (.iload_n 3, 1) := by decide +kernel
theorem dL_law_894 : decode cL_law 894 = .ok (.iconst 2, 1) := by decide +kernel
theorem dL_law_895 : decode cL_law 895 = .ok (.iadd, 1) := by decide +kernel
theorem dL_law_896 : decode cL_law 896 = .ok (.iaload, 1) := by decide +kernel
theorem dL_law_897 : decode cL_law 897 = .ok (.invokevirtual 108, 3) := by decide +kernel
theorem dL_law_900 : decode cL_law 900 = .ok (.if_icmp .eq 975, 3) := by decide +kernel
theorem dL_law_903 : decode cL_law 903 = .ok (.iconst 0, 1) := by decide +kernel
theorem dL_law_904 : decode cL_law 904 = .ok (.ireturn, 1) := by decide +kernel
theorem dL_law_905 : decode cL_law 905 = .ok (.aload_n 1, 1) := by decide +kernel
theorem dL_law_906 : decode cL_law 906 = .ok (.aload_n 0, 1) := by decide +kernel
theorem dL_law_907 : decode cL_law 907 = .ok (.iload_n 3, 1) := by decide +kernel
theorem dL_law_908 : decode cL_law 908 = .ok (.iconst 1, 1) := by decide +kernel
theorem dL_law_909 : decode cL_law 909 = .ok (.iadd, 1) := by decide +kernel
theorem dL_law_910 : decode cL_law 910 = .ok (.iaload, 1) := by decide +kernel
theorem dL_law_911 : decode cL_law 911 = .ok (.aload_n 0, 1) := by decide +kernel
theorem dL_law_912 : decode cL_law 912 = .ok (.iload_n 3, 1) := by decide +kernel
theorem dL_law_913 : decode cL_law 913 = .ok (.iconst 2, 1) := by decide +kernel
theorem dL_law_914 : decode cL_law 914 = .ok (.iadd, 1) := by decide +kernel
theorem dL_law_915 : decode cL_law 915 = .ok (.iaload, 1) := by decide +kernel
theorem dL_law_916 : decode cL_law 916 = .ok (.invokevirtual 109, 3) := by decide +kernel
theorem dL_law_919 : decode cL_law 919 = .ok (.aload_n 2, 1) := by decide +kernel
theorem dL_law_920 : decode cL_law 920 = .ok (.aload_n 0, 1) := by decide +kernel
theorem dL_law_921 : decode cL_law 921 = .ok (.iload_n 3, 1) := by decide +kernel
theorem dL_law_922 : decode cL_law 922 = .ok (.iconst 1, 1) := by decide +kernel
theorem dL_law_923 : decode cL_law 923 = .ok (.iadd, 1) := by decide +kernel
theorem dL_law_924 : decode cL_law 924 = .ok (.iaload, 1) := by decide +kernel
theorem dL_law_925 : decode cL_law 925 = .ok (.aload_n 0, 1) := by decide +kernel
theorem dL_law_926 : decode cL_law 926 = .ok (.iload_n 3, 1) := by decide +kernel
theorem dL_law_927 : decode cL_law 927 = .ok (.iconst 2, 1) := by decide +kernel
theorem dL_law_928 : decode cL_law 928 = .ok (.iadd, 1) := by decide +kernel
theorem dL_law_929 : decode cL_law 929 = .ok (.iaload, 1) := by decide +kernel
theorem dL_law_930 : decode cL_law 930 = .ok (.invokevirtual 112, 3) := by decide +kernel
theorem dL_law_933 : decode cL_law 933 = .ok (.if_icmp .eq 942, 3) := by decide +kernel
theorem dL_law_936 : decode cL_law 936 = .ok (.iconst 0, 1) := by decide +kernel
theorem dL_law_937 : decode cL_law 937 = .ok (.ireturn, 1) := by decide +kernel
theorem dL_law_938 : decode cL_law 938 = .ok (.aload_n 1, 1) := by decide +kernel
theorem dL_law_939 : decode cL_law 939 = .ok (.aload_n 0, 1) := by decide +kernel
theorem dL_law_940 : decode cL_law 940 = .ok (.iload_n 3, 1) := by decide +kernel
theorem dL_law_941 : decode cL_law 941 = .ok (.iconst 1, 1) := by decide +kernel
theorem dL_law_942 : decode cL_law 942 = .ok (.iadd, 1) := by decide +kernel
theorem dL_law_943 : decode cL_law 943 = .ok (.iaload, 1) := by decide +kernel
theorem dL_law_944 : decode cL_law 944 = .ok (.aload_n 0, 1) := by decide +kernel
theorem dL_law_945 : decode cL_law 945 = .ok (.iload_n 3, 1) := by decide +kernel
theorem dL_law_946 : decode cL_law 946 = .ok (.iconst 2, 1) := by decide +kernel
theorem dL_law_947 : decode cL_law 947 = .ok (.iadd, 1) := by decide +kernel
theorem dL_law_948 : decode cL_law 948 = .ok (.iaload, 1) := by decide +kernel
theorem dL_law_949 : decode cL_law 949 = .ok (.aload_n 0, 1) := by decide +kernel
theorem dL_law_950 : decode cL_law 950 = .ok (.iload_n 3, 1) := by decide +kernel
theorem dL_law_951 : decode cL_law 951 = .ok (.iconst 3, 1) := by decide +kernel
theorem dL_law_952 : decode cL_law 952 = .ok (.iadd, 1) := by decide +kernel
theorem dL_law_953 : decode cL_law 953 = .ok (.iaload, 1) := by decide +kernel
theorem dL_law_954 : decode cL_law 954 = .ok (.invokevirtual 113, 3) := by decide +kernel
theorem dL_law_957 : decode cL_law 957 = .ok (.aload_n 2, 1) := by decide +kernel
theorem dL_law_958 : decode cL_law 958 = .ok (.aload_n 0, 1) := by decide +kernel
theorem dL_law_959 : decode cL_law 959 = .ok (.iload_n 3, 1) := by decide +kernel
theorem dL_law_960 : decode cL_law 960 = .ok (.iconst 1, 1) := by decide +kernel
theorem dL_law_961 : decode cL_law 961 = .ok (.iadd, 1) := by decide +kernel
theorem dL_law_962 : decode cL_law 962 = .ok (.iaload, 1) := by decide +kernel
theorem dL_law_963 : decode cL_law 963 = .ok (.aload_n 0, 1) := by decide +kernel
theorem dL_law_964 : decode cL_law 964 = .ok (.iload_n 3, 1) := by decide +kernel
theorem dL_law_965 : decode cL_law 965 = .ok (.iconst 2, 1) := by decide +kernel
theorem dL_law_966 : decode cL_law 966 = .ok (.iadd, 1) := by decide +kernel
theorem dL_law_967 : decode cL_law 967 = .ok (.iaload, 1) := by decide +kernel
theorem dL_law_968 : decode cL_law 968 = .ok (.aload_n 0, 1) := by decide +kernel
theorem dL_law_969 : decode cL_law 969 = .ok (.iload_n 3, 1) := by decide +kernel
theorem dL_law_970 : decode cL_law 970 = .ok (.iconst 3, 1) := by decide +kernel
theorem dL_law_971 : decode cL_law 971 = .ok (.iadd, 1) := by decide +kernel
theorem dL_law_972 : decode cL_law 972 = .ok (.iaload, 1) := by decide +kernel
theorem dL_law_973 : decode cL_law 973 = .ok (.invokevirtual 116, 3) := by decide +kernel
theorem dL_law_976 : decode cL_law 976 = .ok (.if_icmp .eq 899, 3) := by decide +kernel
theorem dL_law_979 : decode cL_law 979 = .ok (.iconst 0, 1) := by decide +kernel
theorem dL_law_980 : decode cL_law 980 = .ok (.ireturn, 1) := by decide +kernel
theorem dL_law_981 : decode cL_law 981 = .ok (.aload_n 1, 1) := by decide +kernel
theorem dL_law_982 : decode cL_law 982 = .ok (.aload_n 0, 1) := by decide +kernel
theorem dL_law_983 : decode cL_law 983 = .ok (.iload_n 3, 1) := by decide +kernel
theorem dL_law_984 : decode cL_law 984 = .ok (.iconst 1, 1) := by decide +kernel
theorem dL_law_985 : decode cL_law 985 = .ok (.iadd, 1) := by decide +kernel
theorem dL_law_986 : decode cL_law 986 = .ok (.iaload, 1) := by decide +kernel
theorem dL_law_987 : decode cL_law 987 = .ok (.aload_n 0, 1) := by decide +kernel
theorem dL_law_988 : decode cL_law 988 = .ok (.iload_n 3, 1) := by decide +kernel
theorem dL_law_989 : decode cL_law 989 = .ok (.iconst 2, 1) := by decide +kernel
theorem dL_law_990 : decode cL_law 990 = .ok (.iadd, 1) := by decide +kernel
theorem dL_law_991 : decode cL_law 991 = .ok (.iaload, 1) := by decide +kernel
theorem dL_law_992 : decode cL_law 992 = .ok (.invokevirtual 117, 3) := by decide +kernel
theorem dL_law_995 : decode cL_law 995 = .ok (.aload_n 2, 1) := by decide +kernel
theorem dL_law_996 : decode cL_law 996 = .ok (.aload_n 0, 1) := by decide +kernel
theorem dL_law_997 : decode cL_law 997 = .ok (.iload_n 3, 1) := by decide +kernel
theorem dL_law_998 : decode cL_law 998 = .ok (.iconst 1, 1) := by decide +kernel
theorem dL_law_999 : decode cL_law 999 = .ok (.iadd, 1) := by decide +kernel
theorem dL_law_1000 : decode cL_law 1000 = .ok (.iaload, 1) := by decide +kernel
theorem dL_law_1001 : decode cL_law 1001 = .ok (.aload_n 0, 1) := by decide +kernel
theorem dL_law_1002 : decode cL_law 1002 = .ok (.iload_n 3, 1) := by decide +kernel
theorem dL_law_1003 : decode cL_law 1003 = .ok (.iconst 2, 1) := by decide +kernel
theorem dL_law_1004 : decode cL_law 1004 = .ok (.iadd, 1) := by decide +kernel
theorem dL_law_1005 : decode cL_law 1005 = .ok (.iaload, 1) := by decide +kernel
theorem dL_law_1006 : decode cL_law 1006 = .ok (.invokevirtual 120, 3) := by decide +kernel
theorem dL_law_1009 : decode cL_law 1009 = .ok (.if_icmp .eq 866, 3) := by decide +kernel
theorem dL_law_1012 : decode cL_law 1012 = .ok (.iconst 0, 1) := by decide +kernel
theorem dL_law_1013 : decode cL_law 1013 = .ok (.ireturn, 1) := by decide +kernel
theorem dL_law_1014 : decode cL_law 1014 = .ok (.aload_n 1, 1) := by decide +kernel
theorem dL_law_1015 : decode cL_law 1015 = .ok (.aload_n 0, 1) := by decide +kernel
theorem dL_law_1016 : decode cL_law 1016 = .ok (.iload_n 3, 1) := by decide +kernel
theorem dL_law_1017 : decode cL_law 1017 = .ok (.iconst 1, 1) := by decide +kernel
theorem dL_law_1018 : decode cL_law 1018 = .ok (.iadd, 1) := by decide +kernel
theorem dL_law_1019 : decode cL_law 1019 = .ok (.iaload, 1) := by decide +kernel
theorem dL_law_1020 : decode cL_law 1020 = .ok (.aload_n 0, 1) := by decide +kernel
theorem dL_law_1021 : decode cL_law 1021 = .ok (.iload_n 3, 1) := by decide +kernel
theorem dL_law_1022 : decode cL_law 1022 = .ok (.iconst 2, 1) := by decide +kernel
theorem dL_law_1023 : decode cL_law 1023 = .ok (.iadd, 1) := by decide +kernel
theorem dL_law_1024 : decode cL_law 1024 = .ok (.iaload, 1) := by decide +kernel
theorem dL_law_1025 : decode cL_law 1025 = .ok (.aload_n 0, 1) := by decide +kernel
theorem dL_law_1026 : decode cL_law 1026 = .ok (.iload_n 3, 1) := by decide +kernel
theorem dL_law_1027 : decode cL_law 1027 = .ok (.iconst 3, 1) := by decide +kernel
theorem dL_law_1028 : decode cL_law 1028 = .ok (.iadd, 1) := by decide +kernel
theorem dL_law_1029 : decode cL_law 1029 = .ok (.iaload, 1) := by decide +kernel
theorem dL_law_1030 : decode cL_law 1030 = .ok (.invokevirtual 121, 3) := by decide +kernel
theorem dL_law_1033 : decode cL_law 1033 = .ok (.aload_n 2, 1) := by decide +kernel
theorem dL_law_1034 : decode cL_law 1034 = .ok (.aload_n 0, 1) := by decide +kernel
theorem dL_law_1035 : decode cL_law 1035 = .ok (.iload_n 3, 1) := by decide +kernel
theorem dL_law_1036 : decode cL_law 1036 = .ok (.iconst 1, 1) := by decide +kernel
theorem dL_law_1037 : decode cL_law 1037 = .ok (.iadd, 1) := by decide +kernel
theorem dL_law_1038 : decode cL_law 1038 = .ok (.iaload, 1) := by decide +kernel
theorem dL_law_1039 : decode cL_law 1039 = .ok (.aload_n 0, 1) := by decide +kernel
theorem dL_law_1040 : decode cL_law 1040 = .ok (.iload_n 3, 1) := by decide +kernel
theorem dL_law_1041 : decode cL_law 1041 = .ok (.iconst 2, 1) := by decide +kernel
theorem dL_law_1042 : decode cL_law 1042 = .ok (.iadd, 1) := by decide +kernel
theorem dL_law_1043 : decode cL_law 1043 = .ok (.iaload, 1) := by decide +kernel
theorem dL_law_1044 : decode cL_law 1044 = .ok (.aload_n 0, 1) := by decide +kernel
theorem dL_law_1045 : decode cL_law 1045 = .ok (.iload_n 3, 1) := by decide +kernel
theorem dL_law_1046 : decode cL_law 1046 = .ok (.iconst 3, 1) := by decide +kernel
theorem dL_law_1047 : decode cL_law 1047 = .ok (.iadd, 1) := by decide +kernel
theorem dL_law_1048 : decode cL_law 1048 = .ok (.iaload, 1) := by decide +kernel
theorem dL_law_1049 : decode cL_law 1049 = .ok (.invokevirtual 124, 3) := by decide +kernel
theorem dL_law_1052 : decode cL_law 1052 = .ok (.if_icmp .eq 823, 3) := by decide +kernel
theorem dL_law_1055 : decode cL_law 1055 = .ok (.iconst 0, 1) := by decide +kernel
theorem dL_law_1056 : decode cL_law 1056 = .ok (.ireturn, 1) := by decide +kernel
theorem dL_law_1057 : decode cL_law 1057 = .ok (.aload_n 1, 1) := by decide +kernel
theorem dL_law_1058 : decode cL_law 1058 = .ok (.invokevirtual 125, 3) := by decide +kernel
theorem dL_law_1061 : decode cL_law 1061 = .ok (.aload_n 2, 1) := by decide +kernel
theorem dL_law_1062 : decode cL_law 1062 = .ok (.invokevirtual 128, 3) := by decide +kernel
theorem dL_law_1065 : decode cL_law 1065 = .ok (.if_icmp .eq 810, 3) := by decide +kernel
theorem dL_law_1068 : decode cL_law 1068 = .ok (.iconst 0, 1) := by decide +kernel
theorem dL_law_1069 : decode cL_law 1069 = .ok (.ireturn, 1) := by decide +kernel
theorem dL_law_1070 : decode cL_law 1070 = .ok (.aload_n 1, 1) := by decide +kernel
theorem dL_law_1071 : decode cL_law 1071 = .ok (.aload_n 0, 1) := by decide +kernel
theorem dL_law_1072 : decode cL_law 1072 = .ok (.iload_n 3, 1) := by decide +kernel
theorem dL_law_1073 : decode cL_law 1073 = .ok (.iconst 1, 1) := by decide +kernel
theorem dL_law_1074 : decode cL_law 1074 = .ok (.iadd, 1) := by decide +kernel
theorem dL_law_1075 : decode cL_law 1075 = .ok (.iaload, 1) := by decide +kernel
theorem dL_law_1076 : decode cL_law 1076 = .ok (.invokevirtual 129, 3) := by decide +kernel
theorem dL_law_1079 : decode cL_law 1079 = .ok (.aload_n 2, 1) := by decide +kernel
theorem dL_law_1080 : decode cL_law 1080 = .ok (.aload_n 0, 1) := by decide +kernel
theorem dL_law_1081 : decode cL_law 1081 = .ok (.iload_n 3, 1) := by decide +kernel
theorem dL_law_1082 : decode cL_law 1082 = .ok (.iconst 1, 1) := by decide +kernel
theorem dL_law_1083 : decode cL_law 1083 = .ok (.iadd, 1) := by decide +kernel
theorem dL_law_1084 : decode cL_law 1084 = .ok (.iaload, 1) := by decide +kernel
theorem dL_law_1085 : decode cL_law 1085 = .ok (.invokevirtual 132, 3) := by decide +kernel
theorem dL_law_1088 : decode cL_law 1088 = .ok (.if_icmp .eq 787, 3) := by decide +kernel
theorem dL_law_1091 : decode cL_law 1091 = .ok (.iconst 0, 1) := by decide +kernel
theorem dL_law_1092 : decode cL_law 1092 = .ok (.ireturn, 1) := by decide +kernel
theorem dL_law_1093 : decode cL_law 1093 = .ok (.aload_n 1, 1) := by decide +kernel
theorem dL_law_1094 : decode cL_law 1094 = .ok (.aload_n 0, 1) := by decide +kernel
theorem dL_law_1095 : decode cL_law 1095 = .ok (.iload_n 3, 1) := by decide +kernel
theorem dL_law_1096 : decode cL_law 1096 = .ok (.iconst 1, 1) := by decide +kernel
theorem dL_law_1097 : decode cL_law 1097 = .ok (.iadd, 1) := by decide +kernel
theorem dL_law_1098 : decode cL_law 1098 = .ok (.iaload, 1) := by decide +kernel
theorem dL_law_1099 : decode cL_law 1099 = .ok (.aload_n 0, 1) := by decide +kernel
theorem dL_law_1100 : decode cL_law 1100 = .ok (.iload_n 3, 1) := by decide +kernel
theorem dL_law_1101 : decode cL_law 1101 = .ok (.iconst 2, 1) := by decide +kernel
theorem dL_law_1102 : decode cL_law 1102 = .ok (.iadd, 1) := by decide +kernel
theorem dL_law_1103 : decode cL_law 1103 = .ok (.iaload, 1) := by decide +kernel
theorem dL_law_1104 : decode cL_law 1104 = .ok (.aload_n 0, 1) := by decide +kernel
theorem dL_law_1105 : decode cL_law 1105 = .ok (.iload_n 3, 1) := by decide +kernel
theorem dL_law_1106 : decode cL_law 1106 = .ok (.iconst 3, 1) := by decide +kernel
theorem dL_law_1107 : decode cL_law 1107 = .ok (.iadd, 1) := by decide +kernel
theorem dL_law_1108 : decode cL_law 1108 = .ok (.iaload, 1) := by decide +kernel
theorem dL_law_1109 : decode cL_law 1109 = .ok (.invokevirtual 133, 3) := by decide +kernel
theorem dL_law_1112 : decode cL_law 1112 = .ok (.aload_n 2, 1) := by decide +kernel
theorem dL_law_1113 : decode cL_law 1113 = .ok (.aload_n 0, 1) := by decide +kernel
theorem dL_law_1114 : decode cL_law 1114 = .ok (.iload_n 3, 1) := by decide +kernel
theorem dL_law_1115 : decode cL_law 1115 = .ok (.iconst 1, 1) := by decide +kernel
theorem dL_law_1116 : decode cL_law 1116 = .ok (.iadd, 1) := by decide +kernel
theorem dL_law_1117 : decode cL_law 1117 = .ok (.iaload, 1) := by decide +kernel
theorem dL_law_1118 : decode cL_law 1118 = .ok (.aload_n 0, 1) := by decide +kernel
theorem dL_law_1119 : decode cL_law 1119 = .ok (.iload_n 3, 1) := by decide +kernel
theorem dL_law_1120 : decode cL_law 1120 = .ok (.iconst 2, 1) := by decide +kernel
theorem dL_law_1121 : decode cL_law 1121 = .ok (.iadd, 1) := by decide +kernel
theorem dL_law_1122 : decode cL_law 1122 = .ok (.iaload, 1) := by decide +kernel
theorem dL_law_1123 : decode cL_law 1123 = .ok (.aload_n 0, 1) := by decide +kernel
theorem dL_law_1124 : decode cL_law 1124 = .ok (.iload_n 3, 1) := by decide +kernel
theorem dL_law_1125 : decode cL_law 1125 = .ok (.iconst 3, 1) := by decide +kernel
theorem dL_law_1126 : decode cL_law 1126 = .ok (.iadd, 1) := by decide +kernel
theorem dL_law_1127 : decode cL_law 1127 = .ok (.iaload, 1) := by decide +kernel
theorem dL_law_1128 : decode cL_law 1128 = .ok (.invokevirtual 136, 3) := by decide +kernel
theorem dL_law_1131 : decode cL_law 1131 = .ok (.if_icmp .eq 744, 3) := by decide +kernel
theorem dL_law_1134 : decode cL_law 1134 = .ok (.iconst 0, 1) := by decide +kernel
theorem dL_law_1135 : decode cL_law 1135 = .ok (.ireturn, 1) := by decide +kernel
theorem dL_law_1136 : decode cL_law 1136 = .ok (.aload_n 1, 1) := by decide +kernel
theorem dL_law_1137 : decode cL_law 1137 = .ok (.aload_n 0, 1) := by decide +kernel
theorem dL_law_1138 : decode cL_law 1138 = .ok (.iload_n 3, 1) := by decide +kernel
theorem dL_law_1139 : decode cL_law 1139 = .ok (.iconst 1, 1) := by decide +kernel
theorem dL_law_1140 : decode cL_law 1140 = .ok (.iadd, 1) := by decide +kernel
theorem dL_law_1141 : decode cL_law 1141 = .ok (.iaload, 1) := by decide +kernel
theorem dL_law_1142 : decode cL_law 1142 = .ok (.aload_n 0, 1) := by decide +kernel
theorem dL_law_1143 : decode cL_law 1143 = .ok (.iload_n 3, 1) := by decide +kernel
theorem dL_law_1144 : decode cL_law 1144 = .ok (.iconst 2, 1) := by decide +kernel
theorem dL_law_1145 : decode cL_law 1145 = .ok (.iadd, 1) := by decide +kernel
theorem dL_law_1146 : decode cL_law 1146 = .ok (.iaload, 1) := by decide +kernel
theorem dL_law_1147 : decode cL_law 1147 = .ok (.aload_n 0, 1) := by decide +kernel
theorem dL_law_1148 : decode cL_law 1148 = .ok (.iload_n 3, 1) := by decide +kernel
theorem dL_law_1149 : decode cL_law 1149 = .ok (.iconst 3, 1) := by decide +kernel
theorem dL_law_1150 : decode cL_law 1150 = .ok (.iadd, 1) := by decide +kernel
theorem dL_law_1151 : decode cL_law 1151 = .ok (.iaload, 1) := by decide +kernel
theorem dL_law_1152 : decode cL_law 1152 = .ok (.invokevirtual 137, 3) := by decide +kernel
theorem dL_law_1155 : decode cL_law 1155 = .ok (.aload_n 2, 1) := by decide +kernel
theorem dL_law_1156 : decode cL_law 1156 = .ok (.aload_n 0, 1) := by decide +kernel
theorem dL_law_1157 : decode cL_law 1157 = .ok (.iload_n 3, 1) := by decide +kernel
theorem dL_law_1158 : decode cL_law 1158 = .ok (.iconst 1, 1) := by decide +kernel
theorem dL_law_1159 : decode cL_law 1159 = .ok (.iadd, 1) := by decide +kernel
theorem dL_law_1160 : decode cL_law 1160 = .ok (.iaload, 1) := by decide +kernel
theorem dL_law_1161 : decode cL_law 1161 = .ok (.aload_n 0, 1) := by decide +kernel
theorem dL_law_1162 : decode cL_law 1162 = .ok (.iload_n 3, 1) := by decide +kernel
theorem dL_law_1163 : decode cL_law 1163 = .ok (.iconst 2, 1) := by decide +kernel
theorem dL_law_1164 : decode cL_law 1164 = .ok (.iadd, 1) := by decide +kernel
theorem dL_law_1165 : decode cL_law 1165 = .ok (.iaload, 1) := by decide +kernel
theorem dL_law_1166 : decode cL_law 1166 = .ok (.aload_n 0, 1) := by decide +kernel
theorem dL_law_1167 : decode cL_law 1167 = .ok (.iload_n 3, 1) := by decide +kernel
theorem dL_law_1168 : decode cL_law 1168 = .ok (.iconst 3, 1) := by decide +kernel
theorem dL_law_1169 : decode cL_law 1169 = .ok (.iadd, 1) := by decide +kernel
theorem dL_law_1170 : decode cL_law 1170 = .ok (.iaload, 1) := by decide +kernel
theorem dL_law_1171 : decode cL_law 1171 = .ok (.invokevirtual 140, 3) := by decide +kernel
theorem dL_law_1174 : decode cL_law 1174 = .ok (.if_icmp .eq 701, 3) := by decide +kernel
theorem dL_law_1177 : decode cL_law 1177 = .ok (.iconst 0, 1) := by decide +kernel
theorem dL_law_1178 : decode cL_law 1178 = .ok (.ireturn, 1) := by decide +kernel
theorem dL_law_1179 : decode cL_law 1179 = .ok (.aload_n 1, 1) := by decide +kernel
theorem dL_law_1180 : decode cL_law 1180 = .ok (.aload_n 0, 1) := by decide +kernel
theorem dL_law_1181 : decode cL_law 1181 = .ok (.iload_n 3, 1) := by decide +kernel
theorem dL_law_1182 : decode cL_law 1182 = .ok (.iconst 1, 1) := by decide +kernel
theorem dL_law_1183 : decode cL_law 1183 = .ok (.iadd, 1) := by decide +kernel
theorem dL_law_1184 : decode cL_law 1184 = .ok (.iaload, 1) := by decide +kernel
theorem dL_law_1185 : decode cL_law 1185 = .ok (.invokevirtual 141, 3) := by decide +kernel
theorem dL_law_1188 : decode cL_law 1188 = .ok (.aload_n 2, 1) := by decide +kernel
theorem dL_law_1189 : decode cL_law 1189 = .ok (.aload_n 0, 1) := by decide +kernel
theorem dL_law_1190 : decode cL_law 1190 = .ok (.iload_n 3, 1) := by decide +kernel
theorem dL_law_1191 : decode cL_law 1191 = .ok (.iconst 1, 1) := by decide +kernel
theorem dL_law_1192 : decode cL_law 1192 = .ok (.iadd, 1) := by decide +kernel
theorem dL_law_1193 : decode cL_law 1193 = .ok (.iaload, 1) := by decide +kernel
theorem dL_law_1194 : decode cL_law 1194 = .ok (.invokevirtual 144, 3) := by decide +kernel
theorem dL_law_1197 : decode cL_law 1197 = .ok (.if_icmp .eq 678, 3) := by decide +kernel
theorem dL_law_1200 : decode cL_law 1200 = .ok (.iconst 0, 1) := by decide +kernel
theorem dL_law_1201 : decode cL_law 1201 = .ok (.ireturn, 1) := by decide +kernel
theorem dL_law_1202 : decode cL_law 1202 = .ok (.aload_n 1, 1) := by decide +kernel
theorem dL_law_1203 : decode cL_law 1203 = .ok (.aload_n 0, 1) := by decide +kernel
theorem dL_law_1204 : decode cL_law 1204 = .ok (.iload_n 3, 1) := by decide +kernel
theorem dL_law_1205 : decode cL_law 1205 = .ok (.iconst 1, 1) := by decide +kernel
theorem dL_law_1206 : decode cL_law 1206 = .ok (.iadd, 1) := by decide +kernel
theorem dL_law_1207 : decode cL_law 1207 = .ok (.iaload, 1) := by decide +kernel
theorem dL_law_1208 : decode cL_law 1208 = .ok (.aload_n 0, 1) := by decide +kernel
theorem dL_law_1209 : decode cL_law 1209 = .ok (.iload_n 3, 1) := by decide +kernel
theorem dL_law_1210 : decode cL_law 1210 = .ok (.iconst 2, 1) := by decide +kernel
theorem dL_law_1211 : decode cL_law 1211 = .ok (.iadd, 1) := by decide +kernel
theorem dL_law_1212 : decode cL_law 1212 = .ok (.iaload, 1) := by decide +kernel
theorem dL_law_1213 : decode cL_law 1213 = .ok (.invokevirtual 145, 3) := by decide +kernel
theorem dL_law_1216 : decode cL_law 1216 = .ok (.aload_n 2, 1) := by decide +kernel
theorem dL_law_1217 : decode cL_law 1217 = .ok (.aload_n 0, 1) := by decide +kernel
theorem dL_law_1218 : decode cL_law 1218 = .ok (.iload_n 3, 1) := by decide +kernel
theorem dL_law_1219 : decode cL_law 1219 = .ok (.iconst 1, 1) := by decide +kernel
theorem dL_law_1220 : decode cL_law 1220 = .ok (.iadd, 1) := by decide +kernel
theorem dL_law_1221 : decode cL_law 1221 = .ok (.iaload, 1) := by decide +kernel
theorem dL_law_1222 : decode cL_law 1222 = .ok (.aload_n 0, 1) := by decide +kernel
theorem dL_law_1223 : decode cL_law 1223 = .ok (.iload_n 3, 1) := by decide +kernel
theorem dL_law_1224 : decode cL_law 1224 = .ok (.iconst 2, 1) := by decide +kernel
theorem dL_law_1225 : decode cL_law 1225 = .ok (.iadd, 1) := by decide +kernel
theorem dL_law_1226 : decode cL_law 1226 = .ok (.iaload, 1) := by decide +kernel
theorem dL_law_1227 : decode cL_law 1227 = .ok (.invokevirtual 148, 3) := by decide +kernel
theorem dL_law_1230 : decode cL_law 1230 = .ok (.if_icmp .eq 645, 3) := by decide +kernel
theorem dL_law_1233 : decode cL_law 1233 = .ok (.iconst 0, 1) := by decide +kernel
theorem dL_law_1234 : decode cL_law 1234 = .ok (.ireturn, 1) := by decide +kernel
theorem dL_law_1235 : decode cL_law 1235 = .ok (.aload_n 1, 1) := by decide +kernel
theorem dL_law_1236 : decode cL_law 1236 = .ok (.invokevirtual 149, 3) := by decide +kernel
theorem dL_law_1239 : decode cL_law 1239 = .ok (.aload_n 2, 1) := by decide +kernel
theorem dL_law_1240 : decode cL_law 1240 = .ok (.invokevirtual 152, 3) := by decide +kernel
theorem dL_law_1243 : decode cL_law 1243 = .ok (.if_icmp .eq 632, 3) := by decide +kernel
theorem dL_law_1246 : decode cL_law 1246 = .ok (.iconst 0, 1) := by decide +kernel
theorem dL_law_1247 : decode cL_law 1247 = .ok (.ireturn, 1) := by decide +kernel
theorem dL_law_1248 : decode cL_law 1248 = .ok (.aload_n 1, 1) := by decide +kernel
theorem dL_law_1249 : decode cL_law 1249 = .ok (.aload_n 0, 1) := by decide +kernel
theorem dL_law_1250 : decode cL_law 1250 = .ok (.iload_n 3, 1) := by decide +kernel
theorem dL_law_1251 : decode cL_law 1251 = .ok (.iconst 1, 1) := by decide +kernel
theorem dL_law_1252 : decode cL_law 1252 = .ok (.iadd, 1) := by decide +kernel
theorem dL_law_1253 : decode cL_law 1253 = .ok (.iaload, 1) := by decide +kernel
theorem dL_law_1254 : decode cL_law 1254 = .ok (.aload_n 0, 1) := by decide +kernel
theorem dL_law_1255 : decode cL_law 1255 = .ok (.iload_n 3, 1) := by decide +kernel
theorem dL_law_1256 : decode cL_law 1256 = .ok (.iconst 2, 1) := by decide +kernel
theorem dL_law_1257 : decode cL_law 1257 = .ok (.iadd, 1) := by decide +kernel
theorem dL_law_1258 : decode cL_law 1258 = .ok (.iaload, 1) := by decide +kernel
theorem dL_law_1259 : decode cL_law 1259 = .ok (.invokevirtual 153, 3) := by decide +kernel
theorem dL_law_1262 : decode cL_law 1262 = .ok (.aload_n 2, 1) := by decide +kernel
theorem dL_law_1263 : decode cL_law 1263 = .ok (.aload_n 0, 1) := by decide +kernel
theorem dL_law_1264 : decode cL_law 1264 = .ok (.iload_n 3, 1) := by decide +kernel
theorem dL_law_1265 : decode cL_law 1265 = .ok (.iconst 1, 1) := by decide +kernel
theorem dL_law_1266 : decode cL_law 1266 = .ok (.iadd, 1) := by decide +kernel
theorem dL_law_1267 : decode cL_law 1267 = .ok (.iaload, 1) := by decide +kernel
theorem dL_law_1268 : decode cL_law 1268 = .ok (.aload_n 0, 1) := by decide +kernel
theorem dL_law_1269 : decode cL_law 1269 = .ok (.iload_n 3, 1) := by decide +kernel
theorem dL_law_1270 : decode cL_law 1270 = .ok (.iconst 2, 1) := by decide +kernel
theorem dL_law_1271 : decode cL_law 1271 = .ok (.iadd, 1) := by decide +kernel
theorem dL_law_1272 : decode cL_law 1272 = .ok (.iaload, 1) := by decide +kernel
theorem dL_law_1273 : decode cL_law 1273 = .ok (.invokevirtual 156, 3) := by decide +kernel
theorem dL_law_1276 : decode cL_law 1276 = .ok (.if_icmp .eq 599, 3) := by decide +kernel
theorem dL_law_1279 : decode cL_law 1279 = .ok (.iconst 0, 1) := by decide +kernel
theorem dL_law_1280 : decode cL_law 1280 = .ok (.ireturn, 1) := by decide +kernel
theorem dL_law_1281 : decode cL_law 1281 = .ok (.aload_n 1, 1) := by decide +kernel
theorem dL_law_1282 : decode cL_law 1282 = .ok (.aload_n 0, 1) := by decide +kernel
theorem dL_law_1283 : decode cL_law 1283 = .ok (.iload_n 3, 1) := by decide +kernel
theorem dL_law_1284 : decode cL_law 1284 = .ok (.iconst 1, 1) := by decide +kernel
theorem dL_law_1285 : decode cL_law 1285 = .ok (.iadd, 1) := by decide +kernel
theorem dL_law_1286 : decode cL_law 1286 = .ok (.iaload, 1) := by decide +kernel
theorem dL_law_1287 : decode cL_law 1287 = .ok (.aload_n 0, 1) := by decide +kernel
theorem dL_law_1288 : decode cL_law 1288 = .ok (.iload_n 3, 1) := by decide +kernel
theorem dL_law_1289 : decode cL_law 1289 = .ok (.iconst 2, 1) := by decide +kernel
theorem dL_law_1290 : decode cL_law 1290 = .ok (.iadd, 1) := by decide +kernel
theorem dL_law_1291 : decode cL_law 1291 = .ok (.iaload, 1) := by decide +kernel
theorem dL_law_1292 : decode cL_law 1292 = .ok (.invokevirtual 157, 3) := by decide +kernel
theorem dL_law_1295 : decode cL_law 1295 = .ok (.aload_n 2, 1) := by decide +kernel
theorem dL_law_1296 : decode cL_law 1296 = .ok (.aload_n 0, 1) := by decide +kernel
theorem dL_law_1297 : decode cL_law 1297 = .ok (.iload_n 3, 1) := by decide +kernel
theorem dL_law_1298 : decode cL_law 1298 = .ok (.iconst 1, 1) := by decide +kernel
theorem dL_law_1299 : decode cL_law 1299 = .ok (.iadd, 1) := by decide +kernel
theorem dL_law_1300 : decode cL_law 1300 = .ok (.iaload, 1) := by decide +kernel
theorem dL_law_1301 : decode cL_law 1301 = .ok (.aload_n 0, 1) := by decide +kernel
theorem dL_law_1302 : decode cL_law 1302 = .ok (.iload_n 3, 1) := by decide +kernel
theorem dL_law_1303 : decode cL_law 1303 = .ok (.iconst 2, 1) := by decide +kernel
theorem dL_law_1304 : decode cL_law 1304 = .ok (.iadd, 1) := by decide +kernel
theorem dL_law_1305 : decode cL_law 1305 = .ok (.iaload, 1) := by decide +kernel
theorem dL_law_1306 : decode cL_law 1306 = .ok (.invokevirtual 160, 3) := by decide +kernel
theorem dL_law_1309 : decode cL_law 1309 = .ok (.if_icmp .eq 566, 3) := by decide +kernel
theorem dL_law_1312 : decode cL_law 1312 = .ok (.iconst 0, 1) := by decide +kernel
theorem dL_law_1313 : decode cL_law 1313 = .ok (.ireturn, 1) := by decide +kernel
theorem dL_law_1314 : decode cL_law 1314 = .ok (.aload_n 1, 1) := by decide +kernel
theorem dL_law_1315 : decode cL_law 1315 = .ok (.aload_n 0, 1) := by decide +kernel
theorem dL_law_1316 : decode cL_law 1316 = .ok (.iload_n 3, 1) := by decide +kernel
theorem dL_law_1317 : decode cL_law 1317 = .ok (.iconst 1, 1) := by decide +kernel
theorem dL_law_1318 : decode cL_law 1318 = .ok (.iadd, 1) := by decide +kernel
theorem dL_law_1319 : decode cL_law 1319 = .ok (.iaload, 1) := by decide +kernel
theorem dL_law_1320 : decode cL_law 1320 = .ok (.aload_n 0, 1) := by decide +kernel
theorem dL_law_1321 : decode cL_law 1321 = .ok (.iload_n 3, 1) := by decide +kernel
theorem dL_law_1322 : decode cL_law 1322 = .ok (.iconst 2, 1) := by decide +kernel
theorem dL_law_1323 : decode cL_law 1323 = .ok (.iadd, 1) := by decide +kernel
theorem dL_law_1324 : decode cL_law 1324 = .ok (.iaload, 1) := by decide +kernel
theorem dL_law_1325 : decode cL_law 1325 = .ok (.invokevirtual 161, 3) := by decide +kernel
theorem dL_law_1328 : decode cL_law 1328 = .ok (.aload_n 2, 1) := by decide +kernel
theorem dL_law_1329 : decode cL_law 1329 = .ok (.aload_n 0, 1) := by decide +kernel
theorem dL_law_1330 : decode cL_law 1330 = .ok (.iload_n 3, 1) := by decide +kernel
theorem dL_law_1331 : decode cL_law 1331 = .ok (.iconst 1, 1) := by decide +kernel
theorem dL_law_1332 : decode cL_law 1332 = .ok (.iadd, 1) := by decide +kernel
theorem dL_law_1333 : decode cL_law 1333 = .ok (.iaload, 1) := by decide +kernel
theorem dL_law_1334 : decode cL_law 1334 = .ok (.aload_n 0, 1) := by decide +kernel
theorem dL_law_1335 : decode cL_law 1335 = .ok (.iload_n 3, 1) := by decide +kernel
theorem dL_law_1336 : decode cL_law 1336 = .ok (.iconst 2, 1) := by decide +kernel
theorem dL_law_1337 : decode cL_law 1337 = .ok (.iadd, 1) := by decide +kernel
theorem dL_law_1338 : decode cL_law 1338 = .ok (.iaload, 1) := by decide +kernel
theorem dL_law_1339 : decode cL_law 1339 = .ok (.invokevirtual 164, 3) := by decide +kernel
theorem dL_law_1342 : decode cL_law 1342 = .ok (.if_icmp .eq 533, 3) := by decide +kernel
theorem dL_law_1345 : decode cL_law 1345 = .ok (.iconst 0, 1) := by decide +kernel
theorem dL_law_1346 : decode cL_law 1346 = .ok (.ireturn, 1) := by decide +kernel
theorem dL_law_1347 : decode cL_law 1347 = .ok (.aload_n 1, 1) := by decide +kernel
theorem dL_law_1348 : decode cL_law 1348 = .ok (.aload_n 0, 1) := by decide +kernel
theorem dL_law_1349 : decode cL_law 1349 = .ok (.iload_n 3, 1) := by decide +kernel
theorem dL_law_1350 : decode cL_law 1350 = .ok (.iconst 1, 1) := by decide +kernel
theorem dL_law_1351 : decode cL_law 1351 = .ok (.iadd, 1) := by decide +kernel
theorem dL_law_1352 : decode cL_law 1352 = .ok (.iaload, 1) := by decide +kernel
theorem dL_law_1353 : decode cL_law 1353 = .ok (.aload_n 0, 1) := by decide +kernel
theorem dL_law_1354 : decode cL_law 1354 = .ok (.iload_n 3, 1) := by decide +kernel
theorem dL_law_1355 : decode cL_law 1355 = .ok (.iconst 2, 1) := by decide +kernel
theorem dL_law_1356 : decode cL_law 1356 = .ok (.iadd, 1) := by decide +kernel
theorem dL_law_1357 : decode cL_law 1357 = .ok (.iaload, 1) := by decide +kernel
theorem dL_law_1358 : decode cL_law 1358 = .ok (.invokevirtual 165, 3) := by decide +kernel
theorem dL_law_1361 : decode cL_law 1361 = .ok (.aload_n 2, 1) := by decide +kernel
theorem dL_law_1362 : decode cL_law 1362 = .ok (.aload_n 0, 1) := by decide +kernel
theorem dL_law_1363 : decode cL_law 1363 = .ok (.iload_n 3, 1) := by decide +kernel
theorem dL_law_1364 : decode cL_law 1364 = .ok (.iconst 1, 1) := by decide +kernel
theorem dL_law_1365 : decode cL_law 1365 = .ok (.iadd, 1) := by decide +kernel
theorem dL_law_1366 : decode cL_law 1366 = .ok (.iaload, 1) := by decide +kernel
theorem dL_law_1367 : decode cL_law 1367 = .ok (.aload_n 0, 1) := by decide +kernel
theorem dL_law_1368 : decode cL_law 1368 = .ok (.iload_n 3, 1) := by decide +kernel
theorem dL_law_1369 : decode cL_law 1369 = .ok (.iconst 2, 1) := by decide +kernel
theorem dL_law_1370 : decode cL_law 1370 = .ok (.iadd, 1) := by decide +kernel
theorem dL_law_1371 : decode cL_law 1371 = .ok (.iaload, 1) := by decide +kernel
theorem dL_law_1372 : decode cL_law 1372 = .ok (.invokevirtual 168, 3) := by decide +kernel
theorem dL_law_1375 : decode cL_law 1375 = .ok (.if_icmp .eq 500, 3) := by decide +kernel
theorem dL_law_1378 : decode cL_law 1378 = .ok (.iconst 0, 1) := by decide +kernel
theorem dL_law_1379 : decode cL_law 1379 = .ok (.ireturn, 1) := by decide +kernel
theorem dL_law_1380 : decode cL_law 1380 = .ok (.aload_n 1, 1) := by decide +kernel
theorem dL_law_1381 : decode cL_law 1381 = .ok (.aload_n 0, 1) := by decide +kernel
theorem dL_law_1382 : decode cL_law 1382 = .ok (.iload_n 3, 1) := by decide +kernel
theorem dL_law_1383 : decode cL_law 1383 = .ok (.iconst 1, 1) := by decide +kernel
theorem dL_law_1384 : decode cL_law 1384 = .ok (.iadd, 1) := by decide +kernel
theorem dL_law_1385 : decode cL_law 1385 = .ok (.iaload, 1) := by decide +kernel
theorem dL_law_1386 : decode cL_law 1386 = .ok (.invokevirtual 169, 3) := by decide +kernel
theorem dL_law_1389 : decode cL_law 1389 = .ok (.aload_n 2, 1) := by decide +kernel
theorem dL_law_1390 : decode cL_law 1390 = .ok (.aload_n 0, 1) := by decide +kernel
theorem dL_law_1391 : decode cL_law 1391 = .ok (.iload_n 3, 1) := by decide +kernel
theorem dL_law_1392 : decode cL_law 1392 = .ok (.iconst 1, 1) := by decide +kernel
theorem dL_law_1393 : decode cL_law 1393 = .ok (.iadd, 1) := by decide +kernel
theorem dL_law_1394 : decode cL_law 1394 = .ok (.iaload, 1) := by decide +kernel
theorem dL_law_1395 : decode cL_law 1395 = .ok (.invokevirtual 172, 3) := by decide +kernel
theorem dL_law_1398 : decode cL_law 1398 = .ok (.if_icmp .eq 477, 3) := by decide +kernel
theorem dL_law_1401 : decode cL_law 1401 = .ok (.iconst 0, 1) := by decide +kernel
theorem dL_law_1402 : decode cL_law 1402 = .ok (.ireturn, 1) := by decide +kernel
theorem dL_law_1403 : decode cL_law 1403 = .ok (.aload_n 1, 1) := by decide +kernel
theorem dL_law_1404 : decode cL_law 1404 = .ok (.aload_n 0, 1) := by decide +kernel
theorem dL_law_1405 : decode cL_law 1405 = .ok (.iload_n 3, 1) := by decide +kernel
theorem dL_law_1406 : decode cL_law 1406 = .ok (.iconst 1, 1) := by decide +kernel
theorem dL_law_1407 : decode cL_law 1407 = .ok (.iadd, 1) := by decide +kernel
theorem dL_law_1408 : decode cL_law 1408 = .ok (.iaload, 1) := by decide +kernel
theorem dL_law_1409 : decode cL_law 1409 = .ok (.aload_n 0, 1) := by decide +kernel
theorem dL_law_1410 : decode cL_law 1410 = .ok (.iload_n 3, 1) := by decide +kernel
theorem dL_law_1411 : decode cL_law 1411 = .ok (.iconst 2, 1) := by decide +kernel
theorem dL_law_1412 : decode cL_law 1412 = .ok (.iadd, 1) := by decide +kernel
theorem dL_law_1413 : decode cL_law 1413 = .ok (.iaload, 1) := by decide +kernel
theorem dL_law_1414 : decode cL_law 1414 = .ok (.invokevirtual 173, 3) := by decide +kernel
theorem dL_law_1417 : decode cL_law 1417 = .ok (.aload_n 2, 1) := by decide +kernel
theorem dL_law_1418 : decode cL_law 1418 = .ok (.aload_n 0, 1) := by decide +kernel
theorem dL_law_1419 : decode cL_law 1419 = .ok (.iload_n 3, 1) := by decide +kernel
theorem dL_law_1420 : decode cL_law 1420 = .ok (.iconst 1, 1) := by decide +kernel
theorem dL_law_1421 : decode cL_law 1421 = .ok (.iadd, 1) := by decide +kernel
theorem dL_law_1422 : decode cL_law 1422 = .ok (.iaload, 1) := by decide +kernel
theorem dL_law_1423 : decode cL_law 1423 = .ok (.aload_n 0, 1) := by decide +kernel
theorem dL_law_1424 : decode cL_law 1424 = .ok (.iload_n 3, 1) := by decide +kernel
theorem dL_law_1425 : decode cL_law 1425 = .ok (.iconst 2, 1) := by decide +kernel
theorem dL_law_1426 : decode cL_law 1426 = .ok (.iadd, 1) := by decide +kernel
theorem dL_law_1427 : decode cL_law 1427 = .ok (.iaload, 1) := by decide +kernel
theorem dL_law_1428 : decode cL_law 1428 = .ok (.invokevirtual 176, 3) := by decide +kernel
theorem dL_law_1431 : decode cL_law 1431 = .ok (.if_icmp .eq 444, 3) := by decide +kernel
theorem dL_law_1434 : decode cL_law 1434 = .ok (.iconst 0, 1) := by decide +kernel
theorem dL_law_1435 : decode cL_law 1435 = .ok (.ireturn, 1) := by decide +kernel
theorem dL_law_1436 : decode cL_law 1436 = .ok (.aload_n 1, 1) := by decide +kernel
theorem dL_law_1437 : decode cL_law 1437 = .ok (.aload_n 0, 1) := by decide +kernel
theorem dL_law_1438 : decode cL_law 1438 = .ok (.iload_n 3, 1) := by decide +kernel
theorem dL_law_1439 : decode cL_law 1439 = .ok (.iconst 1, 1) := by decide +kernel
theorem dL_law_1440 : decode cL_law 1440 = .ok (.iadd, 1) := by decide +kernel
theorem dL_law_1441 : decode cL_law 1441 = .ok (.iaload, 1) := by decide +kernel
theorem dL_law_1442 : decode cL_law 1442 = .ok (.aload_n 0, 1) := by decide +kernel
theorem dL_law_1443 : decode cL_law 1443 = .ok (.iload_n 3, 1) := by decide +kernel
theorem dL_law_1444 : decode cL_law 1444 = .ok (.iconst 2, 1) := by decide +kernel
theorem dL_law_1445 : decode cL_law 1445 = .ok (.iadd, 1) := by decide +kernel
theorem dL_law_1446 : decode cL_law 1446 = .ok (.iaload, 1) := by decide +kernel
theorem dL_law_1447 : decode cL_law 1447 = .ok (.aload_n 0, 1) := by decide +kernel
theorem dL_law_1448 : decode cL_law 1448 = .ok (.iload_n 3, 1) := by decide +kernel
theorem dL_law_1449 : decode cL_law 1449 = .ok (.iconst 3, 1) := by decide +kernel
theorem dL_law_1450 : decode cL_law 1450 = .ok (.iadd, 1) := by decide +kernel
theorem dL_law_1451 : decode cL_law 1451 = .ok (.iaload, 1) := by decide +kernel
theorem dL_law_1452 : decode cL_law 1452 = .ok (.aload_n 0, 1) := by decide +kernel
theorem dL_law_1453 : decode cL_law 1453 = .ok (.iload_n 3, 1) := by decide +kernel
theorem dL_law_1454 : decode cL_law 1454 = .ok (.iconst 4, 1) := by decide +kernel
theorem dL_law_1455 : decode cL_law 1455 = .ok (.iadd, 1) := by decide +kernel
theorem dL_law_1456 : decode cL_law 1456 = .ok (.iaload, 1) := by decide +kernel
theorem dL_law_1457 : decode cL_law 1457 = .ok (.aload_n 0, 1) := by decide +kernel
theorem dL_law_1458 : decode cL_law 1458 = .ok (.iload_n 3, 1) := by decide +kernel
theorem dL_law_1459 : decode cL_law 1459 = .ok (.iconst 5, 1) := by decide +kernel
theorem dL_law_1460 : decode cL_law 1460 = .ok (.iadd, 1) := by decide +kernel
theorem dL_law_1461 : decode cL_law 1461 = .ok (.iaload, 1) := by decide +kernel
theorem dL_law_1462 : decode cL_law 1462 = .ok (.invokevirtual 177, 3) := by decide +kernel
theorem dL_law_1465 : decode cL_law 1465 = .ok (.aload_n 2, 1) := by decide +kernel
theorem dL_law_1466 : decode cL_law 1466 = .ok (.aload_n 0, 1) := by decide +kernel
theorem dL_law_1467 : decode cL_law 1467 = .ok (.iload_n 3, 1) := by decide +kernel
theorem dL_law_1468 : decode cL_law 1468 = .ok (.iconst 1, 1) := by decide +kernel
theorem dL_law_1469 : decode cL_law 1469 = .ok (.iadd, 1) := by decide +kernel
theorem dL_law_1470 : decode cL_law 1470 = .ok (.iaload, 1) := by decide +kernel
theorem dL_law_1471 : decode cL_law 1471 = .ok (.aload_n 0, 1) := by decide +kernel
theorem dL_law_1472 : decode cL_law 1472 = .ok (.iload_n 3, 1) := by decide +kernel
theorem dL_law_1473 : decode cL_law 1473 = .ok (.iconst 2, 1) := by decide +kernel
theorem dL_law_1474 : decode cL_law 1474 = .ok (.iadd, 1) := by decide +kernel
theorem dL_law_1475 : decode cL_law 1475 = .ok (.iaload, 1) := by decide +kernel
theorem dL_law_1476 : decode cL_law 1476 = .ok (.aload_n 0, 1) := by decide +kernel
theorem dL_law_1477 : decode cL_law 1477 = .ok (.iload_n 3, 1) := by decide +kernel
theorem dL_law_1478 : decode cL_law 1478 = .ok (.iconst 3, 1) := by decide +kernel
theorem dL_law_1479 : decode cL_law 1479 = .ok (.iadd, 1) := by decide +kernel
theorem dL_law_1480 : decode cL_law 1480 = .ok (.iaload, 1) := by decide +kernel
theorem dL_law_1481 : decode cL_law 1481 = .ok (.aload_n 0, 1) := by decide +kernel
theorem dL_law_1482 : decode cL_law 1482 = .ok (.iload_n 3, 1) := by decide +kernel
theorem dL_law_1483 : decode cL_law 1483 = .ok (.iconst 4, 1) := by decide +kernel
theorem dL_law_1484 : decode cL_law 1484 = .ok (.iadd, 1) := by decide +kernel
theorem dL_law_1485 : decode cL_law 1485 = .ok (.iaload, 1) := by decide +kernel
theorem dL_law_1486 : decode cL_law 1486 = .ok (.aload_n 0, 1) := by decide +kernel
theorem dL_law_1487 : decode cL_law 1487 = .ok (.iload_n 3, 1) := by decide +kernel
theorem dL_law_1488 : decode cL_law 1488 = .ok (.iconst 5, 1) := by decide +kernel
theorem dL_law_1489 : decode cL_law 1489 = .ok (.iadd, 1) := by decide +kernel
theorem dL_law_1490 : decode cL_law 1490 = .ok (.iaload, 1) := by decide +kernel
theorem dL_law_1491 : decode cL_law 1491 = .ok (.invokevirtual 181, 3) := by decide +kernel
theorem dL_law_1494 : decode cL_law 1494 = .ok (.lcmp, 1) := by decide +kernel
theorem dL_law_1495 : decode cL_law 1495 = .ok (.ifCond .eq 380, 3) := by decide +kernel
theorem dL_law_1498 : decode cL_law 1498 = .ok (.iconst 0, 1) := by decide +kernel
theorem dL_law_1499 : decode cL_law 1499 = .ok (.ireturn, 1) := by decide +kernel
theorem dL_law_1500 : decode cL_law 1500 = .ok (.aload_n 1, 1) := by decide +kernel
theorem dL_law_1501 : decode cL_law 1501 = .ok (.aload_n 0, 1) := by decide +kernel
theorem dL_law_1502 : decode cL_law 1502 = .ok (.iload_n 3, 1) := by decide +kernel
theorem dL_law_1503 : decode cL_law 1503 = .ok (.iconst 1, 1) := by decide +kernel
theorem dL_law_1504 : decode cL_law 1504 = .ok (.iadd, 1) := by decide +kernel
theorem dL_law_1505 : decode cL_law 1505 = .ok (.iaload, 1) := by decide +kernel
theorem dL_law_1506 : decode cL_law 1506 = .ok (.invokevirtual 182, 3) := by decide +kernel
theorem dL_law_1509 : decode cL_law 1509 = .ok (.aload_n 2, 1) := by decide +kernel
theorem dL_law_1510 : decode cL_law 1510 = .ok (.aload_n 0, 1) := by decide +kernel
theorem dL_law_1511 : decode cL_law 1511 = .ok (.iload_n 3, 1) := by decide +kernel
theorem dL_law_1512 : decode cL_law 1512 = .ok (.iconst 1, 1) := by decide +kernel
theorem dL_law_1513 : decode cL_law 1513 = .ok (.iadd, 1) := by decide +kernel
theorem dL_law_1514 : decode cL_law 1514 = .ok (.iaload, 1) := by decide +kernel
theorem dL_law_1515 : decode cL_law 1515 = .ok (.invokevirtual 186, 3) := by decide +kernel
theorem dL_law_1518 : decode cL_law 1518 = .ok (.lcmp, 1) := by decide +kernel
theorem dL_law_1519 : decode cL_law 1519 = .ok (.ifCond .eq 356, 3) := by decide +kernel
theorem dL_law_1522 : decode cL_law 1522 = .ok (.iconst 0, 1) := by decide +kernel
theorem dL_law_1523 : decode cL_law 1523 = .ok (.ireturn, 1) := by decide +kernel
theorem dL_law_1524 : decode cL_law 1524 = .ok (.aload_n 1, 1) := by decide +kernel
theorem dL_law_1525 : decode cL_law 1525 = .ok (.aload_n 0, 1) := by decide +kernel
theorem dL_law_1526 : decode cL_law 1526 = .ok (.iload_n 3, 1) := by decide +kernel
theorem dL_law_1527 : decode cL_law 1527 = .ok (.iconst 1, 1) := by decide +kernel
theorem dL_law_1528 : decode cL_law 1528 = .ok (.iadd, 1) := by decide +kernel
theorem dL_law_1529 : decode cL_law 1529 = .ok (.iaload, 1) := by decide +kernel
theorem dL_law_1530 : decode cL_law 1530 = .ok (.aload_n 0, 1) := by decide +kernel
theorem dL_law_1531 : decode cL_law 1531 = .ok (.iload_n 3, 1) := by decide +kernel
theorem dL_law_1532 : decode cL_law 1532 = .ok (.iconst 2, 1) := by decide +kernel
theorem dL_law_1533 : decode cL_law 1533 = .ok (.iadd, 1) := by decide +kernel
theorem dL_law_1534 : decode cL_law 1534 = .ok (.iaload, 1) := by decide +kernel
theorem dL_law_1535 : decode cL_law 1535 = .ok (.invokevirtual 187, 3) := by decide +kernel
theorem dL_law_1538 : decode cL_law 1538 = .ok (.aload_n 2, 1) := by decide +kernel
theorem dL_law_1539 : decode cL_law 1539 = .ok (.aload_n 0, 1) := by decide +kernel
theorem dL_law_1540 : decode cL_law 1540 = .ok (.iload_n 3, 1) := by decide +kernel
theorem dL_law_1541 : decode cL_law 1541 = .ok (.iconst 1, 1) := by decide +kernel
theorem dL_law_1542 : decode cL_law 1542 = .ok (.iadd, 1) := by decide +kernel
theorem dL_law_1543 : decode cL_law 1543 = .ok (.iaload, 1) := by decide +kernel
theorem dL_law_1544 : decode cL_law 1544 = .ok (.aload_n 0, 1) := by decide +kernel
theorem dL_law_1545 : decode cL_law 1545 = .ok (.iload_n 3, 1) := by decide +kernel
theorem dL_law_1546 : decode cL_law 1546 = .ok (.iconst 2, 1) := by decide +kernel
theorem dL_law_1547 : decode cL_law 1547 = .ok (.iadd, 1) := by decide +kernel
theorem dL_law_1548 : decode cL_law 1548 = .ok (.iaload, 1) := by decide +kernel
theorem dL_law_1549 : decode cL_law 1549 = .ok (.invokevirtual 190, 3) := by decide +kernel
theorem dL_law_1552 : decode cL_law 1552 = .ok (.if_icmp .eq 323, 3) := by decide +kernel
theorem dL_law_1555 : decode cL_law 1555 = .ok (.iconst 0, 1) := by decide +kernel
theorem dL_law_1556 : decode cL_law 1556 = .ok (.ireturn, 1) := by decide +kernel
theorem dL_law_1557 : decode cL_law 1557 = .ok (.aload_n 1, 1) := by decide +kernel
theorem dL_law_1558 : decode cL_law 1558 = .ok (.aload_n 0, 1) := by decide +kernel
theorem dL_law_1559 : decode cL_law 1559 = .ok (.iload_n 3, 1) := by decide +kernel
theorem dL_law_1560 : decode cL_law 1560 = .ok (.iconst 1, 1) := by decide +kernel
theorem dL_law_1561 : decode cL_law 1561 = .ok (.iadd, 1) := by decide +kernel
theorem dL_law_1562 : decode cL_law 1562 = .ok (.iaload, 1) := by decide +kernel
theorem dL_law_1563 : decode cL_law 1563 = .ok (.invokevirtual 191, 3) := by decide +kernel
theorem dL_law_1566 : decode cL_law 1566 = .ok (.aload_n 2, 1) := by decide +kernel
theorem dL_law_1567 : decode cL_law 1567 = .ok (.aload_n 0, 1) := by decide +kernel
theorem dL_law_1568 : decode cL_law 1568 = .ok (.iload_n 3, 1) := by decide +kernel
theorem dL_law_1569 : decode cL_law 1569 = .ok (.iconst 1, 1) := by decide +kernel
theorem dL_law_1570 : decode cL_law 1570 = .ok (.iadd, 1) := by decide +kernel
theorem dL_law_1571 : decode cL_law 1571 = .ok (.iaload, 1) := by decide +kernel
theorem dL_law_1572 : decode cL_law 1572 = .ok (.invokevirtual 194, 3) := by decide +kernel
theorem dL_law_1575 : decode cL_law 1575 = .ok (.if_icmp .eq 300, 3) := by decide +kernel
theorem dL_law_1578 : decode cL_law 1578 = .ok (.iconst 0, 1) := by decide +kernel
theorem dL_law_1579 : decode cL_law 1579 = .ok (.ireturn, 1) := by decide +kernel
theorem dL_law_1580 : decode cL_law 1580 = .ok (.aload_n 1, 1) := by decide +kernel
theorem dL_law_1581 : decode cL_law 1581 = .ok (.aload_n 0, 1) := by decide +kernel
theorem dL_law_1582 : decode cL_law 1582 = .ok (.iload_n 3, 1) := by decide +kernel
theorem dL_law_1583 : decode cL_law 1583 = .ok (.iconst 1, 1) := by decide +kernel
theorem dL_law_1584 : decode cL_law 1584 = .ok (.iadd, 1) := by decide +kernel
theorem dL_law_1585 : decode cL_law 1585 = .ok (.iaload, 1) := by decide +kernel
theorem dL_law_1586 : decode cL_law 1586 = .ok (.aload_n 0, 1) := by decide +kernel
theorem dL_law_1587 : decode cL_law 1587 = .ok (.iload_n 3, 1) := by decide +kernel
theorem dL_law_1588 : decode cL_law 1588 = .ok (.iconst 2, 1) := by decide +kernel
theorem dL_law_1589 : decode cL_law 1589 = .ok (.iadd, 1) := by decide +kernel
theorem dL_law_1590 : decode cL_law 1590 = .ok (.iaload, 1) := by decide +kernel
theorem dL_law_1591 : decode cL_law 1591 = .ok (.invokevirtual 195, 3) := by decide +kernel
theorem dL_law_1594 : decode cL_law 1594 = .ok (.aload_n 2, 1) := by decide +kernel
theorem dL_law_1595 : decode cL_law 1595 = .ok (.aload_n 0, 1) := by decide +kernel
theorem dL_law_1596 : decode cL_law 1596 = .ok (.iload_n 3, 1) := by decide +kernel
theorem dL_law_1597 : decode cL_law 1597 = .ok (.iconst 1, 1) := by decide +kernel
theorem dL_law_1598 : decode cL_law 1598 = .ok (.iadd, 1) := by decide +kernel
theorem dL_law_1599 : decode cL_law 1599 = .ok (.iaload, 1) := by decide +kernel
theorem dL_law_1600 : decode cL_law 1600 = .ok (.aload_n 0, 1) := by decide +kernel
theorem dL_law_1601 : decode cL_law 1601 = .ok (.iload_n 3, 1) := by decide +kernel
theorem dL_law_1602 : decode cL_law 1602 = .ok (.iconst 2, 1) := by decide +kernel
theorem dL_law_1603 : decode cL_law 1603 = .ok (.iadd, 1) := by decide +kernel
theorem dL_law_1604 : decode cL_law 1604 = .ok (.iaload, 1) := by decide +kernel
theorem dL_law_1605 : decode cL_law 1605 = .ok (.invokevirtual 198, 3) := by decide +kernel
theorem dL_law_1608 : decode cL_law 1608 = .ok (.if_icmp .eq 267, 3) := by decide +kernel
theorem dL_law_1611 : decode cL_law 1611 = .ok (.iconst 0, 1) := by decide +kernel
theorem dL_law_1612 : decode cL_law 1612 = .ok (.ireturn, 1) := by decide +kernel
theorem dL_law_1613 : decode cL_law 1613 = .ok (.aload_n 1, 1) := by decide +kernel
theorem dL_law_1614 : decode cL_law 1614 = .ok (.invokevirtual 199, 3) := by decide +kernel
theorem dL_law_1617 : decode cL_law 1617 = .ok (.aload_n 2, 1) := by decide +kernel
theorem dL_law_1618 : decode cL_law 1618 = .ok (.invokevirtual 202, 3) := by decide +kernel
theorem dL_law_1621 : decode cL_law 1621 = .ok (.if_icmp .eq 254, 3) := by decide +kernel
theorem dL_law_1624 : decode cL_law 1624 = .ok (.iconst 0, 1) := by decide +kernel
theorem dL_law_1625 : decode cL_law 1625 = .ok (.ireturn, 1) := by decide +kernel
theorem dL_law_1626 : decode cL_law 1626 = .ok (.aload_n 1, 1) := by decide +kernel
theorem dL_law_1627 : decode cL_law 1627 = .ok (.invokevirtual 203, 3) := by decide +kernel
theorem dL_law_1630 : decode cL_law 1630 = .ok (.aload_n 2, 1) := by decide +kernel
theorem dL_law_1631 : decode cL_law 1631 = .ok (.invokevirtual 206, 3) := by decide +kernel
theorem dL_law_1634 : decode cL_law 1634 = .ok (.if_icmp .eq 241, 3) := by decide +kernel
theorem dL_law_1637 : decode cL_law 1637 = .ok (.iconst 0, 1) := by decide +kernel
theorem dL_law_1638 : decode cL_law 1638 = .ok (.ireturn, 1) := by decide +kernel
theorem dL_law_1639 : decode cL_law 1639 = .ok (.aload_n 1, 1) := by decide +kernel
theorem dL_law_1640 : decode cL_law 1640 = .ok (.aload_n 0, 1) := by decide +kernel
theorem dL_law_1641 : decode cL_law 1641 = .ok (.iload_n 3, 1) := by decide +kernel
theorem dL_law_1642 : decode cL_law 1642 = .ok (.iconst 1, 1) := by decide +kernel
theorem dL_law_1643 : decode cL_law 1643 = .ok (.iadd, 1) := by decide +kernel
theorem dL_law_1644 : decode cL_law 1644 = .ok (.iaload, 1) := by decide +kernel
theorem dL_law_1645 : decode cL_law 1645 = .ok (.invokevirtual 207, 3) := by decide +kernel
theorem dL_law_1648 : decode cL_law 1648 = .ok (.aload_n 2, 1) := by decide +kernel
theorem dL_law_1649 : decode cL_law 1649 = .ok (.aload_n 0, 1) := by decide +kernel
theorem dL_law_1650 : decode cL_law 1650 = .ok (.iload_n 3, 1) := by decide +kernel
theorem dL_law_1651 : decode cL_law 1651 = .ok (.iconst 1, 1) := by decide +kernel
theorem dL_law_1652 : decode cL_law 1652 = .ok (.iadd, 1) := by decide +kernel
theorem dL_law_1653 : decode cL_law 1653 = .ok (.iaload, 1) := by decide +kernel
theorem dL_law_1654 : decode cL_law 1654 = .ok (.invokevirtual 210, 3) := by decide +kernel
theorem dL_law_1657 : decode cL_law 1657 = .ok (.if_icmp .eq 218, 3) := by decide +kernel
theorem dL_law_1660 : decode cL_law 1660 = .ok (.iconst 0, 1) := by decide +kernel
theorem dL_law_1661 : decode cL_law 1661 = .ok (.ireturn, 1) := by decide +kernel
theorem dL_law_1662 : decode cL_law 1662 = .ok (.aload_n 1, 1) := by decide +kernel
theorem dL_law_1663 : decode cL_law 1663 = .ok (.aload_n 0, 1) := by decide +kernel
theorem dL_law_1664 : decode cL_law 1664 = .ok (.iload_n 3, 1) := by decide +kernel
theorem dL_law_1665 : decode cL_law 1665 = .ok (.iconst 1, 1) := by decide +kernel
theorem dL_law_1666 : decode cL_law 1666 = .ok (.iadd, 1) := by decide +kernel
theorem dL_law_1667 : decode cL_law 1667 = .ok (.iaload, 1) := by decide +kernel
theorem dL_law_1668 : decode cL_law 1668 = .ok (.aload_n 0, 1) := by decide +kernel
theorem dL_law_1669 : decode cL_law 1669 = .ok (.iload_n 3, 1) := by decide +kernel
theorem dL_law_1670 : decode cL_law 1670 = .ok (.iconst 2, 1) := by decide +kernel
theorem dL_law_1671 : decode cL_law 1671 = .ok (.iadd, 1) := by decide +kernel
theorem dL_law_1672 : decode cL_law 1672 = .ok (.iaload, 1) := by decide +kernel
theorem dL_law_1673 : decode cL_law 1673 = .ok (.aload_n 0, 1) := by decide +kernel
theorem dL_law_1674 : decode cL_law 1674 = .ok (.iload_n 3, 1) := by decide +kernel
theorem dL_law_1675 : decode cL_law 1675 = .ok (.iconst 3, 1) := by decide +kernel
theorem dL_law_1676 : decode cL_law 1676 = .ok (.iadd, 1) := by decide +kernel
theorem dL_law_1677 : decode cL_law 1677 = .ok (.iaload, 1) := by decide +kernel
theorem dL_law_1678 : decode cL_law 1678 = .ok (.invokevirtual 211, 3) := by decide +kernel
theorem dL_law_1681 : decode cL_law 1681 = .ok (.aload_n 2, 1) := by decide +kernel
theorem dL_law_1682 : decode cL_law 1682 = .ok (.aload_n 0, 1) := by decide +kernel
theorem dL_law_1683 : decode cL_law 1683 = .ok (.iload_n 3, 1) := by decide +kernel
theorem dL_law_1684 : decode cL_law 1684 = .ok (.iconst 1, 1) := by decide +kernel
theorem dL_law_1685 : decode cL_law 1685 = .ok (.iadd, 1) := by decide +kernel
theorem dL_law_1686 : decode cL_law 1686 = .ok (.iaload, 1) := by decide +kernel
theorem dL_law_1687 : decode cL_law 1687 = .ok (.aload_n 0, 1) := by decide +kernel
theorem dL_law_1688 : decode cL_law 1688 = .ok (.iload_n 3, 1) := by decide +kernel
theorem dL_law_1689 : decode cL_law 1689 = .ok (.iconst 2, 1) := by decide +kernel
theorem dL_law_1690 : decode cL_law 1690 = .ok (.iadd, 1) := by decide +kernel
theorem dL_law_1691 : decode cL_law 1691 = .ok (.iaload, 1) := by decide +kernel
theorem dL_law_1692 : decode cL_law 1692 = .ok (.aload_n 0, 1) := by decide +kernel
theorem dL_law_1693 : decode cL_law 1693 = .ok (.iload_n 3, 1) := by decide +kernel
theorem dL_law_1694 : decode cL_law 1694 = .ok (.iconst 3, 1) := by decide +kernel
theorem dL_law_1695 : decode cL_law 1695 = .ok (.iadd, 1) := by decide +kernel
theorem dL_law_1696 : decode cL_law 1696 = .ok (.iaload, 1) := by decide +kernel
theorem dL_law_1697 : decode cL_law 1697 = .ok (.invokevirtual 214, 3) := by decide +kernel
theorem dL_law_1700 : decode cL_law 1700 = .ok (.if_icmp .eq 175, 3) := by decide +kernel
theorem dL_law_1703 : decode cL_law 1703 = .ok (.iconst 0, 1) := by decide +kernel
theorem dL_law_1704 : decode cL_law 1704 = .ok (.ireturn, 1) := by decide +kernel
theorem dL_law_1705 : decode cL_law 1705 = .ok (.aload_n 1, 1) := by decide +kernel
theorem dL_law_1706 : decode cL_law 1706 = .ok (.aload_n 0, 1) := by decide +kernel
theorem dL_law_1707 : decode cL_law 1707 = .ok (.iload_n 3, 1) := by decide +kernel
theorem dL_law_1708 : decode cL_law 1708 = .ok (.iconst 1, 1) := by decide +kernel
theorem dL_law_1709 : decode cL_law 1709 = .ok (.iadd, 1) := by decide +kernel
theorem dL_law_1710 : decode cL_law 1710 = .ok (.iaload, 1) := by decide +kernel
theorem dL_law_1711 : decode cL_law 1711 = .ok (.aload_n 0, 1) := by decide +kernel
theorem dL_law_1712 : decode cL_law 1712 = .ok (.iload_n 3, 1) := by decide +kernel
theorem dL_law_1713 : decode cL_law 1713 = .ok (.iconst 2, 1) := by decide +kernel
theorem dL_law_1714 : decode cL_law 1714 = .ok (.iadd, 1) := by decide +kernel
theorem dL_law_1715 : decode cL_law 1715 = .ok (.iaload, 1) := by decide +kernel
theorem dL_law_1716 : decode cL_law 1716 = .ok (.aload_n 0, 1) := by decide +kernel
theorem dL_law_1717 : decode cL_law 1717 = .ok (.iload_n 3, 1) := by decide +kernel
theorem dL_law_1718 : decode cL_law 1718 = .ok (.iconst 3, 1) := by decide +kernel
theorem dL_law_1719 : decode cL_law 1719 = .ok (.iadd, 1) := by decide +kernel
theorem dL_law_1720 : decode cL_law 1720 = .ok (.iaload, 1) := by decide +kernel
theorem dL_law_1721 : decode cL_law 1721 = .ok (.i2l, 1) := by decide +kernel
theorem dL_law_1722 : decode cL_law 1722 = .ok (.bipush 32, 2) := by decide +kernel
theorem dL_law_1724 : decode cL_law 1724 = .ok (.lshl, 1) := by decide +kernel
theorem dL_law_1725 : decode cL_law 1725 = .ok (.aload_n 0, 1) := by decide +kernel
theorem dL_law_1726 : decode cL_law 1726 = .ok (.iload_n 3, 1) := by decide +kernel
theorem dL_law_1727 : decode cL_law 1727 = .ok (.iconst 4, 1) := by decide +kernel
theorem dL_law_1728 : decode cL_law 1728 = .ok (.iadd, 1) := by decide +kernel
theorem dL_law_1729 : decode cL_law 1729 = .ok (.iaload, 1) := by decide +kernel
theorem dL_law_1730 : decode cL_law 1730 = .ok (.i2l, 1) := by decide +kernel
theorem dL_law_1731 : decode cL_law 1731 = .ok (.ldc2_w 215, 3) := by decide +kernel
theorem dL_law_1734 : decode cL_law 1734 = .ok (.land, 1) := by decide +kernel
theorem dL_law_1735 : decode cL_law 1735 = .ok (.lor, 1) := by decide +kernel
theorem dL_law_1736 : decode cL_law 1736 = .ok (.invokevirtual 217, 3) := by decide +kernel
theorem dL_law_1739 : decode cL_law 1739 = .ok (.aload_n 2, 1) := by decide +kernel
theorem dL_law_1740 : decode cL_law 1740 = .ok (.aload_n 0, 1) := by decide +kernel
theorem dL_law_1741 : decode cL_law 1741 = .ok (.iload_n 3, 1) := by decide +kernel
theorem dL_law_1742 : decode cL_law 1742 = .ok (.iconst 1, 1) := by decide +kernel
theorem dL_law_1743 : decode cL_law 1743 = .ok (.iadd, 1) := by decide +kernel
theorem dL_law_1744 : decode cL_law 1744 = .ok (.iaload, 1) := by decide +kernel
theorem dL_law_1745 : decode cL_law 1745 = .ok (.aload_n 0, 1) := by decide +kernel
theorem dL_law_1746 : decode cL_law 1746 = .ok (.iload_n 3, 1) := by decide +kernel
theorem dL_law_1747 : decode cL_law 1747 = .ok (.iconst 2, 1) := by decide +kernel
theorem dL_law_1748 : decode cL_law 1748 = .ok (.iadd, 1) := by decide +kernel
theorem dL_law_1749 : decode cL_law 1749 = .ok (.iaload, 1) := by decide +kernel
theorem dL_law_1750 : decode cL_law 1750 = .ok (.aload_n 0, 1) := by decide +kernel
theorem dL_law_1751 : decode cL_law 1751 = .ok (.iload_n 3, 1) := by decide +kernel
theorem dL_law_1752 : decode cL_law 1752 = .ok (.iconst 3, 1) := by decide +kernel
theorem dL_law_1753 : decode cL_law 1753 = .ok (.iadd, 1) := by decide +kernel
theorem dL_law_1754 : decode cL_law 1754 = .ok (.iaload, 1) := by decide +kernel
theorem dL_law_1755 : decode cL_law 1755 = .ok (.i2l, 1) := by decide +kernel
theorem dL_law_1756 : decode cL_law 1756 = .ok (.bipush 32, 2) := by decide +kernel
theorem dL_law_1758 : decode cL_law 1758 = .ok (.lshl, 1) := by decide +kernel
theorem dL_law_1759 : decode cL_law 1759 = .ok (.aload_n 0, 1) := by decide +kernel
theorem dL_law_1760 : decode cL_law 1760 = .ok (.iload_n 3, 1) := by decide +kernel
theorem dL_law_1761 : decode cL_law 1761 = .ok (.iconst 4, 1) := by decide +kernel
theorem dL_law_1762 : decode cL_law 1762 = .ok (.iadd, 1) := by decide +kernel
theorem dL_law_1763 : decode cL_law 1763 = .ok (.iaload, 1) := by decide +kernel
theorem dL_law_1764 : decode cL_law 1764 = .ok (.i2l, 1) := by decide +kernel
theorem dL_law_1765 : decode cL_law 1765 = .ok (.ldc2_w 215, 3) := by decide +kernel
theorem dL_law_1768 : decode cL_law 1768 = .ok (.land, 1) := by decide +kernel
theorem dL_law_1769 : decode cL_law 1769 = .ok (.lor, 1) := by decide +kernel
theorem dL_law_1770 : decode cL_law 1770 = .ok (.invokevirtual 221, 3) := by decide +kernel
theorem dL_law_1773 : decode cL_law 1773 = .ok (.if_icmp .eq 102, 3) := by decide +kernel
theorem dL_law_1776 : decode cL_law 1776 = .ok (.iconst 0, 1) := by decide +kernel
theorem dL_law_1777 : decode cL_law 1777 = .ok (.ireturn, 1) := by decide +kernel
theorem dL_law_1778 : decode cL_law 1778 = .ok (.aload_n 1, 1) := by decide +kernel
theorem dL_law_1779 : decode cL_law 1779 = .ok (.aload_n 0, 1) := by decide +kernel
theorem dL_law_1780 : decode cL_law 1780 = .ok (.iload_n 3, 1) := by decide +kernel
theorem dL_law_1781 : decode cL_law 1781 = .ok (.iconst 1, 1) := by decide +kernel
theorem dL_law_1782 : decode cL_law 1782 = .ok (.iadd, 1) := by decide +kernel
theorem dL_law_1783 : decode cL_law 1783 = .ok (.iaload, 1) := by decide +kernel
theorem dL_law_1784 : decode cL_law 1784 = .ok (.aload_n 0, 1) := by decide +kernel
theorem dL_law_1785 : decode cL_law 1785 = .ok (.iload_n 3, 1) := by decide +kernel
theorem dL_law_1786 : decode cL_law 1786 = .ok (.iconst 2, 1) := by decide +kernel
theorem dL_law_1787 : decode cL_law 1787 = .ok (.iadd, 1) := by decide +kernel
theorem dL_law_1788 : decode cL_law 1788 = .ok (.iaload, 1) := by decide +kernel
theorem dL_law_1789 : decode cL_law 1789 = .ok (.invokevirtual 222, 3) := by decide +kernel
theorem dL_law_1792 : decode cL_law 1792 = .ok (.aload_n 2, 1) := by decide +kernel
theorem dL_law_1793 : decode cL_law 1793 = .ok (.aload_n 0, 1) := by decide +kernel
theorem dL_law_1794 : decode cL_law 1794 = .ok (.iload_n 3, 1) := by decide +kernel
theorem dL_law_1795 : decode cL_law 1795 = .ok (.iconst 1, 1) := by decide +kernel
theorem dL_law_1796 : decode cL_law 1796 = .ok (.iadd, 1) := by decide +kernel
theorem dL_law_1797 : decode cL_law 1797 = .ok (.iaload, 1) := by decide +kernel
theorem dL_law_1798 : decode cL_law 1798 = .ok (.aload_n 0, 1) := by decide +kernel
theorem dL_law_1799 : decode cL_law 1799 = .ok (.iload_n 3, 1) := by decide +kernel
theorem dL_law_1800 : decode cL_law 1800 = .ok (.iconst 2, 1) := by decide +kernel
theorem dL_law_1801 : decode cL_law 1801 = .ok (.iadd, 1) := by decide +kernel
theorem dL_law_1802 : decode cL_law 1802 = .ok (.iaload, 1) := by decide +kernel
theorem dL_law_1803 : decode cL_law 1803 = .ok (.invokevirtual 226, 3) := by decide +kernel
theorem dL_law_1806 : decode cL_law 1806 = .ok (.lcmp, 1) := by decide +kernel
theorem dL_law_1807 : decode cL_law 1807 = .ok (.ifCond .eq 68, 3) := by decide +kernel
theorem dL_law_1810 : decode cL_law 1810 = .ok (.iconst 0, 1) := by decide +kernel
theorem dL_law_1811 : decode cL_law 1811 = .ok (.ireturn, 1) := by decide +kernel
theorem dL_law_1812 : decode cL_law 1812 = .ok (.aload_n 1, 1) := by decide +kernel
theorem dL_law_1813 : decode cL_law 1813 = .ok (.aload_n 0, 1) := by decide +kernel
theorem dL_law_1814 : decode cL_law 1814 = .ok (.iload_n 3, 1) := by decide +kernel
theorem dL_law_1815 : decode cL_law 1815 = .ok (.iconst 1, 1) := by decide +kernel
theorem dL_law_1816 : decode cL_law 1816 = .ok (.iadd, 1) := by decide +kernel
theorem dL_law_1817 : decode cL_law 1817 = .ok (.iaload, 1) := by decide +kernel
theorem dL_law_1818 : decode cL_law 1818 = .ok (.aload_n 0, 1) := by decide +kernel
theorem dL_law_1819 : decode cL_law 1819 = .ok (.iload_n 3, 1) := by decide +kernel
theorem dL_law_1820 : decode cL_law 1820 = .ok (.iconst 2, 1) := by decide +kernel
theorem dL_law_1821 : decode cL_law 1821 = .ok (.iadd, 1) := by decide +kernel
theorem dL_law_1822 : decode cL_law 1822 = .ok (.iaload, 1) := by decide +kernel
theorem dL_law_1823 : decode cL_law 1823 = .ok (.aload_n 0, 1) := by decide +kernel
theorem dL_law_1824 : decode cL_law 1824 = .ok (.iload_n 3, 1) := by decide +kernel
theorem dL_law_1825 : decode cL_law 1825 = .ok (.iconst 3, 1) := by decide +kernel
theorem dL_law_1826 : decode cL_law 1826 = .ok (.iadd, 1) := by decide +kernel
theorem dL_law_1827 : decode cL_law 1827 = .ok (.iaload, 1) := by decide +kernel
theorem dL_law_1828 : decode cL_law 1828 = .ok (.aload_n 0, 1) := by decide +kernel
theorem dL_law_1829 : decode cL_law 1829 = .ok (.iload_n 3, 1) := by decide +kernel
theorem dL_law_1830 : decode cL_law 1830 = .ok (.iconst 4, 1) := by decide +kernel
theorem dL_law_1831 : decode cL_law 1831 = .ok (.iadd, 1) := by decide +kernel
theorem dL_law_1832 : decode cL_law 1832 = .ok (.iaload, 1) := by decide +kernel
theorem dL_law_1833 : decode cL_law 1833 = .ok (.aload_n 0, 1) := by decide +kernel
theorem dL_law_1834 : decode cL_law 1834 = .ok (.iload_n 3, 1) := by decide +kernel
theorem dL_law_1835 : decode cL_law 1835 = .ok (.iconst 5, 1) := by decide +kernel
theorem dL_law_1836 : decode cL_law 1836 = .ok (.iadd, 1) := by decide +kernel
theorem dL_law_1837 : decode cL_law 1837 = .ok (.iaload, 1) := by decide +kernel
theorem dL_law_1838 : decode cL_law 1838 = .ok (.invokevirtual 227, 3) := by decide +kernel
theorem dL_law_1841 : decode cL_law 1841 = .ok (.aload_n 2, 1) := by decide +kernel
theorem dL_law_1842 : decode cL_law 1842 = .ok (.aload_n 0, 1) := by decide +kernel
theorem dL_law_1843 : decode cL_law 1843 = .ok (.iload_n 3, 1) := by decide +kernel
theorem dL_law_1844 : decode cL_law 1844 = .ok (.iconst 1, 1) := by decide +kernel
theorem dL_law_1845 : decode cL_law 1845 = .ok (.iadd, 1) := by decide +kernel
theorem dL_law_1846 : decode cL_law 1846 = .ok (.iaload, 1) := by decide +kernel
theorem dL_law_1847 : decode cL_law 1847 = .ok (.aload_n 0, 1) := by decide +kernel
theorem dL_law_1848 : decode cL_law 1848 = .ok (.iload_n 3, 1) := by decide +kernel
theorem dL_law_1849 : decode cL_law 1849 = .ok (.iconst 2, 1) := by decide +kernel
theorem dL_law_1850 : decode cL_law 1850 = .ok (.iadd, 1) := by decide +kernel
theorem dL_law_1851 : decode cL_law 1851 = .ok (.iaload, 1) := by decide +kernel
theorem dL_law_1852 : decode cL_law 1852 = .ok (.aload_n 0, 1) := by decide +kernel
theorem dL_law_1853 : decode cL_law 1853 = .ok (.iload_n 3, 1) := by decide +kernel
theorem dL_law_1854 : decode cL_law 1854 = .ok (.iconst 3, 1) := by decide +kernel
theorem dL_law_1855 : decode cL_law 1855 = .ok (.iadd, 1) := by decide +kernel
theorem dL_law_1856 : decode cL_law 1856 = .ok (.iaload, 1) := by decide +kernel
theorem dL_law_1857 : decode cL_law 1857 = .ok (.aload_n 0, 1) := by decide +kernel
theorem dL_law_1858 : decode cL_law 1858 = .ok (.iload_n 3, 1) := by decide +kernel
theorem dL_law_1859 : decode cL_law 1859 = .ok (.iconst 4, 1) := by decide +kernel
theorem dL_law_1860 : decode cL_law 1860 = .ok (.iadd, 1) := by decide +kernel
theorem dL_law_1861 : decode cL_law 1861 = .ok (.iaload, 1) := by decide +kernel
theorem dL_law_1862 : decode cL_law 1862 = .ok (.aload_n 0, 1) := by decide +kernel
theorem dL_law_1863 : decode cL_law 1863 = .ok (.iload_n 3, 1) := by decide +kernel
theorem dL_law_1864 : decode cL_law 1864 = .ok (.iconst 5, 1) := by decide +kernel
theorem dL_law_1865 : decode cL_law 1865 = .ok (.iadd, 1) := by decide +kernel
theorem dL_law_1866 : decode cL_law 1866 = .ok (.iaload, 1) := by decide +kernel
theorem dL_law_1867 : decode cL_law 1867 = .ok (.invokevirtual 231, 3) := by decide +kernel
theorem dL_law_1870 : decode cL_law 1870 = .ok (.if_icmp .eq 5, 3) := by decide +kernel
theorem dL_law_1873 : decode cL_law 1873 = .ok (.iconst 0, 1) := by decide +kernel
theorem dL_law_1874 : decode cL_law 1874 = .ok (.ireturn, 1) := by decide +kernel
theorem dL_law_1875 : decode cL_law 1875 = .ok (.iinc 3 6, 3) := by decide +kernel
theorem dL_law_1878 : decode cL_law 1878 = .ok (.goto (-1860), 3) := by decide +kernel
theorem dL_law_1881 : decode cL_law 1881 = .ok (.iconst 1, 1) := by decide +kernel
theorem dL_law_1882 : decode cL_law 1882 = .ok (.ireturn, 1) := by decide +kernel
