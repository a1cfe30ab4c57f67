theorem dX9_table_76 : decode cX9_table 76 = .ok (.iadd, 1) := by decide +kernel
theorem dX9_table_77 : decode cX9_table 77 = .ok (.iconst 1, 1) := by decide +kernel
theorem dX9_table_78 : decode cX9_table 78 = .ok (.iadd, 1) := by decide +kernel
theorem dX9_table_79 : decode cX9_table 79 = .ok (.imul, 1) := by decide +kernel
theorem dX9_table_80 : decode cX9_table 80 = .ok (.ireturn, 1) := by decide +kernel
theorem dX9_table_81 : decode cX9_table 81 = .ok (.iconst (-1), 1) := by decide +kernel
theorem dX9_table_82 : decode cX9_table 82 = .ok (.ireturn, 1) := by decide +kernel
theorem dX9_greatestMost_0 : decode cX9_greatestMost 0 = .ok (.iconst 0, 1) := by decide +kernel
theorem dX9_greatestMost_1 : decode cX9_greatestMost 1 = .ok (.istore_n 1, 1) := by decide +kernel
theorem dX9_greatestMost_2 : decode cX9_greatestMost 2 = .ok (.iconst 0, 1) := by decide +kernel
theorem dX9_greatestMost_3 : decode cX9_greatestMost 3 = .ok (.istore_n 2, 1) := by decide +kernel
theorem dX9_greatestMost_4 : decode cX9_greatestMost 4 = .ok (.iload_n 2, 1) := by decide +kernel
theorem dX9_greatestMost_5 : decode cX9_greatestMost 5 = .ok (.aload_n 0, 1) := by decide +kernel
theorem dX9_greatestMost_6 : decode cX9_greatestMost 6 = .ok (.getfield 36, 3) := by decide +kernel
theorem dX9_greatestMost_9 : decode cX9_greatestMost 9 = .ok (.getfield 74, 3) := by decide +kernel
theorem dX9_greatestMost_12 : decode cX9_greatestMost 12 = .ok (.if_icmp .ge 23, 3) := by decide +kernel
theorem dX9_greatestMost_15 : decode cX9_greatestMost 15 = .ok (.iload_n 1, 1) := by decide +kernel
theorem dX9_greatestMost_16 : decode cX9_greatestMost 16 = .ok (.aload_n 0, 1) := by decide +kernel
theorem dX9_greatestMost_17 : decode cX9_greatestMost 17 = .ok (.getfield 41, 3) := by decide +kernel
theorem dX9_greatestMost_20 : decode cX9_greatestMost 20 = .ok (.iload_n 2, 1) := by decide +kernel
theorem dX9_greatestMost_21 : decode cX9_greatestMost 21 = .ok (.iconst 1, 1) := by decide +kernel
theorem dX9_greatestMost_22 : decode cX9_greatestMost 22 = .ok (.invokevirtual 109, 3) := by decide +kernel
theorem dX9_greatestMost_25 : decode cX9_greatestMost 25 = .ok (.invokestatic 230, 3) := by decide +kernel
theorem dX9_greatestMost_28 : decode cX9_greatestMost 28 = .ok (.istore_n 1, 1) := by decide +kernel
theorem dX9_greatestMost_29 : decode cX9_greatestMost 29 = .ok (.iinc 2 1, 3) := by decide +kernel
theorem dX9_greatestMost_32 : decode cX9_greatestMost 32 = .ok (.goto (-28), 3) := by decide +kernel
theorem dX9_greatestMost_35 : decode cX9_greatestMost 35 = .ok (.iload_n 1, 1) := by decide +kernel
theorem dX9_greatestMost_36 : decode cX9_greatestMost 36 = .ok (.ireturn, 1) := by decide +kernel
theorem dX9_phaseOf_0 : decode cX9_phaseOf 0 = .ok (.iload_n 1, 1) := by decide +kernel
theorem dX9_phaseOf_1 : decode cX9_phaseOf 1 = .ok (.iconst 0, 1) := by decide +kernel
theorem dX9_phaseOf_2 : decode cX9_phaseOf 2 = .ok (.aload_n 0, 1) := by decide +kernel
theorem dX9_phaseOf_3 : decode cX9_phaseOf 3 = .ok (.getfield 46, 3) := by decide +kernel
theorem dX9_phaseOf_6 : decode cX9_phaseOf 6 = .ok (.getfield 91, 3) := by decide +kernel
theorem dX9_phaseOf_9 : decode cX9_phaseOf 9 = .ok (.iconst 1, 1) := by decide +kernel
theorem dX9_phaseOf_10 : decode cX9_phaseOf 10 = .ok (.isub, 1) := by decide +kernel
theorem dX9_phaseOf_11 : decode cX9_phaseOf 11 = .ok (.invokestatic 66, 3) := by decide +kernel
theorem dX9_phaseOf_14 : decode cX9_phaseOf 14 = .ok (.ifCond .ne 5, 3) := by decide +kernel
theorem dX9_phaseOf_17 : decode cX9_phaseOf 17 = .ok (.iconst (-1), 1) := by decide +kernel
theorem dX9_phaseOf_18 : decode cX9_phaseOf 18 = .ok (.ireturn, 1) := by decide +kernel
theorem dX9_phaseOf_19 : decode cX9_phaseOf 19 = .ok (.iload_n 2, 1) := by decide +kernel
theorem dX9_phaseOf_20 : decode cX9_phaseOf 20 = .ok (.tableswitch 82 0 3 #[32, 42, 52, 62], 32) := by decide +kernel
theorem dX9_phaseOf_52 : decode cX9_phaseOf 52 = .ok (.aload_n 0, 1) := by decide +kernel
theorem dX9_phaseOf_53 : decode cX9_phaseOf 53 = .ok (.getfield 46, 3) := by decide +kernel
theorem dX9_phaseOf_56 : decode cX9_phaseOf 56 = .ok (.getfield 235, 3) := by decide +kernel
theorem dX9_phaseOf_59 : decode cX9_phaseOf 59 = .ok (.iload_n 1, 1) := by decide +kernel
theorem dX9_phaseOf_60 : decode cX9_phaseOf 60 = .ok (.iaload, 1) := by decide +kernel
theorem dX9_phaseOf_61 : decode cX9_phaseOf 61 = .ok (.ireturn, 1) := by decide +kernel
theorem dX9_phaseOf_62 : decode cX9_phaseOf 62 = .ok (.aload_n 0, 1) := by decide +kernel
theorem dX9_phaseOf_63 : decode cX9_phaseOf 63 = .ok (.getfield 46, 3) := by decide +kernel
theorem dX9_phaseOf_66 : decode cX9_phaseOf 66 = .ok (.getfield 238, 3) := by decide +kernel
theorem dX9_phaseOf_69 : decode cX9_phaseOf 69 = .ok (.iload_n 1, 1) := by decide +kernel
theorem dX9_phaseOf_70 : decode cX9_phaseOf 70 = .ok (.iaload, 1) := by decide +kernel
theorem dX9_phaseOf_71 : decode cX9_phaseOf 71 = .ok (.ireturn, 1) := by decide +kernel
theorem dX9_phaseOf_72 : decode cX9_phaseOf 72 = .ok (.aload_n 0, 1) := by decide +kernel
theorem dX9_phaseOf_73 : decode cX9_phaseOf 73 = .ok (.getfield 46, 3) := by decide +kernel
theorem dX9_phaseOf_76 : decode cX9_phaseOf 76 = .ok (.getfield 241, 3) := by decide +kernel
theorem dX9_phaseOf_79 : decode cX9_phaseOf 79 = .ok (.iload_n 1, 1) := by decide +kernel
theorem dX9_phaseOf_80 : decode cX9_phaseOf 80 = .ok (.iaload, 1) := by decide +kernel
theorem dX9_phaseOf_81 : decode cX9_phaseOf 81 = .ok (.ireturn, 1) := by decide +kernel
theorem dX9_phaseOf_82 : decode cX9_phaseOf 82 = .ok (.aload_n 0, 1) := by decide +kernel
theorem dX9_phaseOf_83 : decode cX9_phaseOf 83 = .ok (.getfield 31, 3) := by decide +kernel
theorem dX9_phaseOf_86 : decode cX9_phaseOf 86 = .ok (.invokevirtual 244, 3) := by decide +kernel
theorem dX9_phaseOf_89 : decode cX9_phaseOf 89 = .ok (.iload_n 1, 1) := by decide +kernel
theorem dX9_phaseOf_90 : decode cX9_phaseOf 90 = .ok (.invokestatic 247, 3) := by decide +kernel
theorem dX9_phaseOf_93 : decode cX9_phaseOf 93 = .ok (.ifCond .eq 7, 3) := by decide +kernel
theorem dX9_phaseOf_96 : decode cX9_phaseOf 96 = .ok (.iconst 1, 1) := by decide +kernel
theorem dX9_phaseOf_97 : decode cX9_phaseOf 97 = .ok (.goto 4, 3) := by decide +kernel
theorem dX9_phaseOf_100 : decode cX9_phaseOf 100 = .ok (.iconst 0, 1) := by decide +kernel
theorem dX9_phaseOf_101 : decode cX9_phaseOf 101 = .ok (.ireturn, 1) := by decide +kernel
theorem dX9_phaseOf_102 : decode cX9_phaseOf 102 = .ok (.iconst (-1), 1) := by decide +kernel
theorem dX9_phaseOf_103 : decode cX9_phaseOf 103 = .ok (.ireturn, 1) := by decide +kernel
theorem dX9_taken_0 : decode cX9_taken 0 = .ok (.aload_n 0, 1) := by decide +kernel
theorem dX9_taken_1 : decode cX9_taken 1 = .ok (.iload_n 1, 1) := by decide +kernel
theorem dX9_taken_2 : decode cX9_taken 2 = .ok (.invokevirtual 84, 3) := by decide +kernel
theorem dX9_taken_5 : decode cX9_taken 5 = .ok (.ifCond .ne 5, 3) := by decide +kernel
theorem dX9_taken_8 : decode cX9_taken 8 = .ok (.iconst (-1), 1) := by decide +kernel
theorem dX9_taken_9 : decode cX9_taken 9 = .ok (.ireturn, 1) := by decide +kernel
theorem dX9_taken_10 : decode cX9_taken 10 = .ok (.iload_n 2, 1) := by decide +kernel
theorem dX9_taken_11 : decode cX9_taken 11 = .ok (.iconst 0, 1) := by decide +kernel
theorem dX9_taken_12 : decode cX9_taken 12 = .ok (.getstatic 250, 3) := by decide +kernel
theorem dX9_taken_15 : decode cX9_taken 15 = .ok (.arraylength, 1) := by decide +kernel
theorem dX9_taken_16 : decode cX9_taken 16 = .ok (.iconst 1, 1) := by decide +kernel
theorem dX9_taken_17 : decode cX9_taken 17 = .ok (.isub, 1) := by decide +kernel
theorem dX9_taken_18 : decode cX9_taken 18 = .ok (.invokestatic 66, 3) := by decide +kernel
theorem dX9_taken_21 : decode cX9_taken 21 = .ok (.ifCond .ne 6, 3) := by decide +kernel
theorem dX9_taken_24 : decode cX9_taken 24 = .ok (.bipush (-2), 2) := by decide +kernel
theorem dX9_taken_26 : decode cX9_taken 26 = .ok (.ireturn, 1) := by decide +kernel
theorem dX9_taken_27 : decode cX9_taken 27 = .ok (.aload_n 0, 1) := by decide +kernel
theorem dX9_taken_28 : decode cX9_taken 28 = .ok (.getfield 36, 3) := by decide +kernel
theorem dX9_taken_31 : decode cX9_taken 31 = .ok (.getfield 253, 3) := by decide +kernel
theorem dX9_taken_34 : decode cX9_taken 34 = .ok (.iload_n 1, 1) := by decide +kernel
theorem dX9_taken_35 : decode cX9_taken 35 = .ok (.iaload, 1) := by decide +kernel
theorem dX9_taken_36 : decode cX9_taken 36 = .ok (.istore_n 3, 1) := by decide +kernel
theorem dX9_taken_37 : decode cX9_taken 37 = .ok (.getstatic 250, 3) := by decide +kernel
theorem dX9_taken_40 : decode cX9_taken 40 = .ok (.iload_n 2, 1) := by decide +kernel
theorem dX9_taken_41 : decode cX9_taken 41 = .ok (.iaload, 1) := by decide +kernel
theorem dX9_taken_42 : decode cX9_taken 42 = .ok (.iload_n 3, 1) := by decide +kernel
theorem dX9_taken_43 : decode cX9_taken 43 = .ok (.invokestatic 247, 3) := by decide +kernel
theorem dX9_taken_46 : decode cX9_taken 46 = .ok (.ifCond .eq 7, 3) := by decide +kernel
theorem dX9_taken_49 : decode cX9_taken 49 = .ok (.iload_n 3, 1) := by decide +kernel
theorem dX9_taken_50 : decode cX9_taken 50 = .ok (.goto 5, 3) := by decide +kernel
theorem dX9_taken_53 : decode cX9_taken 53 = .ok (.bipush (-12), 2) := by decide +kernel
theorem dX9_taken_55 : decode cX9_taken 55 = .ok (.ireturn, 1) := by decide +kernel
theorem dX9_recorded_0 : decode cX9_recorded 0 = .ok (.iload_n 2, 1) := by decide +kernel
theorem dX9_recorded_1 : decode cX9_recorded 1 = .ok (.iconst 0, 1) := by decide +kernel
theorem dX9_recorded_2 : decode cX9_recorded 2 = .ok (.iconst 2, 1) := by decide +kernel
theorem dX9_recorded_3 : decode cX9_recorded 3 = .ok (.invokestatic 66, 3) := by decide +kernel
theorem dX9_recorded_6 : decode cX9_recorded 6 = .ok (.ifCond .ne 5, 3) := by decide +kernel
theorem dX9_recorded_9 : decode cX9_recorded 9 = .ok (.iconst (-1), 1) := by decide +kernel
theorem dX9_recorded_10 : decode cX9_recorded 10 = .ok (.ireturn, 1) := by decide +kernel
theorem dX9_recorded_11 : decode cX9_recorded 11 = .ok (.aload_n 0, 1) := by decide +kernel
theorem dX9_recorded_12 : decode cX9_recorded 12 = .ok (.getfield 31, 3) := by decide +kernel
theorem dX9_recorded_15 : decode cX9_recorded 15 = .ok (.getfield 254, 3) := by decide +kernel
theorem dX9_recorded_18 : decode cX9_recorded 18 = .ok (.astore_n 3, 1) := by decide +kernel
theorem dX9_recorded_19 : decode cX9_recorded 19 = .ok (.iload_n 1, 1) := by decide +kernel
theorem dX9_recorded_20 : decode cX9_recorded 20 = .ok (.iconst 0, 1) := by decide +kernel
theorem dX9_recorded_21 : decode cX9_recorded 21 = .ok (.aload_n 3, 1) := by decide +kernel
theorem dX9_recorded_22 : decode cX9_recorded 22 = .ok (.getfield 258, 3) := by decide +kernel
theorem dX9_recorded_25 : decode cX9_recorded 25 = .ok (.iconst 1, 1) := by decide +kernel
theorem dX9_recorded_26 : decode cX9_recorded 26 = .ok (.isub, 1) := by decide +kernel
theorem dX9_recorded_27 : decode cX9_recorded 27 = .ok (.invokestatic 66, 3) := by decide +kernel
theorem dX9_recorded_30 : decode cX9_recorded 30 = .ok (.ifCond .eq 19, 3) := by decide +kernel
theorem dX9_recorded_33 : decode cX9_recorded 33 = .ok (.aload_n 3, 1) := by decide +kernel
theorem dX9_recorded_34 : decode cX9_recorded 34 = .ok (.aload_n 3, 1) := by decide +kernel
theorem dX9_recorded_35 : decode cX9_recorded 35 = .ok (.getfield 258, 3) := by decide +kernel
theorem dX9_recorded_38 : decode cX9_recorded 38 = .ok (.iconst 1, 1) := by decide +kernel
theorem dX9_recorded_39 : decode cX9_recorded 39 = .ok (.isub, 1) := by decide +kernel
theorem dX9_recorded_40 : decode cX9_recorded 40 = .ok (.iload_n 1, 1) := by decide +kernel
theorem dX9_recorded_41 : decode cX9_recorded 41 = .ok (.isub, 1) := by decide +kernel
theorem dX9_recorded_42 : decode cX9_recorded 42 = .ok (.iload_n 2, 1) := by decide +kernel
theorem dX9_recorded_43 : decode cX9_recorded 43 = .ok (.invokevirtual 261, 3) := by decide +kernel
theorem dX9_recorded_46 : decode cX9_recorded 46 = .ok (.goto 5, 3) := by decide +kernel
theorem dX9_recorded_49 : decode cX9_recorded 49 = .ok (.bipush (-2), 2) := by decide +kernel
theorem dX9_recorded_51 : decode cX9_recorded 51 = .ok (.ireturn, 1) := by decide +kernel
theorem dX9_greens_0 : decode cX9_greens 0 = .ok (.aload_n 0, 1) := by decide +kernel
theorem dX9_greens_1 : decode cX9_greens 1 = .ok (.iload_n 1, 1) := by decide +kernel
theorem dX9_greens_2 : decode cX9_greens 2 = .ok (.invokevirtual 84, 3) := by decide +kernel
theorem dX9_greens_5 : decode cX9_greens 5 = .ok (.ifCond .ne 5, 3) := by decide +kernel
theorem dX9_greens_8 : decode cX9_greens 8 = .ok (.iconst (-1), 1) := by decide +kernel
theorem dX9_greens_9 : decode cX9_greens 9 = .ok (.ireturn, 1) := by decide +kernel
theorem dX9_greens_10 : decode cX9_greens 10 = .ok (.iload_n 2, 1) := by decide +kernel
theorem dX9_greens_11 : decode cX9_greens 11 = .ok (.tableswitch 65 0 3 #[29, 38, 47, 56], 29) := by decide +kernel
theorem dX9_greens_40 : decode cX9_greens 40 = .ok (.aload_n 0, 1) := by decide +kernel
theorem dX9_greens_41 : decode cX9_greens 41 = .ok (.getfield 31, 3) := by decide +kernel
theorem dX9_greens_44 : decode cX9_greens 44 = .ok (.iload_n 1, 1) := by decide +kernel
theorem dX9_greens_45 : decode cX9_greens 45 = .ok (.invokevirtual 264, 3) := by decide +kernel
theorem dX9_greens_48 : decode cX9_greens 48 = .ok (.ireturn, 1) := by decide +kernel
theorem dX9_greens_49 : decode cX9_greens 49 = .ok (.aload_n 0, 1) := by decide +kernel
theorem dX9_greens_50 : decode cX9_greens 50 = .ok (.getfield 31, 3) := by decide +kernel
theorem dX9_greens_53 : decode cX9_greens 53 = .ok (.iload_n 1, 1) := by decide +kernel
theorem dX9_greens_54 : decode cX9_greens 54 = .ok (.invokevirtual 267, 3) := by decide +kernel
theorem dX9_greens_57 : decode cX9_greens 57 = .ok (.ireturn, 1) := by decide +kernel
theorem dX9_greens_58 : decode cX9_greens 58 = .ok (.aload_n 0, 1) := by decide +kernel
theorem dX9_greens_59 : decode cX9_greens 59 = .ok (.getfield 31, 3) := by decide +kernel
theorem dX9_greens_62 : decode cX9_greens 62 = .ok (.iload_n 1, 1) := by decide +kernel
theorem dX9_greens_63 : decode cX9_greens 63 = .ok (.invokevirtual 270, 3) := by decide +kernel
theorem dX9_greens_66 : decode cX9_greens 66 = .ok (.ireturn, 1) := by decide +kernel
theorem dX9_greens_67 : decode cX9_greens 67 = .ok (.aload_n 0, 1) := by decide +kernel
theorem dX9_greens_68 : decode cX9_greens 68 = .ok (.getfield 31, 3) := by decide +kernel
theorem dX9_greens_71 : decode cX9_greens 71 = .ok (.iload_n 1, 1) := by decide +kernel
theorem dX9_greens_72 : decode cX9_greens 72 = .ok (.invokevirtual 273, 3) := by decide +kernel
theorem dX9_greens_75 : decode cX9_greens 75 = .ok (.ireturn, 1) := by decide +kernel
theorem dX9_greens_76 : decode cX9_greens 76 = .ok (.iconst (-1), 1) := by decide +kernel
theorem dX9_greens_77 : decode cX9_greens 77 = .ok (.ireturn, 1) := by decide +kernel
theorem dX9_could_0 : decode cX9_could 0 = .ok (.iload_n 3, 1) := by decide +kernel
theorem dX9_could_1 : decode cX9_could 1 = .ok (.iconst 0, 1) := by decide +kernel
theorem dX9_could_2 : decode cX9_could 2 = .ok (.iconst 1, 1) := by decide +kernel
theorem dX9_could_3 : decode cX9_could 3 = .ok (.invokestatic 66, 3) := by decide +kernel
theorem dX9_could_6 : decode cX9_could 6 = .ok (.ifCond .ne 5, 3) := by decide +kernel
theorem dX9_could_9 : decode cX9_could 9 = .ok (.iconst (-1), 1) := by decide +kernel
theorem dX9_could_10 : decode cX9_could 10 = .ok (.ireturn, 1) := by decide +kernel
theorem dX9_could_11 : decode cX9_could 11 = .ok (.iload_n 1, 1) := by decide +kernel
theorem dX9_could_12 : decode cX9_could 12 = .ok (.iconst 0, 1) := by decide +kernel
theorem dX9_could_13 : decode cX9_could 13 = .ok (.bipush 63, 2) := by decide +kernel
theorem dX9_could_15 : decode cX9_could 15 = .ok (.invokestatic 66, 3) := by decide +kernel
theorem dX9_could_18 : decode cX9_could 18 = .ok (.ifCond .eq 14, 3) := by decide +kernel
theorem dX9_could_21 : decode cX9_could 21 = .ok (.iload_n 2, 1) := by decide +kernel
theorem dX9_could_22 : decode cX9_could 22 = .ok (.iconst 0, 1) := by decide +kernel
theorem dX9_could_23 : decode cX9_could 23 = .ok (.sipush 9999, 3) := by decide +kernel
theorem dX9_could_26 : decode cX9_could 26 = .ok (.invokestatic 66, 3) := by decide +kernel
theorem dX9_could_29 : decode cX9_could 29 = .ok (.ifCond .ne 6, 3) := by decide +kernel
theorem dX9_could_32 : decode cX9_could 32 = .ok (.bipush (-2), 2) := by decide +kernel
theorem dX9_could_34 : decode cX9_could 34 = .ok (.ireturn, 1) := by decide +kernel
theorem dX9_could_35 : decode cX9_could 35 = .ok (.aload_n 0, 1) := by decide +kernel
theorem dX9_could_36 : decode cX9_could 36 = .ok (.getfield 12, 3) := by decide +kernel
theorem dX9_could_39 : decode cX9_could 39 = .ok (.iload_n 1, 1) := by decide +kernel
theorem dX9_could_40 : decode cX9_could 40 = .ok (.iload_n 2, 1) := by decide +kernel
theorem dX9_could_41 : decode cX9_could 41 = .ok (.iload_n 3, 1) := by decide +kernel
theorem dX9_could_42 : decode cX9_could 42 = .ok (.invokevirtual 276, 3) := by decide +kernel
theorem dX9_could_45 : decode cX9_could 45 = .ok (.ireturn, 1) := by decide +kernel
theorem dX9_crowded_0 : decode cX9_crowded 0 = .ok (.iload_n 2, 1) := by decide +kernel
theorem dX9_crowded_1 : decode cX9_crowded 1 = .ok (.iconst 0, 1) := by decide +kernel
theorem dX9_crowded_2 : decode cX9_crowded 2 = .ok (.iconst 1, 1) := by decide +kernel
theorem dX9_crowded_3 : decode cX9_crowded 3 = .ok (.invokestatic 66, 3) := by decide +kernel
theorem dX9_crowded_6 : decode cX9_crowded 6 = .ok (.ifCond .ne 5, 3) := by decide +kernel
theorem dX9_crowded_9 : decode cX9_crowded 9 = .ok (.iconst (-1), 1) := by decide +kernel
theorem dX9_crowded_10 : decode cX9_crowded 10 = .ok (.ireturn, 1) := by decide +kernel
theorem dX9_crowded_11 : decode cX9_crowded 11 = .ok (.iload_n 1, 1) := by decide +kernel
theorem dX9_crowded_12 : decode cX9_crowded 12 = .ok (.iconst 0, 1) := by decide +kernel
theorem dX9_crowded_13 : decode cX9_crowded 13 = .ok (.sipush 9999, 3) := by decide +kernel
theorem dX9_crowded_16 : decode cX9_crowded 16 = .ok (.invokestatic 66, 3) := by decide +kernel
theorem dX9_crowded_19 : decode cX9_crowded 19 = .ok (.ifCond .ne 6, 3) := by decide +kernel
theorem dX9_crowded_22 : decode cX9_crowded 22 = .ok (.bipush (-2), 2) := by decide +kernel
theorem dX9_crowded_24 : decode cX9_crowded 24 = .ok (.ireturn, 1) := by decide +kernel
theorem dX9_crowded_25 : decode cX9_crowded 25 = .ok (.iconst 0, 1) := by decide +kernel
theorem dX9_crowded_26 : decode cX9_crowded 26 = .ok (.istore_n 3, 1) := by decide +kernel
theorem dX9_crowded_27 : decode cX9_crowded 27 = .ok (.iload_n 3, 1) := by decide +kernel
theorem dX9_crowded_28 : decode cX9_crowded 28 = .ok (.bipush 64, 2) := by decide +kernel
theorem dX9_crowded_30 : decode cX9_crowded 30 = .ok (.if_icmp .ge 28, 3) := by decide +kernel
theorem dX9_crowded_33 : decode cX9_crowded 33 = .ok (.aload_n 0, 1) := by decide +kernel
theorem dX9_crowded_34 : decode cX9_crowded 34 = .ok (.getfield 12, 3) := by decide +kernel
theorem dX9_crowded_37 : decode cX9_crowded 37 = .ok (.iload_n 3, 1) := by decide +kernel
theorem dX9_crowded_38 : decode cX9_crowded 38 = .ok (.iload_n 1, 1) := by decide +kernel
theorem dX9_crowded_39 : decode cX9_crowded 39 = .ok (.iload_n 2, 1) := by decide +kernel
theorem dX9_crowded_40 : decode cX9_crowded 40 = .ok (.invokevirtual 276, 3) := by decide +kernel
theorem dX9_crowded_43 : decode cX9_crowded 43 = .ok (.invokestatic 279, 3) := by decide +kernel
theorem dX9_crowded_46 : decode cX9_crowded 46 = .ok (.iconst 1, 1) := by decide +kernel
theorem dX9_crowded_47 : decode cX9_crowded 47 = .ok (.if_icmp .le 5, 3) := by decide +kernel
theorem dX9_crowded_50 : decode cX9_crowded 50 = .ok (.iload_n 3, 1) := by decide +kernel
theorem dX9_crowded_51 : decode cX9_crowded 51 = .ok (.ireturn, 1) := by decide +kernel
theorem dX9_crowded_52 : decode cX9_crowded 52 = .ok (.iinc 3 1, 3) := by decide +kernel
theorem dX9_crowded_55 : decode cX9_crowded 55 = .ok (.goto (-28), 3) := by decide +kernel
theorem dX9_crowded_58 : decode cX9_crowded 58 = .ok (.bipush (-5), 2) := by decide +kernel
theorem dX9_crowded_60 : decode cX9_crowded 60 = .ok (.ireturn, 1) := by decide +kernel
theorem dX9_green_0 : decode cX9_green 0 = .ok (.aload_n 0, 1) := by decide +kernel
theorem dX9_green_1 : decode cX9_green 1 = .ok (.getfield 12, 3) := by decide +kernel
theorem dX9_green_4 : decode cX9_green 4 = .ok (.getfield 284, 3) := by decide +kernel
theorem dX9_green_7 : decode cX9_green 7 = .ok (.astore 4, 2) := by decide +kernel
theorem dX9_green_9 : decode cX9_green 9 = .ok (.iload_n 1, 1) := by decide +kernel
theorem dX9_green_10 : decode cX9_green 10 = .ok (.iconst (-1), 1) := by decide +kernel
theorem dX9_green_11 : decode cX9_green 11 = .ok (.if_icmp .ne 11, 3) := by decide +kernel
theorem dX9_green_14 : decode cX9_green 14 = .ok (.aload 4, 2) := by decide +kernel
theorem dX9_green_16 : decode cX9_green 16 = .ok (.iconst 0, 1) := by decide +kernel
theorem dX9_green_17 : decode cX9_green 17 = .ok (.putfield 258, 3) := by decide +kernel
theorem dX9_green_20 : decode cX9_green 20 = .ok (.iconst 0, 1) := by decide +kernel
theorem dX9_green_21 : decode cX9_green 21 = .ok (.ireturn, 1) := by decide +kernel
theorem dX9_green_22 : decode cX9_green 22 = .ok (.aload_n 0, 1) := by decide +kernel
theorem dX9_green_23 : decode cX9_green 23 = .ok (.iload_n 1, 1) := by decide +kernel
theorem dX9_green_24 : decode cX9_green 24 = .ok (.invokevirtual 84, 3) := by decide +kernel
theorem dX9_green_27 : decode cX9_green 27 = .ok (.ifCond .ne 5, 3) := by decide +kernel
theorem dX9_green_30 : decode cX9_green 30 = .ok (.iconst (-1), 1) := by decide +kernel
theorem dX9_green_31 : decode cX9_green 31 = .ok (.ireturn, 1) := by decide +kernel
theorem dX9_green_32 : decode cX9_green 32 = .ok (.iload_n 2, 1) := by decide +kernel
theorem dX9_green_33 : decode cX9_green 33 = .ok (.iconst 0, 1) := by decide +kernel
theorem dX9_green_34 : decode cX9_green 34 = .ok (.sipush 9998, 3) := by decide +kernel
theorem dX9_green_37 : decode cX9_green 37 = .ok (.invokestatic 66, 3) := by decide +kernel
theorem dX9_green_40 : decode cX9_green 40 = .ok (.ifCond .eq 16, 3) := by decide +kernel
theorem dX9_green_43 : decode cX9_green 43 = .ok (.iload_n 3, 1) := by decide +kernel
theorem dX9_green_44 : decode cX9_green 44 = .ok (.iload_n 2, 1) := by decide +kernel
theorem dX9_green_45 : decode cX9_green 45 = .ok (.iconst 1, 1) := by decide +kernel
theorem dX9_green_46 : decode cX9_green 46 = .ok (.iadd, 1) := by decide +kernel
theorem dX9_green_47 : decode cX9_green 47 = .ok (.sipush 9999, 3) := by decide +kernel
theorem dX9_green_50 : decode cX9_green 50 = .ok (.invokestatic 66, 3) := by decide +kernel
theorem dX9_green_53 : decode cX9_green 53 = .ok (.ifCond .ne 6, 3) := by decide +kernel
theorem dX9_green_56 : decode cX9_green 56 = .ok (.bipush (-2), 2) := by decide +kernel
theorem dX9_green_58 : decode cX9_green 58 = .ok (.ireturn, 1) := by decide +kernel
theorem dX9_green_59 : decode cX9_green 59 = .ok (.aload 4, 2) := by decide +kernel
theorem dX9_green_61 : decode cX9_green 61 = .ok (.iload_n 1, 1) := by decide +kernel
theorem dX9_green_62 : decode cX9_green 62 = .ok (.iload_n 2, 1) := by decide +kernel
theorem dX9_green_63 : decode cX9_green 63 = .ok (.iload_n 3, 1) := by decide +kernel
theorem dX9_green_64 : decode cX9_green 64 = .ok (.invokevirtual 287, 3) := by decide +kernel
theorem dX9_green_67 : decode cX9_green 67 = .ok (.ifCond .eq 11, 3) := by decide +kernel
theorem dX9_green_70 : decode cX9_green 70 = .ok (.aload 4, 2) := by decide +kernel
theorem dX9_green_72 : decode cX9_green 72 = .ok (.getfield 258, 3) := by decide +kernel
theorem dX9_green_75 : decode cX9_green 75 = .ok (.goto 5, 3) := by decide +kernel
theorem dX9_green_78 : decode cX9_green 78 = .ok (.bipush (-4), 2) := by decide +kernel
theorem dX9_green_80 : decode cX9_green 80 = .ok (.ireturn, 1) := by decide +kernel
theorem dX9_proved_0 : decode cX9_proved 0 = .ok (.aload_n 0, 1) := by decide +kernel
theorem dX9_proved_1 : decode cX9_proved 1 = .ok (.getfield 12, 3) := by decide +kernel
theorem dX9_proved_4 : decode cX9_proved 4 = .ok (.invokevirtual 289, 3) := by decide +kernel
theorem dX9_proved_7 : decode cX9_proved 7 = .ok (.ireturn, 1) := by decide +kernel
theorem dX9_wave_0 : decode cX9_wave 0 = .ok (.iload_n 1, 1) := by decide +kernel
theorem dX9_wave_1 : decode cX9_wave 1 = .ok (.bipush 20, 2) := by decide +kernel
theorem dX9_wave_3 : decode cX9_wave 3 = .ok (.bipush 60, 2) := by decide +kernel
theorem dX9_wave_5 : decode cX9_wave 5 = .ok (.invokestatic 66, 3) := by decide +kernel
theorem dX9_wave_8 : decode cX9_wave 8 = .ok (.ifCond .ne 6, 3) := by decide +kernel
theorem dX9_wave_11 : decode cX9_wave 11 = .ok (.bipush (-2), 2) := by decide +kernel
theorem dX9_wave_13 : decode cX9_wave 13 = .ok (.ireturn, 1) := by decide +kernel
theorem dX9_wave_14 : decode cX9_wave 14 = .ok (.aload_n 0, 1) := by decide +kernel
theorem dX9_wave_15 : decode cX9_wave 15 = .ok (.getfield 51, 3) := by decide +kernel
theorem dX9_wave_18 : decode cX9_wave 18 = .ok (.getfield 292, 3) := by decide +kernel
theorem dX9_wave_21 : decode cX9_wave 21 = .ok (.istore_n 2, 1) := by decide +kernel
theorem dX9_wave_22 : decode cX9_wave 22 = .ok (.aload_n 0, 1) := by decide +kernel
theorem dX9_wave_23 : decode cX9_wave 23 = .ok (.getfield 51, 3) := by decide +kernel
theorem dX9_wave_26 : decode cX9_wave 26 = .ok (.iload_n 1, 1) := by decide +kernel
theorem dX9_wave_27 : decode cX9_wave 27 = .ok (.putfield 292, 3) := by decide +kernel
theorem dX9_wave_30 : decode cX9_wave 30 = .ok (.aload_n 0, 1) := by decide +kernel
theorem dX9_wave_31 : decode cX9_wave 31 = .ok (.getfield 51, 3) := by decide +kernel
theorem dX9_wave_34 : decode cX9_wave 34 = .ok (.iconst 0, 1) := by decide +kernel
theorem dX9_wave_35 : decode cX9_wave 35 = .ok (.putfield 297, 3) := by decide +kernel
theorem dX9_wave_38 : decode cX9_wave 38 = .ok (.iload_n 2, 1) := by decide +kernel
theorem dX9_wave_39 : decode cX9_wave 39 = .ok (.ireturn, 1) := by decide +kernel
theorem dX9_node_0 : decode cX9_node 0 = .ok (.aload_n 0, 1) := by decide +kernel
theorem dX9_node_1 : decode cX9_node 1 = .ok (.getfield 51, 3) := by decide +kernel
theorem dX9_node_4 : decode cX9_node 4 = .ok (.iconst 0, 1) := by decide +kernel
theorem dX9_node_5 : decode cX9_node 5 = .ok (.iload_n 1, 1) := by decide +kernel
theorem dX9_node_6 : decode cX9_node 6 = .ok (.invokevirtual 298, 3) := by decide +kernel
theorem dX9_node_9 : decode cX9_node 9 = .ok (.ifCond .eq 27, 3) := by decide +kernel
theorem dX9_node_12 : decode cX9_node 12 = .ok (.aload_n 0, 1) := by decide +kernel
theorem dX9_node_13 : decode cX9_node 13 = .ok (.getfield 51, 3) := by decide +kernel
theorem dX9_node_16 : decode cX9_node 16 = .ok (.iconst 1, 1) := by decide +kernel
theorem dX9_node_17 : decode cX9_node 17 = .ok (.iload_n 2, 1) := by decide +kernel
theorem dX9_node_18 : decode cX9_node 18 = .ok (.invokevirtual 298, 3) := by decide +kernel
theorem dX9_node_21 : decode cX9_node 21 = .ok (.ifCond .eq 15, 3) := by decide +kernel
theorem dX9_node_24 : decode cX9_node 24 = .ok (.aload_n 0, 1) := by decide +kernel
theorem dX9_node_25 : decode cX9_node 25 = .ok (.getfield 51, 3) := by decide +kernel
theorem dX9_node_28 : decode cX9_node 28 = .ok (.iconst 2, 1) := by decide +kernel
theorem dX9_node_29 : decode cX9_node 29 = .ok (.iload_n 3, 1) := by decide +kernel
theorem dX9_node_30 : decode cX9_node 30 = .ok (.invokevirtual 298, 3) := by decide +kernel
theorem dX9_node_33 : decode cX9_node 33 = .ok (.ifCond .ne 6, 3) := by decide +kernel
theorem dX9_node_36 : decode cX9_node 36 = .ok (.bipush (-2), 2) := by decide +kernel
theorem dX9_node_38 : decode cX9_node 38 = .ok (.ireturn, 1) := by decide +kernel
theorem dX9_node_39 : decode cX9_node 39 = .ok (.aload_n 0, 1) := by decide +kernel
theorem dX9_node_40 : decode cX9_node 40 = .ok (.getfield 51, 3) := by decide +kernel
theorem dX9_node_43 : decode cX9_node 43 = .ok (.getfield 297, 3) := by decide +kernel
theorem dX9_node_46 : decode cX9_node 46 = .ok (.iconst 5, 1) := by decide +kernel
theorem dX9_node_47 : decode cX9_node 47 = .ok (.if_icmp .lt 6, 3) := by decide +kernel
theorem dX9_node_50 : decode cX9_node 50 = .ok (.bipush (-4), 2) := by decide +kernel
theorem dX9_node_52 : decode cX9_node 52 = .ok (.ireturn, 1) := by decide +kernel
theorem dX9_node_53 : decode cX9_node 53 = .ok (.aload_n 0, 1) := by decide +kernel
theorem dX9_node_54 : decode cX9_node 54 = .ok (.getfield 51, 3) := by decide +kernel
theorem dX9_node_57 : decode cX9_node 57 = .ok (.iload_n 1, 1) := by decide +kernel
theorem dX9_node_58 : decode cX9_node 58 = .ok (.iload_n 2, 1) := by decide +kernel
theorem dX9_node_59 : decode cX9_node 59 = .ok (.iload_n 3, 1) := by decide +kernel
theorem dX9_node_60 : decode cX9_node 60 = .ok (.invokevirtual 301, 3) := by decide +kernel
theorem dX9_node_63 : decode cX9_node 63 = .ok (.ireturn, 1) := by decide +kernel
theorem dX9_change_0 : decode cX9_change 0 = .ok (.iload_n 1, 1) := by decide +kernel
theorem dX9_change_1 : decode cX9_change 1 = .ok (.iconst 0, 1) := by decide +kernel
theorem dX9_change_2 : decode cX9_change 2 = .ok (.aload_n 0, 1) := by decide +kernel
theorem dX9_change_3 : decode cX9_change 3 = .ok (.getfield 51, 3) := by decide +kernel
theorem dX9_change_6 : decode cX9_change 6 = .ok (.getfield 297, 3) := by decide +kernel
theorem dX9_change_9 : decode cX9_change 9 = .ok (.iconst 1, 1) := by decide +kernel
theorem dX9_change_10 : decode cX9_change 10 = .ok (.isub, 1) := by decide +kernel
theorem dX9_change_11 : decode cX9_change 11 = .ok (.invokestatic 66, 3) := by decide +kernel
theorem dX9_change_14 : decode cX9_change 14 = .ok (.ifCond .eq 12, 3) := by decide +kernel
theorem dX9_change_17 : decode cX9_change 17 = .ok (.iload_n 2, 1) := by decide +kernel
theorem dX9_change_18 : decode cX9_change 18 = .ok (.iconst 0, 1) := by decide +kernel
theorem dX9_change_19 : decode cX9_change 19 = .ok (.iconst 2, 1) := by decide +kernel
theorem dX9_change_20 : decode cX9_change 20 = .ok (.invokestatic 66, 3) := by decide +kernel
theorem dX9_change_23 : decode cX9_change 23 = .ok (.ifCond .ne 5, 3) := by decide +kernel
theorem dX9_change_26 : decode cX9_change 26 = .ok (.iconst (-1), 1) := by decide +kernel
theorem dX9_change_27 : decode cX9_change 27 = .ok (.ireturn, 1) := by decide +kernel
theorem dX9_change_28 : decode cX9_change 28 = .ok (.aload_n 0, 1) := by decide +kernel
theorem dX9_change_29 : decode cX9_change 29 = .ok (.getfield 51, 3) := by decide +kernel
theorem dX9_change_32 : decode cX9_change 32 = .ok (.iload_n 2, 1) := by decide +kernel
theorem dX9_change_33 : decode cX9_change 33 = .ok (.iload_n 3, 1) := by decide +kernel
theorem dX9_change_34 : decode cX9_change 34 = .ok (.invokevirtual 298, 3) := by decide +kernel
theorem dX9_change_37 : decode cX9_change 37 = .ok (.ifCond .ne 6, 3) := by decide +kernel
theorem dX9_change_40 : decode cX9_change 40 = .ok (.bipush (-2), 2) := by decide +kernel
theorem dX9_change_42 : decode cX9_change 42 = .ok (.ireturn, 1) := by decide +kernel
theorem dX9_change_43 : decode cX9_change 43 = .ok (.aload_n 0, 1) := by decide +kernel
theorem dX9_change_44 : decode cX9_change 44 = .ok (.getfield 51, 3) := by decide +kernel
theorem dX9_change_47 : decode cX9_change 47 = .ok (.iload_n 1, 1) := by decide +kernel
theorem dX9_change_48 : decode cX9_change 48 = .ok (.iload_n 2, 1) := by decide +kernel
theorem dX9_change_49 : decode cX9_change 49 = .ok (.invokevirtual 303, 3) := by decide +kernel
theorem dX9_change_52 : decode cX9_change 52 = .ok (.istore 4, 2) := by decide +kernel
theorem dX9_change_54 : decode cX9_change 54 = .ok (.aload_n 0, 1) := by decide +kernel
theorem dX9_change_55 : decode cX9_change 55 = .ok (.getfield 51, 3) := by decide +kernel
theorem dX9_change_58 : decode cX9_change 58 = .ok (.iload_n 1, 1) := by decide +kernel
theorem dX9_change_59 : decode cX9_change 59 = .ok (.iload_n 2, 1) := by decide +kernel
theorem dX9_change_60 : decode cX9_change 60 = .ok (.iload_n 3, 1) := by decide +kernel
theorem dX9_change_61 : decode cX9_change 61 = .ok (.invokevirtual 304, 3) := by decide +kernel
theorem dX9_change_64 : decode cX9_change 64 = .ok (.iload 4, 2) := by decide +kernel
theorem dX9_change_66 : decode cX9_change 66 = .ok (.ireturn, 1) := by decide +kernel
theorem dX9_band_0 : decode cX9_band 0 = .ok (.iload_n 1, 1) := by decide +kernel
theorem dX9_band_1 : decode cX9_band 1 = .ok (.tableswitch 51 0 2 #[27, 35, 43], 27) := by decide +kernel
theorem dX9_band_28 : decode cX9_band 28 = .ok (.aload_n 0, 1) := by decide +kernel
theorem dX9_band_29 : decode cX9_band 29 = .ok (.getfield 51, 3) := by decide +kernel
theorem dX9_band_32 : decode cX9_band 32 = .ok (.invokevirtual 308, 3) := by decide +kernel
theorem dX9_band_35 : decode cX9_band 35 = .ok (.ireturn, 1) := by decide +kernel
theorem dX9_band_36 : decode cX9_band 36 = .ok (.aload_n 0, 1) := by decide +kernel
theorem dX9_band_37 : decode cX9_band 37 = .ok (.getfield 51, 3) := by decide +kernel
theorem dX9_band_40 : decode cX9_band 40 = .ok (.invokevirtual 311, 3) := by decide +kernel
theorem dX9_band_43 : decode cX9_band 43 = .ok (.ireturn, 1) := by decide +kernel
theorem dX9_band_44 : decode cX9_band 44 = .ok (.aload_n 0, 1) := by decide +kernel
theorem dX9_band_45 : decode cX9_band 45 = .ok (.getfield 51, 3) := by decide +kernel
theorem dX9_band_48 : decode cX9_band 48 = .ok (.invokevirtual 314, 3) := by decide +kernel
theorem dX9_band_51 : decode cX9_band 51 = .ok (.ireturn, 1) := by decide +kernel
theorem dX9_band_52 : decode cX9_band 52 = .ok (.iconst (-1), 1) := by decide +kernel
theorem dX9_band_53 : decode cX9_band 53 = .ok (.ireturn, 1) := by decide +kernel
theorem dX9_nodeBest_0 : decode cX9_nodeBest 0 = .ok (.iload_n 1, 1) := by decide +kernel
theorem dX9_nodeBest_1 : decode cX9_nodeBest 1 = .ok (.iconst 0, 1) := by decide +kernel
theorem dX9_nodeBest_2 : decode cX9_nodeBest 2 = .ok (.aload_n 0, 1) := by decide +kernel
theorem dX9_nodeBest_3 : decode cX9_nodeBest 3 = .ok (.getfield 51, 3) := by decide +kernel
theorem dX9_nodeBest_6 : decode cX9_nodeBest 6 = .ok (.getfield 297, 3) := by decide +kernel
theorem dX9_nodeBest_9 : decode cX9_nodeBest 9 = .ok (.iconst 1, 1) := by decide +kernel
theorem dX9_nodeBest_10 : decode cX9_nodeBest 10 = .ok (.isub, 1) := by decide +kernel
theorem dX9_nodeBest_11 : decode cX9_nodeBest 11 = .ok (.invokestatic 66, 3) := by decide +kernel
theorem dX9_nodeBest_14 : decode cX9_nodeBest 14 = .ok (.ifCond .eq 12, 3) := by decide +kernel
theorem dX9_nodeBest_17 : decode cX9_nodeBest 17 = .ok (.iload_n 2, 1) := by decide +kernel
theorem dX9_nodeBest_18 : decode cX9_nodeBest 18 = .ok (.iconst 0, 1) := by decide +kernel
theorem dX9_nodeBest_19 : decode cX9_nodeBest 19 = .ok (.iconst 1, 1) := by decide +kernel
theorem dX9_nodeBest_20 : decode cX9_nodeBest 20 = .ok (.invokestatic 66, 3) := by decide +kernel
theorem dX9_nodeBest_23 : decode cX9_nodeBest 23 = .ok (.ifCond .ne 5, 3) := by decide +kernel
theorem dX9_nodeBest_26 : decode cX9_nodeBest 26 = .ok (.iconst (-1), 1) := by decide +kernel
theorem dX9_nodeBest_27 : decode cX9_nodeBest 27 = .ok (.ireturn, 1) := by decide +kernel
theorem dX9_nodeBest_28 : decode cX9_nodeBest 28 = .ok (.aload_n 0, 1) := by decide +kernel
theorem dX9_nodeBest_29 : decode cX9_nodeBest 29 = .ok (.bipush 10, 2) := by decide +kernel
theorem dX9_nodeBest_31 : decode cX9_nodeBest 31 = .ok (.invokevirtual 317, 3) := by decide +kernel
theorem dX9_nodeBest_34 : decode cX9_nodeBest 34 = .ok (.ifCond .ne 6, 3) := by decide +kernel
theorem dX9_nodeBest_37 : decode cX9_nodeBest 37 = .ok (.bipush (-4), 2) := by decide +kernel
theorem dX9_nodeBest_39 : decode cX9_nodeBest 39 = .ok (.ireturn, 1) := by decide +kernel
theorem dX9_nodeBest_40 : decode cX9_nodeBest 40 = .ok (.aload_n 0, 1) := by decide +kernel
theorem dX9_nodeBest_41 : decode cX9_nodeBest 41 = .ok (.getfield 51, 3) := by decide +kernel
theorem dX9_nodeBest_44 : decode cX9_nodeBest 44 = .ok (.iload_n 1, 1) := by decide +kernel
theorem dX9_nodeBest_45 : decode cX9_nodeBest 45 = .ok (.invokevirtual 320, 3) := by decide +kernel
theorem dX9_nodeBest_48 : decode cX9_nodeBest 48 = .ok (.istore_n 3, 1) := by decide +kernel
theorem dX9_nodeBest_49 : decode cX9_nodeBest 49 = .ok (.iload_n 2, 1) := by decide +kernel
theorem dX9_nodeBest_50 : decode cX9_nodeBest 50 = .ok (.ifCond .ne 7, 3) := by decide +kernel
theorem dX9_nodeBest_53 : decode cX9_nodeBest 53 = .ok (.iload_n 3, 1) := by decide +kernel
theorem dX9_nodeBest_54 : decode cX9_nodeBest 54 = .ok (.goto 12, 3) := by decide +kernel
theorem dX9_nodeBest_57 : decode cX9_nodeBest 57 = .ok (.aload_n 0, 1) := by decide +kernel
theorem dX9_nodeBest_58 : decode cX9_nodeBest 58 = .ok (.getfield 51, 3) := by decide +kernel
theorem dX9_nodeBest_61 : decode cX9_nodeBest 61 = .ok (.iload_n 1, 1) := by decide +kernel
theorem dX9_nodeBest_62 : decode cX9_nodeBest 62 = .ok (.iload_n 3, 1) := by decide +kernel
theorem dX9_nodeBest_63 : decode cX9_nodeBest 63 = .ok (.invokevirtual 323, 3) := by decide +kernel
theorem dX9_nodeBest_66 : decode cX9_nodeBest 66 = .ok (.ireturn, 1) := by decide +kernel
theorem dX9_tune_0 : decode cX9_tune 0 = .ok (.aload_n 0, 1) := by decide +kernel
theorem dX9_tune_1 : decode cX9_tune 1 = .ok (.sipush 200, 3) := by decide +kernel
theorem dX9_tune_4 : decode cX9_tune 4 = .ok (.invokevirtual 317, 3) := by decide +kernel
theorem dX9_tune_7 : decode cX9_tune 7 = .ok (.ifCond .ne 6, 3) := by decide +kernel
theorem dX9_tune_10 : decode cX9_tune 10 = .ok (.bipush (-4), 2) := by decide +kernel
theorem dX9_tune_12 : decode cX9_tune 12 = .ok (.ireturn, 1) := by decide +kernel
theorem dX9_tune_13 : decode cX9_tune 13 = .ok (.aload_n 0, 1) := by decide +kernel
theorem dX9_tune_14 : decode cX9_tune 14 = .ok (.getfield 51, 3) := by decide +kernel
theorem dX9_tune_17 : decode cX9_tune 17 = .ok (.invokevirtual 326, 3) := by decide +kernel
theorem dX9_tune_20 : decode cX9_tune 20 = .ok (.aload_n 0, 1) := by decide +kernel
theorem dX9_tune_21 : decode cX9_tune 21 = .ok (.getfield 51, 3) := by decide +kernel
theorem dX9_tune_24 : decode cX9_tune 24 = .ok (.invokevirtual 314, 3) := by decide +kernel
theorem dX9_tune_27 : decode cX9_tune 27 = .ok (.ireturn, 1) := by decide +kernel
theorem dX9_would_0 : decode cX9_would 0 = .ok (.iload_n 2, 1) := by decide +kernel
theorem dX9_would_1 : decode cX9_would 1 = .ok (.iconst 0, 1) := by decide +kernel
theorem dX9_would_2 : decode cX9_would 2 = .ok (.bipush 18, 2) := by decide +kernel
theorem dX9_would_4 : decode cX9_would 4 = .ok (.invokestatic 66, 3) := by decide +kernel
theorem dX9_would_7 : decode cX9_would 7 = .ok (.ifCond .ne 5, 3) := by decide +kernel
theorem dX9_would_10 : decode cX9_would 10 = .ok (.iconst (-1), 1) := by decide +kernel
theorem dX9_would_11 : decode cX9_would 11 = .ok (.ireturn, 1) := by decide +kernel
theorem dX9_would_12 : decode cX9_would 12 = .ok (.aload_n 0, 1) := by decide +kernel
theorem dX9_would_13 : decode cX9_would 13 = .ok (.iload_n 1, 1) := by decide +kernel
theorem dX9_would_14 : decode cX9_would 14 = .ok (.bipush 99, 2) := by decide +kernel
theorem dX9_would_16 : decode cX9_would 16 = .ok (.iconst 1, 1) := by decide +kernel
theorem dX9_would_17 : decode cX9_would 17 = .ok (.invokevirtual 188, 3) := by decide +kernel
theorem dX9_would_20 : decode cX9_would 20 = .ok (.istore_n 3, 1) := by decide +kernel
theorem dX9_would_21 : decode cX9_would 21 = .ok (.iload_n 3, 1) := by decide +kernel
theorem dX9_would_22 : decode cX9_would 22 = .ok (.ifCond .eq 5, 3) := by decide +kernel
theorem dX9_would_25 : decode cX9_would 25 = .ok (.iload_n 3, 1) := by decide +kernel
theorem dX9_would_26 : decode cX9_would 26 = .ok (.ireturn, 1) := by decide +kernel
theorem dX9_would_27 : decode cX9_would 27 = .ok (.aload_n 0, 1) := by decide +kernel
theorem dX9_would_28 : decode cX9_would 28 = .ok (.getfield 24, 3) := by decide +kernel
theorem dX9_would_31 : decode cX9_would 31 = .ok (.aload_n 0, 1) := by decide +kernel
theorem dX9_would_32 : decode cX9_would 32 = .ok (.getfield 31, 3) := by decide +kernel
theorem dX9_would_35 : decode cX9_would 35 = .ok (.invokevirtual 329, 3) := by decide +kernel
theorem dX9_would_38 : decode cX9_would 38 = .ok (.aload_n 0, 1) := by decide +kernel
theorem dX9_would_39 : decode cX9_would 39 = .ok (.getfield 24, 3) := by decide +kernel
theorem dX9_would_42 : decode cX9_would 42 = .ok (.iload_n 1, 1) := by decide +kernel
theorem dX9_would_43 : decode cX9_would 43 = .ok (.invokevirtual 195, 3) := by decide +kernel
theorem dX9_would_46 : decode cX9_would 46 = .ok (.aload_n 0, 1) := by decide +kernel
theorem dX9_would_47 : decode cX9_would 47 = .ok (.getfield 24, 3) := by decide +kernel
theorem dX9_would_50 : decode cX9_would 50 = .ok (.iload_n 2, 1) := by decide +kernel
theorem dX9_would_51 : decode cX9_would 51 = .ok (.invokevirtual 198, 3) := by decide +kernel
theorem dX9_would_54 : decode cX9_would 54 = .ok (.ireturn, 1) := by decide +kernel
theorem dX9_turns_0 : decode cX9_turns 0 = .ok (.aload_n 0, 1) := by decide +kernel
theorem dX9_turns_1 : decode cX9_turns 1 = .ok (.iload_n 1, 1) := by decide +kernel
theorem dX9_turns_2 : decode cX9_turns 2 = .ok (.invokevirtual 84, 3) := by decide +kernel
theorem dX9_turns_5 : decode cX9_turns 5 = .ok (.ifCond .ne 5, 3) := by decide +kernel
theorem dX9_turns_8 : decode cX9_turns 8 = .ok (.iconst (-1), 1) := by decide +kernel
theorem dX9_turns_9 : decode cX9_turns 9 = .ok (.ireturn, 1) := by decide +kernel
theorem dX9_turns_10 : decode cX9_turns 10 = .ok (.aload_n 0, 1) := by decide +kernel
theorem dX9_turns_11 : decode cX9_turns 11 = .ok (.iload_n 2, 1) := by decide +kernel
theorem dX9_turns_12 : decode cX9_turns 12 = .ok (.bipush 99, 2) := by decide +kernel
theorem dX9_turns_14 : decode cX9_turns 14 = .ok (.iconst 1, 1) := by decide +kernel
theorem dX9_turns_15 : decode cX9_turns 15 = .ok (.invokevirtual 188, 3) := by decide +kernel
theorem dX9_turns_18 : decode cX9_turns 18 = .ok (.istore_n 3, 1) := by decide +kernel
theorem dX9_turns_19 : decode cX9_turns 19 = .ok (.iload_n 3, 1) := by decide +kernel
theorem dX9_turns_20 : decode cX9_turns 20 = .ok (.ifCond .eq 5, 3) := by decide +kernel
theorem dX9_turns_23 : decode cX9_turns 23 = .ok (.iload_n 3, 1) := by decide +kernel
theorem dX9_turns_24 : decode cX9_turns 24 = .ok (.ireturn, 1) := by decide +kernel
theorem dX9_turns_25 : decode cX9_turns 25 = .ok (.aload_n 0, 1) := by decide +kernel
theorem dX9_turns_26 : decode cX9_turns 26 = .ok (.getfield 24, 3) := by decide +kernel
theorem dX9_turns_29 : decode cX9_turns 29 = .ok (.aload_n 0, 1) := by decide +kernel
theorem dX9_turns_30 : decode cX9_turns 30 = .ok (.getfield 31, 3) := by decide +kernel
theorem dX9_turns_33 : decode cX9_turns 33 = .ok (.invokevirtual 329, 3) := by decide +kernel
theorem dX9_turns_36 : decode cX9_turns 36 = .ok (.iconst 0, 1) := by decide +kernel
theorem dX9_turns_37 : decode cX9_turns 37 = .ok (.istore 4, 2) := by decide +kernel
theorem dX9_turns_39 : decode cX9_turns 39 = .ok (.iload 4, 2) := by decide +kernel
theorem dX9_turns_41 : decode cX9_turns 41 = .ok (.iload_n 2, 1) := by decide +kernel
theorem dX9_turns_42 : decode cX9_turns 42 = .ok (.if_icmp .ge 41, 3) := by decide +kernel
theorem dX9_turns_45 : decode cX9_turns 45 = .ok (.aload_n 0, 1) := by decide +kernel
theorem dX9_turns_46 : decode cX9_turns 46 = .ok (.getfield 24, 3) := by decide +kernel
theorem dX9_turns_49 : decode cX9_turns 49 = .ok (.iconst 1, 1) := by decide +kernel
theorem dX9_turns_50 : decode cX9_turns 50 = .ok (.invokevirtual 195, 3) := by decide +kernel
theorem dX9_turns_53 : decode cX9_turns 53 = .ok (.aload_n 0, 1) := by decide +kernel
theorem dX9_turns_54 : decode cX9_turns 54 = .ok (.getfield 24, 3) := by decide +kernel
theorem dX9_turns_57 : decode cX9_turns 57 = .ok (.getfield 37, 3) := by decide +kernel
theorem dX9_turns_60 : decode cX9_turns 60 = .ok (.iload_n 1, 1) := by decide +kernel
theorem dX9_turns_61 : decode cX9_turns 61 = .ok (.invokevirtual 333, 3) := by decide +kernel
theorem dX9_turns_64 : decode cX9_turns 64 = .ok (.ifCond .eq 13, 3) := by decide +kernel
theorem dX9_turns_67 : decode cX9_turns 67 = .ok (.aload_n 0, 1) := by decide +kernel
theorem dX9_turns_68 : decode cX9_turns 68 = .ok (.getfield 24, 3) := by decide +kernel
theorem dX9_turns_71 : decode cX9_turns 71 = .ok (.getfield 336, 3) := by decide +kernel
theorem dX9_turns_74 : decode cX9_turns 74 = .ok (.iconst 1, 1) := by decide +kernel
theorem dX9_turns_75 : decode cX9_turns 75 = .ok (.isub, 1) := by decide +kernel
theorem dX9_turns_76 : decode cX9_turns 76 = .ok (.ireturn, 1) := by decide +kernel
theorem dX9_turns_77 : decode cX9_turns 77 = .ok (.iinc 4 1, 3) := by decide +kernel
theorem dX9_turns_80 : decode cX9_turns 80 = .ok (.goto (-41), 3) := by decide +kernel
theorem dX9_turns_83 : decode cX9_turns 83 = .ok (.bipush (-5), 2) := by decide +kernel
theorem dX9_turns_85 : decode cX9_turns 85 = .ok (.ireturn, 1) := by decide +kernel
theorem dX9_best_0 : decode cX9_best 0 = .ok (.iload_n 2, 1) := by decide +kernel
theorem dX9_best_1 : decode cX9_best 1 = .ok (.iconst 0, 1) := by decide +kernel
theorem dX9_best_2 : decode cX9_best 2 = .ok (.iconst 1, 1) := by decide +kernel
theorem dX9_best_3 : decode cX9_best 3 = .ok (.invokestatic 66, 3) := by decide +kernel
theorem dX9_best_6 : decode cX9_best 6 = .ok (.ifCond .ne 5, 3) := by decide +kernel
theorem dX9_best_9 : decode cX9_best 9 = .ok (.iconst (-1), 1) := by decide +kernel
theorem dX9_best_10 : decode cX9_best 10 = .ok (.ireturn, 1) := by decide +kernel
theorem dX9_best_11 : decode cX9_best 11 = .ok (.aload_n 0, 1) := by decide +kernel
theorem dX9_best_12 : decode cX9_best 12 = .ok (.iload_n 1, 1) := by decide +kernel
theorem dX9_best_13 : decode cX9_best 13 = .ok (.bipush 60, 2) := by decide +kernel
theorem dX9_best_15 : decode cX9_best 15 = .ok (.bipush 9, 2) := by decide +kernel
theorem dX9_best_17 : decode cX9_best 17 = .ok (.invokevirtual 188, 3) := by decide +kernel
theorem dX9_best_20 : decode cX9_best 20 = .ok (.istore_n 3, 1) := by decide +kernel
theorem dX9_best_21 : decode cX9_best 21 = .ok (.iload_n 3, 1) := by decide +kernel
theorem dX9_best_22 : decode cX9_best 22 = .ok (.ifCond .eq 5, 3) := by decide +kernel
theorem dX9_best_25 : decode cX9_best 25 = .ok (.iload_n 3, 1) := by decide +kernel
theorem dX9_best_26 : decode cX9_best 26 = .ok (.ireturn, 1) := by decide +kernel
theorem dX9_best_27 : decode cX9_best 27 = .ok (.iconst 1, 1) := by decide +kernel
theorem dX9_best_28 : decode cX9_best 28 = .ok (.istore 4, 2) := by decide +kernel
theorem dX9_best_30 : decode cX9_best 30 = .ok (.aload_n 0, 1) := by decide +kernel
theorem dX9_best_31 : decode cX9_best 31 = .ok (.iconst 1, 1) := by decide +kernel
theorem dX9_best_32 : decode cX9_best 32 = .ok (.iload_n 1, 1) := by decide +kernel
theorem dX9_best_33 : decode cX9_best 33 = .ok (.invokevirtual 339, 3) := by decide +kernel
theorem dX9_best_36 : decode cX9_best 36 = .ok (.istore 5, 2) := by decide +kernel
theorem dX9_best_38 : decode cX9_best 38 = .ok (.iconst 2, 1) := by decide +kernel
theorem dX9_best_39 : decode cX9_best 39 = .ok (.istore 6, 2) := by decide +kernel
theorem dX9_best_41 : decode cX9_best 41 = .ok (.iload 6, 2) := by decide +kernel
theorem dX9_best_43 : decode cX9_best 43 = .ok (.bipush 9, 2) := by decide +kernel
theorem dX9_best_45 : decode cX9_best 45 = .ok (.if_icmp .gt 33, 3) := by decide +kernel
theorem dX9_best_48 : decode cX9_best 48 = .ok (.aload_n 0, 1) := by decide +kernel
theorem dX9_best_49 : decode cX9_best 49 = .ok (.iload 6, 2) := by decide +kernel
theorem dX9_best_51 : decode cX9_best 51 = .ok (.iload_n 1, 1) := by decide +kernel
theorem dX9_best_52 : decode cX9_best 52 = .ok (.invokevirtual 339, 3) := by decide +kernel
theorem dX9_best_55 : decode cX9_best 55 = .ok (.istore 7, 2) := by decide +kernel
theorem dX9_best_57 : decode cX9_best 57 = .ok (.iload 7, 2) := by decide +kernel
theorem dX9_best_59 : decode cX9_best 59 = .ok (.iload 5, 2) := by decide +kernel
theorem dX9_best_61 : decode cX9_best 61 = .ok (.if_icmp .ge 11, 3) := by decide +kernel
theorem dX9_best_64 : decode cX9_best 64 = .ok (.iload 6, 2) := by decide +kernel
theorem dX9_best_66 : decode cX9_best 66 = .ok (.istore 4, 2) := by decide +kernel
theorem dX9_best_68 : decode cX9_best 68 = .ok (.iload 7, 2) := by decide +kernel
theorem dX9_best_70 : decode cX9_best 70 = .ok (.istore 5, 2) := by decide +kernel
theorem dX9_best_72 : decode cX9_best 72 = .ok (.iinc 6 1, 3) := by decide +kernel
theorem dX9_best_75 : decode cX9_best 75 = .ok (.goto (-34), 3) := by decide +kernel
theorem dX9_best_78 : decode cX9_best 78 = .ok (.iload_n 2, 1) := by decide +kernel
theorem dX9_best_79 : decode cX9_best 79 = .ok (.ifCond .ne 8, 3) := by decide +kernel
theorem dX9_best_82 : decode cX9_best 82 = .ok (.iload 4, 2) := by decide +kernel
theorem dX9_best_84 : decode cX9_best 84 = .ok (.goto 5, 3) := by decide +kernel
theorem dX9_best_87 : decode cX9_best 87 = .ok (.iload 5, 2) := by decide +kernel
theorem dX9_best_89 : decode cX9_best 89 = .ok (.ireturn, 1) := by decide +kernel
theorem dX9_waitedWithGap_0 : decode cX9_waitedWithGap 0 = .ok (.aload_n 0, 1) := by decide +kernel
theorem dX9_waitedWithGap_1 : decode cX9_waitedWithGap 1 = .ok (.getfield 24, 3) := by decide +kernel
theorem dX9_waitedWithGap_4 : decode cX9_waitedWithGap 4 = .ok (.aload_n 0, 1) := by decide +kernel
theorem dX9_waitedWithGap_5 : decode cX9_waitedWithGap 5 = .ok (.getfield 31, 3) := by decide +kernel
theorem dX9_waitedWithGap_8 : decode cX9_waitedWithGap 8 = .ok (.invokevirtual 329, 3) := by decide +kernel
theorem dX9_waitedWithGap_11 : decode cX9_waitedWithGap 11 = .ok (.aload_n 0, 1) := by decide +kernel
theorem dX9_waitedWithGap_12 : decode cX9_waitedWithGap 12 = .ok (.getfield 24, 3) := by decide +kernel
theorem dX9_waitedWithGap_15 : decode cX9_waitedWithGap 15 = .ok (.getfield 37, 3) := by decide +kernel
theorem dX9_waitedWithGap_18 : decode cX9_waitedWithGap 18 = .ok (.iload_n 1, 1) := by decide +kernel
theorem dX9_waitedWithGap_19 : decode cX9_waitedWithGap 19 = .ok (.invokevirtual 342, 3) := by decide +kernel
theorem dX9_waitedWithGap_22 : decode cX9_waitedWithGap 22 = .ok (.aload_n 0, 1) := by decide +kernel
theorem dX9_waitedWithGap_23 : decode cX9_waitedWithGap 23 = .ok (.getfield 24, 3) := by decide +kernel
theorem dX9_waitedWithGap_26 : decode cX9_waitedWithGap 26 = .ok (.iload_n 2, 1) := by decide +kernel
theorem dX9_waitedWithGap_27 : decode cX9_waitedWithGap 27 = .ok (.invokevirtual 195, 3) := by decide +kernel
theorem dX9_waitedWithGap_30 : decode cX9_waitedWithGap 30 = .ok (.aload_n 0, 1) := by decide +kernel
theorem dX9_waitedWithGap_31 : decode cX9_waitedWithGap 31 = .ok (.getfield 24, 3) := by decide +kernel
theorem dX9_waitedWithGap_34 : decode cX9_waitedWithGap 34 = .ok (.getfield 345, 3) := by decide +kernel
theorem dX9_waitedWithGap_37 : decode cX9_waitedWithGap 37 = .ok (.ireturn, 1) := by decide +kernel
theorem dX9_note_0 : decode cX9_note 0 = .ok (.aload_n 0, 1) := by decide +kernel
theorem dX9_note_1 : decode cX9_note 1 = .ok (.getfield 12, 3) := by decide +kernel
theorem dX9_note_4 : decode cX9_note 4 = .ok (.getfield 348, 3) := by decide +kernel
theorem dX9_note_7 : decode cX9_note 7 = .ok (.astore_n 3, 1) := by decide +kernel
theorem dX9_note_8 : decode cX9_note 8 = .ok (.iload_n 1, 1) := by decide +kernel
theorem dX9_note_9 : decode cX9_note 9 = .ok (.iconst (-1), 1) := by decide +kernel
theorem dX9_note_10 : decode cX9_note 10 = .ok (.if_icmp .ne 10, 3) := by decide +kernel
theorem dX9_note_13 : decode cX9_note 13 = .ok (.aload_n 3, 1) := by decide +kernel
theorem dX9_note_14 : decode cX9_note 14 = .ok (.iconst 0, 1) := by decide +kernel
theorem dX9_note_15 : decode cX9_note 15 = .ok (.putfield 258, 3) := by decide +kernel
theorem dX9_note_18 : decode cX9_note 18 = .ok (.iconst 0, 1) := by decide +kernel
theorem dX9_note_19 : decode cX9_note 19 = .ok (.ireturn, 1) := by decide +kernel
theorem dX9_note_20 : decode cX9_note 20 = .ok (.iload_n 1, 1) := by decide +kernel
theorem dX9_note_21 : decode cX9_note 21 = .ok (.iconst 0, 1) := by decide +kernel
theorem dX9_note_22 : decode cX9_note 22 = .ok (.ldc_w 351, 3) := by decide +kernel
theorem dX9_note_25 : decode cX9_note 25 = .ok (.invokestatic 66, 3) := by decide +kernel
theorem dX9_note_28 : decode cX9_note 28 = .ok (.ifCond .eq 14, 3) := by decide +kernel
theorem dX9_note_31 : decode cX9_note 31 = .ok (.iload_n 2, 1) := by decide +kernel
theorem dX9_note_32 : decode cX9_note 32 = .ok (.iconst 0, 1) := by decide +kernel
theorem dX9_note_33 : decode cX9_note 33 = .ok (.sipush 255, 3) := by decide +kernel
theorem dX9_note_36 : decode cX9_note 36 = .ok (.invokestatic 66, 3) := by decide +kernel
theorem dX9_note_39 : decode cX9_note 39 = .ok (.ifCond .ne 6, 3) := by decide +kernel
theorem dX9_note_42 : decode cX9_note 42 = .ok (.bipush (-2), 2) := by decide +kernel
theorem dX9_note_44 : decode cX9_note 44 = .ok (.ireturn, 1) := by decide +kernel
theorem dX9_note_45 : decode cX9_note 45 = .ok (.aload_n 3, 1) := by decide +kernel
theorem dX9_note_46 : decode cX9_note 46 = .ok (.iload_n 1, 1) := by decide +kernel
theorem dX9_note_47 : decode cX9_note 47 = .ok (.iload_n 2, 1) := by decide +kernel
theorem dX9_note_48 : decode cX9_note 48 = .ok (.iconst 0, 1) := by decide +kernel
theorem dX9_note_49 : decode cX9_note 49 = .ok (.invokevirtual 287, 3) := by decide +kernel
theorem dX9_note_52 : decode cX9_note 52 = .ok (.ifCond .eq 10, 3) := by decide +kernel
theorem dX9_note_55 : decode cX9_note 55 = .ok (.aload_n 3, 1) := by decide +kernel
theorem dX9_note_56 : decode cX9_note 56 = .ok (.getfield 258, 3) := by decide +kernel
theorem dX9_note_59 : decode cX9_note 59 = .ok (.goto 5, 3) := by decide +kernel
theorem dX9_note_62 : decode cX9_note 62 = .ok (.bipush (-4), 2) := by decide +kernel
theorem dX9_note_64 : decode cX9_note 64 = .ok (.ireturn, 1) := by decide +kernel
theorem dX9_fits_0 : decode cX9_fits 0 = .ok (.iload_n 1, 1) := by decide +kernel
theorem dX9_fits_1 : decode cX9_fits 1 = .ok (.iconst 0, 1) := by decide +kernel
theorem dX9_fits_2 : decode cX9_fits 2 = .ok (.iconst 1, 1) := by decide +kernel
theorem dX9_fits_3 : decode cX9_fits 3 = .ok (.invokestatic 66, 3) := by decide +kernel
theorem dX9_fits_6 : decode cX9_fits 6 = .ok (.ifCond .ne 5, 3) := by decide +kernel
theorem dX9_fits_9 : decode cX9_fits 9 = .ok (.iconst (-1), 1) := by decide +kernel
theorem dX9_fits_10 : decode cX9_fits 10 = .ok (.ireturn, 1) := by decide +kernel
theorem dX9_fits_11 : decode cX9_fits 11 = .ok (.aload_n 0, 1) := by decide +kernel
theorem dX9_fits_12 : decode cX9_fits 12 = .ok (.bipush 60, 2) := by decide +kernel
theorem dX9_fits_14 : decode cX9_fits 14 = .ok (.bipush 60, 2) := by decide +kernel
theorem dX9_fits_16 : decode cX9_fits 16 = .ok (.bipush 9, 2) := by decide +kernel
theorem dX9_fits_18 : decode cX9_fits 18 = .ok (.invokevirtual 188, 3) := by decide +kernel
theorem dX9_fits_21 : decode cX9_fits 21 = .ok (.istore_n 2, 1) := by decide +kernel
theorem dX9_fits_22 : decode cX9_fits 22 = .ok (.iload_n 2, 1) := by decide +kernel
theorem dX9_fits_23 : decode cX9_fits 23 = .ok (.ifCond .eq 5, 3) := by decide +kernel
theorem dX9_fits_26 : decode cX9_fits 26 = .ok (.iload_n 2, 1) := by decide +kernel
theorem dX9_fits_27 : decode cX9_fits 27 = .ok (.ireturn, 1) := by decide +kernel
theorem dX9_fits_28 : decode cX9_fits 28 = .ok (.iconst 0, 1) := by decide +kernel
theorem dX9_fits_29 : decode cX9_fits 29 = .ok (.istore_n 3, 1) := by decide +kernel
theorem dX9_fits_30 : decode cX9_fits 30 = .ok (.bipush (-5), 2) := by decide +kernel
theorem dX9_fits_32 : decode cX9_fits 32 = .ok (.istore 4, 2) := by decide +kernel
theorem dX9_fits_34 : decode cX9_fits 34 = .ok (.bipush 9, 2) := by decide +kernel
theorem dX9_fits_36 : decode cX9_fits 36 = .ok (.istore 5, 2) := by decide +kernel
theorem dX9_fits_38 : decode cX9_fits 38 = .ok (.iload 5, 2) := by decide +kernel
theorem dX9_fits_40 : decode cX9_fits 40 = .ok (.iconst 1, 1) := by decide +kernel
theorem dX9_fits_41 : decode cX9_fits 41 = .ok (.if_icmp .lt 25, 3) := by decide +kernel
theorem dX9_fits_44 : decode cX9_fits 44 = .ok (.aload_n 0, 1) := by decide +kernel
theorem dX9_fits_45 : decode cX9_fits 45 = .ok (.iload 5, 2) := by decide +kernel
theorem dX9_fits_47 : decode cX9_fits 47 = .ok (.invokevirtual 352, 3) := by decide +kernel
theorem dX9_fits_50 : decode cX9_fits 50 = .ok (.ifCond .eq 10, 3) := by decide +kernel
theorem dX9_fits_53 : decode cX9_fits 53 = .ok (.iinc 3 1, 3) := by decide +kernel
theorem dX9_fits_56 : decode cX9_fits 56 = .ok (.iload 5, 2) := by decide +kernel
theorem dX9_fits_58 : decode cX9_fits 58 = .ok (.istore 4, 2) := by decide +kernel
theorem dX9_fits_60 : decode cX9_fits 60 = .ok (.iinc 5 (-1), 3) := by decide +kernel
theorem dX9_fits_63 : decode cX9_fits 63 = .ok (.goto (-25), 3) := by decide +kernel
theorem dX9_fits_66 : decode cX9_fits 66 = .ok (.iload_n 1, 1) := by decide +kernel
theorem dX9_fits_67 : decode cX9_fits 67 = .ok (.ifCond .ne 7, 3) := by decide +kernel
theorem dX9_fits_70 : decode cX9_fits 70 = .ok (.iload_n 3, 1) := by decide +kernel
theorem dX9_fits_71 : decode cX9_fits 71 = .ok (.goto 5, 3) := by decide +kernel
theorem dX9_fits_74 : decode cX9_fits 74 = .ok (.iload 4, 2) := by decide +kernel
theorem dX9_fits_76 : decode cX9_fits 76 = .ok (.ireturn, 1) := by decide +kernel
theorem dX9_notesHoldWithGap_0 : decode cX9_notesHoldWithGap 0 = .ok (.aload_n 0, 1) := by decide +kernel
theorem dX9_notesHoldWithGap_1 : decode cX9_notesHoldWithGap 1 = .ok (.getfield 24, 3) := by decide +kernel
theorem dX9_notesHoldWithGap_4 : decode cX9_notesHoldWithGap 4 = .ok (.aload_n 0, 1) := by decide +kernel
theorem dX9_notesHoldWithGap_5 : decode cX9_notesHoldWithGap 5 = .ok (.getfield 31, 3) := by decide +kernel
theorem dX9_notesHoldWithGap_8 : decode cX9_notesHoldWithGap 8 = .ok (.invokevirtual 329, 3) := by decide +kernel
theorem dX9_notesHoldWithGap_11 : decode cX9_notesHoldWithGap 11 = .ok (.aload_n 0, 1) := by decide +kernel
theorem dX9_notesHoldWithGap_12 : decode cX9_notesHoldWithGap 12 = .ok (.getfield 24, 3) := by decide +kernel
theorem dX9_notesHoldWithGap_15 : decode cX9_notesHoldWithGap 15 = .ok (.getfield 37, 3) := by decide +kernel
theorem dX9_notesHoldWithGap_18 : decode cX9_notesHoldWithGap 18 = .ok (.iload_n 1, 1) := by decide +kernel
theorem dX9_notesHoldWithGap_19 : decode cX9_notesHoldWithGap 19 = .ok (.invokevirtual 342, 3) := by decide +kernel
theorem dX9_notesHoldWithGap_22 : decode cX9_notesHoldWithGap 22 = .ok (.iconst 0, 1) := by decide +kernel
theorem dX9_notesHoldWithGap_23 : decode cX9_notesHoldWithGap 23 = .ok (.istore_n 2, 1) := by decide +kernel
theorem dX9_notesHoldWithGap_24 : decode cX9_notesHoldWithGap 24 = .ok (.iconst 0, 1) := by decide +kernel
theorem dX9_notesHoldWithGap_25 : decode cX9_notesHoldWithGap 25 = .ok (.istore_n 3, 1) := by decide +kernel
theorem dX9_notesHoldWithGap_26 : decode cX9_notesHoldWithGap 26 = .ok (.iload_n 3, 1) := by decide +kernel
theorem dX9_notesHoldWithGap_27 : decode cX9_notesHoldWithGap 27 = .ok (.bipush 60, 2) := by decide +kernel
theorem dX9_notesHoldWithGap_29 : decode cX9_notesHoldWithGap 29 = .ok (.if_icmp .ge 48, 3) := by decide +kernel
theorem dX9_notesHoldWithGap_32 : decode cX9_notesHoldWithGap 32 = .ok (.aload_n 0, 1) := by decide +kernel
theorem dX9_notesHoldWithGap_33 : decode cX9_notesHoldWithGap 33 = .ok (.getfield 24, 3) := by decide +kernel
theorem dX9_notesHoldWithGap_36 : decode cX9_notesHoldWithGap 36 = .ok (.getfield 336, 3) := by decide +kernel
theorem dX9_notesHoldWithGap_39 : decode cX9_notesHoldWithGap 39 = .ok (.istore 4, 2) := by decide +kernel
theorem dX9_notesHoldWithGap_41 : decode cX9_notesHoldWithGap 41 = .ok (.aload_n 0, 1) := by decide +kernel
theorem dX9_notesHoldWithGap_42 : decode cX9_notesHoldWithGap 42 = .ok (.getfield 24, 3) := by decide +kernel
theorem dX9_notesHoldWithGap_45 : decode cX9_notesHoldWithGap 45 = .ok (.iconst 1, 1) := by decide +kernel
theorem dX9_notesHoldWithGap_46 : decode cX9_notesHoldWithGap 46 = .ok (.invokevirtual 195, 3) := by decide +kernel
theorem dX9_notesHoldWithGap_49 : decode cX9_notesHoldWithGap 49 = .ok (.iload_n 2, 1) := by decide +kernel
theorem dX9_notesHoldWithGap_50 : decode cX9_notesHoldWithGap 50 = .ok (.aload_n 0, 1) := by decide +kernel
theorem dX9_notesHoldWithGap_51 : decode cX9_notesHoldWithGap 51 = .ok (.getfield 12, 3) := by decide +kernel
theorem dX9_notesHoldWithGap_54 : decode cX9_notesHoldWithGap 54 = .ok (.iload 4, 2) := by decide +kernel
theorem dX9_notesHoldWithGap_56 : decode cX9_notesHoldWithGap 56 = .ok (.aload_n 0, 1) := by decide +kernel
theorem dX9_notesHoldWithGap_57 : decode cX9_notesHoldWithGap 57 = .ok (.getfield 24, 3) := by decide +kernel
theorem dX9_notesHoldWithGap_60 : decode cX9_notesHoldWithGap 60 = .ok (.getfield 37, 3) := by decide +kernel
theorem dX9_notesHoldWithGap_63 : decode cX9_notesHoldWithGap 63 = .ok (.getfield 355, 3) := by decide +kernel
theorem dX9_notesHoldWithGap_66 : decode cX9_notesHoldWithGap 66 = .ok (.invokevirtual 358, 3) := by decide +kernel
theorem dX9_notesHoldWithGap_69 : decode cX9_notesHoldWithGap 69 = .ok (.iadd, 1) := by decide +kernel
theorem dX9_notesHoldWithGap_70 : decode cX9_notesHoldWithGap 70 = .ok (.istore_n 2, 1) := by decide +kernel
theorem dX9_notesHoldWithGap_71 : decode cX9_notesHoldWithGap 71 = .ok (.iinc 3 1, 3) := by decide +kernel
theorem dX9_notesHoldWithGap_74 : decode cX9_notesHoldWithGap 74 = .ok (.goto (-48), 3) := by decide +kernel
theorem dX9_notesHoldWithGap_77 : decode cX9_notesHoldWithGap 77 = .ok (.iload_n 2, 1) := by decide +kernel
theorem dX9_notesHoldWithGap_78 : decode cX9_notesHoldWithGap 78 = .ok (.aload_n 0, 1) := by decide +kernel
theorem dX9_notesHoldWithGap_79 : decode cX9_notesHoldWithGap 79 = .ok (.getfield 12, 3) := by decide +kernel
theorem dX9_notesHoldWithGap_82 : decode cX9_notesHoldWithGap 82 = .ok (.getfield 348, 3) := by decide +kernel
theorem dX9_notesHoldWithGap_85 : decode cX9_notesHoldWithGap 85 = .ok (.getfield 258, 3) := by decide +kernel
theorem dX9_notesHoldWithGap_88 : decode cX9_notesHoldWithGap 88 = .ok (.if_icmp .ne 7, 3) := by decide +kernel
theorem dX9_notesHoldWithGap_91 : decode cX9_notesHoldWithGap 91 = .ok (.iconst 1, 1) := by decide +kernel
theorem dX9_notesHoldWithGap_92 : decode cX9_notesHoldWithGap 92 = .ok (.goto 4, 3) := by decide +kernel
theorem dX9_notesHoldWithGap_95 : decode cX9_notesHoldWithGap 95 = .ok (.iconst 0, 1) := by decide +kernel
theorem dX9_notesHoldWithGap_96 : decode cX9_notesHoldWithGap 96 = .ok (.ireturn, 1) := by decide +kernel
theorem dX9_day_0 : decode cX9_day 0 = .ok (.aload_n 0, 1) := by decide +kernel
theorem dX9_day_1 : decode cX9_day 1 = .ok (.iload_n 2, 1) := by decide +kernel
theorem dX9_day_2 : decode cX9_day 2 = .ok (.bipush 99, 2) := by decide +kernel
theorem dX9_day_4 : decode cX9_day 4 = .ok (.iconst 1, 1) := by decide +kernel
theorem dX9_day_5 : decode cX9_day 5 = .ok (.invokevirtual 188, 3) := by decide +kernel
theorem dX9_day_8 : decode cX9_day 8 = .ok (.istore_n 3, 1) := by decide +kernel
theorem dX9_day_9 : decode cX9_day 9 = .ok (.iload_n 3, 1) := by decide +kernel
theorem dX9_day_10 : decode cX9_day 10 = .ok (.ifCond .eq 7, 3) := by decide +kernel
theorem dX9_day_13 : decode cX9_day 13 = .ok (.iload_n 3, 1) := by decide +kernel
theorem dX9_day_14 : decode cX9_day 14 = .ok (.goto 9, 3) := by decide +kernel
theorem dX9_day_17 : decode cX9_day 17 = .ok (.aload_n 0, 1) := by decide +kernel
theorem dX9_day_18 : decode cX9_day 18 = .ok (.iload_n 1, 1) := by decide +kernel
theorem dX9_day_19 : decode cX9_day 19 = .ok (.iload_n 2, 1) := by decide +kernel
theorem dX9_day_20 : decode cX9_day 20 = .ok (.invokevirtual 361, 3) := by decide +kernel
theorem dX9_day_23 : decode cX9_day 23 = .ok (.ireturn, 1) := by decide +kernel
theorem dX9_waitedOnDay_0 : decode cX9_waitedOnDay 0 = .ok (.aload_n 0, 1) := by decide +kernel
theorem dX9_waitedOnDay_1 : decode cX9_waitedOnDay 1 = .ok (.getfield 24, 3) := by decide +kernel
theorem dX9_waitedOnDay_4 : decode cX9_waitedOnDay 4 = .ok (.aload_n 0, 1) := by decide +kernel
theorem dX9_waitedOnDay_5 : decode cX9_waitedOnDay 5 = .ok (.getfield 31, 3) := by decide +kernel
theorem dX9_waitedOnDay_8 : decode cX9_waitedOnDay 8 = .ok (.invokevirtual 329, 3) := by decide +kernel
theorem dX9_waitedOnDay_11 : decode cX9_waitedOnDay 11 = .ok (.aload_n 0, 1) := by decide +kernel
theorem dX9_waitedOnDay_12 : decode cX9_waitedOnDay 12 = .ok (.getfield 24, 3) := by decide +kernel
theorem dX9_waitedOnDay_15 : decode cX9_waitedOnDay 15 = .ok (.iload_n 1, 1) := by decide +kernel
theorem dX9_waitedOnDay_16 : decode cX9_waitedOnDay 16 = .ok (.putfield 176, 3) := by decide +kernel
theorem dX9_waitedOnDay_19 : decode cX9_waitedOnDay 19 = .ok (.aload_n 0, 1) := by decide +kernel
theorem dX9_waitedOnDay_20 : decode cX9_waitedOnDay 20 = .ok (.getfield 24, 3) := by decide +kernel
theorem dX9_waitedOnDay_23 : decode cX9_waitedOnDay 23 = .ok (.iload_n 2, 1) := by decide +kernel
theorem dX9_waitedOnDay_24 : decode cX9_waitedOnDay 24 = .ok (.invokevirtual 195, 3) := by decide +kernel
theorem dX9_waitedOnDay_27 : decode cX9_waitedOnDay 27 = .ok (.aload_n 0, 1) := by decide +kernel
theorem dX9_waitedOnDay_28 : decode cX9_waitedOnDay 28 = .ok (.getfield 24, 3) := by decide +kernel
theorem dX9_waitedOnDay_31 : decode cX9_waitedOnDay 31 = .ok (.getfield 345, 3) := by decide +kernel
theorem dX9_waitedOnDay_34 : decode cX9_waitedOnDay 34 = .ok (.aload_n 0, 1) := by decide +kernel
theorem dX9_waitedOnDay_35 : decode cX9_waitedOnDay 35 = .ok (.getfield 31, 3) := by decide +kernel
theorem dX9_waitedOnDay_38 : decode cX9_waitedOnDay 38 = .ok (.getfield 345, 3) := by decide +kernel
theorem dX9_waitedOnDay_41 : decode cX9_waitedOnDay 41 = .ok (.isub, 1) := by decide +kernel
theorem dX9_waitedOnDay_42 : decode cX9_waitedOnDay 42 = .ok (.ireturn, 1) := by decide +kernel
theorem dX9_chance_0 : decode cX9_chance 0 = .ok (.iload_n 3, 1) := by decide +kernel
theorem dX9_chance_1 : decode cX9_chance 1 = .ok (.iconst 1, 1) := by decide +kernel
theorem dX9_chance_2 : decode cX9_chance 2 = .ok (.iconst 4, 1) := by decide +kernel
theorem dX9_chance_3 : decode cX9_chance 3 = .ok (.invokestatic 66, 3) := by decide +kernel
theorem dX9_chance_6 : decode cX9_chance 6 = .ok (.ifCond .eq 25, 3) := by decide +kernel
theorem dX9_chance_9 : decode cX9_chance 9 = .ok (.iload 4, 2) := by decide +kernel
theorem dX9_chance_11 : decode cX9_chance 11 = .ok (.iconst 0, 1) := by decide +kernel
theorem dX9_chance_12 : decode cX9_chance 12 = .ok (.ldc_w 351, 3) := by decide +kernel
theorem dX9_chance_15 : decode cX9_chance 15 = .ok (.invokestatic 66, 3) := by decide +kernel
theorem dX9_chance_18 : decode cX9_chance 18 = .ok (.ifCond .eq 13, 3) := by decide +kernel
theorem dX9_chance_21 : decode cX9_chance 21 = .ok (.iload 5, 2) := by decide +kernel
theorem dX9_chance_23 : decode cX9_chance 23 = .ok (.iconst 0, 1) := by decide +kernel
theorem dX9_chance_24 : decode cX9_chance 24 = .ok (.iconst 1, 1) := by decide +kernel
theorem dX9_chance_25 : decode cX9_chance 25 = .ok (.invokestatic 66, 3) := by decide +kernel
theorem dX9_chance_28 : decode cX9_chance 28 = .ok (.ifCond .ne 7, 3) := by decide +kernel
theorem dX9_chance_31 : decode cX9_chance 31 = .ok (.ldc2_w 364, 3) := by decide +kernel
theorem dX9_chance_34 : decode cX9_chance 34 = .ok (.lreturn, 1) := by decide +kernel
theorem dX9_chance_35 : decode cX9_chance 35 = .ok (.aload_n 0, 1) := by decide +kernel
theorem dX9_chance_36 : decode cX9_chance 36 = .ok (.iload_n 2, 1) := by decide +kernel
theorem dX9_chance_37 : decode cX9_chance 37 = .ok (.bipush 99, 2) := by decide +kernel
theorem dX9_chance_39 : decode cX9_chance 39 = .ok (.iload_n 3, 1) := by decide +kernel
theorem dX9_chance_40 : decode cX9_chance 40 = .ok (.invokevirtual 188, 3) := by decide +kernel
theorem dX9_chance_43 : decode cX9_chance 43 = .ok (.ifCond .eq 7, 3) := by decide +kernel
theorem dX9_chance_46 : decode cX9_chance 46 = .ok (.ldc2_w 364, 3) := by decide +kernel
theorem dX9_chance_49 : decode cX9_chance 49 = .ok (.lreturn, 1) := by decide +kernel
theorem dX9_chance_50 : decode cX9_chance 50 = .ok (.iconst 0, 1) := by decide +kernel
theorem dX9_chance_51 : decode cX9_chance 51 = .ok (.istore 6, 2) := by decide +kernel
theorem dX9_chance_53 : decode cX9_chance 53 = .ok (.iconst 0, 1) := by decide +kernel
theorem dX9_chance_54 : decode cX9_chance 54 = .ok (.istore 7, 2) := by decide +kernel
theorem dX9_chance_56 : decode cX9_chance 56 = .ok (.iload 7, 2) := by decide +kernel
theorem dX9_chance_58 : decode cX9_chance 58 = .ok (.iload_n 3, 1) := by decide +kernel
theorem dX9_chance_59 : decode cX9_chance 59 = .ok (.if_icmp .ge 26, 3) := by decide +kernel
theorem dX9_chance_62 : decode cX9_chance 62 = .ok (.aload_n 0, 1) := by decide +kernel
theorem dX9_chance_63 : decode cX9_chance 63 = .ok (.iload_n 1, 1) := by decide +kernel
theorem dX9_chance_64 : decode cX9_chance 64 = .ok (.iload 7, 2) := by decide +kernel
theorem dX9_chance_66 : decode cX9_chance 66 = .ok (.iadd, 1) := by decide +kernel
theorem dX9_chance_67 : decode cX9_chance 67 = .ok (.iload_n 2, 1) := by decide +kernel
theorem dX9_chance_68 : decode cX9_chance 68 = .ok (.invokevirtual 361, 3) := by decide +kernel
theorem dX9_chance_71 : decode cX9_chance 71 = .ok (.iload 4, 2) := by decide +kernel
theorem dX9_chance_73 : decode cX9_chance 73 = .ok (.if_icmp .gt 6, 3) := by decide +kernel
theorem dX9_chance_76 : decode cX9_chance 76 = .ok (.iinc 6 1, 3) := by decide +kernel
theorem dX9_chance_79 : decode cX9_chance 79 = .ok (.iinc 7 1, 3) := by decide +kernel
theorem dX9_chance_82 : decode cX9_chance 82 = .ok (.goto (-26), 3) := by decide +kernel
theorem dX9_chance_85 : decode cX9_chance 85 = .ok (.iload 6, 2) := by decide +kernel
theorem dX9_chance_87 : decode cX9_chance 87 = .ok (.iload_n 3, 1) := by decide +kernel
theorem dX9_chance_88 : decode cX9_chance 88 = .ok (.iload 5, 2) := by decide +kernel
theorem dX9_chance_90 : decode cX9_chance 90 = .ok (.invokestatic 366, 3) := by decide +kernel
theorem dX9_chance_93 : decode cX9_chance 93 = .ok (.lreturn, 1) := by decide +kernel
theorem dX9_mean_0 : decode cX9_mean 0 = .ok (.iload_n 1, 1) := by decide +kernel
theorem dX9_mean_1 : decode cX9_mean 1 = .ok (.iconst 0, 1) := by decide +kernel
theorem dX9_mean_2 : decode cX9_mean 2 = .ok (.iconst 1, 1) := by decide +kernel
theorem dX9_mean_3 : decode cX9_mean 3 = .ok (.invokestatic 66, 3) := by decide +kernel
theorem dX9_mean_6 : decode cX9_mean 6 = .ok (.ifCond .eq 13, 3) := by decide +kernel
theorem dX9_mean_9 : decode cX9_mean 9 = .ok (.aload_n 0, 1) := by decide +kernel
theorem dX9_mean_10 : decode cX9_mean 10 = .ok (.getfield 31, 3) := by decide +kernel
theorem dX9_mean_13 : decode cX9_mean 13 = .ok (.getfield 192, 3) := by decide +kernel
theorem dX9_mean_16 : decode cX9_mean 16 = .ok (.ifCond .ne 7, 3) := by decide +kernel
theorem dX9_mean_19 : decode cX9_mean 19 = .ok (.ldc2_w 364, 3) := by decide +kernel
theorem dX9_mean_22 : decode cX9_mean 22 = .ok (.lreturn, 1) := by decide +kernel
theorem dX9_mean_23 : decode cX9_mean 23 = .ok (.aload_n 0, 1) := by decide +kernel
theorem dX9_mean_24 : decode cX9_mean 24 = .ok (.getfield 31, 3) := by decide +kernel
theorem dX9_mean_27 : decode cX9_mean 27 = .ok (.getfield 345, 3) := by decide +kernel
theorem dX9_mean_30 : decode cX9_mean 30 = .ok (.aload_n 0, 1) := by decide +kernel
theorem dX9_mean_31 : decode cX9_mean 31 = .ok (.getfield 31, 3) := by decide +kernel
theorem dX9_mean_34 : decode cX9_mean 34 = .ok (.getfield 192, 3) := by decide +kernel
theorem dX9_mean_37 : decode cX9_mean 37 = .ok (.iload_n 1, 1) := by decide +kernel
theorem dX9_mean_38 : decode cX9_mean 38 = .ok (.invokestatic 366, 3) := by decide +kernel
theorem dX9_mean_41 : decode cX9_mean 41 = .ok (.lreturn, 1) := by decide +kernel
theorem dX9_plan_0 : decode cX9_plan 0 = .ok (.aload_n 0, 1) := by decide +kernel
theorem dX9_plan_1 : decode cX9_plan 1 = .ok (.getfield 12, 3) := by decide +kernel
theorem dX9_plan_4 : decode cX9_plan 4 = .ok (.getfield 370, 3) := by decide +kernel
theorem dX9_plan_7 : decode cX9_plan 7 = .ok (.astore_n 3, 1) := by decide +kernel
theorem dX9_plan_8 : decode cX9_plan 8 = .ok (.iload_n 1, 1) := by decide +kernel
theorem dX9_plan_9 : decode cX9_plan 9 = .ok (.iconst (-1), 1) := by decide +kernel
theorem dX9_plan_10 : decode cX9_plan 10 = .ok (.if_icmp .ne 10, 3) := by decide +kernel
theorem dX9_plan_13 : decode cX9_plan 13 = .ok (.aload_n 3, 1) := by decide +kernel
theorem dX9_plan_14 : decode cX9_plan 14 = .ok (.iconst 0, 1) := by decide +kernel
theorem dX9_plan_15 : decode cX9_plan 15 = .ok (.putfield 258, 3) := by decide +kernel
theorem dX9_plan_18 : decode cX9_plan 18 = .ok (.iconst 0, 1) := by decide +kernel
theorem dX9_plan_19 : decode cX9_plan 19 = .ok (.ireturn, 1) := by decide +kernel
theorem dX9_plan_20 : decode cX9_plan 20 = .ok (.iload_n 1, 1) := by decide +kernel
theorem dX9_plan_21 : decode cX9_plan 21 = .ok (.iconst 0, 1) := by decide +kernel
theorem dX9_plan_22 : decode cX9_plan 22 = .ok (.iconst 3, 1) := by decide +kernel
theorem dX9_plan_23 : decode cX9_plan 23 = .ok (.invokestatic 66, 3) := by decide +kernel
theorem dX9_plan_26 : decode cX9_plan 26 = .ok (.ifCond .ne 5, 3) := by decide +kernel
theorem dX9_plan_29 : decode cX9_plan 29 = .ok (.iconst (-1), 1) := by decide +kernel
theorem dX9_plan_30 : decode cX9_plan 30 = .ok (.ireturn, 1) := by decide +kernel
theorem dX9_plan_31 : decode cX9_plan 31 = .ok (.iload_n 1, 1) := by decide +kernel
theorem dX9_plan_32 : decode cX9_plan 32 = .ok (.ifCond .ne 8, 3) := by decide +kernel
theorem dX9_plan_35 : decode cX9_plan 35 = .ok (.bipush 99, 2) := by decide +kernel
theorem dX9_plan_37 : decode cX9_plan 37 = .ok (.goto 5, 3) := by decide +kernel
theorem dX9_plan_40 : decode cX9_plan 40 = .ok (.bipush 7, 2) := by decide +kernel
theorem dX9_plan_42 : decode cX9_plan 42 = .ok (.istore 4, 2) := by decide +kernel
theorem dX9_plan_44 : decode cX9_plan 44 = .ok (.iload_n 1, 1) := by decide +kernel
theorem dX9_plan_45 : decode cX9_plan 45 = .ok (.iconst 2, 1) := by decide +kernel
theorem dX9_plan_46 : decode cX9_plan 46 = .ok (.if_icmp .eq 16, 3) := by decide +kernel
theorem dX9_plan_49 : decode cX9_plan 49 = .ok (.iload_n 2, 1) := by decide +kernel
theorem dX9_plan_50 : decode cX9_plan 50 = .ok (.iconst 0, 1) := by decide +kernel
theorem dX9_plan_51 : decode cX9_plan 51 = .ok (.iload 4, 2) := by decide +kernel
theorem dX9_plan_53 : decode cX9_plan 53 = .ok (.invokestatic 66, 3) := by decide +kernel
theorem dX9_plan_56 : decode cX9_plan 56 = .ok (.ifCond .ne 6, 3) := by decide +kernel
theorem dX9_plan_59 : decode cX9_plan 59 = .ok (.bipush (-2), 2) := by decide +kernel
theorem dX9_plan_61 : decode cX9_plan 61 = .ok (.ireturn, 1) := by decide +kernel
theorem dX9_plan_62 : decode cX9_plan 62 = .ok (.aload_n 3, 1) := by decide +kernel
theorem dX9_plan_63 : decode cX9_plan 63 = .ok (.iload_n 1, 1) := by decide +kernel
theorem dX9_plan_64 : decode cX9_plan 64 = .ok (.iload_n 2, 1) := by decide +kernel
theorem dX9_plan_65 : decode cX9_plan 65 = .ok (.iconst 0, 1) := by decide +kernel
theorem dX9_plan_66 : decode cX9_plan 66 = .ok (.invokevirtual 287, 3) := by decide +kernel
theorem dX9_plan_69 : decode cX9_plan 69 = .ok (.ifCond .eq 10, 3) := by decide +kernel
theorem dX9_plan_72 : decode cX9_plan 72 = .ok (.aload_n 3, 1) := by decide +kernel
theorem dX9_plan_73 : decode cX9_plan 73 = .ok (.getfield 258, 3) := by decide +kernel
theorem dX9_plan_76 : decode cX9_plan 76 = .ok (.goto 5, 3) := by decide +kernel
theorem dX9_plan_79 : decode cX9_plan 79 = .ok (.bipush (-4), 2) := by decide +kernel
theorem dX9_plan_81 : decode cX9_plan 81 = .ok (.ireturn, 1) := by decide +kernel
theorem dX9_ends_0 : decode cX9_ends 0 = .ok (.iload_n 1, 1) := by decide +kernel
theorem dX9_ends_1 : decode cX9_ends 1 = .ok (.iconst 0, 1) := by decide +kernel
theorem dX9_ends_2 : decode cX9_ends 2 = .ok (.iconst 1, 1) := by decide +kernel
theorem dX9_ends_3 : decode cX9_ends 3 = .ok (.invokestatic 66, 3) := by decide +kernel
theorem dX9_ends_6 : decode cX9_ends 6 = .ok (.ifCond .ne 5, 3) := by decide +kernel
theorem dX9_ends_9 : decode cX9_ends 9 = .ok (.iconst (-1), 1) := by decide +kernel
theorem dX9_ends_10 : decode cX9_ends 10 = .ok (.ireturn, 1) := by decide +kernel
theorem dX9_ends_11 : decode cX9_ends 11 = .ok (.aload_n 0, 1) := by decide +kernel
theorem dX9_ends_12 : decode cX9_ends 12 = .ok (.aload_n 0, 1) := by decide +kernel
theorem dX9_ends_13 : decode cX9_ends 13 = .ok (.getfield 12, 3) := by decide +kernel
theorem dX9_ends_16 : decode cX9_ends 16 = .ok (.invokevirtual 373, 3) := by decide +kernel
theorem dX9_ends_19 : decode cX9_ends 19 = .ok (.sipush 792, 3) := by decide +kernel
theorem dX9_ends_22 : decode cX9_ends 22 = .ok (.iconst 1, 1) := by decide +kernel
theorem dX9_ends_23 : decode cX9_ends 23 = .ok (.invokevirtual 188, 3) := by decide +kernel
theorem dX9_ends_26 : decode cX9_ends 26 = .ok (.istore_n 2, 1) := by decide +kernel
theorem dX9_ends_27 : decode cX9_ends 27 = .ok (.iload_n 2, 1) := by decide +kernel
theorem dX9_ends_28 : decode cX9_ends 28 = .ok (.ifCond .eq 5, 3) := by decide +kernel
theorem dX9_ends_31 : decode cX9_ends 31 = .ok (.iload_n 2, 1) := by decide +kernel
theorem dX9_ends_32 : decode cX9_ends 32 = .ok (.ireturn, 1) := by decide +kernel
theorem dX9_ends_33 : decode cX9_ends 33 = .ok (.aload_n 0, 1) := by decide +kernel
theorem dX9_ends_34 : decode cX9_ends 34 = .ok (.getfield 24, 3) := by decide +kernel
theorem dX9_ends_37 : decode cX9_ends 37 = .ok (.aload_n 0, 1) := by decide +kernel
theorem dX9_ends_38 : decode cX9_ends 38 = .ok (.getfield 31, 3) := by decide +kernel
theorem dX9_ends_41 : decode cX9_ends 41 = .ok (.invokevirtual 329, 3) := by decide +kernel
theorem dX9_ends_44 : decode cX9_ends 44 = .ok (.iconst 0, 1) := by decide +kernel
theorem dX9_ends_45 : decode cX9_ends 45 = .ok (.istore_n 3, 1) := by decide +kernel
theorem dX9_ends_46 : decode cX9_ends 46 = .ok (.iload_n 3, 1) := by decide +kernel
theorem dX9_ends_47 : decode cX9_ends 47 = .ok (.aload_n 0, 1) := by decide +kernel
theorem dX9_ends_48 : decode cX9_ends 48 = .ok (.getfield 12, 3) := by decide +kernel
theorem dX9_ends_51 : decode cX9_ends 51 = .ok (.getfield 370, 3) := by decide +kernel
theorem dX9_ends_54 : decode cX9_ends 54 = .ok (.getfield 258, 3) := by decide +kernel
theorem dX9_ends_57 : decode cX9_ends 57 = .ok (.if_icmp .ge 40, 3) := by decide +kernel
theorem dX9_ends_60 : decode cX9_ends 60 = .ok (.aload_n 0, 1) := by decide +kernel
theorem dX9_ends_61 : decode cX9_ends 61 = .ok (.getfield 24, 3) := by decide +kernel
theorem dX9_ends_64 : decode cX9_ends 64 = .ok (.aload_n 0, 1) := by decide +kernel
theorem dX9_ends_65 : decode cX9_ends 65 = .ok (.getfield 12, 3) := by decide +kernel
theorem dX9_ends_68 : decode cX9_ends 68 = .ok (.getfield 370, 3) := by decide +kernel
theorem dX9_ends_71 : decode cX9_ends 71 = .ok (.iload_n 3, 1) := by decide +kernel
theorem dX9_ends_72 : decode cX9_ends 72 = .ok (.iconst 0, 1) := by decide +kernel
theorem dX9_ends_73 : decode cX9_ends 73 = .ok (.invokevirtual 261, 3) := by decide +kernel
theorem dX9_ends_76 : decode cX9_ends 76 = .ok (.aload_n 0, 1) := by decide +kernel
theorem dX9_ends_77 : decode cX9_ends 77 = .ok (.getfield 12, 3) := by decide +kernel
theorem dX9_ends_80 : decode cX9_ends 80 = .ok (.getfield 370, 3) := by decide +kernel
theorem dX9_ends_83 : decode cX9_ends 83 = .ok (.iload_n 3, 1) := by decide +kernel
theorem dX9_ends_84 : decode cX9_ends 84 = .ok (.iconst 1, 1) := by decide +kernel
theorem dX9_ends_85 : decode cX9_ends 85 = .ok (.invokevirtual 261, 3) := by decide +kernel
theorem dX9_ends_88 : decode cX9_ends 88 = .ok (.invokevirtual 376, 3) := by decide +kernel
theorem dX9_ends_91 : decode cX9_ends 91 = .ok (.iinc 3 1, 3) := by decide +kernel
theorem dX9_ends_94 : decode cX9_ends 94 = .ok (.goto (-48), 3) := by decide +kernel
theorem dX9_ends_97 : decode cX9_ends 97 = .ok (.iload_n 1, 1) := by decide +kernel
theorem dX9_ends_98 : decode cX9_ends 98 = .ok (.ifCond .ne 13, 3) := by decide +kernel
theorem dX9_ends_101 : decode cX9_ends 101 = .ok (.aload_n 0, 1) := by decide +kernel
theorem dX9_ends_102 : decode cX9_ends 102 = .ok (.getfield 24, 3) := by decide +kernel
theorem dX9_ends_105 : decode cX9_ends 105 = .ok (.getfield 345, 3) := by decide +kernel
theorem dX9_ends_108 : decode cX9_ends 108 = .ok (.goto 10, 3) := by decide +kernel
theorem dX9_ends_111 : decode cX9_ends 111 = .ok (.aload_n 0, 1) := by decide +kernel
theorem dX9_ends_112 : decode cX9_ends 112 = .ok (.getfield 24, 3) := by decide +kernel
theorem dX9_ends_115 : decode cX9_ends 115 = .ok (.getfield 192, 3) := by decide +kernel
theorem dX9_ends_118 : decode cX9_ends 118 = .ok (.ireturn, 1) := by decide +kernel
theorem dX9_judge_0 : decode cX9_judge 0 = .ok (.iload_n 1, 1) := by decide +kernel
theorem dX9_judge_1 : decode cX9_judge 1 = .ok (.iconst 0, 1) := by decide +kernel
theorem dX9_judge_2 : decode cX9_judge 2 = .ok (.iconst 5, 1) := by decide +kernel
theorem dX9_judge_3 : decode cX9_judge 3 = .ok (.invokestatic 66, 3) := by decide +kernel
theorem dX9_judge_6 : decode cX9_judge 6 = .ok (.ifCond .ne 5, 3) := by decide +kernel
theorem dX9_judge_9 : decode cX9_judge 9 = .ok (.iconst (-1), 1) := by decide +kernel
theorem dX9_judge_10 : decode cX9_judge 10 = .ok (.ireturn, 1) := by decide +kernel
theorem dX9_judge_11 : decode cX9_judge 11 = .ok (.aload_n 0, 1) := by decide +kernel
theorem dX9_judge_12 : decode cX9_judge 12 = .ok (.getfield 61, 3) := by decide +kernel
theorem dX9_judge_15 : decode cX9_judge 15 = .ok (.iload_n 1, 1) := by decide +kernel
theorem dX9_judge_16 : decode cX9_judge 16 = .ok (.aaload, 1) := by decide +kernel
theorem dX9_judge_17 : decode cX9_judge 17 = .ok (.astore_n 3, 1) := by decide +kernel
theorem dX9_judge_18 : decode cX9_judge 18 = .ok (.aload_n 3, 1) := by decide +kernel
theorem dX9_judge_19 : decode cX9_judge 19 = .ok (.getfield 380, 3) := by decide +kernel
theorem dX9_judge_22 : decode cX9_judge 22 = .ok (.bipush (-5), 2) := by decide +kernel
theorem dX9_judge_24 : decode cX9_judge 24 = .ok (.if_icmp .eq 13, 3) := by decide +kernel
theorem dX9_judge_27 : decode cX9_judge 27 = .ok (.aload_n 3, 1) := by decide +kernel
theorem dX9_judge_28 : decode cX9_judge 28 = .ok (.getfield 380, 3) := by decide +kernel
theorem dX9_judge_31 : decode cX9_judge 31 = .ok (.ifCond .eq 6, 3) := by decide +kernel
theorem dX9_judge_34 : decode cX9_judge 34 = .ok (.bipush (-12), 2) := by decide +kernel
theorem dX9_judge_36 : decode cX9_judge 36 = .ok (.ireturn, 1) := by decide +kernel
theorem dX9_judge_37 : decode cX9_judge 37 = .ok (.iconst 0, 1) := by decide +kernel
theorem dX9_judge_38 : decode cX9_judge 38 = .ok (.istore 4, 2) := by decide +kernel
theorem dX9_judge_40 : decode cX9_judge 40 = .ok (.iload 4, 2) := by decide +kernel
theorem dX9_judge_42 : decode cX9_judge 42 = .ok (.aload_n 0, 1) := by decide +kernel
theorem dX9_judge_43 : decode cX9_judge 43 = .ok (.getfield 36, 3) := by decide +kernel
theorem dX9_judge_46 : decode cX9_judge 46 = .ok (.getfield 74, 3) := by decide +kernel
theorem dX9_judge_49 : decode cX9_judge 49 = .ok (.if_icmp .ge 52, 3) := by decide +kernel
theorem dX9_judge_52 : decode cX9_judge 52 = .ok (.aload_n 3, 1) := by decide +kernel
theorem dX9_judge_53 : decode cX9_judge 53 = .ok (.iload_n 2, 1) := by decide +kernel
theorem dX9_judge_54 : decode cX9_judge 54 = .ok (.iload 4, 2) := by decide +kernel
theorem dX9_judge_56 : decode cX9_judge 56 = .ok (.iadd, 1) := by decide +kernel
theorem dX9_judge_57 : decode cX9_judge 57 = .ok (.invokevirtual 383, 3) := by decide +kernel
theorem dX9_judge_60 : decode cX9_judge 60 = .ok (.ifCond .ne 9, 3) := by decide +kernel
theorem dX9_judge_63 : decode cX9_judge 63 = .ok (.bipush 100, 2) := by decide +kernel
theorem dX9_judge_65 : decode cX9_judge 65 = .ok (.iload 4, 2) := by decide +kernel
theorem dX9_judge_67 : decode cX9_judge 67 = .ok (.iadd, 1) := by decide +kernel
theorem dX9_judge_68 : decode cX9_judge 68 = .ok (.ireturn, 1) := by decide +kernel
theorem dX9_judge_69 : decode cX9_judge 69 = .ok (.aload_n 3, 1) := by decide +kernel
theorem dX9_judge_70 : decode cX9_judge 70 = .ok (.getfield 386, 3) := by decide +kernel
theorem dX9_judge_73 : decode cX9_judge 73 = .ok (.iload_n 2, 1) := by decide +kernel
theorem dX9_judge_74 : decode cX9_judge 74 = .ok (.iload 4, 2) := by decide +kernel
theorem dX9_judge_76 : decode cX9_judge 76 = .ok (.iadd, 1) := by decide +kernel
theorem dX9_judge_77 : decode cX9_judge 77 = .ok (.laload, 1) := by decide +kernel
theorem dX9_judge_78 : decode cX9_judge 78 = .ok (.aload_n 0, 1) := by decide +kernel
theorem dX9_judge_79 : decode cX9_judge 79 = .ok (.getfield 31, 3) := by decide +kernel
theorem dX9_judge_82 : decode cX9_judge 82 = .ok (.iload 4, 2) := by decide +kernel
theorem dX9_judge_84 : decode cX9_judge 84 = .ok (.invokevirtual 390, 3) := by decide +kernel
theorem dX9_judge_87 : decode cX9_judge 87 = .ok (.i2l, 1) := by decide +kernel
theorem dX9_judge_88 : decode cX9_judge 88 = .ok (.lcmp, 1) := by decide +kernel
theorem dX9_judge_89 : decode cX9_judge 89 = .ok (.ifCond .eq 6, 3) := by decide +kernel
theorem dX9_judge_92 : decode cX9_judge 92 = .ok (.iload 4, 2) := by decide +kernel
theorem dX9_judge_94 : decode cX9_judge 94 = .ok (.ireturn, 1) := by decide +kernel
theorem dX9_judge_95 : decode cX9_judge 95 = .ok (.iinc 4 1, 3) := by decide +kernel
theorem dX9_judge_98 : decode cX9_judge 98 = .ok (.goto (-58), 3) := by decide +kernel
theorem dX9_judge_101 : decode cX9_judge 101 = .ok (.bipush (-5), 2) := by decide +kernel
theorem dX9_judge_103 : decode cX9_judge 103 = .ok (.ireturn, 1) := by decide +kernel
theorem dX9_image_0 : decode cX9_image 0 = .ok (.aload_n 0, 1) := by decide +kernel
theorem dX9_image_1 : decode cX9_image 1 = .ok (.getfield 18, 3) := by decide +kernel
theorem dX9_image_4 : decode cX9_image 4 = .ok (.aload_n 0, 1) := by decide +kernel
theorem dX9_image_5 : decode cX9_image 5 = .ok (.getfield 12, 3) := by decide +kernel
theorem dX9_image_8 : decode cX9_image 8 = .ok (.invokevirtual 393, 3) := by decide +kernel
theorem dX9_image_11 : decode cX9_image 11 = .ok (.aload_n 0, 1) := by decide +kernel
theorem dX9_image_12 : decode cX9_image 12 = .ok (.iconst 1, 1) := by decide +kernel
theorem dX9_image_13 : decode cX9_image 13 = .ok (.putfield 396, 3) := by decide +kernel
theorem dX9_image_16 : decode cX9_image 16 = .ok (.aload_n 0, 1) := by decide +kernel
theorem dX9_image_17 : decode cX9_image 17 = .ok (.getfield 31, 3) := by decide +kernel
theorem dX9_image_20 : decode cX9_image 20 = .ok (.getfield 336, 3) := by decide +kernel
theorem dX9_image_23 : decode cX9_image 23 = .ok (.ireturn, 1) := by decide +kernel
theorem dX9_undo_0 : decode cX9_undo 0 = .ok (.aload_n 0, 1) := by decide +kernel
theorem dX9_undo_1 : decode cX9_undo 1 = .ok (.getfield 396, 3) := by decide +kernel
theorem dX9_undo_4 : decode cX9_undo 4 = .ok (.ifCond .ne 6, 3) := by decide +kernel
theorem dX9_undo_7 : decode cX9_undo 7 = .ok (.bipush (-3), 2) := by decide +kernel
theorem dX9_undo_9 : decode cX9_undo 9 = .ok (.ireturn, 1) := by decide +kernel
theorem dX9_undo_10 : decode cX9_undo 10 = .ok (.aload_n 0, 1) := by decide +kernel
theorem dX9_undo_11 : decode cX9_undo 11 = .ok (.getfield 12, 3) := by decide +kernel
theorem dX9_undo_14 : decode cX9_undo 14 = .ok (.aload_n 0, 1) := by decide +kernel
theorem dX9_undo_15 : decode cX9_undo 15 = .ok (.getfield 18, 3) := by decide +kernel
theorem dX9_undo_18 : decode cX9_undo 18 = .ok (.invokevirtual 393, 3) := by decide +kernel
theorem dX9_undo_21 : decode cX9_undo 21 = .ok (.aload_n 0, 1) := by decide +kernel
theorem dX9_undo_22 : decode cX9_undo 22 = .ok (.getfield 31, 3) := by decide +kernel
theorem dX9_undo_25 : decode cX9_undo 25 = .ok (.getfield 336, 3) := by decide +kernel
theorem dX9_undo_28 : decode cX9_undo 28 = .ok (.ireturn, 1) := by decide +kernel
theorem dX9_count_0 : decode cX9_count 0 = .ok (.iload_n 1, 1) := by decide +kernel
theorem dX9_count_1 : decode cX9_count 1 = .ok (.tableswitch 120 0 7 #[47, 55, 66, 77, 88, 96, 101, 112], 47) := by decide +kernel
theorem dX9_count_48 : decode cX9_count 48 = .ok (.aload_n 0, 1) := by decide +kernel
theorem dX9_count_49 : decode cX9_count 49 = .ok (.getfield 55, 3) := by decide +kernel
theorem dX9_count_52 : decode cX9_count 52 = .ok (.getfield 115, 3) := by decide +kernel
theorem dX9_count_55 : decode cX9_count 55 = .ok (.ireturn, 1) := by decide +kernel
theorem dX9_count_56 : decode cX9_count 56 = .ok (.aload_n 0, 1) := by decide +kernel
theorem dX9_count_57 : decode cX9_count 57 = .ok (.getfield 12, 3) := by decide +kernel
theorem dX9_count_60 : decode cX9_count 60 = .ok (.getfield 348, 3) := by decide +kernel
theorem dX9_count_63 : decode cX9_count 63 = .ok (.getfield 258, 3) := by decide +kernel
theorem dX9_count_66 : decode cX9_count 66 = .ok (.ireturn, 1) := by decide +kernel
theorem dX9_count_67 : decode cX9_count 67 = .ok (.aload_n 0, 1) := by decide +kernel
theorem dX9_count_68 : decode cX9_count 68 = .ok (.getfield 12, 3) := by decide +kernel
theorem dX9_count_71 : decode cX9_count 71 = .ok (.getfield 370, 3) := by decide +kernel
theorem dX9_count_74 : decode cX9_count 74 = .ok (.getfield 258, 3) := by decide +kernel
theorem dX9_count_77 : decode cX9_count 77 = .ok (.ireturn, 1) := by decide +kernel
theorem dX9_count_78 : decode cX9_count 78 = .ok (.aload_n 0, 1) := by decide +kernel
theorem dX9_count_79 : decode cX9_count 79 = .ok (.getfield 12, 3) := by decide +kernel
theorem dX9_count_82 : decode cX9_count 82 = .ok (.getfield 284, 3) := by decide +kernel
theorem dX9_count_85 : decode cX9_count 85 = .ok (.getfield 258, 3) := by decide +kernel
theorem dX9_count_88 : decode cX9_count 88 = .ok (.ireturn, 1) := by decide +kernel
theorem dX9_count_89 : decode cX9_count 89 = .ok (.aload_n 0, 1) := by decide +kernel
theorem dX9_count_90 : decode cX9_count 90 = .ok (.getfield 51, 3) := by decide +kernel
theorem dX9_count_93 : decode cX9_count 93 = .ok (.getfield 297, 3) := by decide +kernel
theorem dX9_count_96 : decode cX9_count 96 = .ok (.ireturn, 1) := by decide +kernel
theorem dX9_count_97 : decode cX9_count 97 = .ok (.aload_n 0, 1) := by decide +kernel
theorem dX9_count_98 : decode cX9_count 98 = .ok (.getfield 399, 3) := by decide +kernel
theorem dX9_count_101 : decode cX9_count 101 = .ok (.ireturn, 1) := by decide +kernel
theorem dX9_count_102 : decode cX9_count 102 = .ok (.aload_n 0, 1) := by decide +kernel
theorem dX9_count_103 : decode cX9_count 103 = .ok (.getfield 31, 3) := by decide +kernel
theorem dX9_count_106 : decode cX9_count 106 = .ok (.getfield 254, 3) := by decide +kernel
theorem dX9_count_109 : decode cX9_count 109 = .ok (.getfield 258, 3) := by decide +kernel
theorem dX9_count_112 : decode cX9_count 112 = .ok (.ireturn, 1) := by decide +kernel
theorem dX9_count_113 : decode cX9_count 113 = .ok (.aload_n 0, 1) := by decide +kernel
theorem dX9_count_114 : decode cX9_count 114 = .ok (.getfield 51, 3) := by decide +kernel
theorem dX9_count_117 : decode cX9_count 117 = .ok (.getfield 292, 3) := by decide +kernel
theorem dX9_count_120 : decode cX9_count 120 = .ok (.ireturn, 1) := by decide +kernel
theorem dX9_count_121 : decode cX9_count 121 = .ok (.bipush (-2), 2) := by decide +kernel
theorem dX9_count_123 : decode cX9_count 123 = .ok (.ireturn, 1) := by decide +kernel
theorem dX9_tape_0 : decode cX9_tape 0 = .ok (.iload_n 1, 1) := by decide +kernel
theorem dX9_tape_1 : decode cX9_tape 1 = .ok (.iconst 0, 1) := by decide +kernel
theorem dX9_tape_2 : decode cX9_tape 2 = .ok (.iconst 5, 1) := by decide +kernel
theorem dX9_tape_3 : decode cX9_tape 3 = .ok (.invokestatic 66, 3) := by decide +kernel
theorem dX9_tape_6 : decode cX9_tape 6 = .ok (.ifCond .ne 5, 3) := by decide +kernel
theorem dX9_tape_9 : decode cX9_tape 9 = .ok (.iconst (-1), 1) := by decide +kernel
theorem dX9_tape_10 : decode cX9_tape 10 = .ok (.ireturn, 1) := by decide +kernel
theorem dX9_tape_11 : decode cX9_tape 11 = .ok (.iload_n 2, 1) := by decide +kernel
theorem dX9_tape_12 : decode cX9_tape 12 = .ok (.iconst (-1), 1) := by decide +kernel
theorem dX9_tape_13 : decode cX9_tape 13 = .ok (.if_icmp .ne 14, 3) := by decide +kernel
theorem dX9_tape_16 : decode cX9_tape 16 = .ok (.aload_n 0, 1) := by decide +kernel
theorem dX9_tape_17 : decode cX9_tape 17 = .ok (.getfield 61, 3) := by decide +kernel
theorem dX9_tape_20 : decode cX9_tape 20 = .ok (.iload_n 1, 1) := by decide +kernel
theorem dX9_tape_21 : decode cX9_tape 21 = .ok (.aaload, 1) := by decide +kernel
theorem dX9_tape_22 : decode cX9_tape 22 = .ok (.invokevirtual 402, 3) := by decide +kernel
theorem dX9_tape_25 : decode cX9_tape 25 = .ok (.iconst 1, 1) := by decide +kernel
theorem dX9_tape_26 : decode cX9_tape 26 = .ok (.ireturn, 1) := by decide +kernel
theorem dX9_tape_27 : decode cX9_tape 27 = .ok (.iload_n 2, 1) := by decide +kernel
theorem dX9_tape_28 : decode cX9_tape 28 = .ok (.iconst 0, 1) := by decide +kernel
theorem dX9_tape_29 : decode cX9_tape 29 = .ok (.iconst 4, 1) := by decide +kernel
theorem dX9_tape_30 : decode cX9_tape 30 = .ok (.invokestatic 66, 3) := by decide +kernel
theorem dX9_tape_33 : decode cX9_tape 33 = .ok (.ifCond .eq 9, 3) := by decide +kernel
theorem dX9_tape_36 : decode cX9_tape 36 = .ok (.iload_n 3, 1) := by decide +kernel
theorem dX9_tape_37 : decode cX9_tape 37 = .ok (.bipush 60, 2) := by decide +kernel
theorem dX9_tape_39 : decode cX9_tape 39 = .ok (.if_icmp .le 6, 3) := by decide +kernel
theorem dX9_tape_42 : decode cX9_tape 42 = .ok (.bipush (-2), 2) := by decide +kernel
theorem dX9_tape_44 : decode cX9_tape 44 = .ok (.ireturn, 1) := by decide +kernel
theorem dX9_tape_45 : decode cX9_tape 45 = .ok (.iload_n 3, 1) := by decide +kernel
theorem dX9_tape_46 : decode cX9_tape 46 = .ok (.ifCond .ge 6, 3) := by decide +kernel
theorem dX9_tape_49 : decode cX9_tape 49 = .ok (.bipush (-14), 2) := by decide +kernel
theorem dX9_tape_51 : decode cX9_tape 51 = .ok (.ireturn, 1) := by decide +kernel
theorem dX9_tape_52 : decode cX9_tape 52 = .ok (.aload_n 0, 1) := by decide +kernel
theorem dX9_tape_53 : decode cX9_tape 53 = .ok (.getfield 61, 3) := by decide +kernel
theorem dX9_tape_56 : decode cX9_tape 56 = .ok (.iload_n 1, 1) := by decide +kernel
theorem dX9_tape_57 : decode cX9_tape 57 = .ok (.aaload, 1) := by decide +kernel
theorem dX9_tape_58 : decode cX9_tape 58 = .ok (.iload_n 2, 1) := by decide +kernel
theorem dX9_tape_59 : decode cX9_tape 59 = .ok (.iload_n 3, 1) := by decide +kernel
theorem dX9_tape_60 : decode cX9_tape 60 = .ok (.invokevirtual 405, 3) := by decide +kernel
theorem dX9_tape_63 : decode cX9_tape 63 = .ok (.iconst 1, 1) := by decide +kernel
theorem dX9_tape_64 : decode cX9_tape 64 = .ok (.ireturn, 1) := by decide +kernel
theorem dX9_item_0 : decode cX9_item 0 = .ok (.iload_n 1, 1) := by decide +kernel
theorem dX9_item_1 : decode cX9_item 1 = .ok (.iconst 0, 1) := by decide +kernel
theorem dX9_item_2 : decode cX9_item 2 = .ok (.iconst 5, 1) := by decide +kernel
theorem dX9_item_3 : decode cX9_item 3 = .ok (.invokestatic 66, 3) := by decide +kernel
theorem dX9_item_6 : decode cX9_item 6 = .ok (.ifCond .ne 5, 3) := by decide +kernel
theorem dX9_item_9 : decode cX9_item 9 = .ok (.iconst (-1), 1) := by decide +kernel
theorem dX9_item_10 : decode cX9_item 10 = .ok (.ireturn, 1) := by decide +kernel
theorem dX9_item_11 : decode cX9_item 11 = .ok (.aload_n 0, 1) := by decide +kernel
theorem dX9_item_12 : decode cX9_item 12 = .ok (.getfield 61, 3) := by decide +kernel
theorem dX9_item_15 : decode cX9_item 15 = .ok (.iload_n 1, 1) := by decide +kernel
theorem dX9_item_16 : decode cX9_item 16 = .ok (.aaload, 1) := by decide +kernel
theorem dX9_item_17 : decode cX9_item 17 = .ok (.astore 5, 2) := by decide +kernel
theorem dX9_item_19 : decode cX9_item 19 = .ok (.aload 5, 2) := by decide +kernel
theorem dX9_item_21 : decode cX9_item 21 = .ok (.getfield 380, 3) := by decide +kernel
theorem dX9_item_24 : decode cX9_item 24 = .ok (.bipush (-5), 2) := by decide +kernel
theorem dX9_item_26 : decode cX9_item 26 = .ok (.if_icmp .ne 6, 3) := by decide +kernel
theorem dX9_item_29 : decode cX9_item 29 = .ok (.bipush (-11), 2) := by decide +kernel
theorem dX9_item_31 : decode cX9_item 31 = .ok (.ireturn, 1) := by decide +kernel
theorem dX9_item_32 : decode cX9_item 32 = .ok (.aload 5, 2) := by decide +kernel
theorem dX9_item_34 : decode cX9_item 34 = .ok (.iload_n 2, 1) := by decide +kernel
theorem dX9_item_35 : decode cX9_item 35 = .ok (.invokevirtual 383, 3) := by decide +kernel
theorem dX9_item_38 : decode cX9_item 38 = .ok (.ifCond .ne 6, 3) := by decide +kernel
theorem dX9_item_41 : decode cX9_item 41 = .ok (.bipush (-13), 2) := by decide +kernel
theorem dX9_item_43 : decode cX9_item 43 = .ok (.ireturn, 1) := by decide +kernel
theorem dX9_item_44 : decode cX9_item 44 = .ok (.aload 5, 2) := by decide +kernel
theorem dX9_item_46 : decode cX9_item 46 = .ok (.getfield 386, 3) := by decide +kernel
theorem dX9_item_49 : decode cX9_item 49 = .ok (.iload_n 2, 1) := by decide +kernel
theorem dX9_item_50 : decode cX9_item 50 = .ok (.aload 5, 2) := by decide +kernel
theorem dX9_item_52 : decode cX9_item 52 = .ok (.lload_n 3, 1) := by decide +kernel
theorem dX9_item_53 : decode cX9_item 53 = .ok (.invokevirtual 408, 3) := by decide +kernel
theorem dX9_item_56 : decode cX9_item 56 = .ok (.lastore, 1) := by decide +kernel
theorem dX9_item_57 : decode cX9_item 57 = .ok (.iconst 1, 1) := by decide +kernel
theorem dX9_item_58 : decode cX9_item 58 = .ok (.ireturn, 1) := by decide +kernel
theorem dX9_peek_0 : decode cX9_peek 0 = .ok (.iload_n 1, 1) := by decide +kernel
theorem dX9_peek_1 : decode cX9_peek 1 = .ok (.iconst 0, 1) := by decide +kernel
theorem dX9_peek_2 : decode cX9_peek 2 = .ok (.iconst 5, 1) := by decide +kernel
theorem dX9_peek_3 : decode cX9_peek 3 = .ok (.invokestatic 66, 3) := by decide +kernel
theorem dX9_peek_6 : decode cX9_peek 6 = .ok (.ifCond .eq 16, 3) := by decide +kernel
theorem dX9_peek_9 : decode cX9_peek 9 = .ok (.aload_n 0, 1) := by decide +kernel
theorem dX9_peek_10 : decode cX9_peek 10 = .ok (.getfield 61, 3) := by decide +kernel
theorem dX9_peek_13 : decode cX9_peek 13 = .ok (.iload_n 1, 1) := by decide +kernel
theorem dX9_peek_14 : decode cX9_peek 14 = .ok (.aaload, 1) := by decide +kernel
theorem dX9_peek_15 : decode cX9_peek 15 = .ok (.iload_n 2, 1) := by decide +kernel
theorem dX9_peek_16 : decode cX9_peek 16 = .ok (.invokevirtual 383, 3) := by decide +kernel
theorem dX9_peek_19 : decode cX9_peek 19 = .ok (.ifCond .ne 7, 3) := by decide +kernel
theorem dX9_peek_22 : decode cX9_peek 22 = .ok (.ldc2_w 364, 3) := by decide +kernel
theorem dX9_peek_25 : decode cX9_peek 25 = .ok (.lreturn, 1) := by decide +kernel
theorem dX9_peek_26 : decode cX9_peek 26 = .ok (.aload_n 0, 1) := by decide +kernel
theorem dX9_peek_27 : decode cX9_peek 27 = .ok (.getfield 61, 3) := by decide +kernel
theorem dX9_peek_30 : decode cX9_peek 30 = .ok (.iload_n 1, 1) := by decide +kernel
theorem dX9_peek_31 : decode cX9_peek 31 = .ok (.aaload, 1) := by decide +kernel
theorem dX9_peek_32 : decode cX9_peek 32 = .ok (.getfield 386, 3) := by decide +kernel
theorem dX9_peek_35 : decode cX9_peek 35 = .ok (.iload_n 2, 1) := by decide +kernel
theorem dX9_peek_36 : decode cX9_peek 36 = .ok (.laload, 1) := by decide +kernel
theorem dX9_peek_37 : decode cX9_peek 37 = .ok (.lreturn, 1) := by decide +kernel
theorem dX9_shift_0 : decode cX9_shift 0 = .ok (.iload_n 1, 1) := by decide +kernel
theorem dX9_shift_1 : decode cX9_shift 1 = .ok (.iconst 0, 1) := by decide +kernel
theorem dX9_shift_2 : decode cX9_shift 2 = .ok (.iconst 5, 1) := by decide +kernel
theorem dX9_shift_3 : decode cX9_shift 3 = .ok (.invokestatic 66, 3) := by decide +kernel
theorem dX9_shift_6 : decode cX9_shift 6 = .ok (.ifCond .eq 12, 3) := by decide +kernel
theorem dX9_shift_9 : decode cX9_shift 9 = .ok (.iload_n 3, 1) := by decide +kernel
theorem dX9_shift_10 : decode cX9_shift 10 = .ok (.iconst 0, 1) := by decide +kernel
theorem dX9_shift_11 : decode cX9_shift 11 = .ok (.iconst 5, 1) := by decide +kernel
theorem dX9_shift_12 : decode cX9_shift 12 = .ok (.invokestatic 66, 3) := by decide +kernel
theorem dX9_shift_15 : decode cX9_shift 15 = .ok (.ifCond .ne 5, 3) := by decide +kernel
theorem dX9_shift_18 : decode cX9_shift 18 = .ok (.iconst (-1), 1) := by decide +kernel
theorem dX9_shift_19 : decode cX9_shift 19 = .ok (.ireturn, 1) := by decide +kernel
theorem dX9_shift_20 : decode cX9_shift 20 = .ok (.aload_n 0, 1) := by decide +kernel
theorem dX9_shift_21 : decode cX9_shift 21 = .ok (.getfield 61, 3) := by decide +kernel
theorem dX9_shift_24 : decode cX9_shift 24 = .ok (.iload_n 1, 1) := by decide +kernel
theorem dX9_shift_25 : decode cX9_shift 25 = .ok (.aaload, 1) := by decide +kernel
theorem dX9_shift_26 : decode cX9_shift 26 = .ok (.astore 6, 2) := by decide +kernel
theorem dX9_shift_28 : decode cX9_shift 28 = .ok (.aload_n 0, 1) := by decide +kernel
theorem dX9_shift_29 : decode cX9_shift 29 = .ok (.getfield 61, 3) := by decide +kernel
theorem dX9_shift_32 : decode cX9_shift 32 = .ok (.iload_n 3, 1) := by decide +kernel
theorem dX9_shift_33 : decode cX9_shift 33 = .ok (.aaload, 1) := by decide +kernel
theorem dX9_shift_34 : decode cX9_shift 34 = .ok (.astore 7, 2) := by decide +kernel
theorem dX9_shift_36 : decode cX9_shift 36 = .ok (.aload 6, 2) := by decide +kernel
theorem dX9_shift_38 : decode cX9_shift 38 = .ok (.getfield 380, 3) := by decide +kernel
theorem dX9_shift_41 : decode cX9_shift 41 = .ok (.bipush (-5), 2) := by decide +kernel
theorem dX9_shift_43 : decode cX9_shift 43 = .ok (.if_icmp .eq 13, 3) := by decide +kernel
theorem dX9_shift_46 : decode cX9_shift 46 = .ok (.aload 7, 2) := by decide +kernel
theorem dX9_shift_48 : decode cX9_shift 48 = .ok (.getfield 380, 3) := by decide +kernel
theorem dX9_shift_51 : decode cX9_shift 51 = .ok (.bipush (-5), 2) := by decide +kernel
theorem dX9_shift_53 : decode cX9_shift 53 = .ok (.if_icmp .ne 6, 3) := by decide +kernel
theorem dX9_shift_56 : decode cX9_shift 56 = .ok (.bipush (-11), 2) := by decide +kernel
theorem dX9_shift_58 : decode cX9_shift 58 = .ok (.ireturn, 1) := by decide +kernel
theorem dX9_shift_59 : decode cX9_shift 59 = .ok (.aload 6, 2) := by decide +kernel
theorem dX9_shift_61 : decode cX9_shift 61 = .ok (.getfield 380, 3) := by decide +kernel
theorem dX9_shift_64 : decode cX9_shift 64 = .ok (.aload 7, 2) := by decide +kernel
theorem dX9_shift_66 : decode cX9_shift 66 = .ok (.getfield 380, 3) := by decide +kernel
theorem dX9_shift_69 : decode cX9_shift 69 = .ok (.if_icmp .eq 6, 3) := by decide +kernel
theorem dX9_shift_72 : decode cX9_shift 72 = .ok (.bipush (-12), 2) := by decide +kernel
theorem dX9_shift_74 : decode cX9_shift 74 = .ok (.ireturn, 1) := by decide +kernel
theorem dX9_shift_75 : decode cX9_shift 75 = .ok (.aload 6, 2) := by decide +kernel
theorem dX9_shift_77 : decode cX9_shift 77 = .ok (.iload_n 2, 1) := by decide +kernel
theorem dX9_shift_78 : decode cX9_shift 78 = .ok (.iload 5, 2) := by decide +kernel
theorem dX9_shift_80 : decode cX9_shift 80 = .ok (.invokevirtual 412, 3) := by decide +kernel
theorem dX9_shift_83 : decode cX9_shift 83 = .ok (.ifCond .eq 15, 3) := by decide +kernel
theorem dX9_shift_86 : decode cX9_shift 86 = .ok (.aload 7, 2) := by decide +kernel
theorem dX9_shift_88 : decode cX9_shift 88 = .ok (.iload 4, 2) := by decide +kernel
theorem dX9_shift_90 : decode cX9_shift 90 = .ok (.iload 5, 2) := by decide +kernel
theorem dX9_shift_92 : decode cX9_shift 92 = .ok (.invokevirtual 412, 3) := by decide +kernel
theorem dX9_shift_95 : decode cX9_shift 95 = .ok (.ifCond .ne 6, 3) := by decide +kernel
theorem dX9_shift_98 : decode cX9_shift 98 = .ok (.bipush (-13), 2) := by decide +kernel
theorem dX9_shift_100 : decode cX9_shift 100 = .ok (.ireturn, 1) := by decide +kernel
theorem dX9_shift_101 : decode cX9_shift 101 = .ok (.aload 6, 2) := by decide +kernel
theorem dX9_shift_103 : decode cX9_shift 103 = .ok (.getfield 386, 3) := by decide +kernel
theorem dX9_shift_106 : decode cX9_shift 106 = .ok (.iload_n 2, 1) := by decide +kernel
theorem dX9_shift_107 : decode cX9_shift 107 = .ok (.aload 7, 2) := by decide +kernel
theorem dX9_shift_109 : decode cX9_shift 109 = .ok (.getfield 386, 3) := by decide +kernel
theorem dX9_shift_112 : decode cX9_shift 112 = .ok (.iload 4, 2) := by decide +kernel
theorem dX9_shift_114 : decode cX9_shift 114 = .ok (.iload 5, 2) := by decide +kernel
theorem dX9_shift_116 : decode cX9_shift 116 = .ok (.invokestatic 415, 3) := by decide +kernel
theorem dX9_shift_119 : decode cX9_shift 119 = .ok (.iload 5, 2) := by decide +kernel
theorem dX9_shift_121 : decode cX9_shift 121 = .ok (.ireturn, 1) := by decide +kernel
theorem dX9_within_0 : decode cX9_within 0 = .ok (.iload_n 1, 1) := by decide +kernel
theorem dX9_within_1 : decode cX9_within 1 = .ok (.iload_n 0, 1) := by decide +kernel
theorem dX9_within_2 : decode cX9_within 2 = .ok (.if_icmp .gt 12, 3) := by decide +kernel
theorem dX9_within_5 : decode cX9_within 5 = .ok (.iload_n 0, 1) := by decide +kernel
theorem dX9_within_6 : decode cX9_within 6 = .ok (.iload_n 2, 1) := by decide +kernel
theorem dX9_within_7 : decode cX9_within 7 = .ok (.if_icmp .gt 7, 3) := by decide +kernel
theorem dX9_within_10 : decode cX9_within 10 = .ok (.iconst 1, 1) := by decide +kernel
theorem dX9_within_11 : decode cX9_within 11 = .ok (.goto 4, 3) := by decide +kernel
theorem dX9_within_14 : decode cX9_within 14 = .ok (.iconst 0, 1) := by decide +kernel
theorem dX9_within_15 : decode cX9_within 15 = .ok (.ireturn, 1) := by decide +kernel
theorem dX9_isIn_0 : decode cX9_isIn 0 = .ok (.iload_n 0, 1) := by decide +kernel
theorem dX9_isIn_1 : decode cX9_isIn 1 = .ok (.iload_n 1, 1) := by decide +kernel
theorem dX9_isIn_2 : decode cX9_isIn 2 = .ok (.ishr, 1) := by decide +kernel
theorem dX9_isIn_3 : decode cX9_isIn 3 = .ok (.iconst 1, 1) := by decide +kernel
theorem dX9_isIn_4 : decode cX9_isIn 4 = .ok (.iand, 1) := by decide +kernel
theorem dX9_isIn_5 : decode cX9_isIn 5 = .ok (.ifCond .eq 7, 3) := by decide +kernel
theorem dX9_isIn_8 : decode cX9_isIn 8 = .ok (.iconst 1, 1) := by decide +kernel
theorem dX9_isIn_9 : decode cX9_isIn 9 = .ok (.goto 4, 3) := by decide +kernel
theorem dX9_isIn_12 : decode cX9_isIn 12 = .ok (.iconst 0, 1) := by decide +kernel
theorem dX9_isIn_13 : decode cX9_isIn 13 = .ok (.ireturn, 1) := by decide +kernel
theorem dX9_isSignal_0 : decode cX9_isSignal 0 = .ok (.iload_n 1, 1) := by decide +kernel
theorem dX9_isSignal_1 : decode cX9_isSignal 1 = .ok (.iconst 0, 1) := by decide +kernel
theorem dX9_isSignal_2 : decode cX9_isSignal 2 = .ok (.aload_n 0, 1) := by decide +kernel
theorem dX9_isSignal_3 : decode cX9_isSignal 3 = .ok (.getfield 36, 3) := by decide +kernel
theorem dX9_isSignal_6 : decode cX9_isSignal 6 = .ok (.getfield 74, 3) := by decide +kernel
theorem dX9_isSignal_9 : decode cX9_isSignal 9 = .ok (.iconst 1, 1) := by decide +kernel
theorem dX9_isSignal_10 : decode cX9_isSignal 10 = .ok (.isub, 1) := by decide +kernel
theorem dX9_isSignal_11 : decode cX9_isSignal 11 = .ok (.invokestatic 66, 3) := by decide +kernel
theorem dX9_isSignal_14 : decode cX9_isSignal 14 = .ok (.ireturn, 1) := by decide +kernel
theorem dX9_refusalOf_0 : decode cX9_refusalOf 0 = .ok (.iload_n 1, 1) := by decide +kernel
theorem dX9_refusalOf_1 : decode cX9_refusalOf 1 = .ok (.iconst 0, 1) := by decide +kernel
theorem dX9_refusalOf_2 : decode cX9_refusalOf 2 = .ok (.iload_n 2, 1) := by decide +kernel
theorem dX9_refusalOf_3 : decode cX9_refusalOf 3 = .ok (.invokestatic 66, 3) := by decide +kernel
theorem dX9_refusalOf_6 : decode cX9_refusalOf 6 = .ok (.ifCond .ne 6, 3) := by decide +kernel
theorem dX9_refusalOf_9 : decode cX9_refusalOf 9 = .ok (.bipush (-2), 2) := by decide +kernel
theorem dX9_refusalOf_11 : decode cX9_refusalOf 11 = .ok (.ireturn, 1) := by decide +kernel
theorem dX9_refusalOf_12 : decode cX9_refusalOf 12 = .ok (.aload_n 0, 1) := by decide +kernel
theorem dX9_refusalOf_13 : decode cX9_refusalOf 13 = .ok (.getfield 31, 3) := by decide +kernel
theorem dX9_refusalOf_16 : decode cX9_refusalOf 16 = .ok (.getfield 70, 3) := by decide +kernel
theorem dX9_refusalOf_19 : decode cX9_refusalOf 19 = .ok (.ifCond .ne 6, 3) := by decide +kernel
theorem dX9_refusalOf_22 : decode cX9_refusalOf 22 = .ok (.bipush (-3), 2) := by decide +kernel
theorem dX9_refusalOf_24 : decode cX9_refusalOf 24 = .ok (.ireturn, 1) := by decide +kernel
theorem dX9_refusalOf_25 : decode cX9_refusalOf 25 = .ok (.aload_n 0, 1) := by decide +kernel
theorem dX9_refusalOf_26 : decode cX9_refusalOf 26 = .ok (.iload_n 1, 1) := by decide +kernel
theorem dX9_refusalOf_27 : decode cX9_refusalOf 27 = .ok (.iload_n 3, 1) := by decide +kernel
theorem dX9_refusalOf_28 : decode cX9_refusalOf 28 = .ok (.imul, 1) := by decide +kernel
theorem dX9_refusalOf_29 : decode cX9_refusalOf 29 = .ok (.invokevirtual 317, 3) := by decide +kernel
theorem dX9_refusalOf_32 : decode cX9_refusalOf 32 = .ok (.ifCond .eq 7, 3) := by decide +kernel
theorem dX9_refusalOf_35 : decode cX9_refusalOf 35 = .ok (.iconst 0, 1) := by decide +kernel
theorem dX9_refusalOf_36 : decode cX9_refusalOf 36 = .ok (.goto 5, 3) := by decide +kernel
theorem dX9_refusalOf_39 : decode cX9_refusalOf 39 = .ok (.bipush (-4), 2) := by decide +kernel
theorem dX9_refusalOf_41 : decode cX9_refusalOf 41 = .ok (.ireturn, 1) := by decide +kernel
theorem dX9_takeSeconds_0 : decode cX9_takeSeconds 0 = .ok (.aload_n 0, 1) := by decide +kernel
theorem dX9_takeSeconds_1 : decode cX9_takeSeconds 1 = .ok (.getfield 399, 3) := by decide +kernel
theorem dX9_takeSeconds_4 : decode cX9_takeSeconds 4 = .ok (.iload_n 1, 1) := by decide +kernel
theorem dX9_takeSeconds_5 : decode cX9_takeSeconds 5 = .ok (.iadd, 1) := by decide +kernel
theorem dX9_takeSeconds_6 : decode cX9_takeSeconds 6 = .ok (.sipush 12000, 3) := by decide +kernel
theorem dX9_takeSeconds_9 : decode cX9_takeSeconds 9 = .ok (.if_icmp .le 5, 3) := by decide +kernel
theorem dX9_takeSeconds_12 : decode cX9_takeSeconds 12 = .ok (.iconst 0, 1) := by decide +kernel
theorem dX9_takeSeconds_13 : decode cX9_takeSeconds 13 = .ok (.ireturn, 1) := by decide +kernel
theorem dX9_takeSeconds_14 : decode cX9_takeSeconds 14 = .ok (.aload_n 0, 1) := by decide +kernel
theorem dX9_takeSeconds_15 : decode cX9_takeSeconds 15 = .ok (.dup, 1) := by decide +kernel
theorem dX9_takeSeconds_16 : decode cX9_takeSeconds 16 = .ok (.getfield 399, 3) := by decide +kernel
theorem dX9_takeSeconds_19 : decode cX9_takeSeconds 19 = .ok (.iload_n 1, 1) := by decide +kernel
theorem dX9_takeSeconds_20 : decode cX9_takeSeconds 20 = .ok (.iadd, 1) := by decide +kernel
theorem dX9_takeSeconds_21 : decode cX9_takeSeconds 21 = .ok (.putfield 399, 3) := by decide +kernel
theorem dX9_takeSeconds_24 : decode cX9_takeSeconds 24 = .ok (.iconst 1, 1) := by decide +kernel
theorem dX9_takeSeconds_25 : decode cX9_takeSeconds 25 = .ok (.ireturn, 1) := by decide +kernel
theorem dX9_partOfFraction_0 : decode cX9_partOfFraction 0 = .ok (.iload_n 0, 1) := by decide +kernel
theorem dX9_partOfFraction_1 : decode cX9_partOfFraction 1 = .ok (.iload_n 1, 1) := by decide +kernel
theorem dX9_partOfFraction_2 : decode cX9_partOfFraction 2 = .ok (.invokestatic 421, 3) := by decide +kernel
theorem dX9_partOfFraction_5 : decode cX9_partOfFraction 5 = .ok (.istore_n 3, 1) := by decide +kernel
theorem dX9_partOfFraction_6 : decode cX9_partOfFraction 6 = .ok (.iload_n 3, 1) := by decide +kernel
theorem dX9_partOfFraction_7 : decode cX9_partOfFraction 7 = .ok (.ifCond .ne 7, 3) := by decide +kernel
theorem dX9_partOfFraction_10 : decode cX9_partOfFraction 10 = .ok (.ldc2_w 364, 3) := by decide +kernel
theorem dX9_partOfFraction_13 : decode cX9_partOfFraction 13 = .ok (.lreturn, 1) := by decide +kernel
theorem dX9_partOfFraction_14 : decode cX9_partOfFraction 14 = .ok (.iload_n 2, 1) := by decide +kernel
theorem dX9_partOfFraction_15 : decode cX9_partOfFraction 15 = .ok (.ifCond .ne 7, 3) := by decide +kernel
theorem dX9_partOfFraction_18 : decode cX9_partOfFraction 18 = .ok (.iload_n 0, 1) := by decide +kernel
theorem dX9_partOfFraction_19 : decode cX9_partOfFraction 19 = .ok (.goto 4, 3) := by decide +kernel
theorem dX9_partOfFraction_22 : decode cX9_partOfFraction 22 = .ok (.iload_n 1, 1) := by decide +kernel
theorem dX9_partOfFraction_23 : decode cX9_partOfFraction 23 = .ok (.iload_n 3, 1) := by decide +kernel
theorem dX9_partOfFraction_24 : decode cX9_partOfFraction 24 = .ok (.idiv, 1) := by decide +kernel
theorem dX9_partOfFraction_25 : decode cX9_partOfFraction 25 = .ok (.i2l, 1) := by decide +kernel
theorem dX9_partOfFraction_26 : decode cX9_partOfFraction 26 = .ok (.lreturn, 1) := by decide +kernel
theorem dX9_greatestDivisor_0 : decode cX9_greatestDivisor 0 = .ok (.iload_n 0, 1) := by decide +kernel
theorem dX9_greatestDivisor_1 : decode cX9_greatestDivisor 1 = .ok (.istore_n 2, 1) := by decide +kernel
theorem dX9_greatestDivisor_2 : decode cX9_greatestDivisor 2 = .ok (.iload_n 1, 1) := by decide +kernel
theorem dX9_greatestDivisor_3 : decode cX9_greatestDivisor 3 = .ok (.istore_n 3, 1) := by decide +kernel
theorem dX9_greatestDivisor_4 : decode cX9_greatestDivisor 4 = .ok (.iconst 0, 1) := by decide +kernel
theorem dX9_greatestDivisor_5 : decode cX9_greatestDivisor 5 = .ok (.istore 4, 2) := by decide +kernel
theorem dX9_greatestDivisor_7 : decode cX9_greatestDivisor 7 = .ok (.iload 4, 2) := by decide +kernel
theorem dX9_greatestDivisor_9 : decode cX9_greatestDivisor 9 = .ok (.bipush 64, 2) := by decide +kernel
theorem dX9_greatestDivisor_11 : decode cX9_greatestDivisor 11 = .ok (.if_icmp .ge 23, 3) := by decide +kernel
theorem dX9_greatestDivisor_14 : decode cX9_greatestDivisor 14 = .ok (.iload_n 3, 1) := by decide +kernel
theorem dX9_greatestDivisor_15 : decode cX9_greatestDivisor 15 = .ok (.ifCond .eq 19, 3) := by decide +kernel
theorem dX9_greatestDivisor_18 : decode cX9_greatestDivisor 18 = .ok (.iload_n 2, 1) := by decide +kernel
theorem dX9_greatestDivisor_19 : decode cX9_greatestDivisor 19 = .ok (.iload_n 3, 1) := by decide +kernel
theorem dX9_greatestDivisor_20 : decode cX9_greatestDivisor 20 = .ok (.irem, 1) := by decide +kernel
theorem dX9_greatestDivisor_21 : decode cX9_greatestDivisor 21 = .ok (.istore 5, 2) := by decide +kernel
theorem dX9_greatestDivisor_23 : decode cX9_greatestDivisor 23 = .ok (.iload_n 3, 1) := by decide +kernel
theorem dX9_greatestDivisor_24 : decode cX9_greatestDivisor 24 = .ok (.istore_n 2, 1) := by decide +kernel
theorem dX9_greatestDivisor_25 : decode cX9_greatestDivisor 25 = .ok (.iload 5, 2) := by decide +kernel
theorem dX9_greatestDivisor_27 : decode cX9_greatestDivisor 27 = .ok (.istore_n 3, 1) := by decide +kernel
theorem dX9_greatestDivisor_28 : decode cX9_greatestDivisor 28 = .ok (.iinc 4 1, 3) := by decide +kernel
theorem dX9_greatestDivisor_31 : decode cX9_greatestDivisor 31 = .ok (.goto (-24), 3) := by decide +kernel
theorem dX9_greatestDivisor_34 : decode cX9_greatestDivisor 34 = .ok (.iload_n 2, 1) := by decide +kernel
theorem dX9_greatestDivisor_35 : decode cX9_greatestDivisor 35 = .ok (.ireturn, 1) := by decide +kernel
theorem dX10_init_0 : decode cX10_init 0 = .ok (.aload_n 0, 1) := by decide +kernel
theorem dX10_init_1 : decode cX10_init 1 = .ok (.invokespecial 3, 3) := by decide +kernel
theorem dX10_init_4 : decode cX10_init 4 = .ok (.aload_n 0, 1) := by decide +kernel
theorem dX10_init_5 : decode cX10_init 5 = .ok (.sipush 372, 3) := by decide +kernel
theorem dX10_init_8 : decode cX10_init 8 = .ok (.newarray .int, 2) := by decide +kernel
theorem dX10_init_10 : decode cX10_init 10 = .ok (.putfield 11, 3) := by decide +kernel
theorem dX10_init_13 : decode cX10_init 13 = .ok (.aload_n 0, 1) := by decide +kernel
theorem dX10_init_14 : decode cX10_init 14 = .ok (.sipush 372, 3) := by decide +kernel
theorem dX10_init_17 : decode cX10_init 17 = .ok (.newarray .int, 2) := by decide +kernel
theorem dX10_init_19 : decode cX10_init 19 = .ok (.putfield 15, 3) := by decide +kernel
theorem dX10_init_22 : decode cX10_init 22 = .ok (.aload_n 0, 1) := by decide +kernel
theorem dX10_init_23 : decode cX10_init 23 = .ok (.sipush 372, 3) := by decide +kernel
theorem dX10_init_26 : decode cX10_init 26 = .ok (.newarray .int, 2) := by decide +kernel
theorem dX10_init_28 : decode cX10_init 28 = .ok (.putfield 18, 3) := by decide +kernel
theorem dX10_init_31 : decode cX10_init 31 = .ok (.aload_n 0, 1) := by decide +kernel
theorem dX10_init_32 : decode cX10_init 32 = .ok (.bipush 64, 2) := by decide +kernel
theorem dX10_init_34 : decode cX10_init 34 = .ok (.newarray .int, 2) := by decide +kernel
theorem dX10_init_36 : decode cX10_init 36 = .ok (.putfield 21, 3) := by decide +kernel
theorem dX10_init_39 : decode cX10_init 39 = .ok (.aload_n 0, 1) := by decide +kernel
theorem dX10_init_40 : decode cX10_init 40 = .ok (.bipush 64, 2) := by decide +kernel
theorem dX10_init_42 : decode cX10_init 42 = .ok (.newarray .int, 2) := by decide +kernel
theorem dX10_init_44 : decode cX10_init 44 = .ok (.putfield 24, 3) := by decide +kernel
theorem dX10_init_47 : decode cX10_init 47 = .ok (.aload_n 0, 1) := by decide +kernel
theorem dX10_init_48 : decode cX10_init 48 = .ok (.bipush 100, 2) := by decide +kernel
theorem dX10_init_50 : decode cX10_init 50 = .ok (.newarray .int, 2) := by decide +kernel
theorem dX10_init_52 : decode cX10_init 52 = .ok (.putfield 27, 3) := by decide +kernel
theorem dX10_init_55 : decode cX10_init 55 = .ok (.aload_n 0, 1) := by decide +kernel
theorem dX10_init_56 : decode cX10_init 56 = .ok (.bipush 56, 2) := by decide +kernel
theorem dX10_init_58 : decode cX10_init 58 = .ok (.newarray .int, 2) := by decide +kernel
theorem dX10_init_60 : decode cX10_init 60 = .ok (.putfield 30, 3) := by decide +kernel
theorem dX10_init_63 : decode cX10_init 63 = .ok (.aload_n 0, 1) := by decide +kernel
theorem dX10_init_64 : decode cX10_init 64 = .ok (.bipush 6, 2) := by decide +kernel
theorem dX10_init_66 : decode cX10_init 66 = .ok (.newarray .int, 2) := by decide +kernel
theorem dX10_init_68 : decode cX10_init 68 = .ok (.putfield 33, 3) := by decide +kernel
theorem dX10_init_71 : decode cX10_init 71 = .ok (.aload_n 0, 1) := by decide +kernel
theorem dX10_init_72 : decode cX10_init 72 = .ok (.bipush 6, 2) := by decide +kernel
theorem dX10_init_74 : decode cX10_init 74 = .ok (.newarray .int, 2) := by decide +kernel
theorem dX10_init_76 : decode cX10_init 76 = .ok (.putfield 36, 3) := by decide +kernel
theorem dX10_init_79 : decode cX10_init 79 = .ok (.aload_n 0, 1) := by decide +kernel
theorem dX10_init_80 : decode cX10_init 80 = .ok (.sipush 360, 3) := by decide +kernel
theorem dX10_init_83 : decode cX10_init 83 = .ok (.newarray .long, 2) := by decide +kernel
theorem dX10_init_85 : decode cX10_init 85 = .ok (.putfield 39, 3) := by decide +kernel
theorem dX10_init_88 : decode cX10_init 88 = .ok (.aload_n 0, 1) := by decide +kernel
theorem dX10_init_89 : decode cX10_init 89 = .ok (.bipush 60, 2) := by decide +kernel
theorem dX10_init_91 : decode cX10_init 91 = .ok (.newarray .long, 2) := by decide +kernel
theorem dX10_init_93 : decode cX10_init 93 = .ok (.putfield 43, 3) := by decide +kernel
theorem dX10_init_96 : decode cX10_init 96 = .ok (.aload_n 0, 1) := by decide +kernel
theorem dX10_init_97 : decode cX10_init 97 = .ok (.getfield 11, 3) := by decide +kernel
theorem dX10_init_100 : decode cX10_init 100 = .ok (.iconst 0, 1) := by decide +kernel
theorem dX10_init_101 : decode cX10_init 101 = .ok (.iconst 1, 1) := by decide +kernel
theorem dX10_init_102 : decode cX10_init 102 = .ok (.iastore, 1) := by decide +kernel
theorem dX10_init_103 : decode cX10_init 103 = .ok (.aload_n 0, 1) := by decide +kernel
theorem dX10_init_104 : decode cX10_init 104 = .ok (.getfield 11, 3) := by decide +kernel
theorem dX10_init_107 : decode cX10_init 107 = .ok (.iconst 1, 1) := by decide +kernel
theorem dX10_init_108 : decode cX10_init 108 = .ok (.iconst 1, 1) := by decide +kernel
theorem dX10_init_109 : decode cX10_init 109 = .ok (.iastore, 1) := by decide +kernel
theorem dX10_init_110 : decode cX10_init 110 = .ok (.aload_n 0, 1) := by decide +kernel
theorem dX10_init_111 : decode cX10_init 111 = .ok (.getfield 11, 3) := by decide +kernel
theorem dX10_init_114 : decode cX10_init 114 = .ok (.iconst 4, 1) := by decide +kernel
theorem dX10_init_115 : decode cX10_init 115 = .ok (.bipush (-5), 2) := by decide +kernel
theorem dX10_init_117 : decode cX10_init 117 = .ok (.iastore, 1) := by decide +kernel
theorem dX10_init_118 : decode cX10_init 118 = .ok (.aload_n 0, 1) := by decide +kernel
theorem dX10_init_119 : decode cX10_init 119 = .ok (.getfield 11, 3) := by decide +kernel
theorem dX10_init_122 : decode cX10_init 122 = .ok (.iconst 5, 1) := by decide +kernel
theorem dX10_init_123 : decode cX10_init 123 = .ok (.bipush (-5), 2) := by decide +kernel
theorem dX10_init_125 : decode cX10_init 125 = .ok (.iastore, 1) := by decide +kernel
theorem dX10_init_126 : decode cX10_init 126 = .ok (.aload_n 0, 1) := by decide +kernel
theorem dX10_init_127 : decode cX10_init 127 = .ok (.getfield 11, 3) := by decide +kernel
theorem dX10_init_130 : decode cX10_init 130 = .ok (.bipush 6, 2) := by decide +kernel
theorem dX10_init_132 : decode cX10_init 132 = .ok (.bipush (-5), 2) := by decide +kernel
theorem dX10_init_134 : decode cX10_init 134 = .ok (.iastore, 1) := by decide +kernel
theorem dX10_init_135 : decode cX10_init 135 = .ok (.aload_n 0, 1) := by decide +kernel
theorem dX10_init_136 : decode cX10_init 136 = .ok (.getfield 11, 3) := by decide +kernel
theorem dX10_init_139 : decode cX10_init 139 = .ok (.bipush 16, 2) := by decide +kernel
theorem dX10_init_141 : decode cX10_init 141 = .ok (.bipush 30, 2) := by decide +kernel
theorem dX10_init_143 : decode cX10_init 143 = .ok (.iastore, 1) := by decide +kernel
theorem dX10_init_144 : decode cX10_init 144 = .ok (.iconst 0, 1) := by decide +kernel
theorem dX10_init_145 : decode cX10_init 145 = .ok (.istore_n 1, 1) := by decide +kernel
theorem dX10_init_146 : decode cX10_init 146 = .ok (.iload_n 1, 1) := by decide +kernel
theorem dX10_init_147 : decode cX10_init 147 = .ok (.bipush 6, 2) := by decide +kernel
theorem dX10_init_149 : decode cX10_init 149 = .ok (.if_icmp .ge 16, 3) := by decide +kernel
theorem dX10_init_152 : decode cX10_init 152 = .ok (.aload_n 0, 1) := by decide +kernel
theorem dX10_init_153 : decode cX10_init 153 = .ok (.getfield 33, 3) := by decide +kernel
theorem dX10_init_156 : decode cX10_init 156 = .ok (.iload_n 1, 1) := by decide +kernel
theorem dX10_init_157 : decode cX10_init 157 = .ok (.iconst (-1), 1) := by decide +kernel
theorem dX10_init_158 : decode cX10_init 158 = .ok (.iastore, 1) := by decide +kernel
theorem dX10_init_159 : decode cX10_init 159 = .ok (.iinc 1 1, 3) := by decide +kernel
theorem dX10_init_162 : decode cX10_init 162 = .ok (.goto (-16), 3) := by decide +kernel
theorem dX10_init_165 : decode cX10_init 165 = .ok (.aload_n 0, 1) := by decide +kernel
theorem dX10_init_166 : decode cX10_init 166 = .ok (.invokevirtual 46, 3) := by decide +kernel
theorem dX10_init_169 : decode cX10_init 169 = .ok (.return_, 1) := by decide +kernel
theorem dX10_isIn_0 : decode cX10_isIn 0 = .ok (.iload_n 0, 1) := by decide +kernel
theorem dX10_isIn_1 : decode cX10_isIn 1 = .ok (.iload_n 1, 1) := by decide +kernel
theorem dX10_isIn_2 : decode cX10_isIn 2 = .ok (.if_icmp .lt 12, 3) := by decide +kernel
theorem dX10_isIn_5 : decode cX10_isIn 5 = .ok (.iload_n 0, 1) := by decide +kernel
theorem dX10_isIn_6 : decode cX10_isIn 6 = .ok (.iload_n 2, 1) := by decide +kernel
theorem dX10_isIn_7 : decode cX10_isIn 7 = .ok (.if_icmp .gt 7, 3) := by decide +kernel
theorem dX10_isIn_10 : decode cX10_isIn 10 = .ok (.iconst 1, 1) := by decide +kernel
theorem dX10_isIn_11 : decode cX10_isIn 11 = .ok (.goto 4, 3) := by decide +kernel
theorem dX10_isIn_14 : decode cX10_isIn 14 = .ok (.iconst 0, 1) := by decide +kernel
theorem dX10_isIn_15 : decode cX10_isIn 15 = .ok (.ireturn, 1) := by decide +kernel
theorem dX10_has_0 : decode cX10_has 0 = .ok (.iload_n 0, 1) := by decide +kernel
theorem dX10_has_1 : decode cX10_has 1 = .ok (.iload_n 1, 1) := by decide +kernel
theorem dX10_has_2 : decode cX10_has 2 = .ok (.ishr, 1) := by decide +kernel
theorem dX10_has_3 : decode cX10_has 3 = .ok (.iconst 1, 1) := by decide +kernel
theorem dX10_has_4 : decode cX10_has 4 = .ok (.iand, 1) := by decide +kernel
theorem dX10_has_5 : decode cX10_has 5 = .ok (.iconst 1, 1) := by decide +kernel
theorem dX10_has_6 : decode cX10_has 6 = .ok (.if_icmp .ne 7, 3) := by decide +kernel
theorem dX10_has_9 : decode cX10_has 9 = .ok (.iconst 1, 1) := by decide +kernel
theorem dX10_has_10 : decode cX10_has 10 = .ok (.goto 4, 3) := by decide +kernel
theorem dX10_has_13 : decode cX10_has 13 = .ok (.iconst 0, 1) := by decide +kernel
theorem dX10_has_14 : decode cX10_has 14 = .ok (.ireturn, 1) := by decide +kernel
theorem dX10_isSignal_0 : decode cX10_isSignal 0 = .ok (.iload_n 1, 1) := by decide +kernel
theorem dX10_isSignal_1 : decode cX10_isSignal 1 = .ok (.iconst 0, 1) := by decide +kernel
theorem dX10_isSignal_2 : decode cX10_isSignal 2 = .ok (.aload_n 0, 1) := by decide +kernel
theorem dX10_isSignal_3 : decode cX10_isSignal 3 = .ok (.getfield 11, 3) := by decide +kernel
theorem dX10_isSignal_6 : decode cX10_isSignal 6 = .ok (.bipush 13, 2) := by decide +kernel
theorem dX10_isSignal_8 : decode cX10_isSignal 8 = .ok (.iaload, 1) := by decide +kernel
theorem dX10_isSignal_9 : decode cX10_isSignal 9 = .ok (.iconst 1, 1) := by decide +kernel
theorem dX10_isSignal_10 : decode cX10_isSignal 10 = .ok (.isub, 1) := by decide +kernel
theorem dX10_isSignal_11 : decode cX10_isSignal 11 = .ok (.invokestatic 49, 3) := by decide +kernel
theorem dX10_isSignal_14 : decode cX10_isSignal 14 = .ok (.ireturn, 1) := by decide +kernel
theorem dX10_isPhase_0 : decode cX10_isPhase 0 = .ok (.iload_n 1, 1) := by decide +kernel
theorem dX10_isPhase_1 : decode cX10_isPhase 1 = .ok (.iconst 0, 1) := by decide +kernel
theorem dX10_isPhase_2 : decode cX10_isPhase 2 = .ok (.aload_n 0, 1) := by decide +kernel
theorem dX10_isPhase_3 : decode cX10_isPhase 3 = .ok (.getfield 11, 3) := by decide +kernel
theorem dX10_isPhase_6 : decode cX10_isPhase 6 = .ok (.bipush 14, 2) := by decide +kernel
theorem dX10_isPhase_8 : decode cX10_isPhase 8 = .ok (.iaload, 1) := by decide +kernel
theorem dX10_isPhase_9 : decode cX10_isPhase 9 = .ok (.iconst 1, 1) := by decide +kernel
theorem dX10_isPhase_10 : decode cX10_isPhase 10 = .ok (.isub, 1) := by decide +kernel
theorem dX10_isPhase_11 : decode cX10_isPhase 11 = .ok (.invokestatic 49, 3) := by decide +kernel
theorem dX10_isPhase_14 : decode cX10_isPhase 14 = .ok (.ireturn, 1) := by decide +kernel
theorem dX10_at_0 : decode cX10_at 0 = .ok (.aload_n 0, 1) := by decide +kernel
theorem dX10_at_1 : decode cX10_at 1 = .ok (.getfield 11, 3) := by decide +kernel
theorem dX10_at_4 : decode cX10_at 4 = .ok (.bipush 24, 2) := by decide +kernel
theorem dX10_at_6 : decode cX10_at 6 = .ok (.bipush 24, 2) := by decide +kernel
theorem dX10_at_8 : decode cX10_at 8 = .ok (.iload_n 1, 1) := by decide +kernel
theorem dX10_at_9 : decode cX10_at 9 = .ok (.imul, 1) := by decide +kernel
theorem dX10_at_10 : decode cX10_at 10 = .ok (.iadd, 1) := by decide +kernel
theorem dX10_at_11 : decode cX10_at 11 = .ok (.iload_n 2, 1) := by decide +kernel
theorem dX10_at_12 : decode cX10_at 12 = .ok (.iadd, 1) := by decide +kernel
theorem dX10_at_13 : decode cX10_at 13 = .ok (.iaload, 1) := by decide +kernel
theorem dX10_at_14 : decode cX10_at 14 = .ok (.ireturn, 1) := by decide +kernel
theorem dX10_puts_0 : decode cX10_puts 0 = .ok (.aload_n 0, 1) := by decide +kernel
theorem dX10_puts_1 : decode cX10_puts 1 = .ok (.getfield 11, 3) := by decide +kernel
theorem dX10_puts_4 : decode cX10_puts 4 = .ok (.bipush 24, 2) := by decide +kernel
theorem dX10_puts_6 : decode cX10_puts 6 = .ok (.bipush 24, 2) := by decide +kernel
theorem dX10_puts_8 : decode cX10_puts 8 = .ok (.iload_n 1, 1) := by decide +kernel
theorem dX10_puts_9 : decode cX10_puts 9 = .ok (.imul, 1) := by decide +kernel
theorem dX10_puts_10 : decode cX10_puts 10 = .ok (.iadd, 1) := by decide +kernel
theorem dX10_puts_11 : decode cX10_puts 11 = .ok (.iload_n 2, 1) := by decide +kernel
theorem dX10_puts_12 : decode cX10_puts 12 = .ok (.iadd, 1) := by decide +kernel
theorem dX10_puts_13 : decode cX10_puts 13 = .ok (.iload_n 3, 1) := by decide +kernel
theorem dX10_puts_14 : decode cX10_puts 14 = .ok (.iastore, 1) := by decide +kernel
theorem dX10_puts_15 : decode cX10_puts 15 = .ok (.return_, 1) := by decide +kernel
theorem dX10_setOf_0 : decode cX10_setOf 0 = .ok (.aload_n 0, 1) := by decide +kernel
theorem dX10_setOf_1 : decode cX10_setOf 1 = .ok (.getfield 11, 3) := by decide +kernel
theorem dX10_setOf_4 : decode cX10_setOf 4 = .ok (.sipush 216, 3) := by decide +kernel
theorem dX10_setOf_7 : decode cX10_setOf 7 = .ok (.iconst 3, 1) := by decide +kernel
theorem dX10_setOf_8 : decode cX10_setOf 8 = .ok (.iload_n 1, 1) := by decide +kernel
theorem dX10_setOf_9 : decode cX10_setOf 9 = .ok (.imul, 1) := by decide +kernel
theorem dX10_setOf_10 : decode cX10_setOf 10 = .ok (.iadd, 1) := by decide +kernel
theorem dX10_setOf_11 : decode cX10_setOf 11 = .ok (.iaload, 1) := by decide +kernel
theorem dX10_setOf_12 : decode cX10_setOf 12 = .ok (.ireturn, 1) := by decide +kernel
theorem dX10_amber_0 : decode cX10_amber 0 = .ok (.getstatic 53, 3) := by decide +kernel
theorem dX10_amber_3 : decode cX10_amber 3 = .ok (.aload_n 0, 1) := by decide +kernel
theorem dX10_amber_4 : decode cX10_amber 4 = .ok (.iload_n 1, 1) := by decide +kernel
theorem dX10_amber_5 : decode cX10_amber 5 = .ok (.iconst 0, 1) := by decide +kernel
theorem dX10_amber_6 : decode cX10_amber 6 = .ok (.invokevirtual 56, 3) := by decide +kernel
theorem dX10_amber_9 : decode cX10_amber 9 = .ok (.iaload, 1) := by decide +kernel
theorem dX10_amber_10 : decode cX10_amber 10 = .ok (.ireturn, 1) := by decide +kernel
theorem dX10_pace_0 : decode cX10_pace 0 = .ok (.getstatic 60, 3) := by decide +kernel
theorem dX10_pace_3 : decode cX10_pace 3 = .ok (.aload_n 0, 1) := by decide +kernel
theorem dX10_pace_4 : decode cX10_pace 4 = .ok (.iload_n 1, 1) := by decide +kernel
theorem dX10_pace_5 : decode cX10_pace 5 = .ok (.iconst 0, 1) := by decide +kernel
theorem dX10_pace_6 : decode cX10_pace 6 = .ok (.invokevirtual 56, 3) := by decide +kernel
theorem dX10_pace_9 : decode cX10_pace 9 = .ok (.iaload, 1) := by decide +kernel
theorem dX10_pace_10 : decode cX10_pace 10 = .ok (.ireturn, 1) := by decide +kernel
theorem dX10_copies_0 : decode cX10_copies 0 = .ok (.iconst 0, 1) := by decide +kernel
theorem dX10_copies_1 : decode cX10_copies 1 = .ok (.istore_n 2, 1) := by decide +kernel
theorem dX10_copies_2 : decode cX10_copies 2 = .ok (.iload_n 2, 1) := by decide +kernel
theorem dX10_copies_3 : decode cX10_copies 3 = .ok (.aload_n 0, 1) := by decide +kernel
theorem dX10_copies_4 : decode cX10_copies 4 = .ok (.arraylength, 1) := by decide +kernel
theorem dX10_copies_5 : decode cX10_copies 5 = .ok (.if_icmp .ge 15, 3) := by decide +kernel
theorem dX10_copies_8 : decode cX10_copies 8 = .ok (.aload_n 1, 1) := by decide +kernel
theorem dX10_copies_9 : decode cX10_copies 9 = .ok (.iload_n 2, 1) := by decide +kernel
theorem dX10_copies_10 : decode cX10_copies 10 = .ok (.aload_n 0, 1) := by decide +kernel
theorem dX10_copies_11 : decode cX10_copies 11 = .ok (.iload_n 2, 1) := by decide +kernel
theorem dX10_copies_12 : decode cX10_copies 12 = .ok (.iaload, 1) := by decide +kernel
theorem dX10_copies_13 : decode cX10_copies 13 = .ok (.iastore, 1) := by decide +kernel
theorem dX10_copies_14 : decode cX10_copies 14 = .ok (.iinc 2 1, 3) := by decide +kernel
theorem dX10_copies_17 : decode cX10_copies 17 = .ok (.goto (-15), 3) := by decide +kernel
theorem dX10_copies_20 : decode cX10_copies 20 = .ok (.return_, 1) := by decide +kernel
theorem dX10_placeIn_0 : decode cX10_placeIn 0 = .ok (.iconst 0, 1) := by decide +kernel
theorem dX10_placeIn_1 : decode cX10_placeIn 1 = .ok (.istore_n 3, 1) := by decide +kernel
theorem dX10_placeIn_2 : decode cX10_placeIn 2 = .ok (.iload_n 3, 1) := by decide +kernel
theorem dX10_placeIn_3 : decode cX10_placeIn 3 = .ok (.aload_n 0, 1) := by decide +kernel
theorem dX10_placeIn_4 : decode cX10_placeIn 4 = .ok (.iload_n 1, 1) := by decide +kernel
theorem dX10_placeIn_5 : decode cX10_placeIn 5 = .ok (.bipush 11, 2) := by decide +kernel
theorem dX10_placeIn_7 : decode cX10_placeIn 7 = .ok (.invokevirtual 56, 3) := by decide +kernel
theorem dX10_placeIn_10 : decode cX10_placeIn 10 = .ok (.if_icmp .ge 24, 3) := by decide +kernel
theorem dX10_placeIn_13 : decode cX10_placeIn 13 = .ok (.aload_n 0, 1) := by decide +kernel
theorem dX10_placeIn_14 : decode cX10_placeIn 14 = .ok (.iload_n 1, 1) := by decide +kernel
theorem dX10_placeIn_15 : decode cX10_placeIn 15 = .ok (.bipush 12, 2) := by decide +kernel
theorem dX10_placeIn_17 : decode cX10_placeIn 17 = .ok (.iload_n 3, 1) := by decide +kernel
theorem dX10_placeIn_18 : decode cX10_placeIn 18 = .ok (.iadd, 1) := by decide +kernel
theorem dX10_placeIn_19 : decode cX10_placeIn 19 = .ok (.invokevirtual 56, 3) := by decide +kernel
theorem dX10_placeIn_22 : decode cX10_placeIn 22 = .ok (.iload_n 2, 1) := by decide +kernel
theorem dX10_placeIn_23 : decode cX10_placeIn 23 = .ok (.if_icmp .ne 5, 3) := by decide +kernel
theorem dX10_placeIn_26 : decode cX10_placeIn 26 = .ok (.iload_n 3, 1) := by decide +kernel
theorem dX10_placeIn_27 : decode cX10_placeIn 27 = .ok (.ireturn, 1) := by decide +kernel
theorem dX10_placeIn_28 : decode cX10_placeIn 28 = .ok (.iinc 3 1, 3) := by decide +kernel
theorem dX10_placeIn_31 : decode cX10_placeIn 31 = .ok (.goto (-29), 3) := by decide +kernel
theorem dX10_placeIn_34 : decode cX10_placeIn 34 = .ok (.bipush (-5), 2) := by decide +kernel
theorem dX10_placeIn_36 : decode cX10_placeIn 36 = .ok (.ireturn, 1) := by decide +kernel
theorem dX10_clears_0 : decode cX10_clears 0 = .ok (.iconst 0, 1) := by decide +kernel
theorem dX10_clears_1 : decode cX10_clears 1 = .ok (.istore_n 3, 1) := by decide +kernel
theorem dX10_clears_2 : decode cX10_clears 2 = .ok (.bipush (-5), 2) := by decide +kernel
theorem dX10_clears_4 : decode cX10_clears 4 = .ok (.istore 4, 2) := by decide +kernel
theorem dX10_clears_6 : decode cX10_clears 6 = .ok (.iconst 0, 1) := by decide +kernel
theorem dX10_clears_7 : decode cX10_clears 7 = .ok (.istore 5, 2) := by decide +kernel
theorem dX10_clears_9 : decode cX10_clears 9 = .ok (.iload 5, 2) := by decide +kernel
theorem dX10_clears_11 : decode cX10_clears 11 = .ok (.aload_n 0, 1) := by decide +kernel
theorem dX10_clears_12 : decode cX10_clears 12 = .ok (.iload_n 1, 1) := by decide +kernel
theorem dX10_clears_13 : decode cX10_clears 13 = .ok (.bipush 11, 2) := by decide +kernel
theorem dX10_clears_15 : decode cX10_clears 15 = .ok (.invokevirtual 56, 3) := by decide +kernel
theorem dX10_clears_18 : decode cX10_clears 18 = .ok (.if_icmp .ge 95, 3) := by decide +kernel
theorem dX10_clears_21 : decode cX10_clears 21 = .ok (.iload_n 1, 1) := by decide +kernel
theorem dX10_clears_22 : decode cX10_clears 22 = .ok (.iload_n 2, 1) := by decide +kernel
theorem dX10_clears_23 : decode cX10_clears 23 = .ok (.if_icmp .eq 90, 3) := by decide +kernel
theorem dX10_clears_26 : decode cX10_clears 26 = .ok (.aload_n 0, 1) := by decide +kernel
theorem dX10_clears_27 : decode cX10_clears 27 = .ok (.iload_n 2, 1) := by decide +kernel
theorem dX10_clears_28 : decode cX10_clears 28 = .ok (.aload_n 0, 1) := by decide +kernel
theorem dX10_clears_29 : decode cX10_clears 29 = .ok (.iload_n 1, 1) := by decide +kernel
theorem dX10_clears_30 : decode cX10_clears 30 = .ok (.bipush 12, 2) := by decide +kernel
theorem dX10_clears_32 : decode cX10_clears 32 = .ok (.iload 5, 2) := by decide +kernel
theorem dX10_clears_34 : decode cX10_clears 34 = .ok (.iadd, 1) := by decide +kernel
theorem dX10_clears_35 : decode cX10_clears 35 = .ok (.invokevirtual 56, 3) := by decide +kernel
theorem dX10_clears_38 : decode cX10_clears 38 = .ok (.invokevirtual 63, 3) := by decide +kernel
theorem dX10_clears_41 : decode cX10_clears 41 = .ok (.istore 6, 2) := by decide +kernel
theorem dX10_clears_43 : decode cX10_clears 43 = .ok (.iload 6, 2) := by decide +kernel
theorem dX10_clears_45 : decode cX10_clears 45 = .ok (.ifCond .ge 6, 3) := by decide +kernel
theorem dX10_clears_48 : decode cX10_clears 48 = .ok (.goto 59, 3) := by decide +kernel
theorem dX10_clears_51 : decode cX10_clears 51 = .ok (.aload_n 0, 1) := by decide +kernel
theorem dX10_clears_52 : decode cX10_clears 52 = .ok (.iload_n 1, 1) := by decide +kernel
theorem dX10_clears_53 : decode cX10_clears 53 = .ok (.invokevirtual 66, 3) := by decide +kernel
theorem dX10_clears_56 : decode cX10_clears 56 = .ok (.aload_n 0, 1) := by decide +kernel
theorem dX10_clears_57 : decode cX10_clears 57 = .ok (.iload_n 1, 1) := by decide +kernel
theorem dX10_clears_58 : decode cX10_clears 58 = .ok (.invokevirtual 70, 3) := by decide +kernel
theorem dX10_clears_61 : decode cX10_clears 61 = .ok (.iload 5, 2) := by decide +kernel
theorem dX10_clears_63 : decode cX10_clears 63 = .ok (.iconst 1, 1) := by decide +kernel
theorem dX10_clears_64 : decode cX10_clears 64 = .ok (.iadd, 1) := by decide +kernel
theorem dX10_clears_65 : decode cX10_clears 65 = .ok (.imul, 1) := by decide +kernel
theorem dX10_clears_66 : decode cX10_clears 66 = .ok (.iadd, 1) := by decide +kernel
theorem dX10_clears_67 : decode cX10_clears 67 = .ok (.aload_n 0, 1) := by decide +kernel
theorem dX10_clears_68 : decode cX10_clears 68 = .ok (.iload_n 2, 1) := by decide +kernel
theorem dX10_clears_69 : decode cX10_clears 69 = .ok (.invokevirtual 70, 3) := by decide +kernel
theorem dX10_clears_72 : decode cX10_clears 72 = .ok (.iload 6, 2) := by decide +kernel
theorem dX10_clears_74 : decode cX10_clears 74 = .ok (.imul, 1) := by decide +kernel
theorem dX10_clears_75 : decode cX10_clears 75 = .ok (.isub, 1) := by decide +kernel
theorem dX10_clears_76 : decode cX10_clears 76 = .ok (.istore 7, 2) := by decide +kernel
theorem dX10_clears_78 : decode cX10_clears 78 = .ok (.iload 4, 2) := by decide +kernel
theorem dX10_clears_80 : decode cX10_clears 80 = .ok (.ifCond .lt 12, 3) := by decide +kernel
theorem dX10_clears_83 : decode cX10_clears 83 = .ok (.iload 7, 2) := by decide +kernel
theorem dX10_clears_85 : decode cX10_clears 85 = .ok (.iload_n 3, 1) := by decide +kernel
theorem dX10_clears_86 : decode cX10_clears 86 = .ok (.if_icmp .gt 6, 3) := by decide +kernel
theorem dX10_clears_89 : decode cX10_clears 89 = .ok (.goto 18, 3) := by decide +kernel
theorem dX10_clears_92 : decode cX10_clears 92 = .ok (.iload 7, 2) := by decide +kernel
theorem dX10_clears_94 : decode cX10_clears 94 = .ok (.istore_n 3, 1) := by decide +kernel
theorem dX10_clears_95 : decode cX10_clears 95 = .ok (.aload_n 0, 1) := by decide +kernel
theorem dX10_clears_96 : decode cX10_clears 96 = .ok (.iload_n 1, 1) := by decide +kernel
theorem dX10_clears_97 : decode cX10_clears 97 = .ok (.bipush 12, 2) := by decide +kernel
theorem dX10_clears_99 : decode cX10_clears 99 = .ok (.iload 5, 2) := by decide +kernel
theorem dX10_clears_101 : decode cX10_clears 101 = .ok (.iadd, 1) := by decide +kernel
theorem dX10_clears_102 : decode cX10_clears 102 = .ok (.invokevirtual 56, 3) := by decide +kernel
theorem dX10_clears_105 : decode cX10_clears 105 = .ok (.istore 4, 2) := by decide +kernel
theorem dX10_clears_107 : decode cX10_clears 107 = .ok (.iinc 5 1, 3) := by decide +kernel
theorem dX10_clears_110 : decode cX10_clears 110 = .ok (.goto (-101), 3) := by decide +kernel
theorem dX10_clears_113 : decode cX10_clears 113 = .ok (.aload_n 0, 1) := by decide +kernel
theorem dX10_clears_114 : decode cX10_clears 114 = .ok (.getfield 24, 3) := by decide +kernel
theorem dX10_clears_117 : decode cX10_clears 117 = .ok (.bipush 8, 2) := by decide +kernel
theorem dX10_clears_119 : decode cX10_clears 119 = .ok (.iload_n 1, 1) := by decide +kernel
theorem dX10_clears_120 : decode cX10_clears 120 = .ok (.imul, 1) := by decide +kernel
theorem dX10_clears_121 : decode cX10_clears 121 = .ok (.iload_n 2, 1) := by decide +kernel
theorem dX10_clears_122 : decode cX10_clears 122 = .ok (.iadd, 1) := by decide +kernel
theorem dX10_clears_123 : decode cX10_clears 123 = .ok (.iload 4, 2) := by decide +kernel
theorem dX10_clears_125 : decode cX10_clears 125 = .ok (.iastore, 1) := by decide +kernel
theorem dX10_clears_126 : decode cX10_clears 126 = .ok (.aload_n 0, 1) := by decide +kernel
theorem dX10_clears_127 : decode cX10_clears 127 = .ok (.getfield 21, 3) := by decide +kernel
theorem dX10_clears_130 : decode cX10_clears 130 = .ok (.bipush 8, 2) := by decide +kernel
theorem dX10_clears_132 : decode cX10_clears 132 = .ok (.iload_n 1, 1) := by decide +kernel
theorem dX10_clears_133 : decode cX10_clears 133 = .ok (.imul, 1) := by decide +kernel
theorem dX10_clears_134 : decode cX10_clears 134 = .ok (.iload_n 2, 1) := by decide +kernel
theorem dX10_clears_135 : decode cX10_clears 135 = .ok (.iadd, 1) := by decide +kernel
theorem dX10_clears_136 : decode cX10_clears 136 = .ok (.iload 4, 2) := by decide +kernel
theorem dX10_clears_138 : decode cX10_clears 138 = .ok (.ifCond .ge 8, 3) := by decide +kernel
theorem dX10_clears_141 : decode cX10_clears 141 = .ok (.bipush (-5), 2) := by decide +kernel
theorem dX10_clears_143 : decode cX10_clears 143 = .ok (.goto 19, 3) := by decide +kernel
theorem dX10_clears_146 : decode cX10_clears 146 = .ok (.aload_n 0, 1) := by decide +kernel
theorem dX10_clears_147 : decode cX10_clears 147 = .ok (.iload_n 1, 1) := by decide +kernel
theorem dX10_clears_148 : decode cX10_clears 148 = .ok (.invokevirtual 66, 3) := by decide +kernel
theorem dX10_clears_151 : decode cX10_clears 151 = .ok (.iload_n 3, 1) := by decide +kernel
theorem dX10_clears_152 : decode cX10_clears 152 = .ok (.invokestatic 73, 3) := by decide +kernel
theorem dX10_clears_155 : decode cX10_clears 155 = .ok (.aload_n 0, 1) := by decide +kernel
theorem dX10_clears_156 : decode cX10_clears 156 = .ok (.getfield 11, 3) := by decide +kernel
theorem dX10_clears_159 : decode cX10_clears 159 = .ok (.iconst 1, 1) := by decide +kernel
theorem dX10_clears_160 : decode cX10_clears 160 = .ok (.iaload, 1) := by decide +kernel
theorem dX10_clears_161 : decode cX10_clears 161 = .ok (.iadd, 1) := by decide +kernel
theorem dX10_clears_162 : decode cX10_clears 162 = .ok (.iastore, 1) := by decide +kernel
theorem dX10_clears_163 : decode cX10_clears 163 = .ok (.return_, 1) := by decide +kernel
theorem dX10_clears__0 : decode cX10_clears_ 0 = .ok (.iconst 0, 1) := by decide +kernel
theorem dX10_clears__1 : decode cX10_clears_ 1 = .ok (.istore_n 1, 1) := by decide +kernel
theorem dX10_clears__2 : decode cX10_clears_ 2 = .ok (.iload_n 1, 1) := by decide +kernel
theorem dX10_clears__3 : decode cX10_clears_ 3 = .ok (.bipush 8, 2) := by decide +kernel
theorem dX10_clears__5 : decode cX10_clears_ 5 = .ok (.if_icmp .ge 29, 3) := by decide +kernel
theorem dX10_clears__8 : decode cX10_clears_ 8 = .ok (.iconst 0, 1) := by decide +kernel
theorem dX10_clears__9 : decode cX10_clears_ 9 = .ok (.istore_n 2, 1) := by decide +kernel
theorem dX10_clears__10 : decode cX10_clears_ 10 = .ok (.iload_n 2, 1) := by decide +kernel
theorem dX10_clears__11 : decode cX10_clears_ 11 = .ok (.bipush 8, 2) := by decide +kernel
theorem dX10_clears__13 : decode cX10_clears_ 13 = .ok (.if_icmp .ge 15, 3) := by decide +kernel
theorem dX10_clears__16 : decode cX10_clears_ 16 = .ok (.aload_n 0, 1) := by decide +kernel
theorem dX10_clears__17 : decode cX10_clears_ 17 = .ok (.iload_n 1, 1) := by decide +kernel
theorem dX10_clears__18 : decode cX10_clears_ 18 = .ok (.iload_n 2, 1) := by decide +kernel
theorem dX10_clears__19 : decode cX10_clears_ 19 = .ok (.invokevirtual 78, 3) := by decide +kernel
theorem dX10_clears__22 : decode cX10_clears_ 22 = .ok (.iinc 2 1, 3) := by decide +kernel
theorem dX10_clears__25 : decode cX10_clears_ 25 = .ok (.goto (-15), 3) := by decide +kernel
theorem dX10_clears__28 : decode cX10_clears_ 28 = .ok (.iinc 1 1, 3) := by decide +kernel
theorem dX10_clears__31 : decode cX10_clears_ 31 = .ok (.goto (-29), 3) := by decide +kernel
theorem dX10_clears__34 : decode cX10_clears_ 34 = .ok (.return_, 1) := by decide +kernel
theorem dX10_meet_0 : decode cX10_meet 0 = .ok (.aload_n 0, 1) := by decide +kernel
theorem dX10_meet_1 : decode cX10_meet 1 = .ok (.getfield 21, 3) := by decide +kernel
theorem dX10_meet_4 : decode cX10_meet 4 = .ok (.bipush 8, 2) := by decide +kernel
theorem dX10_meet_6 : decode cX10_meet 6 = .ok (.iload_n 1, 1) := by decide +kernel
theorem dX10_meet_7 : decode cX10_meet 7 = .ok (.imul, 1) := by decide +kernel
theorem dX10_meet_8 : decode cX10_meet 8 = .ok (.iload_n 2, 1) := by decide +kernel
theorem dX10_meet_9 : decode cX10_meet 9 = .ok (.iadd, 1) := by decide +kernel
theorem dX10_meet_10 : decode cX10_meet 10 = .ok (.iaload, 1) := by decide +kernel
theorem dX10_meet_11 : decode cX10_meet 11 = .ok (.ifCond .lt 7, 3) := by decide +kernel
theorem dX10_meet_14 : decode cX10_meet 14 = .ok (.iconst 1, 1) := by decide +kernel
theorem dX10_meet_15 : decode cX10_meet 15 = .ok (.goto 4, 3) := by decide +kernel
theorem dX10_meet_18 : decode cX10_meet 18 = .ok (.iconst 0, 1) := by decide +kernel
theorem dX10_meet_19 : decode cX10_meet 19 = .ok (.ireturn, 1) := by decide +kernel
theorem dX10_meets_0 : decode cX10_meets 0 = .ok (.iconst 0, 1) := by decide +kernel
theorem dX10_meets_1 : decode cX10_meets 1 = .ok (.istore_n 2, 1) := by decide +kernel
theorem dX10_meets_2 : decode cX10_meets 2 = .ok (.iconst 0, 1) := by decide +kernel
theorem dX10_meets_3 : decode cX10_meets 3 = .ok (.istore_n 3, 1) := by decide +kernel
theorem dX10_meets_4 : decode cX10_meets 4 = .ok (.iload_n 3, 1) := by decide +kernel
theorem dX10_meets_5 : decode cX10_meets 5 = .ok (.aload_n 0, 1) := by decide +kernel
theorem dX10_meets_6 : decode cX10_meets 6 = .ok (.getfield 11, 3) := by decide +kernel
theorem dX10_meets_9 : decode cX10_meets 9 = .ok (.bipush 13, 2) := by decide +kernel
theorem dX10_meets_11 : decode cX10_meets 11 = .ok (.iaload, 1) := by decide +kernel
theorem dX10_meets_12 : decode cX10_meets 12 = .ok (.if_icmp .ge 28, 3) := by decide +kernel
theorem dX10_meets_15 : decode cX10_meets 15 = .ok (.iload_n 2, 1) := by decide +kernel
theorem dX10_meets_16 : decode cX10_meets 16 = .ok (.aload_n 0, 1) := by decide +kernel
theorem dX10_meets_17 : decode cX10_meets 17 = .ok (.iload_n 1, 1) := by decide +kernel
theorem dX10_meets_18 : decode cX10_meets 18 = .ok (.iload_n 3, 1) := by decide +kernel
theorem dX10_meets_19 : decode cX10_meets 19 = .ok (.invokevirtual 81, 3) := by decide +kernel
theorem dX10_meets_22 : decode cX10_meets 22 = .ok (.ifCond .eq 9, 3) := by decide +kernel
theorem dX10_meets_25 : decode cX10_meets 25 = .ok (.iconst 1, 1) := by decide +kernel
theorem dX10_meets_26 : decode cX10_meets 26 = .ok (.iload_n 3, 1) := by decide +kernel
theorem dX10_meets_27 : decode cX10_meets 27 = .ok (.ishl, 1) := by decide +kernel
theorem dX10_meets_28 : decode cX10_meets 28 = .ok (.goto 4, 3) := by decide +kernel
theorem dX10_meets_31 : decode cX10_meets 31 = .ok (.iconst 0, 1) := by decide +kernel
theorem dX10_meets_32 : decode cX10_meets 32 = .ok (.ior, 1) := by decide +kernel
theorem dX10_meets_33 : decode cX10_meets 33 = .ok (.istore_n 2, 1) := by decide +kernel
theorem dX10_meets_34 : decode cX10_meets 34 = .ok (.iinc 3 1, 3) := by decide +kernel
theorem dX10_meets_37 : decode cX10_meets 37 = .ok (.goto (-33), 3) := by decide +kernel
theorem dX10_meets_40 : decode cX10_meets 40 = .ok (.iload_n 2, 1) := by decide +kernel
theorem dX10_meets_41 : decode cX10_meets 41 = .ok (.ireturn, 1) := by decide +kernel
theorem dX10_comes_0 : decode cX10_comes 0 = .ok (.aload_n 0, 1) := by decide +kernel
theorem dX10_comes_1 : decode cX10_comes 1 = .ok (.getfield 11, 3) := by decide +kernel
theorem dX10_comes_4 : decode cX10_comes 4 = .ok (.bipush 13, 2) := by decide +kernel
theorem dX10_comes_6 : decode cX10_comes 6 = .ok (.iaload, 1) := by decide +kernel
theorem dX10_comes_7 : decode cX10_comes 7 = .ok (.istore 6, 2) := by decide +kernel
theorem dX10_comes_9 : decode cX10_comes 9 = .ok (.iconst 0, 1) := by decide +kernel
theorem dX10_comes_10 : decode cX10_comes 10 = .ok (.istore 7, 2) := by decide +kernel
theorem dX10_comes_12 : decode cX10_comes 12 = .ok (.iload 7, 2) := by decide +kernel
theorem dX10_comes_14 : decode cX10_comes 14 = .ok (.bipush 24, 2) := by decide +kernel
theorem dX10_comes_16 : decode cX10_comes 16 = .ok (.if_icmp .ge 18, 3) := by decide +kernel
theorem dX10_comes_19 : decode cX10_comes 19 = .ok (.aload_n 0, 1) := by decide +kernel
theorem dX10_comes_20 : decode cX10_comes 20 = .ok (.iload 6, 2) := by decide +kernel
theorem dX10_comes_22 : decode cX10_comes 22 = .ok (.iload 7, 2) := by decide +kernel
theorem dX10_comes_24 : decode cX10_comes 24 = .ok (.iconst 0, 1) := by decide +kernel
theorem dX10_comes_25 : decode cX10_comes 25 = .ok (.invokevirtual 85, 3) := by decide +kernel
theorem dX10_comes_28 : decode cX10_comes 28 = .ok (.iinc 7 1, 3) := by decide +kernel
theorem dX10_comes_31 : decode cX10_comes 31 = .ok (.goto (-19), 3) := by decide +kernel
theorem dX10_comes_34 : decode cX10_comes 34 = .ok (.aload_n 0, 1) := by decide +kernel
theorem dX10_comes_35 : decode cX10_comes 35 = .ok (.iload 6, 2) := by decide +kernel
theorem dX10_comes_37 : decode cX10_comes 37 = .ok (.iconst 0, 1) := by decide +kernel
theorem dX10_comes_38 : decode cX10_comes 38 = .ok (.iload_n 1, 1) := by decide +kernel
theorem dX10_comes_39 : decode cX10_comes 39 = .ok (.invokevirtual 85, 3) := by decide +kernel
theorem dX10_comes_42 : decode cX10_comes 42 = .ok (.aload_n 0, 1) := by decide +kernel
theorem dX10_comes_43 : decode cX10_comes 43 = .ok (.iload 6, 2) := by decide +kernel
theorem dX10_comes_45 : decode cX10_comes 45 = .ok (.iconst 1, 1) := by decide +kernel
theorem dX10_comes_46 : decode cX10_comes 46 = .ok (.iload_n 2, 1) := by decide +kernel
theorem dX10_comes_47 : decode cX10_comes 47 = .ok (.invokevirtual 85, 3) := by decide +kernel
theorem dX10_comes_50 : decode cX10_comes 50 = .ok (.aload_n 0, 1) := by decide +kernel
theorem dX10_comes_51 : decode cX10_comes 51 = .ok (.iload 6, 2) := by decide +kernel
theorem dX10_comes_53 : decode cX10_comes 53 = .ok (.iconst 2, 1) := by decide +kernel
theorem dX10_comes_54 : decode cX10_comes 54 = .ok (.iload_n 3, 1) := by decide +kernel
theorem dX10_comes_55 : decode cX10_comes 55 = .ok (.invokevirtual 85, 3) := by decide +kernel
theorem dX10_comes_58 : decode cX10_comes 58 = .ok (.aload_n 0, 1) := by decide +kernel
theorem dX10_comes_59 : decode cX10_comes 59 = .ok (.iload 6, 2) := by decide +kernel
theorem dX10_comes_61 : decode cX10_comes 61 = .ok (.iconst 3, 1) := by decide +kernel
theorem dX10_comes_62 : decode cX10_comes 62 = .ok (.iload 4, 2) := by decide +kernel
theorem dX10_comes_64 : decode cX10_comes 64 = .ok (.invokevirtual 85, 3) := by decide +kernel
theorem dX10_comes_67 : decode cX10_comes 67 = .ok (.aload_n 0, 1) := by decide +kernel
theorem dX10_comes_68 : decode cX10_comes 68 = .ok (.iload 6, 2) := by decide +kernel
theorem dX10_comes_70 : decode cX10_comes 70 = .ok (.iconst 4, 1) := by decide +kernel
theorem dX10_comes_71 : decode cX10_comes 71 = .ok (.iload 5, 2) := by decide +kernel
theorem dX10_comes_73 : decode cX10_comes 73 = .ok (.invokevirtual 85, 3) := by decide +kernel
theorem dX10_comes_76 : decode cX10_comes 76 = .ok (.aload_n 0, 1) := by decide +kernel
theorem dX10_comes_77 : decode cX10_comes 77 = .ok (.iload 6, 2) := by decide +kernel
theorem dX10_comes_79 : decode cX10_comes 79 = .ok (.bipush 7, 2) := by decide +kernel
theorem dX10_comes_81 : decode cX10_comes 81 = .ok (.bipush (-5), 2) := by decide +kernel
theorem dX10_comes_83 : decode cX10_comes 83 = .ok (.invokevirtual 85, 3) := by decide +kernel
theorem dX10_comes_86 : decode cX10_comes 86 = .ok (.aload_n 0, 1) := by decide +kernel
theorem dX10_comes_87 : decode cX10_comes 87 = .ok (.iload 6, 2) := by decide +kernel
theorem dX10_comes_89 : decode cX10_comes 89 = .ok (.bipush 8, 2) := by decide +kernel
theorem dX10_comes_91 : decode cX10_comes 91 = .ok (.bipush (-5), 2) := by decide +kernel
theorem dX10_comes_93 : decode cX10_comes 93 = .ok (.invokevirtual 85, 3) := by decide +kernel
theorem dX10_comes_96 : decode cX10_comes 96 = .ok (.aload_n 0, 1) := by decide +kernel
theorem dX10_comes_97 : decode cX10_comes 97 = .ok (.iload 6, 2) := by decide +kernel
theorem dX10_comes_99 : decode cX10_comes 99 = .ok (.bipush 9, 2) := by decide +kernel
theorem dX10_comes_101 : decode cX10_comes 101 = .ok (.bipush (-5), 2) := by decide +kernel
theorem dX10_comes_103 : decode cX10_comes 103 = .ok (.invokevirtual 85, 3) := by decide +kernel
theorem dX10_comes_106 : decode cX10_comes 106 = .ok (.aload_n 0, 1) := by decide +kernel
theorem dX10_comes_107 : decode cX10_comes 107 = .ok (.getfield 11, 3) := by decide +kernel
theorem dX10_comes_110 : decode cX10_comes 110 = .ok (.bipush 13, 2) := by decide +kernel
theorem dX10_comes_112 : decode cX10_comes 112 = .ok (.dup2, 1) := by decide +kernel
theorem dX10_comes_113 : decode cX10_comes 113 = .ok (.iaload, 1) := by decide +kernel
theorem dX10_comes_114 : decode cX10_comes 114 = .ok (.iconst 1, 1) := by decide +kernel
theorem dX10_comes_115 : decode cX10_comes 115 = .ok (.iadd, 1) := by decide +kernel
theorem dX10_comes_116 : decode cX10_comes 116 = .ok (.iastore, 1) := by decide +kernel
theorem dX10_comes_117 : decode cX10_comes 117 = .ok (.return_, 1) := by decide +kernel
theorem dX10_goesOn_0 : decode cX10_goesOn 0 = .ok (.aload_n 0, 1) := by decide +kernel
theorem dX10_goesOn_1 : decode cX10_goesOn 1 = .ok (.iload_n 1, 1) := by decide +kernel
theorem dX10_goesOn_2 : decode cX10_goesOn 2 = .ok (.bipush 12, 2) := by decide +kernel
theorem dX10_goesOn_4 : decode cX10_goesOn 4 = .ok (.aload_n 0, 1) := by decide +kernel
theorem dX10_goesOn_5 : decode cX10_goesOn 5 = .ok (.iload_n 1, 1) := by decide +kernel
theorem dX10_goesOn_6 : decode cX10_goesOn 6 = .ok (.bipush 11, 2) := by decide +kernel
theorem dX10_goesOn_8 : decode cX10_goesOn 8 = .ok (.invokevirtual 56, 3) := by decide +kernel
theorem dX10_goesOn_11 : decode cX10_goesOn 11 = .ok (.iadd, 1) := by decide +kernel
theorem dX10_goesOn_12 : decode cX10_goesOn 12 = .ok (.iload_n 2, 1) := by decide +kernel
theorem dX10_goesOn_13 : decode cX10_goesOn 13 = .ok (.invokevirtual 85, 3) := by decide +kernel
theorem dX10_goesOn_16 : decode cX10_goesOn 16 = .ok (.aload_n 0, 1) := by decide +kernel
theorem dX10_goesOn_17 : decode cX10_goesOn 17 = .ok (.iload_n 1, 1) := by decide +kernel
theorem dX10_goesOn_18 : decode cX10_goesOn 18 = .ok (.bipush 11, 2) := by decide +kernel
theorem dX10_goesOn_20 : decode cX10_goesOn 20 = .ok (.aload_n 0, 1) := by decide +kernel
theorem dX10_goesOn_21 : decode cX10_goesOn 21 = .ok (.iload_n 1, 1) := by decide +kernel
theorem dX10_goesOn_22 : decode cX10_goesOn 22 = .ok (.bipush 11, 2) := by decide +kernel
theorem dX10_goesOn_24 : decode cX10_goesOn 24 = .ok (.invokevirtual 56, 3) := by decide +kernel
theorem dX10_goesOn_27 : decode cX10_goesOn 27 = .ok (.iconst 1, 1) := by decide +kernel
theorem dX10_goesOn_28 : decode cX10_goesOn 28 = .ok (.iadd, 1) := by decide +kernel
theorem dX10_goesOn_29 : decode cX10_goesOn 29 = .ok (.invokevirtual 85, 3) := by decide +kernel
theorem dX10_goesOn_32 : decode cX10_goesOn 32 = .ok (.return_, 1) := by decide +kernel
theorem dX10_signal_0 : decode cX10_signal 0 = .ok (.iload_n 1, 1) := by decide +kernel
theorem dX10_signal_1 : decode cX10_signal 1 = .ok (.iconst 0, 1) := by decide +kernel
theorem dX10_signal_2 : decode cX10_signal 2 = .ok (.iconst 3, 1) := by decide +kernel
theorem dX10_signal_3 : decode cX10_signal 3 = .ok (.invokestatic 49, 3) := by decide +kernel
theorem dX10_signal_6 : decode cX10_signal 6 = .ok (.ifCond .eq 13, 3) := by decide +kernel
theorem dX10_signal_9 : decode cX10_signal 9 = .ok (.iload_n 2, 1) := by decide +kernel
theorem dX10_signal_10 : decode cX10_signal 10 = .ok (.iconst 0, 1) := by decide +kernel
theorem dX10_signal_11 : decode cX10_signal 11 = .ok (.bipush 63, 2) := by decide +kernel
theorem dX10_signal_13 : decode cX10_signal 13 = .ok (.invokestatic 49, 3) := by decide +kernel
theorem dX10_signal_16 : decode cX10_signal 16 = .ok (.ifCond .ne 6, 3) := by decide +kernel
theorem dX10_signal_19 : decode cX10_signal 19 = .ok (.bipush (-2), 2) := by decide +kernel
theorem dX10_signal_21 : decode cX10_signal 21 = .ok (.ireturn, 1) := by decide +kernel
theorem dX10_signal_22 : decode cX10_signal 22 = .ok (.aload_n 0, 1) := by decide +kernel
theorem dX10_signal_23 : decode cX10_signal 23 = .ok (.getfield 11, 3) := by decide +kernel
theorem dX10_signal_26 : decode cX10_signal 26 = .ok (.iconst 2, 1) := by decide +kernel
theorem dX10_signal_27 : decode cX10_signal 27 = .ok (.iaload, 1) := by decide +kernel
theorem dX10_signal_28 : decode cX10_signal 28 = .ok (.iconst 1, 1) := by decide +kernel
theorem dX10_signal_29 : decode cX10_signal 29 = .ok (.if_icmp .ne 6, 3) := by decide +kernel
theorem dX10_signal_32 : decode cX10_signal 32 = .ok (.bipush (-3), 2) := by decide +kernel
theorem dX10_signal_34 : decode cX10_signal 34 = .ok (.ireturn, 1) := by decide +kernel
theorem dX10_signal_35 : decode cX10_signal 35 = .ok (.aload_n 0, 1) := by decide +kernel
theorem dX10_signal_36 : decode cX10_signal 36 = .ok (.getfield 11, 3) := by decide +kernel
theorem dX10_signal_39 : decode cX10_signal 39 = .ok (.bipush 13, 2) := by decide +kernel
theorem dX10_signal_41 : decode cX10_signal 41 = .ok (.iaload, 1) := by decide +kernel
theorem dX10_signal_42 : decode cX10_signal 42 = .ok (.bipush 8, 2) := by decide +kernel
theorem dX10_signal_44 : decode cX10_signal 44 = .ok (.if_icmp .ne 6, 3) := by decide +kernel
theorem dX10_signal_47 : decode cX10_signal 47 = .ok (.bipush (-4), 2) := by decide +kernel
theorem dX10_signal_49 : decode cX10_signal 49 = .ok (.ireturn, 1) := by decide +kernel
theorem dX10_signal_50 : decode cX10_signal 50 = .ok (.aload_n 0, 1) := by decide +kernel
theorem dX10_signal_51 : decode cX10_signal 51 = .ok (.iload_n 1, 1) := by decide +kernel
theorem dX10_signal_52 : decode cX10_signal 52 = .ok (.iconst 5, 1) := by decide +kernel
theorem dX10_signal_53 : decode cX10_signal 53 = .ok (.bipush 40, 2) := by decide +kernel
theorem dX10_signal_55 : decode cX10_signal 55 = .ok (.iconst 3, 1) := by decide +kernel
theorem dX10_signal_56 : decode cX10_signal 56 = .ok (.iconst 0, 1) := by decide +kernel
theorem dX10_signal_57 : decode cX10_signal 57 = .ok (.invokevirtual 89, 3) := by decide +kernel
theorem dX10_signal_60 : decode cX10_signal 60 = .ok (.aload_n 0, 1) := by decide +kernel
theorem dX10_signal_61 : decode cX10_signal 61 = .ok (.aload_n 0, 1) := by decide +kernel
theorem dX10_signal_62 : decode cX10_signal 62 = .ok (.getfield 11, 3) := by decide +kernel
theorem dX10_signal_65 : decode cX10_signal 65 = .ok (.bipush 13, 2) := by decide +kernel
theorem dX10_signal_67 : decode cX10_signal 67 = .ok (.iaload, 1) := by decide +kernel
theorem dX10_signal_68 : decode cX10_signal 68 = .ok (.iconst 1, 1) := by decide +kernel
theorem dX10_signal_69 : decode cX10_signal 69 = .ok (.isub, 1) := by decide +kernel
theorem dX10_signal_70 : decode cX10_signal 70 = .ok (.iload_n 2, 1) := by decide +kernel
theorem dX10_signal_71 : decode cX10_signal 71 = .ok (.invokevirtual 93, 3) := by decide +kernel
theorem dX10_signal_74 : decode cX10_signal 74 = .ok (.aload_n 0, 1) := by decide +kernel
theorem dX10_signal_75 : decode cX10_signal 75 = .ok (.invokevirtual 46, 3) := by decide +kernel
theorem dX10_signal_78 : decode cX10_signal 78 = .ok (.aload_n 0, 1) := by decide +kernel
theorem dX10_signal_79 : decode cX10_signal 79 = .ok (.getfield 11, 3) := by decide +kernel
theorem dX10_signal_82 : decode cX10_signal 82 = .ok (.bipush 13, 2) := by decide +kernel
theorem dX10_signal_84 : decode cX10_signal 84 = .ok (.iaload, 1) := by decide +kernel
theorem dX10_signal_85 : decode cX10_signal 85 = .ok (.iconst 1, 1) := by decide +kernel
theorem dX10_signal_86 : decode cX10_signal 86 = .ok (.isub, 1) := by decide +kernel
theorem dX10_signal_87 : decode cX10_signal 87 = .ok (.ireturn, 1) := by decide +kernel
theorem dX10_goes_0 : decode cX10_goes 0 = .ok (.aload_n 0, 1) := by decide +kernel
theorem dX10_goes_1 : decode cX10_goes 1 = .ok (.iload_n 1, 1) := by decide +kernel
theorem dX10_goes_2 : decode cX10_goes 2 = .ok (.invokevirtual 96, 3) := by decide +kernel
theorem dX10_goes_5 : decode cX10_goes 5 = .ok (.ifCond .ne 5, 3) := by decide +kernel
theorem dX10_goes_8 : decode cX10_goes 8 = .ok (.iconst (-1), 1) := by decide +kernel
theorem dX10_goes_9 : decode cX10_goes 9 = .ok (.ireturn, 1) := by decide +kernel
theorem dX10_goes_10 : decode cX10_goes 10 = .ok (.iload_n 2, 1) := by decide +kernel
theorem dX10_goes_11 : decode cX10_goes 11 = .ok (.iconst 0, 1) := by decide +kernel
theorem dX10_goes_12 : decode cX10_goes 12 = .ok (.bipush 63, 2) := by decide +kernel
theorem dX10_goes_14 : decode cX10_goes 14 = .ok (.invokestatic 49, 3) := by decide +kernel
theorem dX10_goes_17 : decode cX10_goes 17 = .ok (.ifCond .eq 12, 3) := by decide +kernel
theorem dX10_goes_20 : decode cX10_goes 20 = .ok (.aload_n 0, 1) := by decide +kernel
theorem dX10_goes_21 : decode cX10_goes 21 = .ok (.iload_n 1, 1) := by decide +kernel
theorem dX10_goes_22 : decode cX10_goes 22 = .ok (.iload_n 2, 1) := by decide +kernel
theorem dX10_goes_23 : decode cX10_goes 23 = .ok (.invokevirtual 63, 3) := by decide +kernel
theorem dX10_goes_26 : decode cX10_goes 26 = .ok (.ifCond .lt 6, 3) := by decide +kernel
theorem dX10_goes_29 : decode cX10_goes 29 = .ok (.bipush (-2), 2) := by decide +kernel
theorem dX10_goes_31 : decode cX10_goes 31 = .ok (.ireturn, 1) := by decide +kernel
theorem dX10_goes_32 : decode cX10_goes 32 = .ok (.aload_n 0, 1) := by decide +kernel
theorem dX10_goes_33 : decode cX10_goes 33 = .ok (.getfield 11, 3) := by decide +kernel
theorem dX10_goes_36 : decode cX10_goes 36 = .ok (.bipush 14, 2) := by decide +kernel
theorem dX10_goes_38 : decode cX10_goes 38 = .ok (.iaload, 1) := by decide +kernel
theorem dX10_goes_39 : decode cX10_goes 39 = .ok (.ifCond .le 6, 3) := by decide +kernel
theorem dX10_goes_42 : decode cX10_goes 42 = .ok (.bipush (-3), 2) := by decide +kernel
theorem dX10_goes_44 : decode cX10_goes 44 = .ok (.ireturn, 1) := by decide +kernel
theorem dX10_goes_45 : decode cX10_goes 45 = .ok (.aload_n 0, 1) := by decide +kernel
theorem dX10_goes_46 : decode cX10_goes 46 = .ok (.iload_n 1, 1) := by decide +kernel
theorem dX10_goes_47 : decode cX10_goes 47 = .ok (.bipush 11, 2) := by decide +kernel
theorem dX10_goes_49 : decode cX10_goes 49 = .ok (.invokevirtual 56, 3) := by decide +kernel
theorem dX10_goes_52 : decode cX10_goes 52 = .ok (.bipush 8, 2) := by decide +kernel
theorem dX10_goes_54 : decode cX10_goes 54 = .ok (.if_icmp .ne 6, 3) := by decide +kernel
theorem dX10_goes_57 : decode cX10_goes 57 = .ok (.bipush (-4), 2) := by decide +kernel
theorem dX10_goes_59 : decode cX10_goes 59 = .ok (.ireturn, 1) := by decide +kernel
theorem dX10_goes_60 : decode cX10_goes 60 = .ok (.aload_n 0, 1) := by decide +kernel
theorem dX10_goes_61 : decode cX10_goes 61 = .ok (.iload_n 1, 1) := by decide +kernel
theorem dX10_goes_62 : decode cX10_goes 62 = .ok (.iload_n 2, 1) := by decide +kernel
theorem dX10_goes_63 : decode cX10_goes 63 = .ok (.invokevirtual 93, 3) := by decide +kernel
theorem dX10_goes_66 : decode cX10_goes 66 = .ok (.aload_n 0, 1) := by decide +kernel
theorem dX10_goes_67 : decode cX10_goes 67 = .ok (.invokevirtual 46, 3) := by decide +kernel
theorem dX10_goes_70 : decode cX10_goes 70 = .ok (.aload_n 0, 1) := by decide +kernel
theorem dX10_goes_71 : decode cX10_goes 71 = .ok (.iload_n 1, 1) := by decide +kernel
theorem dX10_goes_72 : decode cX10_goes 72 = .ok (.bipush 11, 2) := by decide +kernel
theorem dX10_goes_74 : decode cX10_goes 74 = .ok (.invokevirtual 56, 3) := by decide +kernel
theorem dX10_goes_77 : decode cX10_goes 77 = .ok (.ireturn, 1) := by decide +kernel
theorem dX10_tell_0 : decode cX10_tell 0 = .ok (.aload_n 0, 1) := by decide +kernel
theorem dX10_tell_1 : decode cX10_tell 1 = .ok (.iload_n 1, 1) := by decide +kernel
theorem dX10_tell_2 : decode cX10_tell 2 = .ok (.invokevirtual 96, 3) := by decide +kernel
theorem dX10_tell_5 : decode cX10_tell 5 = .ok (.ifCond .eq 12, 3) := by decide +kernel
theorem dX10_tell_8 : decode cX10_tell 8 = .ok (.iload_n 2, 1) := by decide +kernel
theorem dX10_tell_9 : decode cX10_tell 9 = .ok (.iconst 0, 1) := by decide +kernel
theorem dX10_tell_10 : decode cX10_tell 10 = .ok (.iconst 3, 1) := by decide +kernel
theorem dX10_tell_11 : decode cX10_tell 11 = .ok (.invokestatic 49, 3) := by decide +kernel
theorem dX10_tell_14 : decode cX10_tell 14 = .ok (.ifCond .ne 5, 3) := by decide +kernel
theorem dX10_tell_17 : decode cX10_tell 17 = .ok (.iconst (-1), 1) := by decide +kernel
theorem dX10_tell_18 : decode cX10_tell 18 = .ok (.ireturn, 1) := by decide +kernel
theorem dX10_tell_19 : decode cX10_tell 19 = .ok (.iload_n 2, 1) := by decide +kernel
theorem dX10_tell_20 : decode cX10_tell 20 = .ok (.ifCond .ne 22, 3) := by decide +kernel
theorem dX10_tell_23 : decode cX10_tell 23 = .ok (.iload_n 3, 1) := by decide +kernel
theorem dX10_tell_24 : decode cX10_tell 24 = .ok (.iconst 1, 1) := by decide +kernel
theorem dX10_tell_25 : decode cX10_tell 25 = .ok (.bipush 20, 2) := by decide +kernel
theorem dX10_tell_27 : decode cX10_tell 27 = .ok (.aload_n 0, 1) := by decide +kernel
theorem dX10_tell_28 : decode cX10_tell 28 = .ok (.iload_n 1, 1) := by decide +kernel
theorem dX10_tell_29 : decode cX10_tell 29 = .ok (.iconst 2, 1) := by decide +kernel
theorem dX10_tell_30 : decode cX10_tell 30 = .ok (.invokevirtual 56, 3) := by decide +kernel
theorem dX10_tell_33 : decode cX10_tell 33 = .ok (.invokestatic 100, 3) := by decide +kernel
theorem dX10_tell_36 : decode cX10_tell 36 = .ok (.invokestatic 49, 3) := by decide +kernel
theorem dX10_tell_39 : decode cX10_tell 39 = .ok (.goto 45, 3) := by decide +kernel
theorem dX10_tell_42 : decode cX10_tell 42 = .ok (.iload_n 2, 1) := by decide +kernel
theorem dX10_tell_43 : decode cX10_tell 43 = .ok (.iconst 1, 1) := by decide +kernel
theorem dX10_tell_44 : decode cX10_tell 44 = .ok (.if_icmp .ne 18, 3) := by decide +kernel
theorem dX10_tell_47 : decode cX10_tell 47 = .ok (.iload_n 3, 1) := by decide +kernel
theorem dX10_tell_48 : decode cX10_tell 48 = .ok (.aload_n 0, 1) := by decide +kernel
theorem dX10_tell_49 : decode cX10_tell 49 = .ok (.iload_n 1, 1) := by decide +kernel
theorem dX10_tell_50 : decode cX10_tell 50 = .ok (.iconst 1, 1) := by decide +kernel
theorem dX10_tell_51 : decode cX10_tell 51 = .ok (.invokevirtual 56, 3) := by decide +kernel
theorem dX10_tell_54 : decode cX10_tell 54 = .ok (.bipush 99, 2) := by decide +kernel
theorem dX10_tell_56 : decode cX10_tell 56 = .ok (.invokestatic 49, 3) := by decide +kernel
theorem dX10_tell_59 : decode cX10_tell 59 = .ok (.goto 25, 3) := by decide +kernel
theorem dX10_tell_62 : decode cX10_tell 62 = .ok (.iload_n 2, 1) := by decide +kernel
theorem dX10_tell_63 : decode cX10_tell 63 = .ok (.iconst 2, 1) := by decide +kernel
theorem dX10_tell_64 : decode cX10_tell 64 = .ok (.if_icmp .ne 13, 3) := by decide +kernel
theorem dX10_tell_67 : decode cX10_tell 67 = .ok (.iload_n 3, 1) := by decide +kernel
theorem dX10_tell_68 : decode cX10_tell 68 = .ok (.iconst 1, 1) := by decide +kernel
theorem dX10_tell_69 : decode cX10_tell 69 = .ok (.bipush 9, 2) := by decide +kernel
theorem dX10_tell_71 : decode cX10_tell 71 = .ok (.invokestatic 49, 3) := by decide +kernel
theorem dX10_tell_74 : decode cX10_tell 74 = .ok (.goto 10, 3) := by decide +kernel
theorem dX10_tell_77 : decode cX10_tell 77 = .ok (.iload_n 3, 1) := by decide +kernel
theorem dX10_tell_78 : decode cX10_tell 78 = .ok (.iconst 0, 1) := by decide +kernel
theorem dX10_tell_79 : decode cX10_tell 79 = .ok (.bipush 60, 2) := by decide +kernel
theorem dX10_tell_81 : decode cX10_tell 81 = .ok (.invokestatic 49, 3) := by decide +kernel
theorem dX10_tell_84 : decode cX10_tell 84 = .ok (.istore 4, 2) := by decide +kernel
theorem dX10_tell_86 : decode cX10_tell 86 = .ok (.iload 4, 2) := by decide +kernel
theorem dX10_tell_88 : decode cX10_tell 88 = .ok (.ifCond .ne 6, 3) := by decide +kernel
theorem dX10_tell_91 : decode cX10_tell 91 = .ok (.bipush (-2), 2) := by decide +kernel
theorem dX10_tell_93 : decode cX10_tell 93 = .ok (.ireturn, 1) := by decide +kernel
theorem dX10_tell_94 : decode cX10_tell 94 = .ok (.aload_n 0, 1) := by decide +kernel
theorem dX10_tell_95 : decode cX10_tell 95 = .ok (.iload_n 1, 1) := by decide +kernel
theorem dX10_tell_96 : decode cX10_tell 96 = .ok (.iconst 1, 1) := by decide +kernel
theorem dX10_tell_97 : decode cX10_tell 97 = .ok (.iload_n 2, 1) := by decide +kernel
theorem dX10_tell_98 : decode cX10_tell 98 = .ok (.iadd, 1) := by decide +kernel
theorem dX10_tell_99 : decode cX10_tell 99 = .ok (.invokevirtual 56, 3) := by decide +kernel
theorem dX10_tell_102 : decode cX10_tell 102 = .ok (.istore 5, 2) := by decide +kernel
theorem dX10_tell_104 : decode cX10_tell 104 = .ok (.aload_n 0, 1) := by decide +kernel
theorem dX10_tell_105 : decode cX10_tell 105 = .ok (.iload_n 1, 1) := by decide +kernel
theorem dX10_tell_106 : decode cX10_tell 106 = .ok (.iconst 1, 1) := by decide +kernel
theorem dX10_tell_107 : decode cX10_tell 107 = .ok (.iload_n 2, 1) := by decide +kernel
theorem dX10_tell_108 : decode cX10_tell 108 = .ok (.iadd, 1) := by decide +kernel
theorem dX10_tell_109 : decode cX10_tell 109 = .ok (.iload_n 3, 1) := by decide +kernel
theorem dX10_tell_110 : decode cX10_tell 110 = .ok (.invokevirtual 85, 3) := by decide +kernel
theorem dX10_tell_113 : decode cX10_tell 113 = .ok (.iload 5, 2) := by decide +kernel
theorem dX10_tell_115 : decode cX10_tell 115 = .ok (.ireturn, 1) := by decide +kernel
theorem dX10_feed_0 : decode cX10_feed 0 = .ok (.iload_n 1, 1) := by decide +kernel
theorem dX10_feed_1 : decode cX10_feed 1 = .ok (.iconst 0, 1) := by decide +kernel
theorem dX10_feed_2 : decode cX10_feed 2 = .ok (.bipush 127, 2) := by decide +kernel
theorem dX10_feed_4 : decode cX10_feed 4 = .ok (.invokestatic 49, 3) := by decide +kernel
theorem dX10_feed_7 : decode cX10_feed 7 = .ok (.ifCond .ne 6, 3) := by decide +kernel
theorem dX10_feed_10 : decode cX10_feed 10 = .ok (.bipush (-2), 2) := by decide +kernel
theorem dX10_feed_12 : decode cX10_feed 12 = .ok (.ireturn, 1) := by decide +kernel
theorem dX10_feed_13 : decode cX10_feed 13 = .ok (.aload_n 0, 1) := by decide +kernel
theorem dX10_feed_14 : decode cX10_feed 14 = .ok (.getfield 103, 3) := by decide +kernel
theorem dX10_feed_17 : decode cX10_feed 17 = .ok (.bipush 100, 2) := by decide +kernel
theorem dX10_feed_19 : decode cX10_feed 19 = .ok (.if_icmp .ne 6, 3) := by decide +kernel
theorem dX10_feed_22 : decode cX10_feed 22 = .ok (.bipush (-4), 2) := by decide +kernel
theorem dX10_feed_24 : decode cX10_feed 24 = .ok (.ireturn, 1) := by decide +kernel
theorem dX10_feed_25 : decode cX10_feed 25 = .ok (.aload_n 0, 1) := by decide +kernel
theorem dX10_feed_26 : decode cX10_feed 26 = .ok (.getfield 27, 3) := by decide +kernel
theorem dX10_feed_29 : decode cX10_feed 29 = .ok (.aload_n 0, 1) := by decide +kernel
theorem dX10_feed_30 : decode cX10_feed 30 = .ok (.getfield 103, 3) := by decide +kernel
theorem dX10_feed_33 : decode cX10_feed 33 = .ok (.iload_n 1, 1) := by decide +kernel
theorem dX10_feed_34 : decode cX10_feed 34 = .ok (.iastore, 1) := by decide +kernel
theorem dX10_feed_35 : decode cX10_feed 35 = .ok (.aload_n 0, 1) := by decide +kernel
theorem dX10_feed_36 : decode cX10_feed 36 = .ok (.dup, 1) := by decide +kernel
theorem dX10_feed_37 : decode cX10_feed 37 = .ok (.getfield 103, 3) := by decide +kernel
theorem dX10_feed_40 : decode cX10_feed 40 = .ok (.iconst 1, 1) := by decide +kernel
theorem dX10_feed_41 : decode cX10_feed 41 = .ok (.iadd, 1) := by decide +kernel
theorem dX10_feed_42 : decode cX10_feed 42 = .ok (.putfield 103, 3) := by decide +kernel
theorem dX10_feed_45 : decode cX10_feed 45 = .ok (.aload_n 0, 1) := by decide +kernel
theorem dX10_feed_46 : decode cX10_feed 46 = .ok (.getfield 103, 3) := by decide +kernel
theorem dX10_feed_49 : decode cX10_feed 49 = .ok (.ireturn, 1) := by decide +kernel
theorem dX10_fails_0 : decode cX10_fails 0 = .ok (.aload_n 0, 1) := by decide +kernel
theorem dX10_fails_1 : decode cX10_fails 1 = .ok (.getfield 107, 3) := by decide +kernel
theorem dX10_fails_4 : decode cX10_fails 4 = .ok (.ifCond .ge 8, 3) := by decide +kernel
theorem dX10_fails_7 : decode cX10_fails 7 = .ok (.aload_n 0, 1) := by decide +kernel
theorem dX10_fails_8 : decode cX10_fails 8 = .ok (.iload_n 1, 1) := by decide +kernel
theorem dX10_fails_9 : decode cX10_fails 9 = .ok (.putfield 107, 3) := by decide +kernel
theorem dX10_fails_12 : decode cX10_fails 12 = .ok (.return_, 1) := by decide +kernel
theorem dX10_takes_0 : decode cX10_takes 0 = .ok (.aload_n 0, 1) := by decide +kernel
theorem dX10_takes_1 : decode cX10_takes 1 = .ok (.getfield 107, 3) := by decide +kernel
theorem dX10_takes_4 : decode cX10_takes 4 = .ok (.ifCond .ge 31, 3) := by decide +kernel
theorem dX10_takes_7 : decode cX10_takes 7 = .ok (.aload_n 0, 1) := by decide +kernel
theorem dX10_takes_8 : decode cX10_takes 8 = .ok (.getfield 110, 3) := by decide +kernel
theorem dX10_takes_11 : decode cX10_takes 11 = .ok (.aload_n 0, 1) := by decide +kernel
theorem dX10_takes_12 : decode cX10_takes 12 = .ok (.getfield 103, 3) := by decide +kernel
theorem dX10_takes_15 : decode cX10_takes 15 = .ok (.if_icmp .ge 20, 3) := by decide +kernel
theorem dX10_takes_18 : decode cX10_takes 18 = .ok (.aload_n 0, 1) := by decide +kernel
theorem dX10_takes_19 : decode cX10_takes 19 = .ok (.getfield 27, 3) := by decide +kernel
theorem dX10_takes_22 : decode cX10_takes 22 = .ok (.aload_n 0, 1) := by decide +kernel
theorem dX10_takes_23 : decode cX10_takes 23 = .ok (.getfield 110, 3) := by decide +kernel
theorem dX10_takes_26 : decode cX10_takes 26 = .ok (.iaload, 1) := by decide +kernel
theorem dX10_takes_27 : decode cX10_takes 27 = .ok (.iload_n 1, 1) := by decide +kernel
theorem dX10_takes_28 : decode cX10_takes 28 = .ok (.if_icmp .ne 7, 3) := by decide +kernel
theorem dX10_takes_31 : decode cX10_takes 31 = .ok (.iconst 1, 1) := by decide +kernel
theorem dX10_takes_32 : decode cX10_takes 32 = .ok (.goto 4, 3) := by decide +kernel
theorem dX10_takes_35 : decode cX10_takes 35 = .ok (.iconst 0, 1) := by decide +kernel
theorem dX10_takes_36 : decode cX10_takes 36 = .ok (.istore_n 2, 1) := by decide +kernel
theorem dX10_takes_37 : decode cX10_takes 37 = .ok (.aload_n 0, 1) := by decide +kernel
theorem dX10_takes_38 : decode cX10_takes 38 = .ok (.dup, 1) := by decide +kernel
theorem dX10_takes_39 : decode cX10_takes 39 = .ok (.getfield 110, 3) := by decide +kernel
theorem dX10_takes_42 : decode cX10_takes 42 = .ok (.iload_n 2, 1) := by decide +kernel
theorem dX10_takes_43 : decode cX10_takes 43 = .ok (.ifCond .eq 7, 3) := by decide +kernel
theorem dX10_takes_46 : decode cX10_takes 46 = .ok (.iconst 1, 1) := by decide +kernel
theorem dX10_takes_47 : decode cX10_takes 47 = .ok (.goto 4, 3) := by decide +kernel
theorem dX10_takes_50 : decode cX10_takes 50 = .ok (.iconst 0, 1) := by decide +kernel
theorem dX10_takes_51 : decode cX10_takes 51 = .ok (.iadd, 1) := by decide +kernel
theorem dX10_takes_52 : decode cX10_takes 52 = .ok (.putfield 110, 3) := by decide +kernel
theorem dX10_takes_55 : decode cX10_takes 55 = .ok (.iload_n 2, 1) := by decide +kernel
theorem dX10_takes_56 : decode cX10_takes 56 = .ok (.ireturn, 1) := by decide +kernel
theorem dX10_sees_0 : decode cX10_sees 0 = .ok (.aload_n 0, 1) := by decide +kernel
theorem dX10_sees_1 : decode cX10_sees 1 = .ok (.getfield 107, 3) := by decide +kernel
theorem dX10_sees_4 : decode cX10_sees 4 = .ok (.ifCond .ge 35, 3) := by decide +kernel
theorem dX10_sees_7 : decode cX10_sees 7 = .ok (.aload_n 0, 1) := by decide +kernel
theorem dX10_sees_8 : decode cX10_sees 8 = .ok (.getfield 110, 3) := by decide +kernel
theorem dX10_sees_11 : decode cX10_sees 11 = .ok (.aload_n 0, 1) := by decide +kernel
theorem dX10_sees_12 : decode cX10_sees 12 = .ok (.getfield 103, 3) := by decide +kernel
theorem dX10_sees_15 : decode cX10_sees 15 = .ok (.if_icmp .ge 24, 3) := by decide +kernel
theorem dX10_sees_18 : decode cX10_sees 18 = .ok (.aload_n 0, 1) := by decide +kernel
theorem dX10_sees_19 : decode cX10_sees 19 = .ok (.getfield 27, 3) := by decide +kernel
theorem dX10_sees_22 : decode cX10_sees 22 = .ok (.aload_n 0, 1) := by decide +kernel
theorem dX10_sees_23 : decode cX10_sees 23 = .ok (.getfield 110, 3) := by decide +kernel
theorem dX10_sees_26 : decode cX10_sees 26 = .ok (.iaload, 1) := by decide +kernel
theorem dX10_sees_27 : decode cX10_sees 27 = .ok (.iload_n 1, 1) := by decide +kernel
theorem dX10_sees_28 : decode cX10_sees 28 = .ok (.iload_n 2, 1) := by decide +kernel
theorem dX10_sees_29 : decode cX10_sees 29 = .ok (.invokestatic 49, 3) := by decide +kernel
theorem dX10_sees_32 : decode cX10_sees 32 = .ok (.ifCond .eq 7, 3) := by decide +kernel
theorem dX10_sees_35 : decode cX10_sees 35 = .ok (.iconst 1, 1) := by decide +kernel
theorem dX10_sees_36 : decode cX10_sees 36 = .ok (.goto 4, 3) := by decide +kernel
theorem dX10_sees_39 : decode cX10_sees 39 = .ok (.iconst 0, 1) := by decide +kernel
theorem dX10_sees_40 : decode cX10_sees 40 = .ok (.ireturn, 1) := by decide +kernel
theorem dX10_number_0 : decode cX10_number 0 = .ok (.aload_n 0, 1) := by decide +kernel
theorem dX10_number_1 : decode cX10_number 1 = .ok (.getfield 110, 3) := by decide +kernel
theorem dX10_number_4 : decode cX10_number 4 = .ok (.istore 4, 2) := by decide +kernel
theorem dX10_number_6 : decode cX10_number 6 = .ok (.iconst 0, 1) := by decide +kernel
theorem dX10_number_7 : decode cX10_number 7 = .ok (.istore 5, 2) := by decide +kernel
theorem dX10_number_9 : decode cX10_number 9 = .ok (.aload_n 0, 1) := by decide +kernel
theorem dX10_number_10 : decode cX10_number 10 = .ok (.getfield 110, 3) := by decide +kernel
theorem dX10_number_13 : decode cX10_number 13 = .ok (.iload 4, 2) := by decide +kernel
theorem dX10_number_15 : decode cX10_number 15 = .ok (.iload_n 1, 1) := by decide +kernel
theorem dX10_number_16 : decode cX10_number 16 = .ok (.iadd, 1) := by decide +kernel
theorem dX10_number_17 : decode cX10_number 17 = .ok (.if_icmp .ge 47, 3) := by decide +kernel
theorem dX10_number_20 : decode cX10_number 20 = .ok (.aload_n 0, 1) := by decide +kernel
theorem dX10_number_21 : decode cX10_number 21 = .ok (.bipush 48, 2) := by decide +kernel
theorem dX10_number_23 : decode cX10_number 23 = .ok (.bipush 57, 2) := by decide +kernel
theorem dX10_number_25 : decode cX10_number 25 = .ok (.invokevirtual 112, 3) := by decide +kernel
theorem dX10_number_28 : decode cX10_number 28 = .ok (.ifCond .eq 36, 3) := by decide +kernel
theorem dX10_number_31 : decode cX10_number 31 = .ok (.bipush 10, 2) := by decide +kernel
theorem dX10_number_33 : decode cX10_number 33 = .ok (.iload 5, 2) := by decide +kernel
theorem dX10_number_35 : decode cX10_number 35 = .ok (.imul, 1) := by decide +kernel
theorem dX10_number_36 : decode cX10_number 36 = .ok (.aload_n 0, 1) := by decide +kernel
theorem dX10_number_37 : decode cX10_number 37 = .ok (.getfield 27, 3) := by decide +kernel
theorem dX10_number_40 : decode cX10_number 40 = .ok (.aload_n 0, 1) := by decide +kernel
theorem dX10_number_41 : decode cX10_number 41 = .ok (.getfield 110, 3) := by decide +kernel
theorem dX10_number_44 : decode cX10_number 44 = .ok (.iaload, 1) := by decide +kernel
theorem dX10_number_45 : decode cX10_number 45 = .ok (.iadd, 1) := by decide +kernel
theorem dX10_number_46 : decode cX10_number 46 = .ok (.bipush 48, 2) := by decide +kernel
theorem dX10_number_48 : decode cX10_number 48 = .ok (.isub, 1) := by decide +kernel
theorem dX10_number_49 : decode cX10_number 49 = .ok (.istore 5, 2) := by decide +kernel
theorem dX10_number_51 : decode cX10_number 51 = .ok (.aload_n 0, 1) := by decide +kernel
theorem dX10_number_52 : decode cX10_number 52 = .ok (.dup, 1) := by decide +kernel
theorem dX10_number_53 : decode cX10_number 53 = .ok (.getfield 110, 3) := by decide +kernel
theorem dX10_number_56 : decode cX10_number 56 = .ok (.iconst 1, 1) := by decide +kernel
theorem dX10_number_57 : decode cX10_number 57 = .ok (.iadd, 1) := by decide +kernel
theorem dX10_number_58 : decode cX10_number 58 = .ok (.putfield 110, 3) := by decide +kernel
theorem dX10_number_61 : decode cX10_number 61 = .ok (.goto (-52), 3) := by decide +kernel
theorem dX10_number_64 : decode cX10_number 64 = .ok (.aload_n 0, 1) := by decide +kernel
theorem dX10_number_65 : decode cX10_number 65 = .ok (.getfield 110, 3) := by decide +kernel
theorem dX10_number_68 : decode cX10_number 68 = .ok (.iload 4, 2) := by decide +kernel
theorem dX10_number_70 : decode cX10_number 70 = .ok (.if_icmp .ne 11, 3) := by decide +kernel
theorem dX10_number_73 : decode cX10_number 73 = .ok (.aload_n 0, 1) := by decide +kernel
theorem dX10_number_74 : decode cX10_number 74 = .ok (.aload_n 0, 1) := by decide +kernel
theorem dX10_number_75 : decode cX10_number 75 = .ok (.getfield 110, 3) := by decide +kernel
theorem dX10_number_78 : decode cX10_number 78 = .ok (.invokevirtual 115, 3) := by decide +kernel
theorem dX10_number_81 : decode cX10_number 81 = .ok (.iload 5, 2) := by decide +kernel
theorem dX10_number_83 : decode cX10_number 83 = .ok (.iload_n 2, 1) := by decide +kernel
theorem dX10_number_84 : decode cX10_number 84 = .ok (.iload_n 3, 1) := by decide +kernel
theorem dX10_number_85 : decode cX10_number 85 = .ok (.invokestatic 49, 3) := by decide +kernel
theorem dX10_number_88 : decode cX10_number 88 = .ok (.ifCond .ne 13, 3) := by decide +kernel
theorem dX10_number_91 : decode cX10_number 91 = .ok (.aload_n 0, 1) := by decide +kernel
theorem dX10_number_92 : decode cX10_number 92 = .ok (.aload_n 0, 1) := by decide +kernel
theorem dX10_number_93 : decode cX10_number 93 = .ok (.getfield 110, 3) := by decide +kernel
theorem dX10_number_96 : decode cX10_number 96 = .ok (.iconst 1, 1) := by decide +kernel
theorem dX10_number_97 : decode cX10_number 97 = .ok (.isub, 1) := by decide +kernel
theorem dX10_number_98 : decode cX10_number 98 = .ok (.invokevirtual 115, 3) := by decide +kernel
theorem dX10_number_101 : decode cX10_number 101 = .ok (.iload 5, 2) := by decide +kernel
theorem dX10_number_103 : decode cX10_number 103 = .ok (.ireturn, 1) := by decide +kernel
theorem dX10_kindOf_0 : decode cX10_kindOf 0 = .ok (.iload_n 0, 1) := by decide +kernel
theorem dX10_kindOf_1 : decode cX10_kindOf 1 = .ok (.bipush 99, 2) := by decide +kernel
theorem dX10_kindOf_3 : decode cX10_kindOf 3 = .ok (.if_icmp .ne 7, 3) := by decide +kernel
theorem dX10_kindOf_6 : decode cX10_kindOf 6 = .ok (.iconst 0, 1) := by decide +kernel
theorem dX10_kindOf_7 : decode cX10_kindOf 7 = .ok (.goto 34, 3) := by decide +kernel
theorem dX10_kindOf_10 : decode cX10_kindOf 10 = .ok (.iload_n 0, 1) := by decide +kernel
theorem dX10_kindOf_11 : decode cX10_kindOf 11 = .ok (.bipush 119, 2) := by decide +kernel
theorem dX10_kindOf_13 : decode cX10_kindOf 13 = .ok (.if_icmp .ne 7, 3) := by decide +kernel
theorem dX10_kindOf_16 : decode cX10_kindOf 16 = .ok (.iconst 1, 1) := by decide +kernel
theorem dX10_kindOf_17 : decode cX10_kindOf 17 = .ok (.goto 24, 3) := by decide +kernel
theorem dX10_kindOf_20 : decode cX10_kindOf 20 = .ok (.iload_n 0, 1) := by decide +kernel
theorem dX10_kindOf_21 : decode cX10_kindOf 21 = .ok (.bipush 116, 2) := by decide +kernel
theorem dX10_kindOf_23 : decode cX10_kindOf 23 = .ok (.if_icmp .ne 7, 3) := by decide +kernel
theorem dX10_kindOf_26 : decode cX10_kindOf 26 = .ok (.iconst 2, 1) := by decide +kernel
theorem dX10_kindOf_27 : decode cX10_kindOf 27 = .ok (.goto 14, 3) := by decide +kernel
theorem dX10_kindOf_30 : decode cX10_kindOf 30 = .ok (.iload_n 0, 1) := by decide +kernel
theorem dX10_kindOf_31 : decode cX10_kindOf 31 = .ok (.bipush 98, 2) := by decide +kernel
theorem dX10_kindOf_33 : decode cX10_kindOf 33 = .ok (.if_icmp .ne 7, 3) := by decide +kernel
theorem dX10_kindOf_36 : decode cX10_kindOf 36 = .ok (.iconst 3, 1) := by decide +kernel
theorem dX10_kindOf_37 : decode cX10_kindOf 37 = .ok (.goto 4, 3) := by decide +kernel
theorem dX10_kindOf_40 : decode cX10_kindOf 40 = .ok (.iconst (-1), 1) := by decide +kernel
theorem dX10_kindOf_41 : decode cX10_kindOf 41 = .ok (.ireturn, 1) := by decide +kernel
theorem dX10_clause_0 : decode cX10_clause 0 = .ok (.aload_n 0, 1) := by decide +kernel
theorem dX10_clause_1 : decode cX10_clause 1 = .ok (.getfield 30, 3) := by decide +kernel
theorem dX10_clause_4 : decode cX10_clause 4 = .ok (.iload_n 1, 1) := by decide +kernel
theorem dX10_clause_5 : decode cX10_clause 5 = .ok (.aload_n 0, 1) := by decide +kernel
theorem dX10_clause_6 : decode cX10_clause 6 = .ok (.getfield 107, 3) := by decide +kernel
theorem dX10_clause_9 : decode cX10_clause 9 = .ok (.ifCond .ge 29, 3) := by decide +kernel
theorem dX10_clause_12 : decode cX10_clause 12 = .ok (.aload_n 0, 1) := by decide +kernel
theorem dX10_clause_13 : decode cX10_clause 13 = .ok (.getfield 110, 3) := by decide +kernel
theorem dX10_clause_16 : decode cX10_clause 16 = .ok (.aload_n 0, 1) := by decide +kernel
theorem dX10_clause_17 : decode cX10_clause 17 = .ok (.getfield 103, 3) := by decide +kernel
theorem dX10_clause_20 : decode cX10_clause 20 = .ok (.if_icmp .ge 18, 3) := by decide +kernel
theorem dX10_clause_23 : decode cX10_clause 23 = .ok (.aload_n 0, 1) := by decide +kernel
theorem dX10_clause_24 : decode cX10_clause 24 = .ok (.getfield 27, 3) := by decide +kernel
theorem dX10_clause_27 : decode cX10_clause 27 = .ok (.aload_n 0, 1) := by decide +kernel
theorem dX10_clause_28 : decode cX10_clause 28 = .ok (.getfield 110, 3) := by decide +kernel
theorem dX10_clause_31 : decode cX10_clause 31 = .ok (.iaload, 1) := by decide +kernel
theorem dX10_clause_32 : decode cX10_clause 32 = .ok (.invokestatic 119, 3) := by decide +kernel
theorem dX10_clause_35 : decode cX10_clause 35 = .ok (.goto 4, 3) := by decide +kernel
theorem dX10_clause_38 : decode cX10_clause 38 = .ok (.iconst (-1), 1) := by decide +kernel
theorem dX10_clause_39 : decode cX10_clause 39 = .ok (.iastore, 1) := by decide +kernel
theorem dX10_clause_40 : decode cX10_clause 40 = .ok (.aload_n 0, 1) := by decide +kernel
theorem dX10_clause_41 : decode cX10_clause 41 = .ok (.getfield 30, 3) := by decide +kernel
theorem dX10_clause_44 : decode cX10_clause 44 = .ok (.iload_n 1, 1) := by decide +kernel
theorem dX10_clause_45 : decode cX10_clause 45 = .ok (.iaload, 1) := by decide +kernel
theorem dX10_clause_46 : decode cX10_clause 46 = .ok (.ifCond .ge 12, 3) := by decide +kernel
theorem dX10_clause_49 : decode cX10_clause 49 = .ok (.aload_n 0, 1) := by decide +kernel
theorem dX10_clause_50 : decode cX10_clause 50 = .ok (.aload_n 0, 1) := by decide +kernel
theorem dX10_clause_51 : decode cX10_clause 51 = .ok (.getfield 110, 3) := by decide +kernel
theorem dX10_clause_54 : decode cX10_clause 54 = .ok (.invokevirtual 115, 3) := by decide +kernel
theorem dX10_clause_57 : decode cX10_clause 57 = .ok (.return_, 1) := by decide +kernel
theorem dX10_clause_58 : decode cX10_clause 58 = .ok (.aload_n 0, 1) := by decide +kernel
theorem dX10_clause_59 : decode cX10_clause 59 = .ok (.dup, 1) := by decide +kernel
theorem dX10_clause_60 : decode cX10_clause 60 = .ok (.getfield 110, 3) := by decide +kernel
theorem dX10_clause_63 : decode cX10_clause 63 = .ok (.iconst 1, 1) := by decide +kernel
theorem dX10_clause_64 : decode cX10_clause 64 = .ok (.iadd, 1) := by decide +kernel
theorem dX10_clause_65 : decode cX10_clause 65 = .ok (.putfield 110, 3) := by decide +kernel
theorem dX10_clause_68 : decode cX10_clause 68 = .ok (.iconst 0, 1) := by decide +kernel
theorem dX10_clause_69 : decode cX10_clause 69 = .ok (.istore_n 2, 1) := by decide +kernel
theorem dX10_clause_70 : decode cX10_clause 70 = .ok (.iload_n 2, 1) := by decide +kernel
theorem dX10_clause_71 : decode cX10_clause 71 = .ok (.ifCond .eq 20, 3) := by decide +kernel
theorem dX10_clause_74 : decode cX10_clause 74 = .ok (.iload_n 2, 1) := by decide +kernel
theorem dX10_clause_75 : decode cX10_clause 75 = .ok (.bipush 8, 2) := by decide +kernel
theorem dX10_clause_77 : decode cX10_clause 77 = .ok (.if_icmp .ge 174, 3) := by decide +kernel
theorem dX10_clause_80 : decode cX10_clause 80 = .ok (.aload_n 0, 1) := by decide +kernel
theorem dX10_clause_81 : decode cX10_clause 81 = .ok (.bipush 97, 2) := by decide +kernel
theorem dX10_clause_83 : decode cX10_clause 83 = .ok (.bipush 104, 2) := by decide +kernel
theorem dX10_clause_85 : decode cX10_clause 85 = .ok (.invokevirtual 112, 3) := by decide +kernel
theorem dX10_clause_88 : decode cX10_clause 88 = .ok (.ifCond .eq 163, 3) := by decide +kernel
theorem dX10_clause_91 : decode cX10_clause 91 = .ok (.aload_n 0, 1) := by decide +kernel
theorem dX10_clause_92 : decode cX10_clause 92 = .ok (.bipush 97, 2) := by decide +kernel
theorem dX10_clause_94 : decode cX10_clause 94 = .ok (.bipush 104, 2) := by decide +kernel
theorem dX10_clause_96 : decode cX10_clause 96 = .ok (.invokevirtual 112, 3) := by decide +kernel
theorem dX10_clause_99 : decode cX10_clause 99 = .ok (.ifCond .ne 12, 3) := by decide +kernel
theorem dX10_clause_102 : decode cX10_clause 102 = .ok (.aload_n 0, 1) := by decide +kernel
theorem dX10_clause_103 : decode cX10_clause 103 = .ok (.aload_n 0, 1) := by decide +kernel
theorem dX10_clause_104 : decode cX10_clause 104 = .ok (.getfield 110, 3) := by decide +kernel
theorem dX10_clause_107 : decode cX10_clause 107 = .ok (.invokevirtual 115, 3) := by decide +kernel
theorem dX10_clause_110 : decode cX10_clause 110 = .ok (.return_, 1) := by decide +kernel
theorem dX10_clause_111 : decode cX10_clause 111 = .ok (.aload_n 0, 1) := by decide +kernel
theorem dX10_clause_112 : decode cX10_clause 112 = .ok (.getfield 27, 3) := by decide +kernel
theorem dX10_clause_115 : decode cX10_clause 115 = .ok (.aload_n 0, 1) := by decide +kernel
theorem dX10_clause_116 : decode cX10_clause 116 = .ok (.getfield 110, 3) := by decide +kernel
theorem dX10_clause_119 : decode cX10_clause 119 = .ok (.iaload, 1) := by decide +kernel
theorem dX10_clause_120 : decode cX10_clause 120 = .ok (.bipush 97, 2) := by decide +kernel
theorem dX10_clause_122 : decode cX10_clause 122 = .ok (.isub, 1) := by decide +kernel
theorem dX10_clause_123 : decode cX10_clause 123 = .ok (.istore_n 3, 1) := by decide +kernel
theorem dX10_clause_124 : decode cX10_clause 124 = .ok (.aload_n 0, 1) := by decide +kernel
theorem dX10_clause_125 : decode cX10_clause 125 = .ok (.dup, 1) := by decide +kernel
theorem dX10_clause_126 : decode cX10_clause 126 = .ok (.getfield 110, 3) := by decide +kernel
theorem dX10_clause_129 : decode cX10_clause 129 = .ok (.iconst 1, 1) := by decide +kernel
theorem dX10_clause_130 : decode cX10_clause 130 = .ok (.iadd, 1) := by decide +kernel
theorem dX10_clause_131 : decode cX10_clause 131 = .ok (.putfield 110, 3) := by decide +kernel
theorem dX10_clause_134 : decode cX10_clause 134 = .ok (.aload_n 0, 1) := by decide +kernel
theorem dX10_clause_135 : decode cX10_clause 135 = .ok (.bipush 49, 2) := by decide +kernel
theorem dX10_clause_137 : decode cX10_clause 137 = .ok (.bipush 56, 2) := by decide +kernel
theorem dX10_clause_139 : decode cX10_clause 139 = .ok (.invokevirtual 112, 3) := by decide +kernel
theorem dX10_clause_142 : decode cX10_clause 142 = .ok (.ifCond .ne 12, 3) := by decide +kernel
theorem dX10_clause_145 : decode cX10_clause 145 = .ok (.aload_n 0, 1) := by decide +kernel
theorem dX10_clause_146 : decode cX10_clause 146 = .ok (.aload_n 0, 1) := by decide +kernel
theorem dX10_clause_147 : decode cX10_clause 147 = .ok (.getfield 110, 3) := by decide +kernel
theorem dX10_clause_150 : decode cX10_clause 150 = .ok (.invokevirtual 115, 3) := by decide +kernel
theorem dX10_clause_153 : decode cX10_clause 153 = .ok (.return_, 1) := by decide +kernel
theorem dX10_clause_154 : decode cX10_clause 154 = .ok (.iload_n 3, 1) := by decide +kernel
theorem dX10_clause_155 : decode cX10_clause 155 = .ok (.bipush 8, 2) := by decide +kernel
theorem dX10_clause_157 : decode cX10_clause 157 = .ok (.aload_n 0, 1) := by decide +kernel
theorem dX10_clause_158 : decode cX10_clause 158 = .ok (.getfield 27, 3) := by decide +kernel
theorem dX10_clause_161 : decode cX10_clause 161 = .ok (.aload_n 0, 1) := by decide +kernel
theorem dX10_clause_162 : decode cX10_clause 162 = .ok (.getfield 110, 3) := by decide +kernel
theorem dX10_clause_165 : decode cX10_clause 165 = .ok (.iaload, 1) := by decide +kernel
theorem dX10_clause_166 : decode cX10_clause 166 = .ok (.bipush 49, 2) := by decide +kernel
theorem dX10_clause_168 : decode cX10_clause 168 = .ok (.isub, 1) := by decide +kernel
theorem dX10_clause_169 : decode cX10_clause 169 = .ok (.imul, 1) := by decide +kernel
theorem dX10_clause_170 : decode cX10_clause 170 = .ok (.iadd, 1) := by decide +kernel
theorem dX10_clause_171 : decode cX10_clause 171 = .ok (.istore 4, 2) := by decide +kernel
theorem dX10_clause_173 : decode cX10_clause 173 = .ok (.iconst 0, 1) := by decide +kernel
theorem dX10_clause_174 : decode cX10_clause 174 = .ok (.istore 5, 2) := by decide +kernel
theorem dX10_clause_176 : decode cX10_clause 176 = .ok (.iload 5, 2) := by decide +kernel
theorem dX10_clause_178 : decode cX10_clause 178 = .ok (.iload_n 2, 1) := by decide +kernel
theorem dX10_clause_179 : decode cX10_clause 179 = .ok (.if_icmp .ge 34, 3) := by decide +kernel
theorem dX10_clause_182 : decode cX10_clause 182 = .ok (.aload_n 0, 1) := by decide +kernel
theorem dX10_clause_183 : decode cX10_clause 183 = .ok (.getfield 30, 3) := by decide +kernel
theorem dX10_clause_186 : decode cX10_clause 186 = .ok (.iload_n 1, 1) := by decide +kernel
theorem dX10_clause_187 : decode cX10_clause 187 = .ok (.bipush 6, 2) := by decide +kernel
theorem dX10_clause_189 : decode cX10_clause 189 = .ok (.iadd, 1) := by decide +kernel
theorem dX10_clause_190 : decode cX10_clause 190 = .ok (.iload 5, 2) := by decide +kernel
theorem dX10_clause_192 : decode cX10_clause 192 = .ok (.iadd, 1) := by decide +kernel
theorem dX10_clause_193 : decode cX10_clause 193 = .ok (.iaload, 1) := by decide +kernel
theorem dX10_clause_194 : decode cX10_clause 194 = .ok (.iload 4, 2) := by decide +kernel
theorem dX10_clause_196 : decode cX10_clause 196 = .ok (.if_icmp .ne 11, 3) := by decide +kernel
theorem dX10_clause_199 : decode cX10_clause 199 = .ok (.aload_n 0, 1) := by decide +kernel
theorem dX10_clause_200 : decode cX10_clause 200 = .ok (.aload_n 0, 1) := by decide +kernel
theorem dX10_clause_201 : decode cX10_clause 201 = .ok (.getfield 110, 3) := by decide +kernel
theorem dX10_clause_204 : decode cX10_clause 204 = .ok (.invokevirtual 115, 3) := by decide +kernel
theorem dX10_clause_207 : decode cX10_clause 207 = .ok (.iinc 5 1, 3) := by decide +kernel
theorem dX10_clause_210 : decode cX10_clause 210 = .ok (.goto (-34), 3) := by decide +kernel
theorem dX10_clause_213 : decode cX10_clause 213 = .ok (.aload_n 0, 1) := by decide +kernel
theorem dX10_clause_214 : decode cX10_clause 214 = .ok (.dup, 1) := by decide +kernel
theorem dX10_clause_215 : decode cX10_clause 215 = .ok (.getfield 110, 3) := by decide +kernel
theorem dX10_clause_218 : decode cX10_clause 218 = .ok (.iconst 1, 1) := by decide +kernel
theorem dX10_clause_219 : decode cX10_clause 219 = .ok (.iadd, 1) := by decide +kernel
theorem dX10_clause_220 : decode cX10_clause 220 = .ok (.putfield 110, 3) := by decide +kernel
theorem dX10_clause_223 : decode cX10_clause 223 = .ok (.aload_n 0, 1) := by decide +kernel
theorem dX10_clause_224 : decode cX10_clause 224 = .ok (.getfield 30, 3) := by decide +kernel
theorem dX10_clause_227 : decode cX10_clause 227 = .ok (.iload_n 1, 1) := by decide +kernel
theorem dX10_clause_228 : decode cX10_clause 228 = .ok (.bipush 6, 2) := by decide +kernel
theorem dX10_clause_230 : decode cX10_clause 230 = .ok (.iadd, 1) := by decide +kernel
theorem dX10_clause_231 : decode cX10_clause 231 = .ok (.iload_n 2, 1) := by decide +kernel
theorem dX10_clause_232 : decode cX10_clause 232 = .ok (.iadd, 1) := by decide +kernel
theorem dX10_clause_233 : decode cX10_clause 233 = .ok (.iload 4, 2) := by decide +kernel
theorem dX10_clause_235 : decode cX10_clause 235 = .ok (.iastore, 1) := by decide +kernel
theorem dX10_clause_236 : decode cX10_clause 236 = .ok (.iinc 2 1, 3) := by decide +kernel
theorem dX10_clause_239 : decode cX10_clause 239 = .ok (.aload_n 0, 1) := by decide +kernel
theorem dX10_clause_240 : decode cX10_clause 240 = .ok (.getfield 30, 3) := by decide +kernel
theorem dX10_clause_243 : decode cX10_clause 243 = .ok (.iload_n 1, 1) := by decide +kernel
theorem dX10_clause_244 : decode cX10_clause 244 = .ok (.iconst 5, 1) := by decide +kernel
theorem dX10_clause_245 : decode cX10_clause 245 = .ok (.iadd, 1) := by decide +kernel
theorem dX10_clause_246 : decode cX10_clause 246 = .ok (.iload_n 2, 1) := by decide +kernel
theorem dX10_clause_247 : decode cX10_clause 247 = .ok (.iastore, 1) := by decide +kernel
theorem dX10_clause_248 : decode cX10_clause 248 = .ok (.goto (-178), 3) := by decide +kernel
theorem dX10_clause_251 : decode cX10_clause 251 = .ok (.aload_n 0, 1) := by decide +kernel
theorem dX10_clause_252 : decode cX10_clause 252 = .ok (.getfield 30, 3) := by decide +kernel
theorem dX10_clause_255 : decode cX10_clause 255 = .ok (.iload_n 1, 1) := by decide +kernel
theorem dX10_clause_256 : decode cX10_clause 256 = .ok (.iconst 1, 1) := by decide +kernel
theorem dX10_clause_257 : decode cX10_clause 257 = .ok (.iadd, 1) := by decide +kernel
theorem dX10_clause_258 : decode cX10_clause 258 = .ok (.aload_n 0, 1) := by decide +kernel
theorem dX10_clause_259 : decode cX10_clause 259 = .ok (.bipush 42, 2) := by decide +kernel
theorem dX10_clause_261 : decode cX10_clause 261 = .ok (.invokevirtual 122, 3) := by decide +kernel
theorem dX10_clause_264 : decode cX10_clause 264 = .ok (.ifCond .eq 14, 3) := by decide +kernel
theorem dX10_clause_267 : decode cX10_clause 267 = .ok (.aload_n 0, 1) := by decide +kernel
theorem dX10_clause_268 : decode cX10_clause 268 = .ok (.iconst 2, 1) := by decide +kernel
theorem dX10_clause_269 : decode cX10_clause 269 = .ok (.iconst 1, 1) := by decide +kernel
theorem dX10_clause_270 : decode cX10_clause 270 = .ok (.bipush 20, 2) := by decide +kernel
theorem dX10_clause_272 : decode cX10_clause 272 = .ok (.invokevirtual 125, 3) := by decide +kernel
theorem dX10_clause_275 : decode cX10_clause 275 = .ok (.goto 4, 3) := by decide +kernel
theorem dX10_clause_278 : decode cX10_clause 278 = .ok (.iconst 5, 1) := by decide +kernel
theorem dX10_clause_279 : decode cX10_clause 279 = .ok (.iastore, 1) := by decide +kernel
theorem dX10_clause_280 : decode cX10_clause 280 = .ok (.aload_n 0, 1) := by decide +kernel
theorem dX10_clause_281 : decode cX10_clause 281 = .ok (.getfield 30, 3) := by decide +kernel
theorem dX10_clause_284 : decode cX10_clause 284 = .ok (.iload_n 1, 1) := by decide +kernel
theorem dX10_clause_285 : decode cX10_clause 285 = .ok (.iconst 2, 1) := by decide +kernel
theorem dX10_clause_286 : decode cX10_clause 286 = .ok (.iadd, 1) := by decide +kernel
theorem dX10_clause_287 : decode cX10_clause 287 = .ok (.aload_n 0, 1) := by decide +kernel
theorem dX10_clause_288 : decode cX10_clause 288 = .ok (.bipush 47, 2) := by decide +kernel
theorem dX10_clause_290 : decode cX10_clause 290 = .ok (.invokevirtual 122, 3) := by decide +kernel
theorem dX10_clause_293 : decode cX10_clause 293 = .ok (.ifCond .eq 21, 3) := by decide +kernel
theorem dX10_clause_296 : decode cX10_clause 296 = .ok (.aload_n 0, 1) := by decide +kernel
theorem dX10_clause_297 : decode cX10_clause 297 = .ok (.iconst 2, 1) := by decide +kernel
theorem dX10_clause_298 : decode cX10_clause 298 = .ok (.aload_n 0, 1) := by decide +kernel
theorem dX10_clause_299 : decode cX10_clause 299 = .ok (.getfield 30, 3) := by decide +kernel
theorem dX10_clause_302 : decode cX10_clause 302 = .ok (.iload_n 1, 1) := by decide +kernel
theorem dX10_clause_303 : decode cX10_clause 303 = .ok (.iconst 1, 1) := by decide +kernel
theorem dX10_clause_304 : decode cX10_clause 304 = .ok (.iadd, 1) := by decide +kernel
theorem dX10_clause_305 : decode cX10_clause 305 = .ok (.iaload, 1) := by decide +kernel
theorem dX10_clause_306 : decode cX10_clause 306 = .ok (.bipush 99, 2) := by decide +kernel
theorem dX10_clause_308 : decode cX10_clause 308 = .ok (.invokevirtual 125, 3) := by decide +kernel
theorem dX10_clause_311 : decode cX10_clause 311 = .ok (.goto 5, 3) := by decide +kernel
theorem dX10_clause_314 : decode cX10_clause 314 = .ok (.bipush 40, 2) := by decide +kernel
theorem dX10_clause_316 : decode cX10_clause 316 = .ok (.iastore, 1) := by decide +kernel
theorem dX10_clause_317 : decode cX10_clause 317 = .ok (.aload_n 0, 1) := by decide +kernel
theorem dX10_clause_318 : decode cX10_clause 318 = .ok (.getfield 30, 3) := by decide +kernel
theorem dX10_clause_321 : decode cX10_clause 321 = .ok (.iload_n 1, 1) := by decide +kernel
theorem dX10_clause_322 : decode cX10_clause 322 = .ok (.iconst 3, 1) := by decide +kernel
theorem dX10_clause_323 : decode cX10_clause 323 = .ok (.iadd, 1) := by decide +kernel
theorem dX10_clause_324 : decode cX10_clause 324 = .ok (.aload_n 0, 1) := by decide +kernel
theorem dX10_clause_325 : decode cX10_clause 325 = .ok (.bipush 126, 2) := by decide +kernel
theorem dX10_clause_327 : decode cX10_clause 327 = .ok (.invokevirtual 122, 3) := by decide +kernel
theorem dX10_clause_330 : decode cX10_clause 330 = .ok (.ifCond .eq 14, 3) := by decide +kernel
theorem dX10_clause_333 : decode cX10_clause 333 = .ok (.aload_n 0, 1) := by decide +kernel
theorem dX10_clause_334 : decode cX10_clause 334 = .ok (.iconst 1, 1) := by decide +kernel
theorem dX10_clause_335 : decode cX10_clause 335 = .ok (.iconst 1, 1) := by decide +kernel
theorem dX10_clause_336 : decode cX10_clause 336 = .ok (.bipush 9, 2) := by decide +kernel
theorem dX10_clause_338 : decode cX10_clause 338 = .ok (.invokevirtual 125, 3) := by decide +kernel
theorem dX10_clause_341 : decode cX10_clause 341 = .ok (.goto 4, 3) := by decide +kernel
theorem dX10_clause_344 : decode cX10_clause 344 = .ok (.iconst 3, 1) := by decide +kernel
theorem dX10_clause_345 : decode cX10_clause 345 = .ok (.iastore, 1) := by decide +kernel
theorem dX10_clause_346 : decode cX10_clause 346 = .ok (.aload_n 0, 1) := by decide +kernel
theorem dX10_clause_347 : decode cX10_clause 347 = .ok (.getfield 30, 3) := by decide +kernel
theorem dX10_clause_350 : decode cX10_clause 350 = .ok (.iload_n 1, 1) := by decide +kernel
theorem dX10_clause_351 : decode cX10_clause 351 = .ok (.iconst 4, 1) := by decide +kernel
theorem dX10_clause_352 : decode cX10_clause 352 = .ok (.iadd, 1) := by decide +kernel
theorem dX10_clause_353 : decode cX10_clause 353 = .ok (.aload_n 0, 1) := by decide +kernel
theorem dX10_clause_354 : decode cX10_clause 354 = .ok (.bipush 64, 2) := by decide +kernel
theorem dX10_clause_356 : decode cX10_clause 356 = .ok (.invokevirtual 122, 3) := by decide +kernel
theorem dX10_clause_359 : decode cX10_clause 359 = .ok (.ifCond .eq 14, 3) := by decide +kernel
theorem dX10_clause_362 : decode cX10_clause 362 = .ok (.aload_n 0, 1) := by decide +kernel
theorem dX10_clause_363 : decode cX10_clause 363 = .ok (.iconst 2, 1) := by decide +kernel
theorem dX10_clause_364 : decode cX10_clause 364 = .ok (.iconst 0, 1) := by decide +kernel
theorem dX10_clause_365 : decode cX10_clause 365 = .ok (.bipush 60, 2) := by decide +kernel
theorem dX10_clause_367 : decode cX10_clause 367 = .ok (.invokevirtual 125, 3) := by decide +kernel
theorem dX10_clause_370 : decode cX10_clause 370 = .ok (.goto 4, 3) := by decide +kernel
theorem dX10_clause_373 : decode cX10_clause 373 = .ok (.iconst 0, 1) := by decide +kernel
theorem dX10_clause_374 : decode cX10_clause 374 = .ok (.iastore, 1) := by decide +kernel
theorem dX10_clause_375 : decode cX10_clause 375 = .ok (.return_, 1) := by decide +kernel
theorem dX10_read_0 : decode cX10_read 0 = .ok (.aload_n 0, 1) := by decide +kernel
theorem dX10_read_1 : decode cX10_read 1 = .ok (.getfield 103, 3) := by decide +kernel
theorem dX10_read_4 : decode cX10_read 4 = .ok (.istore_n 1, 1) := by decide +kernel
theorem dX10_read_5 : decode cX10_read 5 = .ok (.aload_n 0, 1) := by decide +kernel
theorem dX10_read_6 : decode cX10_read 6 = .ok (.getfield 11, 3) := by decide +kernel
theorem dX10_read_9 : decode cX10_read 9 = .ok (.iconst 2, 1) := by decide +kernel
theorem dX10_read_10 : decode cX10_read 10 = .ok (.iaload, 1) := by decide +kernel
theorem dX10_read_11 : decode cX10_read 11 = .ok (.iconst 1, 1) := by decide +kernel
theorem dX10_read_12 : decode cX10_read 12 = .ok (.if_icmp .ne 11, 3) := by decide +kernel
theorem dX10_read_15 : decode cX10_read 15 = .ok (.aload_n 0, 1) := by decide +kernel
theorem dX10_read_16 : decode cX10_read 16 = .ok (.iconst 0, 1) := by decide +kernel
theorem dX10_read_17 : decode cX10_read 17 = .ok (.putfield 103, 3) := by decide +kernel
theorem dX10_read_20 : decode cX10_read 20 = .ok (.bipush (-3), 2) := by decide +kernel
theorem dX10_read_22 : decode cX10_read 22 = .ok (.ireturn, 1) := by decide +kernel
theorem dX10_read_23 : decode cX10_read 23 = .ok (.aload_n 0, 1) := by decide +kernel
theorem dX10_read_24 : decode cX10_read 24 = .ok (.iconst 0, 1) := by decide +kernel
theorem dX10_read_25 : decode cX10_read 25 = .ok (.putfield 110, 3) := by decide +kernel
theorem dX10_read_28 : decode cX10_read 28 = .ok (.aload_n 0, 1) := by decide +kernel
theorem dX10_read_29 : decode cX10_read 29 = .ok (.iconst (-1), 1) := by decide +kernel
theorem dX10_read_30 : decode cX10_read 30 = .ok (.putfield 107, 3) := by decide +kernel
theorem dX10_read_33 : decode cX10_read 33 = .ok (.iconst 0, 1) := by decide +kernel
theorem dX10_read_34 : decode cX10_read 34 = .ok (.istore_n 2, 1) := by decide +kernel
theorem dX10_read_35 : decode cX10_read 35 = .ok (.aload_n 0, 1) := by decide +kernel
theorem dX10_read_36 : decode cX10_read 36 = .ok (.bipush 14, 2) := by decide +kernel
theorem dX10_read_38 : decode cX10_read 38 = .ok (.iload_n 2, 1) := by decide +kernel
theorem dX10_read_39 : decode cX10_read 39 = .ok (.iconst 4, 1) := by decide +kernel
theorem dX10_read_40 : decode cX10_read 40 = .ok (.irem, 1) := by decide +kernel
theorem dX10_read_41 : decode cX10_read 41 = .ok (.imul, 1) := by decide +kernel
theorem dX10_read_42 : decode cX10_read 42 = .ok (.invokevirtual 129, 3) := by decide +kernel
theorem dX10_read_45 : decode cX10_read 45 = .ok (.iinc 2 1, 3) := by decide +kernel
theorem dX10_read_48 : decode cX10_read 48 = .ok (.iload_n 2, 1) := by decide +kernel
theorem dX10_read_49 : decode cX10_read 49 = .ok (.iconst 4, 1) := by decide +kernel
theorem dX10_read_50 : decode cX10_read 50 = .ok (.if_icmp .ge 12, 3) := by decide +kernel
theorem dX10_read_53 : decode cX10_read 53 = .ok (.aload_n 0, 1) := by decide +kernel
theorem dX10_read_54 : decode cX10_read 54 = .ok (.bipush 59, 2) := by decide +kernel
theorem dX10_read_56 : decode cX10_read 56 = .ok (.invokevirtual 122, 3) := by decide +kernel
theorem dX10_read_59 : decode cX10_read 59 = .ok (.ifCond .ne (-24), 3) := by decide +kernel
theorem dX10_read_62 : decode cX10_read 62 = .ok (.aload_n 0, 1) := by decide +kernel
theorem dX10_read_63 : decode cX10_read 63 = .ok (.getfield 110, 3) := by decide +kernel
theorem dX10_read_66 : decode cX10_read 66 = .ok (.iload_n 1, 1) := by decide +kernel
theorem dX10_read_67 : decode cX10_read 67 = .ok (.if_icmp .ge 11, 3) := by decide +kernel
theorem dX10_read_70 : decode cX10_read 70 = .ok (.aload_n 0, 1) := by decide +kernel
theorem dX10_read_71 : decode cX10_read 71 = .ok (.aload_n 0, 1) := by decide +kernel
theorem dX10_read_72 : decode cX10_read 72 = .ok (.getfield 110, 3) := by decide +kernel
theorem dX10_read_75 : decode cX10_read 75 = .ok (.invokevirtual 115, 3) := by decide +kernel
theorem dX10_read_78 : decode cX10_read 78 = .ok (.aload_n 0, 1) := by decide +kernel
theorem dX10_read_79 : decode cX10_read 79 = .ok (.iconst 0, 1) := by decide +kernel
theorem dX10_read_80 : decode cX10_read 80 = .ok (.putfield 103, 3) := by decide +kernel
theorem dX10_read_83 : decode cX10_read 83 = .ok (.aload_n 0, 1) := by decide +kernel
theorem dX10_read_84 : decode cX10_read 84 = .ok (.getfield 107, 3) := by decide +kernel
theorem dX10_read_87 : decode cX10_read 87 = .ok (.ifCond .lt 11, 3) := by decide +kernel
theorem dX10_read_90 : decode cX10_read 90 = .ok (.bipush (-10), 2) := by decide +kernel
theorem dX10_read_92 : decode cX10_read 92 = .ok (.aload_n 0, 1) := by decide +kernel
theorem dX10_read_93 : decode cX10_read 93 = .ok (.getfield 107, 3) := by decide +kernel
theorem dX10_read_96 : decode cX10_read 96 = .ok (.isub, 1) := by decide +kernel
theorem dX10_read_97 : decode cX10_read 97 = .ok (.ireturn, 1) := by decide +kernel
theorem dX10_read_98 : decode cX10_read 98 = .ok (.aload_n 0, 1) := by decide +kernel
theorem dX10_read_99 : decode cX10_read 99 = .ok (.getfield 11, 3) := by decide +kernel
theorem dX10_read_102 : decode cX10_read 102 = .ok (.bipush 13, 2) := by decide +kernel
theorem dX10_read_104 : decode cX10_read 104 = .ok (.iaload, 1) := by decide +kernel
theorem dX10_read_105 : decode cX10_read 105 = .ok (.iload_n 2, 1) := by decide +kernel
theorem dX10_read_106 : decode cX10_read 106 = .ok (.iadd, 1) := by decide +kernel
theorem dX10_read_107 : decode cX10_read 107 = .ok (.bipush 8, 2) := by decide +kernel
theorem dX10_read_109 : decode cX10_read 109 = .ok (.if_icmp .le 6, 3) := by decide +kernel
theorem dX10_read_112 : decode cX10_read 112 = .ok (.bipush (-4), 2) := by decide +kernel
theorem dX10_read_114 : decode cX10_read 114 = .ok (.ireturn, 1) := by decide +kernel
theorem dX10_read_115 : decode cX10_read 115 = .ok (.iconst 0, 1) := by decide +kernel
theorem dX10_read_116 : decode cX10_read 116 = .ok (.istore_n 3, 1) := by decide +kernel
theorem dX10_read_117 : decode cX10_read 117 = .ok (.iload_n 3, 1) := by decide +kernel
theorem dX10_read_118 : decode cX10_read 118 = .ok (.iload_n 2, 1) := by decide +kernel
theorem dX10_read_119 : decode cX10_read 119 = .ok (.if_icmp .ge 111, 3) := by decide +kernel
theorem dX10_read_122 : decode cX10_read 122 = .ok (.bipush 14, 2) := by decide +kernel
theorem dX10_read_124 : decode cX10_read 124 = .ok (.iload_n 3, 1) := by decide +kernel
theorem dX10_read_125 : decode cX10_read 125 = .ok (.imul, 1) := by decide +kernel
theorem dX10_read_126 : decode cX10_read 126 = .ok (.istore 4, 2) := by decide +kernel
theorem dX10_read_128 : decode cX10_read 128 = .ok (.aload_n 0, 1) := by decide +kernel
theorem dX10_read_129 : decode cX10_read 129 = .ok (.aload_n 0, 1) := by decide +kernel
theorem dX10_read_130 : decode cX10_read 130 = .ok (.getfield 30, 3) := by decide +kernel
theorem dX10_read_133 : decode cX10_read 133 = .ok (.iload 4, 2) := by decide +kernel
theorem dX10_read_135 : decode cX10_read 135 = .ok (.iaload, 1) := by decide +kernel
theorem dX10_read_136 : decode cX10_read 136 = .ok (.aload_n 0, 1) := by decide +kernel
theorem dX10_read_137 : decode cX10_read 137 = .ok (.getfield 30, 3) := by decide +kernel
theorem dX10_read_140 : decode cX10_read 140 = .ok (.iload 4, 2) := by decide +kernel
theorem dX10_read_142 : decode cX10_read 142 = .ok (.iconst 1, 1) := by decide +kernel
theorem dX10_read_143 : decode cX10_read 143 = .ok (.iadd, 1) := by decide +kernel
theorem dX10_read_144 : decode cX10_read 144 = .ok (.iaload, 1) := by decide +kernel
theorem dX10_read_145 : decode cX10_read 145 = .ok (.aload_n 0, 1) := by decide +kernel
theorem dX10_read_146 : decode cX10_read 146 = .ok (.getfield 30, 3) := by decide +kernel
theorem dX10_read_149 : decode cX10_read 149 = .ok (.iload 4, 2) := by decide +kernel
theorem dX10_read_151 : decode cX10_read 151 = .ok (.iconst 2, 1) := by decide +kernel
theorem dX10_read_152 : decode cX10_read 152 = .ok (.iadd, 1) := by decide +kernel
theorem dX10_read_153 : decode cX10_read 153 = .ok (.iaload, 1) := by decide +kernel
theorem dX10_read_154 : decode cX10_read 154 = .ok (.aload_n 0, 1) := by decide +kernel
theorem dX10_read_155 : decode cX10_read 155 = .ok (.getfield 30, 3) := by decide +kernel
theorem dX10_read_158 : decode cX10_read 158 = .ok (.iload 4, 2) := by decide +kernel
theorem dX10_read_160 : decode cX10_read 160 = .ok (.iconst 3, 1) := by decide +kernel
theorem dX10_read_161 : decode cX10_read 161 = .ok (.iadd, 1) := by decide +kernel
theorem dX10_read_162 : decode cX10_read 162 = .ok (.iaload, 1) := by decide +kernel
theorem dX10_read_163 : decode cX10_read 163 = .ok (.aload_n 0, 1) := by decide +kernel
theorem dX10_read_164 : decode cX10_read 164 = .ok (.getfield 30, 3) := by decide +kernel
theorem dX10_read_167 : decode cX10_read 167 = .ok (.iload 4, 2) := by decide +kernel
theorem dX10_read_169 : decode cX10_read 169 = .ok (.iconst 4, 1) := by decide +kernel
theorem dX10_read_170 : decode cX10_read 170 = .ok (.iadd, 1) := by decide +kernel
theorem dX10_read_171 : decode cX10_read 171 = .ok (.iaload, 1) := by decide +kernel
theorem dX10_read_172 : decode cX10_read 172 = .ok (.invokevirtual 89, 3) := by decide +kernel
theorem dX10_read_175 : decode cX10_read 175 = .ok (.iconst 0, 1) := by decide +kernel
theorem dX10_read_176 : decode cX10_read 176 = .ok (.istore 5, 2) := by decide +kernel
theorem dX10_read_178 : decode cX10_read 178 = .ok (.iload 5, 2) := by decide +kernel
theorem dX10_read_180 : decode cX10_read 180 = .ok (.aload_n 0, 1) := by decide +kernel
theorem dX10_read_181 : decode cX10_read 181 = .ok (.getfield 30, 3) := by decide +kernel
theorem dX10_read_184 : decode cX10_read 184 = .ok (.iload 4, 2) := by decide +kernel
theorem dX10_read_186 : decode cX10_read 186 = .ok (.iconst 5, 1) := by decide +kernel
theorem dX10_read_187 : decode cX10_read 187 = .ok (.iadd, 1) := by decide +kernel
theorem dX10_read_188 : decode cX10_read 188 = .ok (.iaload, 1) := by decide +kernel
theorem dX10_read_189 : decode cX10_read 189 = .ok (.if_icmp .ge 35, 3) := by decide +kernel
theorem dX10_read_192 : decode cX10_read 192 = .ok (.aload_n 0, 1) := by decide +kernel
theorem dX10_read_193 : decode cX10_read 193 = .ok (.aload_n 0, 1) := by decide +kernel
theorem dX10_read_194 : decode cX10_read 194 = .ok (.getfield 11, 3) := by decide +kernel
theorem dX10_read_197 : decode cX10_read 197 = .ok (.bipush 13, 2) := by decide +kernel
theorem dX10_read_199 : decode cX10_read 199 = .ok (.iaload, 1) := by decide +kernel
theorem dX10_read_200 : decode cX10_read 200 = .ok (.iconst 1, 1) := by decide +kernel
theorem dX10_read_201 : decode cX10_read 201 = .ok (.isub, 1) := by decide +kernel
theorem dX10_read_202 : decode cX10_read 202 = .ok (.aload_n 0, 1) := by decide +kernel
theorem dX10_read_203 : decode cX10_read 203 = .ok (.getfield 30, 3) := by decide +kernel
theorem dX10_read_206 : decode cX10_read 206 = .ok (.iload 4, 2) := by decide +kernel
theorem dX10_read_208 : decode cX10_read 208 = .ok (.bipush 6, 2) := by decide +kernel
theorem dX10_read_210 : decode cX10_read 210 = .ok (.iadd, 1) := by decide +kernel
theorem dX10_read_211 : decode cX10_read 211 = .ok (.iload 5, 2) := by decide +kernel
theorem dX10_read_213 : decode cX10_read 213 = .ok (.iadd, 1) := by decide +kernel
theorem dX10_read_214 : decode cX10_read 214 = .ok (.iaload, 1) := by decide +kernel
theorem dX10_read_215 : decode cX10_read 215 = .ok (.invokevirtual 93, 3) := by decide +kernel
theorem dX10_read_218 : decode cX10_read 218 = .ok (.iinc 5 1, 3) := by decide +kernel
theorem dX10_read_221 : decode cX10_read 221 = .ok (.goto (-43), 3) := by decide +kernel
theorem dX10_read_224 : decode cX10_read 224 = .ok (.iinc 3 1, 3) := by decide +kernel
theorem dX10_read_227 : decode cX10_read 227 = .ok (.goto (-110), 3) := by decide +kernel
theorem dX10_read_230 : decode cX10_read 230 = .ok (.aload_n 0, 1) := by decide +kernel
theorem dX10_read_231 : decode cX10_read 231 = .ok (.invokevirtual 46, 3) := by decide +kernel
theorem dX10_read_234 : decode cX10_read 234 = .ok (.iload_n 2, 1) := by decide +kernel
theorem dX10_read_235 : decode cX10_read 235 = .ok (.ireturn, 1) := by decide +kernel
theorem dX10_safety_0 : decode cX10_safety 0 = .ok (.iload_n 1, 1) := by decide +kernel
theorem dX10_safety_1 : decode cX10_safety 1 = .ok (.iconst 0, 1) := by decide +kernel
theorem dX10_safety_2 : decode cX10_safety 2 = .ok (.iconst 5, 1) := by decide +kernel
theorem dX10_safety_3 : decode cX10_safety 3 = .ok (.invokestatic 49, 3) := by decide +kernel
theorem dX10_safety_6 : decode cX10_safety 6 = .ok (.ifCond .ne 6, 3) := by decide +kernel
theorem dX10_safety_9 : decode cX10_safety 9 = .ok (.bipush (-2), 2) := by decide +kernel
theorem dX10_safety_11 : decode cX10_safety 11 = .ok (.ireturn, 1) := by decide +kernel
theorem dX10_safety_12 : decode cX10_safety 12 = .ok (.aload_n 0, 1) := by decide +kernel
theorem dX10_safety_13 : decode cX10_safety 13 = .ok (.getfield 11, 3) := by decide +kernel
theorem dX10_safety_16 : decode cX10_safety 16 = .ok (.iconst 2, 1) := by decide +kernel
theorem dX10_safety_17 : decode cX10_safety 17 = .ok (.iaload, 1) := by decide +kernel
theorem dX10_safety_18 : decode cX10_safety 18 = .ok (.iconst 1, 1) := by decide +kernel
theorem dX10_safety_19 : decode cX10_safety 19 = .ok (.if_icmp .ne 6, 3) := by decide +kernel
theorem dX10_safety_22 : decode cX10_safety 22 = .ok (.bipush (-3), 2) := by decide +kernel
theorem dX10_safety_24 : decode cX10_safety 24 = .ok (.ireturn, 1) := by decide +kernel
theorem dX10_safety_25 : decode cX10_safety 25 = .ok (.aload_n 0, 1) := by decide +kernel
theorem dX10_safety_26 : decode cX10_safety 26 = .ok (.getfield 11, 3) := by decide +kernel
theorem dX10_safety_29 : decode cX10_safety 29 = .ok (.iconst 1, 1) := by decide +kernel
theorem dX10_safety_30 : decode cX10_safety 30 = .ok (.iaload, 1) := by decide +kernel
theorem dX10_safety_31 : decode cX10_safety 31 = .ok (.istore_n 2, 1) := by decide +kernel
theorem dX10_safety_32 : decode cX10_safety 32 = .ok (.aload_n 0, 1) := by decide +kernel
theorem dX10_safety_33 : decode cX10_safety 33 = .ok (.getfield 11, 3) := by decide +kernel
theorem dX10_safety_36 : decode cX10_safety 36 = .ok (.iconst 1, 1) := by decide +kernel
theorem dX10_safety_37 : decode cX10_safety 37 = .ok (.iload_n 1, 1) := by decide +kernel
theorem dX10_safety_38 : decode cX10_safety 38 = .ok (.iastore, 1) := by decide +kernel
theorem dX10_safety_39 : decode cX10_safety 39 = .ok (.aload_n 0, 1) := by decide +kernel
theorem dX10_safety_40 : decode cX10_safety 40 = .ok (.invokevirtual 46, 3) := by decide +kernel
theorem dX10_safety_43 : decode cX10_safety 43 = .ok (.iload_n 2, 1) := by decide +kernel
theorem dX10_safety_44 : decode cX10_safety 44 = .ok (.ireturn, 1) := by decide +kernel
theorem dX10_anyMeet_0 : decode cX10_anyMeet 0 = .ok (.iconst 0, 1) := by decide +kernel
theorem dX10_anyMeet_1 : decode cX10_anyMeet 1 = .ok (.istore_n 2, 1) := by decide +kernel
theorem dX10_anyMeet_2 : decode cX10_anyMeet 2 = .ok (.iload_n 2, 1) := by decide +kernel
theorem dX10_anyMeet_3 : decode cX10_anyMeet 3 = .ok (.aload_n 0, 1) := by decide +kernel
theorem dX10_anyMeet_4 : decode cX10_anyMeet 4 = .ok (.getfield 11, 3) := by decide +kernel
theorem dX10_anyMeet_7 : decode cX10_anyMeet 7 = .ok (.bipush 13, 2) := by decide +kernel
theorem dX10_anyMeet_9 : decode cX10_anyMeet 9 = .ok (.iaload, 1) := by decide +kernel
theorem dX10_anyMeet_10 : decode cX10_anyMeet 10 = .ok (.if_icmp .ge 29, 3) := by decide +kernel
theorem dX10_anyMeet_13 : decode cX10_anyMeet 13 = .ok (.iload_n 1, 1) := by decide +kernel
theorem dX10_anyMeet_14 : decode cX10_anyMeet 14 = .ok (.iload_n 2, 1) := by decide +kernel
theorem dX10_anyMeet_15 : decode cX10_anyMeet 15 = .ok (.invokestatic 132, 3) := by decide +kernel
theorem dX10_anyMeet_18 : decode cX10_anyMeet 18 = .ok (.ifCond .eq 15, 3) := by decide +kernel
theorem dX10_anyMeet_21 : decode cX10_anyMeet 21 = .ok (.aload_n 0, 1) := by decide +kernel
theorem dX10_anyMeet_22 : decode cX10_anyMeet 22 = .ok (.iload_n 2, 1) := by decide +kernel
theorem dX10_anyMeet_23 : decode cX10_anyMeet 23 = .ok (.invokevirtual 135, 3) := by decide +kernel
theorem dX10_anyMeet_26 : decode cX10_anyMeet 26 = .ok (.iload_n 1, 1) := by decide +kernel
theorem dX10_anyMeet_27 : decode cX10_anyMeet 27 = .ok (.iand, 1) := by decide +kernel
theorem dX10_anyMeet_28 : decode cX10_anyMeet 28 = .ok (.ifCond .eq 5, 3) := by decide +kernel
theorem dX10_anyMeet_31 : decode cX10_anyMeet 31 = .ok (.iconst 1, 1) := by decide +kernel
theorem dX10_anyMeet_32 : decode cX10_anyMeet 32 = .ok (.ireturn, 1) := by decide +kernel
theorem dX10_anyMeet_33 : decode cX10_anyMeet 33 = .ok (.iinc 2 1, 3) := by decide +kernel
theorem dX10_anyMeet_36 : decode cX10_anyMeet 36 = .ok (.goto (-34), 3) := by decide +kernel
theorem dX10_anyMeet_39 : decode cX10_anyMeet 39 = .ok (.iconst 0, 1) := by decide +kernel
theorem dX10_anyMeet_40 : decode cX10_anyMeet 40 = .ok (.ireturn, 1) := by decide +kernel
theorem dX10_phase_0 : decode cX10_phase 0 = .ok (.iload_n 1, 1) := by decide +kernel
theorem dX10_phase_1 : decode cX10_phase 1 = .ok (.iconst 1, 1) := by decide +kernel
theorem dX10_phase_2 : decode cX10_phase 2 = .ok (.iconst 1, 1) := by decide +kernel
theorem dX10_phase_3 : decode cX10_phase 3 = .ok (.aload_n 0, 1) := by decide +kernel
theorem dX10_phase_4 : decode cX10_phase 4 = .ok (.getfield 11, 3) := by decide +kernel
theorem dX10_phase_7 : decode cX10_phase 7 = .ok (.bipush 13, 2) := by decide +kernel
theorem dX10_phase_9 : decode cX10_phase 9 = .ok (.iaload, 1) := by decide +kernel
theorem dX10_phase_10 : decode cX10_phase 10 = .ok (.ishl, 1) := by decide +kernel
theorem dX10_phase_11 : decode cX10_phase 11 = .ok (.iconst 1, 1) := by decide +kernel
theorem dX10_phase_12 : decode cX10_phase 12 = .ok (.isub, 1) := by decide +kernel
theorem dX10_phase_13 : decode cX10_phase 13 = .ok (.invokestatic 49, 3) := by decide +kernel
theorem dX10_phase_16 : decode cX10_phase 16 = .ok (.ifCond .eq 14, 3) := by decide +kernel
theorem dX10_phase_19 : decode cX10_phase 19 = .ok (.iload_n 2, 1) := by decide +kernel
theorem dX10_phase_20 : decode cX10_phase 20 = .ok (.iconst 0, 1) := by decide +kernel
theorem dX10_phase_21 : decode cX10_phase 21 = .ok (.sipush 239, 3) := by decide +kernel
theorem dX10_phase_24 : decode cX10_phase 24 = .ok (.invokestatic 49, 3) := by decide +kernel
theorem dX10_phase_27 : decode cX10_phase 27 = .ok (.ifCond .ne 6, 3) := by decide +kernel
theorem dX10_phase_30 : decode cX10_phase 30 = .ok (.bipush (-2), 2) := by decide +kernel
theorem dX10_phase_32 : decode cX10_phase 32 = .ok (.ireturn, 1) := by decide +kernel
theorem dX10_phase_33 : decode cX10_phase 33 = .ok (.aload_n 0, 1) := by decide +kernel
theorem dX10_phase_34 : decode cX10_phase 34 = .ok (.getfield 11, 3) := by decide +kernel
theorem dX10_phase_37 : decode cX10_phase 37 = .ok (.iconst 2, 1) := by decide +kernel
theorem dX10_phase_38 : decode cX10_phase 38 = .ok (.iaload, 1) := by decide +kernel
theorem dX10_phase_39 : decode cX10_phase 39 = .ok (.iconst 1, 1) := by decide +kernel
theorem dX10_phase_40 : decode cX10_phase 40 = .ok (.if_icmp .eq 11, 3) := by decide +kernel
theorem dX10_phase_43 : decode cX10_phase 43 = .ok (.aload_n 0, 1) := by decide +kernel
theorem dX10_phase_44 : decode cX10_phase 44 = .ok (.iload_n 1, 1) := by decide +kernel
theorem dX10_phase_45 : decode cX10_phase 45 = .ok (.invokevirtual 138, 3) := by decide +kernel
theorem dX10_phase_48 : decode cX10_phase 48 = .ok (.ifCond .eq 6, 3) := by decide +kernel
theorem dX10_phase_51 : decode cX10_phase 51 = .ok (.bipush (-3), 2) := by decide +kernel
theorem dX10_phase_53 : decode cX10_phase 53 = .ok (.ireturn, 1) := by decide +kernel
theorem dX10_phase_54 : decode cX10_phase 54 = .ok (.aload_n 0, 1) := by decide +kernel
theorem dX10_phase_55 : decode cX10_phase 55 = .ok (.getfield 11, 3) := by decide +kernel
theorem dX10_phase_58 : decode cX10_phase 58 = .ok (.bipush 14, 2) := by decide +kernel
theorem dX10_phase_60 : decode cX10_phase 60 = .ok (.iaload, 1) := by decide +kernel
theorem dX10_phase_61 : decode cX10_phase 61 = .ok (.bipush 6, 2) := by decide +kernel
theorem dX10_phase_63 : decode cX10_phase 63 = .ok (.if_icmp .ne 6, 3) := by decide +kernel
theorem dX10_phase_66 : decode cX10_phase 66 = .ok (.bipush (-4), 2) := by decide +kernel
theorem dX10_phase_68 : decode cX10_phase 68 = .ok (.ireturn, 1) := by decide +kernel
theorem dX10_phase_69 : decode cX10_phase 69 = .ok (.sipush 216, 3) := by decide +kernel
theorem dX10_phase_72 : decode cX10_phase 72 = .ok (.iconst 3, 1) := by decide +kernel
theorem dX10_phase_73 : decode cX10_phase 73 = .ok (.aload_n 0, 1) := by decide +kernel
theorem dX10_phase_74 : decode cX10_phase 74 = .ok (.getfield 11, 3) := by decide +kernel
theorem dX10_phase_77 : decode cX10_phase 77 = .ok (.bipush 14, 2) := by decide +kernel
theorem dX10_phase_79 : decode cX10_phase 79 = .ok (.iaload, 1) := by decide +kernel
theorem dX10_phase_80 : decode cX10_phase 80 = .ok (.imul, 1) := by decide +kernel
theorem dX10_phase_81 : decode cX10_phase 81 = .ok (.iadd, 1) := by decide +kernel
theorem dX10_phase_82 : decode cX10_phase 82 = .ok (.istore_n 3, 1) := by decide +kernel
theorem dX10_phase_83 : decode cX10_phase 83 = .ok (.aload_n 0, 1) := by decide +kernel
theorem dX10_phase_84 : decode cX10_phase 84 = .ok (.getfield 11, 3) := by decide +kernel
theorem dX10_phase_87 : decode cX10_phase 87 = .ok (.iload_n 3, 1) := by decide +kernel
theorem dX10_phase_88 : decode cX10_phase 88 = .ok (.iload_n 1, 1) := by decide +kernel
theorem dX10_phase_89 : decode cX10_phase 89 = .ok (.iastore, 1) := by decide +kernel
theorem dX10_phase_90 : decode cX10_phase 90 = .ok (.aload_n 0, 1) := by decide +kernel
theorem dX10_phase_91 : decode cX10_phase 91 = .ok (.getfield 11, 3) := by decide +kernel
theorem dX10_phase_94 : decode cX10_phase 94 = .ok (.iload_n 3, 1) := by decide +kernel
theorem dX10_phase_95 : decode cX10_phase 95 = .ok (.iconst 1, 1) := by decide +kernel
theorem dX10_phase_96 : decode cX10_phase 96 = .ok (.iadd, 1) := by decide +kernel
theorem dX10_phase_97 : decode cX10_phase 97 = .ok (.iload_n 2, 1) := by decide +kernel
theorem dX10_phase_98 : decode cX10_phase 98 = .ok (.iastore, 1) := by decide +kernel
theorem dX10_phase_99 : decode cX10_phase 99 = .ok (.aload_n 0, 1) := by decide +kernel
theorem dX10_phase_100 : decode cX10_phase 100 = .ok (.getfield 11, 3) := by decide +kernel
theorem dX10_phase_103 : decode cX10_phase 103 = .ok (.iload_n 3, 1) := by decide +kernel
theorem dX10_phase_104 : decode cX10_phase 104 = .ok (.iconst 2, 1) := by decide +kernel
theorem dX10_phase_105 : decode cX10_phase 105 = .ok (.iadd, 1) := by decide +kernel
theorem dX10_phase_106 : decode cX10_phase 106 = .ok (.iconst 0, 1) := by decide +kernel
theorem dX10_phase_107 : decode cX10_phase 107 = .ok (.iastore, 1) := by decide +kernel
theorem dX10_phase_108 : decode cX10_phase 108 = .ok (.aload_n 0, 1) := by decide +kernel
theorem dX10_phase_109 : decode cX10_phase 109 = .ok (.getfield 11, 3) := by decide +kernel
theorem dX10_phase_112 : decode cX10_phase 112 = .ok (.bipush 14, 2) := by decide +kernel
theorem dX10_phase_114 : decode cX10_phase 114 = .ok (.dup2, 1) := by decide +kernel
theorem dX10_phase_115 : decode cX10_phase 115 = .ok (.iaload, 1) := by decide +kernel
theorem dX10_phase_116 : decode cX10_phase 116 = .ok (.iconst 1, 1) := by decide +kernel
theorem dX10_phase_117 : decode cX10_phase 117 = .ok (.iadd, 1) := by decide +kernel
theorem dX10_phase_118 : decode cX10_phase 118 = .ok (.iastore, 1) := by decide +kernel
theorem dX10_phase_119 : decode cX10_phase 119 = .ok (.aload_n 0, 1) := by decide +kernel
theorem dX10_phase_120 : decode cX10_phase 120 = .ok (.getfield 11, 3) := by decide +kernel
theorem dX10_phase_123 : decode cX10_phase 123 = .ok (.bipush 14, 2) := by decide +kernel
theorem dX10_phase_125 : decode cX10_phase 125 = .ok (.iaload, 1) := by decide +kernel
theorem dX10_phase_126 : decode cX10_phase 126 = .ok (.iconst 1, 1) := by decide +kernel
theorem dX10_phase_127 : decode cX10_phase 127 = .ok (.isub, 1) := by decide +kernel
theorem dX10_phase_128 : decode cX10_phase 128 = .ok (.ireturn, 1) := by decide +kernel
theorem dX10_comesOn_0 : decode cX10_comesOn 0 = .ok (.aload_n 0, 1) := by decide +kernel
theorem dX10_comesOn_1 : decode cX10_comesOn 1 = .ok (.getfield 11, 3) := by decide +kernel
theorem dX10_comesOn_4 : decode cX10_comesOn 4 = .ok (.iconst 4, 1) := by decide +kernel
theorem dX10_comesOn_5 : decode cX10_comesOn 5 = .ok (.iload_n 1, 1) := by decide +kernel
theorem dX10_comesOn_6 : decode cX10_comesOn 6 = .ok (.iastore, 1) := by decide +kernel
theorem dX10_comesOn_7 : decode cX10_comesOn 7 = .ok (.aload_n 0, 1) := by decide +kernel
theorem dX10_comesOn_8 : decode cX10_comesOn 8 = .ok (.getfield 11, 3) := by decide +kernel
theorem dX10_comesOn_11 : decode cX10_comesOn 11 = .ok (.sipush 216, 3) := by decide +kernel
theorem dX10_comesOn_14 : decode cX10_comesOn 14 = .ok (.iconst 3, 1) := by decide +kernel
theorem dX10_comesOn_15 : decode cX10_comesOn 15 = .ok (.iload_n 1, 1) := by decide +kernel
theorem dX10_comesOn_16 : decode cX10_comesOn 16 = .ok (.imul, 1) := by decide +kernel
theorem dX10_comesOn_17 : decode cX10_comesOn 17 = .ok (.iadd, 1) := by decide +kernel
theorem dX10_comesOn_18 : decode cX10_comesOn 18 = .ok (.iconst 2, 1) := by decide +kernel
theorem dX10_comesOn_19 : decode cX10_comesOn 19 = .ok (.iadd, 1) := by decide +kernel
theorem dX10_comesOn_20 : decode cX10_comesOn 20 = .ok (.dup2, 1) := by decide +kernel
theorem dX10_comesOn_21 : decode cX10_comesOn 21 = .ok (.iaload, 1) := by decide +kernel
theorem dX10_comesOn_22 : decode cX10_comesOn 22 = .ok (.iconst 1, 1) := by decide +kernel
theorem dX10_comesOn_23 : decode cX10_comesOn 23 = .ok (.iadd, 1) := by decide +kernel
theorem dX10_comesOn_24 : decode cX10_comesOn 24 = .ok (.iastore, 1) := by decide +kernel
theorem dX10_comesOn_25 : decode cX10_comesOn 25 = .ok (.return_, 1) := by decide +kernel
theorem dX10_start_0 : decode cX10_start 0 = .ok (.aload_n 0, 1) := by decide +kernel
theorem dX10_start_1 : decode cX10_start 1 = .ok (.getfield 11, 3) := by decide +kernel
theorem dX10_start_4 : decode cX10_start 4 = .ok (.iconst 2, 1) := by decide +kernel
theorem dX10_start_5 : decode cX10_start 5 = .ok (.iaload, 1) := by decide +kernel
theorem dX10_start_6 : decode cX10_start 6 = .ok (.iconst 1, 1) := by decide +kernel
theorem dX10_start_7 : decode cX10_start 7 = .ok (.if_icmp .eq 13, 3) := by decide +kernel
theorem dX10_start_10 : decode cX10_start 10 = .ok (.aload_n 0, 1) := by decide +kernel
theorem dX10_start_11 : decode cX10_start 11 = .ok (.getfield 11, 3) := by decide +kernel
theorem dX10_start_14 : decode cX10_start 14 = .ok (.bipush 14, 2) := by decide +kernel
theorem dX10_start_16 : decode cX10_start 16 = .ok (.iaload, 1) := by decide +kernel
theorem dX10_start_17 : decode cX10_start 17 = .ok (.ifCond .ne 6, 3) := by decide +kernel
theorem dX10_start_20 : decode cX10_start 20 = .ok (.bipush (-3), 2) := by decide +kernel
theorem dX10_start_22 : decode cX10_start 22 = .ok (.ireturn, 1) := by decide +kernel
theorem dX10_start_23 : decode cX10_start 23 = .ok (.aload_n 0, 1) := by decide +kernel
theorem dX10_start_24 : decode cX10_start 24 = .ok (.getfield 11, 3) := by decide +kernel
theorem dX10_start_27 : decode cX10_start 27 = .ok (.iconst 2, 1) := by decide +kernel
theorem dX10_start_28 : decode cX10_start 28 = .ok (.iconst 1, 1) := by decide +kernel
theorem dX10_start_29 : decode cX10_start 29 = .ok (.iastore, 1) := by decide +kernel
theorem dX10_start_30 : decode cX10_start 30 = .ok (.aload_n 0, 1) := by decide +kernel
theorem dX10_start_31 : decode cX10_start 31 = .ok (.iconst 0, 1) := by decide +kernel
theorem dX10_start_32 : decode cX10_start 32 = .ok (.invokevirtual 141, 3) := by decide +kernel
theorem dX10_start_35 : decode cX10_start 35 = .ok (.aload_n 0, 1) := by decide +kernel
theorem dX10_start_36 : decode cX10_start 36 = .ok (.getfield 11, 3) := by decide +kernel
theorem dX10_start_39 : decode cX10_start 39 = .ok (.bipush 14, 2) := by decide +kernel
theorem dX10_start_41 : decode cX10_start 41 = .ok (.iaload, 1) := by decide +kernel
theorem dX10_start_42 : decode cX10_start 42 = .ok (.ireturn, 1) := by decide +kernel
theorem dX10_draws_0 : decode cX10_draws 0 = .ok (.aload_n 0, 1) := by decide +kernel
theorem dX10_draws_1 : decode cX10_draws 1 = .ok (.getfield 11, 3) := by decide +kernel
theorem dX10_draws_4 : decode cX10_draws 4 = .ok (.iconst 0, 1) := by decide +kernel
theorem dX10_draws_5 : decode cX10_draws 5 = .ok (.aload_n 0, 1) := by decide +kernel
theorem dX10_draws_6 : decode cX10_draws 6 = .ok (.getfield 11, 3) := by decide +kernel
theorem dX10_draws_9 : decode cX10_draws 9 = .ok (.iconst 0, 1) := by decide +kernel
theorem dX10_draws_10 : decode cX10_draws 10 = .ok (.iaload, 1) := by decide +kernel
theorem dX10_draws_11 : decode cX10_draws 11 = .ok (.ldc 144, 2) := by decide +kernel
theorem dX10_draws_13 : decode cX10_draws 13 = .ok (.imul, 1) := by decide +kernel
theorem dX10_draws_14 : decode cX10_draws 14 = .ok (.sipush 12345, 3) := by decide +kernel
theorem dX10_draws_17 : decode cX10_draws 17 = .ok (.iadd, 1) := by decide +kernel
theorem dX10_draws_18 : decode cX10_draws 18 = .ok (.iastore, 1) := by decide +kernel
theorem dX10_draws_19 : decode cX10_draws 19 = .ok (.aload_n 0, 1) := by decide +kernel
theorem dX10_draws_20 : decode cX10_draws 20 = .ok (.getfield 11, 3) := by decide +kernel
theorem dX10_draws_23 : decode cX10_draws 23 = .ok (.iconst 0, 1) := by decide +kernel
theorem dX10_draws_24 : decode cX10_draws 24 = .ok (.iaload, 1) := by decide +kernel
theorem dX10_draws_25 : decode cX10_draws 25 = .ok (.bipush 9, 2) := by decide +kernel
theorem dX10_draws_27 : decode cX10_draws 27 = .ok (.iushr, 1) := by decide +kernel
theorem dX10_draws_28 : decode cX10_draws 28 = .ok (.iload_n 1, 1) := by decide +kernel
theorem dX10_draws_29 : decode cX10_draws 29 = .ok (.irem, 1) := by decide +kernel
theorem dX10_draws_30 : decode cX10_draws 30 = .ok (.ireturn, 1) := by decide +kernel
theorem dX10_joins_0 : decode cX10_joins 0 = .ok (.aload_n 0, 1) := by decide +kernel
theorem dX10_joins_1 : decode cX10_joins 1 = .ok (.iload_n 1, 1) := by decide +kernel
theorem dX10_joins_2 : decode cX10_joins 2 = .ok (.iconst 5, 1) := by decide +kernel
theorem dX10_joins_3 : decode cX10_joins 3 = .ok (.invokevirtual 56, 3) := by decide +kernel
theorem dX10_joins_6 : decode cX10_joins 6 = .ok (.iload_n 2, 1) := by decide +kernel
theorem dX10_joins_7 : decode cX10_joins 7 = .ok (.iadd, 1) := by decide +kernel
theorem dX10_joins_8 : decode cX10_joins 8 = .ok (.istore_n 3, 1) := by decide +kernel
theorem dX10_joins_9 : decode cX10_joins 9 = .ok (.aload_n 0, 1) := by decide +kernel
theorem dX10_joins_10 : decode cX10_joins 10 = .ok (.iload_n 1, 1) := by decide +kernel
theorem dX10_joins_11 : decode cX10_joins 11 = .ok (.iconst 5, 1) := by decide +kernel
theorem dX10_joins_12 : decode cX10_joins 12 = .ok (.bipush 99, 2) := by decide +kernel
theorem dX10_joins_14 : decode cX10_joins 14 = .ok (.iload_n 3, 1) := by decide +kernel
theorem dX10_joins_15 : decode cX10_joins 15 = .ok (.invokestatic 100, 3) := by decide +kernel
theorem dX10_joins_18 : decode cX10_joins 18 = .ok (.invokevirtual 85, 3) := by decide +kernel
theorem dX10_joins_21 : decode cX10_joins 21 = .ok (.aload_n 0, 1) := by decide +kernel
theorem dX10_joins_22 : decode cX10_joins 22 = .ok (.getfield 11, 3) := by decide +kernel
theorem dX10_joins_25 : decode cX10_joins 25 = .ok (.bipush 9, 2) := by decide +kernel
theorem dX10_joins_27 : decode cX10_joins 27 = .ok (.dup2, 1) := by decide +kernel
theorem dX10_joins_28 : decode cX10_joins 28 = .ok (.iaload, 1) := by decide +kernel
theorem dX10_joins_29 : decode cX10_joins 29 = .ok (.iconst 0, 1) := by decide +kernel
theorem dX10_joins_30 : decode cX10_joins 30 = .ok (.iload_n 3, 1) := by decide +kernel
theorem dX10_joins_31 : decode cX10_joins 31 = .ok (.bipush 99, 2) := by decide +kernel
theorem dX10_joins_33 : decode cX10_joins 33 = .ok (.isub, 1) := by decide +kernel
theorem dX10_joins_34 : decode cX10_joins 34 = .ok (.invokestatic 73, 3) := by decide +kernel
theorem dX10_joins_37 : decode cX10_joins 37 = .ok (.iadd, 1) := by decide +kernel
theorem dX10_joins_38 : decode cX10_joins 38 = .ok (.iastore, 1) := by decide +kernel
theorem dX10_joins_39 : decode cX10_joins 39 = .ok (.aload_n 0, 1) := by decide +kernel
theorem dX10_joins_40 : decode cX10_joins 40 = .ok (.iload_n 1, 1) := by decide +kernel
theorem dX10_joins_41 : decode cX10_joins 41 = .ok (.iconst 5, 1) := by decide +kernel
theorem dX10_joins_42 : decode cX10_joins 42 = .ok (.invokevirtual 56, 3) := by decide +kernel
theorem dX10_joins_45 : decode cX10_joins 45 = .ok (.ireturn, 1) := by decide +kernel
theorem dX10_coming_0 : decode cX10_coming 0 = .ok (.iconst 0, 1) := by decide +kernel
theorem dX10_coming_1 : decode cX10_coming 1 = .ok (.istore_n 1, 1) := by decide +kernel
theorem dX10_coming_2 : decode cX10_coming 2 = .ok (.iload_n 1, 1) := by decide +kernel
theorem dX10_coming_3 : decode cX10_coming 3 = .ok (.aload_n 0, 1) := by decide +kernel
theorem dX10_coming_4 : decode cX10_coming 4 = .ok (.getfield 11, 3) := by decide +kernel
theorem dX10_coming_7 : decode cX10_coming 7 = .ok (.bipush 13, 2) := by decide +kernel
theorem dX10_coming_9 : decode cX10_coming 9 = .ok (.iaload, 1) := by decide +kernel
theorem dX10_coming_10 : decode cX10_coming 10 = .ok (.if_icmp .ge 40, 3) := by decide +kernel
theorem dX10_coming_13 : decode cX10_coming 13 = .ok (.aload_n 0, 1) := by decide +kernel
theorem dX10_coming_14 : decode cX10_coming 14 = .ok (.iload_n 1, 1) := by decide +kernel
theorem dX10_coming_15 : decode cX10_coming 15 = .ok (.iconst 4, 1) := by decide +kernel
theorem dX10_coming_16 : decode cX10_coming 16 = .ok (.invokevirtual 56, 3) := by decide +kernel
theorem dX10_coming_19 : decode cX10_coming 19 = .ok (.ifCond .le 25, 3) := by decide +kernel
theorem dX10_coming_22 : decode cX10_coming 22 = .ok (.aload_n 0, 1) := by decide +kernel
theorem dX10_coming_23 : decode cX10_coming 23 = .ok (.bipush 60, 2) := by decide +kernel
theorem dX10_coming_25 : decode cX10_coming 25 = .ok (.invokevirtual 145, 3) := by decide +kernel
theorem dX10_coming_28 : decode cX10_coming 28 = .ok (.aload_n 0, 1) := by decide +kernel
theorem dX10_coming_29 : decode cX10_coming 29 = .ok (.iload_n 1, 1) := by decide +kernel
theorem dX10_coming_30 : decode cX10_coming 30 = .ok (.iconst 4, 1) := by decide +kernel
theorem dX10_coming_31 : decode cX10_coming 31 = .ok (.invokevirtual 56, 3) := by decide +kernel
theorem dX10_coming_34 : decode cX10_coming 34 = .ok (.if_icmp .ge 10, 3) := by decide +kernel
theorem dX10_coming_37 : decode cX10_coming 37 = .ok (.aload_n 0, 1) := by decide +kernel
theorem dX10_coming_38 : decode cX10_coming 38 = .ok (.iload_n 1, 1) := by decide +kernel
theorem dX10_coming_39 : decode cX10_coming 39 = .ok (.iconst 1, 1) := by decide +kernel
theorem dX10_coming_40 : decode cX10_coming 40 = .ok (.invokevirtual 148, 3) := by decide +kernel
theorem dX10_coming_43 : decode cX10_coming 43 = .ok (.pop, 1) := by decide +kernel
theorem dX10_coming_44 : decode cX10_coming 44 = .ok (.iinc 1 1, 3) := by decide +kernel
theorem dX10_coming_47 : decode cX10_coming 47 = .ok (.goto (-45), 3) := by decide +kernel
theorem dX10_coming_50 : decode cX10_coming 50 = .ok (.iconst 0, 1) := by decide +kernel
theorem dX10_coming_51 : decode cX10_coming 51 = .ok (.istore_n 1, 1) := by decide +kernel
theorem dX10_coming_52 : decode cX10_coming 52 = .ok (.iload_n 1, 1) := by decide +kernel
theorem dX10_coming_53 : decode cX10_coming 53 = .ok (.aload_n 0, 1) := by decide +kernel
theorem dX10_coming_54 : decode cX10_coming 54 = .ok (.getfield 11, 3) := by decide +kernel
theorem dX10_coming_57 : decode cX10_coming 57 = .ok (.bipush 13, 2) := by decide +kernel
theorem dX10_coming_59 : decode cX10_coming 59 = .ok (.iaload, 1) := by decide +kernel
theorem dX10_coming_60 : decode cX10_coming 60 = .ok (.if_icmp .ge 31, 3) := by decide +kernel
theorem dX10_coming_63 : decode cX10_coming 63 = .ok (.aload_n 0, 1) := by decide +kernel
theorem dX10_coming_64 : decode cX10_coming 64 = .ok (.iload_n 1, 1) := by decide +kernel
theorem dX10_coming_65 : decode cX10_coming 65 = .ok (.iconst 5, 1) := by decide +kernel
theorem dX10_coming_66 : decode cX10_coming 66 = .ok (.invokevirtual 56, 3) := by decide +kernel
theorem dX10_coming_69 : decode cX10_coming 69 = .ok (.ifCond .le 16, 3) := by decide +kernel
theorem dX10_coming_72 : decode cX10_coming 72 = .ok (.aload_n 0, 1) := by decide +kernel
theorem dX10_coming_73 : decode cX10_coming 73 = .ok (.iload_n 1, 1) := by decide +kernel
theorem dX10_coming_74 : decode cX10_coming 74 = .ok (.bipush 9, 2) := by decide +kernel
theorem dX10_coming_76 : decode cX10_coming 76 = .ok (.aload_n 0, 1) := by decide +kernel
theorem dX10_coming_77 : decode cX10_coming 77 = .ok (.getfield 11, 3) := by decide +kernel
theorem dX10_coming_80 : decode cX10_coming 80 = .ok (.iconst 3, 1) := by decide +kernel
theorem dX10_coming_81 : decode cX10_coming 81 = .ok (.iaload, 1) := by decide +kernel
theorem dX10_coming_82 : decode cX10_coming 82 = .ok (.invokevirtual 85, 3) := by decide +kernel
theorem dX10_coming_85 : decode cX10_coming 85 = .ok (.iinc 1 1, 3) := by decide +kernel
theorem dX10_coming_88 : decode cX10_coming 88 = .ok (.goto (-36), 3) := by decide +kernel
theorem dX10_coming_91 : decode cX10_coming 91 = .ok (.return_, 1) := by decide +kernel
theorem dX10_local_0 : decode cX10_local 0 = .ok (.aload_n 0, 1) := by decide +kernel
theorem dX10_local_1 : decode cX10_local 1 = .ok (.getfield 11, 3) := by decide +kernel
theorem dX10_local_4 : decode cX10_local 4 = .ok (.iconst 3, 1) := by decide +kernel
theorem dX10_local_5 : decode cX10_local 5 = .ok (.iaload, 1) := by decide +kernel
theorem dX10_local_6 : decode cX10_local 6 = .ok (.aload_n 0, 1) := by decide +kernel
theorem dX10_local_7 : decode cX10_local 7 = .ok (.getfield 11, 3) := by decide +kernel
theorem dX10_local_10 : decode cX10_local 10 = .ok (.bipush 11, 2) := by decide +kernel
theorem dX10_local_12 : decode cX10_local 12 = .ok (.iaload, 1) := by decide +kernel
theorem dX10_local_13 : decode cX10_local 13 = .ok (.isub, 1) := by decide +kernel
theorem dX10_local_14 : decode cX10_local 14 = .ok (.aload_n 0, 1) := by decide +kernel
theorem dX10_local_15 : decode cX10_local 15 = .ok (.getfield 11, 3) := by decide +kernel
theorem dX10_local_18 : decode cX10_local 18 = .ok (.bipush 10, 2) := by decide +kernel
theorem dX10_local_20 : decode cX10_local 20 = .ok (.iaload, 1) := by decide +kernel
theorem dX10_local_21 : decode cX10_local 21 = .ok (.irem, 1) := by decide +kernel
theorem dX10_local_22 : decode cX10_local 22 = .ok (.istore_n 1, 1) := by decide +kernel
theorem dX10_local_23 : decode cX10_local 23 = .ok (.iload_n 1, 1) := by decide +kernel
theorem dX10_local_24 : decode cX10_local 24 = .ok (.ifCond .ge 15, 3) := by decide +kernel
theorem dX10_local_27 : decode cX10_local 27 = .ok (.iload_n 1, 1) := by decide +kernel
theorem dX10_local_28 : decode cX10_local 28 = .ok (.aload_n 0, 1) := by decide +kernel
theorem dX10_local_29 : decode cX10_local 29 = .ok (.getfield 11, 3) := by decide +kernel
theorem dX10_local_32 : decode cX10_local 32 = .ok (.bipush 10, 2) := by decide +kernel
theorem dX10_local_34 : decode cX10_local 34 = .ok (.iaload, 1) := by decide +kernel
theorem dX10_local_35 : decode cX10_local 35 = .ok (.iadd, 1) := by decide +kernel
theorem dX10_local_36 : decode cX10_local 36 = .ok (.goto 4, 3) := by decide +kernel
theorem dX10_local_39 : decode cX10_local 39 = .ok (.iload_n 1, 1) := by decide +kernel
theorem dX10_local_40 : decode cX10_local 40 = .ok (.ireturn, 1) := by decide +kernel
theorem dX10_isCalled_0 : decode cX10_isCalled 0 = .ok (.aload_n 0, 1) := by decide +kernel
theorem dX10_isCalled_1 : decode cX10_isCalled 1 = .ok (.getfield 11, 3) := by decide +kernel
theorem dX10_isCalled_4 : decode cX10_isCalled 4 = .ok (.iconst 2, 1) := by decide +kernel
theorem dX10_isCalled_5 : decode cX10_isCalled 5 = .ok (.iaload, 1) := by decide +kernel
theorem dX10_isCalled_6 : decode cX10_isCalled 6 = .ok (.ifCond .eq 13, 3) := by decide +kernel
theorem dX10_isCalled_9 : decode cX10_isCalled 9 = .ok (.iload_n 1, 1) := by decide +kernel
theorem dX10_isCalled_10 : decode cX10_isCalled 10 = .ok (.aload_n 0, 1) := by decide +kernel
theorem dX10_isCalled_11 : decode cX10_isCalled 11 = .ok (.getfield 11, 3) := by decide +kernel
theorem dX10_isCalled_14 : decode cX10_isCalled 14 = .ok (.iconst 4, 1) := by decide +kernel
theorem dX10_isCalled_15 : decode cX10_isCalled 15 = .ok (.iaload, 1) := by decide +kernel
theorem dX10_isCalled_16 : decode cX10_isCalled 16 = .ok (.if_icmp .ne 5, 3) := by decide +kernel
theorem dX10_isCalled_19 : decode cX10_isCalled 19 = .ok (.iconst 0, 1) := by decide +kernel
theorem dX10_isCalled_20 : decode cX10_isCalled 20 = .ok (.ireturn, 1) := by decide +kernel
theorem dX10_isCalled_21 : decode cX10_isCalled 21 = .ok (.iload_n 1, 1) := by decide +kernel
theorem dX10_isCalled_22 : decode cX10_isCalled 22 = .ok (.ifCond .ne 17, 3) := by decide +kernel
theorem dX10_isCalled_25 : decode cX10_isCalled 25 = .ok (.aload_n 0, 1) := by decide +kernel
theorem dX10_isCalled_26 : decode cX10_isCalled 26 = .ok (.getfield 11, 3) := by decide +kernel
theorem dX10_isCalled_29 : decode cX10_isCalled 29 = .ok (.bipush 10, 2) := by decide +kernel
theorem dX10_isCalled_31 : decode cX10_isCalled 31 = .ok (.iaload, 1) := by decide +kernel
theorem dX10_isCalled_32 : decode cX10_isCalled 32 = .ok (.ifCond .le 7, 3) := by decide +kernel
theorem dX10_isCalled_35 : decode cX10_isCalled 35 = .ok (.iconst 1, 1) := by decide +kernel
theorem dX10_isCalled_36 : decode cX10_isCalled 36 = .ok (.goto 4, 3) := by decide +kernel
theorem dX10_isCalled_39 : decode cX10_isCalled 39 = .ok (.iconst 0, 1) := by decide +kernel
theorem dX10_isCalled_40 : decode cX10_isCalled 40 = .ok (.istore_n 2, 1) := by decide +kernel
theorem dX10_isCalled_41 : decode cX10_isCalled 41 = .ok (.iconst 0, 1) := by decide +kernel
theorem dX10_isCalled_42 : decode cX10_isCalled 42 = .ok (.istore_n 3, 1) := by decide +kernel
theorem dX10_isCalled_43 : decode cX10_isCalled 43 = .ok (.iload_n 3, 1) := by decide +kernel
theorem dX10_isCalled_44 : decode cX10_isCalled 44 = .ok (.aload_n 0, 1) := by decide +kernel
theorem dX10_isCalled_45 : decode cX10_isCalled 45 = .ok (.getfield 11, 3) := by decide +kernel
theorem dX10_isCalled_48 : decode cX10_isCalled 48 = .ok (.bipush 13, 2) := by decide +kernel
theorem dX10_isCalled_50 : decode cX10_isCalled 50 = .ok (.iaload, 1) := by decide +kernel
theorem dX10_isCalled_51 : decode cX10_isCalled 51 = .ok (.if_icmp .ge 48, 3) := by decide +kernel
theorem dX10_isCalled_54 : decode cX10_isCalled 54 = .ok (.iload_n 2, 1) := by decide +kernel
theorem dX10_isCalled_55 : decode cX10_isCalled 55 = .ok (.aload_n 0, 1) := by decide +kernel
theorem dX10_isCalled_56 : decode cX10_isCalled 56 = .ok (.iload_n 1, 1) := by decide +kernel
theorem dX10_isCalled_57 : decode cX10_isCalled 57 = .ok (.invokevirtual 151, 3) := by decide +kernel
theorem dX10_isCalled_60 : decode cX10_isCalled 60 = .ok (.iload_n 3, 1) := by decide +kernel
theorem dX10_isCalled_61 : decode cX10_isCalled 61 = .ok (.invokestatic 132, 3) := by decide +kernel
theorem dX10_isCalled_64 : decode cX10_isCalled 64 = .ok (.ifCond .eq 26, 3) := by decide +kernel
theorem dX10_isCalled_67 : decode cX10_isCalled 67 = .ok (.aload_n 0, 1) := by decide +kernel
theorem dX10_isCalled_68 : decode cX10_isCalled 68 = .ok (.iload_n 3, 1) := by decide +kernel
theorem dX10_isCalled_69 : decode cX10_isCalled 69 = .ok (.iconst 5, 1) := by decide +kernel
theorem dX10_isCalled_70 : decode cX10_isCalled 70 = .ok (.invokevirtual 56, 3) := by decide +kernel
theorem dX10_isCalled_73 : decode cX10_isCalled 73 = .ok (.ifCond .le 17, 3) := by decide +kernel
theorem dX10_isCalled_76 : decode cX10_isCalled 76 = .ok (.aload_n 0, 1) := by decide +kernel
theorem dX10_isCalled_77 : decode cX10_isCalled 77 = .ok (.iload_n 3, 1) := by decide +kernel
theorem dX10_isCalled_78 : decode cX10_isCalled 78 = .ok (.bipush 6, 2) := by decide +kernel
theorem dX10_isCalled_80 : decode cX10_isCalled 80 = .ok (.invokevirtual 56, 3) := by decide +kernel
theorem dX10_isCalled_83 : decode cX10_isCalled 83 = .ok (.ifCond .ne 7, 3) := by decide +kernel
theorem dX10_isCalled_86 : decode cX10_isCalled 86 = .ok (.iconst 1, 1) := by decide +kernel
theorem dX10_isCalled_87 : decode cX10_isCalled 87 = .ok (.goto 4, 3) := by decide +kernel
theorem dX10_isCalled_90 : decode cX10_isCalled 90 = .ok (.iconst 0, 1) := by decide +kernel
theorem dX10_isCalled_91 : decode cX10_isCalled 91 = .ok (.ior, 1) := by decide +kernel
theorem dX10_isCalled_92 : decode cX10_isCalled 92 = .ok (.istore_n 2, 1) := by decide +kernel
theorem dX10_isCalled_93 : decode cX10_isCalled 93 = .ok (.iinc 3 1, 3) := by decide +kernel
theorem dX10_isCalled_96 : decode cX10_isCalled 96 = .ok (.goto (-53), 3) := by decide +kernel
theorem dX10_isCalled_99 : decode cX10_isCalled 99 = .ok (.iload_n 2, 1) := by decide +kernel
theorem dX10_isCalled_100 : decode cX10_isCalled 100 = .ok (.ireturn, 1) := by decide +kernel
theorem dX10_called_0 : decode cX10_called 0 = .ok (.iconst 0, 1) := by decide +kernel
theorem dX10_called_1 : decode cX10_called 1 = .ok (.istore_n 1, 1) := by decide +kernel
theorem dX10_called_2 : decode cX10_called 2 = .ok (.iconst 0, 1) := by decide +kernel
theorem dX10_called_3 : decode cX10_called 3 = .ok (.istore_n 2, 1) := by decide +kernel
theorem dX10_called_4 : decode cX10_called 4 = .ok (.iload_n 2, 1) := by decide +kernel
theorem dX10_called_5 : decode cX10_called 5 = .ok (.aload_n 0, 1) := by decide +kernel
theorem dX10_called_6 : decode cX10_called 6 = .ok (.getfield 11, 3) := by decide +kernel
theorem dX10_called_9 : decode cX10_called 9 = .ok (.bipush 14, 2) := by decide +kernel
theorem dX10_called_11 : decode cX10_called 11 = .ok (.iaload, 1) := by decide +kernel
theorem dX10_called_12 : decode cX10_called 12 = .ok (.if_icmp .ge 27, 3) := by decide +kernel
theorem dX10_called_15 : decode cX10_called 15 = .ok (.iload_n 1, 1) := by decide +kernel
theorem dX10_called_16 : decode cX10_called 16 = .ok (.aload_n 0, 1) := by decide +kernel
theorem dX10_called_17 : decode cX10_called 17 = .ok (.iload_n 2, 1) := by decide +kernel
theorem dX10_called_18 : decode cX10_called 18 = .ok (.invokevirtual 154, 3) := by decide +kernel
theorem dX10_called_21 : decode cX10_called 21 = .ok (.ifCond .eq 9, 3) := by decide +kernel
theorem dX10_called_24 : decode cX10_called 24 = .ok (.iconst 1, 1) := by decide +kernel
theorem dX10_called_25 : decode cX10_called 25 = .ok (.iload_n 2, 1) := by decide +kernel
theorem dX10_called_26 : decode cX10_called 26 = .ok (.ishl, 1) := by decide +kernel
theorem dX10_called_27 : decode cX10_called 27 = .ok (.goto 4, 3) := by decide +kernel
theorem dX10_called_30 : decode cX10_called 30 = .ok (.iconst 0, 1) := by decide +kernel
theorem dX10_called_31 : decode cX10_called 31 = .ok (.ior, 1) := by decide +kernel
theorem dX10_called_32 : decode cX10_called 32 = .ok (.istore_n 1, 1) := by decide +kernel
theorem dX10_called_33 : decode cX10_called 33 = .ok (.iinc 2 1, 3) := by decide +kernel
theorem dX10_called_36 : decode cX10_called 36 = .ok (.goto (-32), 3) := by decide +kernel
theorem dX10_called_39 : decode cX10_called 39 = .ok (.iload_n 1, 1) := by decide +kernel
theorem dX10_called_40 : decode cX10_called 40 = .ok (.ireturn, 1) := by decide +kernel
theorem dX10_firstWith_0 : decode cX10_firstWith 0 = .ok (.iconst 0, 1) := by decide +kernel
theorem dX10_firstWith_1 : decode cX10_firstWith 1 = .ok (.istore_n 2, 1) := by decide +kernel
theorem dX10_firstWith_2 : decode cX10_firstWith 2 = .ok (.iload_n 2, 1) := by decide +kernel
theorem dX10_firstWith_3 : decode cX10_firstWith 3 = .ok (.aload_n 0, 1) := by decide +kernel
theorem dX10_firstWith_4 : decode cX10_firstWith 4 = .ok (.getfield 11, 3) := by decide +kernel
theorem dX10_firstWith_7 : decode cX10_firstWith 7 = .ok (.bipush 14, 2) := by decide +kernel
theorem dX10_firstWith_9 : decode cX10_firstWith 9 = .ok (.iaload, 1) := by decide +kernel
theorem dX10_firstWith_10 : decode cX10_firstWith 10 = .ok (.if_icmp .ge 23, 3) := by decide +kernel
theorem dX10_firstWith_13 : decode cX10_firstWith 13 = .ok (.aload_n 0, 1) := by decide +kernel
theorem dX10_firstWith_14 : decode cX10_firstWith 14 = .ok (.iload_n 2, 1) := by decide +kernel
theorem dX10_firstWith_15 : decode cX10_firstWith 15 = .ok (.invokevirtual 151, 3) := by decide +kernel
theorem dX10_firstWith_18 : decode cX10_firstWith 18 = .ok (.iload_n 1, 1) := by decide +kernel
theorem dX10_firstWith_19 : decode cX10_firstWith 19 = .ok (.invokestatic 132, 3) := by decide +kernel
theorem dX10_firstWith_22 : decode cX10_firstWith 22 = .ok (.ifCond .eq 5, 3) := by decide +kernel
theorem dX10_firstWith_25 : decode cX10_firstWith 25 = .ok (.iload_n 2, 1) := by decide +kernel
theorem dX10_firstWith_26 : decode cX10_firstWith 26 = .ok (.ireturn, 1) := by decide +kernel
theorem dX10_firstWith_27 : decode cX10_firstWith 27 = .ok (.iinc 2 1, 3) := by decide +kernel
theorem dX10_firstWith_30 : decode cX10_firstWith 30 = .ok (.goto (-28), 3) := by decide +kernel
theorem dX10_firstWith_33 : decode cX10_firstWith 33 = .ok (.bipush (-5), 2) := by decide +kernel
theorem dX10_firstWith_35 : decode cX10_firstWith 35 = .ok (.ireturn, 1) := by decide +kernel
theorem dX10_greenFor_0 : decode cX10_greenFor 0 = .ok (.aload_n 0, 1) := by decide +kernel
theorem dX10_greenFor_1 : decode cX10_greenFor 1 = .ok (.getfield 11, 3) := by decide +kernel
theorem dX10_greenFor_4 : decode cX10_greenFor 4 = .ok (.iconst 3, 1) := by decide +kernel
theorem dX10_greenFor_5 : decode cX10_greenFor 5 = .ok (.iaload, 1) := by decide +kernel
theorem dX10_greenFor_6 : decode cX10_greenFor 6 = .ok (.aload_n 0, 1) := by decide +kernel
theorem dX10_greenFor_7 : decode cX10_greenFor 7 = .ok (.iload_n 1, 1) := by decide +kernel
theorem dX10_greenFor_8 : decode cX10_greenFor 8 = .ok (.bipush 7, 2) := by decide +kernel
theorem dX10_greenFor_10 : decode cX10_greenFor 10 = .ok (.invokevirtual 56, 3) := by decide +kernel
theorem dX10_greenFor_13 : decode cX10_greenFor 13 = .ok (.isub, 1) := by decide +kernel
theorem dX10_greenFor_14 : decode cX10_greenFor 14 = .ok (.ireturn, 1) := by decide +kernel
theorem dX10_changes_0 : decode cX10_changes 0 = .ok (.iconst 0, 1) := by decide +kernel
theorem dX10_changes_1 : decode cX10_changes 1 = .ok (.istore_n 2, 1) := by decide +kernel
theorem dX10_changes_2 : decode cX10_changes 2 = .ok (.iload_n 2, 1) := by decide +kernel
theorem dX10_changes_3 : decode cX10_changes 3 = .ok (.aload_n 0, 1) := by decide +kernel
theorem dX10_changes_4 : decode cX10_changes 4 = .ok (.getfield 11, 3) := by decide +kernel
theorem dX10_changes_7 : decode cX10_changes 7 = .ok (.bipush 13, 2) := by decide +kernel
theorem dX10_changes_9 : decode cX10_changes 9 = .ok (.iaload, 1) := by decide +kernel
theorem dX10_changes_10 : decode cX10_changes 10 = .ok (.if_icmp .ge 175, 3) := by decide +kernel
theorem dX10_changes_13 : decode cX10_changes 13 = .ok (.aload_n 0, 1) := by decide +kernel
theorem dX10_changes_14 : decode cX10_changes 14 = .ok (.iload_n 2, 1) := by decide +kernel
theorem dX10_changes_15 : decode cX10_changes 15 = .ok (.bipush 6, 2) := by decide +kernel
theorem dX10_changes_17 : decode cX10_changes 17 = .ok (.invokevirtual 56, 3) := by decide +kernel
theorem dX10_changes_20 : decode cX10_changes 20 = .ok (.ifCond .eq 159, 3) := by decide +kernel
theorem dX10_changes_23 : decode cX10_changes 23 = .ok (.aload_n 0, 1) := by decide +kernel
theorem dX10_changes_24 : decode cX10_changes 24 = .ok (.iload_n 1, 1) := by decide +kernel
theorem dX10_changes_25 : decode cX10_changes 25 = .ok (.invokevirtual 151, 3) := by decide +kernel
theorem dX10_changes_28 : decode cX10_changes 28 = .ok (.iload_n 2, 1) := by decide +kernel
theorem dX10_changes_29 : decode cX10_changes 29 = .ok (.invokestatic 132, 3) := by decide +kernel
theorem dX10_changes_32 : decode cX10_changes 32 = .ok (.ifCond .eq 6, 3) := by decide +kernel
theorem dX10_changes_35 : decode cX10_changes 35 = .ok (.goto 144, 3) := by decide +kernel
theorem dX10_changes_38 : decode cX10_changes 38 = .ok (.aload_n 0, 1) := by decide +kernel
theorem dX10_changes_39 : decode cX10_changes 39 = .ok (.iload_n 2, 1) := by decide +kernel
theorem dX10_changes_40 : decode cX10_changes 40 = .ok (.bipush 6, 2) := by decide +kernel
theorem dX10_changes_42 : decode cX10_changes 42 = .ok (.iconst 0, 1) := by decide +kernel
theorem dX10_changes_43 : decode cX10_changes 43 = .ok (.invokevirtual 85, 3) := by decide +kernel
theorem dX10_changes_46 : decode cX10_changes 46 = .ok (.aload_n 0, 1) := by decide +kernel
theorem dX10_changes_47 : decode cX10_changes 47 = .ok (.iload_n 2, 1) := by decide +kernel
theorem dX10_changes_48 : decode cX10_changes 48 = .ok (.bipush 8, 2) := by decide +kernel
theorem dX10_changes_50 : decode cX10_changes 50 = .ok (.aload_n 0, 1) := by decide +kernel
theorem dX10_changes_51 : decode cX10_changes 51 = .ok (.getfield 11, 3) := by decide +kernel
theorem dX10_changes_54 : decode cX10_changes 54 = .ok (.iconst 3, 1) := by decide +kernel
theorem dX10_changes_55 : decode cX10_changes 55 = .ok (.iaload, 1) := by decide +kernel
theorem dX10_changes_56 : decode cX10_changes 56 = .ok (.invokevirtual 85, 3) := by decide +kernel
theorem dX10_changes_59 : decode cX10_changes 59 = .ok (.aload_n 0, 1) := by decide +kernel
theorem dX10_changes_60 : decode cX10_changes 60 = .ok (.getfield 11, 3) := by decide +kernel
theorem dX10_changes_63 : decode cX10_changes 63 = .ok (.bipush 15, 2) := by decide +kernel
theorem dX10_changes_65 : decode cX10_changes 65 = .ok (.iaload, 1) := by decide +kernel
theorem dX10_changes_66 : decode cX10_changes 66 = .ok (.bipush 24, 2) := by decide +kernel
theorem dX10_changes_68 : decode cX10_changes 68 = .ok (.if_icmp .ne 50, 3) := by decide +kernel
theorem dX10_changes_71 : decode cX10_changes 71 = .ok (.iconst 0, 1) := by decide +kernel
theorem dX10_changes_72 : decode cX10_changes 72 = .ok (.istore_n 3, 1) := by decide +kernel
theorem dX10_changes_73 : decode cX10_changes 73 = .ok (.iload_n 3, 1) := by decide +kernel
theorem dX10_changes_74 : decode cX10_changes 74 = .ok (.bipush 69, 2) := by decide +kernel
theorem dX10_changes_76 : decode cX10_changes 76 = .ok (.if_icmp .ge 31, 3) := by decide +kernel
theorem dX10_changes_79 : decode cX10_changes 79 = .ok (.aload_n 0, 1) := by decide +kernel
theorem dX10_changes_80 : decode cX10_changes 80 = .ok (.getfield 11, 3) := by decide +kernel
theorem dX10_changes_83 : decode cX10_changes 83 = .ok (.sipush 234, 3) := by decide +kernel
theorem dX10_changes_86 : decode cX10_changes 86 = .ok (.iload_n 3, 1) := by decide +kernel
theorem dX10_changes_87 : decode cX10_changes 87 = .ok (.iadd, 1) := by decide +kernel
theorem dX10_changes_88 : decode cX10_changes 88 = .ok (.aload_n 0, 1) := by decide +kernel
theorem dX10_changes_89 : decode cX10_changes 89 = .ok (.getfield 11, 3) := by decide +kernel
theorem dX10_changes_92 : decode cX10_changes 92 = .ok (.sipush 234, 3) := by decide +kernel
theorem dX10_changes_95 : decode cX10_changes 95 = .ok (.iload_n 3, 1) := by decide +kernel
theorem dX10_changes_96 : decode cX10_changes 96 = .ok (.iadd, 1) := by decide +kernel
theorem dX10_changes_97 : decode cX10_changes 97 = .ok (.iconst 3, 1) := by decide +kernel
theorem dX10_changes_98 : decode cX10_changes 98 = .ok (.iadd, 1) := by decide +kernel
theorem dX10_changes_99 : decode cX10_changes 99 = .ok (.iaload, 1) := by decide +kernel
theorem dX10_changes_100 : decode cX10_changes 100 = .ok (.iastore, 1) := by decide +kernel
theorem dX10_changes_101 : decode cX10_changes 101 = .ok (.iinc 3 1, 3) := by decide +kernel
theorem dX10_changes_104 : decode cX10_changes 104 = .ok (.goto (-31), 3) := by decide +kernel
theorem dX10_changes_107 : decode cX10_changes 107 = .ok (.aload_n 0, 1) := by decide +kernel
theorem dX10_changes_108 : decode cX10_changes 108 = .ok (.getfield 11, 3) := by decide +kernel
theorem dX10_changes_111 : decode cX10_changes 111 = .ok (.bipush 15, 2) := by decide +kernel
theorem dX10_changes_113 : decode cX10_changes 113 = .ok (.dup2, 1) := by decide +kernel
theorem dX10_changes_114 : decode cX10_changes 114 = .ok (.iaload, 1) := by decide +kernel
theorem dX10_changes_115 : decode cX10_changes 115 = .ok (.iconst 1, 1) := by decide +kernel
theorem dX10_changes_116 : decode cX10_changes 116 = .ok (.isub, 1) := by decide +kernel
theorem dX10_changes_117 : decode cX10_changes 117 = .ok (.iastore, 1) := by decide +kernel
theorem dX10_changes_118 : decode cX10_changes 118 = .ok (.sipush 234, 3) := by decide +kernel
theorem dX10_changes_121 : decode cX10_changes 121 = .ok (.iconst 3, 1) := by decide +kernel
theorem dX10_changes_122 : decode cX10_changes 122 = .ok (.aload_n 0, 1) := by decide +kernel
theorem dX10_changes_123 : decode cX10_changes 123 = .ok (.getfield 11, 3) := by decide +kernel
theorem dX10_changes_126 : decode cX10_changes 126 = .ok (.bipush 15, 2) := by decide +kernel
theorem dX10_changes_128 : decode cX10_changes 128 = .ok (.iaload, 1) := by decide +kernel
theorem dX10_changes_129 : decode cX10_changes 129 = .ok (.imul, 1) := by decide +kernel
theorem dX10_changes_130 : decode cX10_changes 130 = .ok (.iadd, 1) := by decide +kernel
theorem dX10_changes_131 : decode cX10_changes 131 = .ok (.istore_n 3, 1) := by decide +kernel
theorem dX10_changes_132 : decode cX10_changes 132 = .ok (.aload_n 0, 1) := by decide +kernel
theorem dX10_changes_133 : decode cX10_changes 133 = .ok (.getfield 11, 3) := by decide +kernel
theorem dX10_changes_136 : decode cX10_changes 136 = .ok (.iload_n 3, 1) := by decide +kernel
theorem dX10_changes_137 : decode cX10_changes 137 = .ok (.iload_n 2, 1) := by decide +kernel
theorem dX10_changes_138 : decode cX10_changes 138 = .ok (.iastore, 1) := by decide +kernel
theorem dX10_changes_139 : decode cX10_changes 139 = .ok (.aload_n 0, 1) := by decide +kernel
theorem dX10_changes_140 : decode cX10_changes 140 = .ok (.getfield 11, 3) := by decide +kernel
theorem dX10_changes_143 : decode cX10_changes 143 = .ok (.iload_n 3, 1) := by decide +kernel
theorem dX10_changes_144 : decode cX10_changes 144 = .ok (.iconst 1, 1) := by decide +kernel
theorem dX10_changes_145 : decode cX10_changes 145 = .ok (.iadd, 1) := by decide +kernel
theorem dX10_changes_146 : decode cX10_changes 146 = .ok (.aload_n 0, 1) := by decide +kernel
theorem dX10_changes_147 : decode cX10_changes 147 = .ok (.iload_n 2, 1) := by decide +kernel
theorem dX10_changes_148 : decode cX10_changes 148 = .ok (.bipush 7, 2) := by decide +kernel
theorem dX10_changes_150 : decode cX10_changes 150 = .ok (.invokevirtual 56, 3) := by decide +kernel
theorem dX10_changes_153 : decode cX10_changes 153 = .ok (.iastore, 1) := by decide +kernel
theorem dX10_changes_154 : decode cX10_changes 154 = .ok (.aload_n 0, 1) := by decide +kernel
theorem dX10_changes_155 : decode cX10_changes 155 = .ok (.getfield 11, 3) := by decide +kernel
theorem dX10_changes_158 : decode cX10_changes 158 = .ok (.iload_n 3, 1) := by decide +kernel
theorem dX10_changes_159 : decode cX10_changes 159 = .ok (.iconst 2, 1) := by decide +kernel
theorem dX10_changes_160 : decode cX10_changes 160 = .ok (.iadd, 1) := by decide +kernel
theorem dX10_changes_161 : decode cX10_changes 161 = .ok (.aload_n 0, 1) := by decide +kernel
theorem dX10_changes_162 : decode cX10_changes 162 = .ok (.getfield 11, 3) := by decide +kernel
theorem dX10_changes_165 : decode cX10_changes 165 = .ok (.iconst 3, 1) := by decide +kernel
theorem dX10_changes_166 : decode cX10_changes 166 = .ok (.iaload, 1) := by decide +kernel
theorem dX10_changes_167 : decode cX10_changes 167 = .ok (.iastore, 1) := by decide +kernel
theorem dX10_changes_168 : decode cX10_changes 168 = .ok (.aload_n 0, 1) := by decide +kernel
theorem dX10_changes_169 : decode cX10_changes 169 = .ok (.getfield 11, 3) := by decide +kernel
theorem dX10_changes_172 : decode cX10_changes 172 = .ok (.bipush 15, 2) := by decide +kernel
theorem dX10_changes_174 : decode cX10_changes 174 = .ok (.dup2, 1) := by decide +kernel
theorem dX10_changes_175 : decode cX10_changes 175 = .ok (.iaload, 1) := by decide +kernel
theorem dX10_changes_176 : decode cX10_changes 176 = .ok (.iconst 1, 1) := by decide +kernel
theorem dX10_changes_177 : decode cX10_changes 177 = .ok (.iadd, 1) := by decide +kernel
theorem dX10_changes_178 : decode cX10_changes 178 = .ok (.iastore, 1) := by decide +kernel
theorem dX10_changes_179 : decode cX10_changes 179 = .ok (.iinc 2 1, 3) := by decide +kernel
theorem dX10_changes_182 : decode cX10_changes 182 = .ok (.goto (-180), 3) := by decide +kernel
theorem dX10_changes_185 : decode cX10_changes 185 = .ok (.aload_n 0, 1) := by decide +kernel
theorem dX10_changes_186 : decode cX10_changes 186 = .ok (.iload_n 1, 1) := by decide +kernel
theorem dX10_changes_187 : decode cX10_changes 187 = .ok (.invokevirtual 141, 3) := by decide +kernel
theorem dX10_changes_190 : decode cX10_changes 190 = .ok (.return_, 1) := by decide +kernel
theorem dX10_changesByEmergency_0 : decode cX10_changesByEmergency 0 = .ok (.aload_n 0, 1) := by decide +kernel
theorem dX10_changesByEmergency_1 : decode cX10_changesByEmergency 1 = .ok (.aload_n 0, 1) := by decide +kernel
theorem dX10_changesByEmergency_2 : decode cX10_changesByEmergency 2 = .ok (.getfield 11, 3) := by decide +kernel
theorem dX10_changesByEmergency_5 : decode cX10_changesByEmergency 5 = .ok (.iconst 4, 1) := by decide +kernel
theorem dX10_changesByEmergency_6 : decode cX10_changesByEmergency 6 = .ok (.iaload, 1) := by decide +kernel
theorem dX10_changesByEmergency_7 : decode cX10_changesByEmergency 7 = .ok (.invokevirtual 151, 3) := by decide +kernel
theorem dX10_changesByEmergency_10 : decode cX10_changesByEmergency 10 = .ok (.istore_n 1, 1) := by decide +kernel
theorem dX10_changesByEmergency_11 : decode cX10_changesByEmergency 11 = .ok (.iload_n 1, 1) := by decide +kernel
theorem dX10_changesByEmergency_12 : decode cX10_changesByEmergency 12 = .ok (.aload_n 0, 1) := by decide +kernel
theorem dX10_changesByEmergency_13 : decode cX10_changesByEmergency 13 = .ok (.getfield 11, 3) := by decide +kernel
theorem dX10_changesByEmergency_16 : decode cX10_changesByEmergency 16 = .ok (.bipush 6, 2) := by decide +kernel
theorem dX10_changesByEmergency_18 : decode cX10_changesByEmergency 18 = .ok (.iaload, 1) := by decide +kernel
theorem dX10_changesByEmergency_19 : decode cX10_changesByEmergency 19 = .ok (.invokestatic 132, 3) := by decide +kernel
theorem dX10_changesByEmergency_22 : decode cX10_changesByEmergency 22 = .ok (.ifCond .ne 7, 3) := by decide +kernel
theorem dX10_changesByEmergency_25 : decode cX10_changesByEmergency 25 = .ok (.iconst 1, 1) := by decide +kernel
theorem dX10_changesByEmergency_26 : decode cX10_changesByEmergency 26 = .ok (.goto 4, 3) := by decide +kernel
theorem dX10_changesByEmergency_29 : decode cX10_changesByEmergency 29 = .ok (.iconst 0, 1) := by decide +kernel
theorem dX10_changesByEmergency_30 : decode cX10_changesByEmergency 30 = .ok (.istore_n 2, 1) := by decide +kernel
theorem dX10_changesByEmergency_31 : decode cX10_changesByEmergency 31 = .ok (.iconst 0, 1) := by decide +kernel
theorem dX10_changesByEmergency_32 : decode cX10_changesByEmergency 32 = .ok (.istore_n 3, 1) := by decide +kernel
theorem dX10_changesByEmergency_33 : decode cX10_changesByEmergency 33 = .ok (.iload_n 3, 1) := by decide +kernel
theorem dX10_changesByEmergency_34 : decode cX10_changesByEmergency 34 = .ok (.aload_n 0, 1) := by decide +kernel
theorem dX10_changesByEmergency_35 : decode cX10_changesByEmergency 35 = .ok (.getfield 11, 3) := by decide +kernel
theorem dX10_changesByEmergency_38 : decode cX10_changesByEmergency 38 = .ok (.bipush 13, 2) := by decide +kernel
theorem dX10_changesByEmergency_40 : decode cX10_changesByEmergency 40 = .ok (.iaload, 1) := by decide +kernel
theorem dX10_changesByEmergency_41 : decode cX10_changesByEmergency 41 = .ok (.if_icmp .ge 53, 3) := by decide +kernel
theorem dX10_changesByEmergency_44 : decode cX10_changesByEmergency 44 = .ok (.iload_n 2, 1) := by decide +kernel
theorem dX10_changesByEmergency_45 : decode cX10_changesByEmergency 45 = .ok (.iload_n 1, 1) := by decide +kernel
theorem dX10_changesByEmergency_46 : decode cX10_changesByEmergency 46 = .ok (.iload_n 3, 1) := by decide +kernel
theorem dX10_changesByEmergency_47 : decode cX10_changesByEmergency 47 = .ok (.invokestatic 132, 3) := by decide +kernel
theorem dX10_changesByEmergency_50 : decode cX10_changesByEmergency 50 = .ok (.ifCond .eq 31, 3) := by decide +kernel
theorem dX10_changesByEmergency_53 : decode cX10_changesByEmergency 53 = .ok (.aload_n 0, 1) := by decide +kernel
theorem dX10_changesByEmergency_54 : decode cX10_changesByEmergency 54 = .ok (.iload_n 3, 1) := by decide +kernel
theorem dX10_changesByEmergency_55 : decode cX10_changesByEmergency 55 = .ok (.bipush 6, 2) := by decide +kernel
theorem dX10_changesByEmergency_57 : decode cX10_changesByEmergency 57 = .ok (.invokevirtual 56, 3) := by decide +kernel
theorem dX10_changesByEmergency_60 : decode cX10_changesByEmergency 60 = .ok (.ifCond .eq 21, 3) := by decide +kernel
theorem dX10_changesByEmergency_63 : decode cX10_changesByEmergency 63 = .ok (.aload_n 0, 1) := by decide +kernel
theorem dX10_changesByEmergency_64 : decode cX10_changesByEmergency 64 = .ok (.iload_n 3, 1) := by decide +kernel
theorem dX10_changesByEmergency_65 : decode cX10_changesByEmergency 65 = .ok (.invokevirtual 157, 3) := by decide +kernel
theorem dX10_changesByEmergency_68 : decode cX10_changesByEmergency 68 = .ok (.aload_n 0, 1) := by decide +kernel
theorem dX10_changesByEmergency_69 : decode cX10_changesByEmergency 69 = .ok (.iload_n 3, 1) := by decide +kernel
theorem dX10_changesByEmergency_70 : decode cX10_changesByEmergency 70 = .ok (.iconst 1, 1) := by decide +kernel
theorem dX10_changesByEmergency_71 : decode cX10_changesByEmergency 71 = .ok (.invokevirtual 56, 3) := by decide +kernel
theorem dX10_changesByEmergency_74 : decode cX10_changesByEmergency 74 = .ok (.iconst 1, 1) := by decide +kernel
theorem dX10_changesByEmergency_75 : decode cX10_changesByEmergency 75 = .ok (.iadd, 1) := by decide +kernel
theorem dX10_changesByEmergency_76 : decode cX10_changesByEmergency 76 = .ok (.iconst 2, 1) := by decide +kernel
theorem dX10_changesByEmergency_77 : decode cX10_changesByEmergency 77 = .ok (.idiv, 1) := by decide +kernel
theorem dX10_changesByEmergency_78 : decode cX10_changesByEmergency 78 = .ok (.if_icmp .lt 7, 3) := by decide +kernel
theorem dX10_changesByEmergency_81 : decode cX10_changesByEmergency 81 = .ok (.iconst 1, 1) := by decide +kernel
theorem dX10_changesByEmergency_82 : decode cX10_changesByEmergency 82 = .ok (.goto 4, 3) := by decide +kernel
theorem dX10_changesByEmergency_85 : decode cX10_changesByEmergency 85 = .ok (.iconst 0, 1) := by decide +kernel
theorem dX10_changesByEmergency_86 : decode cX10_changesByEmergency 86 = .ok (.iand, 1) := by decide +kernel
theorem dX10_changesByEmergency_87 : decode cX10_changesByEmergency 87 = .ok (.istore_n 2, 1) := by decide +kernel
theorem dX10_changesByEmergency_88 : decode cX10_changesByEmergency 88 = .ok (.iinc 3 1, 3) := by decide +kernel
theorem dX10_changesByEmergency_91 : decode cX10_changesByEmergency 91 = .ok (.goto (-58), 3) := by decide +kernel
theorem dX10_changesByEmergency_94 : decode cX10_changesByEmergency 94 = .ok (.iload_n 2, 1) := by decide +kernel
theorem dX10_changesByEmergency_95 : decode cX10_changesByEmergency 95 = .ok (.ifCond .ne 4, 3) := by decide +kernel
theorem dX10_changesByEmergency_98 : decode cX10_changesByEmergency 98 = .ok (.return_, 1) := by decide +kernel
theorem dX10_changesByEmergency_99 : decode cX10_changesByEmergency 99 = .ok (.aload_n 0, 1) := by decide +kernel
theorem dX10_changesByEmergency_100 : decode cX10_changesByEmergency 100 = .ok (.getfield 11, 3) := by decide +kernel
theorem dX10_changesByEmergency_103 : decode cX10_changesByEmergency 103 = .ok (.iconst 5, 1) := by decide +kernel
theorem dX10_changesByEmergency_104 : decode cX10_changesByEmergency 104 = .ok (.iaload, 1) := by decide +kernel
theorem dX10_changesByEmergency_105 : decode cX10_changesByEmergency 105 = .ok (.ifCond .ge 15, 3) := by decide +kernel
theorem dX10_changesByEmergency_108 : decode cX10_changesByEmergency 108 = .ok (.aload_n 0, 1) := by decide +kernel
theorem dX10_changesByEmergency_109 : decode cX10_changesByEmergency 109 = .ok (.getfield 11, 3) := by decide +kernel
theorem dX10_changesByEmergency_112 : decode cX10_changesByEmergency 112 = .ok (.iconst 5, 1) := by decide +kernel
theorem dX10_changesByEmergency_113 : decode cX10_changesByEmergency 113 = .ok (.aload_n 0, 1) := by decide +kernel
theorem dX10_changesByEmergency_114 : decode cX10_changesByEmergency 114 = .ok (.getfield 11, 3) := by decide +kernel
theorem dX10_changesByEmergency_117 : decode cX10_changesByEmergency 117 = .ok (.iconst 4, 1) := by decide +kernel
theorem dX10_changesByEmergency_118 : decode cX10_changesByEmergency 118 = .ok (.iaload, 1) := by decide +kernel
theorem dX10_changesByEmergency_119 : decode cX10_changesByEmergency 119 = .ok (.iastore, 1) := by decide +kernel
theorem dX10_changesByEmergency_120 : decode cX10_changesByEmergency 120 = .ok (.aload_n 0, 1) := by decide +kernel
theorem dX10_changesByEmergency_121 : decode cX10_changesByEmergency 121 = .ok (.aload_n 0, 1) := by decide +kernel
theorem dX10_changesByEmergency_122 : decode cX10_changesByEmergency 122 = .ok (.aload_n 0, 1) := by decide +kernel
theorem dX10_changesByEmergency_123 : decode cX10_changesByEmergency 123 = .ok (.getfield 11, 3) := by decide +kernel
theorem dX10_changesByEmergency_126 : decode cX10_changesByEmergency 126 = .ok (.bipush 6, 2) := by decide +kernel
theorem dX10_changesByEmergency_128 : decode cX10_changesByEmergency 128 = .ok (.iaload, 1) := by decide +kernel
theorem dX10_changesByEmergency_129 : decode cX10_changesByEmergency 129 = .ok (.invokevirtual 160, 3) := by decide +kernel
theorem dX10_changesByEmergency_132 : decode cX10_changesByEmergency 132 = .ok (.invokevirtual 163, 3) := by decide +kernel
theorem dX10_changesByEmergency_135 : decode cX10_changesByEmergency 135 = .ok (.return_, 1) := by decide +kernel
theorem dX10_changesByCalls_0 : decode cX10_changesByCalls 0 = .ok (.aload_n 0, 1) := by decide +kernel
theorem dX10_changesByCalls_1 : decode cX10_changesByCalls 1 = .ok (.aload_n 0, 1) := by decide +kernel
theorem dX10_changesByCalls_2 : decode cX10_changesByCalls 2 = .ok (.getfield 11, 3) := by decide +kernel
theorem dX10_changesByCalls_5 : decode cX10_changesByCalls 5 = .ok (.iconst 4, 1) := by decide +kernel
theorem dX10_changesByCalls_6 : decode cX10_changesByCalls 6 = .ok (.iaload, 1) := by decide +kernel
theorem dX10_changesByCalls_7 : decode cX10_changesByCalls 7 = .ok (.invokevirtual 151, 3) := by decide +kernel
theorem dX10_changesByCalls_10 : decode cX10_changesByCalls 10 = .ok (.istore_n 1, 1) := by decide +kernel
theorem dX10_changesByCalls_11 : decode cX10_changesByCalls 11 = .ok (.aload_n 0, 1) := by decide +kernel
theorem dX10_changesByCalls_12 : decode cX10_changesByCalls 12 = .ok (.invokevirtual 166, 3) := by decide +kernel
theorem dX10_changesByCalls_15 : decode cX10_changesByCalls 15 = .ok (.istore_n 2, 1) := by decide +kernel
theorem dX10_changesByCalls_16 : decode cX10_changesByCalls 16 = .ok (.iload_n 2, 1) := by decide +kernel
theorem dX10_changesByCalls_17 : decode cX10_changesByCalls 17 = .ok (.ifCond .eq 7, 3) := by decide +kernel
theorem dX10_changesByCalls_20 : decode cX10_changesByCalls 20 = .ok (.iconst 1, 1) := by decide +kernel
theorem dX10_changesByCalls_21 : decode cX10_changesByCalls 21 = .ok (.goto 4, 3) := by decide +kernel
theorem dX10_changesByCalls_24 : decode cX10_changesByCalls 24 = .ok (.iconst 0, 1) := by decide +kernel
theorem dX10_changesByCalls_25 : decode cX10_changesByCalls 25 = .ok (.istore_n 3, 1) := by decide +kernel
theorem dX10_changesByCalls_26 : decode cX10_changesByCalls 26 = .ok (.iconst 0, 1) := by decide +kernel
theorem dX10_changesByCalls_27 : decode cX10_changesByCalls 27 = .ok (.istore 4, 2) := by decide +kernel
theorem dX10_changesByCalls_29 : decode cX10_changesByCalls 29 = .ok (.iconst 1, 1) := by decide +kernel
theorem dX10_changesByCalls_30 : decode cX10_changesByCalls 30 = .ok (.istore 5, 2) := by decide +kernel
theorem dX10_changesByCalls_32 : decode cX10_changesByCalls 32 = .ok (.iconst 0, 1) := by decide +kernel
theorem dX10_changesByCalls_33 : decode cX10_changesByCalls 33 = .ok (.istore 6, 2) := by decide +kernel
theorem dX10_changesByCalls_35 : decode cX10_changesByCalls 35 = .ok (.iload 6, 2) := by decide +kernel
theorem dX10_changesByCalls_37 : decode cX10_changesByCalls 37 = .ok (.aload_n 0, 1) := by decide +kernel
theorem dX10_changesByCalls_38 : decode cX10_changesByCalls 38 = .ok (.getfield 11, 3) := by decide +kernel
theorem dX10_changesByCalls_41 : decode cX10_changesByCalls 41 = .ok (.bipush 13, 2) := by decide +kernel
theorem dX10_changesByCalls_43 : decode cX10_changesByCalls 43 = .ok (.iaload, 1) := by decide +kernel
theorem dX10_changesByCalls_44 : decode cX10_changesByCalls 44 = .ok (.if_icmp .ge 141, 3) := by decide +kernel
theorem dX10_changesByCalls_47 : decode cX10_changesByCalls 47 = .ok (.iload_n 1, 1) := by decide +kernel
theorem dX10_changesByCalls_48 : decode cX10_changesByCalls 48 = .ok (.iload 6, 2) := by decide +kernel
theorem dX10_changesByCalls_50 : decode cX10_changesByCalls 50 = .ok (.invokestatic 132, 3) := by decide +kernel
theorem dX10_changesByCalls_53 : decode cX10_changesByCalls 53 = .ok (.ifCond .ne 6, 3) := by decide +kernel
theorem dX10_changesByCalls_56 : decode cX10_changesByCalls 56 = .ok (.goto 123, 3) := by decide +kernel
theorem dX10_changesByCalls_59 : decode cX10_changesByCalls 59 = .ok (.iload_n 3, 1) := by decide +kernel
theorem dX10_changesByCalls_60 : decode cX10_changesByCalls 60 = .ok (.aload_n 0, 1) := by decide +kernel
theorem dX10_changesByCalls_61 : decode cX10_changesByCalls 61 = .ok (.iload 6, 2) := by decide +kernel
theorem dX10_changesByCalls_63 : decode cX10_changesByCalls 63 = .ok (.bipush 6, 2) := by decide +kernel
theorem dX10_changesByCalls_65 : decode cX10_changesByCalls 65 = .ok (.invokevirtual 56, 3) := by decide +kernel
theorem dX10_changesByCalls_68 : decode cX10_changesByCalls 68 = .ok (.iconst 1, 1) := by decide +kernel
theorem dX10_changesByCalls_69 : decode cX10_changesByCalls 69 = .ok (.if_icmp .ne 23, 3) := by decide +kernel
theorem dX10_changesByCalls_72 : decode cX10_changesByCalls 72 = .ok (.aload_n 0, 1) := by decide +kernel
theorem dX10_changesByCalls_73 : decode cX10_changesByCalls 73 = .ok (.iload 6, 2) := by decide +kernel
theorem dX10_changesByCalls_75 : decode cX10_changesByCalls 75 = .ok (.invokevirtual 157, 3) := by decide +kernel
theorem dX10_changesByCalls_78 : decode cX10_changesByCalls 78 = .ok (.aload_n 0, 1) := by decide +kernel
theorem dX10_changesByCalls_79 : decode cX10_changesByCalls 79 = .ok (.iload 6, 2) := by decide +kernel
theorem dX10_changesByCalls_81 : decode cX10_changesByCalls 81 = .ok (.iconst 1, 1) := by decide +kernel
theorem dX10_changesByCalls_82 : decode cX10_changesByCalls 82 = .ok (.invokevirtual 56, 3) := by decide +kernel
theorem dX10_changesByCalls_85 : decode cX10_changesByCalls 85 = .ok (.if_icmp .lt 7, 3) := by decide +kernel
theorem dX10_changesByCalls_88 : decode cX10_changesByCalls 88 = .ok (.iconst 1, 1) := by decide +kernel
theorem dX10_changesByCalls_89 : decode cX10_changesByCalls 89 = .ok (.goto 4, 3) := by decide +kernel
theorem dX10_changesByCalls_92 : decode cX10_changesByCalls 92 = .ok (.iconst 0, 1) := by decide +kernel
theorem dX10_changesByCalls_93 : decode cX10_changesByCalls 93 = .ok (.iand, 1) := by decide +kernel
theorem dX10_changesByCalls_94 : decode cX10_changesByCalls 94 = .ok (.istore_n 3, 1) := by decide +kernel
theorem dX10_changesByCalls_95 : decode cX10_changesByCalls 95 = .ok (.iload 4, 2) := by decide +kernel
theorem dX10_changesByCalls_97 : decode cX10_changesByCalls 97 = .ok (.aload_n 0, 1) := by decide +kernel
theorem dX10_changesByCalls_98 : decode cX10_changesByCalls 98 = .ok (.iload 6, 2) := by decide +kernel
theorem dX10_changesByCalls_100 : decode cX10_changesByCalls 100 = .ok (.bipush 6, 2) := by decide +kernel
theorem dX10_changesByCalls_102 : decode cX10_changesByCalls 102 = .ok (.invokevirtual 56, 3) := by decide +kernel
theorem dX10_changesByCalls_105 : decode cX10_changesByCalls 105 = .ok (.iconst 1, 1) := by decide +kernel
theorem dX10_changesByCalls_106 : decode cX10_changesByCalls 106 = .ok (.if_icmp .ne 23, 3) := by decide +kernel
theorem dX10_changesByCalls_109 : decode cX10_changesByCalls 109 = .ok (.aload_n 0, 1) := by decide +kernel
theorem dX10_changesByCalls_110 : decode cX10_changesByCalls 110 = .ok (.iload 6, 2) := by decide +kernel
theorem dX10_changesByCalls_112 : decode cX10_changesByCalls 112 = .ok (.invokevirtual 157, 3) := by decide +kernel
theorem dX10_changesByCalls_115 : decode cX10_changesByCalls 115 = .ok (.aload_n 0, 1) := by decide +kernel
theorem dX10_changesByCalls_116 : decode cX10_changesByCalls 116 = .ok (.iload 6, 2) := by decide +kernel
theorem dX10_changesByCalls_118 : decode cX10_changesByCalls 118 = .ok (.iconst 2, 1) := by decide +kernel
theorem dX10_changesByCalls_119 : decode cX10_changesByCalls 119 = .ok (.invokevirtual 56, 3) := by decide +kernel
theorem dX10_changesByCalls_122 : decode cX10_changesByCalls 122 = .ok (.if_icmp .lt 7, 3) := by decide +kernel
theorem dX10_changesByCalls_125 : decode cX10_changesByCalls 125 = .ok (.iconst 1, 1) := by decide +kernel
theorem dX10_changesByCalls_126 : decode cX10_changesByCalls 126 = .ok (.goto 4, 3) := by decide +kernel
theorem dX10_changesByCalls_129 : decode cX10_changesByCalls 129 = .ok (.iconst 0, 1) := by decide +kernel
theorem dX10_changesByCalls_130 : decode cX10_changesByCalls 130 = .ok (.ior, 1) := by decide +kernel
theorem dX10_changesByCalls_131 : decode cX10_changesByCalls 131 = .ok (.istore 4, 2) := by decide +kernel
theorem dX10_changesByCalls_133 : decode cX10_changesByCalls 133 = .ok (.iload 5, 2) := by decide +kernel
theorem dX10_changesByCalls_135 : decode cX10_changesByCalls 135 = .ok (.aload_n 0, 1) := by decide +kernel
theorem dX10_changesByCalls_136 : decode cX10_changesByCalls 136 = .ok (.iload 6, 2) := by decide +kernel
theorem dX10_changesByCalls_138 : decode cX10_changesByCalls 138 = .ok (.bipush 9, 2) := by decide +kernel
theorem dX10_changesByCalls_140 : decode cX10_changesByCalls 140 = .ok (.invokevirtual 56, 3) := by decide +kernel
theorem dX10_changesByCalls_143 : decode cX10_changesByCalls 143 = .ok (.ifCond .lt 28, 3) := by decide +kernel
theorem dX10_changesByCalls_146 : decode cX10_changesByCalls 146 = .ok (.aload_n 0, 1) := by decide +kernel
theorem dX10_changesByCalls_147 : decode cX10_changesByCalls 147 = .ok (.getfield 11, 3) := by decide +kernel
theorem dX10_changesByCalls_150 : decode cX10_changesByCalls 150 = .ok (.iconst 3, 1) := by decide +kernel
theorem dX10_changesByCalls_151 : decode cX10_changesByCalls 151 = .ok (.iaload, 1) := by decide +kernel
theorem dX10_changesByCalls_152 : decode cX10_changesByCalls 152 = .ok (.aload_n 0, 1) := by decide +kernel
theorem dX10_changesByCalls_153 : decode cX10_changesByCalls 153 = .ok (.iload 6, 2) := by decide +kernel
theorem dX10_changesByCalls_155 : decode cX10_changesByCalls 155 = .ok (.bipush 9, 2) := by decide +kernel
theorem dX10_changesByCalls_157 : decode cX10_changesByCalls 157 = .ok (.invokevirtual 56, 3) := by decide +kernel
theorem dX10_changesByCalls_160 : decode cX10_changesByCalls 160 = .ok (.isub, 1) := by decide +kernel
theorem dX10_changesByCalls_161 : decode cX10_changesByCalls 161 = .ok (.aload_n 0, 1) := by decide +kernel
theorem dX10_changesByCalls_162 : decode cX10_changesByCalls 162 = .ok (.iload 6, 2) := by decide +kernel
theorem dX10_changesByCalls_164 : decode cX10_changesByCalls 164 = .ok (.iconst 3, 1) := by decide +kernel
theorem dX10_changesByCalls_165 : decode cX10_changesByCalls 165 = .ok (.invokevirtual 56, 3) := by decide +kernel
theorem dX10_changesByCalls_168 : decode cX10_changesByCalls 168 = .ok (.if_icmp .lt 7, 3) := by decide +kernel
theorem dX10_changesByCalls_171 : decode cX10_changesByCalls 171 = .ok (.iconst 1, 1) := by decide +kernel
theorem dX10_changesByCalls_172 : decode cX10_changesByCalls 172 = .ok (.goto 4, 3) := by decide +kernel
theorem dX10_changesByCalls_175 : decode cX10_changesByCalls 175 = .ok (.iconst 0, 1) := by decide +kernel
theorem dX10_changesByCalls_176 : decode cX10_changesByCalls 176 = .ok (.iand, 1) := by decide +kernel
theorem dX10_changesByCalls_177 : decode cX10_changesByCalls 177 = .ok (.istore 5, 2) := by decide +kernel
theorem dX10_changesByCalls_179 : decode cX10_changesByCalls 179 = .ok (.iinc 6 1, 3) := by decide +kernel
theorem dX10_changesByCalls_182 : decode cX10_changesByCalls 182 = .ok (.goto (-147), 3) := by decide +kernel
theorem dX10_changesByCalls_185 : decode cX10_changesByCalls 185 = .ok (.iconst 0, 1) := by decide +kernel
theorem dX10_changesByCalls_186 : decode cX10_changesByCalls 186 = .ok (.istore 6, 2) := by decide +kernel
theorem dX10_changesByCalls_188 : decode cX10_changesByCalls 188 = .ok (.aload_n 0, 1) := by decide +kernel
theorem dX10_changesByCalls_189 : decode cX10_changesByCalls 189 = .ok (.getfield 11, 3) := by decide +kernel
theorem dX10_changesByCalls_192 : decode cX10_changesByCalls 192 = .ok (.bipush 10, 2) := by decide +kernel
theorem dX10_changesByCalls_194 : decode cX10_changesByCalls 194 = .ok (.iaload, 1) := by decide +kernel
theorem dX10_changesByCalls_195 : decode cX10_changesByCalls 195 = .ok (.ifCond .le 70, 3) := by decide +kernel
theorem dX10_changesByCalls_198 : decode cX10_changesByCalls 198 = .ok (.aload_n 0, 1) := by decide +kernel
theorem dX10_changesByCalls_199 : decode cX10_changesByCalls 199 = .ok (.getfield 11, 3) := by decide +kernel
theorem dX10_changesByCalls_202 : decode cX10_changesByCalls 202 = .ok (.iconst 4, 1) := by decide +kernel
theorem dX10_changesByCalls_203 : decode cX10_changesByCalls 203 = .ok (.iaload, 1) := by decide +kernel
theorem dX10_changesByCalls_204 : decode cX10_changesByCalls 204 = .ok (.ifCond .ne 28, 3) := by decide +kernel
theorem dX10_changesByCalls_207 : decode cX10_changesByCalls 207 = .ok (.iload_n 3, 1) := by decide +kernel
theorem dX10_changesByCalls_208 : decode cX10_changesByCalls 208 = .ok (.aload_n 0, 1) := by decide +kernel
theorem dX10_changesByCalls_209 : decode cX10_changesByCalls 209 = .ok (.invokevirtual 170, 3) := by decide +kernel
theorem dX10_changesByCalls_212 : decode cX10_changesByCalls 212 = .ok (.aload_n 0, 1) := by decide +kernel
theorem dX10_changesByCalls_213 : decode cX10_changesByCalls 213 = .ok (.getfield 11, 3) := by decide +kernel
theorem dX10_changesByCalls_216 : decode cX10_changesByCalls 216 = .ok (.bipush 12, 2) := by decide +kernel
theorem dX10_changesByCalls_218 : decode cX10_changesByCalls 218 = .ok (.iaload, 1) := by decide +kernel
theorem dX10_changesByCalls_219 : decode cX10_changesByCalls 219 = .ok (.if_icmp .lt 7, 3) := by decide +kernel
theorem dX10_changesByCalls_222 : decode cX10_changesByCalls 222 = .ok (.iconst 1, 1) := by decide +kernel
theorem dX10_changesByCalls_223 : decode cX10_changesByCalls 223 = .ok (.goto 4, 3) := by decide +kernel
theorem dX10_changesByCalls_226 : decode cX10_changesByCalls 226 = .ok (.iconst 0, 1) := by decide +kernel
theorem dX10_changesByCalls_227 : decode cX10_changesByCalls 227 = .ok (.iand, 1) := by decide +kernel
theorem dX10_changesByCalls_228 : decode cX10_changesByCalls 228 = .ok (.istore_n 3, 1) := by decide +kernel
theorem dX10_changesByCalls_229 : decode cX10_changesByCalls 229 = .ok (.goto 36, 3) := by decide +kernel
theorem dX10_changesByCalls_232 : decode cX10_changesByCalls 232 = .ok (.aload_n 0, 1) := by decide +kernel
theorem dX10_changesByCalls_233 : decode cX10_changesByCalls 233 = .ok (.invokevirtual 170, 3) := by decide +kernel
theorem dX10_changesByCalls_236 : decode cX10_changesByCalls 236 = .ok (.aload_n 0, 1) := by decide +kernel
theorem dX10_changesByCalls_237 : decode cX10_changesByCalls 237 = .ok (.getfield 11, 3) := by decide +kernel
theorem dX10_changesByCalls_240 : decode cX10_changesByCalls 240 = .ok (.sipush 216, 3) := by decide +kernel
theorem dX10_changesByCalls_243 : decode cX10_changesByCalls 243 = .ok (.iconst 3, 1) := by decide +kernel
theorem dX10_changesByCalls_244 : decode cX10_changesByCalls 244 = .ok (.aload_n 0, 1) := by decide +kernel
theorem dX10_changesByCalls_245 : decode cX10_changesByCalls 245 = .ok (.getfield 11, 3) := by decide +kernel
theorem dX10_changesByCalls_248 : decode cX10_changesByCalls 248 = .ok (.iconst 4, 1) := by decide +kernel
theorem dX10_changesByCalls_249 : decode cX10_changesByCalls 249 = .ok (.iaload, 1) := by decide +kernel
theorem dX10_changesByCalls_250 : decode cX10_changesByCalls 250 = .ok (.imul, 1) := by decide +kernel
theorem dX10_changesByCalls_251 : decode cX10_changesByCalls 251 = .ok (.iadd, 1) := by decide +kernel
theorem dX10_changesByCalls_252 : decode cX10_changesByCalls 252 = .ok (.iconst 1, 1) := by decide +kernel
theorem dX10_changesByCalls_253 : decode cX10_changesByCalls 253 = .ok (.iadd, 1) := by decide +kernel
theorem dX10_changesByCalls_254 : decode cX10_changesByCalls 254 = .ok (.iaload, 1) := by decide +kernel
theorem dX10_changesByCalls_255 : decode cX10_changesByCalls 255 = .ok (.if_icmp .lt 7, 3) := by decide +kernel
theorem dX10_changesByCalls_258 : decode cX10_changesByCalls 258 = .ok (.iconst 1, 1) := by decide +kernel
theorem dX10_changesByCalls_259 : decode cX10_changesByCalls 259 = .ok (.goto 4, 3) := by decide +kernel
theorem dX10_changesByCalls_262 : decode cX10_changesByCalls 262 = .ok (.iconst 0, 1) := by decide +kernel
theorem dX10_changesByCalls_263 : decode cX10_changesByCalls 263 = .ok (.istore 6, 2) := by decide +kernel
theorem dX10_changesByCalls_265 : decode cX10_changesByCalls 265 = .ok (.iload_n 3, 1) := by decide +kernel
theorem dX10_changesByCalls_266 : decode cX10_changesByCalls 266 = .ok (.ifCond .eq 18, 3) := by decide +kernel
theorem dX10_changesByCalls_269 : decode cX10_changesByCalls 269 = .ok (.iload 6, 2) := by decide +kernel
theorem dX10_changesByCalls_271 : decode cX10_changesByCalls 271 = .ok (.ifCond .ne 14, 3) := by decide +kernel
theorem dX10_changesByCalls_274 : decode cX10_changesByCalls 274 = .ok (.iload 4, 2) := by decide +kernel
theorem dX10_changesByCalls_276 : decode cX10_changesByCalls 276 = .ok (.ifCond .ne 9, 3) := by decide +kernel
theorem dX10_changesByCalls_279 : decode cX10_changesByCalls 279 = .ok (.iload 5, 2) := by decide +kernel
theorem dX10_changesByCalls_281 : decode cX10_changesByCalls 281 = .ok (.ifCond .ne 4, 3) := by decide +kernel
theorem dX10_changesByCalls_284 : decode cX10_changesByCalls 284 = .ok (.return_, 1) := by decide +kernel
theorem dX10_changesByCalls_285 : decode cX10_changesByCalls 285 = .ok (.aload_n 0, 1) := by decide +kernel
theorem dX10_changesByCalls_286 : decode cX10_changesByCalls 286 = .ok (.getfield 11, 3) := by decide +kernel
theorem dX10_changesByCalls_289 : decode cX10_changesByCalls 289 = .ok (.iconst 5, 1) := by decide +kernel
theorem dX10_changesByCalls_290 : decode cX10_changesByCalls 290 = .ok (.iaload, 1) := by decide +kernel
theorem dX10_changesByCalls_291 : decode cX10_changesByCalls 291 = .ok (.istore 7, 2) := by decide +kernel
theorem dX10_changesByCalls_293 : decode cX10_changesByCalls 293 = .ok (.iload 7, 2) := by decide +kernel
theorem dX10_changesByCalls_295 : decode cX10_changesByCalls 295 = .ok (.ifCond .lt 12, 3) := by decide +kernel
theorem dX10_changesByCalls_298 : decode cX10_changesByCalls 298 = .ok (.iload_n 2, 1) := by decide +kernel
theorem dX10_changesByCalls_299 : decode cX10_changesByCalls 299 = .ok (.iload 7, 2) := by decide +kernel
theorem dX10_changesByCalls_301 : decode cX10_changesByCalls 301 = .ok (.invokestatic 132, 3) := by decide +kernel
theorem dX10_changesByCalls_304 : decode cX10_changesByCalls 304 = .ok (.ifCond .ne 47, 3) := by decide +kernel
theorem dX10_changesByCalls_307 : decode cX10_changesByCalls 307 = .ok (.aload_n 0, 1) := by decide +kernel
theorem dX10_changesByCalls_308 : decode cX10_changesByCalls 308 = .ok (.getfield 11, 3) := by decide +kernel
theorem dX10_changesByCalls_311 : decode cX10_changesByCalls 311 = .ok (.iconst 4, 1) := by decide +kernel
theorem dX10_changesByCalls_312 : decode cX10_changesByCalls 312 = .ok (.iaload, 1) := by decide +kernel
theorem dX10_changesByCalls_313 : decode cX10_changesByCalls 313 = .ok (.iconst 1, 1) := by decide +kernel
theorem dX10_changesByCalls_314 : decode cX10_changesByCalls 314 = .ok (.iadd, 1) := by decide +kernel
theorem dX10_changesByCalls_315 : decode cX10_changesByCalls 315 = .ok (.aload_n 0, 1) := by decide +kernel
theorem dX10_changesByCalls_316 : decode cX10_changesByCalls 316 = .ok (.getfield 11, 3) := by decide +kernel
theorem dX10_changesByCalls_319 : decode cX10_changesByCalls 319 = .ok (.bipush 14, 2) := by decide +kernel
theorem dX10_changesByCalls_321 : decode cX10_changesByCalls 321 = .ok (.iaload, 1) := by decide +kernel
theorem dX10_changesByCalls_322 : decode cX10_changesByCalls 322 = .ok (.irem, 1) := by decide +kernel
theorem dX10_changesByCalls_323 : decode cX10_changesByCalls 323 = .ok (.istore 7, 2) := by decide +kernel
theorem dX10_changesByCalls_325 : decode cX10_changesByCalls 325 = .ok (.iload_n 2, 1) := by decide +kernel
theorem dX10_changesByCalls_326 : decode cX10_changesByCalls 326 = .ok (.iload 7, 2) := by decide +kernel
theorem dX10_changesByCalls_328 : decode cX10_changesByCalls 328 = .ok (.invokestatic 132, 3) := by decide +kernel
theorem dX10_changesByCalls_331 : decode cX10_changesByCalls 331 = .ok (.ifCond .ne 20, 3) := by decide +kernel
theorem dX10_changesByCalls_334 : decode cX10_changesByCalls 334 = .ok (.iload 7, 2) := by decide +kernel
theorem dX10_changesByCalls_336 : decode cX10_changesByCalls 336 = .ok (.iconst 1, 1) := by decide +kernel
theorem dX10_changesByCalls_337 : decode cX10_changesByCalls 337 = .ok (.iadd, 1) := by decide +kernel
theorem dX10_changesByCalls_338 : decode cX10_changesByCalls 338 = .ok (.aload_n 0, 1) := by decide +kernel
theorem dX10_changesByCalls_339 : decode cX10_changesByCalls 339 = .ok (.getfield 11, 3) := by decide +kernel
theorem dX10_changesByCalls_342 : decode cX10_changesByCalls 342 = .ok (.bipush 14, 2) := by decide +kernel
theorem dX10_changesByCalls_344 : decode cX10_changesByCalls 344 = .ok (.iaload, 1) := by decide +kernel
theorem dX10_changesByCalls_345 : decode cX10_changesByCalls 345 = .ok (.irem, 1) := by decide +kernel
theorem dX10_changesByCalls_346 : decode cX10_changesByCalls 346 = .ok (.istore 7, 2) := by decide +kernel
theorem dX10_changesByCalls_348 : decode cX10_changesByCalls 348 = .ok (.goto (-23), 3) := by decide +kernel
theorem dX10_changesByCalls_351 : decode cX10_changesByCalls 351 = .ok (.aload_n 0, 1) := by decide +kernel
theorem dX10_changesByCalls_352 : decode cX10_changesByCalls 352 = .ok (.getfield 11, 3) := by decide +kernel
theorem dX10_changesByCalls_355 : decode cX10_changesByCalls 355 = .ok (.iconst 5, 1) := by decide +kernel
theorem dX10_changesByCalls_356 : decode cX10_changesByCalls 356 = .ok (.bipush (-5), 2) := by decide +kernel
theorem dX10_changesByCalls_358 : decode cX10_changesByCalls 358 = .ok (.iastore, 1) := by decide +kernel
theorem dX10_changesByCalls_359 : decode cX10_changesByCalls 359 = .ok (.aload_n 0, 1) := by decide +kernel
theorem dX10_changesByCalls_360 : decode cX10_changesByCalls 360 = .ok (.iload 7, 2) := by decide +kernel
theorem dX10_changesByCalls_362 : decode cX10_changesByCalls 362 = .ok (.invokevirtual 163, 3) := by decide +kernel
theorem dX10_changesByCalls_365 : decode cX10_changesByCalls 365 = .ok (.return_, 1) := by decide +kernel
theorem dX10_mayTurn_0 : decode cX10_mayTurn 0 = .ok (.iconst 0, 1) := by decide +kernel
theorem dX10_mayTurn_1 : decode cX10_mayTurn 1 = .ok (.istore_n 2, 1) := by decide +kernel
theorem dX10_mayTurn_2 : decode cX10_mayTurn 2 = .ok (.iload_n 2, 1) := by decide +kernel
theorem dX10_mayTurn_3 : decode cX10_mayTurn 3 = .ok (.aload_n 0, 1) := by decide +kernel
theorem dX10_mayTurn_4 : decode cX10_mayTurn 4 = .ok (.getfield 11, 3) := by decide +kernel
theorem dX10_mayTurn_7 : decode cX10_mayTurn 7 = .ok (.bipush 13, 2) := by decide +kernel
theorem dX10_mayTurn_9 : decode cX10_mayTurn 9 = .ok (.iaload, 1) := by decide +kernel
theorem dX10_mayTurn_10 : decode cX10_mayTurn 10 = .ok (.if_icmp .ge 58, 3) := by decide +kernel
theorem dX10_mayTurn_13 : decode cX10_mayTurn 13 = .ok (.aload_n 0, 1) := by decide +kernel
theorem dX10_mayTurn_14 : decode cX10_mayTurn 14 = .ok (.iload_n 1, 1) := by decide +kernel
theorem dX10_mayTurn_15 : decode cX10_mayTurn 15 = .ok (.iload_n 2, 1) := by decide +kernel
theorem dX10_mayTurn_16 : decode cX10_mayTurn 16 = .ok (.invokevirtual 81, 3) := by decide +kernel
theorem dX10_mayTurn_19 : decode cX10_mayTurn 19 = .ok (.ifCond .eq 43, 3) := by decide +kernel
theorem dX10_mayTurn_22 : decode cX10_mayTurn 22 = .ok (.aload_n 0, 1) := by decide +kernel
theorem dX10_mayTurn_23 : decode cX10_mayTurn 23 = .ok (.iload_n 2, 1) := by decide +kernel
theorem dX10_mayTurn_24 : decode cX10_mayTurn 24 = .ok (.bipush 8, 2) := by decide +kernel
theorem dX10_mayTurn_26 : decode cX10_mayTurn 26 = .ok (.invokevirtual 56, 3) := by decide +kernel
theorem dX10_mayTurn_29 : decode cX10_mayTurn 29 = .ok (.ifCond .lt 33, 3) := by decide +kernel
theorem dX10_mayTurn_32 : decode cX10_mayTurn 32 = .ok (.aload_n 0, 1) := by decide +kernel
theorem dX10_mayTurn_33 : decode cX10_mayTurn 33 = .ok (.getfield 11, 3) := by decide +kernel
theorem dX10_mayTurn_36 : decode cX10_mayTurn 36 = .ok (.iconst 3, 1) := by decide +kernel
theorem dX10_mayTurn_37 : decode cX10_mayTurn 37 = .ok (.iaload, 1) := by decide +kernel
theorem dX10_mayTurn_38 : decode cX10_mayTurn 38 = .ok (.aload_n 0, 1) := by decide +kernel
theorem dX10_mayTurn_39 : decode cX10_mayTurn 39 = .ok (.iload_n 2, 1) := by decide +kernel
theorem dX10_mayTurn_40 : decode cX10_mayTurn 40 = .ok (.bipush 8, 2) := by decide +kernel
theorem dX10_mayTurn_42 : decode cX10_mayTurn 42 = .ok (.invokevirtual 56, 3) := by decide +kernel
theorem dX10_mayTurn_45 : decode cX10_mayTurn 45 = .ok (.isub, 1) := by decide +kernel
theorem dX10_mayTurn_46 : decode cX10_mayTurn 46 = .ok (.aload_n 0, 1) := by decide +kernel
theorem dX10_mayTurn_47 : decode cX10_mayTurn 47 = .ok (.getfield 21, 3) := by decide +kernel
theorem dX10_mayTurn_50 : decode cX10_mayTurn 50 = .ok (.bipush 8, 2) := by decide +kernel
theorem dX10_mayTurn_52 : decode cX10_mayTurn 52 = .ok (.iload_n 2, 1) := by decide +kernel
theorem dX10_mayTurn_53 : decode cX10_mayTurn 53 = .ok (.imul, 1) := by decide +kernel
theorem dX10_mayTurn_54 : decode cX10_mayTurn 54 = .ok (.iload_n 1, 1) := by decide +kernel
theorem dX10_mayTurn_55 : decode cX10_mayTurn 55 = .ok (.iadd, 1) := by decide +kernel
theorem dX10_mayTurn_56 : decode cX10_mayTurn 56 = .ok (.iaload, 1) := by decide +kernel
theorem dX10_mayTurn_57 : decode cX10_mayTurn 57 = .ok (.if_icmp .ge 5, 3) := by decide +kernel
theorem dX10_mayTurn_60 : decode cX10_mayTurn 60 = .ok (.iconst 0, 1) := by decide +kernel
theorem dX10_mayTurn_61 : decode cX10_mayTurn 61 = .ok (.ireturn, 1) := by decide +kernel
theorem dX10_mayTurn_62 : decode cX10_mayTurn 62 = .ok (.iinc 2 1, 3) := by decide +kernel
theorem dX10_mayTurn_65 : decode cX10_mayTurn 65 = .ok (.goto (-63), 3) := by decide +kernel
theorem dX10_mayTurn_68 : decode cX10_mayTurn 68 = .ok (.iconst 1, 1) := by decide +kernel
theorem dX10_mayTurn_69 : decode cX10_mayTurn 69 = .ok (.ireturn, 1) := by decide +kernel
theorem dX10_turning_0 : decode cX10_turning 0 = .ok (.iconst 0, 1) := by decide +kernel
theorem dX10_turning_1 : decode cX10_turning 1 = .ok (.istore_n 1, 1) := by decide +kernel
theorem dX10_turning_2 : decode cX10_turning 2 = .ok (.iload_n 1, 1) := by decide +kernel
theorem dX10_turning_3 : decode cX10_turning 3 = .ok (.aload_n 0, 1) := by decide +kernel
theorem dX10_turning_4 : decode cX10_turning 4 = .ok (.getfield 11, 3) := by decide +kernel
theorem dX10_turning_7 : decode cX10_turning 7 = .ok (.bipush 13, 2) := by decide +kernel
theorem dX10_turning_9 : decode cX10_turning 9 = .ok (.iaload, 1) := by decide +kernel
theorem dX10_turning_10 : decode cX10_turning 10 = .ok (.if_icmp .ge 85, 3) := by decide +kernel
theorem dX10_turning_13 : decode cX10_turning 13 = .ok (.aload_n 0, 1) := by decide +kernel
theorem dX10_turning_14 : decode cX10_turning 14 = .ok (.aload_n 0, 1) := by decide +kernel
theorem dX10_turning_15 : decode cX10_turning 15 = .ok (.getfield 11, 3) := by decide +kernel
theorem dX10_turning_18 : decode cX10_turning 18 = .ok (.iconst 4, 1) := by decide +kernel
theorem dX10_turning_19 : decode cX10_turning 19 = .ok (.iaload, 1) := by decide +kernel
theorem dX10_turning_20 : decode cX10_turning 20 = .ok (.invokevirtual 151, 3) := by decide +kernel
theorem dX10_turning_23 : decode cX10_turning 23 = .ok (.iload_n 1, 1) := by decide +kernel
theorem dX10_turning_24 : decode cX10_turning 24 = .ok (.invokestatic 132, 3) := by decide +kernel
theorem dX10_turning_27 : decode cX10_turning 27 = .ok (.ifCond .eq 62, 3) := by decide +kernel
theorem dX10_turning_30 : decode cX10_turning 30 = .ok (.aload_n 0, 1) := by decide +kernel
theorem dX10_turning_31 : decode cX10_turning 31 = .ok (.iload_n 1, 1) := by decide +kernel
theorem dX10_turning_32 : decode cX10_turning 32 = .ok (.bipush 6, 2) := by decide +kernel
theorem dX10_turning_34 : decode cX10_turning 34 = .ok (.invokevirtual 56, 3) := by decide +kernel
theorem dX10_turning_37 : decode cX10_turning 37 = .ok (.iconst 1, 1) := by decide +kernel
theorem dX10_turning_38 : decode cX10_turning 38 = .ok (.if_icmp .eq 51, 3) := by decide +kernel
theorem dX10_turning_41 : decode cX10_turning 41 = .ok (.aload_n 0, 1) := by decide +kernel
theorem dX10_turning_42 : decode cX10_turning 42 = .ok (.iload_n 1, 1) := by decide +kernel
theorem dX10_turning_43 : decode cX10_turning 43 = .ok (.invokevirtual 173, 3) := by decide +kernel
theorem dX10_turning_46 : decode cX10_turning 46 = .ok (.ifCond .ne 6, 3) := by decide +kernel
theorem dX10_turning_49 : decode cX10_turning 49 = .ok (.goto 40, 3) := by decide +kernel
theorem dX10_turning_52 : decode cX10_turning 52 = .ok (.aload_n 0, 1) := by decide +kernel
theorem dX10_turning_53 : decode cX10_turning 53 = .ok (.iload_n 1, 1) := by decide +kernel
theorem dX10_turning_54 : decode cX10_turning 54 = .ok (.bipush 6, 2) := by decide +kernel
theorem dX10_turning_56 : decode cX10_turning 56 = .ok (.iconst 1, 1) := by decide +kernel
theorem dX10_turning_57 : decode cX10_turning 57 = .ok (.invokevirtual 85, 3) := by decide +kernel
theorem dX10_turning_60 : decode cX10_turning 60 = .ok (.aload_n 0, 1) := by decide +kernel
theorem dX10_turning_61 : decode cX10_turning 61 = .ok (.iload_n 1, 1) := by decide +kernel
theorem dX10_turning_62 : decode cX10_turning 62 = .ok (.bipush 7, 2) := by decide +kernel
theorem dX10_turning_64 : decode cX10_turning 64 = .ok (.aload_n 0, 1) := by decide +kernel
theorem dX10_turning_65 : decode cX10_turning 65 = .ok (.getfield 11, 3) := by decide +kernel
theorem dX10_turning_68 : decode cX10_turning 68 = .ok (.iconst 3, 1) := by decide +kernel
theorem dX10_turning_69 : decode cX10_turning 69 = .ok (.iaload, 1) := by decide +kernel
theorem dX10_turning_70 : decode cX10_turning 70 = .ok (.invokevirtual 85, 3) := by decide +kernel
theorem dX10_turning_73 : decode cX10_turning 73 = .ok (.aload_n 0, 1) := by decide +kernel
theorem dX10_turning_74 : decode cX10_turning 74 = .ok (.iload_n 1, 1) := by decide +kernel
theorem dX10_turning_75 : decode cX10_turning 75 = .ok (.bipush 20, 2) := by decide +kernel
theorem dX10_turning_77 : decode cX10_turning 77 = .ok (.aload_n 0, 1) := by decide +kernel
theorem dX10_turning_78 : decode cX10_turning 78 = .ok (.iload_n 1, 1) := by decide +kernel
theorem dX10_turning_79 : decode cX10_turning 79 = .ok (.bipush 20, 2) := by decide +kernel
theorem dX10_turning_81 : decode cX10_turning 81 = .ok (.invokevirtual 56, 3) := by decide +kernel
theorem dX10_turning_84 : decode cX10_turning 84 = .ok (.iconst 1, 1) := by decide +kernel
theorem dX10_turning_85 : decode cX10_turning 85 = .ok (.iadd, 1) := by decide +kernel
theorem dX10_turning_86 : decode cX10_turning 86 = .ok (.invokevirtual 85, 3) := by decide +kernel
theorem dX10_turning_89 : decode cX10_turning 89 = .ok (.iinc 1 1, 3) := by decide +kernel
theorem dX10_turning_92 : decode cX10_turning 92 = .ok (.goto (-90), 3) := by decide +kernel
theorem dX10_turning_95 : decode cX10_turning 95 = .ok (.return_, 1) := by decide +kernel
theorem dX10_going_0 : decode cX10_going 0 = .ok (.iconst 0, 1) := by decide +kernel
theorem dX10_going_1 : decode cX10_going 1 = .ok (.istore_n 1, 1) := by decide +kernel
theorem dX10_going_2 : decode cX10_going 2 = .ok (.iload_n 1, 1) := by decide +kernel
theorem dX10_going_3 : decode cX10_going 3 = .ok (.aload_n 0, 1) := by decide +kernel
theorem dX10_going_4 : decode cX10_going 4 = .ok (.getfield 11, 3) := by decide +kernel
theorem dX10_going_7 : decode cX10_going 7 = .ok (.bipush 13, 2) := by decide +kernel
theorem dX10_going_9 : decode cX10_going 9 = .ok (.iaload, 1) := by decide +kernel
theorem dX10_going_10 : decode cX10_going 10 = .ok (.if_icmp .ge 136, 3) := by decide +kernel
theorem dX10_going_13 : decode cX10_going 13 = .ok (.aload_n 0, 1) := by decide +kernel
theorem dX10_going_14 : decode cX10_going 14 = .ok (.iload_n 1, 1) := by decide +kernel
theorem dX10_going_15 : decode cX10_going 15 = .ok (.bipush 6, 2) := by decide +kernel
theorem dX10_going_17 : decode cX10_going 17 = .ok (.invokevirtual 56, 3) := by decide +kernel
theorem dX10_going_20 : decode cX10_going 20 = .ok (.ifCond .ne 6, 3) := by decide +kernel
theorem dX10_going_23 : decode cX10_going 23 = .ok (.goto 117, 3) := by decide +kernel
theorem dX10_going_26 : decode cX10_going 26 = .ok (.aload_n 0, 1) := by decide +kernel
theorem dX10_going_27 : decode cX10_going 27 = .ok (.iload_n 1, 1) := by decide +kernel
theorem dX10_going_28 : decode cX10_going 28 = .ok (.iconst 0, 1) := by decide +kernel
theorem dX10_going_29 : decode cX10_going 29 = .ok (.invokevirtual 56, 3) := by decide +kernel
theorem dX10_going_32 : decode cX10_going 32 = .ok (.istore_n 2, 1) := by decide +kernel
theorem dX10_going_33 : decode cX10_going 33 = .ok (.aload_n 0, 1) := by decide +kernel
theorem dX10_going_34 : decode cX10_going 34 = .ok (.iload_n 1, 1) := by decide +kernel
theorem dX10_going_35 : decode cX10_going 35 = .ok (.invokevirtual 157, 3) := by decide +kernel
theorem dX10_going_38 : decode cX10_going 38 = .ok (.istore_n 3, 1) := by decide +kernel
theorem dX10_going_39 : decode cX10_going 39 = .ok (.iload_n 2, 1) := by decide +kernel
theorem dX10_going_40 : decode cX10_going 40 = .ok (.ifCond .ne 11, 3) := by decide +kernel
theorem dX10_going_43 : decode cX10_going 43 = .ok (.iconst 1, 1) := by decide +kernel
theorem dX10_going_44 : decode cX10_going 44 = .ok (.iload_n 3, 1) := by decide +kernel
theorem dX10_going_45 : decode cX10_going 45 = .ok (.iconst 2, 1) := by decide +kernel
theorem dX10_going_46 : decode cX10_going 46 = .ok (.irem, 1) := by decide +kernel
theorem dX10_going_47 : decode cX10_going 47 = .ok (.isub, 1) := by decide +kernel
theorem dX10_going_48 : decode cX10_going 48 = .ok (.goto 33, 3) := by decide +kernel
theorem dX10_going_51 : decode cX10_going 51 = .ok (.iload_n 2, 1) := by decide +kernel
theorem dX10_going_52 : decode cX10_going 52 = .ok (.iconst 1, 1) := by decide +kernel
theorem dX10_going_53 : decode cX10_going 53 = .ok (.if_icmp .ne 8, 3) := by decide +kernel
theorem dX10_going_56 : decode cX10_going 56 = .ok (.bipush 99, 2) := by decide +kernel
theorem dX10_going_58 : decode cX10_going 58 = .ok (.goto 23, 3) := by decide +kernel
theorem dX10_going_61 : decode cX10_going 61 = .ok (.iload_n 2, 1) := by decide +kernel
theorem dX10_going_62 : decode cX10_going 62 = .ok (.iconst 2, 1) := by decide +kernel
theorem dX10_going_63 : decode cX10_going 63 = .ok (.if_icmp .ne 17, 3) := by decide +kernel
theorem dX10_going_66 : decode cX10_going 66 = .ok (.iload_n 3, 1) := by decide +kernel
theorem dX10_going_67 : decode cX10_going 67 = .ok (.iconst 4, 1) := by decide +kernel
theorem dX10_going_68 : decode cX10_going 68 = .ok (.irem, 1) := by decide +kernel
theorem dX10_going_69 : decode cX10_going 69 = .ok (.ifCond .ne 7, 3) := by decide +kernel
theorem dX10_going_72 : decode cX10_going 72 = .ok (.iconst 1, 1) := by decide +kernel
theorem dX10_going_73 : decode cX10_going 73 = .ok (.goto 8, 3) := by decide +kernel
theorem dX10_going_76 : decode cX10_going 76 = .ok (.iconst 0, 1) := by decide +kernel
theorem dX10_going_77 : decode cX10_going 77 = .ok (.goto 4, 3) := by decide +kernel
theorem dX10_going_80 : decode cX10_going 80 = .ok (.iconst 1, 1) := by decide +kernel
theorem dX10_going_81 : decode cX10_going 81 = .ok (.istore 4, 2) := by decide +kernel
theorem dX10_going_83 : decode cX10_going 83 = .ok (.iload 4, 2) := by decide +kernel
theorem dX10_going_85 : decode cX10_going 85 = .ok (.aload_n 0, 1) := by decide +kernel
theorem dX10_going_86 : decode cX10_going 86 = .ok (.iload_n 1, 1) := by decide +kernel
theorem dX10_going_87 : decode cX10_going 87 = .ok (.iconst 5, 1) := by decide +kernel
theorem dX10_going_88 : decode cX10_going 88 = .ok (.invokevirtual 56, 3) := by decide +kernel
theorem dX10_going_91 : decode cX10_going 91 = .ok (.invokestatic 100, 3) := by decide +kernel
theorem dX10_going_94 : decode cX10_going 94 = .ok (.istore 5, 2) := by decide +kernel
theorem dX10_going_96 : decode cX10_going 96 = .ok (.aload_n 0, 1) := by decide +kernel
theorem dX10_going_97 : decode cX10_going 97 = .ok (.iload_n 1, 1) := by decide +kernel
theorem dX10_going_98 : decode cX10_going 98 = .ok (.iconst 5, 1) := by decide +kernel
theorem dX10_going_99 : decode cX10_going 99 = .ok (.aload_n 0, 1) := by decide +kernel
theorem dX10_going_100 : decode cX10_going 100 = .ok (.iload_n 1, 1) := by decide +kernel
theorem dX10_going_101 : decode cX10_going 101 = .ok (.iconst 5, 1) := by decide +kernel
theorem dX10_going_102 : decode cX10_going 102 = .ok (.invokevirtual 56, 3) := by decide +kernel
theorem dX10_going_105 : decode cX10_going 105 = .ok (.iload 5, 2) := by decide +kernel
theorem dX10_going_107 : decode cX10_going 107 = .ok (.isub, 1) := by decide +kernel
theorem dX10_going_108 : decode cX10_going 108 = .ok (.invokevirtual 85, 3) := by decide +kernel
theorem dX10_going_111 : decode cX10_going 111 = .ok (.aload_n 0, 1) := by decide +kernel
theorem dX10_going_112 : decode cX10_going 112 = .ok (.iload_n 1, 1) := by decide +kernel
theorem dX10_going_113 : decode cX10_going 113 = .ok (.bipush 10, 2) := by decide +kernel
theorem dX10_going_115 : decode cX10_going 115 = .ok (.aload_n 0, 1) := by decide +kernel
theorem dX10_going_116 : decode cX10_going 116 = .ok (.iload_n 1, 1) := by decide +kernel
theorem dX10_going_117 : decode cX10_going 117 = .ok (.bipush 10, 2) := by decide +kernel
theorem dX10_going_119 : decode cX10_going 119 = .ok (.invokevirtual 56, 3) := by decide +kernel
theorem dX10_going_122 : decode cX10_going 122 = .ok (.iload 5, 2) := by decide +kernel
theorem dX10_going_124 : decode cX10_going 124 = .ok (.iadd, 1) := by decide +kernel
theorem dX10_going_125 : decode cX10_going 125 = .ok (.invokevirtual 85, 3) := by decide +kernel
theorem dX10_going_128 : decode cX10_going 128 = .ok (.aload_n 0, 1) := by decide +kernel
theorem dX10_going_129 : decode cX10_going 129 = .ok (.getfield 11, 3) := by decide +kernel
theorem dX10_going_132 : decode cX10_going 132 = .ok (.bipush 8, 2) := by decide +kernel
theorem dX10_going_134 : decode cX10_going 134 = .ok (.dup2, 1) := by decide +kernel
theorem dX10_going_135 : decode cX10_going 135 = .ok (.iaload, 1) := by decide +kernel
theorem dX10_going_136 : decode cX10_going 136 = .ok (.iload 5, 2) := by decide +kernel
theorem dX10_going_138 : decode cX10_going 138 = .ok (.iadd, 1) := by decide +kernel
theorem dX10_going_139 : decode cX10_going 139 = .ok (.iastore, 1) := by decide +kernel
theorem dX10_going_140 : decode cX10_going 140 = .ok (.iinc 1 1, 3) := by decide +kernel
theorem dX10_going_143 : decode cX10_going 143 = .ok (.goto (-141), 3) := by decide +kernel
theorem dX10_going_146 : decode cX10_going 146 = .ok (.return_, 1) := by decide +kernel
theorem dX10_queues_0 : decode cX10_queues 0 = .ok (.iconst 0, 1) := by decide +kernel
theorem dX10_queues_1 : decode cX10_queues 1 = .ok (.istore_n 1, 1) := by decide +kernel
theorem dX10_queues_2 : decode cX10_queues 2 = .ok (.iconst 0, 1) := by decide +kernel
theorem dX10_queues_3 : decode cX10_queues 3 = .ok (.istore_n 2, 1) := by decide +kernel
theorem dX10_queues_4 : decode cX10_queues 4 = .ok (.iload_n 2, 1) := by decide +kernel
theorem dX10_queues_5 : decode cX10_queues 5 = .ok (.aload_n 0, 1) := by decide +kernel
theorem dX10_queues_6 : decode cX10_queues 6 = .ok (.getfield 11, 3) := by decide +kernel
theorem dX10_queues_9 : decode cX10_queues 9 = .ok (.bipush 13, 2) := by decide +kernel
theorem dX10_queues_11 : decode cX10_queues 11 = .ok (.iaload, 1) := by decide +kernel
theorem dX10_queues_12 : decode cX10_queues 12 = .ok (.if_icmp .ge 18, 3) := by decide +kernel
theorem dX10_queues_15 : decode cX10_queues 15 = .ok (.iload_n 1, 1) := by decide +kernel
theorem dX10_queues_16 : decode cX10_queues 16 = .ok (.aload_n 0, 1) := by decide +kernel
theorem dX10_queues_17 : decode cX10_queues 17 = .ok (.iload_n 2, 1) := by decide +kernel
theorem dX10_queues_18 : decode cX10_queues 18 = .ok (.iconst 5, 1) := by decide +kernel
theorem dX10_queues_19 : decode cX10_queues 19 = .ok (.invokevirtual 56, 3) := by decide +kernel
theorem dX10_queues_22 : decode cX10_queues 22 = .ok (.iadd, 1) := by decide +kernel
theorem dX10_queues_23 : decode cX10_queues 23 = .ok (.istore_n 1, 1) := by decide +kernel
theorem dX10_queues_24 : decode cX10_queues 24 = .ok (.iinc 2 1, 3) := by decide +kernel
theorem dX10_queues_27 : decode cX10_queues 27 = .ok (.goto (-23), 3) := by decide +kernel
theorem dX10_queues_30 : decode cX10_queues 30 = .ok (.iload_n 1, 1) := by decide +kernel
theorem dX10_queues_31 : decode cX10_queues 31 = .ok (.ireturn, 1) := by decide +kernel
theorem dX10_turns_0 : decode cX10_turns 0 = .ok (.aload_n 0, 1) := by decide +kernel
theorem dX10_turns_1 : decode cX10_turns 1 = .ok (.invokevirtual 176, 3) := by decide +kernel
theorem dX10_turns_4 : decode cX10_turns 4 = .ok (.aload_n 0, 1) := by decide +kernel
theorem dX10_turns_5 : decode cX10_turns 5 = .ok (.getfield 11, 3) := by decide +kernel
theorem dX10_turns_8 : decode cX10_turns 8 = .ok (.bipush 6, 2) := by decide +kernel
theorem dX10_turns_10 : decode cX10_turns 10 = .ok (.iaload, 1) := by decide +kernel
theorem dX10_turns_11 : decode cX10_turns 11 = .ok (.ifCond .lt 10, 3) := by decide +kernel
theorem dX10_turns_14 : decode cX10_turns 14 = .ok (.aload_n 0, 1) := by decide +kernel
theorem dX10_turns_15 : decode cX10_turns 15 = .ok (.invokevirtual 179, 3) := by decide +kernel
theorem dX10_turns_18 : decode cX10_turns 18 = .ok (.goto 7, 3) := by decide +kernel
theorem dX10_turns_21 : decode cX10_turns 21 = .ok (.aload_n 0, 1) := by decide +kernel
theorem dX10_turns_22 : decode cX10_turns 22 = .ok (.invokevirtual 182, 3) := by decide +kernel
theorem dX10_turns_25 : decode cX10_turns 25 = .ok (.aload_n 0, 1) := by decide +kernel
theorem dX10_turns_26 : decode cX10_turns 26 = .ok (.invokevirtual 185, 3) := by decide +kernel
theorem dX10_turns_29 : decode cX10_turns 29 = .ok (.return_, 1) := by decide +kernel
theorem dX10_ends_0 : decode cX10_ends 0 = .ok (.aload_n 0, 1) := by decide +kernel
theorem dX10_ends_1 : decode cX10_ends 1 = .ok (.invokevirtual 188, 3) := by decide +kernel
theorem dX10_ends_4 : decode cX10_ends 4 = .ok (.aload_n 0, 1) := by decide +kernel
theorem dX10_ends_5 : decode cX10_ends 5 = .ok (.getfield 11, 3) := by decide +kernel
theorem dX10_ends_8 : decode cX10_ends 8 = .ok (.bipush 7, 2) := by decide +kernel
theorem dX10_ends_10 : decode cX10_ends 10 = .ok (.dup2, 1) := by decide +kernel
theorem dX10_ends_11 : decode cX10_ends 11 = .ok (.iaload, 1) := by decide +kernel
theorem dX10_ends_12 : decode cX10_ends 12 = .ok (.aload_n 0, 1) := by decide +kernel
theorem dX10_ends_13 : decode cX10_ends 13 = .ok (.invokevirtual 191, 3) := by decide +kernel
theorem dX10_ends_16 : decode cX10_ends 16 = .ok (.iadd, 1) := by decide +kernel
theorem dX10_ends_17 : decode cX10_ends 17 = .ok (.iastore, 1) := by decide +kernel
theorem dX10_ends_18 : decode cX10_ends 18 = .ok (.aload_n 0, 1) := by decide +kernel
theorem dX10_ends_19 : decode cX10_ends 19 = .ok (.getfield 11, 3) := by decide +kernel
theorem dX10_ends_22 : decode cX10_ends 22 = .ok (.iconst 3, 1) := by decide +kernel
theorem dX10_ends_23 : decode cX10_ends 23 = .ok (.dup2, 1) := by decide +kernel
theorem dX10_ends_24 : decode cX10_ends 24 = .ok (.iaload, 1) := by decide +kernel
theorem dX10_ends_25 : decode cX10_ends 25 = .ok (.iconst 1, 1) := by decide +kernel
theorem dX10_ends_26 : decode cX10_ends 26 = .ok (.iadd, 1) := by decide +kernel
theorem dX10_ends_27 : decode cX10_ends 27 = .ok (.iastore, 1) := by decide +kernel
theorem dX10_ends_28 : decode cX10_ends 28 = .ok (.return_, 1) := by decide +kernel
theorem dX10_passes_0 : decode cX10_passes 0 = .ok (.iconst 0, 1) := by decide +kernel
theorem dX10_passes_1 : decode cX10_passes 1 = .ok (.istore_n 2, 1) := by decide +kernel
theorem dX10_passes_2 : decode cX10_passes 2 = .ok (.iload_n 2, 1) := by decide +kernel
theorem dX10_passes_3 : decode cX10_passes 3 = .ok (.iload_n 1, 1) := by decide +kernel
theorem dX10_passes_4 : decode cX10_passes 4 = .ok (.if_icmp .ge 17, 3) := by decide +kernel
theorem dX10_passes_7 : decode cX10_passes 7 = .ok (.aload_n 0, 1) := by decide +kernel
theorem dX10_passes_8 : decode cX10_passes 8 = .ok (.invokevirtual 194, 3) := by decide +kernel
theorem dX10_passes_11 : decode cX10_passes 11 = .ok (.aload_n 0, 1) := by decide +kernel
theorem dX10_passes_12 : decode cX10_passes 12 = .ok (.invokevirtual 197, 3) := by decide +kernel
theorem dX10_passes_15 : decode cX10_passes 15 = .ok (.iinc 2 1, 3) := by decide +kernel
theorem dX10_passes_18 : decode cX10_passes 18 = .ok (.goto (-16), 3) := by decide +kernel
theorem dX10_passes_21 : decode cX10_passes 21 = .ok (.return_, 1) := by decide +kernel
theorem dX10_counts_0 : decode cX10_counts 0 = .ok (.aload_n 0, 1) := by decide +kernel
theorem dX10_counts_1 : decode cX10_counts 1 = .ok (.getfield 200, 3) := by decide +kernel
theorem dX10_counts_4 : decode cX10_counts 4 = .ok (.iload_n 1, 1) := by decide +kernel
theorem dX10_counts_5 : decode cX10_counts 5 = .ok (.iadd, 1) := by decide +kernel
theorem dX10_counts_6 : decode cX10_counts 6 = .ok (.sipush 12000, 3) := by decide +kernel
theorem dX10_counts_9 : decode cX10_counts 9 = .ok (.if_icmp .le 5, 3) := by decide +kernel
theorem dX10_counts_12 : decode cX10_counts 12 = .ok (.iconst 0, 1) := by decide +kernel
theorem dX10_counts_13 : decode cX10_counts 13 = .ok (.ireturn, 1) := by decide +kernel
theorem dX10_counts_14 : decode cX10_counts 14 = .ok (.aload_n 0, 1) := by decide +kernel
theorem dX10_counts_15 : decode cX10_counts 15 = .ok (.dup, 1) := by decide +kernel
theorem dX10_counts_16 : decode cX10_counts 16 = .ok (.getfield 200, 3) := by decide +kernel
theorem dX10_counts_19 : decode cX10_counts 19 = .ok (.iload_n 1, 1) := by decide +kernel
theorem dX10_counts_20 : decode cX10_counts 20 = .ok (.iadd, 1) := by decide +kernel
theorem dX10_counts_21 : decode cX10_counts 21 = .ok (.putfield 200, 3) := by decide +kernel
theorem dX10_counts_24 : decode cX10_counts 24 = .ok (.iconst 1, 1) := by decide +kernel
theorem dX10_counts_25 : decode cX10_counts 25 = .ok (.ireturn, 1) := by decide +kernel
theorem dX10_cycle_0 : decode cX10_cycle 0 = .ok (.iload_n 1, 1) := by decide +kernel
theorem dX10_cycle_1 : decode cX10_cycle 1 = .ok (.ifCond .eq 38, 3) := by decide +kernel
theorem dX10_cycle_4 : decode cX10_cycle 4 = .ok (.iload_n 1, 1) := by decide +kernel
theorem dX10_cycle_5 : decode cX10_cycle 5 = .ok (.bipush 20, 2) := by decide +kernel
theorem dX10_cycle_7 : decode cX10_cycle 7 = .ok (.sipush 240, 3) := by decide +kernel
theorem dX10_cycle_10 : decode cX10_cycle 10 = .ok (.invokestatic 49, 3) := by decide +kernel
theorem dX10_cycle_13 : decode cX10_cycle 13 = .ok (.ifCond .eq 23, 3) := by decide +kernel
theorem dX10_cycle_16 : decode cX10_cycle 16 = .ok (.iload_n 2, 1) := by decide +kernel
theorem dX10_cycle_17 : decode cX10_cycle 17 = .ok (.iconst 0, 1) := by decide +kernel
theorem dX10_cycle_18 : decode cX10_cycle 18 = .ok (.iload_n 1, 1) := by decide +kernel
theorem dX10_cycle_19 : decode cX10_cycle 19 = .ok (.iconst 1, 1) := by decide +kernel
theorem dX10_cycle_20 : decode cX10_cycle 20 = .ok (.isub, 1) := by decide +kernel
theorem dX10_cycle_21 : decode cX10_cycle 21 = .ok (.invokestatic 49, 3) := by decide +kernel
theorem dX10_cycle_24 : decode cX10_cycle 24 = .ok (.ifCond .eq 12, 3) := by decide +kernel
theorem dX10_cycle_27 : decode cX10_cycle 27 = .ok (.iload_n 3, 1) := by decide +kernel
theorem dX10_cycle_28 : decode cX10_cycle 28 = .ok (.iconst 1, 1) := by decide +kernel
theorem dX10_cycle_29 : decode cX10_cycle 29 = .ok (.iload_n 1, 1) := by decide +kernel
theorem dX10_cycle_30 : decode cX10_cycle 30 = .ok (.invokestatic 49, 3) := by decide +kernel
theorem dX10_cycle_33 : decode cX10_cycle 33 = .ok (.ifCond .ne 6, 3) := by decide +kernel
theorem dX10_cycle_36 : decode cX10_cycle 36 = .ok (.bipush (-2), 2) := by decide +kernel
theorem dX10_cycle_38 : decode cX10_cycle 38 = .ok (.ireturn, 1) := by decide +kernel
theorem dX10_cycle_39 : decode cX10_cycle 39 = .ok (.aload_n 0, 1) := by decide +kernel
theorem dX10_cycle_40 : decode cX10_cycle 40 = .ok (.getfield 11, 3) := by decide +kernel
theorem dX10_cycle_43 : decode cX10_cycle 43 = .ok (.bipush 10, 2) := by decide +kernel
theorem dX10_cycle_45 : decode cX10_cycle 45 = .ok (.iaload, 1) := by decide +kernel
theorem dX10_cycle_46 : decode cX10_cycle 46 = .ok (.istore 4, 2) := by decide +kernel
theorem dX10_cycle_48 : decode cX10_cycle 48 = .ok (.aload_n 0, 1) := by decide +kernel
theorem dX10_cycle_49 : decode cX10_cycle 49 = .ok (.getfield 11, 3) := by decide +kernel
theorem dX10_cycle_52 : decode cX10_cycle 52 = .ok (.bipush 10, 2) := by decide +kernel
theorem dX10_cycle_54 : decode cX10_cycle 54 = .ok (.iload_n 1, 1) := by decide +kernel
theorem dX10_cycle_55 : decode cX10_cycle 55 = .ok (.iastore, 1) := by decide +kernel
theorem dX10_cycle_56 : decode cX10_cycle 56 = .ok (.aload_n 0, 1) := by decide +kernel
theorem dX10_cycle_57 : decode cX10_cycle 57 = .ok (.getfield 11, 3) := by decide +kernel
theorem dX10_cycle_60 : decode cX10_cycle 60 = .ok (.bipush 11, 2) := by decide +kernel
theorem dX10_cycle_62 : decode cX10_cycle 62 = .ok (.iload_n 1, 1) := by decide +kernel
theorem dX10_cycle_63 : decode cX10_cycle 63 = .ok (.ifCond .ne 7, 3) := by decide +kernel
theorem dX10_cycle_66 : decode cX10_cycle 66 = .ok (.iconst 0, 1) := by decide +kernel
theorem dX10_cycle_67 : decode cX10_cycle 67 = .ok (.goto 4, 3) := by decide +kernel
theorem dX10_cycle_70 : decode cX10_cycle 70 = .ok (.iload_n 2, 1) := by decide +kernel
theorem dX10_cycle_71 : decode cX10_cycle 71 = .ok (.iastore, 1) := by decide +kernel
theorem dX10_cycle_72 : decode cX10_cycle 72 = .ok (.aload_n 0, 1) := by decide +kernel
theorem dX10_cycle_73 : decode cX10_cycle 73 = .ok (.getfield 11, 3) := by decide +kernel
theorem dX10_cycle_76 : decode cX10_cycle 76 = .ok (.bipush 12, 2) := by decide +kernel
theorem dX10_cycle_78 : decode cX10_cycle 78 = .ok (.iload_n 1, 1) := by decide +kernel
theorem dX10_cycle_79 : decode cX10_cycle 79 = .ok (.ifCond .ne 7, 3) := by decide +kernel
theorem dX10_cycle_82 : decode cX10_cycle 82 = .ok (.iconst 0, 1) := by decide +kernel
theorem dX10_cycle_83 : decode cX10_cycle 83 = .ok (.goto 4, 3) := by decide +kernel
theorem dX10_cycle_86 : decode cX10_cycle 86 = .ok (.iload_n 3, 1) := by decide +kernel
theorem dX10_cycle_87 : decode cX10_cycle 87 = .ok (.iastore, 1) := by decide +kernel
theorem dX10_cycle_88 : decode cX10_cycle 88 = .ok (.iload 4, 2) := by decide +kernel
theorem dX10_cycle_90 : decode cX10_cycle 90 = .ok (.ireturn, 1) := by decide +kernel
theorem dX10_come_0 : decode cX10_come 0 = .ok (.aload_n 0, 1) := by decide +kernel
theorem dX10_come_1 : decode cX10_come 1 = .ok (.iload_n 1, 1) := by decide +kernel
theorem dX10_come_2 : decode cX10_come 2 = .ok (.invokevirtual 96, 3) := by decide +kernel
theorem dX10_come_5 : decode cX10_come 5 = .ok (.ifCond .ne 5, 3) := by decide +kernel
theorem dX10_come_8 : decode cX10_come 8 = .ok (.iconst (-1), 1) := by decide +kernel
theorem dX10_come_9 : decode cX10_come 9 = .ok (.ireturn, 1) := by decide +kernel
theorem dX10_come_10 : decode cX10_come 10 = .ok (.iload_n 2, 1) := by decide +kernel
theorem dX10_come_11 : decode cX10_come 11 = .ok (.iconst 1, 1) := by decide +kernel
theorem dX10_come_12 : decode cX10_come 12 = .ok (.bipush 20, 2) := by decide +kernel
theorem dX10_come_14 : decode cX10_come 14 = .ok (.invokestatic 49, 3) := by decide +kernel
theorem dX10_come_17 : decode cX10_come 17 = .ok (.ifCond .eq 12, 3) := by decide +kernel
theorem dX10_come_20 : decode cX10_come 20 = .ok (.aload_n 0, 1) := by decide +kernel
theorem dX10_come_21 : decode cX10_come 21 = .ok (.iload_n 1, 1) := by decide +kernel
theorem dX10_come_22 : decode cX10_come 22 = .ok (.iload_n 2, 1) := by decide +kernel
theorem dX10_come_23 : decode cX10_come 23 = .ok (.invokevirtual 148, 3) := by decide +kernel
theorem dX10_come_26 : decode cX10_come 26 = .ok (.goto 5, 3) := by decide +kernel
theorem dX10_come_29 : decode cX10_come 29 = .ok (.bipush (-2), 2) := by decide +kernel
theorem dX10_come_31 : decode cX10_come 31 = .ok (.ireturn, 1) := by decide +kernel
theorem dX10_seed_0 : decode cX10_seed 0 = .ok (.aload_n 0, 1) := by decide +kernel
theorem dX10_seed_1 : decode cX10_seed 1 = .ok (.getfield 11, 3) := by decide +kernel
theorem dX10_seed_4 : decode cX10_seed 4 = .ok (.iconst 0, 1) := by decide +kernel
theorem dX10_seed_5 : decode cX10_seed 5 = .ok (.iaload, 1) := by decide +kernel
theorem dX10_seed_6 : decode cX10_seed 6 = .ok (.istore_n 2, 1) := by decide +kernel
theorem dX10_seed_7 : decode cX10_seed 7 = .ok (.aload_n 0, 1) := by decide +kernel
theorem dX10_seed_8 : decode cX10_seed 8 = .ok (.getfield 11, 3) := by decide +kernel
theorem dX10_seed_11 : decode cX10_seed 11 = .ok (.iconst 0, 1) := by decide +kernel
theorem dX10_seed_12 : decode cX10_seed 12 = .ok (.iload_n 1, 1) := by decide +kernel
theorem dX10_seed_13 : decode cX10_seed 13 = .ok (.iastore, 1) := by decide +kernel
theorem dX10_seed_14 : decode cX10_seed 14 = .ok (.iload_n 2, 1) := by decide +kernel
theorem dX10_seed_15 : decode cX10_seed 15 = .ok (.ireturn, 1) := by decide +kernel
theorem dX10_emergency_0 : decode cX10_emergency 0 = .ok (.aload_n 0, 1) := by decide +kernel
theorem dX10_emergency_1 : decode cX10_emergency 1 = .ok (.iload_n 1, 1) := by decide +kernel
theorem dX10_emergency_2 : decode cX10_emergency 2 = .ok (.invokevirtual 96, 3) := by decide +kernel
theorem dX10_emergency_5 : decode cX10_emergency 5 = .ok (.ifCond .ne 5, 3) := by decide +kernel
theorem dX10_emergency_8 : decode cX10_emergency 8 = .ok (.iconst (-1), 1) := by decide +kernel
theorem dX10_emergency_9 : decode cX10_emergency 9 = .ok (.ireturn, 1) := by decide +kernel
theorem dX10_emergency_10 : decode cX10_emergency 10 = .ok (.aload_n 0, 1) := by decide +kernel
theorem dX10_emergency_11 : decode cX10_emergency 11 = .ok (.getfield 11, 3) := by decide +kernel
theorem dX10_emergency_14 : decode cX10_emergency 14 = .ok (.iconst 2, 1) := by decide +kernel
theorem dX10_emergency_15 : decode cX10_emergency 15 = .ok (.iaload, 1) := by decide +kernel
theorem dX10_emergency_16 : decode cX10_emergency 16 = .ok (.ifCond .eq 21, 3) := by decide +kernel
theorem dX10_emergency_19 : decode cX10_emergency 19 = .ok (.aload_n 0, 1) := by decide +kernel
theorem dX10_emergency_20 : decode cX10_emergency 20 = .ok (.getfield 11, 3) := by decide +kernel
theorem dX10_emergency_23 : decode cX10_emergency 23 = .ok (.bipush 6, 2) := by decide +kernel
theorem dX10_emergency_25 : decode cX10_emergency 25 = .ok (.iaload, 1) := by decide +kernel
theorem dX10_emergency_26 : decode cX10_emergency 26 = .ok (.ifCond .ge 11, 3) := by decide +kernel
theorem dX10_emergency_29 : decode cX10_emergency 29 = .ok (.aload_n 0, 1) := by decide +kernel
theorem dX10_emergency_30 : decode cX10_emergency 30 = .ok (.iload_n 1, 1) := by decide +kernel
theorem dX10_emergency_31 : decode cX10_emergency 31 = .ok (.invokevirtual 160, 3) := by decide +kernel
theorem dX10_emergency_34 : decode cX10_emergency 34 = .ok (.ifCond .ge 6, 3) := by decide +kernel
theorem dX10_emergency_37 : decode cX10_emergency 37 = .ok (.bipush (-3), 2) := by decide +kernel
theorem dX10_emergency_39 : decode cX10_emergency 39 = .ok (.ireturn, 1) := by decide +kernel
theorem dX10_emergency_40 : decode cX10_emergency 40 = .ok (.aload_n 0, 1) := by decide +kernel
theorem dX10_emergency_41 : decode cX10_emergency 41 = .ok (.getfield 11, 3) := by decide +kernel
theorem dX10_emergency_44 : decode cX10_emergency 44 = .ok (.bipush 6, 2) := by decide +kernel
theorem dX10_emergency_46 : decode cX10_emergency 46 = .ok (.iload_n 1, 1) := by decide +kernel
theorem dX10_emergency_47 : decode cX10_emergency 47 = .ok (.iastore, 1) := by decide +kernel
theorem dX10_emergency_48 : decode cX10_emergency 48 = .ok (.aload_n 0, 1) := by decide +kernel
theorem dX10_emergency_49 : decode cX10_emergency 49 = .ok (.iload_n 1, 1) := by decide +kernel
theorem dX10_emergency_50 : decode cX10_emergency 50 = .ok (.invokevirtual 160, 3) := by decide +kernel
theorem dX10_emergency_53 : decode cX10_emergency 53 = .ok (.ireturn, 1) := by decide +kernel
theorem dX10_over_0 : decode cX10_over 0 = .ok (.aload_n 0, 1) := by decide +kernel
theorem dX10_over_1 : decode cX10_over 1 = .ok (.getfield 11, 3) := by decide +kernel
theorem dX10_over_4 : decode cX10_over 4 = .ok (.bipush 6, 2) := by decide +kernel
theorem dX10_over_6 : decode cX10_over 6 = .ok (.iaload, 1) := by decide +kernel
theorem dX10_over_7 : decode cX10_over 7 = .ok (.ifCond .ge 6, 3) := by decide +kernel
theorem dX10_over_10 : decode cX10_over 10 = .ok (.bipush (-3), 2) := by decide +kernel
theorem dX10_over_12 : decode cX10_over 12 = .ok (.ireturn, 1) := by decide +kernel
theorem dX10_over_13 : decode cX10_over 13 = .ok (.aload_n 0, 1) := by decide +kernel
theorem dX10_over_14 : decode cX10_over 14 = .ok (.getfield 11, 3) := by decide +kernel
theorem dX10_over_17 : decode cX10_over 17 = .ok (.bipush 6, 2) := by decide +kernel
theorem dX10_over_19 : decode cX10_over 19 = .ok (.iaload, 1) := by decide +kernel
theorem dX10_over_20 : decode cX10_over 20 = .ok (.istore_n 1, 1) := by decide +kernel
theorem dX10_over_21 : decode cX10_over 21 = .ok (.aload_n 0, 1) := by decide +kernel
theorem dX10_over_22 : decode cX10_over 22 = .ok (.getfield 11, 3) := by decide +kernel
theorem dX10_over_25 : decode cX10_over 25 = .ok (.bipush 6, 2) := by decide +kernel
theorem dX10_over_27 : decode cX10_over 27 = .ok (.bipush (-5), 2) := by decide +kernel
theorem dX10_over_29 : decode cX10_over 29 = .ok (.iastore, 1) := by decide +kernel
theorem dX10_over_30 : decode cX10_over 30 = .ok (.iload_n 1, 1) := by decide +kernel
theorem dX10_over_31 : decode cX10_over 31 = .ok (.ireturn, 1) := by decide +kernel
theorem dX10_pass_0 : decode cX10_pass 0 = .ok (.iload_n 1, 1) := by decide +kernel
theorem dX10_pass_1 : decode cX10_pass 1 = .ok (.iconst 0, 1) := by decide +kernel
theorem dX10_pass_2 : decode cX10_pass 2 = .ok (.bipush 99, 2) := by decide +kernel
theorem dX10_pass_4 : decode cX10_pass 4 = .ok (.invokestatic 49, 3) := by decide +kernel
theorem dX10_pass_7 : decode cX10_pass 7 = .ok (.ifCond .ne 6, 3) := by decide +kernel
theorem dX10_pass_10 : decode cX10_pass 10 = .ok (.bipush (-2), 2) := by decide +kernel
theorem dX10_pass_12 : decode cX10_pass 12 = .ok (.ireturn, 1) := by decide +kernel
theorem dX10_pass_13 : decode cX10_pass 13 = .ok (.aload_n 0, 1) := by decide +kernel
theorem dX10_pass_14 : decode cX10_pass 14 = .ok (.getfield 11, 3) := by decide +kernel
theorem dX10_pass_17 : decode cX10_pass 17 = .ok (.iconst 2, 1) := by decide +kernel
theorem dX10_pass_18 : decode cX10_pass 18 = .ok (.iaload, 1) := by decide +kernel
theorem dX10_pass_19 : decode cX10_pass 19 = .ok (.ifCond .ne 6, 3) := by decide +kernel
theorem dX10_pass_22 : decode cX10_pass 22 = .ok (.bipush (-3), 2) := by decide +kernel
theorem dX10_pass_24 : decode cX10_pass 24 = .ok (.ireturn, 1) := by decide +kernel
theorem dX10_pass_25 : decode cX10_pass 25 = .ok (.aload_n 0, 1) := by decide +kernel
theorem dX10_pass_26 : decode cX10_pass 26 = .ok (.iload_n 1, 1) := by decide +kernel
theorem dX10_pass_27 : decode cX10_pass 27 = .ok (.invokevirtual 203, 3) := by decide +kernel
theorem dX10_pass_30 : decode cX10_pass 30 = .ok (.ifCond .ne 6, 3) := by decide +kernel
theorem dX10_pass_33 : decode cX10_pass 33 = .ok (.bipush (-4), 2) := by decide +kernel
theorem dX10_pass_35 : decode cX10_pass 35 = .ok (.ireturn, 1) := by decide +kernel
theorem dX10_pass_36 : decode cX10_pass 36 = .ok (.aload_n 0, 1) := by decide +kernel
theorem dX10_pass_37 : decode cX10_pass 37 = .ok (.getfield 11, 3) := by decide +kernel
theorem dX10_pass_40 : decode cX10_pass 40 = .ok (.bipush 8, 2) := by decide +kernel
theorem dX10_pass_42 : decode cX10_pass 42 = .ok (.iaload, 1) := by decide +kernel
theorem dX10_pass_43 : decode cX10_pass 43 = .ok (.istore_n 2, 1) := by decide +kernel
theorem dX10_pass_44 : decode cX10_pass 44 = .ok (.aload_n 0, 1) := by decide +kernel
theorem dX10_pass_45 : decode cX10_pass 45 = .ok (.iload_n 1, 1) := by decide +kernel
theorem dX10_pass_46 : decode cX10_pass 46 = .ok (.invokevirtual 206, 3) := by decide +kernel
theorem dX10_pass_49 : decode cX10_pass 49 = .ok (.aload_n 0, 1) := by decide +kernel
theorem dX10_pass_50 : decode cX10_pass 50 = .ok (.getfield 11, 3) := by decide +kernel
theorem dX10_pass_53 : decode cX10_pass 53 = .ok (.bipush 8, 2) := by decide +kernel
theorem dX10_pass_55 : decode cX10_pass 55 = .ok (.iaload, 1) := by decide +kernel
theorem dX10_pass_56 : decode cX10_pass 56 = .ok (.iload_n 2, 1) := by decide +kernel
theorem dX10_pass_57 : decode cX10_pass 57 = .ok (.isub, 1) := by decide +kernel
theorem dX10_pass_58 : decode cX10_pass 58 = .ok (.ireturn, 1) := by decide +kernel
theorem dX10_light_0 : decode cX10_light 0 = .ok (.aload_n 0, 1) := by decide +kernel
theorem dX10_light_1 : decode cX10_light 1 = .ok (.iload_n 1, 1) := by decide +kernel
theorem dX10_light_2 : decode cX10_light 2 = .ok (.bipush 6, 2) := by decide +kernel
theorem dX10_light_4 : decode cX10_light 4 = .ok (.invokevirtual 56, 3) := by decide +kernel
theorem dX10_light_7 : decode cX10_light 7 = .ok (.iconst 1, 1) := by decide +kernel
theorem dX10_light_8 : decode cX10_light 8 = .ok (.if_icmp .ne 5, 3) := by decide +kernel
theorem dX10_light_11 : decode cX10_light 11 = .ok (.iconst 2, 1) := by decide +kernel
theorem dX10_light_12 : decode cX10_light 12 = .ok (.ireturn, 1) := by decide +kernel
theorem dX10_light_13 : decode cX10_light 13 = .ok (.aload_n 0, 1) := by decide +kernel
theorem dX10_light_14 : decode cX10_light 14 = .ok (.iload_n 1, 1) := by decide +kernel
theorem dX10_light_15 : decode cX10_light 15 = .ok (.bipush 8, 2) := by decide +kernel
theorem dX10_light_17 : decode cX10_light 17 = .ok (.invokevirtual 56, 3) := by decide +kernel
theorem dX10_light_20 : decode cX10_light 20 = .ok (.ifCond .lt 29, 3) := by decide +kernel
theorem dX10_light_23 : decode cX10_light 23 = .ok (.aload_n 0, 1) := by decide +kernel
theorem dX10_light_24 : decode cX10_light 24 = .ok (.getfield 11, 3) := by decide +kernel
theorem dX10_light_27 : decode cX10_light 27 = .ok (.iconst 3, 1) := by decide +kernel
theorem dX10_light_28 : decode cX10_light 28 = .ok (.iaload, 1) := by decide +kernel
theorem dX10_light_29 : decode cX10_light 29 = .ok (.aload_n 0, 1) := by decide +kernel
theorem dX10_light_30 : decode cX10_light 30 = .ok (.iload_n 1, 1) := by decide +kernel
theorem dX10_light_31 : decode cX10_light 31 = .ok (.bipush 8, 2) := by decide +kernel
theorem dX10_light_33 : decode cX10_light 33 = .ok (.invokevirtual 56, 3) := by decide +kernel
theorem dX10_light_36 : decode cX10_light 36 = .ok (.aload_n 0, 1) := by decide +kernel
theorem dX10_light_37 : decode cX10_light 37 = .ok (.iload_n 1, 1) := by decide +kernel
theorem dX10_light_38 : decode cX10_light 38 = .ok (.invokevirtual 66, 3) := by decide +kernel
theorem dX10_light_41 : decode cX10_light 41 = .ok (.iadd, 1) := by decide +kernel
theorem dX10_light_42 : decode cX10_light 42 = .ok (.if_icmp .ge 7, 3) := by decide +kernel
theorem dX10_light_45 : decode cX10_light 45 = .ok (.iconst 1, 1) := by decide +kernel
theorem dX10_light_46 : decode cX10_light 46 = .ok (.goto 4, 3) := by decide +kernel
theorem dX10_light_49 : decode cX10_light 49 = .ok (.iconst 0, 1) := by decide +kernel
theorem dX10_light_50 : decode cX10_light 50 = .ok (.ireturn, 1) := by decide +kernel
theorem dX10_lights_0 : decode cX10_lights 0 = .ok (.iconst 0, 1) := by decide +kernel
theorem dX10_lights_1 : decode cX10_lights 1 = .ok (.istore_n 2, 1) := by decide +kernel
theorem dX10_lights_2 : decode cX10_lights 2 = .ok (.iconst 0, 1) := by decide +kernel
theorem dX10_lights_3 : decode cX10_lights 3 = .ok (.istore_n 3, 1) := by decide +kernel
theorem dX10_lights_4 : decode cX10_lights 4 = .ok (.iload_n 3, 1) := by decide +kernel
theorem dX10_lights_5 : decode cX10_lights 5 = .ok (.aload_n 0, 1) := by decide +kernel
theorem dX10_lights_6 : decode cX10_lights 6 = .ok (.getfield 11, 3) := by decide +kernel
theorem dX10_lights_9 : decode cX10_lights 9 = .ok (.bipush 13, 2) := by decide +kernel
theorem dX10_lights_11 : decode cX10_lights 11 = .ok (.iaload, 1) := by decide +kernel
theorem dX10_lights_12 : decode cX10_lights 12 = .ok (.if_icmp .ge 28, 3) := by decide +kernel
theorem dX10_lights_15 : decode cX10_lights 15 = .ok (.iload_n 2, 1) := by decide +kernel
theorem dX10_lights_16 : decode cX10_lights 16 = .ok (.aload_n 0, 1) := by decide +kernel
theorem dX10_lights_17 : decode cX10_lights 17 = .ok (.iload_n 3, 1) := by decide +kernel
theorem dX10_lights_18 : decode cX10_lights 18 = .ok (.invokevirtual 209, 3) := by decide +kernel
theorem dX10_lights_21 : decode cX10_lights 21 = .ok (.iload_n 1, 1) := by decide +kernel
theorem dX10_lights_22 : decode cX10_lights 22 = .ok (.if_icmp .ne 9, 3) := by decide +kernel
theorem dX10_lights_25 : decode cX10_lights 25 = .ok (.iconst 1, 1) := by decide +kernel
theorem dX10_lights_26 : decode cX10_lights 26 = .ok (.iload_n 3, 1) := by decide +kernel
theorem dX10_lights_27 : decode cX10_lights 27 = .ok (.ishl, 1) := by decide +kernel
theorem dX10_lights_28 : decode cX10_lights 28 = .ok (.goto 4, 3) := by decide +kernel
theorem dX10_lights_31 : decode cX10_lights 31 = .ok (.iconst 0, 1) := by decide +kernel
theorem dX10_lights_32 : decode cX10_lights 32 = .ok (.ior, 1) := by decide +kernel
theorem dX10_lights_33 : decode cX10_lights 33 = .ok (.istore_n 2, 1) := by decide +kernel
theorem dX10_lights_34 : decode cX10_lights 34 = .ok (.iinc 3 1, 3) := by decide +kernel
theorem dX10_lights_37 : decode cX10_lights 37 = .ok (.goto (-33), 3) := by decide +kernel
theorem dX10_lights_40 : decode cX10_lights 40 = .ok (.iload_n 2, 1) := by decide +kernel
theorem dX10_lights_41 : decode cX10_lights 41 = .ok (.ireturn, 1) := by decide +kernel
theorem dX10_told_0 : decode cX10_told 0 = .ok (.iload_n 1, 1) := by decide +kernel
theorem dX10_told_1 : decode cX10_told 1 = .ok (.tableswitch 229 0 18 #[91, 98, 105, 112, 120, 128, 136, 144, 150, 156, 161, 168, 175, 175, 175, 188, 208, 216, 224], 91) := by decide +kernel
theorem dX10_told_92 : decode cX10_told 92 = .ok (.aload_n 0, 1) := by decide +kernel
theorem dX10_told_93 : decode cX10_told 93 = .ok (.getfield 11, 3) := by decide +kernel
theorem dX10_told_96 : decode cX10_told 96 = .ok (.iconst 3, 1) := by decide +kernel
theorem dX10_told_97 : decode cX10_told 97 = .ok (.iaload, 1) := by decide +kernel
theorem dX10_told_98 : decode cX10_told 98 = .ok (.ireturn, 1) := by decide +kernel
theorem dX10_told_99 : decode cX10_told 99 = .ok (.aload_n 0, 1) := by decide +kernel
theorem dX10_told_100 : decode cX10_told 100 = .ok (.getfield 11, 3) := by decide +kernel
theorem dX10_told_103 : decode cX10_told 103 = .ok (.iconst 4, 1) := by decide +kernel
theorem dX10_told_104 : decode cX10_told 104 = .ok (.iaload, 1) := by decide +kernel
theorem dX10_told_105 : decode cX10_told 105 = .ok (.ireturn, 1) := by decide +kernel
theorem dX10_told_106 : decode cX10_told 106 = .ok (.aload_n 0, 1) := by decide +kernel
theorem dX10_told_107 : decode cX10_told 107 = .ok (.getfield 11, 3) := by decide +kernel
theorem dX10_told_110 : decode cX10_told 110 = .ok (.iconst 5, 1) := by decide +kernel
theorem dX10_told_111 : decode cX10_told 111 = .ok (.iaload, 1) := by decide +kernel
theorem dX10_told_112 : decode cX10_told 112 = .ok (.ireturn, 1) := by decide +kernel
theorem dX10_told_113 : decode cX10_told 113 = .ok (.aload_n 0, 1) := by decide +kernel
theorem dX10_told_114 : decode cX10_told 114 = .ok (.getfield 11, 3) := by decide +kernel
theorem dX10_told_117 : decode cX10_told 117 = .ok (.bipush 6, 2) := by decide +kernel
theorem dX10_told_119 : decode cX10_told 119 = .ok (.iaload, 1) := by decide +kernel
theorem dX10_told_120 : decode cX10_told 120 = .ok (.ireturn, 1) := by decide +kernel
theorem dX10_told_121 : decode cX10_told 121 = .ok (.aload_n 0, 1) := by decide +kernel
theorem dX10_told_122 : decode cX10_told 122 = .ok (.getfield 11, 3) := by decide +kernel
theorem dX10_told_125 : decode cX10_told 125 = .ok (.bipush 7, 2) := by decide +kernel
theorem dX10_told_127 : decode cX10_told 127 = .ok (.iaload, 1) := by decide +kernel
theorem dX10_told_128 : decode cX10_told 128 = .ok (.ireturn, 1) := by decide +kernel
theorem dX10_told_129 : decode cX10_told 129 = .ok (.aload_n 0, 1) := by decide +kernel
theorem dX10_told_130 : decode cX10_told 130 = .ok (.getfield 11, 3) := by decide +kernel
theorem dX10_told_133 : decode cX10_told 133 = .ok (.bipush 8, 2) := by decide +kernel
theorem dX10_told_135 : decode cX10_told 135 = .ok (.iaload, 1) := by decide +kernel
theorem dX10_told_136 : decode cX10_told 136 = .ok (.ireturn, 1) := by decide +kernel
theorem dX10_told_137 : decode cX10_told 137 = .ok (.aload_n 0, 1) := by decide +kernel
theorem dX10_told_138 : decode cX10_told 138 = .ok (.getfield 11, 3) := by decide +kernel
theorem dX10_told_141 : decode cX10_told 141 = .ok (.bipush 9, 2) := by decide +kernel
theorem dX10_told_143 : decode cX10_told 143 = .ok (.iaload, 1) := by decide +kernel
theorem dX10_told_144 : decode cX10_told 144 = .ok (.ireturn, 1) := by decide +kernel
theorem dX10_told_145 : decode cX10_told 145 = .ok (.aload_n 0, 1) := by decide +kernel
theorem dX10_told_146 : decode cX10_told 146 = .ok (.iconst 2, 1) := by decide +kernel
theorem dX10_told_147 : decode cX10_told 147 = .ok (.invokevirtual 212, 3) := by decide +kernel
theorem dX10_told_150 : decode cX10_told 150 = .ok (.ireturn, 1) := by decide +kernel
theorem dX10_told_151 : decode cX10_told 151 = .ok (.aload_n 0, 1) := by decide +kernel
theorem dX10_told_152 : decode cX10_told 152 = .ok (.iconst 1, 1) := by decide +kernel
theorem dX10_told_153 : decode cX10_told 153 = .ok (.invokevirtual 212, 3) := by decide +kernel
theorem dX10_told_156 : decode cX10_told 156 = .ok (.ireturn, 1) := by decide +kernel
theorem dX10_told_157 : decode cX10_told 157 = .ok (.aload_n 0, 1) := by decide +kernel
theorem dX10_told_158 : decode cX10_told 158 = .ok (.invokevirtual 166, 3) := by decide +kernel
theorem dX10_told_161 : decode cX10_told 161 = .ok (.ireturn, 1) := by decide +kernel
theorem dX10_told_162 : decode cX10_told 162 = .ok (.aload_n 0, 1) := by decide +kernel
theorem dX10_told_163 : decode cX10_told 163 = .ok (.getfield 11, 3) := by decide +kernel
theorem dX10_told_166 : decode cX10_told 166 = .ok (.iconst 0, 1) := by decide +kernel
theorem dX10_told_167 : decode cX10_told 167 = .ok (.iaload, 1) := by decide +kernel
theorem dX10_told_168 : decode cX10_told 168 = .ok (.ireturn, 1) := by decide +kernel
theorem dX10_told_169 : decode cX10_told 169 = .ok (.aload_n 0, 1) := by decide +kernel
theorem dX10_told_170 : decode cX10_told 170 = .ok (.getfield 11, 3) := by decide +kernel
theorem dX10_told_173 : decode cX10_told 173 = .ok (.iconst 1, 1) := by decide +kernel
theorem dX10_told_174 : decode cX10_told 174 = .ok (.iaload, 1) := by decide +kernel
theorem dX10_told_175 : decode cX10_told 175 = .ok (.ireturn, 1) := by decide +kernel
theorem dX10_told_176 : decode cX10_told 176 = .ok (.aload_n 0, 1) := by decide +kernel
theorem dX10_told_177 : decode cX10_told 177 = .ok (.getfield 11, 3) := by decide +kernel
theorem dX10_told_180 : decode cX10_told 180 = .ok (.bipush 10, 2) := by decide +kernel
theorem dX10_told_182 : decode cX10_told 182 = .ok (.iload_n 1, 1) := by decide +kernel
theorem dX10_told_183 : decode cX10_told 183 = .ok (.iadd, 1) := by decide +kernel
theorem dX10_told_184 : decode cX10_told 184 = .ok (.bipush 12, 2) := by decide +kernel
theorem dX10_told_186 : decode cX10_told 186 = .ok (.isub, 1) := by decide +kernel
theorem dX10_told_187 : decode cX10_told 187 = .ok (.iaload, 1) := by decide +kernel
theorem dX10_told_188 : decode cX10_told 188 = .ok (.ireturn, 1) := by decide +kernel
theorem dX10_told_189 : decode cX10_told 189 = .ok (.aload_n 0, 1) := by decide +kernel
theorem dX10_told_190 : decode cX10_told 190 = .ok (.getfield 11, 3) := by decide +kernel
theorem dX10_told_193 : decode cX10_told 193 = .ok (.bipush 10, 2) := by decide +kernel
theorem dX10_told_195 : decode cX10_told 195 = .ok (.iaload, 1) := by decide +kernel
theorem dX10_told_196 : decode cX10_told 196 = .ok (.ifCond .ne 8, 3) := by decide +kernel
theorem dX10_told_199 : decode cX10_told 199 = .ok (.bipush (-5), 2) := by decide +kernel
theorem dX10_told_201 : decode cX10_told 201 = .ok (.goto 7, 3) := by decide +kernel
theorem dX10_told_204 : decode cX10_told 204 = .ok (.aload_n 0, 1) := by decide +kernel
theorem dX10_told_205 : decode cX10_told 205 = .ok (.invokevirtual 170, 3) := by decide +kernel
theorem dX10_told_208 : decode cX10_told 208 = .ok (.ireturn, 1) := by decide +kernel
theorem dX10_told_209 : decode cX10_told 209 = .ok (.aload_n 0, 1) := by decide +kernel
theorem dX10_told_210 : decode cX10_told 210 = .ok (.getfield 11, 3) := by decide +kernel
theorem dX10_told_213 : decode cX10_told 213 = .ok (.bipush 13, 2) := by decide +kernel
theorem dX10_told_215 : decode cX10_told 215 = .ok (.iaload, 1) := by decide +kernel
theorem dX10_told_216 : decode cX10_told 216 = .ok (.ireturn, 1) := by decide +kernel
theorem dX10_told_217 : decode cX10_told 217 = .ok (.aload_n 0, 1) := by decide +kernel
theorem dX10_told_218 : decode cX10_told 218 = .ok (.getfield 11, 3) := by decide +kernel
theorem dX10_told_221 : decode cX10_told 221 = .ok (.bipush 14, 2) := by decide +kernel
theorem dX10_told_223 : decode cX10_told 223 = .ok (.iaload, 1) := by decide +kernel
theorem dX10_told_224 : decode cX10_told 224 = .ok (.ireturn, 1) := by decide +kernel
theorem dX10_told_225 : decode cX10_told 225 = .ok (.aload_n 0, 1) := by decide +kernel
theorem dX10_told_226 : decode cX10_told 226 = .ok (.invokevirtual 191, 3) := by decide +kernel
theorem dX10_told_229 : decode cX10_told 229 = .ok (.ireturn, 1) := by decide +kernel
theorem dX10_told_230 : decode cX10_told 230 = .ok (.iconst (-1), 1) := by decide +kernel
theorem dX10_told_231 : decode cX10_told 231 = .ok (.ireturn, 1) := by decide +kernel
theorem dX10_of_0 : decode cX10_of 0 = .ok (.aload_n 0, 1) := by decide +kernel
theorem dX10_of_1 : decode cX10_of 1 = .ok (.iload_n 1, 1) := by decide +kernel
theorem dX10_of_2 : decode cX10_of 2 = .ok (.invokevirtual 96, 3) := by decide +kernel
theorem dX10_of_5 : decode cX10_of 5 = .ok (.ifCond .eq 13, 3) := by decide +kernel
theorem dX10_of_8 : decode cX10_of 8 = .ok (.iload_n 2, 1) := by decide +kernel
theorem dX10_of_9 : decode cX10_of 9 = .ok (.iconst 0, 1) := by decide +kernel
theorem dX10_of_10 : decode cX10_of 10 = .ok (.bipush 13, 2) := by decide +kernel
theorem dX10_of_12 : decode cX10_of 12 = .ok (.invokestatic 49, 3) := by decide +kernel
theorem dX10_of_15 : decode cX10_of 15 = .ok (.ifCond .ne 5, 3) := by decide +kernel
theorem dX10_of_18 : decode cX10_of 18 = .ok (.iconst (-1), 1) := by decide +kernel
theorem dX10_of_19 : decode cX10_of 19 = .ok (.ireturn, 1) := by decide +kernel
theorem dX10_of_20 : decode cX10_of 20 = .ok (.iload_n 2, 1) := by decide +kernel
theorem dX10_of_21 : decode cX10_of 21 = .ok (.bipush 6, 2) := by decide +kernel
theorem dX10_of_23 : decode cX10_of 23 = .ok (.if_icmp .ge 10, 3) := by decide +kernel
theorem dX10_of_26 : decode cX10_of 26 = .ok (.aload_n 0, 1) := by decide +kernel
theorem dX10_of_27 : decode cX10_of 27 = .ok (.iload_n 1, 1) := by decide +kernel
theorem dX10_of_28 : decode cX10_of 28 = .ok (.iload_n 2, 1) := by decide +kernel
theorem dX10_of_29 : decode cX10_of 29 = .ok (.invokevirtual 56, 3) := by decide +kernel
theorem dX10_of_32 : decode cX10_of 32 = .ok (.ireturn, 1) := by decide +kernel
theorem dX10_of_33 : decode cX10_of 33 = .ok (.iload_n 2, 1) := by decide +kernel
theorem dX10_of_34 : decode cX10_of 34 = .ok (.bipush 6, 2) := by decide +kernel
theorem dX10_of_36 : decode cX10_of 36 = .ok (.if_icmp .ne 9, 3) := by decide +kernel
theorem dX10_of_39 : decode cX10_of 39 = .ok (.aload_n 0, 1) := by decide +kernel
theorem dX10_of_40 : decode cX10_of 40 = .ok (.iload_n 1, 1) := by decide +kernel
theorem dX10_of_41 : decode cX10_of 41 = .ok (.invokevirtual 209, 3) := by decide +kernel
theorem dX10_of_44 : decode cX10_of 44 = .ok (.ireturn, 1) := by decide +kernel
theorem dX10_of_45 : decode cX10_of 45 = .ok (.iload_n 2, 1) := by decide +kernel
theorem dX10_of_46 : decode cX10_of 46 = .ok (.bipush 10, 2) := by decide +kernel
theorem dX10_of_48 : decode cX10_of 48 = .ok (.if_icmp .ge 16, 3) := by decide +kernel
theorem dX10_of_51 : decode cX10_of 51 = .ok (.aload_n 0, 1) := by decide +kernel
theorem dX10_of_52 : decode cX10_of 52 = .ok (.iload_n 1, 1) := by decide +kernel
theorem dX10_of_53 : decode cX10_of 53 = .ok (.bipush 7, 2) := by decide +kernel
theorem dX10_of_55 : decode cX10_of 55 = .ok (.iload_n 2, 1) := by decide +kernel
theorem dX10_of_56 : decode cX10_of 56 = .ok (.iadd, 1) := by decide +kernel
theorem dX10_of_57 : decode cX10_of 57 = .ok (.bipush 7, 2) := by decide +kernel
theorem dX10_of_59 : decode cX10_of 59 = .ok (.isub, 1) := by decide +kernel
theorem dX10_of_60 : decode cX10_of 60 = .ok (.invokevirtual 56, 3) := by decide +kernel
theorem dX10_of_63 : decode cX10_of 63 = .ok (.ireturn, 1) := by decide +kernel
theorem dX10_of_64 : decode cX10_of 64 = .ok (.iload_n 2, 1) := by decide +kernel
theorem dX10_of_65 : decode cX10_of 65 = .ok (.bipush 10, 2) := by decide +kernel
theorem dX10_of_67 : decode cX10_of 67 = .ok (.if_icmp .ne 13, 3) := by decide +kernel
theorem dX10_of_70 : decode cX10_of 70 = .ok (.aload_n 0, 1) := by decide +kernel
theorem dX10_of_71 : decode cX10_of 71 = .ok (.iload_n 1, 1) := by decide +kernel
theorem dX10_of_72 : decode cX10_of 72 = .ok (.bipush 10, 2) := by decide +kernel
theorem dX10_of_74 : decode cX10_of 74 = .ok (.invokevirtual 56, 3) := by decide +kernel
theorem dX10_of_77 : decode cX10_of 77 = .ok (.goto 40, 3) := by decide +kernel
theorem dX10_of_80 : decode cX10_of 80 = .ok (.iload_n 2, 1) := by decide +kernel
theorem dX10_of_81 : decode cX10_of 81 = .ok (.bipush 11, 2) := by decide +kernel
theorem dX10_of_83 : decode cX10_of 83 = .ok (.if_icmp .ne 13, 3) := by decide +kernel
theorem dX10_of_86 : decode cX10_of 86 = .ok (.aload_n 0, 1) := by decide +kernel
theorem dX10_of_87 : decode cX10_of 87 = .ok (.iload_n 1, 1) := by decide +kernel
theorem dX10_of_88 : decode cX10_of 88 = .ok (.bipush 11, 2) := by decide +kernel
theorem dX10_of_90 : decode cX10_of 90 = .ok (.invokevirtual 56, 3) := by decide +kernel
theorem dX10_of_93 : decode cX10_of 93 = .ok (.goto 24, 3) := by decide +kernel
