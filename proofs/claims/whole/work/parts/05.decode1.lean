theorem dX0_init_0 : decode cX0_init 0 = .ok (.aload_n 0, 1) := by decide +kernel
theorem dX0_init_1 : decode cX0_init 1 = .ok (.invokespecial 3, 3) := by decide +kernel
theorem dX0_init_4 : decode cX0_init 4 = .ok (.aload_n 0, 1) := by decide +kernel
theorem dX0_init_5 : decode cX0_init 5 = .ok (.new 9, 3) := by decide +kernel
theorem dX0_init_8 : decode cX0_init 8 = .ok (.dup, 1) := by decide +kernel
theorem dX0_init_9 : decode cX0_init 9 = .ok (.invokespecial 11, 3) := by decide +kernel
theorem dX0_init_12 : decode cX0_init 12 = .ok (.putfield 12, 3) := by decide +kernel
theorem dX0_init_15 : decode cX0_init 15 = .ok (.aload_n 0, 1) := by decide +kernel
theorem dX0_init_16 : decode cX0_init 16 = .ok (.new 18, 3) := by decide +kernel
theorem dX0_init_19 : decode cX0_init 19 = .ok (.dup, 1) := by decide +kernel
theorem dX0_init_20 : decode cX0_init 20 = .ok (.invokespecial 20, 3) := by decide +kernel
theorem dX0_init_23 : decode cX0_init 23 = .ok (.putfield 21, 3) := by decide +kernel
theorem dX0_init_26 : decode cX0_init 26 = .ok (.aload_n 0, 1) := by decide +kernel
theorem dX0_init_27 : decode cX0_init 27 = .ok (.new 25, 3) := by decide +kernel
theorem dX0_init_30 : decode cX0_init 30 = .ok (.dup, 1) := by decide +kernel
theorem dX0_init_31 : decode cX0_init 31 = .ok (.invokespecial 27, 3) := by decide +kernel
theorem dX0_init_34 : decode cX0_init 34 = .ok (.putfield 28, 3) := by decide +kernel
theorem dX0_init_37 : decode cX0_init 37 = .ok (.aload_n 0, 1) := by decide +kernel
theorem dX0_init_38 : decode cX0_init 38 = .ok (.new 32, 3) := by decide +kernel
theorem dX0_init_41 : decode cX0_init 41 = .ok (.dup, 1) := by decide +kernel
theorem dX0_init_42 : decode cX0_init 42 = .ok (.bipush 24, 2) := by decide +kernel
theorem dX0_init_44 : decode cX0_init 44 = .ok (.invokespecial 34, 3) := by decide +kernel
theorem dX0_init_47 : decode cX0_init 47 = .ok (.putfield 37, 3) := by decide +kernel
theorem dX0_init_50 : decode cX0_init 50 = .ok (.aload_n 0, 1) := by decide +kernel
theorem dX0_init_51 : decode cX0_init 51 = .ok (.bipush (-5), 2) := by decide +kernel
theorem dX0_init_53 : decode cX0_init 53 = .ok (.putfield 41, 3) := by decide +kernel
theorem dX0_init_56 : decode cX0_init 56 = .ok (.aload_n 0, 1) := by decide +kernel
theorem dX0_init_57 : decode cX0_init 57 = .ok (.bipush (-5), 2) := by decide +kernel
theorem dX0_init_59 : decode cX0_init 59 = .ok (.putfield 45, 3) := by decide +kernel
theorem dX0_init_62 : decode cX0_init 62 = .ok (.aload_n 0, 1) := by decide +kernel
theorem dX0_init_63 : decode cX0_init 63 = .ok (.bipush (-5), 2) := by decide +kernel
theorem dX0_init_65 : decode cX0_init 65 = .ok (.putfield 48, 3) := by decide +kernel
theorem dX0_init_68 : decode cX0_init 68 = .ok (.aload_n 0, 1) := by decide +kernel
theorem dX0_init_69 : decode cX0_init 69 = .ok (.iconst 1, 1) := by decide +kernel
theorem dX0_init_70 : decode cX0_init 70 = .ok (.putfield 51, 3) := by decide +kernel
theorem dX0_init_73 : decode cX0_init 73 = .ok (.return_, 1) := by decide +kernel
theorem dX0_copyFrom_0 : decode cX0_copyFrom 0 = .ok (.aload_n 0, 1) := by decide +kernel
theorem dX0_copyFrom_1 : decode cX0_copyFrom 1 = .ok (.getfield 12, 3) := by decide +kernel
theorem dX0_copyFrom_4 : decode cX0_copyFrom 4 = .ok (.aload_n 1, 1) := by decide +kernel
theorem dX0_copyFrom_5 : decode cX0_copyFrom 5 = .ok (.getfield 12, 3) := by decide +kernel
theorem dX0_copyFrom_8 : decode cX0_copyFrom 8 = .ok (.invokevirtual 54, 3) := by decide +kernel
theorem dX0_copyFrom_11 : decode cX0_copyFrom 11 = .ok (.aload_n 0, 1) := by decide +kernel
theorem dX0_copyFrom_12 : decode cX0_copyFrom 12 = .ok (.getfield 21, 3) := by decide +kernel
theorem dX0_copyFrom_15 : decode cX0_copyFrom 15 = .ok (.aload_n 1, 1) := by decide +kernel
theorem dX0_copyFrom_16 : decode cX0_copyFrom 16 = .ok (.getfield 21, 3) := by decide +kernel
theorem dX0_copyFrom_19 : decode cX0_copyFrom 19 = .ok (.invokevirtual 58, 3) := by decide +kernel
theorem dX0_copyFrom_22 : decode cX0_copyFrom 22 = .ok (.aload_n 0, 1) := by decide +kernel
theorem dX0_copyFrom_23 : decode cX0_copyFrom 23 = .ok (.getfield 28, 3) := by decide +kernel
theorem dX0_copyFrom_26 : decode cX0_copyFrom 26 = .ok (.aload_n 1, 1) := by decide +kernel
theorem dX0_copyFrom_27 : decode cX0_copyFrom 27 = .ok (.getfield 28, 3) := by decide +kernel
theorem dX0_copyFrom_30 : decode cX0_copyFrom 30 = .ok (.invokevirtual 61, 3) := by decide +kernel
theorem dX0_copyFrom_33 : decode cX0_copyFrom 33 = .ok (.aload_n 0, 1) := by decide +kernel
theorem dX0_copyFrom_34 : decode cX0_copyFrom 34 = .ok (.getfield 37, 3) := by decide +kernel
theorem dX0_copyFrom_37 : decode cX0_copyFrom 37 = .ok (.aload_n 1, 1) := by decide +kernel
theorem dX0_copyFrom_38 : decode cX0_copyFrom 38 = .ok (.getfield 37, 3) := by decide +kernel
theorem dX0_copyFrom_41 : decode cX0_copyFrom 41 = .ok (.invokevirtual 64, 3) := by decide +kernel
theorem dX0_copyFrom_44 : decode cX0_copyFrom 44 = .ok (.aload_n 0, 1) := by decide +kernel
theorem dX0_copyFrom_45 : decode cX0_copyFrom 45 = .ok (.aload_n 1, 1) := by decide +kernel
theorem dX0_copyFrom_46 : decode cX0_copyFrom 46 = .ok (.getfield 67, 3) := by decide +kernel
theorem dX0_copyFrom_49 : decode cX0_copyFrom 49 = .ok (.putfield 67, 3) := by decide +kernel
theorem dX0_copyFrom_52 : decode cX0_copyFrom 52 = .ok (.aload_n 0, 1) := by decide +kernel
theorem dX0_copyFrom_53 : decode cX0_copyFrom 53 = .ok (.aload_n 1, 1) := by decide +kernel
theorem dX0_copyFrom_54 : decode cX0_copyFrom 54 = .ok (.getfield 71, 3) := by decide +kernel
theorem dX0_copyFrom_57 : decode cX0_copyFrom 57 = .ok (.putfield 71, 3) := by decide +kernel
theorem dX0_copyFrom_60 : decode cX0_copyFrom 60 = .ok (.aload_n 0, 1) := by decide +kernel
theorem dX0_copyFrom_61 : decode cX0_copyFrom 61 = .ok (.aload_n 1, 1) := by decide +kernel
theorem dX0_copyFrom_62 : decode cX0_copyFrom 62 = .ok (.getfield 41, 3) := by decide +kernel
theorem dX0_copyFrom_65 : decode cX0_copyFrom 65 = .ok (.putfield 41, 3) := by decide +kernel
theorem dX0_copyFrom_68 : decode cX0_copyFrom 68 = .ok (.aload_n 0, 1) := by decide +kernel
theorem dX0_copyFrom_69 : decode cX0_copyFrom 69 = .ok (.aload_n 1, 1) := by decide +kernel
theorem dX0_copyFrom_70 : decode cX0_copyFrom 70 = .ok (.getfield 45, 3) := by decide +kernel
theorem dX0_copyFrom_73 : decode cX0_copyFrom 73 = .ok (.putfield 45, 3) := by decide +kernel
theorem dX0_copyFrom_76 : decode cX0_copyFrom 76 = .ok (.aload_n 0, 1) := by decide +kernel
theorem dX0_copyFrom_77 : decode cX0_copyFrom 77 = .ok (.aload_n 1, 1) := by decide +kernel
theorem dX0_copyFrom_78 : decode cX0_copyFrom 78 = .ok (.getfield 48, 3) := by decide +kernel
theorem dX0_copyFrom_81 : decode cX0_copyFrom 81 = .ok (.putfield 48, 3) := by decide +kernel
theorem dX0_copyFrom_84 : decode cX0_copyFrom 84 = .ok (.aload_n 0, 1) := by decide +kernel
theorem dX0_copyFrom_85 : decode cX0_copyFrom 85 = .ok (.aload_n 1, 1) := by decide +kernel
theorem dX0_copyFrom_86 : decode cX0_copyFrom 86 = .ok (.getfield 74, 3) := by decide +kernel
theorem dX0_copyFrom_89 : decode cX0_copyFrom 89 = .ok (.putfield 74, 3) := by decide +kernel
theorem dX0_copyFrom_92 : decode cX0_copyFrom 92 = .ok (.aload_n 0, 1) := by decide +kernel
theorem dX0_copyFrom_93 : decode cX0_copyFrom 93 = .ok (.aload_n 1, 1) := by decide +kernel
theorem dX0_copyFrom_94 : decode cX0_copyFrom 94 = .ok (.getfield 77, 3) := by decide +kernel
theorem dX0_copyFrom_97 : decode cX0_copyFrom 97 = .ok (.putfield 77, 3) := by decide +kernel
theorem dX0_copyFrom_100 : decode cX0_copyFrom 100 = .ok (.aload_n 0, 1) := by decide +kernel
theorem dX0_copyFrom_101 : decode cX0_copyFrom 101 = .ok (.aload_n 1, 1) := by decide +kernel
theorem dX0_copyFrom_102 : decode cX0_copyFrom 102 = .ok (.getfield 80, 3) := by decide +kernel
theorem dX0_copyFrom_105 : decode cX0_copyFrom 105 = .ok (.putfield 80, 3) := by decide +kernel
theorem dX0_copyFrom_108 : decode cX0_copyFrom 108 = .ok (.aload_n 0, 1) := by decide +kernel
theorem dX0_copyFrom_109 : decode cX0_copyFrom 109 = .ok (.aload_n 1, 1) := by decide +kernel
theorem dX0_copyFrom_110 : decode cX0_copyFrom 110 = .ok (.getfield 51, 3) := by decide +kernel
theorem dX0_copyFrom_113 : decode cX0_copyFrom 113 = .ok (.putfield 51, 3) := by decide +kernel
theorem dX0_copyFrom_116 : decode cX0_copyFrom 116 = .ok (.aload_n 0, 1) := by decide +kernel
theorem dX0_copyFrom_117 : decode cX0_copyFrom 117 = .ok (.aload_n 1, 1) := by decide +kernel
theorem dX0_copyFrom_118 : decode cX0_copyFrom 118 = .ok (.getfield 83, 3) := by decide +kernel
theorem dX0_copyFrom_121 : decode cX0_copyFrom 121 = .ok (.putfield 83, 3) := by decide +kernel
theorem dX0_copyFrom_124 : decode cX0_copyFrom 124 = .ok (.aload_n 0, 1) := by decide +kernel
theorem dX0_copyFrom_125 : decode cX0_copyFrom 125 = .ok (.aload_n 1, 1) := by decide +kernel
theorem dX0_copyFrom_126 : decode cX0_copyFrom 126 = .ok (.getfield 86, 3) := by decide +kernel
theorem dX0_copyFrom_129 : decode cX0_copyFrom 129 = .ok (.putfield 86, 3) := by decide +kernel
theorem dX0_copyFrom_132 : decode cX0_copyFrom 132 = .ok (.aload_n 0, 1) := by decide +kernel
theorem dX0_copyFrom_133 : decode cX0_copyFrom 133 = .ok (.aload_n 1, 1) := by decide +kernel
theorem dX0_copyFrom_134 : decode cX0_copyFrom 134 = .ok (.getfield 89, 3) := by decide +kernel
theorem dX0_copyFrom_137 : decode cX0_copyFrom 137 = .ok (.putfield 89, 3) := by decide +kernel
theorem dX0_copyFrom_140 : decode cX0_copyFrom 140 = .ok (.return_, 1) := by decide +kernel
theorem dX0_begin_0 : decode cX0_begin 0 = .ok (.aload_n 0, 1) := by decide +kernel
theorem dX0_begin_1 : decode cX0_begin 1 = .ok (.iconst 1, 1) := by decide +kernel
theorem dX0_begin_2 : decode cX0_begin 2 = .ok (.putfield 67, 3) := by decide +kernel
theorem dX0_begin_5 : decode cX0_begin 5 = .ok (.aload_n 0, 1) := by decide +kernel
theorem dX0_begin_6 : decode cX0_begin 6 = .ok (.iconst 0, 1) := by decide +kernel
theorem dX0_begin_7 : decode cX0_begin 7 = .ok (.invokevirtual 92, 3) := by decide +kernel
theorem dX0_begin_10 : decode cX0_begin 10 = .ok (.return_, 1) := by decide +kernel
theorem dX0_comeOn_0 : decode cX0_comeOn 0 = .ok (.aload_n 0, 1) := by decide +kernel
theorem dX0_comeOn_1 : decode cX0_comeOn 1 = .ok (.iload_n 1, 1) := by decide +kernel
theorem dX0_comeOn_2 : decode cX0_comeOn 2 = .ok (.putfield 41, 3) := by decide +kernel
theorem dX0_comeOn_5 : decode cX0_comeOn 5 = .ok (.aload_n 0, 1) := by decide +kernel
theorem dX0_comeOn_6 : decode cX0_comeOn 6 = .ok (.getfield 28, 3) := by decide +kernel
theorem dX0_comeOn_9 : decode cX0_comeOn 9 = .ok (.getfield 95, 3) := by decide +kernel
theorem dX0_comeOn_12 : decode cX0_comeOn 12 = .ok (.iload_n 1, 1) := by decide +kernel
theorem dX0_comeOn_13 : decode cX0_comeOn 13 = .ok (.dup2, 1) := by decide +kernel
theorem dX0_comeOn_14 : decode cX0_comeOn 14 = .ok (.iaload, 1) := by decide +kernel
theorem dX0_comeOn_15 : decode cX0_comeOn 15 = .ok (.iconst 1, 1) := by decide +kernel
theorem dX0_comeOn_16 : decode cX0_comeOn 16 = .ok (.iadd, 1) := by decide +kernel
theorem dX0_comeOn_17 : decode cX0_comeOn 17 = .ok (.iastore, 1) := by decide +kernel
theorem dX0_comeOn_18 : decode cX0_comeOn 18 = .ok (.return_, 1) := by decide +kernel
theorem dX0_declare_0 : decode cX0_declare 0 = .ok (.aload_n 0, 1) := by decide +kernel
theorem dX0_declare_1 : decode cX0_declare 1 = .ok (.getfield 67, 3) := by decide +kernel
theorem dX0_declare_4 : decode cX0_declare 4 = .ok (.ifCond .eq 25, 3) := by decide +kernel
theorem dX0_declare_7 : decode cX0_declare 7 = .ok (.aload_n 0, 1) := by decide +kernel
theorem dX0_declare_8 : decode cX0_declare 8 = .ok (.getfield 48, 3) := by decide +kernel
theorem dX0_declare_11 : decode cX0_declare 11 = .ok (.bipush (-5), 2) := by decide +kernel
theorem dX0_declare_13 : decode cX0_declare 13 = .ok (.if_icmp .ne 16, 3) := by decide +kernel
theorem dX0_declare_16 : decode cX0_declare 16 = .ok (.aload_n 0, 1) := by decide +kernel
theorem dX0_declare_17 : decode cX0_declare 17 = .ok (.getfield 28, 3) := by decide +kernel
theorem dX0_declare_20 : decode cX0_declare 20 = .ok (.iload_n 1, 1) := by decide +kernel
theorem dX0_declare_21 : decode cX0_declare 21 = .ok (.invokevirtual 99, 3) := by decide +kernel
theorem dX0_declare_24 : decode cX0_declare 24 = .ok (.bipush (-5), 2) := by decide +kernel
theorem dX0_declare_26 : decode cX0_declare 26 = .ok (.if_icmp .ne 5, 3) := by decide +kernel
theorem dX0_declare_29 : decode cX0_declare 29 = .ok (.iconst 0, 1) := by decide +kernel
theorem dX0_declare_30 : decode cX0_declare 30 = .ok (.ireturn, 1) := by decide +kernel
theorem dX0_declare_31 : decode cX0_declare 31 = .ok (.aload_n 0, 1) := by decide +kernel
theorem dX0_declare_32 : decode cX0_declare 32 = .ok (.iload_n 1, 1) := by decide +kernel
theorem dX0_declare_33 : decode cX0_declare 33 = .ok (.putfield 48, 3) := by decide +kernel
theorem dX0_declare_36 : decode cX0_declare 36 = .ok (.iconst 1, 1) := by decide +kernel
theorem dX0_declare_37 : decode cX0_declare 37 = .ok (.ireturn, 1) := by decide +kernel
theorem dX0_obey_0 : decode cX0_obey 0 = .ok (.iload_n 1, 1) := by decide +kernel
theorem dX0_obey_1 : decode cX0_obey 1 = .ok (.tableswitch 53 0 2 #[27, 35, 44], 27) := by decide +kernel
theorem dX0_obey_28 : decode cX0_obey 28 = .ok (.aload_n 0, 1) := by decide +kernel
theorem dX0_obey_29 : decode cX0_obey 29 = .ok (.iload_n 2, 1) := by decide +kernel
theorem dX0_obey_30 : decode cX0_obey 30 = .ok (.invokevirtual 103, 3) := by decide +kernel
theorem dX0_obey_33 : decode cX0_obey 33 = .ok (.goto 31, 3) := by decide +kernel
theorem dX0_obey_36 : decode cX0_obey 36 = .ok (.aload_n 0, 1) := by decide +kernel
theorem dX0_obey_37 : decode cX0_obey 37 = .ok (.iload_n 2, 1) := by decide +kernel
theorem dX0_obey_38 : decode cX0_obey 38 = .ok (.invokevirtual 106, 3) := by decide +kernel
theorem dX0_obey_41 : decode cX0_obey 41 = .ok (.pop, 1) := by decide +kernel
theorem dX0_obey_42 : decode cX0_obey 42 = .ok (.goto 22, 3) := by decide +kernel
theorem dX0_obey_45 : decode cX0_obey 45 = .ok (.aload_n 0, 1) := by decide +kernel
theorem dX0_obey_46 : decode cX0_obey 46 = .ok (.bipush (-5), 2) := by decide +kernel
theorem dX0_obey_48 : decode cX0_obey 48 = .ok (.putfield 48, 3) := by decide +kernel
theorem dX0_obey_51 : decode cX0_obey 51 = .ok (.goto 13, 3) := by decide +kernel
theorem dX0_obey_54 : decode cX0_obey 54 = .ok (.aload_n 0, 1) := by decide +kernel
theorem dX0_obey_55 : decode cX0_obey 55 = .ok (.getfield 21, 3) := by decide +kernel
theorem dX0_obey_58 : decode cX0_obey 58 = .ok (.getfield 110, 3) := by decide +kernel
theorem dX0_obey_61 : decode cX0_obey 61 = .ok (.iload_n 2, 1) := by decide +kernel
theorem dX0_obey_62 : decode cX0_obey 62 = .ok (.iconst 0, 1) := by decide +kernel
theorem dX0_obey_63 : decode cX0_obey 63 = .ok (.iastore, 1) := by decide +kernel
theorem dX0_obey_64 : decode cX0_obey 64 = .ok (.return_, 1) := by decide +kernel
theorem dX0_passSeconds_0 : decode cX0_passSeconds 0 = .ok (.aload_n 0, 1) := by decide +kernel
theorem dX0_passSeconds_1 : decode cX0_passSeconds 1 = .ok (.getfield 67, 3) := by decide +kernel
theorem dX0_passSeconds_4 : decode cX0_passSeconds 4 = .ok (.ifCond .ne 4, 3) := by decide +kernel
theorem dX0_passSeconds_7 : decode cX0_passSeconds 7 = .ok (.return_, 1) := by decide +kernel
theorem dX0_passSeconds_8 : decode cX0_passSeconds 8 = .ok (.iconst 0, 1) := by decide +kernel
theorem dX0_passSeconds_9 : decode cX0_passSeconds 9 = .ok (.istore_n 2, 1) := by decide +kernel
theorem dX0_passSeconds_10 : decode cX0_passSeconds 10 = .ok (.iload_n 2, 1) := by decide +kernel
theorem dX0_passSeconds_11 : decode cX0_passSeconds 11 = .ok (.iload_n 1, 1) := by decide +kernel
theorem dX0_passSeconds_12 : decode cX0_passSeconds 12 = .ok (.if_icmp .ge 67, 3) := by decide +kernel
theorem dX0_passSeconds_15 : decode cX0_passSeconds 15 = .ok (.aload_n 0, 1) := by decide +kernel
theorem dX0_passSeconds_16 : decode cX0_passSeconds 16 = .ok (.invokevirtual 113, 3) := by decide +kernel
theorem dX0_passSeconds_19 : decode cX0_passSeconds 19 = .ok (.aload_n 0, 1) := by decide +kernel
theorem dX0_passSeconds_20 : decode cX0_passSeconds 20 = .ok (.getfield 48, 3) := by decide +kernel
theorem dX0_passSeconds_23 : decode cX0_passSeconds 23 = .ok (.bipush (-5), 2) := by decide +kernel
theorem dX0_passSeconds_25 : decode cX0_passSeconds 25 = .ok (.if_icmp .eq 10, 3) := by decide +kernel
theorem dX0_passSeconds_28 : decode cX0_passSeconds 28 = .ok (.aload_n 0, 1) := by decide +kernel
theorem dX0_passSeconds_29 : decode cX0_passSeconds 29 = .ok (.invokevirtual 116, 3) := by decide +kernel
theorem dX0_passSeconds_32 : decode cX0_passSeconds 32 = .ok (.goto 7, 3) := by decide +kernel
theorem dX0_passSeconds_35 : decode cX0_passSeconds 35 = .ok (.aload_n 0, 1) := by decide +kernel
theorem dX0_passSeconds_36 : decode cX0_passSeconds 36 = .ok (.invokevirtual 119, 3) := by decide +kernel
theorem dX0_passSeconds_39 : decode cX0_passSeconds 39 = .ok (.aload_n 0, 1) := by decide +kernel
theorem dX0_passSeconds_40 : decode cX0_passSeconds 40 = .ok (.invokevirtual 122, 3) := by decide +kernel
theorem dX0_passSeconds_43 : decode cX0_passSeconds 43 = .ok (.aload_n 0, 1) := by decide +kernel
theorem dX0_passSeconds_44 : decode cX0_passSeconds 44 = .ok (.invokevirtual 125, 3) := by decide +kernel
theorem dX0_passSeconds_47 : decode cX0_passSeconds 47 = .ok (.aload_n 0, 1) := by decide +kernel
theorem dX0_passSeconds_48 : decode cX0_passSeconds 48 = .ok (.dup, 1) := by decide +kernel
theorem dX0_passSeconds_49 : decode cX0_passSeconds 49 = .ok (.getfield 74, 3) := by decide +kernel
theorem dX0_passSeconds_52 : decode cX0_passSeconds 52 = .ok (.aload_n 0, 1) := by decide +kernel
theorem dX0_passSeconds_53 : decode cX0_passSeconds 53 = .ok (.getfield 21, 3) := by decide +kernel
theorem dX0_passSeconds_56 : decode cX0_passSeconds 56 = .ok (.invokevirtual 128, 3) := by decide +kernel
theorem dX0_passSeconds_59 : decode cX0_passSeconds 59 = .ok (.iadd, 1) := by decide +kernel
theorem dX0_passSeconds_60 : decode cX0_passSeconds 60 = .ok (.putfield 74, 3) := by decide +kernel
theorem dX0_passSeconds_63 : decode cX0_passSeconds 63 = .ok (.aload_n 0, 1) := by decide +kernel
theorem dX0_passSeconds_64 : decode cX0_passSeconds 64 = .ok (.dup, 1) := by decide +kernel
theorem dX0_passSeconds_65 : decode cX0_passSeconds 65 = .ok (.getfield 71, 3) := by decide +kernel
theorem dX0_passSeconds_68 : decode cX0_passSeconds 68 = .ok (.iconst 1, 1) := by decide +kernel
theorem dX0_passSeconds_69 : decode cX0_passSeconds 69 = .ok (.iadd, 1) := by decide +kernel
theorem dX0_passSeconds_70 : decode cX0_passSeconds 70 = .ok (.putfield 71, 3) := by decide +kernel
theorem dX0_passSeconds_73 : decode cX0_passSeconds 73 = .ok (.iinc 2 1, 3) := by decide +kernel
theorem dX0_passSeconds_76 : decode cX0_passSeconds 76 = .ok (.goto (-66), 3) := by decide +kernel
theorem dX0_passSeconds_79 : decode cX0_passSeconds 79 = .ok (.return_, 1) := by decide +kernel
theorem dX0_letCome_0 : decode cX0_letCome 0 = .ok (.iconst 0, 1) := by decide +kernel
theorem dX0_letCome_1 : decode cX0_letCome 1 = .ok (.istore_n 1, 1) := by decide +kernel
theorem dX0_letCome_2 : decode cX0_letCome 2 = .ok (.iload_n 1, 1) := by decide +kernel
theorem dX0_letCome_3 : decode cX0_letCome 3 = .ok (.aload_n 0, 1) := by decide +kernel
theorem dX0_letCome_4 : decode cX0_letCome 4 = .ok (.getfield 12, 3) := by decide +kernel
theorem dX0_letCome_7 : decode cX0_letCome 7 = .ok (.getfield 132, 3) := by decide +kernel
theorem dX0_letCome_10 : decode cX0_letCome 10 = .ok (.if_icmp .ge 74, 3) := by decide +kernel
theorem dX0_letCome_13 : decode cX0_letCome 13 = .ok (.aload_n 0, 1) := by decide +kernel
theorem dX0_letCome_14 : decode cX0_letCome 14 = .ok (.getfield 21, 3) := by decide +kernel
theorem dX0_letCome_17 : decode cX0_letCome 17 = .ok (.iload_n 1, 1) := by decide +kernel
theorem dX0_letCome_18 : decode cX0_letCome 18 = .ok (.iconst 3, 1) := by decide +kernel
theorem dX0_letCome_19 : decode cX0_letCome 19 = .ok (.invokevirtual 135, 3) := by decide +kernel
theorem dX0_letCome_22 : decode cX0_letCome 22 = .ok (.istore_n 2, 1) := by decide +kernel
theorem dX0_letCome_23 : decode cX0_letCome 23 = .ok (.iload_n 2, 1) := by decide +kernel
theorem dX0_letCome_24 : decode cX0_letCome 24 = .ok (.ifCond .le 29, 3) := by decide +kernel
theorem dX0_letCome_27 : decode cX0_letCome 27 = .ok (.aload_n 0, 1) := by decide +kernel
theorem dX0_letCome_28 : decode cX0_letCome 28 = .ok (.invokevirtual 139, 3) := by decide +kernel
theorem dX0_letCome_31 : decode cX0_letCome 31 = .ok (.iload_n 2, 1) := by decide +kernel
theorem dX0_letCome_32 : decode cX0_letCome 32 = .ok (.if_icmp .ge 21, 3) := by decide +kernel
theorem dX0_letCome_35 : decode cX0_letCome 35 = .ok (.aload_n 0, 1) := by decide +kernel
theorem dX0_letCome_36 : decode cX0_letCome 36 = .ok (.dup, 1) := by decide +kernel
theorem dX0_letCome_37 : decode cX0_letCome 37 = .ok (.getfield 80, 3) := by decide +kernel
theorem dX0_letCome_40 : decode cX0_letCome 40 = .ok (.aload_n 0, 1) := by decide +kernel
theorem dX0_letCome_41 : decode cX0_letCome 41 = .ok (.getfield 21, 3) := by decide +kernel
theorem dX0_letCome_44 : decode cX0_letCome 44 = .ok (.iload_n 1, 1) := by decide +kernel
theorem dX0_letCome_45 : decode cX0_letCome 45 = .ok (.iconst 1, 1) := by decide +kernel
theorem dX0_letCome_46 : decode cX0_letCome 46 = .ok (.invokevirtual 142, 3) := by decide +kernel
theorem dX0_letCome_49 : decode cX0_letCome 49 = .ok (.iadd, 1) := by decide +kernel
theorem dX0_letCome_50 : decode cX0_letCome 50 = .ok (.putfield 80, 3) := by decide +kernel
theorem dX0_letCome_53 : decode cX0_letCome 53 = .ok (.aload_n 0, 1) := by decide +kernel
theorem dX0_letCome_54 : decode cX0_letCome 54 = .ok (.getfield 21, 3) := by decide +kernel
theorem dX0_letCome_57 : decode cX0_letCome 57 = .ok (.getfield 110, 3) := by decide +kernel
theorem dX0_letCome_60 : decode cX0_letCome 60 = .ok (.iload_n 1, 1) := by decide +kernel
theorem dX0_letCome_61 : decode cX0_letCome 61 = .ok (.iaload, 1) := by decide +kernel
theorem dX0_letCome_62 : decode cX0_letCome 62 = .ok (.ifCond .le 16, 3) := by decide +kernel
theorem dX0_letCome_65 : decode cX0_letCome 65 = .ok (.aload_n 0, 1) := by decide +kernel
theorem dX0_letCome_66 : decode cX0_letCome 66 = .ok (.getfield 21, 3) := by decide +kernel
theorem dX0_letCome_69 : decode cX0_letCome 69 = .ok (.getfield 145, 3) := by decide +kernel
theorem dX0_letCome_72 : decode cX0_letCome 72 = .ok (.iload_n 1, 1) := by decide +kernel
theorem dX0_letCome_73 : decode cX0_letCome 73 = .ok (.aload_n 0, 1) := by decide +kernel
theorem dX0_letCome_74 : decode cX0_letCome 74 = .ok (.getfield 71, 3) := by decide +kernel
theorem dX0_letCome_77 : decode cX0_letCome 77 = .ok (.iastore, 1) := by decide +kernel
theorem dX0_letCome_78 : decode cX0_letCome 78 = .ok (.iinc 1 1, 3) := by decide +kernel
theorem dX0_letCome_81 : decode cX0_letCome 81 = .ok (.goto (-79), 3) := by decide +kernel
theorem dX0_letCome_84 : decode cX0_letCome 84 = .ok (.return_, 1) := by decide +kernel
theorem dX0_drawBelow60_0 : decode cX0_drawBelow60 0 = .ok (.aload_n 0, 1) := by decide +kernel
theorem dX0_drawBelow60_1 : decode cX0_drawBelow60 1 = .ok (.aload_n 0, 1) := by decide +kernel
theorem dX0_drawBelow60_2 : decode cX0_drawBelow60 2 = .ok (.getfield 51, 3) := by decide +kernel
theorem dX0_drawBelow60_5 : decode cX0_drawBelow60 5 = .ok (.ldc 148, 2) := by decide +kernel
theorem dX0_drawBelow60_7 : decode cX0_drawBelow60 7 = .ok (.imul, 1) := by decide +kernel
theorem dX0_drawBelow60_8 : decode cX0_drawBelow60 8 = .ok (.sipush 12345, 3) := by decide +kernel
theorem dX0_drawBelow60_11 : decode cX0_drawBelow60 11 = .ok (.iadd, 1) := by decide +kernel
theorem dX0_drawBelow60_12 : decode cX0_drawBelow60 12 = .ok (.putfield 51, 3) := by decide +kernel
theorem dX0_drawBelow60_15 : decode cX0_drawBelow60 15 = .ok (.aload_n 0, 1) := by decide +kernel
theorem dX0_drawBelow60_16 : decode cX0_drawBelow60 16 = .ok (.getfield 51, 3) := by decide +kernel
theorem dX0_drawBelow60_19 : decode cX0_drawBelow60 19 = .ok (.bipush 9, 2) := by decide +kernel
theorem dX0_drawBelow60_21 : decode cX0_drawBelow60 21 = .ok (.iushr, 1) := by decide +kernel
theorem dX0_drawBelow60_22 : decode cX0_drawBelow60 22 = .ok (.bipush 60, 2) := by decide +kernel
theorem dX0_drawBelow60_24 : decode cX0_drawBelow60 24 = .ok (.irem, 1) := by decide +kernel
theorem dX0_drawBelow60_25 : decode cX0_drawBelow60 25 = .ok (.ireturn, 1) := by decide +kernel
theorem dX0_changeForEmergency_0 : decode cX0_changeForEmergency 0 = .ok (.aload_n 0, 1) := by decide +kernel
theorem dX0_changeForEmergency_1 : decode cX0_changeForEmergency 1 = .ok (.getfield 28, 3) := by decide +kernel
theorem dX0_changeForEmergency_4 : decode cX0_changeForEmergency 4 = .ok (.getfield 149, 3) := by decide +kernel
theorem dX0_changeForEmergency_7 : decode cX0_changeForEmergency 7 = .ok (.aload_n 0, 1) := by decide +kernel
theorem dX0_changeForEmergency_8 : decode cX0_changeForEmergency 8 = .ok (.getfield 41, 3) := by decide +kernel
theorem dX0_changeForEmergency_11 : decode cX0_changeForEmergency 11 = .ok (.iaload, 1) := by decide +kernel
theorem dX0_changeForEmergency_12 : decode cX0_changeForEmergency 12 = .ok (.aload_n 0, 1) := by decide +kernel
theorem dX0_changeForEmergency_13 : decode cX0_changeForEmergency 13 = .ok (.getfield 48, 3) := by decide +kernel
theorem dX0_changeForEmergency_16 : decode cX0_changeForEmergency 16 = .ok (.invokestatic 152, 3) := by decide +kernel
theorem dX0_changeForEmergency_19 : decode cX0_changeForEmergency 19 = .ok (.ifCond .ne 10, 3) := by decide +kernel
theorem dX0_changeForEmergency_22 : decode cX0_changeForEmergency 22 = .ok (.aload_n 0, 1) := by decide +kernel
theorem dX0_changeForEmergency_23 : decode cX0_changeForEmergency 23 = .ok (.invokevirtual 156, 3) := by decide +kernel
theorem dX0_changeForEmergency_26 : decode cX0_changeForEmergency 26 = .ok (.ifCond .eq 4, 3) := by decide +kernel
theorem dX0_changeForEmergency_29 : decode cX0_changeForEmergency 29 = .ok (.return_, 1) := by decide +kernel
theorem dX0_changeForEmergency_30 : decode cX0_changeForEmergency 30 = .ok (.aload_n 0, 1) := by decide +kernel
theorem dX0_changeForEmergency_31 : decode cX0_changeForEmergency 31 = .ok (.getfield 28, 3) := by decide +kernel
theorem dX0_changeForEmergency_34 : decode cX0_changeForEmergency 34 = .ok (.aload_n 0, 1) := by decide +kernel
theorem dX0_changeForEmergency_35 : decode cX0_changeForEmergency 35 = .ok (.getfield 48, 3) := by decide +kernel
theorem dX0_changeForEmergency_38 : decode cX0_changeForEmergency 38 = .ok (.invokevirtual 99, 3) := by decide +kernel
theorem dX0_changeForEmergency_41 : decode cX0_changeForEmergency 41 = .ok (.istore_n 1, 1) := by decide +kernel
theorem dX0_changeForEmergency_42 : decode cX0_changeForEmergency 42 = .ok (.iload_n 1, 1) := by decide +kernel
theorem dX0_changeForEmergency_43 : decode cX0_changeForEmergency 43 = .ok (.bipush (-5), 2) := by decide +kernel
theorem dX0_changeForEmergency_45 : decode cX0_changeForEmergency 45 = .ok (.if_icmp .ne 4, 3) := by decide +kernel
theorem dX0_changeForEmergency_48 : decode cX0_changeForEmergency 48 = .ok (.return_, 1) := by decide +kernel
theorem dX0_changeForEmergency_49 : decode cX0_changeForEmergency 49 = .ok (.aload_n 0, 1) := by decide +kernel
theorem dX0_changeForEmergency_50 : decode cX0_changeForEmergency 50 = .ok (.getfield 45, 3) := by decide +kernel
theorem dX0_changeForEmergency_53 : decode cX0_changeForEmergency 53 = .ok (.bipush (-5), 2) := by decide +kernel
theorem dX0_changeForEmergency_55 : decode cX0_changeForEmergency 55 = .ok (.if_icmp .ne 11, 3) := by decide +kernel
theorem dX0_changeForEmergency_58 : decode cX0_changeForEmergency 58 = .ok (.aload_n 0, 1) := by decide +kernel
theorem dX0_changeForEmergency_59 : decode cX0_changeForEmergency 59 = .ok (.aload_n 0, 1) := by decide +kernel
theorem dX0_changeForEmergency_60 : decode cX0_changeForEmergency 60 = .ok (.getfield 41, 3) := by decide +kernel
theorem dX0_changeForEmergency_63 : decode cX0_changeForEmergency 63 = .ok (.putfield 45, 3) := by decide +kernel
theorem dX0_changeForEmergency_66 : decode cX0_changeForEmergency 66 = .ok (.aload_n 0, 1) := by decide +kernel
theorem dX0_changeForEmergency_67 : decode cX0_changeForEmergency 67 = .ok (.iload_n 1, 1) := by decide +kernel
theorem dX0_changeForEmergency_68 : decode cX0_changeForEmergency 68 = .ok (.invokevirtual 160, 3) := by decide +kernel
theorem dX0_changeForEmergency_71 : decode cX0_changeForEmergency 71 = .ok (.return_, 1) := by decide +kernel
theorem dX0_isOneTooFreshToCut_0 : decode cX0_isOneTooFreshToCut 0 = .ok (.iconst 0, 1) := by decide +kernel
theorem dX0_isOneTooFreshToCut_1 : decode cX0_isOneTooFreshToCut 1 = .ok (.istore_n 1, 1) := by decide +kernel
theorem dX0_isOneTooFreshToCut_2 : decode cX0_isOneTooFreshToCut 2 = .ok (.iload_n 1, 1) := by decide +kernel
theorem dX0_isOneTooFreshToCut_3 : decode cX0_isOneTooFreshToCut 3 = .ok (.aload_n 0, 1) := by decide +kernel
theorem dX0_isOneTooFreshToCut_4 : decode cX0_isOneTooFreshToCut 4 = .ok (.getfield 12, 3) := by decide +kernel
theorem dX0_isOneTooFreshToCut_7 : decode cX0_isOneTooFreshToCut 7 = .ok (.getfield 132, 3) := by decide +kernel
theorem dX0_isOneTooFreshToCut_10 : decode cX0_isOneTooFreshToCut 10 = .ok (.if_icmp .ge 54, 3) := by decide +kernel
theorem dX0_isOneTooFreshToCut_13 : decode cX0_isOneTooFreshToCut 13 = .ok (.aload_n 0, 1) := by decide +kernel
theorem dX0_isOneTooFreshToCut_14 : decode cX0_isOneTooFreshToCut 14 = .ok (.getfield 21, 3) := by decide +kernel
theorem dX0_isOneTooFreshToCut_17 : decode cX0_isOneTooFreshToCut 17 = .ok (.iload_n 1, 1) := by decide +kernel
theorem dX0_isOneTooFreshToCut_18 : decode cX0_isOneTooFreshToCut 18 = .ok (.iconst 0, 1) := by decide +kernel
theorem dX0_isOneTooFreshToCut_19 : decode cX0_isOneTooFreshToCut 19 = .ok (.invokevirtual 135, 3) := by decide +kernel
theorem dX0_isOneTooFreshToCut_22 : decode cX0_isOneTooFreshToCut 22 = .ok (.iconst 1, 1) := by decide +kernel
theorem dX0_isOneTooFreshToCut_23 : decode cX0_isOneTooFreshToCut 23 = .ok (.iadd, 1) := by decide +kernel
theorem dX0_isOneTooFreshToCut_24 : decode cX0_isOneTooFreshToCut 24 = .ok (.iconst 2, 1) := by decide +kernel
theorem dX0_isOneTooFreshToCut_25 : decode cX0_isOneTooFreshToCut 25 = .ok (.idiv, 1) := by decide +kernel
theorem dX0_isOneTooFreshToCut_26 : decode cX0_isOneTooFreshToCut 26 = .ok (.istore_n 2, 1) := by decide +kernel
theorem dX0_isOneTooFreshToCut_27 : decode cX0_isOneTooFreshToCut 27 = .ok (.aload_n 0, 1) := by decide +kernel
theorem dX0_isOneTooFreshToCut_28 : decode cX0_isOneTooFreshToCut 28 = .ok (.getfield 21, 3) := by decide +kernel
theorem dX0_isOneTooFreshToCut_31 : decode cX0_isOneTooFreshToCut 31 = .ok (.iload_n 1, 1) := by decide +kernel
theorem dX0_isOneTooFreshToCut_32 : decode cX0_isOneTooFreshToCut 32 = .ok (.invokevirtual 163, 3) := by decide +kernel
theorem dX0_isOneTooFreshToCut_35 : decode cX0_isOneTooFreshToCut 35 = .ok (.ifCond .eq 23, 3) := by decide +kernel
theorem dX0_isOneTooFreshToCut_38 : decode cX0_isOneTooFreshToCut 38 = .ok (.aload_n 0, 1) := by decide +kernel
theorem dX0_isOneTooFreshToCut_39 : decode cX0_isOneTooFreshToCut 39 = .ok (.getfield 71, 3) := by decide +kernel
theorem dX0_isOneTooFreshToCut_42 : decode cX0_isOneTooFreshToCut 42 = .ok (.aload_n 0, 1) := by decide +kernel
theorem dX0_isOneTooFreshToCut_43 : decode cX0_isOneTooFreshToCut 43 = .ok (.getfield 21, 3) := by decide +kernel
theorem dX0_isOneTooFreshToCut_46 : decode cX0_isOneTooFreshToCut 46 = .ok (.getfield 166, 3) := by decide +kernel
theorem dX0_isOneTooFreshToCut_49 : decode cX0_isOneTooFreshToCut 49 = .ok (.iload_n 1, 1) := by decide +kernel
theorem dX0_isOneTooFreshToCut_50 : decode cX0_isOneTooFreshToCut 50 = .ok (.iaload, 1) := by decide +kernel
theorem dX0_isOneTooFreshToCut_51 : decode cX0_isOneTooFreshToCut 51 = .ok (.isub, 1) := by decide +kernel
theorem dX0_isOneTooFreshToCut_52 : decode cX0_isOneTooFreshToCut 52 = .ok (.iload_n 2, 1) := by decide +kernel
theorem dX0_isOneTooFreshToCut_53 : decode cX0_isOneTooFreshToCut 53 = .ok (.if_icmp .ge 5, 3) := by decide +kernel
theorem dX0_isOneTooFreshToCut_56 : decode cX0_isOneTooFreshToCut 56 = .ok (.iconst 1, 1) := by decide +kernel
theorem dX0_isOneTooFreshToCut_57 : decode cX0_isOneTooFreshToCut 57 = .ok (.ireturn, 1) := by decide +kernel
theorem dX0_isOneTooFreshToCut_58 : decode cX0_isOneTooFreshToCut 58 = .ok (.iinc 1 1, 3) := by decide +kernel
theorem dX0_isOneTooFreshToCut_61 : decode cX0_isOneTooFreshToCut 61 = .ok (.goto (-59), 3) := by decide +kernel
theorem dX0_isOneTooFreshToCut_64 : decode cX0_isOneTooFreshToCut 64 = .ok (.iconst 0, 1) := by decide +kernel
theorem dX0_isOneTooFreshToCut_65 : decode cX0_isOneTooFreshToCut 65 = .ok (.ireturn, 1) := by decide +kernel
theorem dX0_changeByCalls_0 : decode cX0_changeByCalls 0 = .ok (.aload_n 0, 1) := by decide +kernel
theorem dX0_changeByCalls_1 : decode cX0_changeByCalls 1 = .ok (.invokevirtual 169, 3) := by decide +kernel
theorem dX0_changeByCalls_4 : decode cX0_changeByCalls 4 = .ok (.ifCond .ne 10, 3) := by decide +kernel
theorem dX0_changeByCalls_7 : decode cX0_changeByCalls 7 = .ok (.aload_n 0, 1) := by decide +kernel
theorem dX0_changeByCalls_8 : decode cX0_changeByCalls 8 = .ok (.invokevirtual 172, 3) := by decide +kernel
theorem dX0_changeByCalls_11 : decode cX0_changeByCalls 11 = .ok (.ifCond .ne 4, 3) := by decide +kernel
theorem dX0_changeByCalls_14 : decode cX0_changeByCalls 14 = .ok (.return_, 1) := by decide +kernel
theorem dX0_changeByCalls_15 : decode cX0_changeByCalls 15 = .ok (.aload_n 0, 1) := by decide +kernel
theorem dX0_changeByCalls_16 : decode cX0_changeByCalls 16 = .ok (.invokevirtual 175, 3) := by decide +kernel
theorem dX0_changeByCalls_19 : decode cX0_changeByCalls 19 = .ok (.istore_n 1, 1) := by decide +kernel
theorem dX0_changeByCalls_20 : decode cX0_changeByCalls 20 = .ok (.iload_n 1, 1) := by decide +kernel
theorem dX0_changeByCalls_21 : decode cX0_changeByCalls 21 = .ok (.ifCond .eq 41, 3) := by decide +kernel
theorem dX0_changeByCalls_24 : decode cX0_changeByCalls 24 = .ok (.aload_n 0, 1) := by decide +kernel
theorem dX0_changeByCalls_25 : decode cX0_changeByCalls 25 = .ok (.invokevirtual 178, 3) := by decide +kernel
theorem dX0_changeByCalls_28 : decode cX0_changeByCalls 28 = .ok (.ifCond .ne 17, 3) := by decide +kernel
theorem dX0_changeByCalls_31 : decode cX0_changeByCalls 31 = .ok (.aload_n 0, 1) := by decide +kernel
theorem dX0_changeByCalls_32 : decode cX0_changeByCalls 32 = .ok (.invokevirtual 181, 3) := by decide +kernel
theorem dX0_changeByCalls_35 : decode cX0_changeByCalls 35 = .ok (.ifCond .ne 10, 3) := by decide +kernel
theorem dX0_changeByCalls_38 : decode cX0_changeByCalls 38 = .ok (.aload_n 0, 1) := by decide +kernel
theorem dX0_changeByCalls_39 : decode cX0_changeByCalls 39 = .ok (.invokevirtual 184, 3) := by decide +kernel
theorem dX0_changeByCalls_42 : decode cX0_changeByCalls 42 = .ok (.ifCond .eq 20, 3) := by decide +kernel
theorem dX0_changeByCalls_45 : decode cX0_changeByCalls 45 = .ok (.aload_n 0, 1) := by decide +kernel
theorem dX0_changeByCalls_46 : decode cX0_changeByCalls 46 = .ok (.iload_n 1, 1) := by decide +kernel
theorem dX0_changeByCalls_47 : decode cX0_changeByCalls 47 = .ok (.invokevirtual 187, 3) := by decide +kernel
theorem dX0_changeByCalls_50 : decode cX0_changeByCalls 50 = .ok (.istore_n 2, 1) := by decide +kernel
theorem dX0_changeByCalls_51 : decode cX0_changeByCalls 51 = .ok (.aload_n 0, 1) := by decide +kernel
theorem dX0_changeByCalls_52 : decode cX0_changeByCalls 52 = .ok (.bipush (-5), 2) := by decide +kernel
theorem dX0_changeByCalls_54 : decode cX0_changeByCalls 54 = .ok (.putfield 45, 3) := by decide +kernel
theorem dX0_changeByCalls_57 : decode cX0_changeByCalls 57 = .ok (.aload_n 0, 1) := by decide +kernel
theorem dX0_changeByCalls_58 : decode cX0_changeByCalls 58 = .ok (.iload_n 2, 1) := by decide +kernel
theorem dX0_changeByCalls_59 : decode cX0_changeByCalls 59 = .ok (.invokevirtual 160, 3) := by decide +kernel
theorem dX0_changeByCalls_62 : decode cX0_changeByCalls 62 = .ok (.return_, 1) := by decide +kernel
theorem dX0_nextOf_0 : decode cX0_nextOf 0 = .ok (.aload_n 0, 1) := by decide +kernel
theorem dX0_nextOf_1 : decode cX0_nextOf 1 = .ok (.getfield 45, 3) := by decide +kernel
theorem dX0_nextOf_4 : decode cX0_nextOf 4 = .ok (.bipush (-5), 2) := by decide +kernel
theorem dX0_nextOf_6 : decode cX0_nextOf 6 = .ok (.if_icmp .eq 19, 3) := by decide +kernel
theorem dX0_nextOf_9 : decode cX0_nextOf 9 = .ok (.iload_n 1, 1) := by decide +kernel
theorem dX0_nextOf_10 : decode cX0_nextOf 10 = .ok (.aload_n 0, 1) := by decide +kernel
theorem dX0_nextOf_11 : decode cX0_nextOf 11 = .ok (.getfield 45, 3) := by decide +kernel
theorem dX0_nextOf_14 : decode cX0_nextOf 14 = .ok (.invokestatic 152, 3) := by decide +kernel
theorem dX0_nextOf_17 : decode cX0_nextOf 17 = .ok (.ifCond .eq 8, 3) := by decide +kernel
theorem dX0_nextOf_20 : decode cX0_nextOf 20 = .ok (.aload_n 0, 1) := by decide +kernel
theorem dX0_nextOf_21 : decode cX0_nextOf 21 = .ok (.getfield 45, 3) := by decide +kernel
theorem dX0_nextOf_24 : decode cX0_nextOf 24 = .ok (.ireturn, 1) := by decide +kernel
theorem dX0_nextOf_25 : decode cX0_nextOf 25 = .ok (.aload_n 0, 1) := by decide +kernel
theorem dX0_nextOf_26 : decode cX0_nextOf 26 = .ok (.getfield 41, 3) := by decide +kernel
theorem dX0_nextOf_29 : decode cX0_nextOf 29 = .ok (.iconst 1, 1) := by decide +kernel
theorem dX0_nextOf_30 : decode cX0_nextOf 30 = .ok (.iadd, 1) := by decide +kernel
theorem dX0_nextOf_31 : decode cX0_nextOf 31 = .ok (.istore_n 2, 1) := by decide +kernel
theorem dX0_nextOf_32 : decode cX0_nextOf 32 = .ok (.iload_n 2, 1) := by decide +kernel
theorem dX0_nextOf_33 : decode cX0_nextOf 33 = .ok (.aload_n 0, 1) := by decide +kernel
theorem dX0_nextOf_34 : decode cX0_nextOf 34 = .ok (.getfield 28, 3) := by decide +kernel
theorem dX0_nextOf_37 : decode cX0_nextOf 37 = .ok (.getfield 190, 3) := by decide +kernel
theorem dX0_nextOf_40 : decode cX0_nextOf 40 = .ok (.if_icmp .ge 19, 3) := by decide +kernel
theorem dX0_nextOf_43 : decode cX0_nextOf 43 = .ok (.iload_n 1, 1) := by decide +kernel
theorem dX0_nextOf_44 : decode cX0_nextOf 44 = .ok (.iload_n 2, 1) := by decide +kernel
theorem dX0_nextOf_45 : decode cX0_nextOf 45 = .ok (.invokestatic 152, 3) := by decide +kernel
theorem dX0_nextOf_48 : decode cX0_nextOf 48 = .ok (.ifCond .eq 5, 3) := by decide +kernel
theorem dX0_nextOf_51 : decode cX0_nextOf 51 = .ok (.iload_n 2, 1) := by decide +kernel
theorem dX0_nextOf_52 : decode cX0_nextOf 52 = .ok (.ireturn, 1) := by decide +kernel
theorem dX0_nextOf_53 : decode cX0_nextOf 53 = .ok (.iinc 2 1, 3) := by decide +kernel
theorem dX0_nextOf_56 : decode cX0_nextOf 56 = .ok (.goto (-24), 3) := by decide +kernel
theorem dX0_nextOf_59 : decode cX0_nextOf 59 = .ok (.iconst 0, 1) := by decide +kernel
theorem dX0_nextOf_60 : decode cX0_nextOf 60 = .ok (.istore_n 2, 1) := by decide +kernel
theorem dX0_nextOf_61 : decode cX0_nextOf 61 = .ok (.iload_n 2, 1) := by decide +kernel
theorem dX0_nextOf_62 : decode cX0_nextOf 62 = .ok (.aload_n 0, 1) := by decide +kernel
theorem dX0_nextOf_63 : decode cX0_nextOf 63 = .ok (.getfield 41, 3) := by decide +kernel
theorem dX0_nextOf_66 : decode cX0_nextOf 66 = .ok (.if_icmp .ge 19, 3) := by decide +kernel
theorem dX0_nextOf_69 : decode cX0_nextOf 69 = .ok (.iload_n 1, 1) := by decide +kernel
theorem dX0_nextOf_70 : decode cX0_nextOf 70 = .ok (.iload_n 2, 1) := by decide +kernel
theorem dX0_nextOf_71 : decode cX0_nextOf 71 = .ok (.invokestatic 152, 3) := by decide +kernel
theorem dX0_nextOf_74 : decode cX0_nextOf 74 = .ok (.ifCond .eq 5, 3) := by decide +kernel
theorem dX0_nextOf_77 : decode cX0_nextOf 77 = .ok (.iload_n 2, 1) := by decide +kernel
theorem dX0_nextOf_78 : decode cX0_nextOf 78 = .ok (.ireturn, 1) := by decide +kernel
theorem dX0_nextOf_79 : decode cX0_nextOf 79 = .ok (.iinc 2 1, 3) := by decide +kernel
theorem dX0_nextOf_82 : decode cX0_nextOf 82 = .ok (.goto (-21), 3) := by decide +kernel
theorem dX0_nextOf_85 : decode cX0_nextOf 85 = .ok (.aload_n 0, 1) := by decide +kernel
theorem dX0_nextOf_86 : decode cX0_nextOf 86 = .ok (.getfield 41, 3) := by decide +kernel
theorem dX0_nextOf_89 : decode cX0_nextOf 89 = .ok (.ireturn, 1) := by decide +kernel
theorem dX0_isHeld_0 : decode cX0_isHeld 0 = .ok (.aload_n 0, 1) := by decide +kernel
theorem dX0_isHeld_1 : decode cX0_isHeld 1 = .ok (.getfield 83, 3) := by decide +kernel
theorem dX0_isHeld_4 : decode cX0_isHeld 4 = .ok (.ifCond .le 25, 3) := by decide +kernel
theorem dX0_isHeld_7 : decode cX0_isHeld 7 = .ok (.aload_n 0, 1) := by decide +kernel
theorem dX0_isHeld_8 : decode cX0_isHeld 8 = .ok (.getfield 41, 3) := by decide +kernel
theorem dX0_isHeld_11 : decode cX0_isHeld 11 = .ok (.ifCond .ne 18, 3) := by decide +kernel
theorem dX0_isHeld_14 : decode cX0_isHeld 14 = .ok (.aload_n 0, 1) := by decide +kernel
theorem dX0_isHeld_15 : decode cX0_isHeld 15 = .ok (.invokevirtual 191, 3) := by decide +kernel
theorem dX0_isHeld_18 : decode cX0_isHeld 18 = .ok (.aload_n 0, 1) := by decide +kernel
theorem dX0_isHeld_19 : decode cX0_isHeld 19 = .ok (.getfield 89, 3) := by decide +kernel
theorem dX0_isHeld_22 : decode cX0_isHeld 22 = .ok (.if_icmp .ge 7, 3) := by decide +kernel
theorem dX0_isHeld_25 : decode cX0_isHeld 25 = .ok (.iconst 1, 1) := by decide +kernel
theorem dX0_isHeld_26 : decode cX0_isHeld 26 = .ok (.goto 4, 3) := by decide +kernel
theorem dX0_isHeld_29 : decode cX0_isHeld 29 = .ok (.iconst 0, 1) := by decide +kernel
theorem dX0_isHeld_30 : decode cX0_isHeld 30 = .ok (.ireturn, 1) := by decide +kernel
theorem dX0_isForced_0 : decode cX0_isForced 0 = .ok (.aload_n 0, 1) := by decide +kernel
theorem dX0_isForced_1 : decode cX0_isForced 1 = .ok (.getfield 83, 3) := by decide +kernel
theorem dX0_isForced_4 : decode cX0_isForced 4 = .ok (.ifCond .le 33, 3) := by decide +kernel
theorem dX0_isForced_7 : decode cX0_isForced 7 = .ok (.aload_n 0, 1) := by decide +kernel
theorem dX0_isForced_8 : decode cX0_isForced 8 = .ok (.getfield 41, 3) := by decide +kernel
theorem dX0_isForced_11 : decode cX0_isForced 11 = .ok (.ifCond .eq 26, 3) := by decide +kernel
theorem dX0_isForced_14 : decode cX0_isForced 14 = .ok (.aload_n 0, 1) := by decide +kernel
theorem dX0_isForced_15 : decode cX0_isForced 15 = .ok (.invokevirtual 191, 3) := by decide +kernel
theorem dX0_isForced_18 : decode cX0_isForced 18 = .ok (.aload_n 0, 1) := by decide +kernel
theorem dX0_isForced_19 : decode cX0_isForced 19 = .ok (.getfield 28, 3) := by decide +kernel
theorem dX0_isForced_22 : decode cX0_isForced 22 = .ok (.getfield 194, 3) := by decide +kernel
theorem dX0_isForced_25 : decode cX0_isForced 25 = .ok (.aload_n 0, 1) := by decide +kernel
theorem dX0_isForced_26 : decode cX0_isForced 26 = .ok (.getfield 41, 3) := by decide +kernel
theorem dX0_isForced_29 : decode cX0_isForced 29 = .ok (.iaload, 1) := by decide +kernel
theorem dX0_isForced_30 : decode cX0_isForced 30 = .ok (.if_icmp .lt 7, 3) := by decide +kernel
theorem dX0_isForced_33 : decode cX0_isForced 33 = .ok (.iconst 1, 1) := by decide +kernel
theorem dX0_isForced_34 : decode cX0_isForced 34 = .ok (.goto 4, 3) := by decide +kernel
theorem dX0_isForced_37 : decode cX0_isForced 37 = .ok (.iconst 0, 1) := by decide +kernel
theorem dX0_isForced_38 : decode cX0_isForced 38 = .ok (.ireturn, 1) := by decide +kernel
theorem dX0_areAllGreenForLeast_0 : decode cX0_areAllGreenForLeast 0 = .ok (.iconst 0, 1) := by decide +kernel
theorem dX0_areAllGreenForLeast_1 : decode cX0_areAllGreenForLeast 1 = .ok (.istore_n 1, 1) := by decide +kernel
theorem dX0_areAllGreenForLeast_2 : decode cX0_areAllGreenForLeast 2 = .ok (.iload_n 1, 1) := by decide +kernel
theorem dX0_areAllGreenForLeast_3 : decode cX0_areAllGreenForLeast 3 = .ok (.aload_n 0, 1) := by decide +kernel
theorem dX0_areAllGreenForLeast_4 : decode cX0_areAllGreenForLeast 4 = .ok (.getfield 12, 3) := by decide +kernel
theorem dX0_areAllGreenForLeast_7 : decode cX0_areAllGreenForLeast 7 = .ok (.getfield 132, 3) := by decide +kernel
theorem dX0_areAllGreenForLeast_10 : decode cX0_areAllGreenForLeast 10 = .ok (.if_icmp .ge 36, 3) := by decide +kernel
theorem dX0_areAllGreenForLeast_13 : decode cX0_areAllGreenForLeast 13 = .ok (.aload_n 0, 1) := by decide +kernel
theorem dX0_areAllGreenForLeast_14 : decode cX0_areAllGreenForLeast 14 = .ok (.iload_n 1, 1) := by decide +kernel
theorem dX0_areAllGreenForLeast_15 : decode cX0_areAllGreenForLeast 15 = .ok (.invokevirtual 197, 3) := by decide +kernel
theorem dX0_areAllGreenForLeast_18 : decode cX0_areAllGreenForLeast 18 = .ok (.ifCond .eq 22, 3) := by decide +kernel
theorem dX0_areAllGreenForLeast_21 : decode cX0_areAllGreenForLeast 21 = .ok (.aload_n 0, 1) := by decide +kernel
theorem dX0_areAllGreenForLeast_22 : decode cX0_areAllGreenForLeast 22 = .ok (.iload_n 1, 1) := by decide +kernel
theorem dX0_areAllGreenForLeast_23 : decode cX0_areAllGreenForLeast 23 = .ok (.aload_n 0, 1) := by decide +kernel
theorem dX0_areAllGreenForLeast_24 : decode cX0_areAllGreenForLeast 24 = .ok (.getfield 21, 3) := by decide +kernel
theorem dX0_areAllGreenForLeast_27 : decode cX0_areAllGreenForLeast 27 = .ok (.iload_n 1, 1) := by decide +kernel
theorem dX0_areAllGreenForLeast_28 : decode cX0_areAllGreenForLeast 28 = .ok (.iconst 0, 1) := by decide +kernel
theorem dX0_areAllGreenForLeast_29 : decode cX0_areAllGreenForLeast 29 = .ok (.invokevirtual 135, 3) := by decide +kernel
theorem dX0_areAllGreenForLeast_32 : decode cX0_areAllGreenForLeast 32 = .ok (.invokevirtual 200, 3) := by decide +kernel
theorem dX0_areAllGreenForLeast_35 : decode cX0_areAllGreenForLeast 35 = .ok (.ifCond .ne 5, 3) := by decide +kernel
theorem dX0_areAllGreenForLeast_38 : decode cX0_areAllGreenForLeast 38 = .ok (.iconst 0, 1) := by decide +kernel
theorem dX0_areAllGreenForLeast_39 : decode cX0_areAllGreenForLeast 39 = .ok (.ireturn, 1) := by decide +kernel
theorem dX0_areAllGreenForLeast_40 : decode cX0_areAllGreenForLeast 40 = .ok (.iinc 1 1, 3) := by decide +kernel
theorem dX0_areAllGreenForLeast_43 : decode cX0_areAllGreenForLeast 43 = .ok (.goto (-41), 3) := by decide +kernel
theorem dX0_areAllGreenForLeast_46 : decode cX0_areAllGreenForLeast 46 = .ok (.iconst 1, 1) := by decide +kernel
theorem dX0_areAllGreenForLeast_47 : decode cX0_areAllGreenForLeast 47 = .ok (.ireturn, 1) := by decide +kernel
theorem dX0_isOneGreenForMost_0 : decode cX0_isOneGreenForMost 0 = .ok (.iconst 0, 1) := by decide +kernel
theorem dX0_isOneGreenForMost_1 : decode cX0_isOneGreenForMost 1 = .ok (.istore_n 1, 1) := by decide +kernel
theorem dX0_isOneGreenForMost_2 : decode cX0_isOneGreenForMost 2 = .ok (.iload_n 1, 1) := by decide +kernel
theorem dX0_isOneGreenForMost_3 : decode cX0_isOneGreenForMost 3 = .ok (.aload_n 0, 1) := by decide +kernel
theorem dX0_isOneGreenForMost_4 : decode cX0_isOneGreenForMost 4 = .ok (.getfield 12, 3) := by decide +kernel
theorem dX0_isOneGreenForMost_7 : decode cX0_isOneGreenForMost 7 = .ok (.getfield 132, 3) := by decide +kernel
theorem dX0_isOneGreenForMost_10 : decode cX0_isOneGreenForMost 10 = .ok (.if_icmp .ge 36, 3) := by decide +kernel
theorem dX0_isOneGreenForMost_13 : decode cX0_isOneGreenForMost 13 = .ok (.aload_n 0, 1) := by decide +kernel
theorem dX0_isOneGreenForMost_14 : decode cX0_isOneGreenForMost 14 = .ok (.iload_n 1, 1) := by decide +kernel
theorem dX0_isOneGreenForMost_15 : decode cX0_isOneGreenForMost 15 = .ok (.invokevirtual 197, 3) := by decide +kernel
theorem dX0_isOneGreenForMost_18 : decode cX0_isOneGreenForMost 18 = .ok (.ifCond .eq 22, 3) := by decide +kernel
theorem dX0_isOneGreenForMost_21 : decode cX0_isOneGreenForMost 21 = .ok (.aload_n 0, 1) := by decide +kernel
theorem dX0_isOneGreenForMost_22 : decode cX0_isOneGreenForMost 22 = .ok (.iload_n 1, 1) := by decide +kernel
theorem dX0_isOneGreenForMost_23 : decode cX0_isOneGreenForMost 23 = .ok (.aload_n 0, 1) := by decide +kernel
theorem dX0_isOneGreenForMost_24 : decode cX0_isOneGreenForMost 24 = .ok (.getfield 21, 3) := by decide +kernel
theorem dX0_isOneGreenForMost_27 : decode cX0_isOneGreenForMost 27 = .ok (.iload_n 1, 1) := by decide +kernel
theorem dX0_isOneGreenForMost_28 : decode cX0_isOneGreenForMost 28 = .ok (.iconst 1, 1) := by decide +kernel
theorem dX0_isOneGreenForMost_29 : decode cX0_isOneGreenForMost 29 = .ok (.invokevirtual 135, 3) := by decide +kernel
theorem dX0_isOneGreenForMost_32 : decode cX0_isOneGreenForMost 32 = .ok (.invokevirtual 200, 3) := by decide +kernel
theorem dX0_isOneGreenForMost_35 : decode cX0_isOneGreenForMost 35 = .ok (.ifCond .eq 5, 3) := by decide +kernel
theorem dX0_isOneGreenForMost_38 : decode cX0_isOneGreenForMost 38 = .ok (.iconst 1, 1) := by decide +kernel
theorem dX0_isOneGreenForMost_39 : decode cX0_isOneGreenForMost 39 = .ok (.ireturn, 1) := by decide +kernel
theorem dX0_isOneGreenForMost_40 : decode cX0_isOneGreenForMost 40 = .ok (.iinc 1 1, 3) := by decide +kernel
theorem dX0_isOneGreenForMost_43 : decode cX0_isOneGreenForMost 43 = .ok (.goto (-41), 3) := by decide +kernel
theorem dX0_isOneGreenForMost_46 : decode cX0_isOneGreenForMost 46 = .ok (.iconst 0, 1) := by decide +kernel
theorem dX0_isOneGreenForMost_47 : decode cX0_isOneGreenForMost 47 = .ok (.ireturn, 1) := by decide +kernel
theorem dX0_areAllGapsOver_0 : decode cX0_areAllGapsOver 0 = .ok (.iconst 0, 1) := by decide +kernel
theorem dX0_areAllGapsOver_1 : decode cX0_areAllGapsOver 1 = .ok (.istore_n 1, 1) := by decide +kernel
theorem dX0_areAllGapsOver_2 : decode cX0_areAllGapsOver 2 = .ok (.iload_n 1, 1) := by decide +kernel
theorem dX0_areAllGapsOver_3 : decode cX0_areAllGapsOver 3 = .ok (.aload_n 0, 1) := by decide +kernel
theorem dX0_areAllGapsOver_4 : decode cX0_areAllGapsOver 4 = .ok (.getfield 12, 3) := by decide +kernel
theorem dX0_areAllGapsOver_7 : decode cX0_areAllGapsOver 7 = .ok (.getfield 132, 3) := by decide +kernel
theorem dX0_areAllGapsOver_10 : decode cX0_areAllGapsOver 10 = .ok (.if_icmp .ge 53, 3) := by decide +kernel
theorem dX0_areAllGapsOver_13 : decode cX0_areAllGapsOver 13 = .ok (.aload_n 0, 1) := by decide +kernel
theorem dX0_areAllGapsOver_14 : decode cX0_areAllGapsOver 14 = .ok (.getfield 21, 3) := by decide +kernel
theorem dX0_areAllGapsOver_17 : decode cX0_areAllGapsOver 17 = .ok (.getfield 145, 3) := by decide +kernel
theorem dX0_areAllGapsOver_20 : decode cX0_areAllGapsOver 20 = .ok (.iload_n 1, 1) := by decide +kernel
theorem dX0_areAllGapsOver_21 : decode cX0_areAllGapsOver 21 = .ok (.iaload, 1) := by decide +kernel
theorem dX0_areAllGapsOver_22 : decode cX0_areAllGapsOver 22 = .ok (.istore_n 2, 1) := by decide +kernel
theorem dX0_areAllGapsOver_23 : decode cX0_areAllGapsOver 23 = .ok (.aload_n 0, 1) := by decide +kernel
theorem dX0_areAllGapsOver_24 : decode cX0_areAllGapsOver 24 = .ok (.iload_n 1, 1) := by decide +kernel
theorem dX0_areAllGapsOver_25 : decode cX0_areAllGapsOver 25 = .ok (.invokevirtual 197, 3) := by decide +kernel
theorem dX0_areAllGapsOver_28 : decode cX0_areAllGapsOver 28 = .ok (.ifCond .eq 29, 3) := by decide +kernel
theorem dX0_areAllGapsOver_31 : decode cX0_areAllGapsOver 31 = .ok (.iload_n 2, 1) := by decide +kernel
theorem dX0_areAllGapsOver_32 : decode cX0_areAllGapsOver 32 = .ok (.bipush (-5), 2) := by decide +kernel
theorem dX0_areAllGapsOver_34 : decode cX0_areAllGapsOver 34 = .ok (.if_icmp .eq 23, 3) := by decide +kernel
theorem dX0_areAllGapsOver_37 : decode cX0_areAllGapsOver 37 = .ok (.aload_n 0, 1) := by decide +kernel
theorem dX0_areAllGapsOver_38 : decode cX0_areAllGapsOver 38 = .ok (.getfield 71, 3) := by decide +kernel
theorem dX0_areAllGapsOver_41 : decode cX0_areAllGapsOver 41 = .ok (.iload_n 2, 1) := by decide +kernel
theorem dX0_areAllGapsOver_42 : decode cX0_areAllGapsOver 42 = .ok (.isub, 1) := by decide +kernel
theorem dX0_areAllGapsOver_43 : decode cX0_areAllGapsOver 43 = .ok (.aload_n 0, 1) := by decide +kernel
theorem dX0_areAllGapsOver_44 : decode cX0_areAllGapsOver 44 = .ok (.getfield 21, 3) := by decide +kernel
theorem dX0_areAllGapsOver_47 : decode cX0_areAllGapsOver 47 = .ok (.iload_n 1, 1) := by decide +kernel
theorem dX0_areAllGapsOver_48 : decode cX0_areAllGapsOver 48 = .ok (.iconst 2, 1) := by decide +kernel
theorem dX0_areAllGapsOver_49 : decode cX0_areAllGapsOver 49 = .ok (.invokevirtual 135, 3) := by decide +kernel
theorem dX0_areAllGapsOver_52 : decode cX0_areAllGapsOver 52 = .ok (.if_icmp .ge 5, 3) := by decide +kernel
theorem dX0_areAllGapsOver_55 : decode cX0_areAllGapsOver 55 = .ok (.iconst 0, 1) := by decide +kernel
theorem dX0_areAllGapsOver_56 : decode cX0_areAllGapsOver 56 = .ok (.ireturn, 1) := by decide +kernel
theorem dX0_areAllGapsOver_57 : decode cX0_areAllGapsOver 57 = .ok (.iinc 1 1, 3) := by decide +kernel
theorem dX0_areAllGapsOver_60 : decode cX0_areAllGapsOver 60 = .ok (.goto (-58), 3) := by decide +kernel
theorem dX0_areAllGapsOver_63 : decode cX0_areAllGapsOver 63 = .ok (.iconst 1, 1) := by decide +kernel
theorem dX0_areAllGapsOver_64 : decode cX0_areAllGapsOver 64 = .ok (.ireturn, 1) := by decide +kernel
theorem dX0_isInPhase_0 : decode cX0_isInPhase 0 = .ok (.aload_n 0, 1) := by decide +kernel
theorem dX0_isInPhase_1 : decode cX0_isInPhase 1 = .ok (.getfield 28, 3) := by decide +kernel
theorem dX0_isInPhase_4 : decode cX0_isInPhase 4 = .ok (.getfield 149, 3) := by decide +kernel
theorem dX0_isInPhase_7 : decode cX0_isInPhase 7 = .ok (.aload_n 0, 1) := by decide +kernel
theorem dX0_isInPhase_8 : decode cX0_isInPhase 8 = .ok (.getfield 41, 3) := by decide +kernel
theorem dX0_isInPhase_11 : decode cX0_isInPhase 11 = .ok (.iaload, 1) := by decide +kernel
theorem dX0_isInPhase_12 : decode cX0_isInPhase 12 = .ok (.iload_n 1, 1) := by decide +kernel
theorem dX0_isInPhase_13 : decode cX0_isInPhase 13 = .ok (.invokestatic 152, 3) := by decide +kernel
theorem dX0_isInPhase_16 : decode cX0_isInPhase 16 = .ok (.ireturn, 1) := by decide +kernel
theorem dX0_isGreenFor_0 : decode cX0_isGreenFor 0 = .ok (.aload_n 0, 1) := by decide +kernel
theorem dX0_isGreenFor_1 : decode cX0_isGreenFor 1 = .ok (.getfield 21, 3) := by decide +kernel
theorem dX0_isGreenFor_4 : decode cX0_isGreenFor 4 = .ok (.iload_n 1, 1) := by decide +kernel
theorem dX0_isGreenFor_5 : decode cX0_isGreenFor 5 = .ok (.invokevirtual 163, 3) := by decide +kernel
theorem dX0_isGreenFor_8 : decode cX0_isGreenFor 8 = .ok (.ifCond .eq 25, 3) := by decide +kernel
theorem dX0_isGreenFor_11 : decode cX0_isGreenFor 11 = .ok (.aload_n 0, 1) := by decide +kernel
theorem dX0_isGreenFor_12 : decode cX0_isGreenFor 12 = .ok (.getfield 71, 3) := by decide +kernel
theorem dX0_isGreenFor_15 : decode cX0_isGreenFor 15 = .ok (.aload_n 0, 1) := by decide +kernel
theorem dX0_isGreenFor_16 : decode cX0_isGreenFor 16 = .ok (.getfield 21, 3) := by decide +kernel
theorem dX0_isGreenFor_19 : decode cX0_isGreenFor 19 = .ok (.getfield 166, 3) := by decide +kernel
theorem dX0_isGreenFor_22 : decode cX0_isGreenFor 22 = .ok (.iload_n 1, 1) := by decide +kernel
theorem dX0_isGreenFor_23 : decode cX0_isGreenFor 23 = .ok (.iaload, 1) := by decide +kernel
theorem dX0_isGreenFor_24 : decode cX0_isGreenFor 24 = .ok (.isub, 1) := by decide +kernel
theorem dX0_isGreenFor_25 : decode cX0_isGreenFor 25 = .ok (.iload_n 2, 1) := by decide +kernel
theorem dX0_isGreenFor_26 : decode cX0_isGreenFor 26 = .ok (.if_icmp .lt 7, 3) := by decide +kernel
theorem dX0_isGreenFor_29 : decode cX0_isGreenFor 29 = .ok (.iconst 1, 1) := by decide +kernel
theorem dX0_isGreenFor_30 : decode cX0_isGreenFor 30 = .ok (.goto 4, 3) := by decide +kernel
theorem dX0_isGreenFor_33 : decode cX0_isGreenFor 33 = .ok (.iconst 0, 1) := by decide +kernel
theorem dX0_isGreenFor_34 : decode cX0_isGreenFor 34 = .ok (.ireturn, 1) := by decide +kernel
theorem dX0_changeTo_0 : decode cX0_changeTo 0 = .ok (.iconst 0, 1) := by decide +kernel
theorem dX0_changeTo_1 : decode cX0_changeTo 1 = .ok (.istore_n 2, 1) := by decide +kernel
theorem dX0_changeTo_2 : decode cX0_changeTo 2 = .ok (.iload_n 2, 1) := by decide +kernel
theorem dX0_changeTo_3 : decode cX0_changeTo 3 = .ok (.aload_n 0, 1) := by decide +kernel
theorem dX0_changeTo_4 : decode cX0_changeTo 4 = .ok (.getfield 12, 3) := by decide +kernel
theorem dX0_changeTo_7 : decode cX0_changeTo 7 = .ok (.getfield 132, 3) := by decide +kernel
theorem dX0_changeTo_10 : decode cX0_changeTo 10 = .ok (.if_icmp .ge 69, 3) := by decide +kernel
theorem dX0_changeTo_13 : decode cX0_changeTo 13 = .ok (.aload_n 0, 1) := by decide +kernel
theorem dX0_changeTo_14 : decode cX0_changeTo 14 = .ok (.getfield 21, 3) := by decide +kernel
theorem dX0_changeTo_17 : decode cX0_changeTo 17 = .ok (.iload_n 2, 1) := by decide +kernel
theorem dX0_changeTo_18 : decode cX0_changeTo 18 = .ok (.invokevirtual 163, 3) := by decide +kernel
theorem dX0_changeTo_21 : decode cX0_changeTo 21 = .ok (.ifCond .eq 52, 3) := by decide +kernel
theorem dX0_changeTo_24 : decode cX0_changeTo 24 = .ok (.aload_n 0, 1) := by decide +kernel
theorem dX0_changeTo_25 : decode cX0_changeTo 25 = .ok (.getfield 28, 3) := by decide +kernel
theorem dX0_changeTo_28 : decode cX0_changeTo 28 = .ok (.getfield 149, 3) := by decide +kernel
theorem dX0_changeTo_31 : decode cX0_changeTo 31 = .ok (.iload_n 1, 1) := by decide +kernel
theorem dX0_changeTo_32 : decode cX0_changeTo 32 = .ok (.iaload, 1) := by decide +kernel
theorem dX0_changeTo_33 : decode cX0_changeTo 33 = .ok (.iload_n 2, 1) := by decide +kernel
theorem dX0_changeTo_34 : decode cX0_changeTo 34 = .ok (.invokestatic 152, 3) := by decide +kernel
theorem dX0_changeTo_37 : decode cX0_changeTo 37 = .ok (.ifCond .ne 36, 3) := by decide +kernel
theorem dX0_changeTo_40 : decode cX0_changeTo 40 = .ok (.aload_n 0, 1) := by decide +kernel
theorem dX0_changeTo_41 : decode cX0_changeTo 41 = .ok (.getfield 21, 3) := by decide +kernel
theorem dX0_changeTo_44 : decode cX0_changeTo 44 = .ok (.iload_n 2, 1) := by decide +kernel
theorem dX0_changeTo_45 : decode cX0_changeTo 45 = .ok (.aload_n 0, 1) := by decide +kernel
theorem dX0_changeTo_46 : decode cX0_changeTo 46 = .ok (.getfield 71, 3) := by decide +kernel
theorem dX0_changeTo_49 : decode cX0_changeTo 49 = .ok (.invokevirtual 203, 3) := by decide +kernel
theorem dX0_changeTo_52 : decode cX0_changeTo 52 = .ok (.aload_n 0, 1) := by decide +kernel
theorem dX0_changeTo_53 : decode cX0_changeTo 53 = .ok (.getfield 37, 3) := by decide +kernel
theorem dX0_changeTo_56 : decode cX0_changeTo 56 = .ok (.iload_n 2, 1) := by decide +kernel
theorem dX0_changeTo_57 : decode cX0_changeTo 57 = .ok (.aload_n 0, 1) := by decide +kernel
theorem dX0_changeTo_58 : decode cX0_changeTo 58 = .ok (.getfield 21, 3) := by decide +kernel
theorem dX0_changeTo_61 : decode cX0_changeTo 61 = .ok (.getfield 166, 3) := by decide +kernel
theorem dX0_changeTo_64 : decode cX0_changeTo 64 = .ok (.iload_n 2, 1) := by decide +kernel
theorem dX0_changeTo_65 : decode cX0_changeTo 65 = .ok (.iaload, 1) := by decide +kernel
theorem dX0_changeTo_66 : decode cX0_changeTo 66 = .ok (.aload_n 0, 1) := by decide +kernel
theorem dX0_changeTo_67 : decode cX0_changeTo 67 = .ok (.getfield 71, 3) := by decide +kernel
theorem dX0_changeTo_70 : decode cX0_changeTo 70 = .ok (.invokevirtual 207, 3) := by decide +kernel
theorem dX0_changeTo_73 : decode cX0_changeTo 73 = .ok (.iinc 2 1, 3) := by decide +kernel
theorem dX0_changeTo_76 : decode cX0_changeTo 76 = .ok (.goto (-74), 3) := by decide +kernel
theorem dX0_changeTo_79 : decode cX0_changeTo 79 = .ok (.aload_n 0, 1) := by decide +kernel
theorem dX0_changeTo_80 : decode cX0_changeTo 80 = .ok (.iload_n 1, 1) := by decide +kernel
theorem dX0_changeTo_81 : decode cX0_changeTo 81 = .ok (.invokevirtual 92, 3) := by decide +kernel
theorem dX0_changeTo_84 : decode cX0_changeTo 84 = .ok (.return_, 1) := by decide +kernel
theorem dX0_turnGreen_0 : decode cX0_turnGreen 0 = .ok (.iconst 0, 1) := by decide +kernel
theorem dX0_turnGreen_1 : decode cX0_turnGreen 1 = .ok (.istore_n 1, 1) := by decide +kernel
theorem dX0_turnGreen_2 : decode cX0_turnGreen 2 = .ok (.iload_n 1, 1) := by decide +kernel
theorem dX0_turnGreen_3 : decode cX0_turnGreen 3 = .ok (.aload_n 0, 1) := by decide +kernel
theorem dX0_turnGreen_4 : decode cX0_turnGreen 4 = .ok (.getfield 12, 3) := by decide +kernel
theorem dX0_turnGreen_7 : decode cX0_turnGreen 7 = .ok (.getfield 132, 3) := by decide +kernel
theorem dX0_turnGreen_10 : decode cX0_turnGreen 10 = .ok (.if_icmp .ge 48, 3) := by decide +kernel
theorem dX0_turnGreen_13 : decode cX0_turnGreen 13 = .ok (.aload_n 0, 1) := by decide +kernel
theorem dX0_turnGreen_14 : decode cX0_turnGreen 14 = .ok (.iload_n 1, 1) := by decide +kernel
theorem dX0_turnGreen_15 : decode cX0_turnGreen 15 = .ok (.invokevirtual 197, 3) := by decide +kernel
theorem dX0_turnGreen_18 : decode cX0_turnGreen 18 = .ok (.ifCond .eq 34, 3) := by decide +kernel
theorem dX0_turnGreen_21 : decode cX0_turnGreen 21 = .ok (.aload_n 0, 1) := by decide +kernel
theorem dX0_turnGreen_22 : decode cX0_turnGreen 22 = .ok (.getfield 21, 3) := by decide +kernel
theorem dX0_turnGreen_25 : decode cX0_turnGreen 25 = .ok (.iload_n 1, 1) := by decide +kernel
theorem dX0_turnGreen_26 : decode cX0_turnGreen 26 = .ok (.invokevirtual 163, 3) := by decide +kernel
theorem dX0_turnGreen_29 : decode cX0_turnGreen 29 = .ok (.ifCond .ne 23, 3) := by decide +kernel
theorem dX0_turnGreen_32 : decode cX0_turnGreen 32 = .ok (.aload_n 0, 1) := by decide +kernel
theorem dX0_turnGreen_33 : decode cX0_turnGreen 33 = .ok (.iload_n 1, 1) := by decide +kernel
theorem dX0_turnGreen_34 : decode cX0_turnGreen 34 = .ok (.invokevirtual 211, 3) := by decide +kernel
theorem dX0_turnGreen_37 : decode cX0_turnGreen 37 = .ok (.ifCond .eq 15, 3) := by decide +kernel
theorem dX0_turnGreen_40 : decode cX0_turnGreen 40 = .ok (.aload_n 0, 1) := by decide +kernel
theorem dX0_turnGreen_41 : decode cX0_turnGreen 41 = .ok (.getfield 21, 3) := by decide +kernel
theorem dX0_turnGreen_44 : decode cX0_turnGreen 44 = .ok (.iload_n 1, 1) := by decide +kernel
theorem dX0_turnGreen_45 : decode cX0_turnGreen 45 = .ok (.aload_n 0, 1) := by decide +kernel
theorem dX0_turnGreen_46 : decode cX0_turnGreen 46 = .ok (.getfield 71, 3) := by decide +kernel
theorem dX0_turnGreen_49 : decode cX0_turnGreen 49 = .ok (.invokevirtual 214, 3) := by decide +kernel
theorem dX0_turnGreen_52 : decode cX0_turnGreen 52 = .ok (.iinc 1 1, 3) := by decide +kernel
theorem dX0_turnGreen_55 : decode cX0_turnGreen 55 = .ok (.goto (-53), 3) := by decide +kernel
theorem dX0_turnGreen_58 : decode cX0_turnGreen 58 = .ok (.return_, 1) := by decide +kernel
theorem dX0_isClearFor_0 : decode cX0_isClearFor 0 = .ok (.iconst 0, 1) := by decide +kernel
theorem dX0_isClearFor_1 : decode cX0_isClearFor 1 = .ok (.istore_n 2, 1) := by decide +kernel
theorem dX0_isClearFor_2 : decode cX0_isClearFor 2 = .ok (.iload_n 2, 1) := by decide +kernel
theorem dX0_isClearFor_3 : decode cX0_isClearFor 3 = .ok (.aload_n 0, 1) := by decide +kernel
theorem dX0_isClearFor_4 : decode cX0_isClearFor 4 = .ok (.getfield 12, 3) := by decide +kernel
theorem dX0_isClearFor_7 : decode cX0_isClearFor 7 = .ok (.getfield 132, 3) := by decide +kernel
theorem dX0_isClearFor_10 : decode cX0_isClearFor 10 = .ok (.if_icmp .ge 57, 3) := by decide +kernel
theorem dX0_isClearFor_13 : decode cX0_isClearFor 13 = .ok (.aload_n 0, 1) := by decide +kernel
theorem dX0_isClearFor_14 : decode cX0_isClearFor 14 = .ok (.getfield 21, 3) := by decide +kernel
theorem dX0_isClearFor_17 : decode cX0_isClearFor 17 = .ok (.getfield 217, 3) := by decide +kernel
theorem dX0_isClearFor_20 : decode cX0_isClearFor 20 = .ok (.iload_n 2, 1) := by decide +kernel
theorem dX0_isClearFor_21 : decode cX0_isClearFor 21 = .ok (.iaload, 1) := by decide +kernel
theorem dX0_isClearFor_22 : decode cX0_isClearFor 22 = .ok (.istore_n 3, 1) := by decide +kernel
theorem dX0_isClearFor_23 : decode cX0_isClearFor 23 = .ok (.iload_n 3, 1) := by decide +kernel
theorem dX0_isClearFor_24 : decode cX0_isClearFor 24 = .ok (.bipush (-5), 2) := by decide +kernel
theorem dX0_isClearFor_26 : decode cX0_isClearFor 26 = .ok (.if_icmp .eq 35, 3) := by decide +kernel
theorem dX0_isClearFor_29 : decode cX0_isClearFor 29 = .ok (.aload_n 0, 1) := by decide +kernel
theorem dX0_isClearFor_30 : decode cX0_isClearFor 30 = .ok (.getfield 12, 3) := by decide +kernel
theorem dX0_isClearFor_33 : decode cX0_isClearFor 33 = .ok (.iload_n 2, 1) := by decide +kernel
theorem dX0_isClearFor_34 : decode cX0_isClearFor 34 = .ok (.iload_n 1, 1) := by decide +kernel
theorem dX0_isClearFor_35 : decode cX0_isClearFor 35 = .ok (.invokevirtual 220, 3) := by decide +kernel
theorem dX0_isClearFor_38 : decode cX0_isClearFor 38 = .ok (.ifCond .eq 23, 3) := by decide +kernel
theorem dX0_isClearFor_41 : decode cX0_isClearFor 41 = .ok (.aload_n 0, 1) := by decide +kernel
theorem dX0_isClearFor_42 : decode cX0_isClearFor 42 = .ok (.getfield 71, 3) := by decide +kernel
theorem dX0_isClearFor_45 : decode cX0_isClearFor 45 = .ok (.iload_n 3, 1) := by decide +kernel
theorem dX0_isClearFor_46 : decode cX0_isClearFor 46 = .ok (.isub, 1) := by decide +kernel
theorem dX0_isClearFor_47 : decode cX0_isClearFor 47 = .ok (.aload_n 0, 1) := by decide +kernel
theorem dX0_isClearFor_48 : decode cX0_isClearFor 48 = .ok (.getfield 12, 3) := by decide +kernel
theorem dX0_isClearFor_51 : decode cX0_isClearFor 51 = .ok (.iload_n 2, 1) := by decide +kernel
theorem dX0_isClearFor_52 : decode cX0_isClearFor 52 = .ok (.iload_n 1, 1) := by decide +kernel
theorem dX0_isClearFor_53 : decode cX0_isClearFor 53 = .ok (.invokevirtual 223, 3) := by decide +kernel
theorem dX0_isClearFor_56 : decode cX0_isClearFor 56 = .ok (.if_icmp .ge 5, 3) := by decide +kernel
theorem dX0_isClearFor_59 : decode cX0_isClearFor 59 = .ok (.iconst 0, 1) := by decide +kernel
theorem dX0_isClearFor_60 : decode cX0_isClearFor 60 = .ok (.ireturn, 1) := by decide +kernel
theorem dX0_isClearFor_61 : decode cX0_isClearFor 61 = .ok (.iinc 2 1, 3) := by decide +kernel
theorem dX0_isClearFor_64 : decode cX0_isClearFor 64 = .ok (.goto (-62), 3) := by decide +kernel
theorem dX0_isClearFor_67 : decode cX0_isClearFor 67 = .ok (.iconst 1, 1) := by decide +kernel
theorem dX0_isClearFor_68 : decode cX0_isClearFor 68 = .ok (.ireturn, 1) := by decide +kernel
theorem dX0_letGo_0 : decode cX0_letGo 0 = .ok (.iconst 0, 1) := by decide +kernel
theorem dX0_letGo_1 : decode cX0_letGo 1 = .ok (.istore_n 1, 1) := by decide +kernel
theorem dX0_letGo_2 : decode cX0_letGo 2 = .ok (.iload_n 1, 1) := by decide +kernel
theorem dX0_letGo_3 : decode cX0_letGo 3 = .ok (.aload_n 0, 1) := by decide +kernel
theorem dX0_letGo_4 : decode cX0_letGo 4 = .ok (.getfield 12, 3) := by decide +kernel
theorem dX0_letGo_7 : decode cX0_letGo 7 = .ok (.getfield 132, 3) := by decide +kernel
theorem dX0_letGo_10 : decode cX0_letGo 10 = .ok (.if_icmp .ge 88, 3) := by decide +kernel
theorem dX0_letGo_13 : decode cX0_letGo 13 = .ok (.aload_n 0, 1) := by decide +kernel
theorem dX0_letGo_14 : decode cX0_letGo 14 = .ok (.getfield 21, 3) := by decide +kernel
theorem dX0_letGo_17 : decode cX0_letGo 17 = .ok (.iload_n 1, 1) := by decide +kernel
theorem dX0_letGo_18 : decode cX0_letGo 18 = .ok (.invokevirtual 163, 3) := by decide +kernel
theorem dX0_letGo_21 : decode cX0_letGo 21 = .ok (.ifCond .eq 71, 3) := by decide +kernel
theorem dX0_letGo_24 : decode cX0_letGo 24 = .ok (.aload_n 0, 1) := by decide +kernel
theorem dX0_letGo_25 : decode cX0_letGo 25 = .ok (.getfield 21, 3) := by decide +kernel
theorem dX0_letGo_28 : decode cX0_letGo 28 = .ok (.getfield 110, 3) := by decide +kernel
theorem dX0_letGo_31 : decode cX0_letGo 31 = .ok (.iload_n 1, 1) := by decide +kernel
theorem dX0_letGo_32 : decode cX0_letGo 32 = .ok (.iaload, 1) := by decide +kernel
theorem dX0_letGo_33 : decode cX0_letGo 33 = .ok (.ifCond .le 59, 3) := by decide +kernel
theorem dX0_letGo_36 : decode cX0_letGo 36 = .ok (.aload_n 0, 1) := by decide +kernel
theorem dX0_letGo_37 : decode cX0_letGo 37 = .ok (.iload_n 1, 1) := by decide +kernel
theorem dX0_letGo_38 : decode cX0_letGo 38 = .ok (.aload_n 0, 1) := by decide +kernel
theorem dX0_letGo_39 : decode cX0_letGo 39 = .ok (.getfield 71, 3) := by decide +kernel
theorem dX0_letGo_42 : decode cX0_letGo 42 = .ok (.aload_n 0, 1) := by decide +kernel
theorem dX0_letGo_43 : decode cX0_letGo 43 = .ok (.getfield 21, 3) := by decide +kernel
theorem dX0_letGo_46 : decode cX0_letGo 46 = .ok (.getfield 166, 3) := by decide +kernel
theorem dX0_letGo_49 : decode cX0_letGo 49 = .ok (.iload_n 1, 1) := by decide +kernel
theorem dX0_letGo_50 : decode cX0_letGo 50 = .ok (.iaload, 1) := by decide +kernel
theorem dX0_letGo_51 : decode cX0_letGo 51 = .ok (.isub, 1) := by decide +kernel
theorem dX0_letGo_52 : decode cX0_letGo 52 = .ok (.invokevirtual 226, 3) := by decide +kernel
theorem dX0_letGo_55 : decode cX0_letGo 55 = .ok (.istore_n 2, 1) := by decide +kernel
theorem dX0_letGo_56 : decode cX0_letGo 56 = .ok (.aload_n 0, 1) := by decide +kernel
theorem dX0_letGo_57 : decode cX0_letGo 57 = .ok (.getfield 21, 3) := by decide +kernel
theorem dX0_letGo_60 : decode cX0_letGo 60 = .ok (.getfield 110, 3) := by decide +kernel
theorem dX0_letGo_63 : decode cX0_letGo 63 = .ok (.iload_n 1, 1) := by decide +kernel
theorem dX0_letGo_64 : decode cX0_letGo 64 = .ok (.dup2, 1) := by decide +kernel
theorem dX0_letGo_65 : decode cX0_letGo 65 = .ok (.iaload, 1) := by decide +kernel
theorem dX0_letGo_66 : decode cX0_letGo 66 = .ok (.iload_n 2, 1) := by decide +kernel
theorem dX0_letGo_67 : decode cX0_letGo 67 = .ok (.isub, 1) := by decide +kernel
theorem dX0_letGo_68 : decode cX0_letGo 68 = .ok (.iastore, 1) := by decide +kernel
theorem dX0_letGo_69 : decode cX0_letGo 69 = .ok (.aload_n 0, 1) := by decide +kernel
theorem dX0_letGo_70 : decode cX0_letGo 70 = .ok (.getfield 21, 3) := by decide +kernel
theorem dX0_letGo_73 : decode cX0_letGo 73 = .ok (.getfield 229, 3) := by decide +kernel
theorem dX0_letGo_76 : decode cX0_letGo 76 = .ok (.iload_n 1, 1) := by decide +kernel
theorem dX0_letGo_77 : decode cX0_letGo 77 = .ok (.dup2, 1) := by decide +kernel
theorem dX0_letGo_78 : decode cX0_letGo 78 = .ok (.iaload, 1) := by decide +kernel
theorem dX0_letGo_79 : decode cX0_letGo 79 = .ok (.iload_n 2, 1) := by decide +kernel
theorem dX0_letGo_80 : decode cX0_letGo 80 = .ok (.iadd, 1) := by decide +kernel
theorem dX0_letGo_81 : decode cX0_letGo 81 = .ok (.iastore, 1) := by decide +kernel
theorem dX0_letGo_82 : decode cX0_letGo 82 = .ok (.aload_n 0, 1) := by decide +kernel
theorem dX0_letGo_83 : decode cX0_letGo 83 = .ok (.dup, 1) := by decide +kernel
theorem dX0_letGo_84 : decode cX0_letGo 84 = .ok (.getfield 77, 3) := by decide +kernel
theorem dX0_letGo_87 : decode cX0_letGo 87 = .ok (.iload_n 2, 1) := by decide +kernel
theorem dX0_letGo_88 : decode cX0_letGo 88 = .ok (.iadd, 1) := by decide +kernel
theorem dX0_letGo_89 : decode cX0_letGo 89 = .ok (.putfield 77, 3) := by decide +kernel
theorem dX0_letGo_92 : decode cX0_letGo 92 = .ok (.iinc 1 1, 3) := by decide +kernel
theorem dX0_letGo_95 : decode cX0_letGo 95 = .ok (.goto (-93), 3) := by decide +kernel
theorem dX0_letGo_98 : decode cX0_letGo 98 = .ok (.return_, 1) := by decide +kernel
theorem dX0_goersOf_0 : decode cX0_goersOf 0 = .ok (.aload_n 0, 1) := by decide +kernel
theorem dX0_goersOf_1 : decode cX0_goersOf 1 = .ok (.getfield 12, 3) := by decide +kernel
theorem dX0_goersOf_4 : decode cX0_goersOf 4 = .ok (.getfield 231, 3) := by decide +kernel
theorem dX0_goersOf_7 : decode cX0_goersOf 7 = .ok (.iload_n 1, 1) := by decide +kernel
theorem dX0_goersOf_8 : decode cX0_goersOf 8 = .ok (.iaload, 1) := by decide +kernel
theorem dX0_goersOf_9 : decode cX0_goersOf 9 = .ok (.tableswitch 61 0 2 #[27, 39, 49], 27) := by decide +kernel
theorem dX0_goersOf_36 : decode cX0_goersOf 36 = .ok (.iload_n 2, 1) := by decide +kernel
theorem dX0_goersOf_37 : decode cX0_goersOf 37 = .ok (.iconst 2, 1) := by decide +kernel
theorem dX0_goersOf_38 : decode cX0_goersOf 38 = .ok (.irem, 1) := by decide +kernel
theorem dX0_goersOf_39 : decode cX0_goersOf 39 = .ok (.ifCond .ne 7, 3) := by decide +kernel
theorem dX0_goersOf_42 : decode cX0_goersOf 42 = .ok (.iconst 1, 1) := by decide +kernel
theorem dX0_goersOf_43 : decode cX0_goersOf 43 = .ok (.goto 4, 3) := by decide +kernel
theorem dX0_goersOf_46 : decode cX0_goersOf 46 = .ok (.iconst 0, 1) := by decide +kernel
theorem dX0_goersOf_47 : decode cX0_goersOf 47 = .ok (.ireturn, 1) := by decide +kernel
theorem dX0_goersOf_48 : decode cX0_goersOf 48 = .ok (.aload_n 0, 1) := by decide +kernel
theorem dX0_goersOf_49 : decode cX0_goersOf 49 = .ok (.getfield 21, 3) := by decide +kernel
theorem dX0_goersOf_52 : decode cX0_goersOf 52 = .ok (.getfield 110, 3) := by decide +kernel
theorem dX0_goersOf_55 : decode cX0_goersOf 55 = .ok (.iload_n 1, 1) := by decide +kernel
theorem dX0_goersOf_56 : decode cX0_goersOf 56 = .ok (.iaload, 1) := by decide +kernel
theorem dX0_goersOf_57 : decode cX0_goersOf 57 = .ok (.ireturn, 1) := by decide +kernel
theorem dX0_goersOf_58 : decode cX0_goersOf 58 = .ok (.iload_n 2, 1) := by decide +kernel
theorem dX0_goersOf_59 : decode cX0_goersOf 59 = .ok (.iconst 4, 1) := by decide +kernel
theorem dX0_goersOf_60 : decode cX0_goersOf 60 = .ok (.irem, 1) := by decide +kernel
theorem dX0_goersOf_61 : decode cX0_goersOf 61 = .ok (.ifCond .ne 7, 3) := by decide +kernel
theorem dX0_goersOf_64 : decode cX0_goersOf 64 = .ok (.iconst 1, 1) := by decide +kernel
theorem dX0_goersOf_65 : decode cX0_goersOf 65 = .ok (.goto 4, 3) := by decide +kernel
theorem dX0_goersOf_68 : decode cX0_goersOf 68 = .ok (.iconst 0, 1) := by decide +kernel
theorem dX0_goersOf_69 : decode cX0_goersOf 69 = .ok (.ireturn, 1) := by decide +kernel
theorem dX0_goersOf_70 : decode cX0_goersOf 70 = .ok (.iconst 1, 1) := by decide +kernel
theorem dX0_goersOf_71 : decode cX0_goersOf 71 = .ok (.ireturn, 1) := by decide +kernel
theorem dX0_calledPhases_0 : decode cX0_calledPhases 0 = .ok (.aload_n 0, 1) := by decide +kernel
theorem dX0_calledPhases_1 : decode cX0_calledPhases 1 = .ok (.getfield 67, 3) := by decide +kernel
theorem dX0_calledPhases_4 : decode cX0_calledPhases 4 = .ok (.ifCond .ne 5, 3) := by decide +kernel
theorem dX0_calledPhases_7 : decode cX0_calledPhases 7 = .ok (.iconst 0, 1) := by decide +kernel
theorem dX0_calledPhases_8 : decode cX0_calledPhases 8 = .ok (.ireturn, 1) := by decide +kernel
theorem dX0_calledPhases_9 : decode cX0_calledPhases 9 = .ok (.aload_n 0, 1) := by decide +kernel
theorem dX0_calledPhases_10 : decode cX0_calledPhases 10 = .ok (.getfield 21, 3) := by decide +kernel
theorem dX0_calledPhases_13 : decode cX0_calledPhases 13 = .ok (.invokevirtual 234, 3) := by decide +kernel
theorem dX0_calledPhases_16 : decode cX0_calledPhases 16 = .ok (.istore_n 1, 1) := by decide +kernel
theorem dX0_calledPhases_17 : decode cX0_calledPhases 17 = .ok (.iconst 0, 1) := by decide +kernel
theorem dX0_calledPhases_18 : decode cX0_calledPhases 18 = .ok (.istore_n 2, 1) := by decide +kernel
theorem dX0_calledPhases_19 : decode cX0_calledPhases 19 = .ok (.iconst 0, 1) := by decide +kernel
theorem dX0_calledPhases_20 : decode cX0_calledPhases 20 = .ok (.istore_n 3, 1) := by decide +kernel
theorem dX0_calledPhases_21 : decode cX0_calledPhases 21 = .ok (.iload_n 3, 1) := by decide +kernel
theorem dX0_calledPhases_22 : decode cX0_calledPhases 22 = .ok (.aload_n 0, 1) := by decide +kernel
theorem dX0_calledPhases_23 : decode cX0_calledPhases 23 = .ok (.getfield 28, 3) := by decide +kernel
theorem dX0_calledPhases_26 : decode cX0_calledPhases 26 = .ok (.getfield 190, 3) := by decide +kernel
theorem dX0_calledPhases_29 : decode cX0_calledPhases 29 = .ok (.if_icmp .ge 60, 3) := by decide +kernel
theorem dX0_calledPhases_32 : decode cX0_calledPhases 32 = .ok (.iload_n 3, 1) := by decide +kernel
theorem dX0_calledPhases_33 : decode cX0_calledPhases 33 = .ok (.ifCond .ne 14, 3) := by decide +kernel
theorem dX0_calledPhases_36 : decode cX0_calledPhases 36 = .ok (.aload_n 0, 1) := by decide +kernel
theorem dX0_calledPhases_37 : decode cX0_calledPhases 37 = .ok (.getfield 83, 3) := by decide +kernel
theorem dX0_calledPhases_40 : decode cX0_calledPhases 40 = .ok (.ifCond .le 7, 3) := by decide +kernel
theorem dX0_calledPhases_43 : decode cX0_calledPhases 43 = .ok (.iconst 1, 1) := by decide +kernel
theorem dX0_calledPhases_44 : decode cX0_calledPhases 44 = .ok (.goto 4, 3) := by decide +kernel
theorem dX0_calledPhases_47 : decode cX0_calledPhases 47 = .ok (.iconst 0, 1) := by decide +kernel
theorem dX0_calledPhases_48 : decode cX0_calledPhases 48 = .ok (.istore 4, 2) := by decide +kernel
theorem dX0_calledPhases_50 : decode cX0_calledPhases 50 = .ok (.iload_n 3, 1) := by decide +kernel
theorem dX0_calledPhases_51 : decode cX0_calledPhases 51 = .ok (.aload_n 0, 1) := by decide +kernel
theorem dX0_calledPhases_52 : decode cX0_calledPhases 52 = .ok (.getfield 41, 3) := by decide +kernel
theorem dX0_calledPhases_55 : decode cX0_calledPhases 55 = .ok (.if_icmp .eq 28, 3) := by decide +kernel
theorem dX0_calledPhases_58 : decode cX0_calledPhases 58 = .ok (.iload 4, 2) := by decide +kernel
theorem dX0_calledPhases_60 : decode cX0_calledPhases 60 = .ok (.ifCond .ne 17, 3) := by decide +kernel
theorem dX0_calledPhases_63 : decode cX0_calledPhases 63 = .ok (.aload_n 0, 1) := by decide +kernel
theorem dX0_calledPhases_64 : decode cX0_calledPhases 64 = .ok (.getfield 28, 3) := by decide +kernel
theorem dX0_calledPhases_67 : decode cX0_calledPhases 67 = .ok (.getfield 149, 3) := by decide +kernel
theorem dX0_calledPhases_70 : decode cX0_calledPhases 70 = .ok (.iload_n 3, 1) := by decide +kernel
theorem dX0_calledPhases_71 : decode cX0_calledPhases 71 = .ok (.iaload, 1) := by decide +kernel
theorem dX0_calledPhases_72 : decode cX0_calledPhases 72 = .ok (.iload_n 1, 1) := by decide +kernel
theorem dX0_calledPhases_73 : decode cX0_calledPhases 73 = .ok (.iand, 1) := by decide +kernel
theorem dX0_calledPhases_74 : decode cX0_calledPhases 74 = .ok (.ifCond .eq 9, 3) := by decide +kernel
theorem dX0_calledPhases_77 : decode cX0_calledPhases 77 = .ok (.iload_n 2, 1) := by decide +kernel
theorem dX0_calledPhases_78 : decode cX0_calledPhases 78 = .ok (.iconst 1, 1) := by decide +kernel
theorem dX0_calledPhases_79 : decode cX0_calledPhases 79 = .ok (.iload_n 3, 1) := by decide +kernel
theorem dX0_calledPhases_80 : decode cX0_calledPhases 80 = .ok (.ishl, 1) := by decide +kernel
theorem dX0_calledPhases_81 : decode cX0_calledPhases 81 = .ok (.ior, 1) := by decide +kernel
theorem dX0_calledPhases_82 : decode cX0_calledPhases 82 = .ok (.istore_n 2, 1) := by decide +kernel
theorem dX0_calledPhases_83 : decode cX0_calledPhases 83 = .ok (.iinc 3 1, 3) := by decide +kernel
theorem dX0_calledPhases_86 : decode cX0_calledPhases 86 = .ok (.goto (-65), 3) := by decide +kernel
theorem dX0_calledPhases_89 : decode cX0_calledPhases 89 = .ok (.iload_n 2, 1) := by decide +kernel
theorem dX0_calledPhases_90 : decode cX0_calledPhases 90 = .ok (.ireturn, 1) := by decide +kernel
theorem dX0_local_0 : decode cX0_local 0 = .ok (.aload_n 0, 1) := by decide +kernel
theorem dX0_local_1 : decode cX0_local 1 = .ok (.getfield 83, 3) := by decide +kernel
theorem dX0_local_4 : decode cX0_local 4 = .ok (.ifCond .le 22, 3) := by decide +kernel
theorem dX0_local_7 : decode cX0_local 7 = .ok (.aload_n 0, 1) := by decide +kernel
theorem dX0_local_8 : decode cX0_local 8 = .ok (.getfield 71, 3) := by decide +kernel
theorem dX0_local_11 : decode cX0_local 11 = .ok (.aload_n 0, 1) := by decide +kernel
theorem dX0_local_12 : decode cX0_local 12 = .ok (.getfield 86, 3) := by decide +kernel
theorem dX0_local_15 : decode cX0_local 15 = .ok (.isub, 1) := by decide +kernel
theorem dX0_local_16 : decode cX0_local 16 = .ok (.aload_n 0, 1) := by decide +kernel
theorem dX0_local_17 : decode cX0_local 17 = .ok (.getfield 83, 3) := by decide +kernel
theorem dX0_local_20 : decode cX0_local 20 = .ok (.invokestatic 237, 3) := by decide +kernel
theorem dX0_local_23 : decode cX0_local 23 = .ok (.goto 5, 3) := by decide +kernel
theorem dX0_local_26 : decode cX0_local 26 = .ok (.bipush (-5), 2) := by decide +kernel
theorem dX0_local_28 : decode cX0_local 28 = .ok (.ireturn, 1) := by decide +kernel
theorem dX0_lightOf_0 : decode cX0_lightOf 0 = .ok (.aload_n 0, 1) := by decide +kernel
theorem dX0_lightOf_1 : decode cX0_lightOf 1 = .ok (.getfield 21, 3) := by decide +kernel
theorem dX0_lightOf_4 : decode cX0_lightOf 4 = .ok (.iload_n 1, 1) := by decide +kernel
theorem dX0_lightOf_5 : decode cX0_lightOf 5 = .ok (.invokevirtual 163, 3) := by decide +kernel
theorem dX0_lightOf_8 : decode cX0_lightOf 8 = .ok (.ifCond .eq 5, 3) := by decide +kernel
theorem dX0_lightOf_11 : decode cX0_lightOf 11 = .ok (.iconst 2, 1) := by decide +kernel
theorem dX0_lightOf_12 : decode cX0_lightOf 12 = .ok (.ireturn, 1) := by decide +kernel
theorem dX0_lightOf_13 : decode cX0_lightOf 13 = .ok (.aload_n 0, 1) := by decide +kernel
theorem dX0_lightOf_14 : decode cX0_lightOf 14 = .ok (.getfield 21, 3) := by decide +kernel
theorem dX0_lightOf_17 : decode cX0_lightOf 17 = .ok (.getfield 217, 3) := by decide +kernel
theorem dX0_lightOf_20 : decode cX0_lightOf 20 = .ok (.iload_n 1, 1) := by decide +kernel
theorem dX0_lightOf_21 : decode cX0_lightOf 21 = .ok (.iaload, 1) := by decide +kernel
theorem dX0_lightOf_22 : decode cX0_lightOf 22 = .ok (.istore_n 2, 1) := by decide +kernel
theorem dX0_lightOf_23 : decode cX0_lightOf 23 = .ok (.iload_n 2, 1) := by decide +kernel
theorem dX0_lightOf_24 : decode cX0_lightOf 24 = .ok (.bipush (-5), 2) := by decide +kernel
theorem dX0_lightOf_26 : decode cX0_lightOf 26 = .ok (.if_icmp .eq 24, 3) := by decide +kernel
theorem dX0_lightOf_29 : decode cX0_lightOf 29 = .ok (.aload_n 0, 1) := by decide +kernel
theorem dX0_lightOf_30 : decode cX0_lightOf 30 = .ok (.getfield 71, 3) := by decide +kernel
theorem dX0_lightOf_33 : decode cX0_lightOf 33 = .ok (.iload_n 2, 1) := by decide +kernel
theorem dX0_lightOf_34 : decode cX0_lightOf 34 = .ok (.aload_n 0, 1) := by decide +kernel
theorem dX0_lightOf_35 : decode cX0_lightOf 35 = .ok (.getfield 12, 3) := by decide +kernel
theorem dX0_lightOf_38 : decode cX0_lightOf 38 = .ok (.iload_n 1, 1) := by decide +kernel
theorem dX0_lightOf_39 : decode cX0_lightOf 39 = .ok (.invokevirtual 242, 3) := by decide +kernel
theorem dX0_lightOf_42 : decode cX0_lightOf 42 = .ok (.iadd, 1) := by decide +kernel
theorem dX0_lightOf_43 : decode cX0_lightOf 43 = .ok (.if_icmp .ge 7, 3) := by decide +kernel
theorem dX0_lightOf_46 : decode cX0_lightOf 46 = .ok (.iconst 1, 1) := by decide +kernel
theorem dX0_lightOf_47 : decode cX0_lightOf 47 = .ok (.goto 4, 3) := by decide +kernel
theorem dX0_lightOf_50 : decode cX0_lightOf 50 = .ok (.iconst 0, 1) := by decide +kernel
theorem dX0_lightOf_51 : decode cX0_lightOf 51 = .ok (.ireturn, 1) := by decide +kernel
theorem dX0_amberSignals_0 : decode cX0_amberSignals 0 = .ok (.iconst 0, 1) := by decide +kernel
theorem dX0_amberSignals_1 : decode cX0_amberSignals 1 = .ok (.istore_n 1, 1) := by decide +kernel
theorem dX0_amberSignals_2 : decode cX0_amberSignals 2 = .ok (.iconst 0, 1) := by decide +kernel
theorem dX0_amberSignals_3 : decode cX0_amberSignals 3 = .ok (.istore_n 2, 1) := by decide +kernel
theorem dX0_amberSignals_4 : decode cX0_amberSignals 4 = .ok (.iload_n 2, 1) := by decide +kernel
theorem dX0_amberSignals_5 : decode cX0_amberSignals 5 = .ok (.aload_n 0, 1) := by decide +kernel
theorem dX0_amberSignals_6 : decode cX0_amberSignals 6 = .ok (.getfield 12, 3) := by decide +kernel
theorem dX0_amberSignals_9 : decode cX0_amberSignals 9 = .ok (.getfield 132, 3) := by decide +kernel
theorem dX0_amberSignals_12 : decode cX0_amberSignals 12 = .ok (.if_icmp .ge 24, 3) := by decide +kernel
theorem dX0_amberSignals_15 : decode cX0_amberSignals 15 = .ok (.aload_n 0, 1) := by decide +kernel
theorem dX0_amberSignals_16 : decode cX0_amberSignals 16 = .ok (.iload_n 2, 1) := by decide +kernel
theorem dX0_amberSignals_17 : decode cX0_amberSignals 17 = .ok (.invokevirtual 245, 3) := by decide +kernel
theorem dX0_amberSignals_20 : decode cX0_amberSignals 20 = .ok (.iconst 1, 1) := by decide +kernel
theorem dX0_amberSignals_21 : decode cX0_amberSignals 21 = .ok (.if_icmp .ne 9, 3) := by decide +kernel
theorem dX0_amberSignals_24 : decode cX0_amberSignals 24 = .ok (.iload_n 1, 1) := by decide +kernel
theorem dX0_amberSignals_25 : decode cX0_amberSignals 25 = .ok (.iconst 1, 1) := by decide +kernel
theorem dX0_amberSignals_26 : decode cX0_amberSignals 26 = .ok (.iload_n 2, 1) := by decide +kernel
theorem dX0_amberSignals_27 : decode cX0_amberSignals 27 = .ok (.ishl, 1) := by decide +kernel
theorem dX0_amberSignals_28 : decode cX0_amberSignals 28 = .ok (.ior, 1) := by decide +kernel
theorem dX0_amberSignals_29 : decode cX0_amberSignals 29 = .ok (.istore_n 1, 1) := by decide +kernel
theorem dX0_amberSignals_30 : decode cX0_amberSignals 30 = .ok (.iinc 2 1, 3) := by decide +kernel
theorem dX0_amberSignals_33 : decode cX0_amberSignals 33 = .ok (.goto (-29), 3) := by decide +kernel
theorem dX0_amberSignals_36 : decode cX0_amberSignals 36 = .ok (.iload_n 1, 1) := by decide +kernel
theorem dX0_amberSignals_37 : decode cX0_amberSignals 37 = .ok (.ireturn, 1) := by decide +kernel
theorem dX0_fact_0 : decode cX0_fact 0 = .ok (.iload_n 1, 1) := by decide +kernel
theorem dX0_fact_1 : decode cX0_fact 1 = .ok (.tableswitch 201 0 18 #[91, 96, 101, 106, 111, 116, 121, 126, 134, 139, 144, 149, 157, 162, 167, 172, 177, 185, 193], 91) := by decide +kernel
theorem dX0_fact_92 : decode cX0_fact 92 = .ok (.aload_n 0, 1) := by decide +kernel
theorem dX0_fact_93 : decode cX0_fact 93 = .ok (.getfield 71, 3) := by decide +kernel
theorem dX0_fact_96 : decode cX0_fact 96 = .ok (.ireturn, 1) := by decide +kernel
theorem dX0_fact_97 : decode cX0_fact 97 = .ok (.aload_n 0, 1) := by decide +kernel
theorem dX0_fact_98 : decode cX0_fact 98 = .ok (.getfield 41, 3) := by decide +kernel
theorem dX0_fact_101 : decode cX0_fact 101 = .ok (.ireturn, 1) := by decide +kernel
theorem dX0_fact_102 : decode cX0_fact 102 = .ok (.aload_n 0, 1) := by decide +kernel
theorem dX0_fact_103 : decode cX0_fact 103 = .ok (.getfield 45, 3) := by decide +kernel
theorem dX0_fact_106 : decode cX0_fact 106 = .ok (.ireturn, 1) := by decide +kernel
theorem dX0_fact_107 : decode cX0_fact 107 = .ok (.aload_n 0, 1) := by decide +kernel
theorem dX0_fact_108 : decode cX0_fact 108 = .ok (.getfield 48, 3) := by decide +kernel
theorem dX0_fact_111 : decode cX0_fact 111 = .ok (.ireturn, 1) := by decide +kernel
theorem dX0_fact_112 : decode cX0_fact 112 = .ok (.aload_n 0, 1) := by decide +kernel
theorem dX0_fact_113 : decode cX0_fact 113 = .ok (.getfield 74, 3) := by decide +kernel
theorem dX0_fact_116 : decode cX0_fact 116 = .ok (.ireturn, 1) := by decide +kernel
theorem dX0_fact_117 : decode cX0_fact 117 = .ok (.aload_n 0, 1) := by decide +kernel
theorem dX0_fact_118 : decode cX0_fact 118 = .ok (.getfield 77, 3) := by decide +kernel
theorem dX0_fact_121 : decode cX0_fact 121 = .ok (.ireturn, 1) := by decide +kernel
theorem dX0_fact_122 : decode cX0_fact 122 = .ok (.aload_n 0, 1) := by decide +kernel
theorem dX0_fact_123 : decode cX0_fact 123 = .ok (.getfield 80, 3) := by decide +kernel
theorem dX0_fact_126 : decode cX0_fact 126 = .ok (.ireturn, 1) := by decide +kernel
theorem dX0_fact_127 : decode cX0_fact 127 = .ok (.aload_n 0, 1) := by decide +kernel
theorem dX0_fact_128 : decode cX0_fact 128 = .ok (.getfield 21, 3) := by decide +kernel
theorem dX0_fact_131 : decode cX0_fact 131 = .ok (.getfield 248, 3) := by decide +kernel
theorem dX0_fact_134 : decode cX0_fact 134 = .ok (.ireturn, 1) := by decide +kernel
theorem dX0_fact_135 : decode cX0_fact 135 = .ok (.aload_n 0, 1) := by decide +kernel
theorem dX0_fact_136 : decode cX0_fact 136 = .ok (.invokevirtual 251, 3) := by decide +kernel
theorem dX0_fact_139 : decode cX0_fact 139 = .ok (.ireturn, 1) := by decide +kernel
theorem dX0_fact_140 : decode cX0_fact 140 = .ok (.aload_n 0, 1) := by decide +kernel
theorem dX0_fact_141 : decode cX0_fact 141 = .ok (.invokevirtual 175, 3) := by decide +kernel
theorem dX0_fact_144 : decode cX0_fact 144 = .ok (.ireturn, 1) := by decide +kernel
theorem dX0_fact_145 : decode cX0_fact 145 = .ok (.aload_n 0, 1) := by decide +kernel
theorem dX0_fact_146 : decode cX0_fact 146 = .ok (.getfield 51, 3) := by decide +kernel
theorem dX0_fact_149 : decode cX0_fact 149 = .ok (.ireturn, 1) := by decide +kernel
theorem dX0_fact_150 : decode cX0_fact 150 = .ok (.aload_n 0, 1) := by decide +kernel
theorem dX0_fact_151 : decode cX0_fact 151 = .ok (.getfield 12, 3) := by decide +kernel
theorem dX0_fact_154 : decode cX0_fact 154 = .ok (.getfield 254, 3) := by decide +kernel
theorem dX0_fact_157 : decode cX0_fact 157 = .ok (.ireturn, 1) := by decide +kernel
theorem dX0_fact_158 : decode cX0_fact 158 = .ok (.aload_n 0, 1) := by decide +kernel
theorem dX0_fact_159 : decode cX0_fact 159 = .ok (.getfield 83, 3) := by decide +kernel
theorem dX0_fact_162 : decode cX0_fact 162 = .ok (.ireturn, 1) := by decide +kernel
theorem dX0_fact_163 : decode cX0_fact 163 = .ok (.aload_n 0, 1) := by decide +kernel
theorem dX0_fact_164 : decode cX0_fact 164 = .ok (.getfield 86, 3) := by decide +kernel
theorem dX0_fact_167 : decode cX0_fact 167 = .ok (.ireturn, 1) := by decide +kernel
theorem dX0_fact_168 : decode cX0_fact 168 = .ok (.aload_n 0, 1) := by decide +kernel
theorem dX0_fact_169 : decode cX0_fact 169 = .ok (.getfield 89, 3) := by decide +kernel
theorem dX0_fact_172 : decode cX0_fact 172 = .ok (.ireturn, 1) := by decide +kernel
theorem dX0_fact_173 : decode cX0_fact 173 = .ok (.aload_n 0, 1) := by decide +kernel
theorem dX0_fact_174 : decode cX0_fact 174 = .ok (.invokevirtual 191, 3) := by decide +kernel
theorem dX0_fact_177 : decode cX0_fact 177 = .ok (.ireturn, 1) := by decide +kernel
theorem dX0_fact_178 : decode cX0_fact 178 = .ok (.aload_n 0, 1) := by decide +kernel
theorem dX0_fact_179 : decode cX0_fact 179 = .ok (.getfield 12, 3) := by decide +kernel
theorem dX0_fact_182 : decode cX0_fact 182 = .ok (.getfield 132, 3) := by decide +kernel
theorem dX0_fact_185 : decode cX0_fact 185 = .ok (.ireturn, 1) := by decide +kernel
theorem dX0_fact_186 : decode cX0_fact 186 = .ok (.aload_n 0, 1) := by decide +kernel
theorem dX0_fact_187 : decode cX0_fact 187 = .ok (.getfield 28, 3) := by decide +kernel
theorem dX0_fact_190 : decode cX0_fact 190 = .ok (.getfield 190, 3) := by decide +kernel
theorem dX0_fact_193 : decode cX0_fact 193 = .ok (.ireturn, 1) := by decide +kernel
theorem dX0_fact_194 : decode cX0_fact 194 = .ok (.aload_n 0, 1) := by decide +kernel
theorem dX0_fact_195 : decode cX0_fact 195 = .ok (.getfield 21, 3) := by decide +kernel
theorem dX0_fact_198 : decode cX0_fact 198 = .ok (.invokevirtual 128, 3) := by decide +kernel
theorem dX0_fact_201 : decode cX0_fact 201 = .ok (.ireturn, 1) := by decide +kernel
theorem dX0_fact_202 : decode cX0_fact 202 = .ok (.iconst (-1), 1) := by decide +kernel
theorem dX0_fact_203 : decode cX0_fact 203 = .ok (.ireturn, 1) := by decide +kernel
theorem dX0_factOf_0 : decode cX0_factOf 0 = .ok (.iload_n 2, 1) := by decide +kernel
theorem dX0_factOf_1 : decode cX0_factOf 1 = .ok (.tableswitch 178 0 13 #[71, 81, 81, 81, 81, 93, 103, 109, 119, 129, 139, 149, 159, 168], 71) := by decide +kernel
theorem dX0_factOf_72 : decode cX0_factOf 72 = .ok (.aload_n 0, 1) := by decide +kernel
theorem dX0_factOf_73 : decode cX0_factOf 73 = .ok (.getfield 12, 3) := by decide +kernel
theorem dX0_factOf_76 : decode cX0_factOf 76 = .ok (.getfield 231, 3) := by decide +kernel
theorem dX0_factOf_79 : decode cX0_factOf 79 = .ok (.iload_n 1, 1) := by decide +kernel
theorem dX0_factOf_80 : decode cX0_factOf 80 = .ok (.iaload, 1) := by decide +kernel
theorem dX0_factOf_81 : decode cX0_factOf 81 = .ok (.ireturn, 1) := by decide +kernel
theorem dX0_factOf_82 : decode cX0_factOf 82 = .ok (.aload_n 0, 1) := by decide +kernel
theorem dX0_factOf_83 : decode cX0_factOf 83 = .ok (.getfield 21, 3) := by decide +kernel
theorem dX0_factOf_86 : decode cX0_factOf 86 = .ok (.iload_n 1, 1) := by decide +kernel
theorem dX0_factOf_87 : decode cX0_factOf 87 = .ok (.iload_n 2, 1) := by decide +kernel
theorem dX0_factOf_88 : decode cX0_factOf 88 = .ok (.iconst 1, 1) := by decide +kernel
theorem dX0_factOf_89 : decode cX0_factOf 89 = .ok (.isub, 1) := by decide +kernel
theorem dX0_factOf_90 : decode cX0_factOf 90 = .ok (.invokevirtual 135, 3) := by decide +kernel
theorem dX0_factOf_93 : decode cX0_factOf 93 = .ok (.ireturn, 1) := by decide +kernel
theorem dX0_factOf_94 : decode cX0_factOf 94 = .ok (.aload_n 0, 1) := by decide +kernel
theorem dX0_factOf_95 : decode cX0_factOf 95 = .ok (.getfield 21, 3) := by decide +kernel
theorem dX0_factOf_98 : decode cX0_factOf 98 = .ok (.getfield 110, 3) := by decide +kernel
theorem dX0_factOf_101 : decode cX0_factOf 101 = .ok (.iload_n 1, 1) := by decide +kernel
theorem dX0_factOf_102 : decode cX0_factOf 102 = .ok (.iaload, 1) := by decide +kernel
theorem dX0_factOf_103 : decode cX0_factOf 103 = .ok (.ireturn, 1) := by decide +kernel
theorem dX0_factOf_104 : decode cX0_factOf 104 = .ok (.aload_n 0, 1) := by decide +kernel
theorem dX0_factOf_105 : decode cX0_factOf 105 = .ok (.iload_n 1, 1) := by decide +kernel
theorem dX0_factOf_106 : decode cX0_factOf 106 = .ok (.invokevirtual 245, 3) := by decide +kernel
theorem dX0_factOf_109 : decode cX0_factOf 109 = .ok (.ireturn, 1) := by decide +kernel
theorem dX0_factOf_110 : decode cX0_factOf 110 = .ok (.aload_n 0, 1) := by decide +kernel
theorem dX0_factOf_111 : decode cX0_factOf 111 = .ok (.getfield 21, 3) := by decide +kernel
theorem dX0_factOf_114 : decode cX0_factOf 114 = .ok (.getfield 166, 3) := by decide +kernel
theorem dX0_factOf_117 : decode cX0_factOf 117 = .ok (.iload_n 1, 1) := by decide +kernel
theorem dX0_factOf_118 : decode cX0_factOf 118 = .ok (.iaload, 1) := by decide +kernel
theorem dX0_factOf_119 : decode cX0_factOf 119 = .ok (.ireturn, 1) := by decide +kernel
theorem dX0_factOf_120 : decode cX0_factOf 120 = .ok (.aload_n 0, 1) := by decide +kernel
theorem dX0_factOf_121 : decode cX0_factOf 121 = .ok (.getfield 21, 3) := by decide +kernel
theorem dX0_factOf_124 : decode cX0_factOf 124 = .ok (.getfield 217, 3) := by decide +kernel
theorem dX0_factOf_127 : decode cX0_factOf 127 = .ok (.iload_n 1, 1) := by decide +kernel
theorem dX0_factOf_128 : decode cX0_factOf 128 = .ok (.iaload, 1) := by decide +kernel
theorem dX0_factOf_129 : decode cX0_factOf 129 = .ok (.ireturn, 1) := by decide +kernel
theorem dX0_factOf_130 : decode cX0_factOf 130 = .ok (.aload_n 0, 1) := by decide +kernel
theorem dX0_factOf_131 : decode cX0_factOf 131 = .ok (.getfield 21, 3) := by decide +kernel
theorem dX0_factOf_134 : decode cX0_factOf 134 = .ok (.getfield 145, 3) := by decide +kernel
theorem dX0_factOf_137 : decode cX0_factOf 137 = .ok (.iload_n 1, 1) := by decide +kernel
theorem dX0_factOf_138 : decode cX0_factOf 138 = .ok (.iaload, 1) := by decide +kernel
theorem dX0_factOf_139 : decode cX0_factOf 139 = .ok (.ireturn, 1) := by decide +kernel
theorem dX0_factOf_140 : decode cX0_factOf 140 = .ok (.aload_n 0, 1) := by decide +kernel
theorem dX0_factOf_141 : decode cX0_factOf 141 = .ok (.getfield 21, 3) := by decide +kernel
theorem dX0_factOf_144 : decode cX0_factOf 144 = .ok (.getfield 229, 3) := by decide +kernel
theorem dX0_factOf_147 : decode cX0_factOf 147 = .ok (.iload_n 1, 1) := by decide +kernel
theorem dX0_factOf_148 : decode cX0_factOf 148 = .ok (.iaload, 1) := by decide +kernel
theorem dX0_factOf_149 : decode cX0_factOf 149 = .ok (.ireturn, 1) := by decide +kernel
theorem dX0_factOf_150 : decode cX0_factOf 150 = .ok (.aload_n 0, 1) := by decide +kernel
theorem dX0_factOf_151 : decode cX0_factOf 151 = .ok (.getfield 12, 3) := by decide +kernel
theorem dX0_factOf_154 : decode cX0_factOf 154 = .ok (.getfield 257, 3) := by decide +kernel
theorem dX0_factOf_157 : decode cX0_factOf 157 = .ok (.iload_n 1, 1) := by decide +kernel
theorem dX0_factOf_158 : decode cX0_factOf 158 = .ok (.iaload, 1) := by decide +kernel
theorem dX0_factOf_159 : decode cX0_factOf 159 = .ok (.ireturn, 1) := by decide +kernel
theorem dX0_factOf_160 : decode cX0_factOf 160 = .ok (.aload_n 0, 1) := by decide +kernel
theorem dX0_factOf_161 : decode cX0_factOf 161 = .ok (.getfield 12, 3) := by decide +kernel
theorem dX0_factOf_164 : decode cX0_factOf 164 = .ok (.iload_n 1, 1) := by decide +kernel
theorem dX0_factOf_165 : decode cX0_factOf 165 = .ok (.invokevirtual 260, 3) := by decide +kernel
theorem dX0_factOf_168 : decode cX0_factOf 168 = .ok (.ireturn, 1) := by decide +kernel
theorem dX0_factOf_169 : decode cX0_factOf 169 = .ok (.aload_n 0, 1) := by decide +kernel
theorem dX0_factOf_170 : decode cX0_factOf 170 = .ok (.getfield 21, 3) := by decide +kernel
theorem dX0_factOf_173 : decode cX0_factOf 173 = .ok (.getfield 263, 3) := by decide +kernel
theorem dX0_factOf_176 : decode cX0_factOf 176 = .ok (.iload_n 1, 1) := by decide +kernel
theorem dX0_factOf_177 : decode cX0_factOf 177 = .ok (.iaload, 1) := by decide +kernel
theorem dX0_factOf_178 : decode cX0_factOf 178 = .ok (.ireturn, 1) := by decide +kernel
theorem dX0_factOf_179 : decode cX0_factOf 179 = .ok (.iconst (-1), 1) := by decide +kernel
theorem dX0_factOf_180 : decode cX0_factOf 180 = .ok (.ireturn, 1) := by decide +kernel
theorem dX0_recordedGreens_0 : decode cX0_recordedGreens 0 = .ok (.iconst 0, 1) := by decide +kernel
theorem dX0_recordedGreens_1 : decode cX0_recordedGreens 1 = .ok (.istore_n 2, 1) := by decide +kernel
theorem dX0_recordedGreens_2 : decode cX0_recordedGreens 2 = .ok (.iconst 0, 1) := by decide +kernel
theorem dX0_recordedGreens_3 : decode cX0_recordedGreens 3 = .ok (.istore_n 3, 1) := by decide +kernel
theorem dX0_recordedGreens_4 : decode cX0_recordedGreens 4 = .ok (.iload_n 3, 1) := by decide +kernel
theorem dX0_recordedGreens_5 : decode cX0_recordedGreens 5 = .ok (.aload_n 0, 1) := by decide +kernel
theorem dX0_recordedGreens_6 : decode cX0_recordedGreens 6 = .ok (.getfield 37, 3) := by decide +kernel
theorem dX0_recordedGreens_9 : decode cX0_recordedGreens 9 = .ok (.getfield 266, 3) := by decide +kernel
theorem dX0_recordedGreens_12 : decode cX0_recordedGreens 12 = .ok (.if_icmp .ge 25, 3) := by decide +kernel
theorem dX0_recordedGreens_15 : decode cX0_recordedGreens 15 = .ok (.aload_n 0, 1) := by decide +kernel
theorem dX0_recordedGreens_16 : decode cX0_recordedGreens 16 = .ok (.getfield 37, 3) := by decide +kernel
theorem dX0_recordedGreens_19 : decode cX0_recordedGreens 19 = .ok (.iload_n 3, 1) := by decide +kernel
theorem dX0_recordedGreens_20 : decode cX0_recordedGreens 20 = .ok (.iconst 0, 1) := by decide +kernel
theorem dX0_recordedGreens_21 : decode cX0_recordedGreens 21 = .ok (.invokevirtual 267, 3) := by decide +kernel
theorem dX0_recordedGreens_24 : decode cX0_recordedGreens 24 = .ok (.iload_n 1, 1) := by decide +kernel
theorem dX0_recordedGreens_25 : decode cX0_recordedGreens 25 = .ok (.if_icmp .ne 6, 3) := by decide +kernel
theorem dX0_recordedGreens_28 : decode cX0_recordedGreens 28 = .ok (.iinc 2 1, 3) := by decide +kernel
theorem dX0_recordedGreens_31 : decode cX0_recordedGreens 31 = .ok (.iinc 3 1, 3) := by decide +kernel
theorem dX0_recordedGreens_34 : decode cX0_recordedGreens 34 = .ok (.goto (-30), 3) := by decide +kernel
theorem dX0_recordedGreens_37 : decode cX0_recordedGreens 37 = .ok (.iload_n 2, 1) := by decide +kernel
theorem dX0_recordedGreens_38 : decode cX0_recordedGreens 38 = .ok (.ireturn, 1) := by decide +kernel
theorem dX0_recordedTime_0 : decode cX0_recordedTime 0 = .ok (.iconst 0, 1) := by decide +kernel
theorem dX0_recordedTime_1 : decode cX0_recordedTime 1 = .ok (.istore_n 2, 1) := by decide +kernel
theorem dX0_recordedTime_2 : decode cX0_recordedTime 2 = .ok (.iconst 0, 1) := by decide +kernel
theorem dX0_recordedTime_3 : decode cX0_recordedTime 3 = .ok (.istore_n 3, 1) := by decide +kernel
theorem dX0_recordedTime_4 : decode cX0_recordedTime 4 = .ok (.iload_n 3, 1) := by decide +kernel
theorem dX0_recordedTime_5 : decode cX0_recordedTime 5 = .ok (.aload_n 0, 1) := by decide +kernel
theorem dX0_recordedTime_6 : decode cX0_recordedTime 6 = .ok (.getfield 37, 3) := by decide +kernel
theorem dX0_recordedTime_9 : decode cX0_recordedTime 9 = .ok (.getfield 266, 3) := by decide +kernel
theorem dX0_recordedTime_12 : decode cX0_recordedTime 12 = .ok (.if_icmp .ge 30, 3) := by decide +kernel
theorem dX0_recordedTime_15 : decode cX0_recordedTime 15 = .ok (.aload_n 0, 1) := by decide +kernel
theorem dX0_recordedTime_16 : decode cX0_recordedTime 16 = .ok (.getfield 37, 3) := by decide +kernel
theorem dX0_recordedTime_19 : decode cX0_recordedTime 19 = .ok (.iload_n 3, 1) := by decide +kernel
theorem dX0_recordedTime_20 : decode cX0_recordedTime 20 = .ok (.iconst 0, 1) := by decide +kernel
theorem dX0_recordedTime_21 : decode cX0_recordedTime 21 = .ok (.invokevirtual 267, 3) := by decide +kernel
theorem dX0_recordedTime_24 : decode cX0_recordedTime 24 = .ok (.iload_n 1, 1) := by decide +kernel
theorem dX0_recordedTime_25 : decode cX0_recordedTime 25 = .ok (.if_icmp .ne 11, 3) := by decide +kernel
theorem dX0_recordedTime_28 : decode cX0_recordedTime 28 = .ok (.iload_n 2, 1) := by decide +kernel
theorem dX0_recordedTime_29 : decode cX0_recordedTime 29 = .ok (.aload_n 0, 1) := by decide +kernel
theorem dX0_recordedTime_30 : decode cX0_recordedTime 30 = .ok (.iload_n 3, 1) := by decide +kernel
theorem dX0_recordedTime_31 : decode cX0_recordedTime 31 = .ok (.invokevirtual 270, 3) := by decide +kernel
theorem dX0_recordedTime_34 : decode cX0_recordedTime 34 = .ok (.iadd, 1) := by decide +kernel
theorem dX0_recordedTime_35 : decode cX0_recordedTime 35 = .ok (.istore_n 2, 1) := by decide +kernel
theorem dX0_recordedTime_36 : decode cX0_recordedTime 36 = .ok (.iinc 3 1, 3) := by decide +kernel
theorem dX0_recordedTime_39 : decode cX0_recordedTime 39 = .ok (.goto (-35), 3) := by decide +kernel
theorem dX0_recordedTime_42 : decode cX0_recordedTime 42 = .ok (.iload_n 2, 1) := by decide +kernel
theorem dX0_recordedTime_43 : decode cX0_recordedTime 43 = .ok (.ireturn, 1) := by decide +kernel
theorem dX0_shortestGreen_0 : decode cX0_shortestGreen 0 = .ok (.bipush (-5), 2) := by decide +kernel
theorem dX0_shortestGreen_2 : decode cX0_shortestGreen 2 = .ok (.istore_n 2, 1) := by decide +kernel
theorem dX0_shortestGreen_3 : decode cX0_shortestGreen 3 = .ok (.iconst 0, 1) := by decide +kernel
theorem dX0_shortestGreen_4 : decode cX0_shortestGreen 4 = .ok (.istore_n 3, 1) := by decide +kernel
theorem dX0_shortestGreen_5 : decode cX0_shortestGreen 5 = .ok (.iload_n 3, 1) := by decide +kernel
theorem dX0_shortestGreen_6 : decode cX0_shortestGreen 6 = .ok (.aload_n 0, 1) := by decide +kernel
theorem dX0_shortestGreen_7 : decode cX0_shortestGreen 7 = .ok (.getfield 37, 3) := by decide +kernel
theorem dX0_shortestGreen_10 : decode cX0_shortestGreen 10 = .ok (.getfield 266, 3) := by decide +kernel
theorem dX0_shortestGreen_13 : decode cX0_shortestGreen 13 = .ok (.if_icmp .ge 43, 3) := by decide +kernel
theorem dX0_shortestGreen_16 : decode cX0_shortestGreen 16 = .ok (.aload_n 0, 1) := by decide +kernel
theorem dX0_shortestGreen_17 : decode cX0_shortestGreen 17 = .ok (.getfield 37, 3) := by decide +kernel
theorem dX0_shortestGreen_20 : decode cX0_shortestGreen 20 = .ok (.iload_n 3, 1) := by decide +kernel
theorem dX0_shortestGreen_21 : decode cX0_shortestGreen 21 = .ok (.iconst 0, 1) := by decide +kernel
theorem dX0_shortestGreen_22 : decode cX0_shortestGreen 22 = .ok (.invokevirtual 267, 3) := by decide +kernel
theorem dX0_shortestGreen_25 : decode cX0_shortestGreen 25 = .ok (.iload_n 1, 1) := by decide +kernel
theorem dX0_shortestGreen_26 : decode cX0_shortestGreen 26 = .ok (.if_icmp .ne 24, 3) := by decide +kernel
theorem dX0_shortestGreen_29 : decode cX0_shortestGreen 29 = .ok (.iload_n 2, 1) := by decide +kernel
theorem dX0_shortestGreen_30 : decode cX0_shortestGreen 30 = .ok (.bipush (-5), 2) := by decide +kernel
theorem dX0_shortestGreen_32 : decode cX0_shortestGreen 32 = .ok (.if_icmp .eq 12, 3) := by decide +kernel
theorem dX0_shortestGreen_35 : decode cX0_shortestGreen 35 = .ok (.aload_n 0, 1) := by decide +kernel
theorem dX0_shortestGreen_36 : decode cX0_shortestGreen 36 = .ok (.iload_n 3, 1) := by decide +kernel
theorem dX0_shortestGreen_37 : decode cX0_shortestGreen 37 = .ok (.invokevirtual 270, 3) := by decide +kernel
theorem dX0_shortestGreen_40 : decode cX0_shortestGreen 40 = .ok (.iload_n 2, 1) := by decide +kernel
theorem dX0_shortestGreen_41 : decode cX0_shortestGreen 41 = .ok (.if_icmp .ge 9, 3) := by decide +kernel
theorem dX0_shortestGreen_44 : decode cX0_shortestGreen 44 = .ok (.aload_n 0, 1) := by decide +kernel
theorem dX0_shortestGreen_45 : decode cX0_shortestGreen 45 = .ok (.iload_n 3, 1) := by decide +kernel
theorem dX0_shortestGreen_46 : decode cX0_shortestGreen 46 = .ok (.invokevirtual 270, 3) := by decide +kernel
theorem dX0_shortestGreen_49 : decode cX0_shortestGreen 49 = .ok (.istore_n 2, 1) := by decide +kernel
theorem dX0_shortestGreen_50 : decode cX0_shortestGreen 50 = .ok (.iinc 3 1, 3) := by decide +kernel
theorem dX0_shortestGreen_53 : decode cX0_shortestGreen 53 = .ok (.goto (-48), 3) := by decide +kernel
theorem dX0_shortestGreen_56 : decode cX0_shortestGreen 56 = .ok (.iload_n 2, 1) := by decide +kernel
theorem dX0_shortestGreen_57 : decode cX0_shortestGreen 57 = .ok (.ireturn, 1) := by decide +kernel
theorem dX0_longestGreen_0 : decode cX0_longestGreen 0 = .ok (.bipush (-5), 2) := by decide +kernel
theorem dX0_longestGreen_2 : decode cX0_longestGreen 2 = .ok (.istore_n 2, 1) := by decide +kernel
theorem dX0_longestGreen_3 : decode cX0_longestGreen 3 = .ok (.iconst 0, 1) := by decide +kernel
theorem dX0_longestGreen_4 : decode cX0_longestGreen 4 = .ok (.istore_n 3, 1) := by decide +kernel
theorem dX0_longestGreen_5 : decode cX0_longestGreen 5 = .ok (.iload_n 3, 1) := by decide +kernel
theorem dX0_longestGreen_6 : decode cX0_longestGreen 6 = .ok (.aload_n 0, 1) := by decide +kernel
theorem dX0_longestGreen_7 : decode cX0_longestGreen 7 = .ok (.getfield 37, 3) := by decide +kernel
theorem dX0_longestGreen_10 : decode cX0_longestGreen 10 = .ok (.getfield 266, 3) := by decide +kernel
theorem dX0_longestGreen_13 : decode cX0_longestGreen 13 = .ok (.if_icmp .ge 32, 3) := by decide +kernel
theorem dX0_longestGreen_16 : decode cX0_longestGreen 16 = .ok (.aload_n 0, 1) := by decide +kernel
theorem dX0_longestGreen_17 : decode cX0_longestGreen 17 = .ok (.getfield 37, 3) := by decide +kernel
theorem dX0_longestGreen_20 : decode cX0_longestGreen 20 = .ok (.iload_n 3, 1) := by decide +kernel
theorem dX0_longestGreen_21 : decode cX0_longestGreen 21 = .ok (.iconst 0, 1) := by decide +kernel
theorem dX0_longestGreen_22 : decode cX0_longestGreen 22 = .ok (.invokevirtual 267, 3) := by decide +kernel
theorem dX0_longestGreen_25 : decode cX0_longestGreen 25 = .ok (.iload_n 1, 1) := by decide +kernel
theorem dX0_longestGreen_26 : decode cX0_longestGreen 26 = .ok (.if_icmp .ne 13, 3) := by decide +kernel
theorem dX0_longestGreen_29 : decode cX0_longestGreen 29 = .ok (.iload_n 2, 1) := by decide +kernel
theorem dX0_longestGreen_30 : decode cX0_longestGreen 30 = .ok (.aload_n 0, 1) := by decide +kernel
theorem dX0_longestGreen_31 : decode cX0_longestGreen 31 = .ok (.iload_n 3, 1) := by decide +kernel
theorem dX0_longestGreen_32 : decode cX0_longestGreen 32 = .ok (.invokevirtual 270, 3) := by decide +kernel
theorem dX0_longestGreen_35 : decode cX0_longestGreen 35 = .ok (.invokestatic 273, 3) := by decide +kernel
theorem dX0_longestGreen_38 : decode cX0_longestGreen 38 = .ok (.istore_n 2, 1) := by decide +kernel
theorem dX0_longestGreen_39 : decode cX0_longestGreen 39 = .ok (.iinc 3 1, 3) := by decide +kernel
theorem dX0_longestGreen_42 : decode cX0_longestGreen 42 = .ok (.goto (-37), 3) := by decide +kernel
theorem dX0_longestGreen_45 : decode cX0_longestGreen 45 = .ok (.iload_n 2, 1) := by decide +kernel
theorem dX0_longestGreen_46 : decode cX0_longestGreen 46 = .ok (.ireturn, 1) := by decide +kernel
theorem dX0_recordedLength_0 : decode cX0_recordedLength 0 = .ok (.aload_n 0, 1) := by decide +kernel
theorem dX0_recordedLength_1 : decode cX0_recordedLength 1 = .ok (.getfield 37, 3) := by decide +kernel
theorem dX0_recordedLength_4 : decode cX0_recordedLength 4 = .ok (.iload_n 1, 1) := by decide +kernel
theorem dX0_recordedLength_5 : decode cX0_recordedLength 5 = .ok (.iconst 2, 1) := by decide +kernel
theorem dX0_recordedLength_6 : decode cX0_recordedLength 6 = .ok (.invokevirtual 267, 3) := by decide +kernel
theorem dX0_recordedLength_9 : decode cX0_recordedLength 9 = .ok (.aload_n 0, 1) := by decide +kernel
theorem dX0_recordedLength_10 : decode cX0_recordedLength 10 = .ok (.getfield 37, 3) := by decide +kernel
theorem dX0_recordedLength_13 : decode cX0_recordedLength 13 = .ok (.iload_n 1, 1) := by decide +kernel
theorem dX0_recordedLength_14 : decode cX0_recordedLength 14 = .ok (.iconst 1, 1) := by decide +kernel
theorem dX0_recordedLength_15 : decode cX0_recordedLength 15 = .ok (.invokevirtual 267, 3) := by decide +kernel
theorem dX0_recordedLength_18 : decode cX0_recordedLength 18 = .ok (.isub, 1) := by decide +kernel
theorem dX0_recordedLength_19 : decode cX0_recordedLength 19 = .ok (.ireturn, 1) := by decide +kernel
theorem dX0_takersNow_0 : decode cX0_takersNow 0 = .ok (.iconst 0, 1) := by decide +kernel
theorem dX0_takersNow_1 : decode cX0_takersNow 1 = .ok (.istore_n 3, 1) := by decide +kernel
theorem dX0_takersNow_2 : decode cX0_takersNow 2 = .ok (.iconst 0, 1) := by decide +kernel
theorem dX0_takersNow_3 : decode cX0_takersNow 3 = .ok (.istore 4, 2) := by decide +kernel
theorem dX0_takersNow_5 : decode cX0_takersNow 5 = .ok (.iload 4, 2) := by decide +kernel
theorem dX0_takersNow_7 : decode cX0_takersNow 7 = .ok (.aload_n 0, 1) := by decide +kernel
theorem dX0_takersNow_8 : decode cX0_takersNow 8 = .ok (.getfield 12, 3) := by decide +kernel
theorem dX0_takersNow_11 : decode cX0_takersNow 11 = .ok (.getfield 132, 3) := by decide +kernel
theorem dX0_takersNow_14 : decode cX0_takersNow 14 = .ok (.if_icmp .ge 77, 3) := by decide +kernel
theorem dX0_takersNow_17 : decode cX0_takersNow 17 = .ok (.aload_n 0, 1) := by decide +kernel
theorem dX0_takersNow_18 : decode cX0_takersNow 18 = .ok (.getfield 21, 3) := by decide +kernel
theorem dX0_takersNow_21 : decode cX0_takersNow 21 = .ok (.iload 4, 2) := by decide +kernel
theorem dX0_takersNow_23 : decode cX0_takersNow 23 = .ok (.invokevirtual 163, 3) := by decide +kernel
theorem dX0_takersNow_26 : decode cX0_takersNow 26 = .ok (.ifCond .eq 16, 3) := by decide +kernel
theorem dX0_takersNow_29 : decode cX0_takersNow 29 = .ok (.aload_n 0, 1) := by decide +kernel
theorem dX0_takersNow_30 : decode cX0_takersNow 30 = .ok (.getfield 12, 3) := by decide +kernel
theorem dX0_takersNow_33 : decode cX0_takersNow 33 = .ok (.iload 4, 2) := by decide +kernel
theorem dX0_takersNow_35 : decode cX0_takersNow 35 = .ok (.iload_n 1, 1) := by decide +kernel
theorem dX0_takersNow_36 : decode cX0_takersNow 36 = .ok (.invokevirtual 276, 3) := by decide +kernel
theorem dX0_takersNow_39 : decode cX0_takersNow 39 = .ok (.goto 5, 3) := by decide +kernel
theorem dX0_takersNow_42 : decode cX0_takersNow 42 = .ok (.bipush (-5), 2) := by decide +kernel
theorem dX0_takersNow_44 : decode cX0_takersNow 44 = .ok (.istore 5, 2) := by decide +kernel
theorem dX0_takersNow_46 : decode cX0_takersNow 46 = .ok (.iload 5, 2) := by decide +kernel
theorem dX0_takersNow_48 : decode cX0_takersNow 48 = .ok (.bipush (-5), 2) := by decide +kernel
theorem dX0_takersNow_50 : decode cX0_takersNow 50 = .ok (.if_icmp .eq 35, 3) := by decide +kernel
theorem dX0_takersNow_53 : decode cX0_takersNow 53 = .ok (.iload_n 2, 1) := by decide +kernel
theorem dX0_takersNow_54 : decode cX0_takersNow 54 = .ok (.aload_n 0, 1) := by decide +kernel
theorem dX0_takersNow_55 : decode cX0_takersNow 55 = .ok (.getfield 12, 3) := by decide +kernel
theorem dX0_takersNow_58 : decode cX0_takersNow 58 = .ok (.iload 4, 2) := by decide +kernel
theorem dX0_takersNow_60 : decode cX0_takersNow 60 = .ok (.iload 5, 2) := by decide +kernel
theorem dX0_takersNow_62 : decode cX0_takersNow 62 = .ok (.aload_n 0, 1) := by decide +kernel
theorem dX0_takersNow_63 : decode cX0_takersNow 63 = .ok (.getfield 21, 3) := by decide +kernel
theorem dX0_takersNow_66 : decode cX0_takersNow 66 = .ok (.getfield 166, 3) := by decide +kernel
theorem dX0_takersNow_69 : decode cX0_takersNow 69 = .ok (.iload 4, 2) := by decide +kernel
theorem dX0_takersNow_71 : decode cX0_takersNow 71 = .ok (.iaload, 1) := by decide +kernel
theorem dX0_takersNow_72 : decode cX0_takersNow 72 = .ok (.invokevirtual 279, 3) := by decide +kernel
theorem dX0_takersNow_75 : decode cX0_takersNow 75 = .ok (.if_icmp .lt 10, 3) := by decide +kernel
theorem dX0_takersNow_78 : decode cX0_takersNow 78 = .ok (.iload_n 3, 1) := by decide +kernel
theorem dX0_takersNow_79 : decode cX0_takersNow 79 = .ok (.iconst 1, 1) := by decide +kernel
theorem dX0_takersNow_80 : decode cX0_takersNow 80 = .ok (.iload 4, 2) := by decide +kernel
theorem dX0_takersNow_82 : decode cX0_takersNow 82 = .ok (.ishl, 1) := by decide +kernel
theorem dX0_takersNow_83 : decode cX0_takersNow 83 = .ok (.ior, 1) := by decide +kernel
theorem dX0_takersNow_84 : decode cX0_takersNow 84 = .ok (.istore_n 3, 1) := by decide +kernel
theorem dX0_takersNow_85 : decode cX0_takersNow 85 = .ok (.iinc 4 1, 3) := by decide +kernel
theorem dX0_takersNow_88 : decode cX0_takersNow 88 = .ok (.goto (-83), 3) := by decide +kernel
theorem dX0_takersNow_91 : decode cX0_takersNow 91 = .ok (.iload_n 3, 1) := by decide +kernel
theorem dX0_takersNow_92 : decode cX0_takersNow 92 = .ok (.ireturn, 1) := by decide +kernel
theorem dX1_init_0 : decode cX1_init 0 = .ok (.aload_n 0, 1) := by decide +kernel
theorem dX1_init_1 : decode cX1_init 1 = .ok (.invokespecial 3, 3) := by decide +kernel
theorem dX1_init_4 : decode cX1_init 4 = .ok (.aload_n 0, 1) := by decide +kernel
theorem dX1_init_5 : decode cX1_init 5 = .ok (.iconst 1, 1) := by decide +kernel
theorem dX1_init_6 : decode cX1_init 6 = .ok (.putfield 9, 3) := by decide +kernel
theorem dX1_init_9 : decode cX1_init 9 = .ok (.aload_n 0, 1) := by decide +kernel
theorem dX1_init_10 : decode cX1_init 10 = .ok (.bipush 8, 2) := by decide +kernel
theorem dX1_init_12 : decode cX1_init 12 = .ok (.newarray .int, 2) := by decide +kernel
theorem dX1_init_14 : decode cX1_init 14 = .ok (.putfield 15, 3) := by decide +kernel
theorem dX1_init_17 : decode cX1_init 17 = .ok (.aload_n 0, 1) := by decide +kernel
theorem dX1_init_18 : decode cX1_init 18 = .ok (.bipush 8, 2) := by decide +kernel
theorem dX1_init_20 : decode cX1_init 20 = .ok (.newarray .int, 2) := by decide +kernel
theorem dX1_init_22 : decode cX1_init 22 = .ok (.putfield 19, 3) := by decide +kernel
theorem dX1_init_25 : decode cX1_init 25 = .ok (.aload_n 0, 1) := by decide +kernel
theorem dX1_init_26 : decode cX1_init 26 = .ok (.bipush 64, 2) := by decide +kernel
theorem dX1_init_28 : decode cX1_init 28 = .ok (.newarray .int, 2) := by decide +kernel
theorem dX1_init_30 : decode cX1_init 30 = .ok (.putfield 22, 3) := by decide +kernel
theorem dX1_init_33 : decode cX1_init 33 = .ok (.aload_n 0, 1) := by decide +kernel
theorem dX1_init_34 : decode cX1_init 34 = .ok (.bipush 64, 2) := by decide +kernel
theorem dX1_init_36 : decode cX1_init 36 = .ok (.newarray .int, 2) := by decide +kernel
theorem dX1_init_38 : decode cX1_init 38 = .ok (.putfield 25, 3) := by decide +kernel
theorem dX1_init_41 : decode cX1_init 41 = .ok (.aload_n 0, 1) := by decide +kernel
theorem dX1_init_42 : decode cX1_init 42 = .ok (.bipush 64, 2) := by decide +kernel
theorem dX1_init_44 : decode cX1_init 44 = .ok (.newarray .int, 2) := by decide +kernel
theorem dX1_init_46 : decode cX1_init 46 = .ok (.putfield 28, 3) := by decide +kernel
theorem dX1_init_49 : decode cX1_init 49 = .ok (.aload_n 0, 1) := by decide +kernel
theorem dX1_init_50 : decode cX1_init 50 = .ok (.getfield 28, 3) := by decide +kernel
theorem dX1_init_53 : decode cX1_init 53 = .ok (.bipush (-5), 2) := by decide +kernel
theorem dX1_init_55 : decode cX1_init 55 = .ok (.invokestatic 31, 3) := by decide +kernel
theorem dX1_init_58 : decode cX1_init 58 = .ok (.return_, 1) := by decide +kernel
theorem dX1_copyFrom_0 : decode cX1_copyFrom 0 = .ok (.aload_n 0, 1) := by decide +kernel
theorem dX1_copyFrom_1 : decode cX1_copyFrom 1 = .ok (.aload_n 1, 1) := by decide +kernel
theorem dX1_copyFrom_2 : decode cX1_copyFrom 2 = .ok (.getfield 37, 3) := by decide +kernel
theorem dX1_copyFrom_5 : decode cX1_copyFrom 5 = .ok (.putfield 37, 3) := by decide +kernel
theorem dX1_copyFrom_8 : decode cX1_copyFrom 8 = .ok (.aload_n 0, 1) := by decide +kernel
theorem dX1_copyFrom_9 : decode cX1_copyFrom 9 = .ok (.aload_n 1, 1) := by decide +kernel
theorem dX1_copyFrom_10 : decode cX1_copyFrom 10 = .ok (.getfield 9, 3) := by decide +kernel
theorem dX1_copyFrom_13 : decode cX1_copyFrom 13 = .ok (.putfield 9, 3) := by decide +kernel
theorem dX1_copyFrom_16 : decode cX1_copyFrom 16 = .ok (.aload_n 1, 1) := by decide +kernel
theorem dX1_copyFrom_17 : decode cX1_copyFrom 17 = .ok (.getfield 15, 3) := by decide +kernel
theorem dX1_copyFrom_20 : decode cX1_copyFrom 20 = .ok (.iconst 0, 1) := by decide +kernel
theorem dX1_copyFrom_21 : decode cX1_copyFrom 21 = .ok (.aload_n 0, 1) := by decide +kernel
theorem dX1_copyFrom_22 : decode cX1_copyFrom 22 = .ok (.getfield 15, 3) := by decide +kernel
theorem dX1_copyFrom_25 : decode cX1_copyFrom 25 = .ok (.iconst 0, 1) := by decide +kernel
theorem dX1_copyFrom_26 : decode cX1_copyFrom 26 = .ok (.bipush 8, 2) := by decide +kernel
theorem dX1_copyFrom_28 : decode cX1_copyFrom 28 = .ok (.invokestatic 40, 3) := by decide +kernel
theorem dX1_copyFrom_31 : decode cX1_copyFrom 31 = .ok (.aload_n 1, 1) := by decide +kernel
theorem dX1_copyFrom_32 : decode cX1_copyFrom 32 = .ok (.getfield 19, 3) := by decide +kernel
theorem dX1_copyFrom_35 : decode cX1_copyFrom 35 = .ok (.iconst 0, 1) := by decide +kernel
theorem dX1_copyFrom_36 : decode cX1_copyFrom 36 = .ok (.aload_n 0, 1) := by decide +kernel
theorem dX1_copyFrom_37 : decode cX1_copyFrom 37 = .ok (.getfield 19, 3) := by decide +kernel
theorem dX1_copyFrom_40 : decode cX1_copyFrom 40 = .ok (.iconst 0, 1) := by decide +kernel
theorem dX1_copyFrom_41 : decode cX1_copyFrom 41 = .ok (.bipush 8, 2) := by decide +kernel
theorem dX1_copyFrom_43 : decode cX1_copyFrom 43 = .ok (.invokestatic 40, 3) := by decide +kernel
theorem dX1_copyFrom_46 : decode cX1_copyFrom 46 = .ok (.aload_n 1, 1) := by decide +kernel
theorem dX1_copyFrom_47 : decode cX1_copyFrom 47 = .ok (.getfield 22, 3) := by decide +kernel
theorem dX1_copyFrom_50 : decode cX1_copyFrom 50 = .ok (.iconst 0, 1) := by decide +kernel
theorem dX1_copyFrom_51 : decode cX1_copyFrom 51 = .ok (.aload_n 0, 1) := by decide +kernel
theorem dX1_copyFrom_52 : decode cX1_copyFrom 52 = .ok (.getfield 22, 3) := by decide +kernel
theorem dX1_copyFrom_55 : decode cX1_copyFrom 55 = .ok (.iconst 0, 1) := by decide +kernel
theorem dX1_copyFrom_56 : decode cX1_copyFrom 56 = .ok (.bipush 64, 2) := by decide +kernel
theorem dX1_copyFrom_58 : decode cX1_copyFrom 58 = .ok (.invokestatic 40, 3) := by decide +kernel
theorem dX1_copyFrom_61 : decode cX1_copyFrom 61 = .ok (.aload_n 1, 1) := by decide +kernel
theorem dX1_copyFrom_62 : decode cX1_copyFrom 62 = .ok (.getfield 25, 3) := by decide +kernel
theorem dX1_copyFrom_65 : decode cX1_copyFrom 65 = .ok (.iconst 0, 1) := by decide +kernel
theorem dX1_copyFrom_66 : decode cX1_copyFrom 66 = .ok (.aload_n 0, 1) := by decide +kernel
theorem dX1_copyFrom_67 : decode cX1_copyFrom 67 = .ok (.getfield 25, 3) := by decide +kernel
theorem dX1_copyFrom_70 : decode cX1_copyFrom 70 = .ok (.iconst 0, 1) := by decide +kernel
theorem dX1_copyFrom_71 : decode cX1_copyFrom 71 = .ok (.bipush 64, 2) := by decide +kernel
theorem dX1_copyFrom_73 : decode cX1_copyFrom 73 = .ok (.invokestatic 40, 3) := by decide +kernel
theorem dX1_copyFrom_76 : decode cX1_copyFrom 76 = .ok (.aload_n 1, 1) := by decide +kernel
theorem dX1_copyFrom_77 : decode cX1_copyFrom 77 = .ok (.getfield 28, 3) := by decide +kernel
theorem dX1_copyFrom_80 : decode cX1_copyFrom 80 = .ok (.iconst 0, 1) := by decide +kernel
theorem dX1_copyFrom_81 : decode cX1_copyFrom 81 = .ok (.aload_n 0, 1) := by decide +kernel
theorem dX1_copyFrom_82 : decode cX1_copyFrom 82 = .ok (.getfield 28, 3) := by decide +kernel
theorem dX1_copyFrom_85 : decode cX1_copyFrom 85 = .ok (.iconst 0, 1) := by decide +kernel
theorem dX1_copyFrom_86 : decode cX1_copyFrom 86 = .ok (.bipush 64, 2) := by decide +kernel
theorem dX1_copyFrom_88 : decode cX1_copyFrom 88 = .ok (.invokestatic 40, 3) := by decide +kernel
theorem dX1_copyFrom_91 : decode cX1_copyFrom 91 = .ok (.return_, 1) := by decide +kernel
theorem dX1_addSignal_0 : decode cX1_addSignal 0 = .ok (.aload_n 0, 1) := by decide +kernel
theorem dX1_addSignal_1 : decode cX1_addSignal 1 = .ok (.getfield 37, 3) := by decide +kernel
theorem dX1_addSignal_4 : decode cX1_addSignal 4 = .ok (.istore_n 3, 1) := by decide +kernel
theorem dX1_addSignal_5 : decode cX1_addSignal 5 = .ok (.aload_n 0, 1) := by decide +kernel
theorem dX1_addSignal_6 : decode cX1_addSignal 6 = .ok (.dup, 1) := by decide +kernel
theorem dX1_addSignal_7 : decode cX1_addSignal 7 = .ok (.getfield 37, 3) := by decide +kernel
theorem dX1_addSignal_10 : decode cX1_addSignal 10 = .ok (.iconst 1, 1) := by decide +kernel
theorem dX1_addSignal_11 : decode cX1_addSignal 11 = .ok (.iadd, 1) := by decide +kernel
theorem dX1_addSignal_12 : decode cX1_addSignal 12 = .ok (.putfield 37, 3) := by decide +kernel
theorem dX1_addSignal_15 : decode cX1_addSignal 15 = .ok (.aload_n 0, 1) := by decide +kernel
theorem dX1_addSignal_16 : decode cX1_addSignal 16 = .ok (.getfield 15, 3) := by decide +kernel
theorem dX1_addSignal_19 : decode cX1_addSignal 19 = .ok (.iload_n 3, 1) := by decide +kernel
theorem dX1_addSignal_20 : decode cX1_addSignal 20 = .ok (.iload_n 1, 1) := by decide +kernel
theorem dX1_addSignal_21 : decode cX1_addSignal 21 = .ok (.iastore, 1) := by decide +kernel
theorem dX1_addSignal_22 : decode cX1_addSignal 22 = .ok (.aload_n 0, 1) := by decide +kernel
theorem dX1_addSignal_23 : decode cX1_addSignal 23 = .ok (.iload_n 3, 1) := by decide +kernel
theorem dX1_addSignal_24 : decode cX1_addSignal 24 = .ok (.iload_n 2, 1) := by decide +kernel
theorem dX1_addSignal_25 : decode cX1_addSignal 25 = .ok (.invokevirtual 46, 3) := by decide +kernel
theorem dX1_addSignal_28 : decode cX1_addSignal 28 = .ok (.pop, 1) := by decide +kernel
theorem dX1_addSignal_29 : decode cX1_addSignal 29 = .ok (.iload_n 3, 1) := by decide +kernel
theorem dX1_addSignal_30 : decode cX1_addSignal 30 = .ok (.ireturn, 1) := by decide +kernel
theorem dX1_addCell_0 : decode cX1_addCell 0 = .ok (.aload_n 0, 1) := by decide +kernel
theorem dX1_addCell_1 : decode cX1_addCell 1 = .ok (.getfield 22, 3) := by decide +kernel
theorem dX1_addCell_4 : decode cX1_addCell 4 = .ok (.iload_n 1, 1) := by decide +kernel
theorem dX1_addCell_5 : decode cX1_addCell 5 = .ok (.bipush 8, 2) := by decide +kernel
theorem dX1_addCell_7 : decode cX1_addCell 7 = .ok (.imul, 1) := by decide +kernel
theorem dX1_addCell_8 : decode cX1_addCell 8 = .ok (.aload_n 0, 1) := by decide +kernel
theorem dX1_addCell_9 : decode cX1_addCell 9 = .ok (.getfield 19, 3) := by decide +kernel
theorem dX1_addCell_12 : decode cX1_addCell 12 = .ok (.iload_n 1, 1) := by decide +kernel
theorem dX1_addCell_13 : decode cX1_addCell 13 = .ok (.iaload, 1) := by decide +kernel
theorem dX1_addCell_14 : decode cX1_addCell 14 = .ok (.iadd, 1) := by decide +kernel
theorem dX1_addCell_15 : decode cX1_addCell 15 = .ok (.iload_n 2, 1) := by decide +kernel
theorem dX1_addCell_16 : decode cX1_addCell 16 = .ok (.iastore, 1) := by decide +kernel
theorem dX1_addCell_17 : decode cX1_addCell 17 = .ok (.aload_n 0, 1) := by decide +kernel
theorem dX1_addCell_18 : decode cX1_addCell 18 = .ok (.getfield 19, 3) := by decide +kernel
theorem dX1_addCell_21 : decode cX1_addCell 21 = .ok (.iload_n 1, 1) := by decide +kernel
theorem dX1_addCell_22 : decode cX1_addCell 22 = .ok (.dup2, 1) := by decide +kernel
theorem dX1_addCell_23 : decode cX1_addCell 23 = .ok (.iaload, 1) := by decide +kernel
theorem dX1_addCell_24 : decode cX1_addCell 24 = .ok (.iconst 1, 1) := by decide +kernel
theorem dX1_addCell_25 : decode cX1_addCell 25 = .ok (.iadd, 1) := by decide +kernel
theorem dX1_addCell_26 : decode cX1_addCell 26 = .ok (.iastore, 1) := by decide +kernel
theorem dX1_addCell_27 : decode cX1_addCell 27 = .ok (.iconst 0, 1) := by decide +kernel
theorem dX1_addCell_28 : decode cX1_addCell 28 = .ok (.istore_n 3, 1) := by decide +kernel
theorem dX1_addCell_29 : decode cX1_addCell 29 = .ok (.iload_n 3, 1) := by decide +kernel
theorem dX1_addCell_30 : decode cX1_addCell 30 = .ok (.aload_n 0, 1) := by decide +kernel
theorem dX1_addCell_31 : decode cX1_addCell 31 = .ok (.getfield 37, 3) := by decide +kernel
theorem dX1_addCell_34 : decode cX1_addCell 34 = .ok (.if_icmp .ge 26, 3) := by decide +kernel
theorem dX1_addCell_37 : decode cX1_addCell 37 = .ok (.iload_n 3, 1) := by decide +kernel
theorem dX1_addCell_38 : decode cX1_addCell 38 = .ok (.iload_n 1, 1) := by decide +kernel
theorem dX1_addCell_39 : decode cX1_addCell 39 = .ok (.if_icmp .eq 15, 3) := by decide +kernel
theorem dX1_addCell_42 : decode cX1_addCell 42 = .ok (.aload_n 0, 1) := by decide +kernel
theorem dX1_addCell_43 : decode cX1_addCell 43 = .ok (.iload_n 1, 1) := by decide +kernel
theorem dX1_addCell_44 : decode cX1_addCell 44 = .ok (.iload_n 3, 1) := by decide +kernel
theorem dX1_addCell_45 : decode cX1_addCell 45 = .ok (.invokevirtual 50, 3) := by decide +kernel
theorem dX1_addCell_48 : decode cX1_addCell 48 = .ok (.aload_n 0, 1) := by decide +kernel
theorem dX1_addCell_49 : decode cX1_addCell 49 = .ok (.iload_n 3, 1) := by decide +kernel
theorem dX1_addCell_50 : decode cX1_addCell 50 = .ok (.iload_n 1, 1) := by decide +kernel
theorem dX1_addCell_51 : decode cX1_addCell 51 = .ok (.invokevirtual 50, 3) := by decide +kernel
theorem dX1_addCell_54 : decode cX1_addCell 54 = .ok (.iinc 3 1, 3) := by decide +kernel
theorem dX1_addCell_57 : decode cX1_addCell 57 = .ok (.goto (-28), 3) := by decide +kernel
theorem dX1_addCell_60 : decode cX1_addCell 60 = .ok (.aload_n 0, 1) := by decide +kernel
theorem dX1_addCell_61 : decode cX1_addCell 61 = .ok (.getfield 19, 3) := by decide +kernel
theorem dX1_addCell_64 : decode cX1_addCell 64 = .ok (.iload_n 1, 1) := by decide +kernel
theorem dX1_addCell_65 : decode cX1_addCell 65 = .ok (.iaload, 1) := by decide +kernel
theorem dX1_addCell_66 : decode cX1_addCell 66 = .ok (.ireturn, 1) := by decide +kernel
theorem dX1_measure_0 : decode cX1_measure 0 = .ok (.bipush (-5), 2) := by decide +kernel
theorem dX1_measure_2 : decode cX1_measure 2 = .ok (.istore_n 3, 1) := by decide +kernel
theorem dX1_measure_3 : decode cX1_measure 3 = .ok (.iconst 0, 1) := by decide +kernel
theorem dX1_measure_4 : decode cX1_measure 4 = .ok (.istore 4, 2) := by decide +kernel
theorem dX1_measure_6 : decode cX1_measure 6 = .ok (.iconst 0, 1) := by decide +kernel
theorem dX1_measure_7 : decode cX1_measure 7 = .ok (.istore 5, 2) := by decide +kernel
theorem dX1_measure_9 : decode cX1_measure 9 = .ok (.iload 5, 2) := by decide +kernel
theorem dX1_measure_11 : decode cX1_measure 11 = .ok (.aload_n 0, 1) := by decide +kernel
theorem dX1_measure_12 : decode cX1_measure 12 = .ok (.getfield 19, 3) := by decide +kernel
theorem dX1_measure_15 : decode cX1_measure 15 = .ok (.iload_n 1, 1) := by decide +kernel
theorem dX1_measure_16 : decode cX1_measure 16 = .ok (.iaload, 1) := by decide +kernel
theorem dX1_measure_17 : decode cX1_measure 17 = .ok (.if_icmp .ge 76, 3) := by decide +kernel
theorem dX1_measure_20 : decode cX1_measure 20 = .ok (.aload_n 0, 1) := by decide +kernel
theorem dX1_measure_21 : decode cX1_measure 21 = .ok (.iload_n 1, 1) := by decide +kernel
theorem dX1_measure_22 : decode cX1_measure 22 = .ok (.iload 5, 2) := by decide +kernel
theorem dX1_measure_24 : decode cX1_measure 24 = .ok (.invokevirtual 54, 3) := by decide +kernel
theorem dX1_measure_27 : decode cX1_measure 27 = .ok (.istore 6, 2) := by decide +kernel
theorem dX1_measure_29 : decode cX1_measure 29 = .ok (.aload_n 0, 1) := by decide +kernel
theorem dX1_measure_30 : decode cX1_measure 30 = .ok (.iload_n 2, 1) := by decide +kernel
theorem dX1_measure_31 : decode cX1_measure 31 = .ok (.iload 6, 2) := by decide +kernel
theorem dX1_measure_33 : decode cX1_measure 33 = .ok (.invokevirtual 57, 3) := by decide +kernel
theorem dX1_measure_36 : decode cX1_measure 36 = .ok (.istore 7, 2) := by decide +kernel
theorem dX1_measure_38 : decode cX1_measure 38 = .ok (.iload 7, 2) := by decide +kernel
theorem dX1_measure_40 : decode cX1_measure 40 = .ok (.bipush (-5), 2) := by decide +kernel
theorem dX1_measure_42 : decode cX1_measure 42 = .ok (.if_icmp .ne 6, 3) := by decide +kernel
theorem dX1_measure_45 : decode cX1_measure 45 = .ok (.goto 42, 3) := by decide +kernel
theorem dX1_measure_48 : decode cX1_measure 48 = .ok (.aload_n 0, 1) := by decide +kernel
theorem dX1_measure_49 : decode cX1_measure 49 = .ok (.iload_n 1, 1) := by decide +kernel
theorem dX1_measure_50 : decode cX1_measure 50 = .ok (.iload 5, 2) := by decide +kernel
theorem dX1_measure_52 : decode cX1_measure 52 = .ok (.iconst 0, 1) := by decide +kernel
theorem dX1_measure_53 : decode cX1_measure 53 = .ok (.invokevirtual 60, 3) := by decide +kernel
theorem dX1_measure_56 : decode cX1_measure 56 = .ok (.aload_n 0, 1) := by decide +kernel
theorem dX1_measure_57 : decode cX1_measure 57 = .ok (.iload_n 2, 1) := by decide +kernel
theorem dX1_measure_58 : decode cX1_measure 58 = .ok (.iload 7, 2) := by decide +kernel
theorem dX1_measure_60 : decode cX1_measure 60 = .ok (.iconst 0, 1) := by decide +kernel
theorem dX1_measure_61 : decode cX1_measure 61 = .ok (.invokevirtual 64, 3) := by decide +kernel
theorem dX1_measure_64 : decode cX1_measure 64 = .ok (.isub, 1) := by decide +kernel
theorem dX1_measure_65 : decode cX1_measure 65 = .ok (.istore 8, 2) := by decide +kernel
theorem dX1_measure_67 : decode cX1_measure 67 = .ok (.iload_n 3, 1) := by decide +kernel
theorem dX1_measure_68 : decode cX1_measure 68 = .ok (.bipush (-5), 2) := by decide +kernel
theorem dX1_measure_70 : decode cX1_measure 70 = .ok (.if_icmp .eq 10, 3) := by decide +kernel
theorem dX1_measure_73 : decode cX1_measure 73 = .ok (.iload 8, 2) := by decide +kernel
theorem dX1_measure_75 : decode cX1_measure 75 = .ok (.iload 4, 2) := by decide +kernel
theorem dX1_measure_77 : decode cX1_measure 77 = .ok (.if_icmp .le 10, 3) := by decide +kernel
theorem dX1_measure_80 : decode cX1_measure 80 = .ok (.iload 6, 2) := by decide +kernel
theorem dX1_measure_82 : decode cX1_measure 82 = .ok (.istore_n 3, 1) := by decide +kernel
theorem dX1_measure_83 : decode cX1_measure 83 = .ok (.iload 8, 2) := by decide +kernel
theorem dX1_measure_85 : decode cX1_measure 85 = .ok (.istore 4, 2) := by decide +kernel
theorem dX1_measure_87 : decode cX1_measure 87 = .ok (.iinc 5 1, 3) := by decide +kernel
theorem dX1_measure_90 : decode cX1_measure 90 = .ok (.goto (-81), 3) := by decide +kernel
theorem dX1_measure_93 : decode cX1_measure 93 = .ok (.aload_n 0, 1) := by decide +kernel
theorem dX1_measure_94 : decode cX1_measure 94 = .ok (.getfield 28, 3) := by decide +kernel
theorem dX1_measure_97 : decode cX1_measure 97 = .ok (.iload_n 1, 1) := by decide +kernel
theorem dX1_measure_98 : decode cX1_measure 98 = .ok (.bipush 8, 2) := by decide +kernel
theorem dX1_measure_100 : decode cX1_measure 100 = .ok (.imul, 1) := by decide +kernel
theorem dX1_measure_101 : decode cX1_measure 101 = .ok (.iload_n 2, 1) := by decide +kernel
theorem dX1_measure_102 : decode cX1_measure 102 = .ok (.iadd, 1) := by decide +kernel
theorem dX1_measure_103 : decode cX1_measure 103 = .ok (.iload_n 3, 1) := by decide +kernel
theorem dX1_measure_104 : decode cX1_measure 104 = .ok (.iastore, 1) := by decide +kernel
theorem dX1_measure_105 : decode cX1_measure 105 = .ok (.aload_n 0, 1) := by decide +kernel
theorem dX1_measure_106 : decode cX1_measure 106 = .ok (.getfield 25, 3) := by decide +kernel
theorem dX1_measure_109 : decode cX1_measure 109 = .ok (.iload_n 1, 1) := by decide +kernel
theorem dX1_measure_110 : decode cX1_measure 110 = .ok (.bipush 8, 2) := by decide +kernel
theorem dX1_measure_112 : decode cX1_measure 112 = .ok (.imul, 1) := by decide +kernel
theorem dX1_measure_113 : decode cX1_measure 113 = .ok (.iload_n 2, 1) := by decide +kernel
theorem dX1_measure_114 : decode cX1_measure 114 = .ok (.iadd, 1) := by decide +kernel
theorem dX1_measure_115 : decode cX1_measure 115 = .ok (.iload 4, 2) := by decide +kernel
theorem dX1_measure_117 : decode cX1_measure 117 = .ok (.aload_n 0, 1) := by decide +kernel
theorem dX1_measure_118 : decode cX1_measure 118 = .ok (.iload_n 1, 1) := by decide +kernel
theorem dX1_measure_119 : decode cX1_measure 119 = .ok (.invokevirtual 67, 3) := by decide +kernel
theorem dX1_measure_122 : decode cX1_measure 122 = .ok (.invokestatic 71, 3) := by decide +kernel
theorem dX1_measure_125 : decode cX1_measure 125 = .ok (.iastore, 1) := by decide +kernel
theorem dX1_measure_126 : decode cX1_measure 126 = .ok (.return_, 1) := by decide +kernel
theorem dX1_cellAt_0 : decode cX1_cellAt 0 = .ok (.aload_n 0, 1) := by decide +kernel
theorem dX1_cellAt_1 : decode cX1_cellAt 1 = .ok (.getfield 22, 3) := by decide +kernel
theorem dX1_cellAt_4 : decode cX1_cellAt 4 = .ok (.iload_n 1, 1) := by decide +kernel
theorem dX1_cellAt_5 : decode cX1_cellAt 5 = .ok (.bipush 8, 2) := by decide +kernel
theorem dX1_cellAt_7 : decode cX1_cellAt 7 = .ok (.imul, 1) := by decide +kernel
theorem dX1_cellAt_8 : decode cX1_cellAt 8 = .ok (.iload_n 2, 1) := by decide +kernel
theorem dX1_cellAt_9 : decode cX1_cellAt 9 = .ok (.iadd, 1) := by decide +kernel
theorem dX1_cellAt_10 : decode cX1_cellAt 10 = .ok (.iaload, 1) := by decide +kernel
theorem dX1_cellAt_11 : decode cX1_cellAt 11 = .ok (.ireturn, 1) := by decide +kernel
theorem dX1_placeOf_0 : decode cX1_placeOf 0 = .ok (.iconst 0, 1) := by decide +kernel
theorem dX1_placeOf_1 : decode cX1_placeOf 1 = .ok (.istore_n 3, 1) := by decide +kernel
theorem dX1_placeOf_2 : decode cX1_placeOf 2 = .ok (.iload_n 3, 1) := by decide +kernel
theorem dX1_placeOf_3 : decode cX1_placeOf 3 = .ok (.aload_n 0, 1) := by decide +kernel
theorem dX1_placeOf_4 : decode cX1_placeOf 4 = .ok (.getfield 19, 3) := by decide +kernel
theorem dX1_placeOf_7 : decode cX1_placeOf 7 = .ok (.iload_n 1, 1) := by decide +kernel
theorem dX1_placeOf_8 : decode cX1_placeOf 8 = .ok (.iaload, 1) := by decide +kernel
theorem dX1_placeOf_9 : decode cX1_placeOf 9 = .ok (.if_icmp .ge 21, 3) := by decide +kernel
theorem dX1_placeOf_12 : decode cX1_placeOf 12 = .ok (.aload_n 0, 1) := by decide +kernel
theorem dX1_placeOf_13 : decode cX1_placeOf 13 = .ok (.iload_n 1, 1) := by decide +kernel
theorem dX1_placeOf_14 : decode cX1_placeOf 14 = .ok (.iload_n 3, 1) := by decide +kernel
theorem dX1_placeOf_15 : decode cX1_placeOf 15 = .ok (.invokevirtual 54, 3) := by decide +kernel
theorem dX1_placeOf_18 : decode cX1_placeOf 18 = .ok (.iload_n 2, 1) := by decide +kernel
theorem dX1_placeOf_19 : decode cX1_placeOf 19 = .ok (.if_icmp .ne 5, 3) := by decide +kernel
theorem dX1_placeOf_22 : decode cX1_placeOf 22 = .ok (.iload_n 3, 1) := by decide +kernel
theorem dX1_placeOf_23 : decode cX1_placeOf 23 = .ok (.ireturn, 1) := by decide +kernel
theorem dX1_placeOf_24 : decode cX1_placeOf 24 = .ok (.iinc 3 1, 3) := by decide +kernel
theorem dX1_placeOf_27 : decode cX1_placeOf 27 = .ok (.goto (-25), 3) := by decide +kernel
theorem dX1_placeOf_30 : decode cX1_placeOf 30 = .ok (.bipush (-5), 2) := by decide +kernel
theorem dX1_placeOf_32 : decode cX1_placeOf 32 = .ok (.ireturn, 1) := by decide +kernel
theorem dX1_amber_0 : decode cX1_amber 0 = .ok (.getstatic 76, 3) := by decide +kernel
theorem dX1_amber_3 : decode cX1_amber 3 = .ok (.aload_n 0, 1) := by decide +kernel
theorem dX1_amber_4 : decode cX1_amber 4 = .ok (.getfield 15, 3) := by decide +kernel
theorem dX1_amber_7 : decode cX1_amber 7 = .ok (.iload_n 1, 1) := by decide +kernel
theorem dX1_amber_8 : decode cX1_amber 8 = .ok (.iaload, 1) := by decide +kernel
theorem dX1_amber_9 : decode cX1_amber 9 = .ok (.iaload, 1) := by decide +kernel
theorem dX1_amber_10 : decode cX1_amber 10 = .ok (.ireturn, 1) := by decide +kernel
theorem dX1_pace_0 : decode cX1_pace 0 = .ok (.getstatic 79, 3) := by decide +kernel
theorem dX1_pace_3 : decode cX1_pace 3 = .ok (.aload_n 0, 1) := by decide +kernel
theorem dX1_pace_4 : decode cX1_pace 4 = .ok (.getfield 15, 3) := by decide +kernel
theorem dX1_pace_7 : decode cX1_pace 7 = .ok (.iload_n 1, 1) := by decide +kernel
theorem dX1_pace_8 : decode cX1_pace 8 = .ok (.iaload, 1) := by decide +kernel
theorem dX1_pace_9 : decode cX1_pace 9 = .ok (.iaload, 1) := by decide +kernel
theorem dX1_pace_10 : decode cX1_pace 10 = .ok (.ireturn, 1) := by decide +kernel
theorem dX1_reaches_0 : decode cX1_reaches 0 = .ok (.iload_n 3, 1) := by decide +kernel
theorem dX1_reaches_1 : decode cX1_reaches 1 = .ok (.aload_n 0, 1) := by decide +kernel
theorem dX1_reaches_2 : decode cX1_reaches 2 = .ok (.iload_n 1, 1) := by decide +kernel
theorem dX1_reaches_3 : decode cX1_reaches 3 = .ok (.invokevirtual 82, 3) := by decide +kernel
theorem dX1_reaches_6 : decode cX1_reaches 6 = .ok (.iload_n 2, 1) := by decide +kernel
theorem dX1_reaches_7 : decode cX1_reaches 7 = .ok (.imul, 1) := by decide +kernel
theorem dX1_reaches_8 : decode cX1_reaches 8 = .ok (.iadd, 1) := by decide +kernel
theorem dX1_reaches_9 : decode cX1_reaches 9 = .ok (.ireturn, 1) := by decide +kernel
theorem dX1_leaves_0 : decode cX1_leaves 0 = .ok (.iload_n 3, 1) := by decide +kernel
theorem dX1_leaves_1 : decode cX1_leaves 1 = .ok (.aload_n 0, 1) := by decide +kernel
theorem dX1_leaves_2 : decode cX1_leaves 2 = .ok (.iload_n 1, 1) := by decide +kernel
theorem dX1_leaves_3 : decode cX1_leaves 3 = .ok (.invokevirtual 67, 3) := by decide +kernel
theorem dX1_leaves_6 : decode cX1_leaves 6 = .ok (.iadd, 1) := by decide +kernel
theorem dX1_leaves_7 : decode cX1_leaves 7 = .ok (.aload_n 0, 1) := by decide +kernel
theorem dX1_leaves_8 : decode cX1_leaves 8 = .ok (.iload_n 1, 1) := by decide +kernel
theorem dX1_leaves_9 : decode cX1_leaves 9 = .ok (.invokevirtual 82, 3) := by decide +kernel
theorem dX1_leaves_12 : decode cX1_leaves 12 = .ok (.iload_n 2, 1) := by decide +kernel
theorem dX1_leaves_13 : decode cX1_leaves 13 = .ok (.iconst 1, 1) := by decide +kernel
theorem dX1_leaves_14 : decode cX1_leaves 14 = .ok (.iadd, 1) := by decide +kernel
theorem dX1_leaves_15 : decode cX1_leaves 15 = .ok (.imul, 1) := by decide +kernel
theorem dX1_leaves_16 : decode cX1_leaves 16 = .ok (.iadd, 1) := by decide +kernel
theorem dX1_leaves_17 : decode cX1_leaves 17 = .ok (.ireturn, 1) := by decide +kernel
theorem dX1_meet_0 : decode cX1_meet 0 = .ok (.aload_n 0, 1) := by decide +kernel
theorem dX1_meet_1 : decode cX1_meet 1 = .ok (.getfield 28, 3) := by decide +kernel
theorem dX1_meet_4 : decode cX1_meet 4 = .ok (.iload_n 1, 1) := by decide +kernel
theorem dX1_meet_5 : decode cX1_meet 5 = .ok (.bipush 8, 2) := by decide +kernel
theorem dX1_meet_7 : decode cX1_meet 7 = .ok (.imul, 1) := by decide +kernel
theorem dX1_meet_8 : decode cX1_meet 8 = .ok (.iload_n 2, 1) := by decide +kernel
theorem dX1_meet_9 : decode cX1_meet 9 = .ok (.iadd, 1) := by decide +kernel
theorem dX1_meet_10 : decode cX1_meet 10 = .ok (.iaload, 1) := by decide +kernel
theorem dX1_meet_11 : decode cX1_meet 11 = .ok (.bipush (-5), 2) := by decide +kernel
theorem dX1_meet_13 : decode cX1_meet 13 = .ok (.if_icmp .eq 7, 3) := by decide +kernel
theorem dX1_meet_16 : decode cX1_meet 16 = .ok (.iconst 1, 1) := by decide +kernel
theorem dX1_meet_17 : decode cX1_meet 17 = .ok (.goto 4, 3) := by decide +kernel
theorem dX1_meet_20 : decode cX1_meet 20 = .ok (.iconst 0, 1) := by decide +kernel
theorem dX1_meet_21 : decode cX1_meet 21 = .ok (.ireturn, 1) := by decide +kernel
theorem dX1_clearOf_0 : decode cX1_clearOf 0 = .ok (.aload_n 0, 1) := by decide +kernel
theorem dX1_clearOf_1 : decode cX1_clearOf 1 = .ok (.getfield 25, 3) := by decide +kernel
theorem dX1_clearOf_4 : decode cX1_clearOf 4 = .ok (.iload_n 1, 1) := by decide +kernel
theorem dX1_clearOf_5 : decode cX1_clearOf 5 = .ok (.bipush 8, 2) := by decide +kernel
theorem dX1_clearOf_7 : decode cX1_clearOf 7 = .ok (.imul, 1) := by decide +kernel
theorem dX1_clearOf_8 : decode cX1_clearOf 8 = .ok (.iload_n 2, 1) := by decide +kernel
theorem dX1_clearOf_9 : decode cX1_clearOf 9 = .ok (.iadd, 1) := by decide +kernel
theorem dX1_clearOf_10 : decode cX1_clearOf 10 = .ok (.iaload, 1) := by decide +kernel
theorem dX1_clearOf_11 : decode cX1_clearOf 11 = .ok (.aload_n 0, 1) := by decide +kernel
theorem dX1_clearOf_12 : decode cX1_clearOf 12 = .ok (.getfield 9, 3) := by decide +kernel
theorem dX1_clearOf_15 : decode cX1_clearOf 15 = .ok (.iadd, 1) := by decide +kernel
theorem dX1_clearOf_16 : decode cX1_clearOf 16 = .ok (.ireturn, 1) := by decide +kernel
theorem dX1_meetersOf_0 : decode cX1_meetersOf 0 = .ok (.iconst 0, 1) := by decide +kernel
theorem dX1_meetersOf_1 : decode cX1_meetersOf 1 = .ok (.istore_n 2, 1) := by decide +kernel
theorem dX1_meetersOf_2 : decode cX1_meetersOf 2 = .ok (.iconst 0, 1) := by decide +kernel
theorem dX1_meetersOf_3 : decode cX1_meetersOf 3 = .ok (.istore_n 3, 1) := by decide +kernel
theorem dX1_meetersOf_4 : decode cX1_meetersOf 4 = .ok (.iload_n 3, 1) := by decide +kernel
theorem dX1_meetersOf_5 : decode cX1_meetersOf 5 = .ok (.aload_n 0, 1) := by decide +kernel
theorem dX1_meetersOf_6 : decode cX1_meetersOf 6 = .ok (.getfield 37, 3) := by decide +kernel
theorem dX1_meetersOf_9 : decode cX1_meetersOf 9 = .ok (.if_icmp .ge 24, 3) := by decide +kernel
theorem dX1_meetersOf_12 : decode cX1_meetersOf 12 = .ok (.aload_n 0, 1) := by decide +kernel
theorem dX1_meetersOf_13 : decode cX1_meetersOf 13 = .ok (.iload_n 1, 1) := by decide +kernel
theorem dX1_meetersOf_14 : decode cX1_meetersOf 14 = .ok (.iload_n 3, 1) := by decide +kernel
theorem dX1_meetersOf_15 : decode cX1_meetersOf 15 = .ok (.invokevirtual 85, 3) := by decide +kernel
theorem dX1_meetersOf_18 : decode cX1_meetersOf 18 = .ok (.ifCond .eq 9, 3) := by decide +kernel
theorem dX1_meetersOf_21 : decode cX1_meetersOf 21 = .ok (.iload_n 2, 1) := by decide +kernel
theorem dX1_meetersOf_22 : decode cX1_meetersOf 22 = .ok (.iconst 1, 1) := by decide +kernel
theorem dX1_meetersOf_23 : decode cX1_meetersOf 23 = .ok (.iload_n 3, 1) := by decide +kernel
theorem dX1_meetersOf_24 : decode cX1_meetersOf 24 = .ok (.ishl, 1) := by decide +kernel
theorem dX1_meetersOf_25 : decode cX1_meetersOf 25 = .ok (.ior, 1) := by decide +kernel
theorem dX1_meetersOf_26 : decode cX1_meetersOf 26 = .ok (.istore_n 2, 1) := by decide +kernel
theorem dX1_meetersOf_27 : decode cX1_meetersOf 27 = .ok (.iinc 3 1, 3) := by decide +kernel
theorem dX1_meetersOf_30 : decode cX1_meetersOf 30 = .ok (.goto (-26), 3) := by decide +kernel
theorem dX1_meetersOf_33 : decode cX1_meetersOf 33 = .ok (.iload_n 2, 1) := by decide +kernel
theorem dX1_meetersOf_34 : decode cX1_meetersOf 34 = .ok (.ireturn, 1) := by decide +kernel
theorem dX1_twoMeetIn_0 : decode cX1_twoMeetIn 0 = .ok (.iconst 0, 1) := by decide +kernel
theorem dX1_twoMeetIn_1 : decode cX1_twoMeetIn 1 = .ok (.istore_n 2, 1) := by decide +kernel
theorem dX1_twoMeetIn_2 : decode cX1_twoMeetIn 2 = .ok (.iload_n 2, 1) := by decide +kernel
theorem dX1_twoMeetIn_3 : decode cX1_twoMeetIn 3 = .ok (.aload_n 0, 1) := by decide +kernel
theorem dX1_twoMeetIn_4 : decode cX1_twoMeetIn 4 = .ok (.getfield 37, 3) := by decide +kernel
theorem dX1_twoMeetIn_7 : decode cX1_twoMeetIn 7 = .ok (.if_icmp .ge 29, 3) := by decide +kernel
theorem dX1_twoMeetIn_10 : decode cX1_twoMeetIn 10 = .ok (.iload_n 1, 1) := by decide +kernel
theorem dX1_twoMeetIn_11 : decode cX1_twoMeetIn 11 = .ok (.iload_n 2, 1) := by decide +kernel
theorem dX1_twoMeetIn_12 : decode cX1_twoMeetIn 12 = .ok (.invokestatic 89, 3) := by decide +kernel
theorem dX1_twoMeetIn_15 : decode cX1_twoMeetIn 15 = .ok (.ifCond .eq 15, 3) := by decide +kernel
theorem dX1_twoMeetIn_18 : decode cX1_twoMeetIn 18 = .ok (.aload_n 0, 1) := by decide +kernel
theorem dX1_twoMeetIn_19 : decode cX1_twoMeetIn 19 = .ok (.iload_n 2, 1) := by decide +kernel
theorem dX1_twoMeetIn_20 : decode cX1_twoMeetIn 20 = .ok (.invokevirtual 92, 3) := by decide +kernel
theorem dX1_twoMeetIn_23 : decode cX1_twoMeetIn 23 = .ok (.iload_n 1, 1) := by decide +kernel
theorem dX1_twoMeetIn_24 : decode cX1_twoMeetIn 24 = .ok (.iand, 1) := by decide +kernel
theorem dX1_twoMeetIn_25 : decode cX1_twoMeetIn 25 = .ok (.ifCond .eq 5, 3) := by decide +kernel
theorem dX1_twoMeetIn_28 : decode cX1_twoMeetIn 28 = .ok (.iconst 1, 1) := by decide +kernel
theorem dX1_twoMeetIn_29 : decode cX1_twoMeetIn 29 = .ok (.ireturn, 1) := by decide +kernel
theorem dX1_twoMeetIn_30 : decode cX1_twoMeetIn 30 = .ok (.iinc 2 1, 3) := by decide +kernel
theorem dX1_twoMeetIn_33 : decode cX1_twoMeetIn 33 = .ok (.goto (-31), 3) := by decide +kernel
theorem dX1_twoMeetIn_36 : decode cX1_twoMeetIn 36 = .ok (.iconst 0, 1) := by decide +kernel
theorem dX1_twoMeetIn_37 : decode cX1_twoMeetIn 37 = .ok (.ireturn, 1) := by decide +kernel
theorem dX1_meetings_0 : decode cX1_meetings 0 = .ok (.iconst 0, 1) := by decide +kernel
theorem dX1_meetings_1 : decode cX1_meetings 1 = .ok (.istore_n 1, 1) := by decide +kernel
theorem dX1_meetings_2 : decode cX1_meetings 2 = .ok (.iconst 0, 1) := by decide +kernel
theorem dX1_meetings_3 : decode cX1_meetings 3 = .ok (.istore_n 2, 1) := by decide +kernel
theorem dX1_meetings_4 : decode cX1_meetings 4 = .ok (.iload_n 2, 1) := by decide +kernel
theorem dX1_meetings_5 : decode cX1_meetings 5 = .ok (.aload_n 0, 1) := by decide +kernel
theorem dX1_meetings_6 : decode cX1_meetings 6 = .ok (.getfield 37, 3) := by decide +kernel
theorem dX1_meetings_9 : decode cX1_meetings 9 = .ok (.if_icmp .ge 20, 3) := by decide +kernel
theorem dX1_meetings_12 : decode cX1_meetings 12 = .ok (.iload_n 1, 1) := by decide +kernel
theorem dX1_meetings_13 : decode cX1_meetings 13 = .ok (.aload_n 0, 1) := by decide +kernel
theorem dX1_meetings_14 : decode cX1_meetings 14 = .ok (.iload_n 2, 1) := by decide +kernel
theorem dX1_meetings_15 : decode cX1_meetings 15 = .ok (.invokevirtual 92, 3) := by decide +kernel
theorem dX1_meetings_18 : decode cX1_meetings 18 = .ok (.invokestatic 95, 3) := by decide +kernel
theorem dX1_meetings_21 : decode cX1_meetings 21 = .ok (.iadd, 1) := by decide +kernel
theorem dX1_meetings_22 : decode cX1_meetings 22 = .ok (.istore_n 1, 1) := by decide +kernel
theorem dX1_meetings_23 : decode cX1_meetings 23 = .ok (.iinc 2 1, 3) := by decide +kernel
theorem dX1_meetings_26 : decode cX1_meetings 26 = .ok (.goto (-22), 3) := by decide +kernel
theorem dX1_meetings_29 : decode cX1_meetings 29 = .ok (.iload_n 1, 1) := by decide +kernel
theorem dX1_meetings_30 : decode cX1_meetings 30 = .ok (.iconst 2, 1) := by decide +kernel
theorem dX1_meetings_31 : decode cX1_meetings 31 = .ok (.idiv, 1) := by decide +kernel
theorem dX1_meetings_32 : decode cX1_meetings 32 = .ok (.ireturn, 1) := by decide +kernel
theorem dX1_greatestClear_0 : decode cX1_greatestClear 0 = .ok (.iconst 0, 1) := by decide +kernel
theorem dX1_greatestClear_1 : decode cX1_greatestClear 1 = .ok (.istore_n 1, 1) := by decide +kernel
theorem dX1_greatestClear_2 : decode cX1_greatestClear 2 = .ok (.iconst 0, 1) := by decide +kernel
theorem dX1_greatestClear_3 : decode cX1_greatestClear 3 = .ok (.istore_n 2, 1) := by decide +kernel
theorem dX1_greatestClear_4 : decode cX1_greatestClear 4 = .ok (.iload_n 2, 1) := by decide +kernel
theorem dX1_greatestClear_5 : decode cX1_greatestClear 5 = .ok (.aload_n 0, 1) := by decide +kernel
theorem dX1_greatestClear_6 : decode cX1_greatestClear 6 = .ok (.getfield 37, 3) := by decide +kernel
theorem dX1_greatestClear_9 : decode cX1_greatestClear 9 = .ok (.if_icmp .ge 45, 3) := by decide +kernel
theorem dX1_greatestClear_12 : decode cX1_greatestClear 12 = .ok (.iconst 0, 1) := by decide +kernel
theorem dX1_greatestClear_13 : decode cX1_greatestClear 13 = .ok (.istore_n 3, 1) := by decide +kernel
theorem dX1_greatestClear_14 : decode cX1_greatestClear 14 = .ok (.iload_n 3, 1) := by decide +kernel
theorem dX1_greatestClear_15 : decode cX1_greatestClear 15 = .ok (.aload_n 0, 1) := by decide +kernel
theorem dX1_greatestClear_16 : decode cX1_greatestClear 16 = .ok (.getfield 37, 3) := by decide +kernel
theorem dX1_greatestClear_19 : decode cX1_greatestClear 19 = .ok (.if_icmp .ge 29, 3) := by decide +kernel
theorem dX1_greatestClear_22 : decode cX1_greatestClear 22 = .ok (.aload_n 0, 1) := by decide +kernel
theorem dX1_greatestClear_23 : decode cX1_greatestClear 23 = .ok (.iload_n 2, 1) := by decide +kernel
theorem dX1_greatestClear_24 : decode cX1_greatestClear 24 = .ok (.iload_n 3, 1) := by decide +kernel
theorem dX1_greatestClear_25 : decode cX1_greatestClear 25 = .ok (.invokevirtual 85, 3) := by decide +kernel
theorem dX1_greatestClear_28 : decode cX1_greatestClear 28 = .ok (.ifCond .eq 14, 3) := by decide +kernel
theorem dX1_greatestClear_31 : decode cX1_greatestClear 31 = .ok (.iload_n 1, 1) := by decide +kernel
theorem dX1_greatestClear_32 : decode cX1_greatestClear 32 = .ok (.aload_n 0, 1) := by decide +kernel
theorem dX1_greatestClear_33 : decode cX1_greatestClear 33 = .ok (.iload_n 2, 1) := by decide +kernel
theorem dX1_greatestClear_34 : decode cX1_greatestClear 34 = .ok (.iload_n 3, 1) := by decide +kernel
theorem dX1_greatestClear_35 : decode cX1_greatestClear 35 = .ok (.invokevirtual 100, 3) := by decide +kernel
theorem dX1_greatestClear_38 : decode cX1_greatestClear 38 = .ok (.invokestatic 71, 3) := by decide +kernel
theorem dX1_greatestClear_41 : decode cX1_greatestClear 41 = .ok (.istore_n 1, 1) := by decide +kernel
theorem dX1_greatestClear_42 : decode cX1_greatestClear 42 = .ok (.iinc 3 1, 3) := by decide +kernel
theorem dX1_greatestClear_45 : decode cX1_greatestClear 45 = .ok (.goto (-31), 3) := by decide +kernel
theorem dX1_greatestClear_48 : decode cX1_greatestClear 48 = .ok (.iinc 2 1, 3) := by decide +kernel
theorem dX1_greatestClear_51 : decode cX1_greatestClear 51 = .ok (.goto (-47), 3) := by decide +kernel
theorem dX1_greatestClear_54 : decode cX1_greatestClear 54 = .ok (.iload_n 1, 1) := by decide +kernel
theorem dX1_greatestClear_55 : decode cX1_greatestClear 55 = .ok (.ireturn, 1) := by decide +kernel
theorem dX1_allClears_0 : decode cX1_allClears 0 = .ok (.iconst 0, 1) := by decide +kernel
theorem dX1_allClears_1 : decode cX1_allClears 1 = .ok (.istore_n 1, 1) := by decide +kernel
theorem dX1_allClears_2 : decode cX1_allClears 2 = .ok (.iconst 0, 1) := by decide +kernel
theorem dX1_allClears_3 : decode cX1_allClears 3 = .ok (.istore_n 2, 1) := by decide +kernel
theorem dX1_allClears_4 : decode cX1_allClears 4 = .ok (.iload_n 2, 1) := by decide +kernel
theorem dX1_allClears_5 : decode cX1_allClears 5 = .ok (.aload_n 0, 1) := by decide +kernel
theorem dX1_allClears_6 : decode cX1_allClears 6 = .ok (.getfield 37, 3) := by decide +kernel
theorem dX1_allClears_9 : decode cX1_allClears 9 = .ok (.if_icmp .ge 43, 3) := by decide +kernel
theorem dX1_allClears_12 : decode cX1_allClears 12 = .ok (.iconst 0, 1) := by decide +kernel
theorem dX1_allClears_13 : decode cX1_allClears 13 = .ok (.istore_n 3, 1) := by decide +kernel
theorem dX1_allClears_14 : decode cX1_allClears 14 = .ok (.iload_n 3, 1) := by decide +kernel
theorem dX1_allClears_15 : decode cX1_allClears 15 = .ok (.aload_n 0, 1) := by decide +kernel
theorem dX1_allClears_16 : decode cX1_allClears 16 = .ok (.getfield 37, 3) := by decide +kernel
theorem dX1_allClears_19 : decode cX1_allClears 19 = .ok (.if_icmp .ge 27, 3) := by decide +kernel
theorem dX1_allClears_22 : decode cX1_allClears 22 = .ok (.aload_n 0, 1) := by decide +kernel
theorem dX1_allClears_23 : decode cX1_allClears 23 = .ok (.iload_n 2, 1) := by decide +kernel
theorem dX1_allClears_24 : decode cX1_allClears 24 = .ok (.iload_n 3, 1) := by decide +kernel
theorem dX1_allClears_25 : decode cX1_allClears 25 = .ok (.invokevirtual 85, 3) := by decide +kernel
theorem dX1_allClears_28 : decode cX1_allClears 28 = .ok (.ifCond .eq 12, 3) := by decide +kernel
theorem dX1_allClears_31 : decode cX1_allClears 31 = .ok (.iload_n 1, 1) := by decide +kernel
theorem dX1_allClears_32 : decode cX1_allClears 32 = .ok (.aload_n 0, 1) := by decide +kernel
theorem dX1_allClears_33 : decode cX1_allClears 33 = .ok (.iload_n 2, 1) := by decide +kernel
theorem dX1_allClears_34 : decode cX1_allClears 34 = .ok (.iload_n 3, 1) := by decide +kernel
theorem dX1_allClears_35 : decode cX1_allClears 35 = .ok (.invokevirtual 100, 3) := by decide +kernel
theorem dX1_allClears_38 : decode cX1_allClears 38 = .ok (.iadd, 1) := by decide +kernel
theorem dX1_allClears_39 : decode cX1_allClears 39 = .ok (.istore_n 1, 1) := by decide +kernel
theorem dX1_allClears_40 : decode cX1_allClears 40 = .ok (.iinc 3 1, 3) := by decide +kernel
theorem dX1_allClears_43 : decode cX1_allClears 43 = .ok (.goto (-29), 3) := by decide +kernel
theorem dX1_allClears_46 : decode cX1_allClears 46 = .ok (.iinc 2 1, 3) := by decide +kernel
theorem dX1_allClears_49 : decode cX1_allClears 49 = .ok (.goto (-45), 3) := by decide +kernel
theorem dX1_allClears_52 : decode cX1_allClears 52 = .ok (.iload_n 1, 1) := by decide +kernel
theorem dX1_allClears_53 : decode cX1_allClears 53 = .ok (.ireturn, 1) := by decide +kernel
theorem dX2_init_0 : decode cX2_init 0 = .ok (.aload_n 0, 1) := by decide +kernel
theorem dX2_init_1 : decode cX2_init 1 = .ok (.invokespecial 3, 3) := by decide +kernel
theorem dX2_init_4 : decode cX2_init 4 = .ok (.aload_n 0, 1) := by decide +kernel
theorem dX2_init_5 : decode cX2_init 5 = .ok (.bipush 6, 2) := by decide +kernel
theorem dX2_init_7 : decode cX2_init 7 = .ok (.newarray .int, 2) := by decide +kernel
theorem dX2_init_9 : decode cX2_init 9 = .ok (.putfield 9, 3) := by decide +kernel
theorem dX2_init_12 : decode cX2_init 12 = .ok (.aload_n 0, 1) := by decide +kernel
theorem dX2_init_13 : decode cX2_init 13 = .ok (.bipush 6, 2) := by decide +kernel
theorem dX2_init_15 : decode cX2_init 15 = .ok (.newarray .int, 2) := by decide +kernel
theorem dX2_init_17 : decode cX2_init 17 = .ok (.putfield 15, 3) := by decide +kernel
theorem dX2_init_20 : decode cX2_init 20 = .ok (.aload_n 0, 1) := by decide +kernel
theorem dX2_init_21 : decode cX2_init 21 = .ok (.bipush 6, 2) := by decide +kernel
theorem dX2_init_23 : decode cX2_init 23 = .ok (.newarray .int, 2) := by decide +kernel
theorem dX2_init_25 : decode cX2_init 25 = .ok (.putfield 18, 3) := by decide +kernel
theorem dX2_init_28 : decode cX2_init 28 = .ok (.return_, 1) := by decide +kernel
theorem dX2_copyFrom_0 : decode cX2_copyFrom 0 = .ok (.aload_n 0, 1) := by decide +kernel
theorem dX2_copyFrom_1 : decode cX2_copyFrom 1 = .ok (.aload_n 1, 1) := by decide +kernel
theorem dX2_copyFrom_2 : decode cX2_copyFrom 2 = .ok (.getfield 21, 3) := by decide +kernel
theorem dX2_copyFrom_5 : decode cX2_copyFrom 5 = .ok (.putfield 21, 3) := by decide +kernel
theorem dX2_copyFrom_8 : decode cX2_copyFrom 8 = .ok (.aload_n 1, 1) := by decide +kernel
theorem dX2_copyFrom_9 : decode cX2_copyFrom 9 = .ok (.getfield 9, 3) := by decide +kernel
theorem dX2_copyFrom_12 : decode cX2_copyFrom 12 = .ok (.iconst 0, 1) := by decide +kernel
theorem dX2_copyFrom_13 : decode cX2_copyFrom 13 = .ok (.aload_n 0, 1) := by decide +kernel
theorem dX2_copyFrom_14 : decode cX2_copyFrom 14 = .ok (.getfield 9, 3) := by decide +kernel
theorem dX2_copyFrom_17 : decode cX2_copyFrom 17 = .ok (.iconst 0, 1) := by decide +kernel
theorem dX2_copyFrom_18 : decode cX2_copyFrom 18 = .ok (.bipush 6, 2) := by decide +kernel
theorem dX2_copyFrom_20 : decode cX2_copyFrom 20 = .ok (.invokestatic 25, 3) := by decide +kernel
theorem dX2_copyFrom_23 : decode cX2_copyFrom 23 = .ok (.aload_n 1, 1) := by decide +kernel
theorem dX2_copyFrom_24 : decode cX2_copyFrom 24 = .ok (.getfield 15, 3) := by decide +kernel
theorem dX2_copyFrom_27 : decode cX2_copyFrom 27 = .ok (.iconst 0, 1) := by decide +kernel
theorem dX2_copyFrom_28 : decode cX2_copyFrom 28 = .ok (.aload_n 0, 1) := by decide +kernel
theorem dX2_copyFrom_29 : decode cX2_copyFrom 29 = .ok (.getfield 15, 3) := by decide +kernel
theorem dX2_copyFrom_32 : decode cX2_copyFrom 32 = .ok (.iconst 0, 1) := by decide +kernel
theorem dX2_copyFrom_33 : decode cX2_copyFrom 33 = .ok (.bipush 6, 2) := by decide +kernel
theorem dX2_copyFrom_35 : decode cX2_copyFrom 35 = .ok (.invokestatic 25, 3) := by decide +kernel
theorem dX2_copyFrom_38 : decode cX2_copyFrom 38 = .ok (.aload_n 1, 1) := by decide +kernel
theorem dX2_copyFrom_39 : decode cX2_copyFrom 39 = .ok (.getfield 18, 3) := by decide +kernel
theorem dX2_copyFrom_42 : decode cX2_copyFrom 42 = .ok (.iconst 0, 1) := by decide +kernel
theorem dX2_copyFrom_43 : decode cX2_copyFrom 43 = .ok (.aload_n 0, 1) := by decide +kernel
theorem dX2_copyFrom_44 : decode cX2_copyFrom 44 = .ok (.getfield 18, 3) := by decide +kernel
theorem dX2_copyFrom_47 : decode cX2_copyFrom 47 = .ok (.iconst 0, 1) := by decide +kernel
theorem dX2_copyFrom_48 : decode cX2_copyFrom 48 = .ok (.bipush 6, 2) := by decide +kernel
theorem dX2_copyFrom_50 : decode cX2_copyFrom 50 = .ok (.invokestatic 25, 3) := by decide +kernel
theorem dX2_copyFrom_53 : decode cX2_copyFrom 53 = .ok (.return_, 1) := by decide +kernel
theorem dX2_add_0 : decode cX2_add 0 = .ok (.aload_n 0, 1) := by decide +kernel
theorem dX2_add_1 : decode cX2_add 1 = .ok (.getfield 21, 3) := by decide +kernel
theorem dX2_add_4 : decode cX2_add 4 = .ok (.istore_n 3, 1) := by decide +kernel
theorem dX2_add_5 : decode cX2_add 5 = .ok (.aload_n 0, 1) := by decide +kernel
theorem dX2_add_6 : decode cX2_add 6 = .ok (.dup, 1) := by decide +kernel
theorem dX2_add_7 : decode cX2_add 7 = .ok (.getfield 21, 3) := by decide +kernel
theorem dX2_add_10 : decode cX2_add 10 = .ok (.iconst 1, 1) := by decide +kernel
theorem dX2_add_11 : decode cX2_add 11 = .ok (.iadd, 1) := by decide +kernel
theorem dX2_add_12 : decode cX2_add 12 = .ok (.putfield 21, 3) := by decide +kernel
theorem dX2_add_15 : decode cX2_add 15 = .ok (.aload_n 0, 1) := by decide +kernel
theorem dX2_add_16 : decode cX2_add 16 = .ok (.getfield 9, 3) := by decide +kernel
theorem dX2_add_19 : decode cX2_add 19 = .ok (.iload_n 3, 1) := by decide +kernel
theorem dX2_add_20 : decode cX2_add 20 = .ok (.iload_n 1, 1) := by decide +kernel
theorem dX2_add_21 : decode cX2_add 21 = .ok (.iastore, 1) := by decide +kernel
theorem dX2_add_22 : decode cX2_add 22 = .ok (.aload_n 0, 1) := by decide +kernel
theorem dX2_add_23 : decode cX2_add 23 = .ok (.getfield 15, 3) := by decide +kernel
theorem dX2_add_26 : decode cX2_add 26 = .ok (.iload_n 3, 1) := by decide +kernel
theorem dX2_add_27 : decode cX2_add 27 = .ok (.iload_n 2, 1) := by decide +kernel
theorem dX2_add_28 : decode cX2_add 28 = .ok (.iastore, 1) := by decide +kernel
theorem dX2_add_29 : decode cX2_add 29 = .ok (.iload_n 3, 1) := by decide +kernel
theorem dX2_add_30 : decode cX2_add 30 = .ok (.ireturn, 1) := by decide +kernel
theorem dX2_firstWith_0 : decode cX2_firstWith 0 = .ok (.iconst 0, 1) := by decide +kernel
theorem dX2_firstWith_1 : decode cX2_firstWith 1 = .ok (.istore_n 2, 1) := by decide +kernel
theorem dX2_firstWith_2 : decode cX2_firstWith 2 = .ok (.iload_n 2, 1) := by decide +kernel
theorem dX2_firstWith_3 : decode cX2_firstWith 3 = .ok (.aload_n 0, 1) := by decide +kernel
theorem dX2_firstWith_4 : decode cX2_firstWith 4 = .ok (.getfield 21, 3) := by decide +kernel
theorem dX2_firstWith_7 : decode cX2_firstWith 7 = .ok (.if_icmp .ge 24, 3) := by decide +kernel
theorem dX2_firstWith_10 : decode cX2_firstWith 10 = .ok (.aload_n 0, 1) := by decide +kernel
theorem dX2_firstWith_11 : decode cX2_firstWith 11 = .ok (.getfield 9, 3) := by decide +kernel
theorem dX2_firstWith_14 : decode cX2_firstWith 14 = .ok (.iload_n 2, 1) := by decide +kernel
theorem dX2_firstWith_15 : decode cX2_firstWith 15 = .ok (.iaload, 1) := by decide +kernel
theorem dX2_firstWith_16 : decode cX2_firstWith 16 = .ok (.iload_n 1, 1) := by decide +kernel
theorem dX2_firstWith_17 : decode cX2_firstWith 17 = .ok (.invokestatic 31, 3) := by decide +kernel
theorem dX2_firstWith_20 : decode cX2_firstWith 20 = .ok (.ifCond .eq 5, 3) := by decide +kernel
theorem dX2_firstWith_23 : decode cX2_firstWith 23 = .ok (.iload_n 2, 1) := by decide +kernel
theorem dX2_firstWith_24 : decode cX2_firstWith 24 = .ok (.ireturn, 1) := by decide +kernel
theorem dX2_firstWith_25 : decode cX2_firstWith 25 = .ok (.iinc 2 1, 3) := by decide +kernel
theorem dX2_firstWith_28 : decode cX2_firstWith 28 = .ok (.goto (-26), 3) := by decide +kernel
theorem dX2_firstWith_31 : decode cX2_firstWith 31 = .ok (.bipush (-5), 2) := by decide +kernel
theorem dX2_firstWith_33 : decode cX2_firstWith 33 = .ok (.ireturn, 1) := by decide +kernel
theorem dX3_init_0 : decode cX3_init 0 = .ok (.aload_n 0, 1) := by decide +kernel
theorem dX3_init_1 : decode cX3_init 1 = .ok (.invokespecial 3, 3) := by decide +kernel
theorem dX3_init_4 : decode cX3_init 4 = .ok (.aload_n 0, 1) := by decide +kernel
theorem dX3_init_5 : decode cX3_init 5 = .ok (.bipush 100, 2) := by decide +kernel
theorem dX3_init_7 : decode cX3_init 7 = .ok (.newarray .int, 2) := by decide +kernel
theorem dX3_init_9 : decode cX3_init 9 = .ok (.putfield 9, 3) := by decide +kernel
theorem dX3_init_12 : decode cX3_init 12 = .ok (.aload_n 0, 1) := by decide +kernel
theorem dX3_init_13 : decode cX3_init 13 = .ok (.iconst 4, 1) := by decide +kernel
theorem dX3_init_14 : decode cX3_init 14 = .ok (.newarray .int, 2) := by decide +kernel
theorem dX3_init_16 : decode cX3_init 16 = .ok (.putfield 15, 3) := by decide +kernel
theorem dX3_init_19 : decode cX3_init 19 = .ok (.aload_n 0, 1) := by decide +kernel
theorem dX3_init_20 : decode cX3_init 20 = .ok (.iconst 4, 1) := by decide +kernel
theorem dX3_init_21 : decode cX3_init 21 = .ok (.newarray .int, 2) := by decide +kernel
theorem dX3_init_23 : decode cX3_init 23 = .ok (.putfield 18, 3) := by decide +kernel
theorem dX3_init_26 : decode cX3_init 26 = .ok (.aload_n 0, 1) := by decide +kernel
theorem dX3_init_27 : decode cX3_init 27 = .ok (.bipush 32, 2) := by decide +kernel
theorem dX3_init_29 : decode cX3_init 29 = .ok (.newarray .int, 2) := by decide +kernel
theorem dX3_init_31 : decode cX3_init 31 = .ok (.putfield 21, 3) := by decide +kernel
theorem dX3_init_34 : decode cX3_init 34 = .ok (.aload_n 0, 1) := by decide +kernel
theorem dX3_init_35 : decode cX3_init 35 = .ok (.bipush 16, 2) := by decide +kernel
theorem dX3_init_37 : decode cX3_init 37 = .ok (.newarray .int, 2) := by decide +kernel
theorem dX3_init_39 : decode cX3_init 39 = .ok (.putfield 24, 3) := by decide +kernel
theorem dX3_init_42 : decode cX3_init 42 = .ok (.return_, 1) := by decide +kernel
theorem dX3_append_0 : decode cX3_append 0 = .ok (.aload_n 0, 1) := by decide +kernel
theorem dX3_append_1 : decode cX3_append 1 = .ok (.getfield 9, 3) := by decide +kernel
theorem dX3_append_4 : decode cX3_append 4 = .ok (.aload_n 0, 1) := by decide +kernel
theorem dX3_append_5 : decode cX3_append 5 = .ok (.getfield 27, 3) := by decide +kernel
theorem dX3_append_8 : decode cX3_append 8 = .ok (.iload_n 1, 1) := by decide +kernel
theorem dX3_append_9 : decode cX3_append 9 = .ok (.iastore, 1) := by decide +kernel
theorem dX3_append_10 : decode cX3_append 10 = .ok (.aload_n 0, 1) := by decide +kernel
theorem dX3_append_11 : decode cX3_append 11 = .ok (.dup, 1) := by decide +kernel
theorem dX3_append_12 : decode cX3_append 12 = .ok (.getfield 27, 3) := by decide +kernel
theorem dX3_append_15 : decode cX3_append 15 = .ok (.iconst 1, 1) := by decide +kernel
theorem dX3_append_16 : decode cX3_append 16 = .ok (.iadd, 1) := by decide +kernel
theorem dX3_append_17 : decode cX3_append 17 = .ok (.putfield 27, 3) := by decide +kernel
theorem dX3_append_20 : decode cX3_append 20 = .ok (.aload_n 0, 1) := by decide +kernel
theorem dX3_append_21 : decode cX3_append 21 = .ok (.getfield 27, 3) := by decide +kernel
theorem dX3_append_24 : decode cX3_append 24 = .ok (.ireturn, 1) := by decide +kernel
theorem dX3_parse_0 : decode cX3_parse 0 = .ok (.aload_n 0, 1) := by decide +kernel
theorem dX3_parse_1 : decode cX3_parse 1 = .ok (.iconst 0, 1) := by decide +kernel
theorem dX3_parse_2 : decode cX3_parse 2 = .ok (.putfield 31, 3) := by decide +kernel
theorem dX3_parse_5 : decode cX3_parse 5 = .ok (.aload_n 0, 1) := by decide +kernel
theorem dX3_parse_6 : decode cX3_parse 6 = .ok (.iconst 0, 1) := by decide +kernel
theorem dX3_parse_7 : decode cX3_parse 7 = .ok (.putfield 34, 3) := by decide +kernel
theorem dX3_parse_10 : decode cX3_parse 10 = .ok (.iconst 0, 1) := by decide +kernel
theorem dX3_parse_11 : decode cX3_parse 11 = .ok (.istore_n 1, 1) := by decide +kernel
theorem dX3_parse_12 : decode cX3_parse 12 = .ok (.iload_n 1, 1) := by decide +kernel
theorem dX3_parse_13 : decode cX3_parse 13 = .ok (.iconst 4, 1) := by decide +kernel
theorem dX3_parse_14 : decode cX3_parse 14 = .ok (.if_icmp .ge 78, 3) := by decide +kernel
theorem dX3_parse_17 : decode cX3_parse 17 = .ok (.aload_n 0, 1) := by decide +kernel
theorem dX3_parse_18 : decode cX3_parse 18 = .ok (.iload_n 1, 1) := by decide +kernel
theorem dX3_parse_19 : decode cX3_parse 19 = .ok (.invokevirtual 37, 3) := by decide +kernel
theorem dX3_parse_22 : decode cX3_parse 22 = .ok (.ifCond .ne 5, 3) := by decide +kernel
theorem dX3_parse_25 : decode cX3_parse 25 = .ok (.iconst 0, 1) := by decide +kernel
theorem dX3_parse_26 : decode cX3_parse 26 = .ok (.ireturn, 1) := by decide +kernel
theorem dX3_parse_27 : decode cX3_parse 27 = .ok (.aload_n 0, 1) := by decide +kernel
theorem dX3_parse_28 : decode cX3_parse 28 = .ok (.dup, 1) := by decide +kernel
theorem dX3_parse_29 : decode cX3_parse 29 = .ok (.getfield 34, 3) := by decide +kernel
theorem dX3_parse_32 : decode cX3_parse 32 = .ok (.iconst 1, 1) := by decide +kernel
theorem dX3_parse_33 : decode cX3_parse 33 = .ok (.iadd, 1) := by decide +kernel
theorem dX3_parse_34 : decode cX3_parse 34 = .ok (.putfield 34, 3) := by decide +kernel
theorem dX3_parse_37 : decode cX3_parse 37 = .ok (.aload_n 0, 1) := by decide +kernel
theorem dX3_parse_38 : decode cX3_parse 38 = .ok (.getfield 31, 3) := by decide +kernel
theorem dX3_parse_41 : decode cX3_parse 41 = .ok (.aload_n 0, 1) := by decide +kernel
theorem dX3_parse_42 : decode cX3_parse 42 = .ok (.getfield 27, 3) := by decide +kernel
theorem dX3_parse_45 : decode cX3_parse 45 = .ok (.if_icmp .ne 5, 3) := by decide +kernel
theorem dX3_parse_48 : decode cX3_parse 48 = .ok (.iconst 1, 1) := by decide +kernel
theorem dX3_parse_49 : decode cX3_parse 49 = .ok (.ireturn, 1) := by decide +kernel
theorem dX3_parse_50 : decode cX3_parse 50 = .ok (.aload_n 0, 1) := by decide +kernel
theorem dX3_parse_51 : decode cX3_parse 51 = .ok (.getfield 34, 3) := by decide +kernel
theorem dX3_parse_54 : decode cX3_parse 54 = .ok (.iconst 4, 1) := by decide +kernel
theorem dX3_parse_55 : decode cX3_parse 55 = .ok (.if_icmp .eq 12, 3) := by decide +kernel
theorem dX3_parse_58 : decode cX3_parse 58 = .ok (.aload_n 0, 1) := by decide +kernel
theorem dX3_parse_59 : decode cX3_parse 59 = .ok (.invokevirtual 41, 3) := by decide +kernel
theorem dX3_parse_62 : decode cX3_parse 62 = .ok (.bipush 59, 2) := by decide +kernel
theorem dX3_parse_64 : decode cX3_parse 64 = .ok (.if_icmp .eq 12, 3) := by decide +kernel
theorem dX3_parse_67 : decode cX3_parse 67 = .ok (.aload_n 0, 1) := by decide +kernel
theorem dX3_parse_68 : decode cX3_parse 68 = .ok (.aload_n 0, 1) := by decide +kernel
theorem dX3_parse_69 : decode cX3_parse 69 = .ok (.getfield 31, 3) := by decide +kernel
theorem dX3_parse_72 : decode cX3_parse 72 = .ok (.invokevirtual 45, 3) := by decide +kernel
theorem dX3_parse_75 : decode cX3_parse 75 = .ok (.ireturn, 1) := by decide +kernel
theorem dX3_parse_76 : decode cX3_parse 76 = .ok (.aload_n 0, 1) := by decide +kernel
theorem dX3_parse_77 : decode cX3_parse 77 = .ok (.dup, 1) := by decide +kernel
theorem dX3_parse_78 : decode cX3_parse 78 = .ok (.getfield 31, 3) := by decide +kernel
theorem dX3_parse_81 : decode cX3_parse 81 = .ok (.iconst 1, 1) := by decide +kernel
theorem dX3_parse_82 : decode cX3_parse 82 = .ok (.iadd, 1) := by decide +kernel
theorem dX3_parse_83 : decode cX3_parse 83 = .ok (.putfield 31, 3) := by decide +kernel
theorem dX3_parse_86 : decode cX3_parse 86 = .ok (.iinc 1 1, 3) := by decide +kernel
theorem dX3_parse_89 : decode cX3_parse 89 = .ok (.goto (-77), 3) := by decide +kernel
theorem dX3_parse_92 : decode cX3_parse 92 = .ok (.aload_n 0, 1) := by decide +kernel
theorem dX3_parse_93 : decode cX3_parse 93 = .ok (.aload_n 0, 1) := by decide +kernel
theorem dX3_parse_94 : decode cX3_parse 94 = .ok (.getfield 31, 3) := by decide +kernel
theorem dX3_parse_97 : decode cX3_parse 97 = .ok (.invokevirtual 45, 3) := by decide +kernel
theorem dX3_parse_100 : decode cX3_parse 100 = .ok (.ireturn, 1) := by decide +kernel
theorem dX3_failAt_0 : decode cX3_failAt 0 = .ok (.aload_n 0, 1) := by decide +kernel
theorem dX3_failAt_1 : decode cX3_failAt 1 = .ok (.iload_n 1, 1) := by decide +kernel
theorem dX3_failAt_2 : decode cX3_failAt 2 = .ok (.putfield 48, 3) := by decide +kernel
theorem dX3_failAt_5 : decode cX3_failAt 5 = .ok (.iconst 0, 1) := by decide +kernel
theorem dX3_failAt_6 : decode cX3_failAt 6 = .ok (.ireturn, 1) := by decide +kernel
theorem dX3_sign_0 : decode cX3_sign 0 = .ok (.aload_n 0, 1) := by decide +kernel
theorem dX3_sign_1 : decode cX3_sign 1 = .ok (.getfield 31, 3) := by decide +kernel
theorem dX3_sign_4 : decode cX3_sign 4 = .ok (.aload_n 0, 1) := by decide +kernel
theorem dX3_sign_5 : decode cX3_sign 5 = .ok (.getfield 27, 3) := by decide +kernel
theorem dX3_sign_8 : decode cX3_sign 8 = .ok (.if_icmp .ge 15, 3) := by decide +kernel
theorem dX3_sign_11 : decode cX3_sign 11 = .ok (.aload_n 0, 1) := by decide +kernel
theorem dX3_sign_12 : decode cX3_sign 12 = .ok (.getfield 9, 3) := by decide +kernel
theorem dX3_sign_15 : decode cX3_sign 15 = .ok (.aload_n 0, 1) := by decide +kernel
theorem dX3_sign_16 : decode cX3_sign 16 = .ok (.getfield 31, 3) := by decide +kernel
theorem dX3_sign_19 : decode cX3_sign 19 = .ok (.iaload, 1) := by decide +kernel
theorem dX3_sign_20 : decode cX3_sign 20 = .ok (.goto 4, 3) := by decide +kernel
theorem dX3_sign_23 : decode cX3_sign 23 = .ok (.iconst (-1), 1) := by decide +kernel
theorem dX3_sign_24 : decode cX3_sign 24 = .ok (.ireturn, 1) := by decide +kernel
theorem dX3_parseClause_0 : decode cX3_parseClause 0 = .ok (.aload_n 0, 1) := by decide +kernel
theorem dX3_parseClause_1 : decode cX3_parseClause 1 = .ok (.invokevirtual 41, 3) := by decide +kernel
theorem dX3_parseClause_4 : decode cX3_parseClause 4 = .ok (.invokestatic 51, 3) := by decide +kernel
theorem dX3_parseClause_7 : decode cX3_parseClause 7 = .ok (.istore_n 2, 1) := by decide +kernel
theorem dX3_parseClause_8 : decode cX3_parseClause 8 = .ok (.iload_n 2, 1) := by decide +kernel
theorem dX3_parseClause_9 : decode cX3_parseClause 9 = .ok (.bipush (-5), 2) := by decide +kernel
theorem dX3_parseClause_11 : decode cX3_parseClause 11 = .ok (.if_icmp .ne 12, 3) := by decide +kernel
theorem dX3_parseClause_14 : decode cX3_parseClause 14 = .ok (.aload_n 0, 1) := by decide +kernel
theorem dX3_parseClause_15 : decode cX3_parseClause 15 = .ok (.aload_n 0, 1) := by decide +kernel
theorem dX3_parseClause_16 : decode cX3_parseClause 16 = .ok (.getfield 31, 3) := by decide +kernel
theorem dX3_parseClause_19 : decode cX3_parseClause 19 = .ok (.invokevirtual 45, 3) := by decide +kernel
theorem dX3_parseClause_22 : decode cX3_parseClause 22 = .ok (.ireturn, 1) := by decide +kernel
theorem dX3_parseClause_23 : decode cX3_parseClause 23 = .ok (.aload_n 0, 1) := by decide +kernel
theorem dX3_parseClause_24 : decode cX3_parseClause 24 = .ok (.getfield 15, 3) := by decide +kernel
theorem dX3_parseClause_27 : decode cX3_parseClause 27 = .ok (.iload_n 1, 1) := by decide +kernel
theorem dX3_parseClause_28 : decode cX3_parseClause 28 = .ok (.iload_n 2, 1) := by decide +kernel
theorem dX3_parseClause_29 : decode cX3_parseClause 29 = .ok (.iastore, 1) := by decide +kernel
theorem dX3_parseClause_30 : decode cX3_parseClause 30 = .ok (.aload_n 0, 1) := by decide +kernel
theorem dX3_parseClause_31 : decode cX3_parseClause 31 = .ok (.dup, 1) := by decide +kernel
theorem dX3_parseClause_32 : decode cX3_parseClause 32 = .ok (.getfield 31, 3) := by decide +kernel
theorem dX3_parseClause_35 : decode cX3_parseClause 35 = .ok (.iconst 1, 1) := by decide +kernel
theorem dX3_parseClause_36 : decode cX3_parseClause 36 = .ok (.iadd, 1) := by decide +kernel
theorem dX3_parseClause_37 : decode cX3_parseClause 37 = .ok (.putfield 31, 3) := by decide +kernel
theorem dX3_parseClause_40 : decode cX3_parseClause 40 = .ok (.aload_n 0, 1) := by decide +kernel
theorem dX3_parseClause_41 : decode cX3_parseClause 41 = .ok (.iload_n 1, 1) := by decide +kernel
theorem dX3_parseClause_42 : decode cX3_parseClause 42 = .ok (.invokevirtual 55, 3) := by decide +kernel
theorem dX3_parseClause_45 : decode cX3_parseClause 45 = .ok (.ifCond .eq 15, 3) := by decide +kernel
theorem dX3_parseClause_48 : decode cX3_parseClause 48 = .ok (.aload_n 0, 1) := by decide +kernel
theorem dX3_parseClause_49 : decode cX3_parseClause 49 = .ok (.iload_n 1, 1) := by decide +kernel
theorem dX3_parseClause_50 : decode cX3_parseClause 50 = .ok (.invokevirtual 58, 3) := by decide +kernel
theorem dX3_parseClause_53 : decode cX3_parseClause 53 = .ok (.ifCond .eq 7, 3) := by decide +kernel
theorem dX3_parseClause_56 : decode cX3_parseClause 56 = .ok (.iconst 1, 1) := by decide +kernel
theorem dX3_parseClause_57 : decode cX3_parseClause 57 = .ok (.goto 4, 3) := by decide +kernel
theorem dX3_parseClause_60 : decode cX3_parseClause 60 = .ok (.iconst 0, 1) := by decide +kernel
theorem dX3_parseClause_61 : decode cX3_parseClause 61 = .ok (.ireturn, 1) := by decide +kernel
theorem dX3_kindOf_0 : decode cX3_kindOf 0 = .ok (.iload_n 0, 1) := by decide +kernel
theorem dX3_kindOf_1 : decode cX3_kindOf 1 = .ok (.lookupswitch 51 #[(98, 49), (99, 43), (116, 47), (119, 45)], 43) := by decide +kernel
theorem dX3_kindOf_44 : decode cX3_kindOf 44 = .ok (.iconst 0, 1) := by decide +kernel
theorem dX3_kindOf_45 : decode cX3_kindOf 45 = .ok (.ireturn, 1) := by decide +kernel
theorem dX3_kindOf_46 : decode cX3_kindOf 46 = .ok (.iconst 1, 1) := by decide +kernel
theorem dX3_kindOf_47 : decode cX3_kindOf 47 = .ok (.ireturn, 1) := by decide +kernel
theorem dX3_kindOf_48 : decode cX3_kindOf 48 = .ok (.iconst 2, 1) := by decide +kernel
theorem dX3_kindOf_49 : decode cX3_kindOf 49 = .ok (.ireturn, 1) := by decide +kernel
theorem dX3_kindOf_50 : decode cX3_kindOf 50 = .ok (.iconst 3, 1) := by decide +kernel
theorem dX3_kindOf_51 : decode cX3_kindOf 51 = .ok (.ireturn, 1) := by decide +kernel
theorem dX3_kindOf_52 : decode cX3_kindOf 52 = .ok (.bipush (-5), 2) := by decide +kernel
theorem dX3_kindOf_54 : decode cX3_kindOf 54 = .ok (.ireturn, 1) := by decide +kernel
theorem dX3_parseWay_0 : decode cX3_parseWay 0 = .ok (.aload_n 0, 1) := by decide +kernel
theorem dX3_parseWay_1 : decode cX3_parseWay 1 = .ok (.getfield 18, 3) := by decide +kernel
theorem dX3_parseWay_4 : decode cX3_parseWay 4 = .ok (.iload_n 1, 1) := by decide +kernel
theorem dX3_parseWay_5 : decode cX3_parseWay 5 = .ok (.iconst 0, 1) := by decide +kernel
theorem dX3_parseWay_6 : decode cX3_parseWay 6 = .ok (.iastore, 1) := by decide +kernel
theorem dX3_parseWay_7 : decode cX3_parseWay 7 = .ok (.iconst 0, 1) := by decide +kernel
theorem dX3_parseWay_8 : decode cX3_parseWay 8 = .ok (.istore_n 2, 1) := by decide +kernel
theorem dX3_parseWay_9 : decode cX3_parseWay 9 = .ok (.iload_n 2, 1) := by decide +kernel
theorem dX3_parseWay_10 : decode cX3_parseWay 10 = .ok (.bipush 8, 2) := by decide +kernel
theorem dX3_parseWay_12 : decode cX3_parseWay 12 = .ok (.if_icmp .ge 139, 3) := by decide +kernel
theorem dX3_parseWay_15 : decode cX3_parseWay 15 = .ok (.aload_n 0, 1) := by decide +kernel
theorem dX3_parseWay_16 : decode cX3_parseWay 16 = .ok (.invokevirtual 41, 3) := by decide +kernel
theorem dX3_parseWay_19 : decode cX3_parseWay 19 = .ok (.bipush 97, 2) := by decide +kernel
theorem dX3_parseWay_21 : decode cX3_parseWay 21 = .ok (.isub, 1) := by decide +kernel
theorem dX3_parseWay_22 : decode cX3_parseWay 22 = .ok (.istore_n 3, 1) := by decide +kernel
theorem dX3_parseWay_23 : decode cX3_parseWay 23 = .ok (.iload_n 3, 1) := by decide +kernel
theorem dX3_parseWay_24 : decode cX3_parseWay 24 = .ok (.iconst 0, 1) := by decide +kernel
theorem dX3_parseWay_25 : decode cX3_parseWay 25 = .ok (.bipush 7, 2) := by decide +kernel
theorem dX3_parseWay_27 : decode cX3_parseWay 27 = .ok (.invokestatic 61, 3) := by decide +kernel
theorem dX3_parseWay_30 : decode cX3_parseWay 30 = .ok (.ifCond .ne 24, 3) := by decide +kernel
theorem dX3_parseWay_33 : decode cX3_parseWay 33 = .ok (.iload_n 2, 1) := by decide +kernel
theorem dX3_parseWay_34 : decode cX3_parseWay 34 = .ok (.ifCond .gt 14, 3) := by decide +kernel
theorem dX3_parseWay_37 : decode cX3_parseWay 37 = .ok (.aload_n 0, 1) := by decide +kernel
theorem dX3_parseWay_38 : decode cX3_parseWay 38 = .ok (.aload_n 0, 1) := by decide +kernel
theorem dX3_parseWay_39 : decode cX3_parseWay 39 = .ok (.getfield 31, 3) := by decide +kernel
theorem dX3_parseWay_42 : decode cX3_parseWay 42 = .ok (.invokevirtual 45, 3) := by decide +kernel
theorem dX3_parseWay_45 : decode cX3_parseWay 45 = .ok (.ifCond .eq 7, 3) := by decide +kernel
theorem dX3_parseWay_48 : decode cX3_parseWay 48 = .ok (.iconst 1, 1) := by decide +kernel
theorem dX3_parseWay_49 : decode cX3_parseWay 49 = .ok (.goto 4, 3) := by decide +kernel
theorem dX3_parseWay_52 : decode cX3_parseWay 52 = .ok (.iconst 0, 1) := by decide +kernel
theorem dX3_parseWay_53 : decode cX3_parseWay 53 = .ok (.ireturn, 1) := by decide +kernel
theorem dX3_parseWay_54 : decode cX3_parseWay 54 = .ok (.aload_n 0, 1) := by decide +kernel
theorem dX3_parseWay_55 : decode cX3_parseWay 55 = .ok (.dup, 1) := by decide +kernel
theorem dX3_parseWay_56 : decode cX3_parseWay 56 = .ok (.getfield 31, 3) := by decide +kernel
theorem dX3_parseWay_59 : decode cX3_parseWay 59 = .ok (.iconst 1, 1) := by decide +kernel
theorem dX3_parseWay_60 : decode cX3_parseWay 60 = .ok (.iadd, 1) := by decide +kernel
theorem dX3_parseWay_61 : decode cX3_parseWay 61 = .ok (.putfield 31, 3) := by decide +kernel
theorem dX3_parseWay_64 : decode cX3_parseWay 64 = .ok (.aload_n 0, 1) := by decide +kernel
theorem dX3_parseWay_65 : decode cX3_parseWay 65 = .ok (.invokevirtual 41, 3) := by decide +kernel
theorem dX3_parseWay_68 : decode cX3_parseWay 68 = .ok (.bipush 49, 2) := by decide +kernel
theorem dX3_parseWay_70 : decode cX3_parseWay 70 = .ok (.isub, 1) := by decide +kernel
theorem dX3_parseWay_71 : decode cX3_parseWay 71 = .ok (.istore 4, 2) := by decide +kernel
theorem dX3_parseWay_73 : decode cX3_parseWay 73 = .ok (.iload 4, 2) := by decide +kernel
theorem dX3_parseWay_75 : decode cX3_parseWay 75 = .ok (.iconst 0, 1) := by decide +kernel
theorem dX3_parseWay_76 : decode cX3_parseWay 76 = .ok (.bipush 7, 2) := by decide +kernel
theorem dX3_parseWay_78 : decode cX3_parseWay 78 = .ok (.invokestatic 61, 3) := by decide +kernel
theorem dX3_parseWay_81 : decode cX3_parseWay 81 = .ok (.ifCond .eq 18, 3) := by decide +kernel
theorem dX3_parseWay_84 : decode cX3_parseWay 84 = .ok (.aload_n 0, 1) := by decide +kernel
theorem dX3_parseWay_85 : decode cX3_parseWay 85 = .ok (.iload_n 1, 1) := by decide +kernel
theorem dX3_parseWay_86 : decode cX3_parseWay 86 = .ok (.iload_n 3, 1) := by decide +kernel
theorem dX3_parseWay_87 : decode cX3_parseWay 87 = .ok (.bipush 8, 2) := by decide +kernel
theorem dX3_parseWay_89 : decode cX3_parseWay 89 = .ok (.iload 4, 2) := by decide +kernel
theorem dX3_parseWay_91 : decode cX3_parseWay 91 = .ok (.imul, 1) := by decide +kernel
theorem dX3_parseWay_92 : decode cX3_parseWay 92 = .ok (.iadd, 1) := by decide +kernel
theorem dX3_parseWay_93 : decode cX3_parseWay 93 = .ok (.invokevirtual 65, 3) := by decide +kernel
theorem dX3_parseWay_96 : decode cX3_parseWay 96 = .ok (.ifCond .eq 12, 3) := by decide +kernel
theorem dX3_parseWay_99 : decode cX3_parseWay 99 = .ok (.aload_n 0, 1) := by decide +kernel
theorem dX3_parseWay_100 : decode cX3_parseWay 100 = .ok (.aload_n 0, 1) := by decide +kernel
theorem dX3_parseWay_101 : decode cX3_parseWay 101 = .ok (.getfield 31, 3) := by decide +kernel
theorem dX3_parseWay_104 : decode cX3_parseWay 104 = .ok (.invokevirtual 45, 3) := by decide +kernel
theorem dX3_parseWay_107 : decode cX3_parseWay 107 = .ok (.ireturn, 1) := by decide +kernel
theorem dX3_parseWay_108 : decode cX3_parseWay 108 = .ok (.aload_n 0, 1) := by decide +kernel
theorem dX3_parseWay_109 : decode cX3_parseWay 109 = .ok (.dup, 1) := by decide +kernel
theorem dX3_parseWay_110 : decode cX3_parseWay 110 = .ok (.getfield 31, 3) := by decide +kernel
theorem dX3_parseWay_113 : decode cX3_parseWay 113 = .ok (.iconst 1, 1) := by decide +kernel
theorem dX3_parseWay_114 : decode cX3_parseWay 114 = .ok (.iadd, 1) := by decide +kernel
theorem dX3_parseWay_115 : decode cX3_parseWay 115 = .ok (.putfield 31, 3) := by decide +kernel
theorem dX3_parseWay_118 : decode cX3_parseWay 118 = .ok (.aload_n 0, 1) := by decide +kernel
theorem dX3_parseWay_119 : decode cX3_parseWay 119 = .ok (.getfield 21, 3) := by decide +kernel
theorem dX3_parseWay_122 : decode cX3_parseWay 122 = .ok (.iload_n 1, 1) := by decide +kernel
theorem dX3_parseWay_123 : decode cX3_parseWay 123 = .ok (.bipush 8, 2) := by decide +kernel
theorem dX3_parseWay_125 : decode cX3_parseWay 125 = .ok (.imul, 1) := by decide +kernel
theorem dX3_parseWay_126 : decode cX3_parseWay 126 = .ok (.iload_n 2, 1) := by decide +kernel
theorem dX3_parseWay_127 : decode cX3_parseWay 127 = .ok (.iadd, 1) := by decide +kernel
theorem dX3_parseWay_128 : decode cX3_parseWay 128 = .ok (.iload_n 3, 1) := by decide +kernel
theorem dX3_parseWay_129 : decode cX3_parseWay 129 = .ok (.bipush 8, 2) := by decide +kernel
theorem dX3_parseWay_131 : decode cX3_parseWay 131 = .ok (.iload 4, 2) := by decide +kernel
theorem dX3_parseWay_133 : decode cX3_parseWay 133 = .ok (.imul, 1) := by decide +kernel
theorem dX3_parseWay_134 : decode cX3_parseWay 134 = .ok (.iadd, 1) := by decide +kernel
theorem dX3_parseWay_135 : decode cX3_parseWay 135 = .ok (.iastore, 1) := by decide +kernel
theorem dX3_parseWay_136 : decode cX3_parseWay 136 = .ok (.aload_n 0, 1) := by decide +kernel
theorem dX3_parseWay_137 : decode cX3_parseWay 137 = .ok (.getfield 18, 3) := by decide +kernel
theorem dX3_parseWay_140 : decode cX3_parseWay 140 = .ok (.iload_n 1, 1) := by decide +kernel
theorem dX3_parseWay_141 : decode cX3_parseWay 141 = .ok (.iload_n 2, 1) := by decide +kernel
theorem dX3_parseWay_142 : decode cX3_parseWay 142 = .ok (.iconst 1, 1) := by decide +kernel
theorem dX3_parseWay_143 : decode cX3_parseWay 143 = .ok (.iadd, 1) := by decide +kernel
theorem dX3_parseWay_144 : decode cX3_parseWay 144 = .ok (.iastore, 1) := by decide +kernel
theorem dX3_parseWay_145 : decode cX3_parseWay 145 = .ok (.iinc 2 1, 3) := by decide +kernel
theorem dX3_parseWay_148 : decode cX3_parseWay 148 = .ok (.goto (-139), 3) := by decide +kernel
theorem dX3_parseWay_151 : decode cX3_parseWay 151 = .ok (.iconst 1, 1) := by decide +kernel
theorem dX3_parseWay_152 : decode cX3_parseWay 152 = .ok (.ireturn, 1) := by decide +kernel
theorem dX3_hasCell_0 : decode cX3_hasCell 0 = .ok (.iconst 0, 1) := by decide +kernel
theorem dX3_hasCell_1 : decode cX3_hasCell 1 = .ok (.istore_n 3, 1) := by decide +kernel
theorem dX3_hasCell_2 : decode cX3_hasCell 2 = .ok (.iload_n 3, 1) := by decide +kernel
theorem dX3_hasCell_3 : decode cX3_hasCell 3 = .ok (.aload_n 0, 1) := by decide +kernel
theorem dX3_hasCell_4 : decode cX3_hasCell 4 = .ok (.getfield 18, 3) := by decide +kernel
theorem dX3_hasCell_7 : decode cX3_hasCell 7 = .ok (.iload_n 1, 1) := by decide +kernel
theorem dX3_hasCell_8 : decode cX3_hasCell 8 = .ok (.iaload, 1) := by decide +kernel
theorem dX3_hasCell_9 : decode cX3_hasCell 9 = .ok (.if_icmp .ge 26, 3) := by decide +kernel
theorem dX3_hasCell_12 : decode cX3_hasCell 12 = .ok (.aload_n 0, 1) := by decide +kernel
theorem dX3_hasCell_13 : decode cX3_hasCell 13 = .ok (.getfield 21, 3) := by decide +kernel
theorem dX3_hasCell_16 : decode cX3_hasCell 16 = .ok (.iload_n 1, 1) := by decide +kernel
theorem dX3_hasCell_17 : decode cX3_hasCell 17 = .ok (.bipush 8, 2) := by decide +kernel
theorem dX3_hasCell_19 : decode cX3_hasCell 19 = .ok (.imul, 1) := by decide +kernel
theorem dX3_hasCell_20 : decode cX3_hasCell 20 = .ok (.iload_n 3, 1) := by decide +kernel
theorem dX3_hasCell_21 : decode cX3_hasCell 21 = .ok (.iadd, 1) := by decide +kernel
theorem dX3_hasCell_22 : decode cX3_hasCell 22 = .ok (.iaload, 1) := by decide +kernel
theorem dX3_hasCell_23 : decode cX3_hasCell 23 = .ok (.iload_n 2, 1) := by decide +kernel
theorem dX3_hasCell_24 : decode cX3_hasCell 24 = .ok (.if_icmp .ne 5, 3) := by decide +kernel
theorem dX3_hasCell_27 : decode cX3_hasCell 27 = .ok (.iconst 1, 1) := by decide +kernel
theorem dX3_hasCell_28 : decode cX3_hasCell 28 = .ok (.ireturn, 1) := by decide +kernel
theorem dX3_hasCell_29 : decode cX3_hasCell 29 = .ok (.iinc 3 1, 3) := by decide +kernel
theorem dX3_hasCell_32 : decode cX3_hasCell 32 = .ok (.goto (-30), 3) := by decide +kernel
theorem dX3_hasCell_35 : decode cX3_hasCell 35 = .ok (.iconst 0, 1) := by decide +kernel
theorem dX3_hasCell_36 : decode cX3_hasCell 36 = .ok (.ireturn, 1) := by decide +kernel
theorem dX3_parseNumbers_0 : decode cX3_parseNumbers 0 = .ok (.iload_n 1, 1) := by decide +kernel
theorem dX3_parseNumbers_1 : decode cX3_parseNumbers 1 = .ok (.iconst 4, 1) := by decide +kernel
theorem dX3_parseNumbers_2 : decode cX3_parseNumbers 2 = .ok (.imul, 1) := by decide +kernel
theorem dX3_parseNumbers_3 : decode cX3_parseNumbers 3 = .ok (.istore_n 2, 1) := by decide +kernel
theorem dX3_parseNumbers_4 : decode cX3_parseNumbers 4 = .ok (.aload_n 0, 1) := by decide +kernel
theorem dX3_parseNumbers_5 : decode cX3_parseNumbers 5 = .ok (.getfield 24, 3) := by decide +kernel
theorem dX3_parseNumbers_8 : decode cX3_parseNumbers 8 = .ok (.iload_n 2, 1) := by decide +kernel
theorem dX3_parseNumbers_9 : decode cX3_parseNumbers 9 = .ok (.iconst 0, 1) := by decide +kernel
theorem dX3_parseNumbers_10 : decode cX3_parseNumbers 10 = .ok (.iadd, 1) := by decide +kernel
theorem dX3_parseNumbers_11 : decode cX3_parseNumbers 11 = .ok (.iconst 5, 1) := by decide +kernel
theorem dX3_parseNumbers_12 : decode cX3_parseNumbers 12 = .ok (.iastore, 1) := by decide +kernel
theorem dX3_parseNumbers_13 : decode cX3_parseNumbers 13 = .ok (.aload_n 0, 1) := by decide +kernel
theorem dX3_parseNumbers_14 : decode cX3_parseNumbers 14 = .ok (.getfield 24, 3) := by decide +kernel
theorem dX3_parseNumbers_17 : decode cX3_parseNumbers 17 = .ok (.iload_n 2, 1) := by decide +kernel
theorem dX3_parseNumbers_18 : decode cX3_parseNumbers 18 = .ok (.iconst 1, 1) := by decide +kernel
theorem dX3_parseNumbers_19 : decode cX3_parseNumbers 19 = .ok (.iadd, 1) := by decide +kernel
theorem dX3_parseNumbers_20 : decode cX3_parseNumbers 20 = .ok (.bipush 40, 2) := by decide +kernel
theorem dX3_parseNumbers_22 : decode cX3_parseNumbers 22 = .ok (.iastore, 1) := by decide +kernel
theorem dX3_parseNumbers_23 : decode cX3_parseNumbers 23 = .ok (.aload_n 0, 1) := by decide +kernel
theorem dX3_parseNumbers_24 : decode cX3_parseNumbers 24 = .ok (.getfield 24, 3) := by decide +kernel
theorem dX3_parseNumbers_27 : decode cX3_parseNumbers 27 = .ok (.iload_n 2, 1) := by decide +kernel
theorem dX3_parseNumbers_28 : decode cX3_parseNumbers 28 = .ok (.iconst 2, 1) := by decide +kernel
theorem dX3_parseNumbers_29 : decode cX3_parseNumbers 29 = .ok (.iadd, 1) := by decide +kernel
theorem dX3_parseNumbers_30 : decode cX3_parseNumbers 30 = .ok (.iconst 3, 1) := by decide +kernel
theorem dX3_parseNumbers_31 : decode cX3_parseNumbers 31 = .ok (.iastore, 1) := by decide +kernel
theorem dX3_parseNumbers_32 : decode cX3_parseNumbers 32 = .ok (.aload_n 0, 1) := by decide +kernel
theorem dX3_parseNumbers_33 : decode cX3_parseNumbers 33 = .ok (.getfield 24, 3) := by decide +kernel
theorem dX3_parseNumbers_36 : decode cX3_parseNumbers 36 = .ok (.iload_n 2, 1) := by decide +kernel
theorem dX3_parseNumbers_37 : decode cX3_parseNumbers 37 = .ok (.iconst 3, 1) := by decide +kernel
theorem dX3_parseNumbers_38 : decode cX3_parseNumbers 38 = .ok (.iadd, 1) := by decide +kernel
theorem dX3_parseNumbers_39 : decode cX3_parseNumbers 39 = .ok (.iconst 0, 1) := by decide +kernel
theorem dX3_parseNumbers_40 : decode cX3_parseNumbers 40 = .ok (.iastore, 1) := by decide +kernel
theorem dX3_parseNumbers_41 : decode cX3_parseNumbers 41 = .ok (.aload_n 0, 1) := by decide +kernel
theorem dX3_parseNumbers_42 : decode cX3_parseNumbers 42 = .ok (.bipush 42, 2) := by decide +kernel
theorem dX3_parseNumbers_44 : decode cX3_parseNumbers 44 = .ok (.iload_n 2, 1) := by decide +kernel
theorem dX3_parseNumbers_45 : decode cX3_parseNumbers 45 = .ok (.iconst 0, 1) := by decide +kernel
theorem dX3_parseNumbers_46 : decode cX3_parseNumbers 46 = .ok (.iadd, 1) := by decide +kernel
theorem dX3_parseNumbers_47 : decode cX3_parseNumbers 47 = .ok (.iconst 2, 1) := by decide +kernel
theorem dX3_parseNumbers_48 : decode cX3_parseNumbers 48 = .ok (.iconst 1, 1) := by decide +kernel
theorem dX3_parseNumbers_49 : decode cX3_parseNumbers 49 = .ok (.bipush 20, 2) := by decide +kernel
theorem dX3_parseNumbers_51 : decode cX3_parseNumbers 51 = .ok (.invokevirtual 69, 3) := by decide +kernel
theorem dX3_parseNumbers_54 : decode cX3_parseNumbers 54 = .ok (.ifCond .eq 62, 3) := by decide +kernel
theorem dX3_parseNumbers_57 : decode cX3_parseNumbers 57 = .ok (.aload_n 0, 1) := by decide +kernel
theorem dX3_parseNumbers_58 : decode cX3_parseNumbers 58 = .ok (.bipush 47, 2) := by decide +kernel
theorem dX3_parseNumbers_60 : decode cX3_parseNumbers 60 = .ok (.iload_n 2, 1) := by decide +kernel
theorem dX3_parseNumbers_61 : decode cX3_parseNumbers 61 = .ok (.iconst 1, 1) := by decide +kernel
theorem dX3_parseNumbers_62 : decode cX3_parseNumbers 62 = .ok (.iadd, 1) := by decide +kernel
theorem dX3_parseNumbers_63 : decode cX3_parseNumbers 63 = .ok (.iconst 2, 1) := by decide +kernel
theorem dX3_parseNumbers_64 : decode cX3_parseNumbers 64 = .ok (.aload_n 0, 1) := by decide +kernel
theorem dX3_parseNumbers_65 : decode cX3_parseNumbers 65 = .ok (.getfield 24, 3) := by decide +kernel
theorem dX3_parseNumbers_68 : decode cX3_parseNumbers 68 = .ok (.iload_n 2, 1) := by decide +kernel
theorem dX3_parseNumbers_69 : decode cX3_parseNumbers 69 = .ok (.iconst 0, 1) := by decide +kernel
theorem dX3_parseNumbers_70 : decode cX3_parseNumbers 70 = .ok (.iadd, 1) := by decide +kernel
theorem dX3_parseNumbers_71 : decode cX3_parseNumbers 71 = .ok (.iaload, 1) := by decide +kernel
theorem dX3_parseNumbers_72 : decode cX3_parseNumbers 72 = .ok (.bipush 99, 2) := by decide +kernel
theorem dX3_parseNumbers_74 : decode cX3_parseNumbers 74 = .ok (.invokevirtual 69, 3) := by decide +kernel
theorem dX3_parseNumbers_77 : decode cX3_parseNumbers 77 = .ok (.ifCond .eq 39, 3) := by decide +kernel
theorem dX3_parseNumbers_80 : decode cX3_parseNumbers 80 = .ok (.aload_n 0, 1) := by decide +kernel
theorem dX3_parseNumbers_81 : decode cX3_parseNumbers 81 = .ok (.bipush 126, 2) := by decide +kernel
theorem dX3_parseNumbers_83 : decode cX3_parseNumbers 83 = .ok (.iload_n 2, 1) := by decide +kernel
theorem dX3_parseNumbers_84 : decode cX3_parseNumbers 84 = .ok (.iconst 2, 1) := by decide +kernel
theorem dX3_parseNumbers_85 : decode cX3_parseNumbers 85 = .ok (.iadd, 1) := by decide +kernel
theorem dX3_parseNumbers_86 : decode cX3_parseNumbers 86 = .ok (.iconst 1, 1) := by decide +kernel
theorem dX3_parseNumbers_87 : decode cX3_parseNumbers 87 = .ok (.iconst 1, 1) := by decide +kernel
theorem dX3_parseNumbers_88 : decode cX3_parseNumbers 88 = .ok (.bipush 9, 2) := by decide +kernel
theorem dX3_parseNumbers_90 : decode cX3_parseNumbers 90 = .ok (.invokevirtual 69, 3) := by decide +kernel
theorem dX3_parseNumbers_93 : decode cX3_parseNumbers 93 = .ok (.ifCond .eq 23, 3) := by decide +kernel
theorem dX3_parseNumbers_96 : decode cX3_parseNumbers 96 = .ok (.aload_n 0, 1) := by decide +kernel
theorem dX3_parseNumbers_97 : decode cX3_parseNumbers 97 = .ok (.bipush 64, 2) := by decide +kernel
theorem dX3_parseNumbers_99 : decode cX3_parseNumbers 99 = .ok (.iload_n 2, 1) := by decide +kernel
theorem dX3_parseNumbers_100 : decode cX3_parseNumbers 100 = .ok (.iconst 3, 1) := by decide +kernel
theorem dX3_parseNumbers_101 : decode cX3_parseNumbers 101 = .ok (.iadd, 1) := by decide +kernel
theorem dX3_parseNumbers_102 : decode cX3_parseNumbers 102 = .ok (.iconst 2, 1) := by decide +kernel
theorem dX3_parseNumbers_103 : decode cX3_parseNumbers 103 = .ok (.iconst 0, 1) := by decide +kernel
theorem dX3_parseNumbers_104 : decode cX3_parseNumbers 104 = .ok (.bipush 60, 2) := by decide +kernel
theorem dX3_parseNumbers_106 : decode cX3_parseNumbers 106 = .ok (.invokevirtual 69, 3) := by decide +kernel
theorem dX3_parseNumbers_109 : decode cX3_parseNumbers 109 = .ok (.ifCond .eq 7, 3) := by decide +kernel
theorem dX3_parseNumbers_112 : decode cX3_parseNumbers 112 = .ok (.iconst 1, 1) := by decide +kernel
theorem dX3_parseNumbers_113 : decode cX3_parseNumbers 113 = .ok (.goto 4, 3) := by decide +kernel
theorem dX3_parseNumbers_116 : decode cX3_parseNumbers 116 = .ok (.iconst 0, 1) := by decide +kernel
theorem dX3_parseNumbers_117 : decode cX3_parseNumbers 117 = .ok (.ireturn, 1) := by decide +kernel
theorem dX3_parseNumber_0 : decode cX3_parseNumber 0 = .ok (.aload_n 0, 1) := by decide +kernel
theorem dX3_parseNumber_1 : decode cX3_parseNumber 1 = .ok (.invokevirtual 41, 3) := by decide +kernel
theorem dX3_parseNumber_4 : decode cX3_parseNumber 4 = .ok (.iload_n 1, 1) := by decide +kernel
theorem dX3_parseNumber_5 : decode cX3_parseNumber 5 = .ok (.if_icmp .eq 5, 3) := by decide +kernel
theorem dX3_parseNumber_8 : decode cX3_parseNumber 8 = .ok (.iconst 1, 1) := by decide +kernel
theorem dX3_parseNumber_9 : decode cX3_parseNumber 9 = .ok (.ireturn, 1) := by decide +kernel
theorem dX3_parseNumber_10 : decode cX3_parseNumber 10 = .ok (.aload_n 0, 1) := by decide +kernel
theorem dX3_parseNumber_11 : decode cX3_parseNumber 11 = .ok (.dup, 1) := by decide +kernel
theorem dX3_parseNumber_12 : decode cX3_parseNumber 12 = .ok (.getfield 31, 3) := by decide +kernel
theorem dX3_parseNumber_15 : decode cX3_parseNumber 15 = .ok (.iconst 1, 1) := by decide +kernel
theorem dX3_parseNumber_16 : decode cX3_parseNumber 16 = .ok (.iadd, 1) := by decide +kernel
theorem dX3_parseNumber_17 : decode cX3_parseNumber 17 = .ok (.putfield 31, 3) := by decide +kernel
theorem dX3_parseNumber_20 : decode cX3_parseNumber 20 = .ok (.aload_n 0, 1) := by decide +kernel
theorem dX3_parseNumber_21 : decode cX3_parseNumber 21 = .ok (.invokevirtual 41, 3) := by decide +kernel
theorem dX3_parseNumber_24 : decode cX3_parseNumber 24 = .ok (.bipush 48, 2) := by decide +kernel
theorem dX3_parseNumber_26 : decode cX3_parseNumber 26 = .ok (.bipush 57, 2) := by decide +kernel
theorem dX3_parseNumber_28 : decode cX3_parseNumber 28 = .ok (.invokestatic 61, 3) := by decide +kernel
theorem dX3_parseNumber_31 : decode cX3_parseNumber 31 = .ok (.ifCond .ne 12, 3) := by decide +kernel
theorem dX3_parseNumber_34 : decode cX3_parseNumber 34 = .ok (.aload_n 0, 1) := by decide +kernel
theorem dX3_parseNumber_35 : decode cX3_parseNumber 35 = .ok (.aload_n 0, 1) := by decide +kernel
theorem dX3_parseNumber_36 : decode cX3_parseNumber 36 = .ok (.getfield 31, 3) := by decide +kernel
theorem dX3_parseNumber_39 : decode cX3_parseNumber 39 = .ok (.invokevirtual 45, 3) := by decide +kernel
theorem dX3_parseNumber_42 : decode cX3_parseNumber 42 = .ok (.ireturn, 1) := by decide +kernel
theorem dX3_parseNumber_43 : decode cX3_parseNumber 43 = .ok (.iconst 0, 1) := by decide +kernel
theorem dX3_parseNumber_44 : decode cX3_parseNumber 44 = .ok (.istore 6, 2) := by decide +kernel
theorem dX3_parseNumber_46 : decode cX3_parseNumber 46 = .ok (.iconst 0, 1) := by decide +kernel
theorem dX3_parseNumber_47 : decode cX3_parseNumber 47 = .ok (.istore 7, 2) := by decide +kernel
theorem dX3_parseNumber_49 : decode cX3_parseNumber 49 = .ok (.iload 7, 2) := by decide +kernel
theorem dX3_parseNumber_51 : decode cX3_parseNumber 51 = .ok (.iload_n 3, 1) := by decide +kernel
theorem dX3_parseNumber_52 : decode cX3_parseNumber 52 = .ok (.if_icmp .ge 48, 3) := by decide +kernel
theorem dX3_parseNumber_55 : decode cX3_parseNumber 55 = .ok (.aload_n 0, 1) := by decide +kernel
theorem dX3_parseNumber_56 : decode cX3_parseNumber 56 = .ok (.invokevirtual 41, 3) := by decide +kernel
theorem dX3_parseNumber_59 : decode cX3_parseNumber 59 = .ok (.bipush 48, 2) := by decide +kernel
theorem dX3_parseNumber_61 : decode cX3_parseNumber 61 = .ok (.bipush 57, 2) := by decide +kernel
theorem dX3_parseNumber_63 : decode cX3_parseNumber 63 = .ok (.invokestatic 61, 3) := by decide +kernel
theorem dX3_parseNumber_66 : decode cX3_parseNumber 66 = .ok (.ifCond .eq 34, 3) := by decide +kernel
theorem dX3_parseNumber_69 : decode cX3_parseNumber 69 = .ok (.iload 6, 2) := by decide +kernel
theorem dX3_parseNumber_71 : decode cX3_parseNumber 71 = .ok (.bipush 10, 2) := by decide +kernel
theorem dX3_parseNumber_73 : decode cX3_parseNumber 73 = .ok (.imul, 1) := by decide +kernel
theorem dX3_parseNumber_74 : decode cX3_parseNumber 74 = .ok (.aload_n 0, 1) := by decide +kernel
theorem dX3_parseNumber_75 : decode cX3_parseNumber 75 = .ok (.invokevirtual 41, 3) := by decide +kernel
theorem dX3_parseNumber_78 : decode cX3_parseNumber 78 = .ok (.iadd, 1) := by decide +kernel
theorem dX3_parseNumber_79 : decode cX3_parseNumber 79 = .ok (.bipush 48, 2) := by decide +kernel
theorem dX3_parseNumber_81 : decode cX3_parseNumber 81 = .ok (.isub, 1) := by decide +kernel
theorem dX3_parseNumber_82 : decode cX3_parseNumber 82 = .ok (.istore 6, 2) := by decide +kernel
theorem dX3_parseNumber_84 : decode cX3_parseNumber 84 = .ok (.aload_n 0, 1) := by decide +kernel
theorem dX3_parseNumber_85 : decode cX3_parseNumber 85 = .ok (.dup, 1) := by decide +kernel
theorem dX3_parseNumber_86 : decode cX3_parseNumber 86 = .ok (.getfield 31, 3) := by decide +kernel
theorem dX3_parseNumber_89 : decode cX3_parseNumber 89 = .ok (.iconst 1, 1) := by decide +kernel
theorem dX3_parseNumber_90 : decode cX3_parseNumber 90 = .ok (.iadd, 1) := by decide +kernel
theorem dX3_parseNumber_91 : decode cX3_parseNumber 91 = .ok (.putfield 31, 3) := by decide +kernel
theorem dX3_parseNumber_94 : decode cX3_parseNumber 94 = .ok (.iinc 7 1, 3) := by decide +kernel
theorem dX3_parseNumber_97 : decode cX3_parseNumber 97 = .ok (.goto (-48), 3) := by decide +kernel
theorem dX3_parseNumber_100 : decode cX3_parseNumber 100 = .ok (.aload_n 0, 1) := by decide +kernel
theorem dX3_parseNumber_101 : decode cX3_parseNumber 101 = .ok (.getfield 24, 3) := by decide +kernel
theorem dX3_parseNumber_104 : decode cX3_parseNumber 104 = .ok (.iload_n 2, 1) := by decide +kernel
theorem dX3_parseNumber_105 : decode cX3_parseNumber 105 = .ok (.iload 6, 2) := by decide +kernel
theorem dX3_parseNumber_107 : decode cX3_parseNumber 107 = .ok (.iastore, 1) := by decide +kernel
theorem dX3_parseNumber_108 : decode cX3_parseNumber 108 = .ok (.iload 6, 2) := by decide +kernel
theorem dX3_parseNumber_110 : decode cX3_parseNumber 110 = .ok (.iload 4, 2) := by decide +kernel
theorem dX3_parseNumber_112 : decode cX3_parseNumber 112 = .ok (.iload 5, 2) := by decide +kernel
theorem dX3_parseNumber_114 : decode cX3_parseNumber 114 = .ok (.invokestatic 61, 3) := by decide +kernel
theorem dX3_parseNumber_117 : decode cX3_parseNumber 117 = .ok (.ifCond .ne 16, 3) := by decide +kernel
theorem dX3_parseNumber_120 : decode cX3_parseNumber 120 = .ok (.aload_n 0, 1) := by decide +kernel
theorem dX3_parseNumber_121 : decode cX3_parseNumber 121 = .ok (.aload_n 0, 1) := by decide +kernel
theorem dX3_parseNumber_122 : decode cX3_parseNumber 122 = .ok (.getfield 31, 3) := by decide +kernel
theorem dX3_parseNumber_125 : decode cX3_parseNumber 125 = .ok (.iconst 1, 1) := by decide +kernel
theorem dX3_parseNumber_126 : decode cX3_parseNumber 126 = .ok (.isub, 1) := by decide +kernel
theorem dX3_parseNumber_127 : decode cX3_parseNumber 127 = .ok (.invokevirtual 45, 3) := by decide +kernel
theorem dX3_parseNumber_130 : decode cX3_parseNumber 130 = .ok (.ifCond .eq 7, 3) := by decide +kernel
theorem dX3_parseNumber_133 : decode cX3_parseNumber 133 = .ok (.iconst 1, 1) := by decide +kernel
theorem dX3_parseNumber_134 : decode cX3_parseNumber 134 = .ok (.goto 4, 3) := by decide +kernel
theorem dX3_parseNumber_137 : decode cX3_parseNumber 137 = .ok (.iconst 0, 1) := by decide +kernel
theorem dX3_parseNumber_138 : decode cX3_parseNumber 138 = .ok (.ireturn, 1) := by decide +kernel
theorem dX4_init_0 : decode cX4_init 0 = .ok (.aload_n 0, 1) := by decide +kernel
theorem dX4_init_1 : decode cX4_init 1 = .ok (.invokespecial 1, 3) := by decide +kernel
theorem dX4_init_4 : decode cX4_init 4 = .ok (.aload_n 0, 1) := by decide +kernel
theorem dX4_init_5 : decode cX4_init 5 = .ok (.iload_n 1, 1) := by decide +kernel
theorem dX4_init_6 : decode cX4_init 6 = .ok (.putfield 7, 3) := by decide +kernel
theorem dX4_init_9 : decode cX4_init 9 = .ok (.aload_n 0, 1) := by decide +kernel
theorem dX4_init_10 : decode cX4_init 10 = .ok (.iload_n 1, 1) := by decide +kernel
theorem dX4_init_11 : decode cX4_init 11 = .ok (.iconst 3, 1) := by decide +kernel
theorem dX4_init_12 : decode cX4_init 12 = .ok (.imul, 1) := by decide +kernel
theorem dX4_init_13 : decode cX4_init 13 = .ok (.newarray .int, 2) := by decide +kernel
theorem dX4_init_15 : decode cX4_init 15 = .ok (.putfield 13, 3) := by decide +kernel
theorem dX4_init_18 : decode cX4_init 18 = .ok (.return_, 1) := by decide +kernel
theorem dX4_copyFrom_0 : decode cX4_copyFrom 0 = .ok (.aload_n 0, 1) := by decide +kernel
theorem dX4_copyFrom_1 : decode cX4_copyFrom 1 = .ok (.aload_n 1, 1) := by decide +kernel
theorem dX4_copyFrom_2 : decode cX4_copyFrom 2 = .ok (.getfield 17, 3) := by decide +kernel
theorem dX4_copyFrom_5 : decode cX4_copyFrom 5 = .ok (.putfield 17, 3) := by decide +kernel
theorem dX4_copyFrom_8 : decode cX4_copyFrom 8 = .ok (.aload_n 1, 1) := by decide +kernel
theorem dX4_copyFrom_9 : decode cX4_copyFrom 9 = .ok (.getfield 13, 3) := by decide +kernel
theorem dX4_copyFrom_12 : decode cX4_copyFrom 12 = .ok (.iconst 0, 1) := by decide +kernel
theorem dX4_copyFrom_13 : decode cX4_copyFrom 13 = .ok (.aload_n 0, 1) := by decide +kernel
theorem dX4_copyFrom_14 : decode cX4_copyFrom 14 = .ok (.getfield 13, 3) := by decide +kernel
theorem dX4_copyFrom_17 : decode cX4_copyFrom 17 = .ok (.iconst 0, 1) := by decide +kernel
theorem dX4_copyFrom_18 : decode cX4_copyFrom 18 = .ok (.aload_n 0, 1) := by decide +kernel
theorem dX4_copyFrom_19 : decode cX4_copyFrom 19 = .ok (.getfield 13, 3) := by decide +kernel
theorem dX4_copyFrom_22 : decode cX4_copyFrom 22 = .ok (.arraylength, 1) := by decide +kernel
theorem dX4_copyFrom_23 : decode cX4_copyFrom 23 = .ok (.aload_n 1, 1) := by decide +kernel
theorem dX4_copyFrom_24 : decode cX4_copyFrom 24 = .ok (.getfield 13, 3) := by decide +kernel
theorem dX4_copyFrom_27 : decode cX4_copyFrom 27 = .ok (.arraylength, 1) := by decide +kernel
theorem dX4_copyFrom_28 : decode cX4_copyFrom 28 = .ok (.invokestatic 20, 3) := by decide +kernel
theorem dX4_copyFrom_31 : decode cX4_copyFrom 31 = .ok (.invokestatic 26, 3) := by decide +kernel
theorem dX4_copyFrom_34 : decode cX4_copyFrom 34 = .ok (.return_, 1) := by decide +kernel
theorem dX4_at_0 : decode cX4_at 0 = .ok (.aload_n 0, 1) := by decide +kernel
theorem dX4_at_1 : decode cX4_at 1 = .ok (.getfield 13, 3) := by decide +kernel
theorem dX4_at_4 : decode cX4_at 4 = .ok (.iload_n 1, 1) := by decide +kernel
theorem dX4_at_5 : decode cX4_at 5 = .ok (.iconst 3, 1) := by decide +kernel
theorem dX4_at_6 : decode cX4_at 6 = .ok (.imul, 1) := by decide +kernel
theorem dX4_at_7 : decode cX4_at 7 = .ok (.iload_n 2, 1) := by decide +kernel
theorem dX4_at_8 : decode cX4_at 8 = .ok (.iadd, 1) := by decide +kernel
theorem dX4_at_9 : decode cX4_at 9 = .ok (.iaload, 1) := by decide +kernel
theorem dX4_at_10 : decode cX4_at 10 = .ok (.ireturn, 1) := by decide +kernel
theorem dX4_add_0 : decode cX4_add 0 = .ok (.aload_n 0, 1) := by decide +kernel
theorem dX4_add_1 : decode cX4_add 1 = .ok (.getfield 17, 3) := by decide +kernel
theorem dX4_add_4 : decode cX4_add 4 = .ok (.aload_n 0, 1) := by decide +kernel
theorem dX4_add_5 : decode cX4_add 5 = .ok (.getfield 7, 3) := by decide +kernel
theorem dX4_add_8 : decode cX4_add 8 = .ok (.if_icmp .lt 5, 3) := by decide +kernel
theorem dX4_add_11 : decode cX4_add 11 = .ok (.iconst 0, 1) := by decide +kernel
theorem dX4_add_12 : decode cX4_add 12 = .ok (.ireturn, 1) := by decide +kernel
theorem dX4_add_13 : decode cX4_add 13 = .ok (.aload_n 0, 1) := by decide +kernel
theorem dX4_add_14 : decode cX4_add 14 = .ok (.getfield 17, 3) := by decide +kernel
theorem dX4_add_17 : decode cX4_add 17 = .ok (.iconst 3, 1) := by decide +kernel
theorem dX4_add_18 : decode cX4_add 18 = .ok (.imul, 1) := by decide +kernel
theorem dX4_add_19 : decode cX4_add 19 = .ok (.istore 4, 2) := by decide +kernel
theorem dX4_add_21 : decode cX4_add 21 = .ok (.aload_n 0, 1) := by decide +kernel
theorem dX4_add_22 : decode cX4_add 22 = .ok (.getfield 13, 3) := by decide +kernel
theorem dX4_add_25 : decode cX4_add 25 = .ok (.iload 4, 2) := by decide +kernel
theorem dX4_add_27 : decode cX4_add 27 = .ok (.iload_n 1, 1) := by decide +kernel
theorem dX4_add_28 : decode cX4_add 28 = .ok (.iastore, 1) := by decide +kernel
theorem dX4_add_29 : decode cX4_add 29 = .ok (.aload_n 0, 1) := by decide +kernel
theorem dX4_add_30 : decode cX4_add 30 = .ok (.getfield 13, 3) := by decide +kernel
theorem dX4_add_33 : decode cX4_add 33 = .ok (.iload 4, 2) := by decide +kernel
theorem dX4_add_35 : decode cX4_add 35 = .ok (.iconst 1, 1) := by decide +kernel
theorem dX4_add_36 : decode cX4_add 36 = .ok (.iadd, 1) := by decide +kernel
theorem dX4_add_37 : decode cX4_add 37 = .ok (.iload_n 2, 1) := by decide +kernel
theorem dX4_add_38 : decode cX4_add 38 = .ok (.iastore, 1) := by decide +kernel
theorem dX4_add_39 : decode cX4_add 39 = .ok (.aload_n 0, 1) := by decide +kernel
theorem dX4_add_40 : decode cX4_add 40 = .ok (.getfield 13, 3) := by decide +kernel
theorem dX4_add_43 : decode cX4_add 43 = .ok (.iload 4, 2) := by decide +kernel
theorem dX4_add_45 : decode cX4_add 45 = .ok (.iconst 2, 1) := by decide +kernel
theorem dX4_add_46 : decode cX4_add 46 = .ok (.iadd, 1) := by decide +kernel
theorem dX4_add_47 : decode cX4_add 47 = .ok (.iload_n 3, 1) := by decide +kernel
theorem dX4_add_48 : decode cX4_add 48 = .ok (.iastore, 1) := by decide +kernel
theorem dX4_add_49 : decode cX4_add 49 = .ok (.aload_n 0, 1) := by decide +kernel
theorem dX4_add_50 : decode cX4_add 50 = .ok (.dup, 1) := by decide +kernel
theorem dX4_add_51 : decode cX4_add 51 = .ok (.getfield 17, 3) := by decide +kernel
theorem dX4_add_54 : decode cX4_add 54 = .ok (.iconst 1, 1) := by decide +kernel
theorem dX4_add_55 : decode cX4_add 55 = .ok (.iadd, 1) := by decide +kernel
theorem dX4_add_56 : decode cX4_add 56 = .ok (.putfield 17, 3) := by decide +kernel
theorem dX4_add_59 : decode cX4_add 59 = .ok (.iconst 1, 1) := by decide +kernel
theorem dX4_add_60 : decode cX4_add 60 = .ok (.ireturn, 1) := by decide +kernel
theorem dX4_addAsLatest_0 : decode cX4_addAsLatest 0 = .ok (.aload_n 0, 1) := by decide +kernel
theorem dX4_addAsLatest_1 : decode cX4_addAsLatest 1 = .ok (.getfield 17, 3) := by decide +kernel
theorem dX4_addAsLatest_4 : decode cX4_addAsLatest 4 = .ok (.aload_n 0, 1) := by decide +kernel
theorem dX4_addAsLatest_5 : decode cX4_addAsLatest 5 = .ok (.getfield 7, 3) := by decide +kernel
theorem dX4_addAsLatest_8 : decode cX4_addAsLatest 8 = .ok (.if_icmp .lt 33, 3) := by decide +kernel
theorem dX4_addAsLatest_11 : decode cX4_addAsLatest 11 = .ok (.aload_n 0, 1) := by decide +kernel
theorem dX4_addAsLatest_12 : decode cX4_addAsLatest 12 = .ok (.getfield 13, 3) := by decide +kernel
theorem dX4_addAsLatest_15 : decode cX4_addAsLatest 15 = .ok (.iconst 3, 1) := by decide +kernel
theorem dX4_addAsLatest_16 : decode cX4_addAsLatest 16 = .ok (.aload_n 0, 1) := by decide +kernel
theorem dX4_addAsLatest_17 : decode cX4_addAsLatest 17 = .ok (.getfield 13, 3) := by decide +kernel
theorem dX4_addAsLatest_20 : decode cX4_addAsLatest 20 = .ok (.iconst 0, 1) := by decide +kernel
theorem dX4_addAsLatest_21 : decode cX4_addAsLatest 21 = .ok (.aload_n 0, 1) := by decide +kernel
theorem dX4_addAsLatest_22 : decode cX4_addAsLatest 22 = .ok (.getfield 13, 3) := by decide +kernel
theorem dX4_addAsLatest_25 : decode cX4_addAsLatest 25 = .ok (.arraylength, 1) := by decide +kernel
theorem dX4_addAsLatest_26 : decode cX4_addAsLatest 26 = .ok (.iconst 3, 1) := by decide +kernel
theorem dX4_addAsLatest_27 : decode cX4_addAsLatest 27 = .ok (.isub, 1) := by decide +kernel
theorem dX4_addAsLatest_28 : decode cX4_addAsLatest 28 = .ok (.invokestatic 26, 3) := by decide +kernel
theorem dX4_addAsLatest_31 : decode cX4_addAsLatest 31 = .ok (.aload_n 0, 1) := by decide +kernel
theorem dX4_addAsLatest_32 : decode cX4_addAsLatest 32 = .ok (.aload_n 0, 1) := by decide +kernel
theorem dX4_addAsLatest_33 : decode cX4_addAsLatest 33 = .ok (.getfield 7, 3) := by decide +kernel
theorem dX4_addAsLatest_36 : decode cX4_addAsLatest 36 = .ok (.iconst 1, 1) := by decide +kernel
theorem dX4_addAsLatest_37 : decode cX4_addAsLatest 37 = .ok (.isub, 1) := by decide +kernel
theorem dX4_addAsLatest_38 : decode cX4_addAsLatest 38 = .ok (.putfield 17, 3) := by decide +kernel
theorem dX4_addAsLatest_41 : decode cX4_addAsLatest 41 = .ok (.aload_n 0, 1) := by decide +kernel
theorem dX4_addAsLatest_42 : decode cX4_addAsLatest 42 = .ok (.iload_n 1, 1) := by decide +kernel
theorem dX4_addAsLatest_43 : decode cX4_addAsLatest 43 = .ok (.iload_n 2, 1) := by decide +kernel
theorem dX4_addAsLatest_44 : decode cX4_addAsLatest 44 = .ok (.iload_n 3, 1) := by decide +kernel
theorem dX4_addAsLatest_45 : decode cX4_addAsLatest 45 = .ok (.invokevirtual 32, 3) := by decide +kernel
theorem dX4_addAsLatest_48 : decode cX4_addAsLatest 48 = .ok (.pop, 1) := by decide +kernel
theorem dX4_addAsLatest_49 : decode cX4_addAsLatest 49 = .ok (.return_, 1) := by decide +kernel
theorem dX5_init_0 : decode cX5_init 0 = .ok (.aload_n 0, 1) := by decide +kernel
theorem dX5_init_1 : decode cX5_init 1 = .ok (.invokespecial 3, 3) := by decide +kernel
theorem dX5_init_4 : decode cX5_init 4 = .ok (.aload_n 0, 1) := by decide +kernel
theorem dX5_init_5 : decode cX5_init 5 = .ok (.bipush 32, 2) := by decide +kernel
theorem dX5_init_7 : decode cX5_init 7 = .ok (.newarray .int, 2) := by decide +kernel
theorem dX5_init_9 : decode cX5_init 9 = .ok (.putfield 9, 3) := by decide +kernel
theorem dX5_init_12 : decode cX5_init 12 = .ok (.aload_n 0, 1) := by decide +kernel
theorem dX5_init_13 : decode cX5_init 13 = .ok (.bipush 8, 2) := by decide +kernel
theorem dX5_init_15 : decode cX5_init 15 = .ok (.newarray .int, 2) := by decide +kernel
theorem dX5_init_17 : decode cX5_init 17 = .ok (.putfield 15, 3) := by decide +kernel
theorem dX5_init_20 : decode cX5_init 20 = .ok (.aload_n 0, 1) := by decide +kernel
theorem dX5_init_21 : decode cX5_init 21 = .ok (.bipush 8, 2) := by decide +kernel
theorem dX5_init_23 : decode cX5_init 23 = .ok (.newarray .int, 2) := by decide +kernel
theorem dX5_init_25 : decode cX5_init 25 = .ok (.putfield 18, 3) := by decide +kernel
theorem dX5_init_28 : decode cX5_init 28 = .ok (.aload_n 0, 1) := by decide +kernel
theorem dX5_init_29 : decode cX5_init 29 = .ok (.bipush 8, 2) := by decide +kernel
theorem dX5_init_31 : decode cX5_init 31 = .ok (.newarray .int, 2) := by decide +kernel
theorem dX5_init_33 : decode cX5_init 33 = .ok (.putfield 21, 3) := by decide +kernel
theorem dX5_init_36 : decode cX5_init 36 = .ok (.aload_n 0, 1) := by decide +kernel
theorem dX5_init_37 : decode cX5_init 37 = .ok (.bipush 8, 2) := by decide +kernel
theorem dX5_init_39 : decode cX5_init 39 = .ok (.newarray .int, 2) := by decide +kernel
theorem dX5_init_41 : decode cX5_init 41 = .ok (.putfield 24, 3) := by decide +kernel
theorem dX5_init_44 : decode cX5_init 44 = .ok (.aload_n 0, 1) := by decide +kernel
theorem dX5_init_45 : decode cX5_init 45 = .ok (.bipush 8, 2) := by decide +kernel
theorem dX5_init_47 : decode cX5_init 47 = .ok (.newarray .int, 2) := by decide +kernel
theorem dX5_init_49 : decode cX5_init 49 = .ok (.putfield 27, 3) := by decide +kernel
theorem dX5_init_52 : decode cX5_init 52 = .ok (.aload_n 0, 1) := by decide +kernel
theorem dX5_init_53 : decode cX5_init 53 = .ok (.bipush 8, 2) := by decide +kernel
theorem dX5_init_55 : decode cX5_init 55 = .ok (.newarray .int, 2) := by decide +kernel
theorem dX5_init_57 : decode cX5_init 57 = .ok (.putfield 30, 3) := by decide +kernel
theorem dX5_init_60 : decode cX5_init 60 = .ok (.aload_n 0, 1) := by decide +kernel
theorem dX5_init_61 : decode cX5_init 61 = .ok (.getfield 18, 3) := by decide +kernel
theorem dX5_init_64 : decode cX5_init 64 = .ok (.bipush (-5), 2) := by decide +kernel
theorem dX5_init_66 : decode cX5_init 66 = .ok (.invokestatic 33, 3) := by decide +kernel
theorem dX5_init_69 : decode cX5_init 69 = .ok (.aload_n 0, 1) := by decide +kernel
theorem dX5_init_70 : decode cX5_init 70 = .ok (.getfield 24, 3) := by decide +kernel
theorem dX5_init_73 : decode cX5_init 73 = .ok (.bipush (-5), 2) := by decide +kernel
theorem dX5_init_75 : decode cX5_init 75 = .ok (.invokestatic 33, 3) := by decide +kernel
theorem dX5_init_78 : decode cX5_init 78 = .ok (.aload_n 0, 1) := by decide +kernel
theorem dX5_init_79 : decode cX5_init 79 = .ok (.getfield 27, 3) := by decide +kernel
theorem dX5_init_82 : decode cX5_init 82 = .ok (.bipush (-5), 2) := by decide +kernel
theorem dX5_init_84 : decode cX5_init 84 = .ok (.invokestatic 33, 3) := by decide +kernel
theorem dX5_init_87 : decode cX5_init 87 = .ok (.iconst 0, 1) := by decide +kernel
theorem dX5_init_88 : decode cX5_init 88 = .ok (.istore_n 1, 1) := by decide +kernel
theorem dX5_init_89 : decode cX5_init 89 = .ok (.iload_n 1, 1) := by decide +kernel
theorem dX5_init_90 : decode cX5_init 90 = .ok (.bipush 8, 2) := by decide +kernel
theorem dX5_init_92 : decode cX5_init 92 = .ok (.if_icmp .ge 43, 3) := by decide +kernel
theorem dX5_init_95 : decode cX5_init 95 = .ok (.aload_n 0, 1) := by decide +kernel
theorem dX5_init_96 : decode cX5_init 96 = .ok (.getfield 9, 3) := by decide +kernel
theorem dX5_init_99 : decode cX5_init 99 = .ok (.iload_n 1, 1) := by decide +kernel
theorem dX5_init_100 : decode cX5_init 100 = .ok (.iconst 4, 1) := by decide +kernel
theorem dX5_init_101 : decode cX5_init 101 = .ok (.imul, 1) := by decide +kernel
theorem dX5_init_102 : decode cX5_init 102 = .ok (.iconst 0, 1) := by decide +kernel
theorem dX5_init_103 : decode cX5_init 103 = .ok (.iadd, 1) := by decide +kernel
theorem dX5_init_104 : decode cX5_init 104 = .ok (.iconst 5, 1) := by decide +kernel
theorem dX5_init_105 : decode cX5_init 105 = .ok (.iastore, 1) := by decide +kernel
theorem dX5_init_106 : decode cX5_init 106 = .ok (.aload_n 0, 1) := by decide +kernel
theorem dX5_init_107 : decode cX5_init 107 = .ok (.getfield 9, 3) := by decide +kernel
theorem dX5_init_110 : decode cX5_init 110 = .ok (.iload_n 1, 1) := by decide +kernel
theorem dX5_init_111 : decode cX5_init 111 = .ok (.iconst 4, 1) := by decide +kernel
theorem dX5_init_112 : decode cX5_init 112 = .ok (.imul, 1) := by decide +kernel
theorem dX5_init_113 : decode cX5_init 113 = .ok (.iconst 1, 1) := by decide +kernel
theorem dX5_init_114 : decode cX5_init 114 = .ok (.iadd, 1) := by decide +kernel
theorem dX5_init_115 : decode cX5_init 115 = .ok (.bipush 40, 2) := by decide +kernel
theorem dX5_init_117 : decode cX5_init 117 = .ok (.iastore, 1) := by decide +kernel
theorem dX5_init_118 : decode cX5_init 118 = .ok (.aload_n 0, 1) := by decide +kernel
theorem dX5_init_119 : decode cX5_init 119 = .ok (.getfield 9, 3) := by decide +kernel
theorem dX5_init_122 : decode cX5_init 122 = .ok (.iload_n 1, 1) := by decide +kernel
theorem dX5_init_123 : decode cX5_init 123 = .ok (.iconst 4, 1) := by decide +kernel
theorem dX5_init_124 : decode cX5_init 124 = .ok (.imul, 1) := by decide +kernel
theorem dX5_init_125 : decode cX5_init 125 = .ok (.iconst 2, 1) := by decide +kernel
theorem dX5_init_126 : decode cX5_init 126 = .ok (.iadd, 1) := by decide +kernel
theorem dX5_init_127 : decode cX5_init 127 = .ok (.iconst 3, 1) := by decide +kernel
theorem dX5_init_128 : decode cX5_init 128 = .ok (.iastore, 1) := by decide +kernel
theorem dX5_init_129 : decode cX5_init 129 = .ok (.iinc 1 1, 3) := by decide +kernel
theorem dX5_init_132 : decode cX5_init 132 = .ok (.goto (-43), 3) := by decide +kernel
theorem dX5_init_135 : decode cX5_init 135 = .ok (.return_, 1) := by decide +kernel
theorem dX5_copyFrom_0 : decode cX5_copyFrom 0 = .ok (.aload_n 0, 1) := by decide +kernel
theorem dX5_copyFrom_1 : decode cX5_copyFrom 1 = .ok (.aload_n 1, 1) := by decide +kernel
theorem dX5_copyFrom_2 : decode cX5_copyFrom 2 = .ok (.getfield 39, 3) := by decide +kernel
theorem dX5_copyFrom_5 : decode cX5_copyFrom 5 = .ok (.putfield 39, 3) := by decide +kernel
theorem dX5_copyFrom_8 : decode cX5_copyFrom 8 = .ok (.aload_n 1, 1) := by decide +kernel
theorem dX5_copyFrom_9 : decode cX5_copyFrom 9 = .ok (.getfield 9, 3) := by decide +kernel
theorem dX5_copyFrom_12 : decode cX5_copyFrom 12 = .ok (.iconst 0, 1) := by decide +kernel
theorem dX5_copyFrom_13 : decode cX5_copyFrom 13 = .ok (.aload_n 0, 1) := by decide +kernel
theorem dX5_copyFrom_14 : decode cX5_copyFrom 14 = .ok (.getfield 9, 3) := by decide +kernel
theorem dX5_copyFrom_17 : decode cX5_copyFrom 17 = .ok (.iconst 0, 1) := by decide +kernel
theorem dX5_copyFrom_18 : decode cX5_copyFrom 18 = .ok (.bipush 32, 2) := by decide +kernel
theorem dX5_copyFrom_20 : decode cX5_copyFrom 20 = .ok (.invokestatic 43, 3) := by decide +kernel
theorem dX5_copyFrom_23 : decode cX5_copyFrom 23 = .ok (.aload_n 1, 1) := by decide +kernel
theorem dX5_copyFrom_24 : decode cX5_copyFrom 24 = .ok (.getfield 15, 3) := by decide +kernel
theorem dX5_copyFrom_27 : decode cX5_copyFrom 27 = .ok (.iconst 0, 1) := by decide +kernel
theorem dX5_copyFrom_28 : decode cX5_copyFrom 28 = .ok (.aload_n 0, 1) := by decide +kernel
theorem dX5_copyFrom_29 : decode cX5_copyFrom 29 = .ok (.getfield 15, 3) := by decide +kernel
theorem dX5_copyFrom_32 : decode cX5_copyFrom 32 = .ok (.iconst 0, 1) := by decide +kernel
theorem dX5_copyFrom_33 : decode cX5_copyFrom 33 = .ok (.bipush 8, 2) := by decide +kernel
theorem dX5_copyFrom_35 : decode cX5_copyFrom 35 = .ok (.invokestatic 43, 3) := by decide +kernel
theorem dX5_copyFrom_38 : decode cX5_copyFrom 38 = .ok (.aload_n 1, 1) := by decide +kernel
theorem dX5_copyFrom_39 : decode cX5_copyFrom 39 = .ok (.getfield 18, 3) := by decide +kernel
theorem dX5_copyFrom_42 : decode cX5_copyFrom 42 = .ok (.iconst 0, 1) := by decide +kernel
theorem dX5_copyFrom_43 : decode cX5_copyFrom 43 = .ok (.aload_n 0, 1) := by decide +kernel
theorem dX5_copyFrom_44 : decode cX5_copyFrom 44 = .ok (.getfield 18, 3) := by decide +kernel
theorem dX5_copyFrom_47 : decode cX5_copyFrom 47 = .ok (.iconst 0, 1) := by decide +kernel
theorem dX5_copyFrom_48 : decode cX5_copyFrom 48 = .ok (.bipush 8, 2) := by decide +kernel
theorem dX5_copyFrom_50 : decode cX5_copyFrom 50 = .ok (.invokestatic 43, 3) := by decide +kernel
theorem dX5_copyFrom_53 : decode cX5_copyFrom 53 = .ok (.aload_n 1, 1) := by decide +kernel
theorem dX5_copyFrom_54 : decode cX5_copyFrom 54 = .ok (.getfield 21, 3) := by decide +kernel
theorem dX5_copyFrom_57 : decode cX5_copyFrom 57 = .ok (.iconst 0, 1) := by decide +kernel
theorem dX5_copyFrom_58 : decode cX5_copyFrom 58 = .ok (.aload_n 0, 1) := by decide +kernel
theorem dX5_copyFrom_59 : decode cX5_copyFrom 59 = .ok (.getfield 21, 3) := by decide +kernel
theorem dX5_copyFrom_62 : decode cX5_copyFrom 62 = .ok (.iconst 0, 1) := by decide +kernel
theorem dX5_copyFrom_63 : decode cX5_copyFrom 63 = .ok (.bipush 8, 2) := by decide +kernel
theorem dX5_copyFrom_65 : decode cX5_copyFrom 65 = .ok (.invokestatic 43, 3) := by decide +kernel
theorem dX5_copyFrom_68 : decode cX5_copyFrom 68 = .ok (.aload_n 1, 1) := by decide +kernel
theorem dX5_copyFrom_69 : decode cX5_copyFrom 69 = .ok (.getfield 24, 3) := by decide +kernel
theorem dX5_copyFrom_72 : decode cX5_copyFrom 72 = .ok (.iconst 0, 1) := by decide +kernel
theorem dX5_copyFrom_73 : decode cX5_copyFrom 73 = .ok (.aload_n 0, 1) := by decide +kernel
theorem dX5_copyFrom_74 : decode cX5_copyFrom 74 = .ok (.getfield 24, 3) := by decide +kernel
theorem dX5_copyFrom_77 : decode cX5_copyFrom 77 = .ok (.iconst 0, 1) := by decide +kernel
theorem dX5_copyFrom_78 : decode cX5_copyFrom 78 = .ok (.bipush 8, 2) := by decide +kernel
theorem dX5_copyFrom_80 : decode cX5_copyFrom 80 = .ok (.invokestatic 43, 3) := by decide +kernel
theorem dX5_copyFrom_83 : decode cX5_copyFrom 83 = .ok (.aload_n 1, 1) := by decide +kernel
theorem dX5_copyFrom_84 : decode cX5_copyFrom 84 = .ok (.getfield 27, 3) := by decide +kernel
theorem dX5_copyFrom_87 : decode cX5_copyFrom 87 = .ok (.iconst 0, 1) := by decide +kernel
theorem dX5_copyFrom_88 : decode cX5_copyFrom 88 = .ok (.aload_n 0, 1) := by decide +kernel
theorem dX5_copyFrom_89 : decode cX5_copyFrom 89 = .ok (.getfield 27, 3) := by decide +kernel
theorem dX5_copyFrom_92 : decode cX5_copyFrom 92 = .ok (.iconst 0, 1) := by decide +kernel
theorem dX5_copyFrom_93 : decode cX5_copyFrom 93 = .ok (.bipush 8, 2) := by decide +kernel
theorem dX5_copyFrom_95 : decode cX5_copyFrom 95 = .ok (.invokestatic 43, 3) := by decide +kernel
theorem dX5_copyFrom_98 : decode cX5_copyFrom 98 = .ok (.aload_n 1, 1) := by decide +kernel
theorem dX5_copyFrom_99 : decode cX5_copyFrom 99 = .ok (.getfield 30, 3) := by decide +kernel
theorem dX5_copyFrom_102 : decode cX5_copyFrom 102 = .ok (.iconst 0, 1) := by decide +kernel
theorem dX5_copyFrom_103 : decode cX5_copyFrom 103 = .ok (.aload_n 0, 1) := by decide +kernel
theorem dX5_copyFrom_104 : decode cX5_copyFrom 104 = .ok (.getfield 30, 3) := by decide +kernel
theorem dX5_copyFrom_107 : decode cX5_copyFrom 107 = .ok (.iconst 0, 1) := by decide +kernel
theorem dX5_copyFrom_108 : decode cX5_copyFrom 108 = .ok (.bipush 8, 2) := by decide +kernel
theorem dX5_copyFrom_110 : decode cX5_copyFrom 110 = .ok (.invokestatic 43, 3) := by decide +kernel
theorem dX5_copyFrom_113 : decode cX5_copyFrom 113 = .ok (.return_, 1) := by decide +kernel
theorem dX5_rule_0 : decode cX5_rule 0 = .ok (.aload_n 0, 1) := by decide +kernel
theorem dX5_rule_1 : decode cX5_rule 1 = .ok (.getfield 9, 3) := by decide +kernel
theorem dX5_rule_4 : decode cX5_rule 4 = .ok (.iload_n 1, 1) := by decide +kernel
theorem dX5_rule_5 : decode cX5_rule 5 = .ok (.iconst 4, 1) := by decide +kernel
theorem dX5_rule_6 : decode cX5_rule 6 = .ok (.imul, 1) := by decide +kernel
theorem dX5_rule_7 : decode cX5_rule 7 = .ok (.iload_n 2, 1) := by decide +kernel
theorem dX5_rule_8 : decode cX5_rule 8 = .ok (.iadd, 1) := by decide +kernel
theorem dX5_rule_9 : decode cX5_rule 9 = .ok (.iaload, 1) := by decide +kernel
theorem dX5_rule_10 : decode cX5_rule 10 = .ok (.ireturn, 1) := by decide +kernel
theorem dX5_lowest_0 : decode cX5_lowest 0 = .ok (.iload_n 2, 1) := by decide +kernel
theorem dX5_lowest_1 : decode cX5_lowest 1 = .ok (.iconst 1, 1) := by decide +kernel
theorem dX5_lowest_2 : decode cX5_lowest 2 = .ok (.if_icmp .ne 10, 3) := by decide +kernel
theorem dX5_lowest_5 : decode cX5_lowest 5 = .ok (.aload_n 0, 1) := by decide +kernel
theorem dX5_lowest_6 : decode cX5_lowest 6 = .ok (.iload_n 1, 1) := by decide +kernel
theorem dX5_lowest_7 : decode cX5_lowest 7 = .ok (.iconst 0, 1) := by decide +kernel
theorem dX5_lowest_8 : decode cX5_lowest 8 = .ok (.invokevirtual 49, 3) := by decide +kernel
theorem dX5_lowest_11 : decode cX5_lowest 11 = .ok (.ireturn, 1) := by decide +kernel
theorem dX5_lowest_12 : decode cX5_lowest 12 = .ok (.iload_n 2, 1) := by decide +kernel
theorem dX5_lowest_13 : decode cX5_lowest 13 = .ok (.iconst 3, 1) := by decide +kernel
theorem dX5_lowest_14 : decode cX5_lowest 14 = .ok (.if_icmp .ne 7, 3) := by decide +kernel
theorem dX5_lowest_17 : decode cX5_lowest 17 = .ok (.iconst 0, 1) := by decide +kernel
theorem dX5_lowest_18 : decode cX5_lowest 18 = .ok (.goto 4, 3) := by decide +kernel
theorem dX5_lowest_21 : decode cX5_lowest 21 = .ok (.iconst 1, 1) := by decide +kernel
theorem dX5_lowest_22 : decode cX5_lowest 22 = .ok (.ireturn, 1) := by decide +kernel
theorem dX5_highest_0 : decode cX5_highest 0 = .ok (.iload_n 2, 1) := by decide +kernel
theorem dX5_highest_1 : decode cX5_highest 1 = .ok (.tableswitch 45 0 2 #[27, 39, 42], 27) := by decide +kernel
theorem dX5_highest_28 : decode cX5_highest 28 = .ok (.bipush 20, 2) := by decide +kernel
theorem dX5_highest_30 : decode cX5_highest 30 = .ok (.aload_n 0, 1) := by decide +kernel
theorem dX5_highest_31 : decode cX5_highest 31 = .ok (.iload_n 1, 1) := by decide +kernel
theorem dX5_highest_32 : decode cX5_highest 32 = .ok (.iconst 1, 1) := by decide +kernel
theorem dX5_highest_33 : decode cX5_highest 33 = .ok (.invokevirtual 49, 3) := by decide +kernel
theorem dX5_highest_36 : decode cX5_highest 36 = .ok (.invokestatic 53, 3) := by decide +kernel
theorem dX5_highest_39 : decode cX5_highest 39 = .ok (.ireturn, 1) := by decide +kernel
theorem dX5_highest_40 : decode cX5_highest 40 = .ok (.bipush 99, 2) := by decide +kernel
theorem dX5_highest_42 : decode cX5_highest 42 = .ok (.ireturn, 1) := by decide +kernel
theorem dX5_highest_43 : decode cX5_highest 43 = .ok (.bipush 9, 2) := by decide +kernel
theorem dX5_highest_45 : decode cX5_highest 45 = .ok (.ireturn, 1) := by decide +kernel
theorem dX5_highest_46 : decode cX5_highest 46 = .ok (.bipush 60, 2) := by decide +kernel
theorem dX5_highest_48 : decode cX5_highest 48 = .ok (.ireturn, 1) := by decide +kernel
theorem dX5_setGaps_0 : decode cX5_setGaps 0 = .ok (.iconst 0, 1) := by decide +kernel
theorem dX5_setGaps_1 : decode cX5_setGaps 1 = .ok (.istore_n 2, 1) := by decide +kernel
theorem dX5_setGaps_2 : decode cX5_setGaps 2 = .ok (.iload_n 2, 1) := by decide +kernel
theorem dX5_setGaps_3 : decode cX5_setGaps 3 = .ok (.bipush 8, 2) := by decide +kernel
theorem dX5_setGaps_5 : decode cX5_setGaps 5 = .ok (.if_icmp .ge 20, 3) := by decide +kernel
theorem dX5_setGaps_8 : decode cX5_setGaps 8 = .ok (.aload_n 0, 1) := by decide +kernel
theorem dX5_setGaps_9 : decode cX5_setGaps 9 = .ok (.getfield 9, 3) := by decide +kernel
theorem dX5_setGaps_12 : decode cX5_setGaps 12 = .ok (.iload_n 2, 1) := by decide +kernel
theorem dX5_setGaps_13 : decode cX5_setGaps 13 = .ok (.iconst 4, 1) := by decide +kernel
theorem dX5_setGaps_14 : decode cX5_setGaps 14 = .ok (.imul, 1) := by decide +kernel
theorem dX5_setGaps_15 : decode cX5_setGaps 15 = .ok (.iconst 2, 1) := by decide +kernel
theorem dX5_setGaps_16 : decode cX5_setGaps 16 = .ok (.iadd, 1) := by decide +kernel
theorem dX5_setGaps_17 : decode cX5_setGaps 17 = .ok (.iload_n 1, 1) := by decide +kernel
theorem dX5_setGaps_18 : decode cX5_setGaps 18 = .ok (.iastore, 1) := by decide +kernel
theorem dX5_setGaps_19 : decode cX5_setGaps 19 = .ok (.iinc 2 1, 3) := by decide +kernel
theorem dX5_setGaps_22 : decode cX5_setGaps 22 = .ok (.goto (-20), 3) := by decide +kernel
theorem dX5_setGaps_25 : decode cX5_setGaps 25 = .ok (.return_, 1) := by decide +kernel
theorem dX5_join_0 : decode cX5_join 0 = .ok (.aload_n 0, 1) := by decide +kernel
theorem dX5_join_1 : decode cX5_join 1 = .ok (.getfield 15, 3) := by decide +kernel
theorem dX5_join_4 : decode cX5_join 4 = .ok (.iload_n 1, 1) := by decide +kernel
theorem dX5_join_5 : decode cX5_join 5 = .ok (.iaload, 1) := by decide +kernel
theorem dX5_join_6 : decode cX5_join 6 = .ok (.iload_n 2, 1) := by decide +kernel
theorem dX5_join_7 : decode cX5_join 7 = .ok (.iadd, 1) := by decide +kernel
theorem dX5_join_8 : decode cX5_join 8 = .ok (.istore_n 3, 1) := by decide +kernel
theorem dX5_join_9 : decode cX5_join 9 = .ok (.aload_n 0, 1) := by decide +kernel
theorem dX5_join_10 : decode cX5_join 10 = .ok (.getfield 15, 3) := by decide +kernel
theorem dX5_join_13 : decode cX5_join 13 = .ok (.iload_n 1, 1) := by decide +kernel
theorem dX5_join_14 : decode cX5_join 14 = .ok (.iload_n 3, 1) := by decide +kernel
theorem dX5_join_15 : decode cX5_join 15 = .ok (.bipush 99, 2) := by decide +kernel
theorem dX5_join_17 : decode cX5_join 17 = .ok (.invokestatic 53, 3) := by decide +kernel
theorem dX5_join_20 : decode cX5_join 20 = .ok (.iastore, 1) := by decide +kernel
theorem dX5_join_21 : decode cX5_join 21 = .ok (.iload_n 3, 1) := by decide +kernel
theorem dX5_join_22 : decode cX5_join 22 = .ok (.aload_n 0, 1) := by decide +kernel
theorem dX5_join_23 : decode cX5_join 23 = .ok (.getfield 15, 3) := by decide +kernel
theorem dX5_join_26 : decode cX5_join 26 = .ok (.iload_n 1, 1) := by decide +kernel
theorem dX5_join_27 : decode cX5_join 27 = .ok (.iaload, 1) := by decide +kernel
theorem dX5_join_28 : decode cX5_join 28 = .ok (.isub, 1) := by decide +kernel
theorem dX5_join_29 : decode cX5_join 29 = .ok (.ireturn, 1) := by decide +kernel
theorem dX5_allQueues_0 : decode cX5_allQueues 0 = .ok (.iconst 0, 1) := by decide +kernel
theorem dX5_allQueues_1 : decode cX5_allQueues 1 = .ok (.istore_n 1, 1) := by decide +kernel
theorem dX5_allQueues_2 : decode cX5_allQueues 2 = .ok (.iconst 0, 1) := by decide +kernel
theorem dX5_allQueues_3 : decode cX5_allQueues 3 = .ok (.istore_n 2, 1) := by decide +kernel
theorem dX5_allQueues_4 : decode cX5_allQueues 4 = .ok (.iload_n 2, 1) := by decide +kernel
theorem dX5_allQueues_5 : decode cX5_allQueues 5 = .ok (.bipush 8, 2) := by decide +kernel
theorem dX5_allQueues_7 : decode cX5_allQueues 7 = .ok (.if_icmp .ge 18, 3) := by decide +kernel
theorem dX5_allQueues_10 : decode cX5_allQueues 10 = .ok (.iload_n 1, 1) := by decide +kernel
theorem dX5_allQueues_11 : decode cX5_allQueues 11 = .ok (.aload_n 0, 1) := by decide +kernel
theorem dX5_allQueues_12 : decode cX5_allQueues 12 = .ok (.getfield 15, 3) := by decide +kernel
theorem dX5_allQueues_15 : decode cX5_allQueues 15 = .ok (.iload_n 2, 1) := by decide +kernel
theorem dX5_allQueues_16 : decode cX5_allQueues 16 = .ok (.iaload, 1) := by decide +kernel
theorem dX5_allQueues_17 : decode cX5_allQueues 17 = .ok (.iadd, 1) := by decide +kernel
theorem dX5_allQueues_18 : decode cX5_allQueues 18 = .ok (.istore_n 1, 1) := by decide +kernel
theorem dX5_allQueues_19 : decode cX5_allQueues 19 = .ok (.iinc 2 1, 3) := by decide +kernel
theorem dX5_allQueues_22 : decode cX5_allQueues 22 = .ok (.goto (-18), 3) := by decide +kernel
theorem dX5_allQueues_25 : decode cX5_allQueues 25 = .ok (.iload_n 1, 1) := by decide +kernel
theorem dX5_allQueues_26 : decode cX5_allQueues 26 = .ok (.ireturn, 1) := by decide +kernel
theorem dX5_calling_0 : decode cX5_calling 0 = .ok (.iconst 0, 1) := by decide +kernel
theorem dX5_calling_1 : decode cX5_calling 1 = .ok (.istore_n 1, 1) := by decide +kernel
theorem dX5_calling_2 : decode cX5_calling 2 = .ok (.iconst 0, 1) := by decide +kernel
theorem dX5_calling_3 : decode cX5_calling 3 = .ok (.istore_n 2, 1) := by decide +kernel
theorem dX5_calling_4 : decode cX5_calling 4 = .ok (.iload_n 2, 1) := by decide +kernel
theorem dX5_calling_5 : decode cX5_calling 5 = .ok (.bipush 8, 2) := by decide +kernel
theorem dX5_calling_7 : decode cX5_calling 7 = .ok (.if_icmp .ge 32, 3) := by decide +kernel
theorem dX5_calling_10 : decode cX5_calling 10 = .ok (.aload_n 0, 1) := by decide +kernel
theorem dX5_calling_11 : decode cX5_calling 11 = .ok (.getfield 15, 3) := by decide +kernel
theorem dX5_calling_14 : decode cX5_calling 14 = .ok (.iload_n 2, 1) := by decide +kernel
theorem dX5_calling_15 : decode cX5_calling 15 = .ok (.iaload, 1) := by decide +kernel
theorem dX5_calling_16 : decode cX5_calling 16 = .ok (.ifCond .le 17, 3) := by decide +kernel
theorem dX5_calling_19 : decode cX5_calling 19 = .ok (.aload_n 0, 1) := by decide +kernel
theorem dX5_calling_20 : decode cX5_calling 20 = .ok (.iload_n 2, 1) := by decide +kernel
theorem dX5_calling_21 : decode cX5_calling 21 = .ok (.invokevirtual 58, 3) := by decide +kernel
theorem dX5_calling_24 : decode cX5_calling 24 = .ok (.ifCond .ne 9, 3) := by decide +kernel
theorem dX5_calling_27 : decode cX5_calling 27 = .ok (.iload_n 1, 1) := by decide +kernel
theorem dX5_calling_28 : decode cX5_calling 28 = .ok (.iconst 1, 1) := by decide +kernel
theorem dX5_calling_29 : decode cX5_calling 29 = .ok (.iload_n 2, 1) := by decide +kernel
theorem dX5_calling_30 : decode cX5_calling 30 = .ok (.ishl, 1) := by decide +kernel
theorem dX5_calling_31 : decode cX5_calling 31 = .ok (.ior, 1) := by decide +kernel
theorem dX5_calling_32 : decode cX5_calling 32 = .ok (.istore_n 1, 1) := by decide +kernel
theorem dX5_calling_33 : decode cX5_calling 33 = .ok (.iinc 2 1, 3) := by decide +kernel
theorem dX5_calling_36 : decode cX5_calling 36 = .ok (.goto (-32), 3) := by decide +kernel
theorem dX5_calling_39 : decode cX5_calling 39 = .ok (.iload_n 1, 1) := by decide +kernel
theorem dX5_calling_40 : decode cX5_calling 40 = .ok (.ireturn, 1) := by decide +kernel
theorem dX5_isGreen_0 : decode cX5_isGreen 0 = .ok (.aload_n 0, 1) := by decide +kernel
theorem dX5_isGreen_1 : decode cX5_isGreen 1 = .ok (.getfield 39, 3) := by decide +kernel
theorem dX5_isGreen_4 : decode cX5_isGreen 4 = .ok (.iload_n 1, 1) := by decide +kernel
theorem dX5_isGreen_5 : decode cX5_isGreen 5 = .ok (.ishr, 1) := by decide +kernel
theorem dX5_isGreen_6 : decode cX5_isGreen 6 = .ok (.iconst 1, 1) := by decide +kernel
theorem dX5_isGreen_7 : decode cX5_isGreen 7 = .ok (.iand, 1) := by decide +kernel
theorem dX5_isGreen_8 : decode cX5_isGreen 8 = .ok (.ifCond .eq 7, 3) := by decide +kernel
theorem dX5_isGreen_11 : decode cX5_isGreen 11 = .ok (.iconst 1, 1) := by decide +kernel
theorem dX5_isGreen_12 : decode cX5_isGreen 12 = .ok (.goto 4, 3) := by decide +kernel
theorem dX5_isGreen_15 : decode cX5_isGreen 15 = .ok (.iconst 0, 1) := by decide +kernel
theorem dX5_isGreen_16 : decode cX5_isGreen 16 = .ok (.ireturn, 1) := by decide +kernel
theorem dX5_beginGreen_0 : decode cX5_beginGreen 0 = .ok (.aload_n 0, 1) := by decide +kernel
theorem dX5_beginGreen_1 : decode cX5_beginGreen 1 = .ok (.dup, 1) := by decide +kernel
theorem dX5_beginGreen_2 : decode cX5_beginGreen 2 = .ok (.getfield 39, 3) := by decide +kernel
theorem dX5_beginGreen_5 : decode cX5_beginGreen 5 = .ok (.iconst 1, 1) := by decide +kernel
theorem dX5_beginGreen_6 : decode cX5_beginGreen 6 = .ok (.iload_n 1, 1) := by decide +kernel
theorem dX5_beginGreen_7 : decode cX5_beginGreen 7 = .ok (.ishl, 1) := by decide +kernel
theorem dX5_beginGreen_8 : decode cX5_beginGreen 8 = .ok (.ior, 1) := by decide +kernel
theorem dX5_beginGreen_9 : decode cX5_beginGreen 9 = .ok (.putfield 39, 3) := by decide +kernel
theorem dX5_beginGreen_12 : decode cX5_beginGreen 12 = .ok (.aload_n 0, 1) := by decide +kernel
theorem dX5_beginGreen_13 : decode cX5_beginGreen 13 = .ok (.getfield 24, 3) := by decide +kernel
theorem dX5_beginGreen_16 : decode cX5_beginGreen 16 = .ok (.iload_n 1, 1) := by decide +kernel
theorem dX5_beginGreen_17 : decode cX5_beginGreen 17 = .ok (.iload_n 2, 1) := by decide +kernel
theorem dX5_beginGreen_18 : decode cX5_beginGreen 18 = .ok (.iastore, 1) := by decide +kernel
theorem dX5_beginGreen_19 : decode cX5_beginGreen 19 = .ok (.aload_n 0, 1) := by decide +kernel
theorem dX5_beginGreen_20 : decode cX5_beginGreen 20 = .ok (.getfield 30, 3) := by decide +kernel
theorem dX5_beginGreen_23 : decode cX5_beginGreen 23 = .ok (.iload_n 1, 1) := by decide +kernel
theorem dX5_beginGreen_24 : decode cX5_beginGreen 24 = .ok (.dup2, 1) := by decide +kernel
theorem dX5_beginGreen_25 : decode cX5_beginGreen 25 = .ok (.iaload, 1) := by decide +kernel
theorem dX5_beginGreen_26 : decode cX5_beginGreen 26 = .ok (.iconst 1, 1) := by decide +kernel
theorem dX5_beginGreen_27 : decode cX5_beginGreen 27 = .ok (.iadd, 1) := by decide +kernel
theorem dX5_beginGreen_28 : decode cX5_beginGreen 28 = .ok (.iastore, 1) := by decide +kernel
theorem dX5_beginGreen_29 : decode cX5_beginGreen 29 = .ok (.return_, 1) := by decide +kernel
theorem dX5_endGreen_0 : decode cX5_endGreen 0 = .ok (.aload_n 0, 1) := by decide +kernel
theorem dX5_endGreen_1 : decode cX5_endGreen 1 = .ok (.dup, 1) := by decide +kernel
theorem dX5_endGreen_2 : decode cX5_endGreen 2 = .ok (.getfield 39, 3) := by decide +kernel
theorem dX5_endGreen_5 : decode cX5_endGreen 5 = .ok (.iconst 1, 1) := by decide +kernel
theorem dX5_endGreen_6 : decode cX5_endGreen 6 = .ok (.iload_n 1, 1) := by decide +kernel
theorem dX5_endGreen_7 : decode cX5_endGreen 7 = .ok (.ishl, 1) := by decide +kernel
theorem dX5_endGreen_8 : decode cX5_endGreen 8 = .ok (.iconst (-1), 1) := by decide +kernel
theorem dX5_endGreen_9 : decode cX5_endGreen 9 = .ok (.ixor, 1) := by decide +kernel
theorem dX5_endGreen_10 : decode cX5_endGreen 10 = .ok (.iand, 1) := by decide +kernel
theorem dX5_endGreen_11 : decode cX5_endGreen 11 = .ok (.putfield 39, 3) := by decide +kernel
theorem dX5_endGreen_14 : decode cX5_endGreen 14 = .ok (.aload_n 0, 1) := by decide +kernel
theorem dX5_endGreen_15 : decode cX5_endGreen 15 = .ok (.getfield 27, 3) := by decide +kernel
theorem dX5_endGreen_18 : decode cX5_endGreen 18 = .ok (.iload_n 1, 1) := by decide +kernel
theorem dX5_endGreen_19 : decode cX5_endGreen 19 = .ok (.iload_n 2, 1) := by decide +kernel
theorem dX5_endGreen_20 : decode cX5_endGreen 20 = .ok (.iastore, 1) := by decide +kernel
theorem dX5_endGreen_21 : decode cX5_endGreen 21 = .ok (.return_, 1) := by decide +kernel
theorem dX6_init_0 : decode cX6_init 0 = .ok (.aload_n 0, 1) := by decide +kernel
theorem dX6_init_1 : decode cX6_init 1 = .ok (.invokespecial 3, 3) := by decide +kernel
theorem dX6_init_4 : decode cX6_init 4 = .ok (.aload_n 0, 1) := by decide +kernel
theorem dX6_init_5 : decode cX6_init 5 = .ok (.bipush (-5), 2) := by decide +kernel
theorem dX6_init_7 : decode cX6_init 7 = .ok (.putfield 9, 3) := by decide +kernel
theorem dX6_init_10 : decode cX6_init 10 = .ok (.aload_n 0, 1) := by decide +kernel
theorem dX6_init_11 : decode cX6_init 11 = .ok (.bipush 60, 2) := by decide +kernel
theorem dX6_init_13 : decode cX6_init 13 = .ok (.newarray .long, 2) := by decide +kernel
theorem dX6_init_15 : decode cX6_init 15 = .ok (.putfield 15, 3) := by decide +kernel
theorem dX6_init_18 : decode cX6_init 18 = .ok (.return_, 1) := by decide +kernel
theorem dX6_holdNothing_0 : decode cX6_holdNothing 0 = .ok (.aload_n 0, 1) := by decide +kernel
theorem dX6_holdNothing_1 : decode cX6_holdNothing 1 = .ok (.bipush (-5), 2) := by decide +kernel
theorem dX6_holdNothing_3 : decode cX6_holdNothing 3 = .ok (.putfield 9, 3) := by decide +kernel
theorem dX6_holdNothing_6 : decode cX6_holdNothing 6 = .ok (.aload_n 0, 1) := by decide +kernel
theorem dX6_holdNothing_7 : decode cX6_holdNothing 7 = .ok (.iconst 0, 1) := by decide +kernel
theorem dX6_holdNothing_8 : decode cX6_holdNothing 8 = .ok (.putfield 19, 3) := by decide +kernel
theorem dX6_holdNothing_11 : decode cX6_holdNothing 11 = .ok (.return_, 1) := by decide +kernel
theorem dX6_hold_0 : decode cX6_hold 0 = .ok (.aload_n 0, 1) := by decide +kernel
theorem dX6_hold_1 : decode cX6_hold 1 = .ok (.iload_n 1, 1) := by decide +kernel
theorem dX6_hold_2 : decode cX6_hold 2 = .ok (.putfield 9, 3) := by decide +kernel
theorem dX6_hold_5 : decode cX6_hold 5 = .ok (.aload_n 0, 1) := by decide +kernel
theorem dX6_hold_6 : decode cX6_hold 6 = .ok (.iload_n 2, 1) := by decide +kernel
theorem dX6_hold_7 : decode cX6_hold 7 = .ok (.putfield 19, 3) := by decide +kernel
theorem dX6_hold_10 : decode cX6_hold 10 = .ok (.aload_n 0, 1) := by decide +kernel
theorem dX6_hold_11 : decode cX6_hold 11 = .ok (.getfield 15, 3) := by decide +kernel
theorem dX6_hold_14 : decode cX6_hold 14 = .ok (.lconst 0, 1) := by decide +kernel
theorem dX6_hold_15 : decode cX6_hold 15 = .ok (.invokestatic 22, 3) := by decide +kernel
theorem dX6_hold_18 : decode cX6_hold 18 = .ok (.return_, 1) := by decide +kernel
theorem dX6_hasPlace_0 : decode cX6_hasPlace 0 = .ok (.iload_n 1, 1) := by decide +kernel
theorem dX6_hasPlace_1 : decode cX6_hasPlace 1 = .ok (.iconst 0, 1) := by decide +kernel
theorem dX6_hasPlace_2 : decode cX6_hasPlace 2 = .ok (.aload_n 0, 1) := by decide +kernel
theorem dX6_hasPlace_3 : decode cX6_hasPlace 3 = .ok (.getfield 19, 3) := by decide +kernel
theorem dX6_hasPlace_6 : decode cX6_hasPlace 6 = .ok (.iconst 1, 1) := by decide +kernel
theorem dX6_hasPlace_7 : decode cX6_hasPlace 7 = .ok (.isub, 1) := by decide +kernel
theorem dX6_hasPlace_8 : decode cX6_hasPlace 8 = .ok (.invokestatic 28, 3) := by decide +kernel
theorem dX6_hasPlace_11 : decode cX6_hasPlace 11 = .ok (.ireturn, 1) := by decide +kernel
theorem dX6_hasPlaces_0 : decode cX6_hasPlaces 0 = .ok (.iload_n 2, 1) := by decide +kernel
theorem dX6_hasPlaces_1 : decode cX6_hasPlaces 1 = .ok (.iconst 0, 1) := by decide +kernel
theorem dX6_hasPlaces_2 : decode cX6_hasPlaces 2 = .ok (.aload_n 0, 1) := by decide +kernel
theorem dX6_hasPlaces_3 : decode cX6_hasPlaces 3 = .ok (.getfield 19, 3) := by decide +kernel
theorem dX6_hasPlaces_6 : decode cX6_hasPlaces 6 = .ok (.invokestatic 28, 3) := by decide +kernel
theorem dX6_hasPlaces_9 : decode cX6_hasPlaces 9 = .ok (.ifCond .eq 21, 3) := by decide +kernel
theorem dX6_hasPlaces_12 : decode cX6_hasPlaces 12 = .ok (.iload_n 1, 1) := by decide +kernel
theorem dX6_hasPlaces_13 : decode cX6_hasPlaces 13 = .ok (.iconst 0, 1) := by decide +kernel
theorem dX6_hasPlaces_14 : decode cX6_hasPlaces 14 = .ok (.aload_n 0, 1) := by decide +kernel
theorem dX6_hasPlaces_15 : decode cX6_hasPlaces 15 = .ok (.getfield 19, 3) := by decide +kernel
theorem dX6_hasPlaces_18 : decode cX6_hasPlaces 18 = .ok (.iload_n 2, 1) := by decide +kernel
theorem dX6_hasPlaces_19 : decode cX6_hasPlaces 19 = .ok (.isub, 1) := by decide +kernel
theorem dX6_hasPlaces_20 : decode cX6_hasPlaces 20 = .ok (.invokestatic 28, 3) := by decide +kernel
theorem dX6_hasPlaces_23 : decode cX6_hasPlaces 23 = .ok (.ifCond .eq 7, 3) := by decide +kernel
theorem dX6_hasPlaces_26 : decode cX6_hasPlaces 26 = .ok (.iconst 1, 1) := by decide +kernel
theorem dX6_hasPlaces_27 : decode cX6_hasPlaces 27 = .ok (.goto 4, 3) := by decide +kernel
theorem dX6_hasPlaces_30 : decode cX6_hasPlaces 30 = .ok (.iconst 0, 1) := by decide +kernel
theorem dX6_hasPlaces_31 : decode cX6_hasPlaces 31 = .ok (.ireturn, 1) := by decide +kernel
theorem dX6_narrowed_0 : decode cX6_narrowed 0 = .ok (.aload_n 0, 1) := by decide +kernel
theorem dX6_narrowed_1 : decode cX6_narrowed 1 = .ok (.getfield 9, 3) := by decide +kernel
theorem dX6_narrowed_4 : decode cX6_narrowed 4 = .ok (.tableswitch 48 0 3 #[32, 37, 42, 46], 32) := by decide +kernel
theorem dX6_narrowed_36 : decode cX6_narrowed 36 = .ok (.lload_n 1, 1) := by decide +kernel
theorem dX6_narrowed_37 : decode cX6_narrowed 37 = .ok (.l2i, 1) := by decide +kernel
theorem dX6_narrowed_38 : decode cX6_narrowed 38 = .ok (.i2b, 1) := by decide +kernel
theorem dX6_narrowed_39 : decode cX6_narrowed 39 = .ok (.i2l, 1) := by decide +kernel
theorem dX6_narrowed_40 : decode cX6_narrowed 40 = .ok (.lreturn, 1) := by decide +kernel
theorem dX6_narrowed_41 : decode cX6_narrowed 41 = .ok (.lload_n 1, 1) := by decide +kernel
theorem dX6_narrowed_42 : decode cX6_narrowed 42 = .ok (.l2i, 1) := by decide +kernel
theorem dX6_narrowed_43 : decode cX6_narrowed 43 = .ok (.i2s, 1) := by decide +kernel
theorem dX6_narrowed_44 : decode cX6_narrowed 44 = .ok (.i2l, 1) := by decide +kernel
theorem dX6_narrowed_45 : decode cX6_narrowed 45 = .ok (.lreturn, 1) := by decide +kernel
theorem dX6_narrowed_46 : decode cX6_narrowed 46 = .ok (.lload_n 1, 1) := by decide +kernel
theorem dX6_narrowed_47 : decode cX6_narrowed 47 = .ok (.l2i, 1) := by decide +kernel
theorem dX6_narrowed_48 : decode cX6_narrowed 48 = .ok (.i2l, 1) := by decide +kernel
theorem dX6_narrowed_49 : decode cX6_narrowed 49 = .ok (.lreturn, 1) := by decide +kernel
theorem dX6_narrowed_50 : decode cX6_narrowed 50 = .ok (.lload_n 1, 1) := by decide +kernel
theorem dX6_narrowed_51 : decode cX6_narrowed 51 = .ok (.lreturn, 1) := by decide +kernel
theorem dX6_narrowed_52 : decode cX6_narrowed 52 = .ok (.lload_n 1, 1) := by decide +kernel
theorem dX6_narrowed_53 : decode cX6_narrowed 53 = .ok (.lconst 0, 1) := by decide +kernel
theorem dX6_narrowed_54 : decode cX6_narrowed 54 = .ok (.lcmp, 1) := by decide +kernel
theorem dX6_narrowed_55 : decode cX6_narrowed 55 = .ok (.ifCond .eq 7, 3) := by decide +kernel
theorem dX6_narrowed_58 : decode cX6_narrowed 58 = .ok (.lconst 1, 1) := by decide +kernel
theorem dX6_narrowed_59 : decode cX6_narrowed 59 = .ok (.goto 4, 3) := by decide +kernel
theorem dX6_narrowed_62 : decode cX6_narrowed 62 = .ok (.lconst 0, 1) := by decide +kernel
theorem dX6_narrowed_63 : decode cX6_narrowed 63 = .ok (.lreturn, 1) := by decide +kernel
theorem dX7_init_0 : decode cX7_init 0 = .ok (.aload_n 0, 1) := by decide +kernel
theorem dX7_init_1 : decode cX7_init 1 = .ok (.invokespecial 3, 3) := by decide +kernel
theorem dX7_init_4 : decode cX7_init 4 = .ok (.aload_n 0, 1) := by decide +kernel
theorem dX7_init_5 : decode cX7_init 5 = .ok (.bipush 30, 2) := by decide +kernel
theorem dX7_init_7 : decode cX7_init 7 = .ok (.putfield 9, 3) := by decide +kernel
theorem dX7_init_10 : decode cX7_init 10 = .ok (.aload_n 0, 1) := by decide +kernel
theorem dX7_init_11 : decode cX7_init 11 = .ok (.bipush 15, 2) := by decide +kernel
theorem dX7_init_13 : decode cX7_init 13 = .ok (.newarray .int, 2) := by decide +kernel
theorem dX7_init_15 : decode cX7_init 15 = .ok (.putfield 15, 3) := by decide +kernel
theorem dX7_init_18 : decode cX7_init 18 = .ok (.return_, 1) := by decide +kernel
theorem dX7_copyFrom_0 : decode cX7_copyFrom 0 = .ok (.aload_n 0, 1) := by decide +kernel
theorem dX7_copyFrom_1 : decode cX7_copyFrom 1 = .ok (.aload_n 1, 1) := by decide +kernel
theorem dX7_copyFrom_2 : decode cX7_copyFrom 2 = .ok (.getfield 9, 3) := by decide +kernel
theorem dX7_copyFrom_5 : decode cX7_copyFrom 5 = .ok (.putfield 9, 3) := by decide +kernel
theorem dX7_copyFrom_8 : decode cX7_copyFrom 8 = .ok (.aload_n 0, 1) := by decide +kernel
theorem dX7_copyFrom_9 : decode cX7_copyFrom 9 = .ok (.aload_n 1, 1) := by decide +kernel
theorem dX7_copyFrom_10 : decode cX7_copyFrom 10 = .ok (.getfield 19, 3) := by decide +kernel
theorem dX7_copyFrom_13 : decode cX7_copyFrom 13 = .ok (.putfield 19, 3) := by decide +kernel
theorem dX7_copyFrom_16 : decode cX7_copyFrom 16 = .ok (.aload_n 1, 1) := by decide +kernel
theorem dX7_copyFrom_17 : decode cX7_copyFrom 17 = .ok (.getfield 15, 3) := by decide +kernel
theorem dX7_copyFrom_20 : decode cX7_copyFrom 20 = .ok (.iconst 0, 1) := by decide +kernel
theorem dX7_copyFrom_21 : decode cX7_copyFrom 21 = .ok (.aload_n 0, 1) := by decide +kernel
theorem dX7_copyFrom_22 : decode cX7_copyFrom 22 = .ok (.getfield 15, 3) := by decide +kernel
theorem dX7_copyFrom_25 : decode cX7_copyFrom 25 = .ok (.iconst 0, 1) := by decide +kernel
theorem dX7_copyFrom_26 : decode cX7_copyFrom 26 = .ok (.bipush 15, 2) := by decide +kernel
theorem dX7_copyFrom_28 : decode cX7_copyFrom 28 = .ok (.invokestatic 22, 3) := by decide +kernel
theorem dX7_copyFrom_31 : decode cX7_copyFrom 31 = .ok (.return_, 1) := by decide +kernel
theorem dX7_allows_0 : decode cX7_allows 0 = .ok (.iload_n 1, 1) := by decide +kernel
theorem dX7_allows_1 : decode cX7_allows 1 = .ok (.lookupswitch 49 #[(0, 27), (1, 39)], 27) := by decide +kernel
theorem dX7_allows_28 : decode cX7_allows 28 = .ok (.iload_n 2, 1) := by decide +kernel
theorem dX7_allows_29 : decode cX7_allows 29 = .ok (.iconst 0, 1) := by decide +kernel
theorem dX7_allows_30 : decode cX7_allows 30 = .ok (.aload_n 0, 1) := by decide +kernel
theorem dX7_allows_31 : decode cX7_allows 31 = .ok (.getfield 9, 3) := by decide +kernel
theorem dX7_allows_34 : decode cX7_allows 34 = .ok (.iconst 1, 1) := by decide +kernel
theorem dX7_allows_35 : decode cX7_allows 35 = .ok (.isub, 1) := by decide +kernel
theorem dX7_allows_36 : decode cX7_allows 36 = .ok (.invokestatic 28, 3) := by decide +kernel
theorem dX7_allows_39 : decode cX7_allows 39 = .ok (.ireturn, 1) := by decide +kernel
theorem dX7_allows_40 : decode cX7_allows 40 = .ok (.iload_n 2, 1) := by decide +kernel
theorem dX7_allows_41 : decode cX7_allows 41 = .ok (.iconst 1, 1) := by decide +kernel
theorem dX7_allows_42 : decode cX7_allows 42 = .ok (.aload_n 0, 1) := by decide +kernel
theorem dX7_allows_43 : decode cX7_allows 43 = .ok (.getfield 9, 3) := by decide +kernel
theorem dX7_allows_46 : decode cX7_allows 46 = .ok (.invokestatic 28, 3) := by decide +kernel
theorem dX7_allows_49 : decode cX7_allows 49 = .ok (.ireturn, 1) := by decide +kernel
theorem dX7_allows_50 : decode cX7_allows 50 = .ok (.iload_n 2, 1) := by decide +kernel
theorem dX7_allows_51 : decode cX7_allows 51 = .ok (.iconst 0, 1) := by decide +kernel
theorem dX7_allows_52 : decode cX7_allows 52 = .ok (.bipush 99, 2) := by decide +kernel
theorem dX7_allows_54 : decode cX7_allows 54 = .ok (.invokestatic 28, 3) := by decide +kernel
theorem dX7_allows_57 : decode cX7_allows 57 = .ok (.ireturn, 1) := by decide +kernel
theorem dX7_at_0 : decode cX7_at 0 = .ok (.aload_n 0, 1) := by decide +kernel
theorem dX7_at_1 : decode cX7_at 1 = .ok (.getfield 15, 3) := by decide +kernel
theorem dX7_at_4 : decode cX7_at 4 = .ok (.iload_n 1, 1) := by decide +kernel
theorem dX7_at_5 : decode cX7_at 5 = .ok (.iconst 3, 1) := by decide +kernel
theorem dX7_at_6 : decode cX7_at 6 = .ok (.imul, 1) := by decide +kernel
theorem dX7_at_7 : decode cX7_at 7 = .ok (.iload_n 2, 1) := by decide +kernel
theorem dX7_at_8 : decode cX7_at 8 = .ok (.iadd, 1) := by decide +kernel
theorem dX7_at_9 : decode cX7_at 9 = .ok (.iaload, 1) := by decide +kernel
theorem dX7_at_10 : decode cX7_at 10 = .ok (.ireturn, 1) := by decide +kernel
theorem dX7_put_0 : decode cX7_put 0 = .ok (.aload_n 0, 1) := by decide +kernel
theorem dX7_put_1 : decode cX7_put 1 = .ok (.getfield 15, 3) := by decide +kernel
theorem dX7_put_4 : decode cX7_put 4 = .ok (.iload_n 1, 1) := by decide +kernel
theorem dX7_put_5 : decode cX7_put 5 = .ok (.iconst 3, 1) := by decide +kernel
theorem dX7_put_6 : decode cX7_put 6 = .ok (.imul, 1) := by decide +kernel
theorem dX7_put_7 : decode cX7_put 7 = .ok (.iload_n 2, 1) := by decide +kernel
theorem dX7_put_8 : decode cX7_put 8 = .ok (.iadd, 1) := by decide +kernel
theorem dX7_put_9 : decode cX7_put 9 = .ok (.iload_n 3, 1) := by decide +kernel
theorem dX7_put_10 : decode cX7_put 10 = .ok (.iastore, 1) := by decide +kernel
theorem dX7_put_11 : decode cX7_put 11 = .ok (.return_, 1) := by decide +kernel
theorem dX7_add_0 : decode cX7_add 0 = .ok (.aload_n 0, 1) := by decide +kernel
theorem dX7_add_1 : decode cX7_add 1 = .ok (.getfield 19, 3) := by decide +kernel
theorem dX7_add_4 : decode cX7_add 4 = .ok (.istore 4, 2) := by decide +kernel
theorem dX7_add_6 : decode cX7_add 6 = .ok (.aload_n 0, 1) := by decide +kernel
theorem dX7_add_7 : decode cX7_add 7 = .ok (.dup, 1) := by decide +kernel
theorem dX7_add_8 : decode cX7_add 8 = .ok (.getfield 19, 3) := by decide +kernel
theorem dX7_add_11 : decode cX7_add 11 = .ok (.iconst 1, 1) := by decide +kernel
theorem dX7_add_12 : decode cX7_add 12 = .ok (.iadd, 1) := by decide +kernel
theorem dX7_add_13 : decode cX7_add 13 = .ok (.putfield 19, 3) := by decide +kernel
theorem dX7_add_16 : decode cX7_add 16 = .ok (.aload_n 0, 1) := by decide +kernel
theorem dX7_add_17 : decode cX7_add 17 = .ok (.iload 4, 2) := by decide +kernel
theorem dX7_add_19 : decode cX7_add 19 = .ok (.iconst 0, 1) := by decide +kernel
theorem dX7_add_20 : decode cX7_add 20 = .ok (.iload_n 1, 1) := by decide +kernel
theorem dX7_add_21 : decode cX7_add 21 = .ok (.invokevirtual 32, 3) := by decide +kernel
theorem dX7_add_24 : decode cX7_add 24 = .ok (.aload_n 0, 1) := by decide +kernel
theorem dX7_add_25 : decode cX7_add 25 = .ok (.iload 4, 2) := by decide +kernel
theorem dX7_add_27 : decode cX7_add 27 = .ok (.iconst 1, 1) := by decide +kernel
theorem dX7_add_28 : decode cX7_add 28 = .ok (.iload_n 2, 1) := by decide +kernel
theorem dX7_add_29 : decode cX7_add 29 = .ok (.invokevirtual 32, 3) := by decide +kernel
theorem dX7_add_32 : decode cX7_add 32 = .ok (.aload_n 0, 1) := by decide +kernel
theorem dX7_add_33 : decode cX7_add 33 = .ok (.iload 4, 2) := by decide +kernel
theorem dX7_add_35 : decode cX7_add 35 = .ok (.iconst 2, 1) := by decide +kernel
theorem dX7_add_36 : decode cX7_add 36 = .ok (.iload_n 3, 1) := by decide +kernel
theorem dX7_add_37 : decode cX7_add 37 = .ok (.invokevirtual 32, 3) := by decide +kernel
theorem dX7_add_40 : decode cX7_add 40 = .ok (.iload 4, 2) := by decide +kernel
theorem dX7_add_42 : decode cX7_add 42 = .ok (.ireturn, 1) := by decide +kernel
theorem dX7_bothBands_0 : decode cX7_bothBands 0 = .ok (.aload_n 0, 1) := by decide +kernel
theorem dX7_bothBands_1 : decode cX7_bothBands 1 = .ok (.invokevirtual 36, 3) := by decide +kernel
theorem dX7_bothBands_4 : decode cX7_bothBands 4 = .ok (.aload_n 0, 1) := by decide +kernel
theorem dX7_bothBands_5 : decode cX7_bothBands 5 = .ok (.invokevirtual 40, 3) := by decide +kernel
theorem dX7_bothBands_8 : decode cX7_bothBands 8 = .ok (.iadd, 1) := by decide +kernel
theorem dX7_bothBands_9 : decode cX7_bothBands 9 = .ok (.ireturn, 1) := by decide +kernel
theorem dX7_bandOn_0 : decode cX7_bandOn 0 = .ok (.aload_n 0, 1) := by decide +kernel
theorem dX7_bandOn_1 : decode cX7_bandOn 1 = .ok (.getfield 19, 3) := by decide +kernel
theorem dX7_bandOn_4 : decode cX7_bandOn 4 = .ok (.ifCond .ne 5, 3) := by decide +kernel
theorem dX7_bandOn_7 : decode cX7_bandOn 7 = .ok (.iconst 0, 1) := by decide +kernel
theorem dX7_bandOn_8 : decode cX7_bandOn 8 = .ok (.ireturn, 1) := by decide +kernel
theorem dX7_bandOn_9 : decode cX7_bandOn 9 = .ok (.aload_n 0, 1) := by decide +kernel
theorem dX7_bandOn_10 : decode cX7_bandOn 10 = .ok (.invokevirtual 43, 3) := by decide +kernel
theorem dX7_bandOn_13 : decode cX7_bandOn 13 = .ok (.lstore_n 1, 1) := by decide +kernel
theorem dX7_bandOn_14 : decode cX7_bandOn 14 = .ok (.iconst 0, 1) := by decide +kernel
theorem dX7_bandOn_15 : decode cX7_bandOn 15 = .ok (.istore_n 3, 1) := by decide +kernel
theorem dX7_bandOn_16 : decode cX7_bandOn 16 = .ok (.iconst 0, 1) := by decide +kernel
theorem dX7_bandOn_17 : decode cX7_bandOn 17 = .ok (.istore 4, 2) := by decide +kernel
theorem dX7_bandOn_19 : decode cX7_bandOn 19 = .ok (.iload 4, 2) := by decide +kernel
theorem dX7_bandOn_21 : decode cX7_bandOn 21 = .ok (.aload_n 0, 1) := by decide +kernel
theorem dX7_bandOn_22 : decode cX7_bandOn 22 = .ok (.getfield 19, 3) := by decide +kernel
theorem dX7_bandOn_25 : decode cX7_bandOn 25 = .ok (.if_icmp .ge 29, 3) := by decide +kernel
theorem dX7_bandOn_28 : decode cX7_bandOn 28 = .ok (.lload_n 1, 1) := by decide +kernel
theorem dX7_bandOn_29 : decode cX7_bandOn 29 = .ok (.aload_n 0, 1) := by decide +kernel
theorem dX7_bandOn_30 : decode cX7_bandOn 30 = .ok (.iload 4, 2) := by decide +kernel
theorem dX7_bandOn_32 : decode cX7_bandOn 32 = .ok (.iload_n 3, 1) := by decide +kernel
theorem dX7_bandOn_33 : decode cX7_bandOn 33 = .ok (.invokevirtual 47, 3) := by decide +kernel
theorem dX7_bandOn_36 : decode cX7_bandOn 36 = .ok (.land, 1) := by decide +kernel
theorem dX7_bandOn_37 : decode cX7_bandOn 37 = .ok (.lstore_n 1, 1) := by decide +kernel
theorem dX7_bandOn_38 : decode cX7_bandOn 38 = .ok (.iload_n 3, 1) := by decide +kernel
theorem dX7_bandOn_39 : decode cX7_bandOn 39 = .ok (.aload_n 0, 1) := by decide +kernel
theorem dX7_bandOn_40 : decode cX7_bandOn 40 = .ok (.iload 4, 2) := by decide +kernel
theorem dX7_bandOn_42 : decode cX7_bandOn 42 = .ok (.iconst 2, 1) := by decide +kernel
theorem dX7_bandOn_43 : decode cX7_bandOn 43 = .ok (.invokevirtual 51, 3) := by decide +kernel
theorem dX7_bandOn_46 : decode cX7_bandOn 46 = .ok (.iadd, 1) := by decide +kernel
theorem dX7_bandOn_47 : decode cX7_bandOn 47 = .ok (.istore_n 3, 1) := by decide +kernel
theorem dX7_bandOn_48 : decode cX7_bandOn 48 = .ok (.iinc 4 1, 3) := by decide +kernel
theorem dX7_bandOn_51 : decode cX7_bandOn 51 = .ok (.goto (-32), 3) := by decide +kernel
theorem dX7_bandOn_54 : decode cX7_bandOn 54 = .ok (.lload_n 1, 1) := by decide +kernel
theorem dX7_bandOn_55 : decode cX7_bandOn 55 = .ok (.invokestatic 55, 3) := by decide +kernel
theorem dX7_bandOn_58 : decode cX7_bandOn 58 = .ok (.ireturn, 1) := by decide +kernel
theorem dX7_bandBack_0 : decode cX7_bandBack 0 = .ok (.aload_n 0, 1) := by decide +kernel
theorem dX7_bandBack_1 : decode cX7_bandBack 1 = .ok (.getfield 19, 3) := by decide +kernel
theorem dX7_bandBack_4 : decode cX7_bandBack 4 = .ok (.ifCond .ne 5, 3) := by decide +kernel
theorem dX7_bandBack_7 : decode cX7_bandBack 7 = .ok (.iconst 0, 1) := by decide +kernel
theorem dX7_bandBack_8 : decode cX7_bandBack 8 = .ok (.ireturn, 1) := by decide +kernel
theorem dX7_bandBack_9 : decode cX7_bandBack 9 = .ok (.aload_n 0, 1) := by decide +kernel
theorem dX7_bandBack_10 : decode cX7_bandBack 10 = .ok (.invokevirtual 43, 3) := by decide +kernel
theorem dX7_bandBack_13 : decode cX7_bandBack 13 = .ok (.lstore_n 1, 1) := by decide +kernel
theorem dX7_bandBack_14 : decode cX7_bandBack 14 = .ok (.iconst 0, 1) := by decide +kernel
theorem dX7_bandBack_15 : decode cX7_bandBack 15 = .ok (.istore_n 3, 1) := by decide +kernel
theorem dX7_bandBack_16 : decode cX7_bandBack 16 = .ok (.aload_n 0, 1) := by decide +kernel
theorem dX7_bandBack_17 : decode cX7_bandBack 17 = .ok (.getfield 19, 3) := by decide +kernel
theorem dX7_bandBack_20 : decode cX7_bandBack 20 = .ok (.iconst 1, 1) := by decide +kernel
theorem dX7_bandBack_21 : decode cX7_bandBack 21 = .ok (.isub, 1) := by decide +kernel
theorem dX7_bandBack_22 : decode cX7_bandBack 22 = .ok (.istore 4, 2) := by decide +kernel
theorem dX7_bandBack_24 : decode cX7_bandBack 24 = .ok (.iload 4, 2) := by decide +kernel
theorem dX7_bandBack_26 : decode cX7_bandBack 26 = .ok (.ifCond .lt 40, 3) := by decide +kernel
theorem dX7_bandBack_29 : decode cX7_bandBack 29 = .ok (.iload 4, 2) := by decide +kernel
theorem dX7_bandBack_31 : decode cX7_bandBack 31 = .ok (.aload_n 0, 1) := by decide +kernel
theorem dX7_bandBack_32 : decode cX7_bandBack 32 = .ok (.getfield 19, 3) := by decide +kernel
theorem dX7_bandBack_35 : decode cX7_bandBack 35 = .ok (.iconst 1, 1) := by decide +kernel
theorem dX7_bandBack_36 : decode cX7_bandBack 36 = .ok (.isub, 1) := by decide +kernel
theorem dX7_bandBack_37 : decode cX7_bandBack 37 = .ok (.if_icmp .ge 13, 3) := by decide +kernel
theorem dX7_bandBack_40 : decode cX7_bandBack 40 = .ok (.iload_n 3, 1) := by decide +kernel
theorem dX7_bandBack_41 : decode cX7_bandBack 41 = .ok (.aload_n 0, 1) := by decide +kernel
theorem dX7_bandBack_42 : decode cX7_bandBack 42 = .ok (.iload 4, 2) := by decide +kernel
theorem dX7_bandBack_44 : decode cX7_bandBack 44 = .ok (.iconst 2, 1) := by decide +kernel
theorem dX7_bandBack_45 : decode cX7_bandBack 45 = .ok (.invokevirtual 51, 3) := by decide +kernel
theorem dX7_bandBack_48 : decode cX7_bandBack 48 = .ok (.iadd, 1) := by decide +kernel
theorem dX7_bandBack_49 : decode cX7_bandBack 49 = .ok (.istore_n 3, 1) := by decide +kernel
theorem dX7_bandBack_50 : decode cX7_bandBack 50 = .ok (.lload_n 1, 1) := by decide +kernel
theorem dX7_bandBack_51 : decode cX7_bandBack 51 = .ok (.aload_n 0, 1) := by decide +kernel
theorem dX7_bandBack_52 : decode cX7_bandBack 52 = .ok (.iload 4, 2) := by decide +kernel
theorem dX7_bandBack_54 : decode cX7_bandBack 54 = .ok (.iload_n 3, 1) := by decide +kernel
theorem dX7_bandBack_55 : decode cX7_bandBack 55 = .ok (.invokevirtual 47, 3) := by decide +kernel
theorem dX7_bandBack_58 : decode cX7_bandBack 58 = .ok (.land, 1) := by decide +kernel
theorem dX7_bandBack_59 : decode cX7_bandBack 59 = .ok (.lstore_n 1, 1) := by decide +kernel
theorem dX7_bandBack_60 : decode cX7_bandBack 60 = .ok (.iinc 4 (-1), 3) := by decide +kernel
theorem dX7_bandBack_63 : decode cX7_bandBack 63 = .ok (.goto (-39), 3) := by decide +kernel
theorem dX7_bandBack_66 : decode cX7_bandBack 66 = .ok (.lload_n 1, 1) := by decide +kernel
theorem dX7_bandBack_67 : decode cX7_bandBack 67 = .ok (.invokestatic 55, 3) := by decide +kernel
theorem dX7_bandBack_70 : decode cX7_bandBack 70 = .ok (.ireturn, 1) := by decide +kernel
theorem dX7_allSeconds_0 : decode cX7_allSeconds 0 = .ok (.lconst 1, 1) := by decide +kernel
theorem dX7_allSeconds_1 : decode cX7_allSeconds 1 = .ok (.aload_n 0, 1) := by decide +kernel
theorem dX7_allSeconds_2 : decode cX7_allSeconds 2 = .ok (.getfield 9, 3) := by decide +kernel
theorem dX7_allSeconds_5 : decode cX7_allSeconds 5 = .ok (.lshl, 1) := by decide +kernel
theorem dX7_allSeconds_6 : decode cX7_allSeconds 6 = .ok (.lconst 1, 1) := by decide +kernel
theorem dX7_allSeconds_7 : decode cX7_allSeconds 7 = .ok (.lsub, 1) := by decide +kernel
theorem dX7_allSeconds_8 : decode cX7_allSeconds 8 = .ok (.lreturn, 1) := by decide +kernel
theorem dX7_openSeconds_0 : decode cX7_openSeconds 0 = .ok (.aload_n 0, 1) := by decide +kernel
theorem dX7_openSeconds_1 : decode cX7_openSeconds 1 = .ok (.getfield 9, 3) := by decide +kernel
theorem dX7_openSeconds_4 : decode cX7_openSeconds 4 = .ok (.ifCond .gt 5, 3) := by decide +kernel
theorem dX7_openSeconds_7 : decode cX7_openSeconds 7 = .ok (.lconst 0, 1) := by decide +kernel
theorem dX7_openSeconds_8 : decode cX7_openSeconds 8 = .ok (.lreturn, 1) := by decide +kernel
theorem dX7_openSeconds_9 : decode cX7_openSeconds 9 = .ok (.aload_n 0, 1) := by decide +kernel
theorem dX7_openSeconds_10 : decode cX7_openSeconds 10 = .ok (.iload_n 1, 1) := by decide +kernel
theorem dX7_openSeconds_11 : decode cX7_openSeconds 11 = .ok (.iconst 0, 1) := by decide +kernel
theorem dX7_openSeconds_12 : decode cX7_openSeconds 12 = .ok (.invokevirtual 51, 3) := by decide +kernel
theorem dX7_openSeconds_15 : decode cX7_openSeconds 15 = .ok (.iload_n 2, 1) := by decide +kernel
theorem dX7_openSeconds_16 : decode cX7_openSeconds 16 = .ok (.isub, 1) := by decide +kernel
theorem dX7_openSeconds_17 : decode cX7_openSeconds 17 = .ok (.aload_n 0, 1) := by decide +kernel
theorem dX7_openSeconds_18 : decode cX7_openSeconds 18 = .ok (.getfield 9, 3) := by decide +kernel
theorem dX7_openSeconds_21 : decode cX7_openSeconds 21 = .ok (.invokestatic 61, 3) := by decide +kernel
theorem dX7_openSeconds_24 : decode cX7_openSeconds 24 = .ok (.istore_n 3, 1) := by decide +kernel
theorem dX7_openSeconds_25 : decode cX7_openSeconds 25 = .ok (.lconst 1, 1) := by decide +kernel
theorem dX7_openSeconds_26 : decode cX7_openSeconds 26 = .ok (.aload_n 0, 1) := by decide +kernel
theorem dX7_openSeconds_27 : decode cX7_openSeconds 27 = .ok (.iload_n 1, 1) := by decide +kernel
theorem dX7_openSeconds_28 : decode cX7_openSeconds 28 = .ok (.iconst 1, 1) := by decide +kernel
theorem dX7_openSeconds_29 : decode cX7_openSeconds 29 = .ok (.invokevirtual 51, 3) := by decide +kernel
theorem dX7_openSeconds_32 : decode cX7_openSeconds 32 = .ok (.lshl, 1) := by decide +kernel
theorem dX7_openSeconds_33 : decode cX7_openSeconds 33 = .ok (.lconst 1, 1) := by decide +kernel
theorem dX7_openSeconds_34 : decode cX7_openSeconds 34 = .ok (.lsub, 1) := by decide +kernel
theorem dX7_openSeconds_35 : decode cX7_openSeconds 35 = .ok (.lstore 4, 2) := by decide +kernel
theorem dX7_openSeconds_37 : decode cX7_openSeconds 37 = .ok (.lload 4, 2) := by decide +kernel
theorem dX7_openSeconds_39 : decode cX7_openSeconds 39 = .ok (.iload_n 3, 1) := by decide +kernel
theorem dX7_openSeconds_40 : decode cX7_openSeconds 40 = .ok (.lshl, 1) := by decide +kernel
theorem dX7_openSeconds_41 : decode cX7_openSeconds 41 = .ok (.lload 4, 2) := by decide +kernel
theorem dX7_openSeconds_43 : decode cX7_openSeconds 43 = .ok (.aload_n 0, 1) := by decide +kernel
theorem dX7_openSeconds_44 : decode cX7_openSeconds 44 = .ok (.getfield 9, 3) := by decide +kernel
theorem dX7_openSeconds_47 : decode cX7_openSeconds 47 = .ok (.iload_n 3, 1) := by decide +kernel
theorem dX7_openSeconds_48 : decode cX7_openSeconds 48 = .ok (.isub, 1) := by decide +kernel
theorem dX7_openSeconds_49 : decode cX7_openSeconds 49 = .ok (.lushr, 1) := by decide +kernel
theorem dX7_openSeconds_50 : decode cX7_openSeconds 50 = .ok (.lor, 1) := by decide +kernel
theorem dX7_openSeconds_51 : decode cX7_openSeconds 51 = .ok (.aload_n 0, 1) := by decide +kernel
theorem dX7_openSeconds_52 : decode cX7_openSeconds 52 = .ok (.invokevirtual 43, 3) := by decide +kernel
theorem dX7_openSeconds_55 : decode cX7_openSeconds 55 = .ok (.land, 1) := by decide +kernel
theorem dX7_openSeconds_56 : decode cX7_openSeconds 56 = .ok (.lreturn, 1) := by decide +kernel
theorem dX7_bandsWith_0 : decode cX7_bandsWith 0 = .ok (.aload_n 0, 1) := by decide +kernel
theorem dX7_bandsWith_1 : decode cX7_bandsWith 1 = .ok (.iload_n 1, 1) := by decide +kernel
theorem dX7_bandsWith_2 : decode cX7_bandsWith 2 = .ok (.iconst 0, 1) := by decide +kernel
theorem dX7_bandsWith_3 : decode cX7_bandsWith 3 = .ok (.invokevirtual 51, 3) := by decide +kernel
theorem dX7_bandsWith_6 : decode cX7_bandsWith 6 = .ok (.istore_n 3, 1) := by decide +kernel
theorem dX7_bandsWith_7 : decode cX7_bandsWith 7 = .ok (.aload_n 0, 1) := by decide +kernel
theorem dX7_bandsWith_8 : decode cX7_bandsWith 8 = .ok (.iload_n 1, 1) := by decide +kernel
theorem dX7_bandsWith_9 : decode cX7_bandsWith 9 = .ok (.iconst 0, 1) := by decide +kernel
theorem dX7_bandsWith_10 : decode cX7_bandsWith 10 = .ok (.iload_n 2, 1) := by decide +kernel
theorem dX7_bandsWith_11 : decode cX7_bandsWith 11 = .ok (.invokevirtual 32, 3) := by decide +kernel
theorem dX7_bandsWith_14 : decode cX7_bandsWith 14 = .ok (.aload_n 0, 1) := by decide +kernel
theorem dX7_bandsWith_15 : decode cX7_bandsWith 15 = .ok (.invokevirtual 36, 3) := by decide +kernel
theorem dX7_bandsWith_18 : decode cX7_bandsWith 18 = .ok (.aload_n 0, 1) := by decide +kernel
theorem dX7_bandsWith_19 : decode cX7_bandsWith 19 = .ok (.invokevirtual 40, 3) := by decide +kernel
theorem dX7_bandsWith_22 : decode cX7_bandsWith 22 = .ok (.iadd, 1) := by decide +kernel
theorem dX7_bandsWith_23 : decode cX7_bandsWith 23 = .ok (.istore 4, 2) := by decide +kernel
theorem dX7_bandsWith_25 : decode cX7_bandsWith 25 = .ok (.aload_n 0, 1) := by decide +kernel
theorem dX7_bandsWith_26 : decode cX7_bandsWith 26 = .ok (.iload_n 1, 1) := by decide +kernel
theorem dX7_bandsWith_27 : decode cX7_bandsWith 27 = .ok (.iconst 0, 1) := by decide +kernel
theorem dX7_bandsWith_28 : decode cX7_bandsWith 28 = .ok (.iload_n 3, 1) := by decide +kernel
theorem dX7_bandsWith_29 : decode cX7_bandsWith 29 = .ok (.invokevirtual 32, 3) := by decide +kernel
theorem dX7_bandsWith_32 : decode cX7_bandsWith 32 = .ok (.iload 4, 2) := by decide +kernel
theorem dX7_bandsWith_34 : decode cX7_bandsWith 34 = .ok (.ireturn, 1) := by decide +kernel
theorem dX7_bestOffset_0 : decode cX7_bestOffset 0 = .ok (.iconst 0, 1) := by decide +kernel
theorem dX7_bestOffset_1 : decode cX7_bestOffset 1 = .ok (.istore_n 2, 1) := by decide +kernel
theorem dX7_bestOffset_2 : decode cX7_bestOffset 2 = .ok (.iconst (-1), 1) := by decide +kernel
theorem dX7_bestOffset_3 : decode cX7_bestOffset 3 = .ok (.istore_n 3, 1) := by decide +kernel
theorem dX7_bestOffset_4 : decode cX7_bestOffset 4 = .ok (.iconst 0, 1) := by decide +kernel
theorem dX7_bestOffset_5 : decode cX7_bestOffset 5 = .ok (.istore 4, 2) := by decide +kernel
theorem dX7_bestOffset_7 : decode cX7_bestOffset 7 = .ok (.iload 4, 2) := by decide +kernel
theorem dX7_bestOffset_9 : decode cX7_bestOffset 9 = .ok (.aload_n 0, 1) := by decide +kernel
theorem dX7_bestOffset_10 : decode cX7_bestOffset 10 = .ok (.getfield 9, 3) := by decide +kernel
theorem dX7_bestOffset_13 : decode cX7_bestOffset 13 = .ok (.if_icmp .ge 30, 3) := by decide +kernel
theorem dX7_bestOffset_16 : decode cX7_bestOffset 16 = .ok (.aload_n 0, 1) := by decide +kernel
theorem dX7_bestOffset_17 : decode cX7_bestOffset 17 = .ok (.iload_n 1, 1) := by decide +kernel
theorem dX7_bestOffset_18 : decode cX7_bestOffset 18 = .ok (.iload 4, 2) := by decide +kernel
theorem dX7_bestOffset_20 : decode cX7_bestOffset 20 = .ok (.invokevirtual 66, 3) := by decide +kernel
theorem dX7_bestOffset_23 : decode cX7_bestOffset 23 = .ok (.istore 5, 2) := by decide +kernel
theorem dX7_bestOffset_25 : decode cX7_bestOffset 25 = .ok (.iload 5, 2) := by decide +kernel
theorem dX7_bestOffset_27 : decode cX7_bestOffset 27 = .ok (.iload_n 3, 1) := by decide +kernel
theorem dX7_bestOffset_28 : decode cX7_bestOffset 28 = .ok (.if_icmp .le 9, 3) := by decide +kernel
theorem dX7_bestOffset_31 : decode cX7_bestOffset 31 = .ok (.iload 4, 2) := by decide +kernel
theorem dX7_bestOffset_33 : decode cX7_bestOffset 33 = .ok (.istore_n 2, 1) := by decide +kernel
theorem dX7_bestOffset_34 : decode cX7_bestOffset 34 = .ok (.iload 5, 2) := by decide +kernel
theorem dX7_bestOffset_36 : decode cX7_bestOffset 36 = .ok (.istore_n 3, 1) := by decide +kernel
theorem dX7_bestOffset_37 : decode cX7_bestOffset 37 = .ok (.iinc 4 1, 3) := by decide +kernel
theorem dX7_bestOffset_40 : decode cX7_bestOffset 40 = .ok (.goto (-33), 3) := by decide +kernel
theorem dX7_bestOffset_43 : decode cX7_bestOffset 43 = .ok (.iload_n 2, 1) := by decide +kernel
theorem dX7_bestOffset_44 : decode cX7_bestOffset 44 = .ok (.ireturn, 1) := by decide +kernel
theorem dX7_tuneAll_0 : decode cX7_tuneAll 0 = .ok (.iconst 0, 1) := by decide +kernel
theorem dX7_tuneAll_1 : decode cX7_tuneAll 1 = .ok (.istore_n 1, 1) := by decide +kernel
theorem dX7_tuneAll_2 : decode cX7_tuneAll 2 = .ok (.iload_n 1, 1) := by decide +kernel
theorem dX7_tuneAll_3 : decode cX7_tuneAll 3 = .ok (.iconst 4, 1) := by decide +kernel
theorem dX7_tuneAll_4 : decode cX7_tuneAll 4 = .ok (.if_icmp .ge 51, 3) := by decide +kernel
theorem dX7_tuneAll_7 : decode cX7_tuneAll 7 = .ok (.iconst 0, 1) := by decide +kernel
theorem dX7_tuneAll_8 : decode cX7_tuneAll 8 = .ok (.istore_n 2, 1) := by decide +kernel
theorem dX7_tuneAll_9 : decode cX7_tuneAll 9 = .ok (.iload_n 2, 1) := by decide +kernel
theorem dX7_tuneAll_10 : decode cX7_tuneAll 10 = .ok (.aload_n 0, 1) := by decide +kernel
theorem dX7_tuneAll_11 : decode cX7_tuneAll 11 = .ok (.getfield 19, 3) := by decide +kernel
theorem dX7_tuneAll_14 : decode cX7_tuneAll 14 = .ok (.if_icmp .ge 35, 3) := by decide +kernel
theorem dX7_tuneAll_17 : decode cX7_tuneAll 17 = .ok (.aload_n 0, 1) := by decide +kernel
theorem dX7_tuneAll_18 : decode cX7_tuneAll 18 = .ok (.iload_n 2, 1) := by decide +kernel
theorem dX7_tuneAll_19 : decode cX7_tuneAll 19 = .ok (.invokevirtual 69, 3) := by decide +kernel
theorem dX7_tuneAll_22 : decode cX7_tuneAll 22 = .ok (.istore_n 3, 1) := by decide +kernel
theorem dX7_tuneAll_23 : decode cX7_tuneAll 23 = .ok (.aload_n 0, 1) := by decide +kernel
theorem dX7_tuneAll_24 : decode cX7_tuneAll 24 = .ok (.iload_n 2, 1) := by decide +kernel
theorem dX7_tuneAll_25 : decode cX7_tuneAll 25 = .ok (.iload_n 3, 1) := by decide +kernel
theorem dX7_tuneAll_26 : decode cX7_tuneAll 26 = .ok (.invokevirtual 66, 3) := by decide +kernel
theorem dX7_tuneAll_29 : decode cX7_tuneAll 29 = .ok (.aload_n 0, 1) := by decide +kernel
theorem dX7_tuneAll_30 : decode cX7_tuneAll 30 = .ok (.invokevirtual 73, 3) := by decide +kernel
theorem dX7_tuneAll_33 : decode cX7_tuneAll 33 = .ok (.if_icmp .le 10, 3) := by decide +kernel
theorem dX7_tuneAll_36 : decode cX7_tuneAll 36 = .ok (.aload_n 0, 1) := by decide +kernel
theorem dX7_tuneAll_37 : decode cX7_tuneAll 37 = .ok (.iload_n 2, 1) := by decide +kernel
theorem dX7_tuneAll_38 : decode cX7_tuneAll 38 = .ok (.iconst 0, 1) := by decide +kernel
theorem dX7_tuneAll_39 : decode cX7_tuneAll 39 = .ok (.iload_n 3, 1) := by decide +kernel
theorem dX7_tuneAll_40 : decode cX7_tuneAll 40 = .ok (.invokevirtual 32, 3) := by decide +kernel
theorem dX7_tuneAll_43 : decode cX7_tuneAll 43 = .ok (.iinc 2 1, 3) := by decide +kernel
theorem dX7_tuneAll_46 : decode cX7_tuneAll 46 = .ok (.goto (-37), 3) := by decide +kernel
theorem dX7_tuneAll_49 : decode cX7_tuneAll 49 = .ok (.iinc 1 1, 3) := by decide +kernel
theorem dX7_tuneAll_52 : decode cX7_tuneAll 52 = .ok (.goto (-50), 3) := by decide +kernel
theorem dX7_tuneAll_55 : decode cX7_tuneAll 55 = .ok (.return_, 1) := by decide +kernel
theorem dX8_init_0 : decode cX8_init 0 = .ok (.aload_n 0, 1) := by decide +kernel
theorem dX8_init_1 : decode cX8_init 1 = .ok (.invokespecial 3, 3) := by decide +kernel
theorem dX8_init_4 : decode cX8_init 4 = .ok (.aload_n 0, 1) := by decide +kernel
theorem dX8_init_5 : decode cX8_init 5 = .ok (.new 9, 3) := by decide +kernel
theorem dX8_init_8 : decode cX8_init 8 = .ok (.dup, 1) := by decide +kernel
theorem dX8_init_9 : decode cX8_init 9 = .ok (.invokespecial 11, 3) := by decide +kernel
theorem dX8_init_12 : decode cX8_init 12 = .ok (.putfield 12, 3) := by decide +kernel
theorem dX8_init_15 : decode cX8_init 15 = .ok (.aload_n 0, 1) := by decide +kernel
theorem dX8_init_16 : decode cX8_init 16 = .ok (.new 18, 3) := by decide +kernel
theorem dX8_init_19 : decode cX8_init 19 = .ok (.dup, 1) := by decide +kernel
theorem dX8_init_20 : decode cX8_init 20 = .ok (.invokespecial 20, 3) := by decide +kernel
theorem dX8_init_23 : decode cX8_init 23 = .ok (.putfield 21, 3) := by decide +kernel
theorem dX8_init_26 : decode cX8_init 26 = .ok (.aload_n 0, 1) := by decide +kernel
theorem dX8_init_27 : decode cX8_init 27 = .ok (.new 25, 3) := by decide +kernel
theorem dX8_init_30 : decode cX8_init 30 = .ok (.dup, 1) := by decide +kernel
theorem dX8_init_31 : decode cX8_init 31 = .ok (.bipush 8, 2) := by decide +kernel
theorem dX8_init_33 : decode cX8_init 33 = .ok (.invokespecial 27, 3) := by decide +kernel
theorem dX8_init_36 : decode cX8_init 36 = .ok (.putfield 30, 3) := by decide +kernel
theorem dX8_init_39 : decode cX8_init 39 = .ok (.aload_n 0, 1) := by decide +kernel
theorem dX8_init_40 : decode cX8_init 40 = .ok (.new 25, 3) := by decide +kernel
theorem dX8_init_43 : decode cX8_init 43 = .ok (.dup, 1) := by decide +kernel
theorem dX8_init_44 : decode cX8_init 44 = .ok (.iconst 5, 1) := by decide +kernel
theorem dX8_init_45 : decode cX8_init 45 = .ok (.invokespecial 27, 3) := by decide +kernel
theorem dX8_init_48 : decode cX8_init 48 = .ok (.putfield 34, 3) := by decide +kernel
theorem dX8_init_51 : decode cX8_init 51 = .ok (.aload_n 0, 1) := by decide +kernel
theorem dX8_init_52 : decode cX8_init 52 = .ok (.new 25, 3) := by decide +kernel
theorem dX8_init_55 : decode cX8_init 55 = .ok (.dup, 1) := by decide +kernel
theorem dX8_init_56 : decode cX8_init 56 = .ok (.bipush 8, 2) := by decide +kernel
theorem dX8_init_58 : decode cX8_init 58 = .ok (.invokespecial 27, 3) := by decide +kernel
theorem dX8_init_61 : decode cX8_init 61 = .ok (.putfield 37, 3) := by decide +kernel
theorem dX8_init_64 : decode cX8_init 64 = .ok (.return_, 1) := by decide +kernel
theorem dX8_copyFrom_0 : decode cX8_copyFrom 0 = .ok (.aload_n 0, 1) := by decide +kernel
theorem dX8_copyFrom_1 : decode cX8_copyFrom 1 = .ok (.getfield 12, 3) := by decide +kernel
theorem dX8_copyFrom_4 : decode cX8_copyFrom 4 = .ok (.aload_n 1, 1) := by decide +kernel
theorem dX8_copyFrom_5 : decode cX8_copyFrom 5 = .ok (.getfield 12, 3) := by decide +kernel
theorem dX8_copyFrom_8 : decode cX8_copyFrom 8 = .ok (.invokevirtual 40, 3) := by decide +kernel
theorem dX8_copyFrom_11 : decode cX8_copyFrom 11 = .ok (.aload_n 0, 1) := by decide +kernel
theorem dX8_copyFrom_12 : decode cX8_copyFrom 12 = .ok (.getfield 21, 3) := by decide +kernel
theorem dX8_copyFrom_15 : decode cX8_copyFrom 15 = .ok (.aload_n 1, 1) := by decide +kernel
theorem dX8_copyFrom_16 : decode cX8_copyFrom 16 = .ok (.getfield 21, 3) := by decide +kernel
theorem dX8_copyFrom_19 : decode cX8_copyFrom 19 = .ok (.invokevirtual 44, 3) := by decide +kernel
theorem dX8_copyFrom_22 : decode cX8_copyFrom 22 = .ok (.aload_n 0, 1) := by decide +kernel
theorem dX8_copyFrom_23 : decode cX8_copyFrom 23 = .ok (.getfield 30, 3) := by decide +kernel
theorem dX8_copyFrom_26 : decode cX8_copyFrom 26 = .ok (.aload_n 1, 1) := by decide +kernel
theorem dX8_copyFrom_27 : decode cX8_copyFrom 27 = .ok (.getfield 30, 3) := by decide +kernel
theorem dX8_copyFrom_30 : decode cX8_copyFrom 30 = .ok (.invokevirtual 47, 3) := by decide +kernel
theorem dX8_copyFrom_33 : decode cX8_copyFrom 33 = .ok (.aload_n 0, 1) := by decide +kernel
theorem dX8_copyFrom_34 : decode cX8_copyFrom 34 = .ok (.getfield 34, 3) := by decide +kernel
theorem dX8_copyFrom_37 : decode cX8_copyFrom 37 = .ok (.aload_n 1, 1) := by decide +kernel
theorem dX8_copyFrom_38 : decode cX8_copyFrom 38 = .ok (.getfield 34, 3) := by decide +kernel
theorem dX8_copyFrom_41 : decode cX8_copyFrom 41 = .ok (.invokevirtual 47, 3) := by decide +kernel
theorem dX8_copyFrom_44 : decode cX8_copyFrom 44 = .ok (.aload_n 0, 1) := by decide +kernel
theorem dX8_copyFrom_45 : decode cX8_copyFrom 45 = .ok (.getfield 37, 3) := by decide +kernel
theorem dX8_copyFrom_48 : decode cX8_copyFrom 48 = .ok (.aload_n 1, 1) := by decide +kernel
theorem dX8_copyFrom_49 : decode cX8_copyFrom 49 = .ok (.getfield 37, 3) := by decide +kernel
theorem dX8_copyFrom_52 : decode cX8_copyFrom 52 = .ok (.invokevirtual 47, 3) := by decide +kernel
theorem dX8_copyFrom_55 : decode cX8_copyFrom 55 = .ok (.return_, 1) := by decide +kernel
theorem dX8_takersOf_0 : decode cX8_takersOf 0 = .ok (.iload_n 3, 1) := by decide +kernel
theorem dX8_takersOf_1 : decode cX8_takersOf 1 = .ok (.ifCond .ne 27, 3) := by decide +kernel
theorem dX8_takersOf_4 : decode cX8_takersOf 4 = .ok (.aload_n 0, 1) := by decide +kernel
theorem dX8_takersOf_5 : decode cX8_takersOf 5 = .ok (.aload_n 0, 1) := by decide +kernel
theorem dX8_takersOf_6 : decode cX8_takersOf 6 = .ok (.getfield 12, 3) := by decide +kernel
theorem dX8_takersOf_9 : decode cX8_takersOf 9 = .ok (.getfield 50, 3) := by decide +kernel
theorem dX8_takersOf_12 : decode cX8_takersOf 12 = .ok (.iload_n 1, 1) := by decide +kernel
theorem dX8_takersOf_13 : decode cX8_takersOf 13 = .ok (.iload_n 2, 1) := by decide +kernel
theorem dX8_takersOf_14 : decode cX8_takersOf 14 = .ok (.invokevirtual 53, 3) := by decide +kernel
theorem dX8_takersOf_17 : decode cX8_takersOf 17 = .ok (.aload_n 0, 1) := by decide +kernel
theorem dX8_takersOf_18 : decode cX8_takersOf 18 = .ok (.getfield 12, 3) := by decide +kernel
theorem dX8_takersOf_21 : decode cX8_takersOf 21 = .ok (.iload_n 1, 1) := by decide +kernel
theorem dX8_takersOf_22 : decode cX8_takersOf 22 = .ok (.iload_n 2, 1) := by decide +kernel
theorem dX8_takersOf_23 : decode cX8_takersOf 23 = .ok (.invokevirtual 57, 3) := by decide +kernel
theorem dX8_takersOf_26 : decode cX8_takersOf 26 = .ok (.ior, 1) := by decide +kernel
theorem dX8_takersOf_27 : decode cX8_takersOf 27 = .ok (.ireturn, 1) := by decide +kernel
theorem dX8_takersOf_28 : decode cX8_takersOf 28 = .ok (.aload_n 0, 1) := by decide +kernel
theorem dX8_takersOf_29 : decode cX8_takersOf 29 = .ok (.aload_n 0, 1) := by decide +kernel
theorem dX8_takersOf_30 : decode cX8_takersOf 30 = .ok (.getfield 30, 3) := by decide +kernel
theorem dX8_takersOf_33 : decode cX8_takersOf 33 = .ok (.iload_n 1, 1) := by decide +kernel
theorem dX8_takersOf_34 : decode cX8_takersOf 34 = .ok (.iload_n 2, 1) := by decide +kernel
theorem dX8_takersOf_35 : decode cX8_takersOf 35 = .ok (.invokevirtual 53, 3) := by decide +kernel
theorem dX8_takersOf_38 : decode cX8_takersOf 38 = .ok (.ireturn, 1) := by decide +kernel
theorem dX8_takersByRows_0 : decode cX8_takersByRows 0 = .ok (.aload_n 0, 1) := by decide +kernel
theorem dX8_takersByRows_1 : decode cX8_takersByRows 1 = .ok (.getfield 12, 3) := by decide +kernel
theorem dX8_takersByRows_4 : decode cX8_takersByRows 4 = .ok (.getfield 61, 3) := by decide +kernel
theorem dX8_takersByRows_7 : decode cX8_takersByRows 7 = .ok (.astore 4, 2) := by decide +kernel
theorem dX8_takersByRows_9 : decode cX8_takersByRows 9 = .ok (.iconst 0, 1) := by decide +kernel
theorem dX8_takersByRows_10 : decode cX8_takersByRows 10 = .ok (.istore 5, 2) := by decide +kernel
theorem dX8_takersByRows_12 : decode cX8_takersByRows 12 = .ok (.iconst 0, 1) := by decide +kernel
theorem dX8_takersByRows_13 : decode cX8_takersByRows 13 = .ok (.istore 6, 2) := by decide +kernel
theorem dX8_takersByRows_15 : decode cX8_takersByRows 15 = .ok (.iload 6, 2) := by decide +kernel
theorem dX8_takersByRows_17 : decode cX8_takersByRows 17 = .ok (.aload_n 1, 1) := by decide +kernel
theorem dX8_takersByRows_18 : decode cX8_takersByRows 18 = .ok (.getfield 65, 3) := by decide +kernel
theorem dX8_takersByRows_21 : decode cX8_takersByRows 21 = .ok (.if_icmp .ge 84, 3) := by decide +kernel
theorem dX8_takersByRows_24 : decode cX8_takersByRows 24 = .ok (.aload_n 1, 1) := by decide +kernel
theorem dX8_takersByRows_25 : decode cX8_takersByRows 25 = .ok (.iload 6, 2) := by decide +kernel
theorem dX8_takersByRows_27 : decode cX8_takersByRows 27 = .ok (.iconst 0, 1) := by decide +kernel
theorem dX8_takersByRows_28 : decode cX8_takersByRows 28 = .ok (.invokevirtual 69, 3) := by decide +kernel
theorem dX8_takersByRows_31 : decode cX8_takersByRows 31 = .ok (.istore 7, 2) := by decide +kernel
theorem dX8_takersByRows_33 : decode cX8_takersByRows 33 = .ok (.aload 4, 2) := by decide +kernel
theorem dX8_takersByRows_35 : decode cX8_takersByRows 35 = .ok (.iload 7, 2) := by decide +kernel
theorem dX8_takersByRows_37 : decode cX8_takersByRows 37 = .ok (.iload_n 2, 1) := by decide +kernel
theorem dX8_takersByRows_38 : decode cX8_takersByRows 38 = .ok (.invokevirtual 72, 3) := by decide +kernel
theorem dX8_takersByRows_41 : decode cX8_takersByRows 41 = .ok (.istore 8, 2) := by decide +kernel
theorem dX8_takersByRows_43 : decode cX8_takersByRows 43 = .ok (.iload 8, 2) := by decide +kernel
theorem dX8_takersByRows_45 : decode cX8_takersByRows 45 = .ok (.bipush (-5), 2) := by decide +kernel
theorem dX8_takersByRows_47 : decode cX8_takersByRows 47 = .ok (.if_icmp .eq 52, 3) := by decide +kernel
theorem dX8_takersByRows_50 : decode cX8_takersByRows 50 = .ok (.iload_n 3, 1) := by decide +kernel
theorem dX8_takersByRows_51 : decode cX8_takersByRows 51 = .ok (.aload 4, 2) := by decide +kernel
theorem dX8_takersByRows_53 : decode cX8_takersByRows 53 = .ok (.iload 7, 2) := by decide +kernel
theorem dX8_takersByRows_55 : decode cX8_takersByRows 55 = .ok (.iload 8, 2) := by decide +kernel
theorem dX8_takersByRows_57 : decode cX8_takersByRows 57 = .ok (.aload_n 1, 1) := by decide +kernel
theorem dX8_takersByRows_58 : decode cX8_takersByRows 58 = .ok (.iload 6, 2) := by decide +kernel
theorem dX8_takersByRows_60 : decode cX8_takersByRows 60 = .ok (.iconst 1, 1) := by decide +kernel
theorem dX8_takersByRows_61 : decode cX8_takersByRows 61 = .ok (.invokevirtual 69, 3) := by decide +kernel
theorem dX8_takersByRows_64 : decode cX8_takersByRows 64 = .ok (.invokevirtual 77, 3) := by decide +kernel
theorem dX8_takersByRows_67 : decode cX8_takersByRows 67 = .ok (.if_icmp .lt 32, 3) := by decide +kernel
theorem dX8_takersByRows_70 : decode cX8_takersByRows 70 = .ok (.iload_n 3, 1) := by decide +kernel
theorem dX8_takersByRows_71 : decode cX8_takersByRows 71 = .ok (.aload 4, 2) := by decide +kernel
theorem dX8_takersByRows_73 : decode cX8_takersByRows 73 = .ok (.iload 7, 2) := by decide +kernel
theorem dX8_takersByRows_75 : decode cX8_takersByRows 75 = .ok (.iload 8, 2) := by decide +kernel
theorem dX8_takersByRows_77 : decode cX8_takersByRows 77 = .ok (.aload_n 1, 1) := by decide +kernel
theorem dX8_takersByRows_78 : decode cX8_takersByRows 78 = .ok (.iload 6, 2) := by decide +kernel
theorem dX8_takersByRows_80 : decode cX8_takersByRows 80 = .ok (.iconst 2, 1) := by decide +kernel
theorem dX8_takersByRows_81 : decode cX8_takersByRows 81 = .ok (.invokevirtual 69, 3) := by decide +kernel
theorem dX8_takersByRows_84 : decode cX8_takersByRows 84 = .ok (.invokevirtual 81, 3) := by decide +kernel
theorem dX8_takersByRows_87 : decode cX8_takersByRows 87 = .ok (.if_icmp .ge 12, 3) := by decide +kernel
theorem dX8_takersByRows_90 : decode cX8_takersByRows 90 = .ok (.iload 5, 2) := by decide +kernel
theorem dX8_takersByRows_92 : decode cX8_takersByRows 92 = .ok (.iconst 1, 1) := by decide +kernel
theorem dX8_takersByRows_93 : decode cX8_takersByRows 93 = .ok (.iload 7, 2) := by decide +kernel
theorem dX8_takersByRows_95 : decode cX8_takersByRows 95 = .ok (.ishl, 1) := by decide +kernel
theorem dX8_takersByRows_96 : decode cX8_takersByRows 96 = .ok (.ior, 1) := by decide +kernel
theorem dX8_takersByRows_97 : decode cX8_takersByRows 97 = .ok (.istore 5, 2) := by decide +kernel
theorem dX8_takersByRows_99 : decode cX8_takersByRows 99 = .ok (.iinc 6 1, 3) := by decide +kernel
theorem dX8_takersByRows_102 : decode cX8_takersByRows 102 = .ok (.goto (-87), 3) := by decide +kernel
theorem dX8_takersByRows_105 : decode cX8_takersByRows 105 = .ok (.iload 5, 2) := by decide +kernel
theorem dX8_takersByRows_107 : decode cX8_takersByRows 107 = .ok (.ireturn, 1) := by decide +kernel
theorem dX8_firstUnproved_0 : decode cX8_firstUnproved 0 = .ok (.iconst 1, 1) := by decide +kernel
theorem dX8_firstUnproved_1 : decode cX8_firstUnproved 1 = .ok (.istore_n 1, 1) := by decide +kernel
theorem dX8_firstUnproved_2 : decode cX8_firstUnproved 2 = .ok (.iload_n 1, 1) := by decide +kernel
theorem dX8_firstUnproved_3 : decode cX8_firstUnproved 3 = .ok (.aload_n 0, 1) := by decide +kernel
theorem dX8_firstUnproved_4 : decode cX8_firstUnproved 4 = .ok (.getfield 30, 3) := by decide +kernel
theorem dX8_firstUnproved_7 : decode cX8_firstUnproved 7 = .ok (.getfield 65, 3) := by decide +kernel
theorem dX8_firstUnproved_10 : decode cX8_firstUnproved 10 = .ok (.if_icmp .ge 33, 3) := by decide +kernel
theorem dX8_firstUnproved_13 : decode cX8_firstUnproved 13 = .ok (.iconst 0, 1) := by decide +kernel
theorem dX8_firstUnproved_14 : decode cX8_firstUnproved 14 = .ok (.istore_n 2, 1) := by decide +kernel
theorem dX8_firstUnproved_15 : decode cX8_firstUnproved 15 = .ok (.iload_n 2, 1) := by decide +kernel
theorem dX8_firstUnproved_16 : decode cX8_firstUnproved 16 = .ok (.iload_n 1, 1) := by decide +kernel
theorem dX8_firstUnproved_17 : decode cX8_firstUnproved 17 = .ok (.if_icmp .ge 20, 3) := by decide +kernel
theorem dX8_firstUnproved_20 : decode cX8_firstUnproved 20 = .ok (.aload_n 0, 1) := by decide +kernel
theorem dX8_firstUnproved_21 : decode cX8_firstUnproved 21 = .ok (.iload_n 1, 1) := by decide +kernel
theorem dX8_firstUnproved_22 : decode cX8_firstUnproved 22 = .ok (.iload_n 2, 1) := by decide +kernel
theorem dX8_firstUnproved_23 : decode cX8_firstUnproved 23 = .ok (.invokevirtual 84, 3) := by decide +kernel
theorem dX8_firstUnproved_26 : decode cX8_firstUnproved 26 = .ok (.ifCond .eq 5, 3) := by decide +kernel
theorem dX8_firstUnproved_29 : decode cX8_firstUnproved 29 = .ok (.iload_n 1, 1) := by decide +kernel
theorem dX8_firstUnproved_30 : decode cX8_firstUnproved 30 = .ok (.ireturn, 1) := by decide +kernel
theorem dX8_firstUnproved_31 : decode cX8_firstUnproved 31 = .ok (.iinc 2 1, 3) := by decide +kernel
theorem dX8_firstUnproved_34 : decode cX8_firstUnproved 34 = .ok (.goto (-19), 3) := by decide +kernel
theorem dX8_firstUnproved_37 : decode cX8_firstUnproved 37 = .ok (.iinc 1 1, 3) := by decide +kernel
theorem dX8_firstUnproved_40 : decode cX8_firstUnproved 40 = .ok (.goto (-38), 3) := by decide +kernel
theorem dX8_firstUnproved_43 : decode cX8_firstUnproved 43 = .ok (.bipush (-5), 2) := by decide +kernel
theorem dX8_firstUnproved_45 : decode cX8_firstUnproved 45 = .ok (.ireturn, 1) := by decide +kernel
theorem dX8_areTooNear_0 : decode cX8_areTooNear 0 = .ok (.aload_n 0, 1) := by decide +kernel
theorem dX8_areTooNear_1 : decode cX8_areTooNear 1 = .ok (.getfield 12, 3) := by decide +kernel
theorem dX8_areTooNear_4 : decode cX8_areTooNear 4 = .ok (.getfield 61, 3) := by decide +kernel
theorem dX8_areTooNear_7 : decode cX8_areTooNear 7 = .ok (.aload_n 0, 1) := by decide +kernel
theorem dX8_areTooNear_8 : decode cX8_areTooNear 8 = .ok (.getfield 30, 3) := by decide +kernel
theorem dX8_areTooNear_11 : decode cX8_areTooNear 11 = .ok (.iload_n 1, 1) := by decide +kernel
theorem dX8_areTooNear_12 : decode cX8_areTooNear 12 = .ok (.iconst 0, 1) := by decide +kernel
theorem dX8_areTooNear_13 : decode cX8_areTooNear 13 = .ok (.invokevirtual 69, 3) := by decide +kernel
theorem dX8_areTooNear_16 : decode cX8_areTooNear 16 = .ok (.aload_n 0, 1) := by decide +kernel
theorem dX8_areTooNear_17 : decode cX8_areTooNear 17 = .ok (.getfield 30, 3) := by decide +kernel
theorem dX8_areTooNear_20 : decode cX8_areTooNear 20 = .ok (.iload_n 2, 1) := by decide +kernel
theorem dX8_areTooNear_21 : decode cX8_areTooNear 21 = .ok (.iconst 0, 1) := by decide +kernel
theorem dX8_areTooNear_22 : decode cX8_areTooNear 22 = .ok (.invokevirtual 69, 3) := by decide +kernel
theorem dX8_areTooNear_25 : decode cX8_areTooNear 25 = .ok (.invokevirtual 88, 3) := by decide +kernel
theorem dX8_areTooNear_28 : decode cX8_areTooNear 28 = .ok (.istore_n 3, 1) := by decide +kernel
theorem dX8_areTooNear_29 : decode cX8_areTooNear 29 = .ok (.iload_n 3, 1) := by decide +kernel
theorem dX8_areTooNear_30 : decode cX8_areTooNear 30 = .ok (.ifCond .eq 25, 3) := by decide +kernel
theorem dX8_areTooNear_33 : decode cX8_areTooNear 33 = .ok (.aload_n 0, 1) := by decide +kernel
theorem dX8_areTooNear_34 : decode cX8_areTooNear 34 = .ok (.iload_n 1, 1) := by decide +kernel
theorem dX8_areTooNear_35 : decode cX8_areTooNear 35 = .ok (.iload_n 2, 1) := by decide +kernel
theorem dX8_areTooNear_36 : decode cX8_areTooNear 36 = .ok (.invokevirtual 91, 3) := by decide +kernel
theorem dX8_areTooNear_39 : decode cX8_areTooNear 39 = .ok (.ifCond .ne 16, 3) := by decide +kernel
theorem dX8_areTooNear_42 : decode cX8_areTooNear 42 = .ok (.aload_n 0, 1) := by decide +kernel
theorem dX8_areTooNear_43 : decode cX8_areTooNear 43 = .ok (.iload_n 2, 1) := by decide +kernel
theorem dX8_areTooNear_44 : decode cX8_areTooNear 44 = .ok (.iload_n 1, 1) := by decide +kernel
theorem dX8_areTooNear_45 : decode cX8_areTooNear 45 = .ok (.invokevirtual 91, 3) := by decide +kernel
theorem dX8_areTooNear_48 : decode cX8_areTooNear 48 = .ok (.ifCond .ne 7, 3) := by decide +kernel
theorem dX8_areTooNear_51 : decode cX8_areTooNear 51 = .ok (.iconst 1, 1) := by decide +kernel
theorem dX8_areTooNear_52 : decode cX8_areTooNear 52 = .ok (.goto 4, 3) := by decide +kernel
theorem dX8_areTooNear_55 : decode cX8_areTooNear 55 = .ok (.iconst 0, 1) := by decide +kernel
theorem dX8_areTooNear_56 : decode cX8_areTooNear 56 = .ok (.ireturn, 1) := by decide +kernel
theorem dX8_isClearBehind_0 : decode cX8_isClearBehind 0 = .ok (.aload_n 0, 1) := by decide +kernel
theorem dX8_isClearBehind_1 : decode cX8_isClearBehind 1 = .ok (.getfield 12, 3) := by decide +kernel
theorem dX8_isClearBehind_4 : decode cX8_isClearBehind 4 = .ok (.getfield 61, 3) := by decide +kernel
theorem dX8_isClearBehind_7 : decode cX8_isClearBehind 7 = .ok (.aload_n 0, 1) := by decide +kernel
theorem dX8_isClearBehind_8 : decode cX8_isClearBehind 8 = .ok (.getfield 30, 3) := by decide +kernel
theorem dX8_isClearBehind_11 : decode cX8_isClearBehind 11 = .ok (.iload_n 2, 1) := by decide +kernel
theorem dX8_isClearBehind_12 : decode cX8_isClearBehind 12 = .ok (.iconst 0, 1) := by decide +kernel
theorem dX8_isClearBehind_13 : decode cX8_isClearBehind 13 = .ok (.invokevirtual 69, 3) := by decide +kernel
theorem dX8_isClearBehind_16 : decode cX8_isClearBehind 16 = .ok (.aload_n 0, 1) := by decide +kernel
theorem dX8_isClearBehind_17 : decode cX8_isClearBehind 17 = .ok (.getfield 30, 3) := by decide +kernel
theorem dX8_isClearBehind_20 : decode cX8_isClearBehind 20 = .ok (.iload_n 1, 1) := by decide +kernel
theorem dX8_isClearBehind_21 : decode cX8_isClearBehind 21 = .ok (.iconst 0, 1) := by decide +kernel
theorem dX8_isClearBehind_22 : decode cX8_isClearBehind 22 = .ok (.invokevirtual 69, 3) := by decide +kernel
theorem dX8_isClearBehind_25 : decode cX8_isClearBehind 25 = .ok (.invokevirtual 94, 3) := by decide +kernel
theorem dX8_isClearBehind_28 : decode cX8_isClearBehind 28 = .ok (.istore_n 3, 1) := by decide +kernel
theorem dX8_isClearBehind_29 : decode cX8_isClearBehind 29 = .ok (.aload_n 0, 1) := by decide +kernel
theorem dX8_isClearBehind_30 : decode cX8_isClearBehind 30 = .ok (.getfield 30, 3) := by decide +kernel
theorem dX8_isClearBehind_33 : decode cX8_isClearBehind 33 = .ok (.iload_n 1, 1) := by decide +kernel
theorem dX8_isClearBehind_34 : decode cX8_isClearBehind 34 = .ok (.iconst 1, 1) := by decide +kernel
theorem dX8_isClearBehind_35 : decode cX8_isClearBehind 35 = .ok (.invokevirtual 69, 3) := by decide +kernel
theorem dX8_isClearBehind_38 : decode cX8_isClearBehind 38 = .ok (.aload_n 0, 1) := by decide +kernel
theorem dX8_isClearBehind_39 : decode cX8_isClearBehind 39 = .ok (.getfield 30, 3) := by decide +kernel
theorem dX8_isClearBehind_42 : decode cX8_isClearBehind 42 = .ok (.iload_n 2, 1) := by decide +kernel
theorem dX8_isClearBehind_43 : decode cX8_isClearBehind 43 = .ok (.iconst 2, 1) := by decide +kernel
theorem dX8_isClearBehind_44 : decode cX8_isClearBehind 44 = .ok (.invokevirtual 69, 3) := by decide +kernel
theorem dX8_isClearBehind_47 : decode cX8_isClearBehind 47 = .ok (.isub, 1) := by decide +kernel
theorem dX8_isClearBehind_48 : decode cX8_isClearBehind 48 = .ok (.iload_n 3, 1) := by decide +kernel
theorem dX8_isClearBehind_49 : decode cX8_isClearBehind 49 = .ok (.if_icmp .lt 7, 3) := by decide +kernel
theorem dX8_isClearBehind_52 : decode cX8_isClearBehind 52 = .ok (.iconst 1, 1) := by decide +kernel
theorem dX8_isClearBehind_53 : decode cX8_isClearBehind 53 = .ok (.goto 4, 3) := by decide +kernel
theorem dX8_isClearBehind_56 : decode cX8_isClearBehind 56 = .ok (.iconst 0, 1) := by decide +kernel
theorem dX8_isClearBehind_57 : decode cX8_isClearBehind 57 = .ok (.ireturn, 1) := by decide +kernel
theorem dX8_notesThatHold_0 : decode cX8_notesThatHold 0 = .ok (.iconst 0, 1) := by decide +kernel
theorem dX8_notesThatHold_1 : decode cX8_notesThatHold 1 = .ok (.istore_n 3, 1) := by decide +kernel
theorem dX8_notesThatHold_2 : decode cX8_notesThatHold 2 = .ok (.iconst 0, 1) := by decide +kernel
theorem dX8_notesThatHold_3 : decode cX8_notesThatHold 3 = .ok (.istore 4, 2) := by decide +kernel
theorem dX8_notesThatHold_5 : decode cX8_notesThatHold 5 = .ok (.iload 4, 2) := by decide +kernel
theorem dX8_notesThatHold_7 : decode cX8_notesThatHold 7 = .ok (.aload_n 0, 1) := by decide +kernel
theorem dX8_notesThatHold_8 : decode cX8_notesThatHold 8 = .ok (.getfield 34, 3) := by decide +kernel
theorem dX8_notesThatHold_11 : decode cX8_notesThatHold 11 = .ok (.getfield 65, 3) := by decide +kernel
theorem dX8_notesThatHold_14 : decode cX8_notesThatHold 14 = .ok (.if_icmp .ge 40, 3) := by decide +kernel
theorem dX8_notesThatHold_17 : decode cX8_notesThatHold 17 = .ok (.aload_n 0, 1) := by decide +kernel
theorem dX8_notesThatHold_18 : decode cX8_notesThatHold 18 = .ok (.getfield 34, 3) := by decide +kernel
theorem dX8_notesThatHold_21 : decode cX8_notesThatHold 21 = .ok (.iload 4, 2) := by decide +kernel
theorem dX8_notesThatHold_23 : decode cX8_notesThatHold 23 = .ok (.iconst 0, 1) := by decide +kernel
theorem dX8_notesThatHold_24 : decode cX8_notesThatHold 24 = .ok (.invokevirtual 69, 3) := by decide +kernel
theorem dX8_notesThatHold_27 : decode cX8_notesThatHold 27 = .ok (.iload_n 1, 1) := by decide +kernel
theorem dX8_notesThatHold_28 : decode cX8_notesThatHold 28 = .ok (.if_icmp .ne 20, 3) := by decide +kernel
theorem dX8_notesThatHold_31 : decode cX8_notesThatHold 31 = .ok (.aload_n 0, 1) := by decide +kernel
theorem dX8_notesThatHold_32 : decode cX8_notesThatHold 32 = .ok (.getfield 34, 3) := by decide +kernel
theorem dX8_notesThatHold_35 : decode cX8_notesThatHold 35 = .ok (.iload 4, 2) := by decide +kernel
theorem dX8_notesThatHold_37 : decode cX8_notesThatHold 37 = .ok (.iconst 1, 1) := by decide +kernel
theorem dX8_notesThatHold_38 : decode cX8_notesThatHold 38 = .ok (.invokevirtual 69, 3) := by decide +kernel
theorem dX8_notesThatHold_41 : decode cX8_notesThatHold 41 = .ok (.iload_n 2, 1) := by decide +kernel
theorem dX8_notesThatHold_42 : decode cX8_notesThatHold 42 = .ok (.if_icmp .ne 6, 3) := by decide +kernel
theorem dX8_notesThatHold_45 : decode cX8_notesThatHold 45 = .ok (.iinc 3 1, 3) := by decide +kernel
theorem dX8_notesThatHold_48 : decode cX8_notesThatHold 48 = .ok (.iinc 4 1, 3) := by decide +kernel
theorem dX8_notesThatHold_51 : decode cX8_notesThatHold 51 = .ok (.goto (-46), 3) := by decide +kernel
theorem dX8_notesThatHold_54 : decode cX8_notesThatHold 54 = .ok (.iload_n 3, 1) := by decide +kernel
theorem dX8_notesThatHold_55 : decode cX8_notesThatHold 55 = .ok (.ireturn, 1) := by decide +kernel
theorem dX8_plannedSeconds_0 : decode cX8_plannedSeconds 0 = .ok (.iconst 0, 1) := by decide +kernel
theorem dX8_plannedSeconds_1 : decode cX8_plannedSeconds 1 = .ok (.istore_n 1, 1) := by decide +kernel
theorem dX8_plannedSeconds_2 : decode cX8_plannedSeconds 2 = .ok (.iconst 0, 1) := by decide +kernel
theorem dX8_plannedSeconds_3 : decode cX8_plannedSeconds 3 = .ok (.istore_n 2, 1) := by decide +kernel
theorem dX8_plannedSeconds_4 : decode cX8_plannedSeconds 4 = .ok (.iload_n 2, 1) := by decide +kernel
theorem dX8_plannedSeconds_5 : decode cX8_plannedSeconds 5 = .ok (.aload_n 0, 1) := by decide +kernel
theorem dX8_plannedSeconds_6 : decode cX8_plannedSeconds 6 = .ok (.getfield 37, 3) := by decide +kernel
theorem dX8_plannedSeconds_9 : decode cX8_plannedSeconds 9 = .ok (.getfield 65, 3) := by decide +kernel
theorem dX8_plannedSeconds_12 : decode cX8_plannedSeconds 12 = .ok (.if_icmp .ge 33, 3) := by decide +kernel
theorem dX8_plannedSeconds_15 : decode cX8_plannedSeconds 15 = .ok (.aload_n 0, 1) := by decide +kernel
theorem dX8_plannedSeconds_16 : decode cX8_plannedSeconds 16 = .ok (.getfield 37, 3) := by decide +kernel
theorem dX8_plannedSeconds_19 : decode cX8_plannedSeconds 19 = .ok (.iload_n 2, 1) := by decide +kernel
theorem dX8_plannedSeconds_20 : decode cX8_plannedSeconds 20 = .ok (.iconst 0, 1) := by decide +kernel
theorem dX8_plannedSeconds_21 : decode cX8_plannedSeconds 21 = .ok (.invokevirtual 69, 3) := by decide +kernel
theorem dX8_plannedSeconds_24 : decode cX8_plannedSeconds 24 = .ok (.ifCond .ne 15, 3) := by decide +kernel
theorem dX8_plannedSeconds_27 : decode cX8_plannedSeconds 27 = .ok (.iload_n 1, 1) := by decide +kernel
theorem dX8_plannedSeconds_28 : decode cX8_plannedSeconds 28 = .ok (.aload_n 0, 1) := by decide +kernel
theorem dX8_plannedSeconds_29 : decode cX8_plannedSeconds 29 = .ok (.getfield 37, 3) := by decide +kernel
theorem dX8_plannedSeconds_32 : decode cX8_plannedSeconds 32 = .ok (.iload_n 2, 1) := by decide +kernel
theorem dX8_plannedSeconds_33 : decode cX8_plannedSeconds 33 = .ok (.iconst 1, 1) := by decide +kernel
theorem dX8_plannedSeconds_34 : decode cX8_plannedSeconds 34 = .ok (.invokevirtual 69, 3) := by decide +kernel
theorem dX8_plannedSeconds_37 : decode cX8_plannedSeconds 37 = .ok (.iadd, 1) := by decide +kernel
theorem dX8_plannedSeconds_38 : decode cX8_plannedSeconds 38 = .ok (.istore_n 1, 1) := by decide +kernel
theorem dX8_plannedSeconds_39 : decode cX8_plannedSeconds 39 = .ok (.iinc 2 1, 3) := by decide +kernel
theorem dX8_plannedSeconds_42 : decode cX8_plannedSeconds 42 = .ok (.goto (-38), 3) := by decide +kernel
theorem dX8_plannedSeconds_45 : decode cX8_plannedSeconds 45 = .ok (.iload_n 1, 1) := by decide +kernel
theorem dX8_plannedSeconds_46 : decode cX8_plannedSeconds 46 = .ok (.ireturn, 1) := by decide +kernel
theorem dX9_init_0 : decode cX9_init 0 = .ok (.aload_n 0, 1) := by decide +kernel
theorem dX9_init_1 : decode cX9_init 1 = .ok (.invokespecial 3, 3) := by decide +kernel
theorem dX9_init_4 : decode cX9_init 4 = .ok (.aload_n 0, 1) := by decide +kernel
theorem dX9_init_5 : decode cX9_init 5 = .ok (.new 9, 3) := by decide +kernel
theorem dX9_init_8 : decode cX9_init 8 = .ok (.dup, 1) := by decide +kernel
theorem dX9_init_9 : decode cX9_init 9 = .ok (.invokespecial 11, 3) := by decide +kernel
theorem dX9_init_12 : decode cX9_init 12 = .ok (.putfield 12, 3) := by decide +kernel
theorem dX9_init_15 : decode cX9_init 15 = .ok (.aload_n 0, 1) := by decide +kernel
theorem dX9_init_16 : decode cX9_init 16 = .ok (.new 9, 3) := by decide +kernel
theorem dX9_init_19 : decode cX9_init 19 = .ok (.dup, 1) := by decide +kernel
theorem dX9_init_20 : decode cX9_init 20 = .ok (.invokespecial 11, 3) := by decide +kernel
theorem dX9_init_23 : decode cX9_init 23 = .ok (.putfield 18, 3) := by decide +kernel
theorem dX9_init_26 : decode cX9_init 26 = .ok (.aload_n 0, 1) := by decide +kernel
theorem dX9_init_27 : decode cX9_init 27 = .ok (.new 21, 3) := by decide +kernel
theorem dX9_init_30 : decode cX9_init 30 = .ok (.dup, 1) := by decide +kernel
theorem dX9_init_31 : decode cX9_init 31 = .ok (.invokespecial 23, 3) := by decide +kernel
theorem dX9_init_34 : decode cX9_init 34 = .ok (.putfield 24, 3) := by decide +kernel
theorem dX9_init_37 : decode cX9_init 37 = .ok (.aload_n 0, 1) := by decide +kernel
theorem dX9_init_38 : decode cX9_init 38 = .ok (.aload_n 0, 1) := by decide +kernel
theorem dX9_init_39 : decode cX9_init 39 = .ok (.getfield 12, 3) := by decide +kernel
theorem dX9_init_42 : decode cX9_init 42 = .ok (.getfield 28, 3) := by decide +kernel
theorem dX9_init_45 : decode cX9_init 45 = .ok (.putfield 31, 3) := by decide +kernel
theorem dX9_init_48 : decode cX9_init 48 = .ok (.aload_n 0, 1) := by decide +kernel
theorem dX9_init_49 : decode cX9_init 49 = .ok (.aload_n 0, 1) := by decide +kernel
theorem dX9_init_50 : decode cX9_init 50 = .ok (.getfield 31, 3) := by decide +kernel
theorem dX9_init_53 : decode cX9_init 53 = .ok (.getfield 32, 3) := by decide +kernel
theorem dX9_init_56 : decode cX9_init 56 = .ok (.putfield 36, 3) := by decide +kernel
theorem dX9_init_59 : decode cX9_init 59 = .ok (.aload_n 0, 1) := by decide +kernel
theorem dX9_init_60 : decode cX9_init 60 = .ok (.aload_n 0, 1) := by decide +kernel
theorem dX9_init_61 : decode cX9_init 61 = .ok (.getfield 31, 3) := by decide +kernel
theorem dX9_init_64 : decode cX9_init 64 = .ok (.getfield 37, 3) := by decide +kernel
theorem dX9_init_67 : decode cX9_init 67 = .ok (.putfield 41, 3) := by decide +kernel
theorem dX9_init_70 : decode cX9_init 70 = .ok (.aload_n 0, 1) := by decide +kernel
theorem dX9_init_71 : decode cX9_init 71 = .ok (.aload_n 0, 1) := by decide +kernel
theorem dX9_init_72 : decode cX9_init 72 = .ok (.getfield 31, 3) := by decide +kernel
theorem dX9_init_75 : decode cX9_init 75 = .ok (.getfield 42, 3) := by decide +kernel
theorem dX9_init_78 : decode cX9_init 78 = .ok (.putfield 46, 3) := by decide +kernel
theorem dX9_init_81 : decode cX9_init 81 = .ok (.aload_n 0, 1) := by decide +kernel
theorem dX9_init_82 : decode cX9_init 82 = .ok (.aload_n 0, 1) := by decide +kernel
theorem dX9_init_83 : decode cX9_init 83 = .ok (.getfield 12, 3) := by decide +kernel
theorem dX9_init_86 : decode cX9_init 86 = .ok (.getfield 47, 3) := by decide +kernel
theorem dX9_init_89 : decode cX9_init 89 = .ok (.putfield 51, 3) := by decide +kernel
theorem dX9_init_92 : decode cX9_init 92 = .ok (.aload_n 0, 1) := by decide +kernel
theorem dX9_init_93 : decode cX9_init 93 = .ok (.new 52, 3) := by decide +kernel
theorem dX9_init_96 : decode cX9_init 96 = .ok (.dup, 1) := by decide +kernel
theorem dX9_init_97 : decode cX9_init 97 = .ok (.invokespecial 54, 3) := by decide +kernel
theorem dX9_init_100 : decode cX9_init 100 = .ok (.putfield 55, 3) := by decide +kernel
theorem dX9_init_103 : decode cX9_init 103 = .ok (.aload_n 0, 1) := by decide +kernel
theorem dX9_init_104 : decode cX9_init 104 = .ok (.bipush 6, 2) := by decide +kernel
theorem dX9_init_106 : decode cX9_init 106 = .ok (.anewarray 59, 3) := by decide +kernel
theorem dX9_init_109 : decode cX9_init 109 = .ok (.putfield 61, 3) := by decide +kernel
theorem dX9_init_112 : decode cX9_init 112 = .ok (.iconst 0, 1) := by decide +kernel
theorem dX9_init_113 : decode cX9_init 113 = .ok (.istore_n 1, 1) := by decide +kernel
theorem dX9_init_114 : decode cX9_init 114 = .ok (.iload_n 1, 1) := by decide +kernel
theorem dX9_init_115 : decode cX9_init 115 = .ok (.bipush 6, 2) := by decide +kernel
theorem dX9_init_117 : decode cX9_init 117 = .ok (.if_icmp .ge 22, 3) := by decide +kernel
theorem dX9_init_120 : decode cX9_init 120 = .ok (.aload_n 0, 1) := by decide +kernel
theorem dX9_init_121 : decode cX9_init 121 = .ok (.getfield 61, 3) := by decide +kernel
theorem dX9_init_124 : decode cX9_init 124 = .ok (.iload_n 1, 1) := by decide +kernel
theorem dX9_init_125 : decode cX9_init 125 = .ok (.new 59, 3) := by decide +kernel
theorem dX9_init_128 : decode cX9_init 128 = .ok (.dup, 1) := by decide +kernel
theorem dX9_init_129 : decode cX9_init 129 = .ok (.invokespecial 65, 3) := by decide +kernel
theorem dX9_init_132 : decode cX9_init 132 = .ok (.aastore, 1) := by decide +kernel
theorem dX9_init_133 : decode cX9_init 133 = .ok (.iinc 1 1, 3) := by decide +kernel
theorem dX9_init_136 : decode cX9_init 136 = .ok (.goto (-22), 3) := by decide +kernel
theorem dX9_init_139 : decode cX9_init 139 = .ok (.return_, 1) := by decide +kernel
theorem dX9_signal_0 : decode cX9_signal 0 = .ok (.iload_n 1, 1) := by decide +kernel
theorem dX9_signal_1 : decode cX9_signal 1 = .ok (.iconst 0, 1) := by decide +kernel
theorem dX9_signal_2 : decode cX9_signal 2 = .ok (.iconst 3, 1) := by decide +kernel
theorem dX9_signal_3 : decode cX9_signal 3 = .ok (.invokestatic 66, 3) := by decide +kernel
theorem dX9_signal_6 : decode cX9_signal 6 = .ok (.ifCond .eq 13, 3) := by decide +kernel
theorem dX9_signal_9 : decode cX9_signal 9 = .ok (.iload_n 2, 1) := by decide +kernel
theorem dX9_signal_10 : decode cX9_signal 10 = .ok (.iconst 0, 1) := by decide +kernel
theorem dX9_signal_11 : decode cX9_signal 11 = .ok (.bipush 63, 2) := by decide +kernel
theorem dX9_signal_13 : decode cX9_signal 13 = .ok (.invokestatic 66, 3) := by decide +kernel
theorem dX9_signal_16 : decode cX9_signal 16 = .ok (.ifCond .ne 6, 3) := by decide +kernel
theorem dX9_signal_19 : decode cX9_signal 19 = .ok (.bipush (-2), 2) := by decide +kernel
theorem dX9_signal_21 : decode cX9_signal 21 = .ok (.ireturn, 1) := by decide +kernel
theorem dX9_signal_22 : decode cX9_signal 22 = .ok (.aload_n 0, 1) := by decide +kernel
theorem dX9_signal_23 : decode cX9_signal 23 = .ok (.getfield 31, 3) := by decide +kernel
theorem dX9_signal_26 : decode cX9_signal 26 = .ok (.getfield 70, 3) := by decide +kernel
theorem dX9_signal_29 : decode cX9_signal 29 = .ok (.ifCond .eq 6, 3) := by decide +kernel
theorem dX9_signal_32 : decode cX9_signal 32 = .ok (.bipush (-3), 2) := by decide +kernel
theorem dX9_signal_34 : decode cX9_signal 34 = .ok (.ireturn, 1) := by decide +kernel
theorem dX9_signal_35 : decode cX9_signal 35 = .ok (.aload_n 0, 1) := by decide +kernel
theorem dX9_signal_36 : decode cX9_signal 36 = .ok (.getfield 36, 3) := by decide +kernel
theorem dX9_signal_39 : decode cX9_signal 39 = .ok (.getfield 74, 3) := by decide +kernel
theorem dX9_signal_42 : decode cX9_signal 42 = .ok (.bipush 8, 2) := by decide +kernel
theorem dX9_signal_44 : decode cX9_signal 44 = .ok (.if_icmp .lt 6, 3) := by decide +kernel
theorem dX9_signal_47 : decode cX9_signal 47 = .ok (.bipush (-4), 2) := by decide +kernel
theorem dX9_signal_49 : decode cX9_signal 49 = .ok (.ireturn, 1) := by decide +kernel
theorem dX9_signal_50 : decode cX9_signal 50 = .ok (.aload_n 0, 1) := by decide +kernel
theorem dX9_signal_51 : decode cX9_signal 51 = .ok (.getfield 36, 3) := by decide +kernel
theorem dX9_signal_54 : decode cX9_signal 54 = .ok (.iload_n 1, 1) := by decide +kernel
theorem dX9_signal_55 : decode cX9_signal 55 = .ok (.iload_n 2, 1) := by decide +kernel
theorem dX9_signal_56 : decode cX9_signal 56 = .ok (.invokevirtual 80, 3) := by decide +kernel
theorem dX9_signal_59 : decode cX9_signal 59 = .ok (.ireturn, 1) := by decide +kernel
theorem dX9_goes_0 : decode cX9_goes 0 = .ok (.aload_n 0, 1) := by decide +kernel
theorem dX9_goes_1 : decode cX9_goes 1 = .ok (.iload_n 1, 1) := by decide +kernel
theorem dX9_goes_2 : decode cX9_goes 2 = .ok (.invokevirtual 84, 3) := by decide +kernel
theorem dX9_goes_5 : decode cX9_goes 5 = .ok (.ifCond .ne 5, 3) := by decide +kernel
theorem dX9_goes_8 : decode cX9_goes 8 = .ok (.iconst (-1), 1) := by decide +kernel
theorem dX9_goes_9 : decode cX9_goes 9 = .ok (.ireturn, 1) := by decide +kernel
theorem dX9_goes_10 : decode cX9_goes 10 = .ok (.iload_n 2, 1) := by decide +kernel
theorem dX9_goes_11 : decode cX9_goes 11 = .ok (.iconst 0, 1) := by decide +kernel
theorem dX9_goes_12 : decode cX9_goes 12 = .ok (.bipush 63, 2) := by decide +kernel
theorem dX9_goes_14 : decode cX9_goes 14 = .ok (.invokestatic 66, 3) := by decide +kernel
theorem dX9_goes_17 : decode cX9_goes 17 = .ok (.ifCond .eq 17, 3) := by decide +kernel
theorem dX9_goes_20 : decode cX9_goes 20 = .ok (.aload_n 0, 1) := by decide +kernel
theorem dX9_goes_21 : decode cX9_goes 21 = .ok (.getfield 36, 3) := by decide +kernel
theorem dX9_goes_24 : decode cX9_goes 24 = .ok (.iload_n 1, 1) := by decide +kernel
theorem dX9_goes_25 : decode cX9_goes 25 = .ok (.iload_n 2, 1) := by decide +kernel
theorem dX9_goes_26 : decode cX9_goes 26 = .ok (.invokevirtual 88, 3) := by decide +kernel
theorem dX9_goes_29 : decode cX9_goes 29 = .ok (.bipush (-5), 2) := by decide +kernel
theorem dX9_goes_31 : decode cX9_goes 31 = .ok (.if_icmp .eq 6, 3) := by decide +kernel
theorem dX9_goes_34 : decode cX9_goes 34 = .ok (.bipush (-2), 2) := by decide +kernel
theorem dX9_goes_36 : decode cX9_goes 36 = .ok (.ireturn, 1) := by decide +kernel
theorem dX9_goes_37 : decode cX9_goes 37 = .ok (.aload_n 0, 1) := by decide +kernel
theorem dX9_goes_38 : decode cX9_goes 38 = .ok (.getfield 46, 3) := by decide +kernel
theorem dX9_goes_41 : decode cX9_goes 41 = .ok (.getfield 91, 3) := by decide +kernel
theorem dX9_goes_44 : decode cX9_goes 44 = .ok (.ifCond .le 6, 3) := by decide +kernel
theorem dX9_goes_47 : decode cX9_goes 47 = .ok (.bipush (-3), 2) := by decide +kernel
theorem dX9_goes_49 : decode cX9_goes 49 = .ok (.ireturn, 1) := by decide +kernel
theorem dX9_goes_50 : decode cX9_goes 50 = .ok (.aload_n 0, 1) := by decide +kernel
theorem dX9_goes_51 : decode cX9_goes 51 = .ok (.getfield 36, 3) := by decide +kernel
theorem dX9_goes_54 : decode cX9_goes 54 = .ok (.getfield 94, 3) := by decide +kernel
theorem dX9_goes_57 : decode cX9_goes 57 = .ok (.iload_n 1, 1) := by decide +kernel
theorem dX9_goes_58 : decode cX9_goes 58 = .ok (.iaload, 1) := by decide +kernel
theorem dX9_goes_59 : decode cX9_goes 59 = .ok (.bipush 8, 2) := by decide +kernel
theorem dX9_goes_61 : decode cX9_goes 61 = .ok (.if_icmp .lt 6, 3) := by decide +kernel
theorem dX9_goes_64 : decode cX9_goes 64 = .ok (.bipush (-4), 2) := by decide +kernel
theorem dX9_goes_66 : decode cX9_goes 66 = .ok (.ireturn, 1) := by decide +kernel
theorem dX9_goes_67 : decode cX9_goes 67 = .ok (.aload_n 0, 1) := by decide +kernel
theorem dX9_goes_68 : decode cX9_goes 68 = .ok (.getfield 36, 3) := by decide +kernel
theorem dX9_goes_71 : decode cX9_goes 71 = .ok (.iload_n 1, 1) := by decide +kernel
theorem dX9_goes_72 : decode cX9_goes 72 = .ok (.iload_n 2, 1) := by decide +kernel
theorem dX9_goes_73 : decode cX9_goes 73 = .ok (.invokevirtual 98, 3) := by decide +kernel
theorem dX9_goes_76 : decode cX9_goes 76 = .ok (.ireturn, 1) := by decide +kernel
theorem dX9_tell_0 : decode cX9_tell 0 = .ok (.aload_n 0, 1) := by decide +kernel
theorem dX9_tell_1 : decode cX9_tell 1 = .ok (.iload_n 1, 1) := by decide +kernel
theorem dX9_tell_2 : decode cX9_tell 2 = .ok (.invokevirtual 84, 3) := by decide +kernel
theorem dX9_tell_5 : decode cX9_tell 5 = .ok (.ifCond .eq 12, 3) := by decide +kernel
theorem dX9_tell_8 : decode cX9_tell 8 = .ok (.iload_n 2, 1) := by decide +kernel
theorem dX9_tell_9 : decode cX9_tell 9 = .ok (.iconst 0, 1) := by decide +kernel
theorem dX9_tell_10 : decode cX9_tell 10 = .ok (.iconst 3, 1) := by decide +kernel
theorem dX9_tell_11 : decode cX9_tell 11 = .ok (.invokestatic 66, 3) := by decide +kernel
theorem dX9_tell_14 : decode cX9_tell 14 = .ok (.ifCond .ne 5, 3) := by decide +kernel
theorem dX9_tell_17 : decode cX9_tell 17 = .ok (.iconst (-1), 1) := by decide +kernel
theorem dX9_tell_18 : decode cX9_tell 18 = .ok (.ireturn, 1) := by decide +kernel
theorem dX9_tell_19 : decode cX9_tell 19 = .ok (.iload_n 3, 1) := by decide +kernel
theorem dX9_tell_20 : decode cX9_tell 20 = .ok (.aload_n 0, 1) := by decide +kernel
theorem dX9_tell_21 : decode cX9_tell 21 = .ok (.getfield 41, 3) := by decide +kernel
theorem dX9_tell_24 : decode cX9_tell 24 = .ok (.iload_n 1, 1) := by decide +kernel
theorem dX9_tell_25 : decode cX9_tell 25 = .ok (.iload_n 2, 1) := by decide +kernel
theorem dX9_tell_26 : decode cX9_tell 26 = .ok (.invokevirtual 101, 3) := by decide +kernel
theorem dX9_tell_29 : decode cX9_tell 29 = .ok (.aload_n 0, 1) := by decide +kernel
theorem dX9_tell_30 : decode cX9_tell 30 = .ok (.getfield 41, 3) := by decide +kernel
theorem dX9_tell_33 : decode cX9_tell 33 = .ok (.iload_n 1, 1) := by decide +kernel
theorem dX9_tell_34 : decode cX9_tell 34 = .ok (.iload_n 2, 1) := by decide +kernel
theorem dX9_tell_35 : decode cX9_tell 35 = .ok (.invokevirtual 106, 3) := by decide +kernel
theorem dX9_tell_38 : decode cX9_tell 38 = .ok (.invokestatic 66, 3) := by decide +kernel
theorem dX9_tell_41 : decode cX9_tell 41 = .ok (.ifCond .ne 6, 3) := by decide +kernel
theorem dX9_tell_44 : decode cX9_tell 44 = .ok (.bipush (-2), 2) := by decide +kernel
theorem dX9_tell_46 : decode cX9_tell 46 = .ok (.ireturn, 1) := by decide +kernel
theorem dX9_tell_47 : decode cX9_tell 47 = .ok (.aload_n 0, 1) := by decide +kernel
theorem dX9_tell_48 : decode cX9_tell 48 = .ok (.getfield 41, 3) := by decide +kernel
theorem dX9_tell_51 : decode cX9_tell 51 = .ok (.iload_n 1, 1) := by decide +kernel
theorem dX9_tell_52 : decode cX9_tell 52 = .ok (.iload_n 2, 1) := by decide +kernel
theorem dX9_tell_53 : decode cX9_tell 53 = .ok (.invokevirtual 109, 3) := by decide +kernel
theorem dX9_tell_56 : decode cX9_tell 56 = .ok (.istore 4, 2) := by decide +kernel
theorem dX9_tell_58 : decode cX9_tell 58 = .ok (.aload_n 0, 1) := by decide +kernel
theorem dX9_tell_59 : decode cX9_tell 59 = .ok (.getfield 41, 3) := by decide +kernel
theorem dX9_tell_62 : decode cX9_tell 62 = .ok (.getfield 112, 3) := by decide +kernel
theorem dX9_tell_65 : decode cX9_tell 65 = .ok (.iload_n 1, 1) := by decide +kernel
theorem dX9_tell_66 : decode cX9_tell 66 = .ok (.iconst 4, 1) := by decide +kernel
theorem dX9_tell_67 : decode cX9_tell 67 = .ok (.imul, 1) := by decide +kernel
theorem dX9_tell_68 : decode cX9_tell 68 = .ok (.iload_n 2, 1) := by decide +kernel
theorem dX9_tell_69 : decode cX9_tell 69 = .ok (.iadd, 1) := by decide +kernel
theorem dX9_tell_70 : decode cX9_tell 70 = .ok (.iload_n 3, 1) := by decide +kernel
theorem dX9_tell_71 : decode cX9_tell 71 = .ok (.iastore, 1) := by decide +kernel
theorem dX9_tell_72 : decode cX9_tell 72 = .ok (.iload 4, 2) := by decide +kernel
theorem dX9_tell_74 : decode cX9_tell 74 = .ok (.ireturn, 1) := by decide +kernel
theorem dX9_feed_0 : decode cX9_feed 0 = .ok (.iload_n 1, 1) := by decide +kernel
theorem dX9_feed_1 : decode cX9_feed 1 = .ok (.iconst 0, 1) := by decide +kernel
theorem dX9_feed_2 : decode cX9_feed 2 = .ok (.bipush 127, 2) := by decide +kernel
theorem dX9_feed_4 : decode cX9_feed 4 = .ok (.invokestatic 66, 3) := by decide +kernel
theorem dX9_feed_7 : decode cX9_feed 7 = .ok (.ifCond .ne 6, 3) := by decide +kernel
theorem dX9_feed_10 : decode cX9_feed 10 = .ok (.bipush (-2), 2) := by decide +kernel
theorem dX9_feed_12 : decode cX9_feed 12 = .ok (.ireturn, 1) := by decide +kernel
theorem dX9_feed_13 : decode cX9_feed 13 = .ok (.aload_n 0, 1) := by decide +kernel
theorem dX9_feed_14 : decode cX9_feed 14 = .ok (.getfield 55, 3) := by decide +kernel
theorem dX9_feed_17 : decode cX9_feed 17 = .ok (.getfield 115, 3) := by decide +kernel
theorem dX9_feed_20 : decode cX9_feed 20 = .ok (.bipush 100, 2) := by decide +kernel
theorem dX9_feed_22 : decode cX9_feed 22 = .ok (.if_icmp .lt 6, 3) := by decide +kernel
theorem dX9_feed_25 : decode cX9_feed 25 = .ok (.bipush (-4), 2) := by decide +kernel
theorem dX9_feed_27 : decode cX9_feed 27 = .ok (.ireturn, 1) := by decide +kernel
theorem dX9_feed_28 : decode cX9_feed 28 = .ok (.aload_n 0, 1) := by decide +kernel
theorem dX9_feed_29 : decode cX9_feed 29 = .ok (.getfield 55, 3) := by decide +kernel
theorem dX9_feed_32 : decode cX9_feed 32 = .ok (.iload_n 1, 1) := by decide +kernel
theorem dX9_feed_33 : decode cX9_feed 33 = .ok (.invokevirtual 118, 3) := by decide +kernel
theorem dX9_feed_36 : decode cX9_feed 36 = .ok (.ireturn, 1) := by decide +kernel
theorem dX9_read_0 : decode cX9_read 0 = .ok (.aload_n 0, 1) := by decide +kernel
theorem dX9_read_1 : decode cX9_read 1 = .ok (.getfield 31, 3) := by decide +kernel
theorem dX9_read_4 : decode cX9_read 4 = .ok (.getfield 70, 3) := by decide +kernel
theorem dX9_read_7 : decode cX9_read 7 = .ok (.ifCond .ne 17, 3) := by decide +kernel
theorem dX9_read_10 : decode cX9_read 10 = .ok (.aload_n 0, 1) := by decide +kernel
theorem dX9_read_11 : decode cX9_read 11 = .ok (.getfield 55, 3) := by decide +kernel
theorem dX9_read_14 : decode cX9_read 14 = .ok (.invokevirtual 122, 3) := by decide +kernel
theorem dX9_read_17 : decode cX9_read 17 = .ok (.ifCond .eq 7, 3) := by decide +kernel
theorem dX9_read_20 : decode cX9_read 20 = .ok (.iconst 1, 1) := by decide +kernel
theorem dX9_read_21 : decode cX9_read 21 = .ok (.goto 4, 3) := by decide +kernel
theorem dX9_read_24 : decode cX9_read 24 = .ok (.iconst 0, 1) := by decide +kernel
theorem dX9_read_25 : decode cX9_read 25 = .ok (.istore_n 1, 1) := by decide +kernel
theorem dX9_read_26 : decode cX9_read 26 = .ok (.aload_n 0, 1) := by decide +kernel
theorem dX9_read_27 : decode cX9_read 27 = .ok (.getfield 55, 3) := by decide +kernel
theorem dX9_read_30 : decode cX9_read 30 = .ok (.iconst 0, 1) := by decide +kernel
theorem dX9_read_31 : decode cX9_read 31 = .ok (.putfield 115, 3) := by decide +kernel
theorem dX9_read_34 : decode cX9_read 34 = .ok (.aload_n 0, 1) := by decide +kernel
theorem dX9_read_35 : decode cX9_read 35 = .ok (.getfield 31, 3) := by decide +kernel
theorem dX9_read_38 : decode cX9_read 38 = .ok (.getfield 70, 3) := by decide +kernel
theorem dX9_read_41 : decode cX9_read 41 = .ok (.ifCond .eq 6, 3) := by decide +kernel
theorem dX9_read_44 : decode cX9_read 44 = .ok (.bipush (-3), 2) := by decide +kernel
theorem dX9_read_46 : decode cX9_read 46 = .ok (.ireturn, 1) := by decide +kernel
theorem dX9_read_47 : decode cX9_read 47 = .ok (.iload_n 1, 1) := by decide +kernel
theorem dX9_read_48 : decode cX9_read 48 = .ok (.ifCond .ne 14, 3) := by decide +kernel
theorem dX9_read_51 : decode cX9_read 51 = .ok (.bipush (-10), 2) := by decide +kernel
theorem dX9_read_53 : decode cX9_read 53 = .ok (.aload_n 0, 1) := by decide +kernel
theorem dX9_read_54 : decode cX9_read 54 = .ok (.getfield 55, 3) := by decide +kernel
theorem dX9_read_57 : decode cX9_read 57 = .ok (.getfield 126, 3) := by decide +kernel
theorem dX9_read_60 : decode cX9_read 60 = .ok (.isub, 1) := by decide +kernel
theorem dX9_read_61 : decode cX9_read 61 = .ok (.ireturn, 1) := by decide +kernel
theorem dX9_read_62 : decode cX9_read 62 = .ok (.aload_n 0, 1) := by decide +kernel
theorem dX9_read_63 : decode cX9_read 63 = .ok (.getfield 36, 3) := by decide +kernel
theorem dX9_read_66 : decode cX9_read 66 = .ok (.getfield 74, 3) := by decide +kernel
theorem dX9_read_69 : decode cX9_read 69 = .ok (.aload_n 0, 1) := by decide +kernel
theorem dX9_read_70 : decode cX9_read 70 = .ok (.getfield 55, 3) := by decide +kernel
theorem dX9_read_73 : decode cX9_read 73 = .ok (.getfield 129, 3) := by decide +kernel
theorem dX9_read_76 : decode cX9_read 76 = .ok (.iadd, 1) := by decide +kernel
theorem dX9_read_77 : decode cX9_read 77 = .ok (.bipush 8, 2) := by decide +kernel
theorem dX9_read_79 : decode cX9_read 79 = .ok (.if_icmp .le 6, 3) := by decide +kernel
theorem dX9_read_82 : decode cX9_read 82 = .ok (.bipush (-4), 2) := by decide +kernel
theorem dX9_read_84 : decode cX9_read 84 = .ok (.ireturn, 1) := by decide +kernel
theorem dX9_read_85 : decode cX9_read 85 = .ok (.iconst 0, 1) := by decide +kernel
theorem dX9_read_86 : decode cX9_read 86 = .ok (.istore_n 2, 1) := by decide +kernel
theorem dX9_read_87 : decode cX9_read 87 = .ok (.iload_n 2, 1) := by decide +kernel
theorem dX9_read_88 : decode cX9_read 88 = .ok (.aload_n 0, 1) := by decide +kernel
theorem dX9_read_89 : decode cX9_read 89 = .ok (.getfield 55, 3) := by decide +kernel
theorem dX9_read_92 : decode cX9_read 92 = .ok (.getfield 129, 3) := by decide +kernel
theorem dX9_read_95 : decode cX9_read 95 = .ok (.if_icmp .ge 14, 3) := by decide +kernel
theorem dX9_read_98 : decode cX9_read 98 = .ok (.aload_n 0, 1) := by decide +kernel
theorem dX9_read_99 : decode cX9_read 99 = .ok (.iload_n 2, 1) := by decide +kernel
theorem dX9_read_100 : decode cX9_read 100 = .ok (.invokevirtual 132, 3) := by decide +kernel
theorem dX9_read_103 : decode cX9_read 103 = .ok (.iinc 2 1, 3) := by decide +kernel
theorem dX9_read_106 : decode cX9_read 106 = .ok (.goto (-19), 3) := by decide +kernel
theorem dX9_read_109 : decode cX9_read 109 = .ok (.aload_n 0, 1) := by decide +kernel
theorem dX9_read_110 : decode cX9_read 110 = .ok (.getfield 55, 3) := by decide +kernel
theorem dX9_read_113 : decode cX9_read 113 = .ok (.getfield 129, 3) := by decide +kernel
theorem dX9_read_116 : decode cX9_read 116 = .ok (.ireturn, 1) := by decide +kernel
theorem dX9_bringClause_0 : decode cX9_bringClause 0 = .ok (.aload_n 0, 1) := by decide +kernel
theorem dX9_bringClause_1 : decode cX9_bringClause 1 = .ok (.getfield 36, 3) := by decide +kernel
theorem dX9_bringClause_4 : decode cX9_bringClause 4 = .ok (.aload_n 0, 1) := by decide +kernel
theorem dX9_bringClause_5 : decode cX9_bringClause 5 = .ok (.getfield 55, 3) := by decide +kernel
theorem dX9_bringClause_8 : decode cX9_bringClause 8 = .ok (.getfield 136, 3) := by decide +kernel
theorem dX9_bringClause_11 : decode cX9_bringClause 11 = .ok (.iload_n 1, 1) := by decide +kernel
theorem dX9_bringClause_12 : decode cX9_bringClause 12 = .ok (.iaload, 1) := by decide +kernel
theorem dX9_bringClause_13 : decode cX9_bringClause 13 = .ok (.aload_n 0, 1) := by decide +kernel
theorem dX9_bringClause_14 : decode cX9_bringClause 14 = .ok (.getfield 55, 3) := by decide +kernel
theorem dX9_bringClause_17 : decode cX9_bringClause 17 = .ok (.getfield 139, 3) := by decide +kernel
theorem dX9_bringClause_20 : decode cX9_bringClause 20 = .ok (.iload_n 1, 1) := by decide +kernel
theorem dX9_bringClause_21 : decode cX9_bringClause 21 = .ok (.bipush 8, 2) := by decide +kernel
theorem dX9_bringClause_23 : decode cX9_bringClause 23 = .ok (.imul, 1) := by decide +kernel
theorem dX9_bringClause_24 : decode cX9_bringClause 24 = .ok (.iaload, 1) := by decide +kernel
theorem dX9_bringClause_25 : decode cX9_bringClause 25 = .ok (.invokevirtual 80, 3) := by decide +kernel
theorem dX9_bringClause_28 : decode cX9_bringClause 28 = .ok (.istore_n 2, 1) := by decide +kernel
theorem dX9_bringClause_29 : decode cX9_bringClause 29 = .ok (.iconst 1, 1) := by decide +kernel
theorem dX9_bringClause_30 : decode cX9_bringClause 30 = .ok (.istore_n 3, 1) := by decide +kernel
theorem dX9_bringClause_31 : decode cX9_bringClause 31 = .ok (.iload_n 3, 1) := by decide +kernel
theorem dX9_bringClause_32 : decode cX9_bringClause 32 = .ok (.aload_n 0, 1) := by decide +kernel
theorem dX9_bringClause_33 : decode cX9_bringClause 33 = .ok (.getfield 55, 3) := by decide +kernel
theorem dX9_bringClause_36 : decode cX9_bringClause 36 = .ok (.getfield 142, 3) := by decide +kernel
theorem dX9_bringClause_39 : decode cX9_bringClause 39 = .ok (.iload_n 1, 1) := by decide +kernel
theorem dX9_bringClause_40 : decode cX9_bringClause 40 = .ok (.iaload, 1) := by decide +kernel
theorem dX9_bringClause_41 : decode cX9_bringClause 41 = .ok (.if_icmp .ge 32, 3) := by decide +kernel
theorem dX9_bringClause_44 : decode cX9_bringClause 44 = .ok (.aload_n 0, 1) := by decide +kernel
theorem dX9_bringClause_45 : decode cX9_bringClause 45 = .ok (.getfield 36, 3) := by decide +kernel
theorem dX9_bringClause_48 : decode cX9_bringClause 48 = .ok (.iload_n 2, 1) := by decide +kernel
theorem dX9_bringClause_49 : decode cX9_bringClause 49 = .ok (.aload_n 0, 1) := by decide +kernel
theorem dX9_bringClause_50 : decode cX9_bringClause 50 = .ok (.getfield 55, 3) := by decide +kernel
theorem dX9_bringClause_53 : decode cX9_bringClause 53 = .ok (.getfield 139, 3) := by decide +kernel
theorem dX9_bringClause_56 : decode cX9_bringClause 56 = .ok (.iload_n 1, 1) := by decide +kernel
theorem dX9_bringClause_57 : decode cX9_bringClause 57 = .ok (.bipush 8, 2) := by decide +kernel
theorem dX9_bringClause_59 : decode cX9_bringClause 59 = .ok (.imul, 1) := by decide +kernel
theorem dX9_bringClause_60 : decode cX9_bringClause 60 = .ok (.iload_n 3, 1) := by decide +kernel
theorem dX9_bringClause_61 : decode cX9_bringClause 61 = .ok (.iadd, 1) := by decide +kernel
theorem dX9_bringClause_62 : decode cX9_bringClause 62 = .ok (.iaload, 1) := by decide +kernel
theorem dX9_bringClause_63 : decode cX9_bringClause 63 = .ok (.invokevirtual 98, 3) := by decide +kernel
theorem dX9_bringClause_66 : decode cX9_bringClause 66 = .ok (.pop, 1) := by decide +kernel
theorem dX9_bringClause_67 : decode cX9_bringClause 67 = .ok (.iinc 3 1, 3) := by decide +kernel
theorem dX9_bringClause_70 : decode cX9_bringClause 70 = .ok (.goto (-39), 3) := by decide +kernel
theorem dX9_bringClause_73 : decode cX9_bringClause 73 = .ok (.iconst 0, 1) := by decide +kernel
theorem dX9_bringClause_74 : decode cX9_bringClause 74 = .ok (.istore_n 3, 1) := by decide +kernel
theorem dX9_bringClause_75 : decode cX9_bringClause 75 = .ok (.iload_n 3, 1) := by decide +kernel
theorem dX9_bringClause_76 : decode cX9_bringClause 76 = .ok (.iconst 4, 1) := by decide +kernel
theorem dX9_bringClause_77 : decode cX9_bringClause 77 = .ok (.if_icmp .ge 35, 3) := by decide +kernel
theorem dX9_bringClause_80 : decode cX9_bringClause 80 = .ok (.aload_n 0, 1) := by decide +kernel
theorem dX9_bringClause_81 : decode cX9_bringClause 81 = .ok (.getfield 41, 3) := by decide +kernel
theorem dX9_bringClause_84 : decode cX9_bringClause 84 = .ok (.getfield 112, 3) := by decide +kernel
theorem dX9_bringClause_87 : decode cX9_bringClause 87 = .ok (.iload_n 2, 1) := by decide +kernel
theorem dX9_bringClause_88 : decode cX9_bringClause 88 = .ok (.iconst 4, 1) := by decide +kernel
theorem dX9_bringClause_89 : decode cX9_bringClause 89 = .ok (.imul, 1) := by decide +kernel
theorem dX9_bringClause_90 : decode cX9_bringClause 90 = .ok (.iload_n 3, 1) := by decide +kernel
theorem dX9_bringClause_91 : decode cX9_bringClause 91 = .ok (.iadd, 1) := by decide +kernel
theorem dX9_bringClause_92 : decode cX9_bringClause 92 = .ok (.aload_n 0, 1) := by decide +kernel
theorem dX9_bringClause_93 : decode cX9_bringClause 93 = .ok (.getfield 55, 3) := by decide +kernel
theorem dX9_bringClause_96 : decode cX9_bringClause 96 = .ok (.getfield 143, 3) := by decide +kernel
theorem dX9_bringClause_99 : decode cX9_bringClause 99 = .ok (.iload_n 1, 1) := by decide +kernel
theorem dX9_bringClause_100 : decode cX9_bringClause 100 = .ok (.iconst 4, 1) := by decide +kernel
theorem dX9_bringClause_101 : decode cX9_bringClause 101 = .ok (.imul, 1) := by decide +kernel
theorem dX9_bringClause_102 : decode cX9_bringClause 102 = .ok (.iload_n 3, 1) := by decide +kernel
theorem dX9_bringClause_103 : decode cX9_bringClause 103 = .ok (.iadd, 1) := by decide +kernel
theorem dX9_bringClause_104 : decode cX9_bringClause 104 = .ok (.iaload, 1) := by decide +kernel
theorem dX9_bringClause_105 : decode cX9_bringClause 105 = .ok (.iastore, 1) := by decide +kernel
theorem dX9_bringClause_106 : decode cX9_bringClause 106 = .ok (.iinc 3 1, 3) := by decide +kernel
theorem dX9_bringClause_109 : decode cX9_bringClause 109 = .ok (.goto (-34), 3) := by decide +kernel
theorem dX9_bringClause_112 : decode cX9_bringClause 112 = .ok (.return_, 1) := by decide +kernel
theorem dX9_safety_0 : decode cX9_safety 0 = .ok (.iload_n 1, 1) := by decide +kernel
theorem dX9_safety_1 : decode cX9_safety 1 = .ok (.iconst 0, 1) := by decide +kernel
theorem dX9_safety_2 : decode cX9_safety 2 = .ok (.iconst 5, 1) := by decide +kernel
theorem dX9_safety_3 : decode cX9_safety 3 = .ok (.invokestatic 66, 3) := by decide +kernel
theorem dX9_safety_6 : decode cX9_safety 6 = .ok (.ifCond .ne 6, 3) := by decide +kernel
theorem dX9_safety_9 : decode cX9_safety 9 = .ok (.bipush (-2), 2) := by decide +kernel
theorem dX9_safety_11 : decode cX9_safety 11 = .ok (.ireturn, 1) := by decide +kernel
theorem dX9_safety_12 : decode cX9_safety 12 = .ok (.aload_n 0, 1) := by decide +kernel
theorem dX9_safety_13 : decode cX9_safety 13 = .ok (.getfield 31, 3) := by decide +kernel
theorem dX9_safety_16 : decode cX9_safety 16 = .ok (.getfield 70, 3) := by decide +kernel
theorem dX9_safety_19 : decode cX9_safety 19 = .ok (.ifCond .eq 6, 3) := by decide +kernel
theorem dX9_safety_22 : decode cX9_safety 22 = .ok (.bipush (-3), 2) := by decide +kernel
theorem dX9_safety_24 : decode cX9_safety 24 = .ok (.ireturn, 1) := by decide +kernel
theorem dX9_safety_25 : decode cX9_safety 25 = .ok (.aload_n 0, 1) := by decide +kernel
theorem dX9_safety_26 : decode cX9_safety 26 = .ok (.getfield 36, 3) := by decide +kernel
theorem dX9_safety_29 : decode cX9_safety 29 = .ok (.getfield 146, 3) := by decide +kernel
theorem dX9_safety_32 : decode cX9_safety 32 = .ok (.istore_n 2, 1) := by decide +kernel
theorem dX9_safety_33 : decode cX9_safety 33 = .ok (.aload_n 0, 1) := by decide +kernel
theorem dX9_safety_34 : decode cX9_safety 34 = .ok (.getfield 36, 3) := by decide +kernel
theorem dX9_safety_37 : decode cX9_safety 37 = .ok (.iload_n 1, 1) := by decide +kernel
theorem dX9_safety_38 : decode cX9_safety 38 = .ok (.putfield 146, 3) := by decide +kernel
theorem dX9_safety_41 : decode cX9_safety 41 = .ok (.iload_n 2, 1) := by decide +kernel
theorem dX9_safety_42 : decode cX9_safety 42 = .ok (.ireturn, 1) := by decide +kernel
theorem dX9_phase_0 : decode cX9_phase 0 = .ok (.iload_n 1, 1) := by decide +kernel
theorem dX9_phase_1 : decode cX9_phase 1 = .ok (.iconst 1, 1) := by decide +kernel
theorem dX9_phase_2 : decode cX9_phase 2 = .ok (.iconst 1, 1) := by decide +kernel
theorem dX9_phase_3 : decode cX9_phase 3 = .ok (.aload_n 0, 1) := by decide +kernel
theorem dX9_phase_4 : decode cX9_phase 4 = .ok (.getfield 36, 3) := by decide +kernel
theorem dX9_phase_7 : decode cX9_phase 7 = .ok (.getfield 74, 3) := by decide +kernel
theorem dX9_phase_10 : decode cX9_phase 10 = .ok (.ishl, 1) := by decide +kernel
theorem dX9_phase_11 : decode cX9_phase 11 = .ok (.iconst 1, 1) := by decide +kernel
theorem dX9_phase_12 : decode cX9_phase 12 = .ok (.isub, 1) := by decide +kernel
theorem dX9_phase_13 : decode cX9_phase 13 = .ok (.invokestatic 66, 3) := by decide +kernel
theorem dX9_phase_16 : decode cX9_phase 16 = .ok (.ifCond .eq 14, 3) := by decide +kernel
theorem dX9_phase_19 : decode cX9_phase 19 = .ok (.iload_n 2, 1) := by decide +kernel
theorem dX9_phase_20 : decode cX9_phase 20 = .ok (.iconst 0, 1) := by decide +kernel
theorem dX9_phase_21 : decode cX9_phase 21 = .ok (.sipush 239, 3) := by decide +kernel
theorem dX9_phase_24 : decode cX9_phase 24 = .ok (.invokestatic 66, 3) := by decide +kernel
theorem dX9_phase_27 : decode cX9_phase 27 = .ok (.ifCond .ne 6, 3) := by decide +kernel
theorem dX9_phase_30 : decode cX9_phase 30 = .ok (.bipush (-2), 2) := by decide +kernel
theorem dX9_phase_32 : decode cX9_phase 32 = .ok (.ireturn, 1) := by decide +kernel
theorem dX9_phase_33 : decode cX9_phase 33 = .ok (.aload_n 0, 1) := by decide +kernel
theorem dX9_phase_34 : decode cX9_phase 34 = .ok (.getfield 31, 3) := by decide +kernel
theorem dX9_phase_37 : decode cX9_phase 37 = .ok (.getfield 70, 3) := by decide +kernel
theorem dX9_phase_40 : decode cX9_phase 40 = .ok (.ifCond .ne 14, 3) := by decide +kernel
theorem dX9_phase_43 : decode cX9_phase 43 = .ok (.aload_n 0, 1) := by decide +kernel
theorem dX9_phase_44 : decode cX9_phase 44 = .ok (.getfield 36, 3) := by decide +kernel
theorem dX9_phase_47 : decode cX9_phase 47 = .ok (.iload_n 1, 1) := by decide +kernel
theorem dX9_phase_48 : decode cX9_phase 48 = .ok (.invokevirtual 149, 3) := by decide +kernel
theorem dX9_phase_51 : decode cX9_phase 51 = .ok (.ifCond .eq 6, 3) := by decide +kernel
theorem dX9_phase_54 : decode cX9_phase 54 = .ok (.bipush (-3), 2) := by decide +kernel
theorem dX9_phase_56 : decode cX9_phase 56 = .ok (.ireturn, 1) := by decide +kernel
theorem dX9_phase_57 : decode cX9_phase 57 = .ok (.aload_n 0, 1) := by decide +kernel
theorem dX9_phase_58 : decode cX9_phase 58 = .ok (.getfield 46, 3) := by decide +kernel
theorem dX9_phase_61 : decode cX9_phase 61 = .ok (.getfield 91, 3) := by decide +kernel
theorem dX9_phase_64 : decode cX9_phase 64 = .ok (.bipush 6, 2) := by decide +kernel
theorem dX9_phase_66 : decode cX9_phase 66 = .ok (.if_icmp .lt 6, 3) := by decide +kernel
theorem dX9_phase_69 : decode cX9_phase 69 = .ok (.bipush (-4), 2) := by decide +kernel
theorem dX9_phase_71 : decode cX9_phase 71 = .ok (.ireturn, 1) := by decide +kernel
theorem dX9_phase_72 : decode cX9_phase 72 = .ok (.aload_n 0, 1) := by decide +kernel
theorem dX9_phase_73 : decode cX9_phase 73 = .ok (.getfield 46, 3) := by decide +kernel
theorem dX9_phase_76 : decode cX9_phase 76 = .ok (.iload_n 1, 1) := by decide +kernel
theorem dX9_phase_77 : decode cX9_phase 77 = .ok (.iload_n 2, 1) := by decide +kernel
theorem dX9_phase_78 : decode cX9_phase 78 = .ok (.invokevirtual 152, 3) := by decide +kernel
theorem dX9_phase_81 : decode cX9_phase 81 = .ok (.ireturn, 1) := by decide +kernel
theorem dX9_start_0 : decode cX9_start 0 = .ok (.aload_n 0, 1) := by decide +kernel
theorem dX9_start_1 : decode cX9_start 1 = .ok (.getfield 31, 3) := by decide +kernel
theorem dX9_start_4 : decode cX9_start 4 = .ok (.getfield 70, 3) := by decide +kernel
theorem dX9_start_7 : decode cX9_start 7 = .ok (.ifCond .ne 13, 3) := by decide +kernel
theorem dX9_start_10 : decode cX9_start 10 = .ok (.aload_n 0, 1) := by decide +kernel
theorem dX9_start_11 : decode cX9_start 11 = .ok (.getfield 46, 3) := by decide +kernel
theorem dX9_start_14 : decode cX9_start 14 = .ok (.getfield 91, 3) := by decide +kernel
theorem dX9_start_17 : decode cX9_start 17 = .ok (.ifCond .ne 6, 3) := by decide +kernel
theorem dX9_start_20 : decode cX9_start 20 = .ok (.bipush (-3), 2) := by decide +kernel
theorem dX9_start_22 : decode cX9_start 22 = .ok (.ireturn, 1) := by decide +kernel
theorem dX9_start_23 : decode cX9_start 23 = .ok (.aload_n 0, 1) := by decide +kernel
theorem dX9_start_24 : decode cX9_start 24 = .ok (.getfield 31, 3) := by decide +kernel
theorem dX9_start_27 : decode cX9_start 27 = .ok (.invokevirtual 155, 3) := by decide +kernel
theorem dX9_start_30 : decode cX9_start 30 = .ok (.aload_n 0, 1) := by decide +kernel
theorem dX9_start_31 : decode cX9_start 31 = .ok (.getfield 46, 3) := by decide +kernel
theorem dX9_start_34 : decode cX9_start 34 = .ok (.getfield 91, 3) := by decide +kernel
theorem dX9_start_37 : decode cX9_start 37 = .ok (.ireturn, 1) := by decide +kernel
theorem dX9_cycle_0 : decode cX9_cycle 0 = .ok (.iload_n 1, 1) := by decide +kernel
theorem dX9_cycle_1 : decode cX9_cycle 1 = .ok (.ifCond .ne 7, 3) := by decide +kernel
theorem dX9_cycle_4 : decode cX9_cycle 4 = .ok (.iconst 1, 1) := by decide +kernel
theorem dX9_cycle_5 : decode cX9_cycle 5 = .ok (.goto 4, 3) := by decide +kernel
theorem dX9_cycle_8 : decode cX9_cycle 8 = .ok (.iconst 0, 1) := by decide +kernel
theorem dX9_cycle_9 : decode cX9_cycle 9 = .ok (.istore 4, 2) := by decide +kernel
theorem dX9_cycle_11 : decode cX9_cycle 11 = .ok (.iload 4, 2) := by decide +kernel
theorem dX9_cycle_13 : decode cX9_cycle 13 = .ok (.ifCond .ne 38, 3) := by decide +kernel
theorem dX9_cycle_16 : decode cX9_cycle 16 = .ok (.iload_n 1, 1) := by decide +kernel
theorem dX9_cycle_17 : decode cX9_cycle 17 = .ok (.bipush 20, 2) := by decide +kernel
theorem dX9_cycle_19 : decode cX9_cycle 19 = .ok (.sipush 240, 3) := by decide +kernel
theorem dX9_cycle_22 : decode cX9_cycle 22 = .ok (.invokestatic 66, 3) := by decide +kernel
theorem dX9_cycle_25 : decode cX9_cycle 25 = .ok (.ifCond .eq 23, 3) := by decide +kernel
theorem dX9_cycle_28 : decode cX9_cycle 28 = .ok (.iload_n 2, 1) := by decide +kernel
theorem dX9_cycle_29 : decode cX9_cycle 29 = .ok (.iconst 0, 1) := by decide +kernel
theorem dX9_cycle_30 : decode cX9_cycle 30 = .ok (.iload_n 1, 1) := by decide +kernel
theorem dX9_cycle_31 : decode cX9_cycle 31 = .ok (.iconst 1, 1) := by decide +kernel
theorem dX9_cycle_32 : decode cX9_cycle 32 = .ok (.isub, 1) := by decide +kernel
theorem dX9_cycle_33 : decode cX9_cycle 33 = .ok (.invokestatic 66, 3) := by decide +kernel
theorem dX9_cycle_36 : decode cX9_cycle 36 = .ok (.ifCond .eq 12, 3) := by decide +kernel
theorem dX9_cycle_39 : decode cX9_cycle 39 = .ok (.iload_n 3, 1) := by decide +kernel
theorem dX9_cycle_40 : decode cX9_cycle 40 = .ok (.iconst 1, 1) := by decide +kernel
theorem dX9_cycle_41 : decode cX9_cycle 41 = .ok (.iload_n 1, 1) := by decide +kernel
theorem dX9_cycle_42 : decode cX9_cycle 42 = .ok (.invokestatic 66, 3) := by decide +kernel
theorem dX9_cycle_45 : decode cX9_cycle 45 = .ok (.ifCond .ne 6, 3) := by decide +kernel
theorem dX9_cycle_48 : decode cX9_cycle 48 = .ok (.bipush (-2), 2) := by decide +kernel
theorem dX9_cycle_50 : decode cX9_cycle 50 = .ok (.ireturn, 1) := by decide +kernel
theorem dX9_cycle_51 : decode cX9_cycle 51 = .ok (.aload_n 0, 1) := by decide +kernel
theorem dX9_cycle_52 : decode cX9_cycle 52 = .ok (.getfield 31, 3) := by decide +kernel
theorem dX9_cycle_55 : decode cX9_cycle 55 = .ok (.getfield 158, 3) := by decide +kernel
theorem dX9_cycle_58 : decode cX9_cycle 58 = .ok (.istore 5, 2) := by decide +kernel
theorem dX9_cycle_60 : decode cX9_cycle 60 = .ok (.aload_n 0, 1) := by decide +kernel
theorem dX9_cycle_61 : decode cX9_cycle 61 = .ok (.getfield 31, 3) := by decide +kernel
theorem dX9_cycle_64 : decode cX9_cycle 64 = .ok (.iload_n 1, 1) := by decide +kernel
theorem dX9_cycle_65 : decode cX9_cycle 65 = .ok (.putfield 158, 3) := by decide +kernel
theorem dX9_cycle_68 : decode cX9_cycle 68 = .ok (.aload_n 0, 1) := by decide +kernel
theorem dX9_cycle_69 : decode cX9_cycle 69 = .ok (.getfield 31, 3) := by decide +kernel
theorem dX9_cycle_72 : decode cX9_cycle 72 = .ok (.iload 4, 2) := by decide +kernel
theorem dX9_cycle_74 : decode cX9_cycle 74 = .ok (.ifCond .eq 7, 3) := by decide +kernel
theorem dX9_cycle_77 : decode cX9_cycle 77 = .ok (.iconst 0, 1) := by decide +kernel
theorem dX9_cycle_78 : decode cX9_cycle 78 = .ok (.goto 4, 3) := by decide +kernel
theorem dX9_cycle_81 : decode cX9_cycle 81 = .ok (.iload_n 2, 1) := by decide +kernel
theorem dX9_cycle_82 : decode cX9_cycle 82 = .ok (.putfield 161, 3) := by decide +kernel
theorem dX9_cycle_85 : decode cX9_cycle 85 = .ok (.aload_n 0, 1) := by decide +kernel
theorem dX9_cycle_86 : decode cX9_cycle 86 = .ok (.getfield 31, 3) := by decide +kernel
theorem dX9_cycle_89 : decode cX9_cycle 89 = .ok (.iload 4, 2) := by decide +kernel
theorem dX9_cycle_91 : decode cX9_cycle 91 = .ok (.ifCond .eq 7, 3) := by decide +kernel
theorem dX9_cycle_94 : decode cX9_cycle 94 = .ok (.iconst 0, 1) := by decide +kernel
theorem dX9_cycle_95 : decode cX9_cycle 95 = .ok (.goto 4, 3) := by decide +kernel
theorem dX9_cycle_98 : decode cX9_cycle 98 = .ok (.iload_n 3, 1) := by decide +kernel
theorem dX9_cycle_99 : decode cX9_cycle 99 = .ok (.putfield 164, 3) := by decide +kernel
theorem dX9_cycle_102 : decode cX9_cycle 102 = .ok (.iload 5, 2) := by decide +kernel
theorem dX9_cycle_104 : decode cX9_cycle 104 = .ok (.ireturn, 1) := by decide +kernel
theorem dX9_come_0 : decode cX9_come 0 = .ok (.aload_n 0, 1) := by decide +kernel
theorem dX9_come_1 : decode cX9_come 1 = .ok (.iload_n 1, 1) := by decide +kernel
theorem dX9_come_2 : decode cX9_come 2 = .ok (.invokevirtual 84, 3) := by decide +kernel
theorem dX9_come_5 : decode cX9_come 5 = .ok (.ifCond .ne 5, 3) := by decide +kernel
theorem dX9_come_8 : decode cX9_come 8 = .ok (.iconst (-1), 1) := by decide +kernel
theorem dX9_come_9 : decode cX9_come 9 = .ok (.ireturn, 1) := by decide +kernel
theorem dX9_come_10 : decode cX9_come 10 = .ok (.iload_n 2, 1) := by decide +kernel
theorem dX9_come_11 : decode cX9_come 11 = .ok (.iconst 1, 1) := by decide +kernel
theorem dX9_come_12 : decode cX9_come 12 = .ok (.bipush 20, 2) := by decide +kernel
theorem dX9_come_14 : decode cX9_come 14 = .ok (.invokestatic 66, 3) := by decide +kernel
theorem dX9_come_17 : decode cX9_come 17 = .ok (.ifCond .ne 6, 3) := by decide +kernel
theorem dX9_come_20 : decode cX9_come 20 = .ok (.bipush (-2), 2) := by decide +kernel
theorem dX9_come_22 : decode cX9_come 22 = .ok (.ireturn, 1) := by decide +kernel
theorem dX9_come_23 : decode cX9_come 23 = .ok (.aload_n 0, 1) := by decide +kernel
theorem dX9_come_24 : decode cX9_come 24 = .ok (.getfield 31, 3) := by decide +kernel
theorem dX9_come_27 : decode cX9_come 27 = .ok (.dup, 1) := by decide +kernel
theorem dX9_come_28 : decode cX9_come 28 = .ok (.getfield 167, 3) := by decide +kernel
theorem dX9_come_31 : decode cX9_come 31 = .ok (.aload_n 0, 1) := by decide +kernel
theorem dX9_come_32 : decode cX9_come 32 = .ok (.getfield 41, 3) := by decide +kernel
theorem dX9_come_35 : decode cX9_come 35 = .ok (.iload_n 1, 1) := by decide +kernel
theorem dX9_come_36 : decode cX9_come 36 = .ok (.iload_n 2, 1) := by decide +kernel
theorem dX9_come_37 : decode cX9_come 37 = .ok (.invokevirtual 170, 3) := by decide +kernel
theorem dX9_come_40 : decode cX9_come 40 = .ok (.iadd, 1) := by decide +kernel
theorem dX9_come_41 : decode cX9_come 41 = .ok (.putfield 167, 3) := by decide +kernel
theorem dX9_come_44 : decode cX9_come 44 = .ok (.aload_n 0, 1) := by decide +kernel
theorem dX9_come_45 : decode cX9_come 45 = .ok (.getfield 41, 3) := by decide +kernel
theorem dX9_come_48 : decode cX9_come 48 = .ok (.getfield 173, 3) := by decide +kernel
theorem dX9_come_51 : decode cX9_come 51 = .ok (.iload_n 1, 1) := by decide +kernel
theorem dX9_come_52 : decode cX9_come 52 = .ok (.iaload, 1) := by decide +kernel
theorem dX9_come_53 : decode cX9_come 53 = .ok (.ireturn, 1) := by decide +kernel
theorem dX9_seed_0 : decode cX9_seed 0 = .ok (.aload_n 0, 1) := by decide +kernel
theorem dX9_seed_1 : decode cX9_seed 1 = .ok (.getfield 31, 3) := by decide +kernel
theorem dX9_seed_4 : decode cX9_seed 4 = .ok (.getfield 176, 3) := by decide +kernel
theorem dX9_seed_7 : decode cX9_seed 7 = .ok (.istore_n 2, 1) := by decide +kernel
theorem dX9_seed_8 : decode cX9_seed 8 = .ok (.aload_n 0, 1) := by decide +kernel
theorem dX9_seed_9 : decode cX9_seed 9 = .ok (.getfield 31, 3) := by decide +kernel
theorem dX9_seed_12 : decode cX9_seed 12 = .ok (.iload_n 1, 1) := by decide +kernel
theorem dX9_seed_13 : decode cX9_seed 13 = .ok (.putfield 176, 3) := by decide +kernel
theorem dX9_seed_16 : decode cX9_seed 16 = .ok (.iload_n 2, 1) := by decide +kernel
theorem dX9_seed_17 : decode cX9_seed 17 = .ok (.ireturn, 1) := by decide +kernel
theorem dX9_emergency_0 : decode cX9_emergency 0 = .ok (.aload_n 0, 1) := by decide +kernel
theorem dX9_emergency_1 : decode cX9_emergency 1 = .ok (.iload_n 1, 1) := by decide +kernel
theorem dX9_emergency_2 : decode cX9_emergency 2 = .ok (.invokevirtual 84, 3) := by decide +kernel
theorem dX9_emergency_5 : decode cX9_emergency 5 = .ok (.ifCond .ne 5, 3) := by decide +kernel
theorem dX9_emergency_8 : decode cX9_emergency 8 = .ok (.iconst (-1), 1) := by decide +kernel
theorem dX9_emergency_9 : decode cX9_emergency 9 = .ok (.ireturn, 1) := by decide +kernel
theorem dX9_emergency_10 : decode cX9_emergency 10 = .ok (.aload_n 0, 1) := by decide +kernel
theorem dX9_emergency_11 : decode cX9_emergency 11 = .ok (.getfield 31, 3) := by decide +kernel
theorem dX9_emergency_14 : decode cX9_emergency 14 = .ok (.iload_n 1, 1) := by decide +kernel
theorem dX9_emergency_15 : decode cX9_emergency 15 = .ok (.invokevirtual 179, 3) := by decide +kernel
theorem dX9_emergency_18 : decode cX9_emergency 18 = .ok (.ifCond .eq 14, 3) := by decide +kernel
theorem dX9_emergency_21 : decode cX9_emergency 21 = .ok (.aload_n 0, 1) := by decide +kernel
theorem dX9_emergency_22 : decode cX9_emergency 22 = .ok (.getfield 46, 3) := by decide +kernel
theorem dX9_emergency_25 : decode cX9_emergency 25 = .ok (.iload_n 1, 1) := by decide +kernel
theorem dX9_emergency_26 : decode cX9_emergency 26 = .ok (.invokevirtual 182, 3) := by decide +kernel
theorem dX9_emergency_29 : decode cX9_emergency 29 = .ok (.goto 5, 3) := by decide +kernel
theorem dX9_emergency_32 : decode cX9_emergency 32 = .ok (.bipush (-3), 2) := by decide +kernel
theorem dX9_emergency_34 : decode cX9_emergency 34 = .ok (.ireturn, 1) := by decide +kernel
theorem dX9_over_0 : decode cX9_over 0 = .ok (.aload_n 0, 1) := by decide +kernel
theorem dX9_over_1 : decode cX9_over 1 = .ok (.getfield 31, 3) := by decide +kernel
theorem dX9_over_4 : decode cX9_over 4 = .ok (.getfield 185, 3) := by decide +kernel
theorem dX9_over_7 : decode cX9_over 7 = .ok (.istore_n 1, 1) := by decide +kernel
theorem dX9_over_8 : decode cX9_over 8 = .ok (.iload_n 1, 1) := by decide +kernel
theorem dX9_over_9 : decode cX9_over 9 = .ok (.bipush (-5), 2) := by decide +kernel
theorem dX9_over_11 : decode cX9_over 11 = .ok (.if_icmp .ne 6, 3) := by decide +kernel
theorem dX9_over_14 : decode cX9_over 14 = .ok (.bipush (-3), 2) := by decide +kernel
theorem dX9_over_16 : decode cX9_over 16 = .ok (.ireturn, 1) := by decide +kernel
theorem dX9_over_17 : decode cX9_over 17 = .ok (.aload_n 0, 1) := by decide +kernel
theorem dX9_over_18 : decode cX9_over 18 = .ok (.getfield 31, 3) := by decide +kernel
theorem dX9_over_21 : decode cX9_over 21 = .ok (.bipush (-5), 2) := by decide +kernel
theorem dX9_over_23 : decode cX9_over 23 = .ok (.putfield 185, 3) := by decide +kernel
theorem dX9_over_26 : decode cX9_over 26 = .ok (.iload_n 1, 1) := by decide +kernel
theorem dX9_over_27 : decode cX9_over 27 = .ok (.ireturn, 1) := by decide +kernel
theorem dX9_pass_0 : decode cX9_pass 0 = .ok (.aload_n 0, 1) := by decide +kernel
theorem dX9_pass_1 : decode cX9_pass 1 = .ok (.iload_n 1, 1) := by decide +kernel
theorem dX9_pass_2 : decode cX9_pass 2 = .ok (.bipush 99, 2) := by decide +kernel
theorem dX9_pass_4 : decode cX9_pass 4 = .ok (.iconst 1, 1) := by decide +kernel
theorem dX9_pass_5 : decode cX9_pass 5 = .ok (.invokevirtual 188, 3) := by decide +kernel
theorem dX9_pass_8 : decode cX9_pass 8 = .ok (.istore_n 2, 1) := by decide +kernel
theorem dX9_pass_9 : decode cX9_pass 9 = .ok (.iload_n 2, 1) := by decide +kernel
theorem dX9_pass_10 : decode cX9_pass 10 = .ok (.ifCond .eq 5, 3) := by decide +kernel
theorem dX9_pass_13 : decode cX9_pass 13 = .ok (.iload_n 2, 1) := by decide +kernel
theorem dX9_pass_14 : decode cX9_pass 14 = .ok (.ireturn, 1) := by decide +kernel
theorem dX9_pass_15 : decode cX9_pass 15 = .ok (.aload_n 0, 1) := by decide +kernel
theorem dX9_pass_16 : decode cX9_pass 16 = .ok (.getfield 31, 3) := by decide +kernel
theorem dX9_pass_19 : decode cX9_pass 19 = .ok (.getfield 192, 3) := by decide +kernel
theorem dX9_pass_22 : decode cX9_pass 22 = .ok (.istore_n 3, 1) := by decide +kernel
theorem dX9_pass_23 : decode cX9_pass 23 = .ok (.aload_n 0, 1) := by decide +kernel
theorem dX9_pass_24 : decode cX9_pass 24 = .ok (.getfield 31, 3) := by decide +kernel
theorem dX9_pass_27 : decode cX9_pass 27 = .ok (.iload_n 1, 1) := by decide +kernel
theorem dX9_pass_28 : decode cX9_pass 28 = .ok (.invokevirtual 195, 3) := by decide +kernel
theorem dX9_pass_31 : decode cX9_pass 31 = .ok (.aload_n 0, 1) := by decide +kernel
theorem dX9_pass_32 : decode cX9_pass 32 = .ok (.getfield 31, 3) := by decide +kernel
theorem dX9_pass_35 : decode cX9_pass 35 = .ok (.getfield 192, 3) := by decide +kernel
theorem dX9_pass_38 : decode cX9_pass 38 = .ok (.iload_n 3, 1) := by decide +kernel
theorem dX9_pass_39 : decode cX9_pass 39 = .ok (.isub, 1) := by decide +kernel
theorem dX9_pass_40 : decode cX9_pass 40 = .ok (.ireturn, 1) := by decide +kernel
theorem dX9_told_0 : decode cX9_told 0 = .ok (.iload_n 1, 1) := by decide +kernel
theorem dX9_told_1 : decode cX9_told 1 = .ok (.iconst 0, 1) := by decide +kernel
theorem dX9_told_2 : decode cX9_told 2 = .ok (.bipush 18, 2) := by decide +kernel
theorem dX9_told_4 : decode cX9_told 4 = .ok (.invokestatic 66, 3) := by decide +kernel
theorem dX9_told_7 : decode cX9_told 7 = .ok (.ifCond .eq 14, 3) := by decide +kernel
theorem dX9_told_10 : decode cX9_told 10 = .ok (.aload_n 0, 1) := by decide +kernel
theorem dX9_told_11 : decode cX9_told 11 = .ok (.getfield 31, 3) := by decide +kernel
theorem dX9_told_14 : decode cX9_told 14 = .ok (.iload_n 1, 1) := by decide +kernel
theorem dX9_told_15 : decode cX9_told 15 = .ok (.invokevirtual 198, 3) := by decide +kernel
theorem dX9_told_18 : decode cX9_told 18 = .ok (.goto 4, 3) := by decide +kernel
theorem dX9_told_21 : decode cX9_told 21 = .ok (.iconst (-1), 1) := by decide +kernel
theorem dX9_told_22 : decode cX9_told 22 = .ok (.ireturn, 1) := by decide +kernel
theorem dX9_of_0 : decode cX9_of 0 = .ok (.aload_n 0, 1) := by decide +kernel
theorem dX9_of_1 : decode cX9_of 1 = .ok (.iload_n 1, 1) := by decide +kernel
theorem dX9_of_2 : decode cX9_of 2 = .ok (.invokevirtual 84, 3) := by decide +kernel
theorem dX9_of_5 : decode cX9_of 5 = .ok (.ifCond .eq 15, 3) := by decide +kernel
theorem dX9_of_8 : decode cX9_of 8 = .ok (.aload_n 0, 1) := by decide +kernel
theorem dX9_of_9 : decode cX9_of 9 = .ok (.getfield 31, 3) := by decide +kernel
theorem dX9_of_12 : decode cX9_of 12 = .ok (.iload_n 1, 1) := by decide +kernel
theorem dX9_of_13 : decode cX9_of 13 = .ok (.iload_n 2, 1) := by decide +kernel
theorem dX9_of_14 : decode cX9_of 14 = .ok (.invokevirtual 201, 3) := by decide +kernel
theorem dX9_of_17 : decode cX9_of 17 = .ok (.goto 4, 3) := by decide +kernel
theorem dX9_of_20 : decode cX9_of 20 = .ok (.iconst (-1), 1) := by decide +kernel
theorem dX9_of_21 : decode cX9_of 21 = .ok (.ireturn, 1) := by decide +kernel
theorem dX9_way_0 : decode cX9_way 0 = .ok (.aload_n 0, 1) := by decide +kernel
theorem dX9_way_1 : decode cX9_way 1 = .ok (.iload_n 1, 1) := by decide +kernel
theorem dX9_way_2 : decode cX9_way 2 = .ok (.invokevirtual 84, 3) := by decide +kernel
theorem dX9_way_5 : decode cX9_way 5 = .ok (.ifCond .ne 5, 3) := by decide +kernel
theorem dX9_way_8 : decode cX9_way 8 = .ok (.iconst (-1), 1) := by decide +kernel
theorem dX9_way_9 : decode cX9_way 9 = .ok (.ireturn, 1) := by decide +kernel
theorem dX9_way_10 : decode cX9_way 10 = .ok (.iload_n 2, 1) := by decide +kernel
theorem dX9_way_11 : decode cX9_way 11 = .ok (.iconst 0, 1) := by decide +kernel
theorem dX9_way_12 : decode cX9_way 12 = .ok (.aload_n 0, 1) := by decide +kernel
theorem dX9_way_13 : decode cX9_way 13 = .ok (.getfield 36, 3) := by decide +kernel
theorem dX9_way_16 : decode cX9_way 16 = .ok (.getfield 94, 3) := by decide +kernel
theorem dX9_way_19 : decode cX9_way 19 = .ok (.iload_n 1, 1) := by decide +kernel
theorem dX9_way_20 : decode cX9_way 20 = .ok (.iaload, 1) := by decide +kernel
theorem dX9_way_21 : decode cX9_way 21 = .ok (.iconst 1, 1) := by decide +kernel
theorem dX9_way_22 : decode cX9_way 22 = .ok (.isub, 1) := by decide +kernel
theorem dX9_way_23 : decode cX9_way 23 = .ok (.invokestatic 66, 3) := by decide +kernel
theorem dX9_way_26 : decode cX9_way 26 = .ok (.ifCond .eq 15, 3) := by decide +kernel
theorem dX9_way_29 : decode cX9_way 29 = .ok (.aload_n 0, 1) := by decide +kernel
theorem dX9_way_30 : decode cX9_way 30 = .ok (.getfield 36, 3) := by decide +kernel
theorem dX9_way_33 : decode cX9_way 33 = .ok (.iload_n 1, 1) := by decide +kernel
theorem dX9_way_34 : decode cX9_way 34 = .ok (.iload_n 2, 1) := by decide +kernel
theorem dX9_way_35 : decode cX9_way 35 = .ok (.invokevirtual 204, 3) := by decide +kernel
theorem dX9_way_38 : decode cX9_way 38 = .ok (.goto 5, 3) := by decide +kernel
theorem dX9_way_41 : decode cX9_way 41 = .ok (.bipush (-2), 2) := by decide +kernel
theorem dX9_way_43 : decode cX9_way 43 = .ok (.ireturn, 1) := by decide +kernel
theorem dX9_clear_0 : decode cX9_clear 0 = .ok (.aload_n 0, 1) := by decide +kernel
theorem dX9_clear_1 : decode cX9_clear 1 = .ok (.iload_n 1, 1) := by decide +kernel
theorem dX9_clear_2 : decode cX9_clear 2 = .ok (.invokevirtual 84, 3) := by decide +kernel
theorem dX9_clear_5 : decode cX9_clear 5 = .ok (.ifCond .eq 11, 3) := by decide +kernel
theorem dX9_clear_8 : decode cX9_clear 8 = .ok (.aload_n 0, 1) := by decide +kernel
theorem dX9_clear_9 : decode cX9_clear 9 = .ok (.iload_n 2, 1) := by decide +kernel
theorem dX9_clear_10 : decode cX9_clear 10 = .ok (.invokevirtual 84, 3) := by decide +kernel
theorem dX9_clear_13 : decode cX9_clear 13 = .ok (.ifCond .ne 5, 3) := by decide +kernel
theorem dX9_clear_16 : decode cX9_clear 16 = .ok (.iconst (-1), 1) := by decide +kernel
theorem dX9_clear_17 : decode cX9_clear 17 = .ok (.ireturn, 1) := by decide +kernel
theorem dX9_clear_18 : decode cX9_clear 18 = .ok (.aload_n 0, 1) := by decide +kernel
theorem dX9_clear_19 : decode cX9_clear 19 = .ok (.getfield 36, 3) := by decide +kernel
theorem dX9_clear_22 : decode cX9_clear 22 = .ok (.iload_n 1, 1) := by decide +kernel
theorem dX9_clear_23 : decode cX9_clear 23 = .ok (.iload_n 2, 1) := by decide +kernel
theorem dX9_clear_24 : decode cX9_clear 24 = .ok (.invokevirtual 207, 3) := by decide +kernel
theorem dX9_clear_27 : decode cX9_clear 27 = .ok (.ifCond .eq 15, 3) := by decide +kernel
theorem dX9_clear_30 : decode cX9_clear 30 = .ok (.aload_n 0, 1) := by decide +kernel
theorem dX9_clear_31 : decode cX9_clear 31 = .ok (.getfield 36, 3) := by decide +kernel
theorem dX9_clear_34 : decode cX9_clear 34 = .ok (.iload_n 1, 1) := by decide +kernel
theorem dX9_clear_35 : decode cX9_clear 35 = .ok (.iload_n 2, 1) := by decide +kernel
theorem dX9_clear_36 : decode cX9_clear 36 = .ok (.invokevirtual 211, 3) := by decide +kernel
theorem dX9_clear_39 : decode cX9_clear 39 = .ok (.goto 5, 3) := by decide +kernel
theorem dX9_clear_42 : decode cX9_clear 42 = .ok (.bipush (-5), 2) := by decide +kernel
theorem dX9_clear_44 : decode cX9_clear 44 = .ok (.ireturn, 1) := by decide +kernel
theorem dX9_narrow_0 : decode cX9_narrow 0 = .ok (.aload_n 0, 1) := by decide +kernel
theorem dX9_narrow_1 : decode cX9_narrow 1 = .ok (.iload_n 1, 1) := by decide +kernel
theorem dX9_narrow_2 : decode cX9_narrow 2 = .ok (.invokevirtual 84, 3) := by decide +kernel
theorem dX9_narrow_5 : decode cX9_narrow 5 = .ok (.ifCond .eq 11, 3) := by decide +kernel
theorem dX9_narrow_8 : decode cX9_narrow 8 = .ok (.aload_n 0, 1) := by decide +kernel
theorem dX9_narrow_9 : decode cX9_narrow 9 = .ok (.iload_n 2, 1) := by decide +kernel
theorem dX9_narrow_10 : decode cX9_narrow 10 = .ok (.invokevirtual 84, 3) := by decide +kernel
theorem dX9_narrow_13 : decode cX9_narrow 13 = .ok (.ifCond .ne 5, 3) := by decide +kernel
theorem dX9_narrow_16 : decode cX9_narrow 16 = .ok (.iconst (-1), 1) := by decide +kernel
theorem dX9_narrow_17 : decode cX9_narrow 17 = .ok (.ireturn, 1) := by decide +kernel
theorem dX9_narrow_18 : decode cX9_narrow 18 = .ok (.aload_n 0, 1) := by decide +kernel
theorem dX9_narrow_19 : decode cX9_narrow 19 = .ok (.getfield 36, 3) := by decide +kernel
theorem dX9_narrow_22 : decode cX9_narrow 22 = .ok (.getfield 214, 3) := by decide +kernel
theorem dX9_narrow_25 : decode cX9_narrow 25 = .ok (.iload_n 1, 1) := by decide +kernel
theorem dX9_narrow_26 : decode cX9_narrow 26 = .ok (.bipush 8, 2) := by decide +kernel
theorem dX9_narrow_28 : decode cX9_narrow 28 = .ok (.imul, 1) := by decide +kernel
theorem dX9_narrow_29 : decode cX9_narrow 29 = .ok (.iload_n 2, 1) := by decide +kernel
theorem dX9_narrow_30 : decode cX9_narrow 30 = .ok (.iadd, 1) := by decide +kernel
theorem dX9_narrow_31 : decode cX9_narrow 31 = .ok (.iaload, 1) := by decide +kernel
theorem dX9_narrow_32 : decode cX9_narrow 32 = .ok (.ireturn, 1) := by decide +kernel
theorem dX9_table_0 : decode cX9_table 0 = .ok (.iload_n 1, 1) := by decide +kernel
theorem dX9_table_1 : decode cX9_table 1 = .ok (.tableswitch 80 0 3 #[31, 39, 47, 55], 31) := by decide +kernel
theorem dX9_table_32 : decode cX9_table 32 = .ok (.aload_n 0, 1) := by decide +kernel
theorem dX9_table_33 : decode cX9_table 33 = .ok (.getfield 36, 3) := by decide +kernel
theorem dX9_table_36 : decode cX9_table 36 = .ok (.invokevirtual 217, 3) := by decide +kernel
theorem dX9_table_39 : decode cX9_table 39 = .ok (.ireturn, 1) := by decide +kernel
theorem dX9_table_40 : decode cX9_table 40 = .ok (.aload_n 0, 1) := by decide +kernel
theorem dX9_table_41 : decode cX9_table 41 = .ok (.getfield 36, 3) := by decide +kernel
theorem dX9_table_44 : decode cX9_table 44 = .ok (.invokevirtual 221, 3) := by decide +kernel
theorem dX9_table_47 : decode cX9_table 47 = .ok (.ireturn, 1) := by decide +kernel
theorem dX9_table_48 : decode cX9_table 48 = .ok (.aload_n 0, 1) := by decide +kernel
theorem dX9_table_49 : decode cX9_table 49 = .ok (.getfield 36, 3) := by decide +kernel
theorem dX9_table_52 : decode cX9_table 52 = .ok (.invokevirtual 224, 3) := by decide +kernel
theorem dX9_table_55 : decode cX9_table 55 = .ok (.ireturn, 1) := by decide +kernel
theorem dX9_table_56 : decode cX9_table 56 = .ok (.aload_n 0, 1) := by decide +kernel
theorem dX9_table_57 : decode cX9_table 57 = .ok (.getfield 46, 3) := by decide +kernel
theorem dX9_table_60 : decode cX9_table 60 = .ok (.getfield 91, 3) := by decide +kernel
theorem dX9_table_63 : decode cX9_table 63 = .ok (.iconst 1, 1) := by decide +kernel
theorem dX9_table_64 : decode cX9_table 64 = .ok (.iadd, 1) := by decide +kernel
theorem dX9_table_65 : decode cX9_table 65 = .ok (.aload_n 0, 1) := by decide +kernel
theorem dX9_table_66 : decode cX9_table 66 = .ok (.getfield 36, 3) := by decide +kernel
theorem dX9_table_69 : decode cX9_table 69 = .ok (.invokevirtual 221, 3) := by decide +kernel
theorem dX9_table_72 : decode cX9_table 72 = .ok (.aload_n 0, 1) := by decide +kernel
theorem dX9_table_73 : decode cX9_table 73 = .ok (.invokevirtual 227, 3) := by decide +kernel
