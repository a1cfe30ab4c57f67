theorem dX7_allows_42 : decode cX7_allows 42 = .ok (.aload_n 0, 1) := by decide +kernel
theorem dX7_allows_43 : decode cX7_allows 43 = .ok (.getfield 9, 3) := by decide +kernel
theorem dX7_allows_46 : decode cX7_allows 46 = .ok (.invokestatic 28, 3) := by decide +kernel
theorem dX7_allows_49 : decode cX7_allows 49 = .ok (.ireturn, 1) := by decide +kernel
theorem dX7_allows_50 : decode cX7_allows 50 = .ok (.iload_n 2, 1) := by decide +kernel
theorem dX7_allows_51 : decode cX7_allows 51 = .ok (.iconst 0, 1) := by decide +kernel
theorem dX7_allows_52 : decode cX7_allows 52 = .ok (.bipush 99, 2) := by decide +kernel
theorem dX7_allows_54 : decode cX7_allows 54 = .ok (.invokestatic 28, 3) := by decide +kernel
theorem dX7_allows_57 : decode cX7_allows 57 = .ok (.ireturn, 1) := by decide +kernel
theorem dX7_at_0 : decode cX7_at 0 = .ok (.aload_n 0, 1) := by decide +kernel
theorem dX7_at_1 : decode cX7_at 1 = .ok (.getfield 15, 3) := by decide +kernel
theorem dX7_at_4 : decode cX7_at 4 = .ok (.iload_n 1, 1) := by decide +kernel
theorem dX7_at_5 : decode cX7_at 5 = .ok (.iconst 3, 1) := by decide +kernel
theorem dX7_at_6 : decode cX7_at 6 = .ok (.imul, 1) := by decide +kernel
theorem dX7_at_7 : decode cX7_at 7 = .ok (.iload_n 2, 1) := by decide +kernel
theorem dX7_at_8 : decode cX7_at 8 = .ok (.iadd, 1) := by decide +kernel
theorem dX7_at_9 : decode cX7_at 9 = .ok (.iaload, 1) := by decide +kernel
theorem dX7_at_10 : decode cX7_at 10 = .ok (.ireturn, 1) := by decide +kernel
theorem dX7_put_0 : decode cX7_put 0 = .ok (.aload_n 0, 1) := by decide +kernel
theorem dX7_put_1 : decode cX7_put 1 = .ok (.getfield 15, 3) := by decide +kernel
theorem dX7_put_4 : decode cX7_put 4 = .ok (.iload_n 1, 1) := by decide +kernel
theorem dX7_put_5 : decode cX7_put 5 = .ok (.iconst 3, 1) := by decide +kernel
theorem dX7_put_6 : decode cX7_put 6 = .ok (.imul, 1) := by decide +kernel
theorem dX7_put_7 : decode cX7_put 7 = .ok (.iload_n 2, 1) := by decide +kernel
theorem dX7_put_8 : decode cX7_put 8 = .ok (.iadd, 1) := by decide +kernel
theorem dX7_put_9 : decode cX7_put 9 = .ok (.iload_n 3, 1) := by decide +kernel
theorem dX7_put_10 : decode cX7_put 10 = .ok (.iastore, 1) := by decide +kernel
theorem dX7_put_11 : decode cX7_put 11 = .ok (.return_, 1) := by decide +kernel
set_option maxRecDepth 20000 in
theorem ggX7_add_X7_put : GoodIn wsX7_add wsX7_put := goodIn_r _ [6, 7, 8, 9, 10] (by decide +kernel) (by decide +kernel)
set_option maxRecDepth 20000 in
theorem gX7_add_X7_put : GoodIn wsX7_add (wsV RX7 32 RX7 yX7_put wsX7_put) := goodIn_app (goodIn_of _ (by decide +kernel)) ggX7_add_X7_put
theorem dX7_add_0 : decode cX7_add 0 = .ok (.aload_n 0, 1) := by decide +kernel
theorem dX7_add_1 : decode cX7_add 1 = .ok (.getfield 19, 3) := by decide +kernel
theorem dX7_add_4 : decode cX7_add 4 = .ok (.istore 4, 2) := by decide +kernel
theorem dX7_add_6 : decode cX7_add 6 = .ok (.aload_n 0, 1) := by decide +kernel
theorem dX7_add_7 : decode cX7_add 7 = .ok (.dup, 1) := by decide +kernel
theorem dX7_add_8 : decode cX7_add 8 = .ok (.getfield 19, 3) := by decide +kernel
theorem dX7_add_11 : decode cX7_add 11 = .ok (.iconst 1, 1) := by decide +kernel
theorem dX7_add_12 : decode cX7_add 12 = .ok (.iadd, 1) := by decide +kernel
theorem dX7_add_13 : decode cX7_add 13 = .ok (.putfield 19, 3) := by decide +kernel
theorem dX7_add_16 : decode cX7_add 16 = .ok (.aload_n 0, 1) := by decide +kernel
theorem dX7_add_17 : decode cX7_add 17 = .ok (.iload 4, 2) := by decide +kernel
theorem dX7_add_19 : decode cX7_add 19 = .ok (.iconst 0, 1) := by decide +kernel
theorem dX7_add_20 : decode cX7_add 20 = .ok (.iload_n 1, 1) := by decide +kernel
theorem dX7_add_21 : decode cX7_add 21 = .ok (.invokevirtual 32, 3) := by decide +kernel
theorem dX7_add_24 : decode cX7_add 24 = .ok (.aload_n 0, 1) := by decide +kernel
theorem dX7_add_25 : decode cX7_add 25 = .ok (.iload 4, 2) := by decide +kernel
theorem dX7_add_27 : decode cX7_add 27 = .ok (.iconst 1, 1) := by decide +kernel
theorem dX7_add_28 : decode cX7_add 28 = .ok (.iload_n 2, 1) := by decide +kernel
theorem dX7_add_29 : decode cX7_add 29 = .ok (.invokevirtual 32, 3) := by decide +kernel
theorem dX7_add_32 : decode cX7_add 32 = .ok (.aload_n 0, 1) := by decide +kernel
theorem dX7_add_33 : decode cX7_add 33 = .ok (.iload 4, 2) := by decide +kernel
theorem dX7_add_35 : decode cX7_add 35 = .ok (.iconst 2, 1) := by decide +kernel
theorem dX7_add_36 : decode cX7_add 36 = .ok (.iload_n 3, 1) := by decide +kernel
theorem dX7_add_37 : decode cX7_add 37 = .ok (.invokevirtual 32, 3) := by decide +kernel
theorem dX7_add_40 : decode cX7_add 40 = .ok (.iload 4, 2) := by decide +kernel
theorem dX7_add_42 : decode cX7_add 42 = .ok (.ireturn, 1) := by decide +kernel
set_option maxRecDepth 20000 in
theorem ggX7_bothBands_X7_bandOn : GoodIn wsX7_bothBands wsX7_bandOn := goodIn_r _ [5, 6, 7, 8, 9, 4, 10, 11, 12, 13, 14, 15, 16, 17, 18, 19, 20, 21, 22, 23, 24, 25, 26, 27, 28, 29, 30, 31, 36, 37, 38] (by decide +kernel) (by decide +kernel)
set_option maxRecDepth 20000 in
theorem gX7_bothBands_X7_bandOn : GoodIn wsX7_bothBands (wsV RX7 36 RX7 yX7_bandOn wsX7_bandOn) := goodIn_app (goodIn_of _ (by decide +kernel)) ggX7_bothBands_X7_bandOn
set_option maxRecDepth 20000 in
theorem ggX7_bothBands_X7_bandBack : GoodIn wsX7_bothBands wsX7_bandBack := goodIn_r _ [35, 6, 7, 8, 9, 4, 10, 11, 16, 17, 18, 19, 20, 12, 13, 14, 15, 21, 22, 23, 24, 25, 26, 27, 28, 29, 30, 31, 36, 37, 38] (by decide +kernel) (by decide +kernel)
set_option maxRecDepth 20000 in
theorem gX7_bothBands_X7_bandBack : GoodIn wsX7_bothBands (wsV RX7 40 RX7 yX7_bandBack wsX7_bandBack) := goodIn_app (goodIn_of _ (by decide +kernel)) ggX7_bothBands_X7_bandBack
theorem dX7_bothBands_0 : decode cX7_bothBands 0 = .ok (.aload_n 0, 1) := by decide +kernel
theorem dX7_bothBands_1 : decode cX7_bothBands 1 = .ok (.invokevirtual 36, 3) := by decide +kernel
theorem dX7_bothBands_4 : decode cX7_bothBands 4 = .ok (.aload_n 0, 1) := by decide +kernel
theorem dX7_bothBands_5 : decode cX7_bothBands 5 = .ok (.invokevirtual 40, 3) := by decide +kernel
theorem dX7_bothBands_8 : decode cX7_bothBands 8 = .ok (.iadd, 1) := by decide +kernel
theorem dX7_bothBands_9 : decode cX7_bothBands 9 = .ok (.ireturn, 1) := by decide +kernel
set_option maxRecDepth 20000 in
theorem ggX7_bandOn_X7_allSeconds : GoodIn wsX7_bandOn wsX7_allSeconds := goodIn_r _ [6, 7, 28, 29, 30] (by decide +kernel) (by decide +kernel)
set_option maxRecDepth 20000 in
theorem gX7_bandOn_X7_allSeconds : GoodIn wsX7_bandOn (wsV RX7 43 RX7 yX7_allSeconds wsX7_allSeconds) := goodIn_app (goodIn_of _ (by decide +kernel)) ggX7_bandOn_X7_allSeconds
set_option maxRecDepth 20000 in
theorem ggX7_bandOn_X7_openSeconds : GoodIn wsX7_bandOn wsX7_openSeconds := goodIn_r _ [11, 7, 12, 13, 14, 5, 15, 16, 17, 18, 19, 20, 2, 3, 4, 6, 28, 29, 30] (by decide +kernel) (by decide +kernel)
set_option maxRecDepth 20000 in
theorem gX7_bandOn_X7_openSeconds : GoodIn wsX7_bandOn (wsV RX7 47 RX7 yX7_openSeconds wsX7_openSeconds) := goodIn_app (goodIn_of _ (by decide +kernel)) ggX7_bandOn_X7_openSeconds
set_option maxRecDepth 20000 in
theorem ggX7_bandOn_X7_at : GoodIn wsX7_bandOn wsX7_at := goodIn_r _ [15, 16, 28, 29, 30] (by decide +kernel) (by decide +kernel)
set_option maxRecDepth 20000 in
theorem gX7_bandOn_X7_at : GoodIn wsX7_bandOn (wsV RX7 51 RX7 yX7_at wsX7_at) := goodIn_app (goodIn_of _ (by decide +kernel)) ggX7_bandOn_X7_at
set_option maxRecDepth 20000 in
theorem ggX7_bandOn_J13_bitCount_95d88 : GoodIn wsX7_bandOn wsJ13_bitCount_95d88 := goodIn_r _ [24, 25, 26, 27] (by decide +kernel) (by decide +kernel)
set_option maxRecDepth 20000 in
theorem gX7_bandOn_J13_bitCount_95d88 : GoodIn wsX7_bandOn (va_wsS RX7 55 yJ13_bitCount_95d88 wsJ13_bitCount_95d88) := goodIn_app (goodIn_of _ (by decide +kernel)) ggX7_bandOn_J13_bitCount_95d88
theorem dX7_bandOn_0 : decode cX7_bandOn 0 = .ok (.aload_n 0, 1) := by decide +kernel
theorem dX7_bandOn_1 : decode cX7_bandOn 1 = .ok (.getfield 19, 3) := by decide +kernel
theorem dX7_bandOn_4 : decode cX7_bandOn 4 = .ok (.ifCond .ne 5, 3) := by decide +kernel
theorem dX7_bandOn_7 : decode cX7_bandOn 7 = .ok (.iconst 0, 1) := by decide +kernel
theorem dX7_bandOn_8 : decode cX7_bandOn 8 = .ok (.ireturn, 1) := by decide +kernel
theorem dX7_bandOn_9 : decode cX7_bandOn 9 = .ok (.aload_n 0, 1) := by decide +kernel
theorem dX7_bandOn_10 : decode cX7_bandOn 10 = .ok (.invokevirtual 43, 3) := by decide +kernel
theorem dX7_bandOn_13 : decode cX7_bandOn 13 = .ok (.lstore_n 1, 1) := by decide +kernel
theorem dX7_bandOn_14 : decode cX7_bandOn 14 = .ok (.iconst 0, 1) := by decide +kernel
theorem dX7_bandOn_15 : decode cX7_bandOn 15 = .ok (.istore_n 3, 1) := by decide +kernel
theorem dX7_bandOn_16 : decode cX7_bandOn 16 = .ok (.iconst 0, 1) := by decide +kernel
theorem dX7_bandOn_17 : decode cX7_bandOn 17 = .ok (.istore 4, 2) := by decide +kernel
theorem dX7_bandOn_19 : decode cX7_bandOn 19 = .ok (.iload 4, 2) := by decide +kernel
theorem dX7_bandOn_21 : decode cX7_bandOn 21 = .ok (.aload_n 0, 1) := by decide +kernel
theorem dX7_bandOn_22 : decode cX7_bandOn 22 = .ok (.getfield 19, 3) := by decide +kernel
theorem dX7_bandOn_25 : decode cX7_bandOn 25 = .ok (.if_icmp .ge 29, 3) := by decide +kernel
theorem dX7_bandOn_28 : decode cX7_bandOn 28 = .ok (.lload_n 1, 1) := by decide +kernel
theorem dX7_bandOn_29 : decode cX7_bandOn 29 = .ok (.aload_n 0, 1) := by decide +kernel
theorem dX7_bandOn_30 : decode cX7_bandOn 30 = .ok (.iload 4, 2) := by decide +kernel
theorem dX7_bandOn_32 : decode cX7_bandOn 32 = .ok (.iload_n 3, 1) := by decide +kernel
theorem dX7_bandOn_33 : decode cX7_bandOn 33 = .ok (.invokevirtual 47, 3) := by decide +kernel
theorem dX7_bandOn_36 : decode cX7_bandOn 36 = .ok (.land, 1) := by decide +kernel
theorem dX7_bandOn_37 : decode cX7_bandOn 37 = .ok (.lstore_n 1, 1) := by decide +kernel
theorem dX7_bandOn_38 : decode cX7_bandOn 38 = .ok (.iload_n 3, 1) := by decide +kernel
theorem dX7_bandOn_39 : decode cX7_bandOn 39 = .ok (.aload_n 0, 1) := by decide +kernel
theorem dX7_bandOn_40 : decode cX7_bandOn 40 = .ok (.iload 4, 2) := by decide +kernel
theorem dX7_bandOn_42 : decode cX7_bandOn 42 = .ok (.iconst 2, 1) := by decide +kernel
theorem dX7_bandOn_43 : decode cX7_bandOn 43 = .ok (.invokevirtual 51, 3) := by decide +kernel
theorem dX7_bandOn_46 : decode cX7_bandOn 46 = .ok (.iadd, 1) := by decide +kernel
theorem dX7_bandOn_47 : decode cX7_bandOn 47 = .ok (.istore_n 3, 1) := by decide +kernel
theorem dX7_bandOn_48 : decode cX7_bandOn 48 = .ok (.iinc 4 1, 3) := by decide +kernel
theorem dX7_bandOn_51 : decode cX7_bandOn 51 = .ok (.goto (-32), 3) := by decide +kernel
theorem dX7_bandOn_54 : decode cX7_bandOn 54 = .ok (.lload_n 1, 1) := by decide +kernel
theorem dX7_bandOn_55 : decode cX7_bandOn 55 = .ok (.invokestatic 55, 3) := by decide +kernel
theorem dX7_bandOn_58 : decode cX7_bandOn 58 = .ok (.ireturn, 1) := by decide +kernel
set_option maxRecDepth 20000 in
theorem ggX7_bandBack_X7_allSeconds : GoodIn wsX7_bandBack wsX7_allSeconds := goodIn_r _ [6, 7, 28, 29, 30] (by decide +kernel) (by decide +kernel)
set_option maxRecDepth 20000 in
theorem gX7_bandBack_X7_allSeconds : GoodIn wsX7_bandBack (wsV RX7 43 RX7 yX7_allSeconds wsX7_allSeconds) := goodIn_app (goodIn_of _ (by decide +kernel)) ggX7_bandBack_X7_allSeconds
set_option maxRecDepth 20000 in
theorem ggX7_bandBack_X7_at : GoodIn wsX7_bandBack wsX7_at := goodIn_r _ [11, 12, 28, 29, 30] (by decide +kernel) (by decide +kernel)
set_option maxRecDepth 20000 in
theorem gX7_bandBack_X7_at : GoodIn wsX7_bandBack (wsV RX7 51 RX7 yX7_at wsX7_at) := goodIn_app (goodIn_of _ (by decide +kernel)) ggX7_bandBack_X7_at
set_option maxRecDepth 20000 in
theorem ggX7_bandBack_X7_openSeconds : GoodIn wsX7_bandBack wsX7_openSeconds := goodIn_r _ [16, 7, 8, 9, 10, 5, 11, 12, 17, 18, 19, 20, 2, 3, 4, 6, 28, 29, 30] (by decide +kernel) (by decide +kernel)
set_option maxRecDepth 20000 in
theorem gX7_bandBack_X7_openSeconds : GoodIn wsX7_bandBack (wsV RX7 47 RX7 yX7_openSeconds wsX7_openSeconds) := goodIn_app (goodIn_of _ (by decide +kernel)) ggX7_bandBack_X7_openSeconds
set_option maxRecDepth 20000 in
theorem ggX7_bandBack_J13_bitCount_95d88 : GoodIn wsX7_bandBack wsJ13_bitCount_95d88 := goodIn_r _ [24, 25, 26, 27] (by decide +kernel) (by decide +kernel)
set_option maxRecDepth 20000 in
theorem gX7_bandBack_J13_bitCount_95d88 : GoodIn wsX7_bandBack (va_wsS RX7 55 yJ13_bitCount_95d88 wsJ13_bitCount_95d88) := goodIn_app (goodIn_of _ (by decide +kernel)) ggX7_bandBack_J13_bitCount_95d88
theorem dX7_bandBack_0 : decode cX7_bandBack 0 = .ok (.aload_n 0, 1) := by decide +kernel
theorem dX7_bandBack_1 : decode cX7_bandBack 1 = .ok (.getfield 19, 3) := by decide +kernel
theorem dX7_bandBack_4 : decode cX7_bandBack 4 = .ok (.ifCond .ne 5, 3) := by decide +kernel
theorem dX7_bandBack_7 : decode cX7_bandBack 7 = .ok (.iconst 0, 1) := by decide +kernel
theorem dX7_bandBack_8 : decode cX7_bandBack 8 = .ok (.ireturn, 1) := by decide +kernel
theorem dX7_bandBack_9 : decode cX7_bandBack 9 = .ok (.aload_n 0, 1) := by decide +kernel
theorem dX7_bandBack_10 : decode cX7_bandBack 10 = .ok (.invokevirtual 43, 3) := by decide +kernel
theorem dX7_bandBack_13 : decode cX7_bandBack 13 = .ok (.lstore_n 1, 1) := by decide +kernel
theorem dX7_bandBack_14 : decode cX7_bandBack 14 = .ok (.iconst 0, 1) := by decide +kernel
theorem dX7_bandBack_15 : decode cX7_bandBack 15 = .ok (.istore_n 3, 1) := by decide +kernel
theorem dX7_bandBack_16 : decode cX7_bandBack 16 = .ok (.aload_n 0, 1) := by decide +kernel
theorem dX7_bandBack_17 : decode cX7_bandBack 17 = .ok (.getfield 19, 3) := by decide +kernel
theorem dX7_bandBack_20 : decode cX7_bandBack 20 = .ok (.iconst 1, 1) := by decide +kernel
theorem dX7_bandBack_21 : decode cX7_bandBack 21 = .ok (.isub, 1) := by decide +kernel
theorem dX7_bandBack_22 : decode cX7_bandBack 22 = .ok (.istore 4, 2) := by decide +kernel
theorem dX7_bandBack_24 : decode cX7_bandBack 24 = .ok (.iload 4, 2) := by decide +kernel
theorem dX7_bandBack_26 : decode cX7_bandBack 26 = .ok (.ifCond .lt 40, 3) := by decide +kernel
theorem dX7_bandBack_29 : decode cX7_bandBack 29 = .ok (.iload 4, 2) := by decide +kernel
theorem dX7_bandBack_31 : decode cX7_bandBack 31 = .ok (.aload_n 0, 1) := by decide +kernel
theorem dX7_bandBack_32 : decode cX7_bandBack 32 = .ok (.getfield 19, 3) := by decide +kernel
theorem dX7_bandBack_35 : decode cX7_bandBack 35 = .ok (.iconst 1, 1) := by decide +kernel
theorem dX7_bandBack_36 : decode cX7_bandBack 36 = .ok (.isub, 1) := by decide +kernel
theorem dX7_bandBack_37 : decode cX7_bandBack 37 = .ok (.if_icmp .ge 13, 3) := by decide +kernel
theorem dX7_bandBack_40 : decode cX7_bandBack 40 = .ok (.iload_n 3, 1) := by decide +kernel
theorem dX7_bandBack_41 : decode cX7_bandBack 41 = .ok (.aload_n 0, 1) := by decide +kernel
theorem dX7_bandBack_42 : decode cX7_bandBack 42 = .ok (.iload 4, 2) := by decide +kernel
theorem dX7_bandBack_44 : decode cX7_bandBack 44 = .ok (.iconst 2, 1) := by decide +kernel
theorem dX7_bandBack_45 : decode cX7_bandBack 45 = .ok (.invokevirtual 51, 3) := by decide +kernel
theorem dX7_bandBack_48 : decode cX7_bandBack 48 = .ok (.iadd, 1) := by decide +kernel
theorem dX7_bandBack_49 : decode cX7_bandBack 49 = .ok (.istore_n 3, 1) := by decide +kernel
theorem dX7_bandBack_50 : decode cX7_bandBack 50 = .ok (.lload_n 1, 1) := by decide +kernel
theorem dX7_bandBack_51 : decode cX7_bandBack 51 = .ok (.aload_n 0, 1) := by decide +kernel
theorem dX7_bandBack_52 : decode cX7_bandBack 52 = .ok (.iload 4, 2) := by decide +kernel
theorem dX7_bandBack_54 : decode cX7_bandBack 54 = .ok (.iload_n 3, 1) := by decide +kernel
theorem dX7_bandBack_55 : decode cX7_bandBack 55 = .ok (.invokevirtual 47, 3) := by decide +kernel
theorem dX7_bandBack_58 : decode cX7_bandBack 58 = .ok (.land, 1) := by decide +kernel
theorem dX7_bandBack_59 : decode cX7_bandBack 59 = .ok (.lstore_n 1, 1) := by decide +kernel
theorem dX7_bandBack_60 : decode cX7_bandBack 60 = .ok (.iinc 4 (-1), 3) := by decide +kernel
theorem dX7_bandBack_63 : decode cX7_bandBack 63 = .ok (.goto (-39), 3) := by decide +kernel
theorem dX7_bandBack_66 : decode cX7_bandBack 66 = .ok (.lload_n 1, 1) := by decide +kernel
theorem dX7_bandBack_67 : decode cX7_bandBack 67 = .ok (.invokestatic 55, 3) := by decide +kernel
theorem dX7_bandBack_70 : decode cX7_bandBack 70 = .ok (.ireturn, 1) := by decide +kernel
theorem dX7_allSeconds_0 : decode cX7_allSeconds 0 = .ok (.lconst 1, 1) := by decide +kernel
theorem dX7_allSeconds_1 : decode cX7_allSeconds 1 = .ok (.aload_n 0, 1) := by decide +kernel
theorem dX7_allSeconds_2 : decode cX7_allSeconds 2 = .ok (.getfield 9, 3) := by decide +kernel
theorem dX7_allSeconds_5 : decode cX7_allSeconds 5 = .ok (.lshl, 1) := by decide +kernel
theorem dX7_allSeconds_6 : decode cX7_allSeconds 6 = .ok (.lconst 1, 1) := by decide +kernel
theorem dX7_allSeconds_7 : decode cX7_allSeconds 7 = .ok (.lsub, 1) := by decide +kernel
theorem dX7_allSeconds_8 : decode cX7_allSeconds 8 = .ok (.lreturn, 1) := by decide +kernel
set_option maxRecDepth 20000 in
theorem ggX7_openSeconds_X7_at : GoodIn wsX7_openSeconds wsX7_at := goodIn_r _ [6, 7, 16, 17, 18] (by decide +kernel) (by decide +kernel)
set_option maxRecDepth 20000 in
theorem gX7_openSeconds_X7_at : GoodIn wsX7_openSeconds (wsV RX7 51 RX7 yX7_at wsX7_at) := goodIn_app (goodIn_of _ (by decide +kernel)) ggX7_openSeconds_X7_at
set_option maxRecDepth 20000 in
theorem ggX7_openSeconds_J9_floorMod_7cf53 : GoodIn wsX7_openSeconds wsJ9_floorMod_7cf53 := goodIn_r _ [11] (by decide +kernel) (by decide +kernel)
set_option maxRecDepth 20000 in
theorem gX7_openSeconds_J9_floorMod_7cf53 : GoodIn wsX7_openSeconds (va_wsS RX7 61 yJ9_floorMod_7cf53 wsJ9_floorMod_7cf53) := goodIn_app (goodIn_of _ (by decide +kernel)) ggX7_openSeconds_J9_floorMod_7cf53
set_option maxRecDepth 20000 in
theorem ggX7_openSeconds_X7_allSeconds : GoodIn wsX7_openSeconds wsX7_allSeconds := goodIn_r _ [15, 1, 16, 17, 18] (by decide +kernel) (by decide +kernel)
set_option maxRecDepth 20000 in
theorem gX7_openSeconds_X7_allSeconds : GoodIn wsX7_openSeconds (wsV RX7 43 RX7 yX7_allSeconds wsX7_allSeconds) := goodIn_app (goodIn_of _ (by decide +kernel)) ggX7_openSeconds_X7_allSeconds
theorem dX7_openSeconds_0 : decode cX7_openSeconds 0 = .ok (.aload_n 0, 1) := by decide +kernel
theorem dX7_openSeconds_1 : decode cX7_openSeconds 1 = .ok (.getfield 9, 3) := by decide +kernel
theorem dX7_openSeconds_4 : decode cX7_openSeconds 4 = .ok (.ifCond .gt 5, 3) := by decide +kernel
theorem dX7_openSeconds_7 : decode cX7_openSeconds 7 = .ok (.lconst 0, 1) := by decide +kernel
theorem dX7_openSeconds_8 : decode cX7_openSeconds 8 = .ok (.lreturn, 1) := by decide +kernel
theorem dX7_openSeconds_9 : decode cX7_openSeconds 9 = .ok (.aload_n 0, 1) := by decide +kernel
theorem dX7_openSeconds_10 : decode cX7_openSeconds 10 = .ok (.iload_n 1, 1) := by decide +kernel
theorem dX7_openSeconds_11 : decode cX7_openSeconds 11 = .ok (.iconst 0, 1) := by decide +kernel
theorem dX7_openSeconds_12 : decode cX7_openSeconds 12 = .ok (.invokevirtual 51, 3) := by decide +kernel
theorem dX7_openSeconds_15 : decode cX7_openSeconds 15 = .ok (.iload_n 2, 1) := by decide +kernel
theorem dX7_openSeconds_16 : decode cX7_openSeconds 16 = .ok (.isub, 1) := by decide +kernel
theorem dX7_openSeconds_17 : decode cX7_openSeconds 17 = .ok (.aload_n 0, 1) := by decide +kernel
theorem dX7_openSeconds_18 : decode cX7_openSeconds 18 = .ok (.getfield 9, 3) := by decide +kernel
theorem dX7_openSeconds_21 : decode cX7_openSeconds 21 = .ok (.invokestatic 61, 3) := by decide +kernel
theorem dX7_openSeconds_24 : decode cX7_openSeconds 24 = .ok (.istore_n 3, 1) := by decide +kernel
theorem dX7_openSeconds_25 : decode cX7_openSeconds 25 = .ok (.lconst 1, 1) := by decide +kernel
theorem dX7_openSeconds_26 : decode cX7_openSeconds 26 = .ok (.aload_n 0, 1) := by decide +kernel
theorem dX7_openSeconds_27 : decode cX7_openSeconds 27 = .ok (.iload_n 1, 1) := by decide +kernel
theorem dX7_openSeconds_28 : decode cX7_openSeconds 28 = .ok (.iconst 1, 1) := by decide +kernel
theorem dX7_openSeconds_29 : decode cX7_openSeconds 29 = .ok (.invokevirtual 51, 3) := by decide +kernel
theorem dX7_openSeconds_32 : decode cX7_openSeconds 32 = .ok (.lshl, 1) := by decide +kernel
theorem dX7_openSeconds_33 : decode cX7_openSeconds 33 = .ok (.lconst 1, 1) := by decide +kernel
theorem dX7_openSeconds_34 : decode cX7_openSeconds 34 = .ok (.lsub, 1) := by decide +kernel
theorem dX7_openSeconds_35 : decode cX7_openSeconds 35 = .ok (.lstore 4, 2) := by decide +kernel
theorem dX7_openSeconds_37 : decode cX7_openSeconds 37 = .ok (.lload 4, 2) := by decide +kernel
theorem dX7_openSeconds_39 : decode cX7_openSeconds 39 = .ok (.iload_n 3, 1) := by decide +kernel
theorem dX7_openSeconds_40 : decode cX7_openSeconds 40 = .ok (.lshl, 1) := by decide +kernel
theorem dX7_openSeconds_41 : decode cX7_openSeconds 41 = .ok (.lload 4, 2) := by decide +kernel
theorem dX7_openSeconds_43 : decode cX7_openSeconds 43 = .ok (.aload_n 0, 1) := by decide +kernel
theorem dX7_openSeconds_44 : decode cX7_openSeconds 44 = .ok (.getfield 9, 3) := by decide +kernel
theorem dX7_openSeconds_47 : decode cX7_openSeconds 47 = .ok (.iload_n 3, 1) := by decide +kernel
theorem dX7_openSeconds_48 : decode cX7_openSeconds 48 = .ok (.isub, 1) := by decide +kernel
theorem dX7_openSeconds_49 : decode cX7_openSeconds 49 = .ok (.lushr, 1) := by decide +kernel
theorem dX7_openSeconds_50 : decode cX7_openSeconds 50 = .ok (.lor, 1) := by decide +kernel
theorem dX7_openSeconds_51 : decode cX7_openSeconds 51 = .ok (.aload_n 0, 1) := by decide +kernel
theorem dX7_openSeconds_52 : decode cX7_openSeconds 52 = .ok (.invokevirtual 43, 3) := by decide +kernel
theorem dX7_openSeconds_55 : decode cX7_openSeconds 55 = .ok (.land, 1) := by decide +kernel
theorem dX7_openSeconds_56 : decode cX7_openSeconds 56 = .ok (.lreturn, 1) := by decide +kernel
set_option maxRecDepth 20000 in
theorem ggX7_bandsWith_X7_at : GoodIn wsX7_bandsWith wsX7_at := goodIn_r _ [5, 6, 40, 41, 42] (by decide +kernel) (by decide +kernel)
set_option maxRecDepth 20000 in
theorem gX7_bandsWith_X7_at : GoodIn wsX7_bandsWith (wsV RX7 51 RX7 yX7_at wsX7_at) := goodIn_app (goodIn_of _ (by decide +kernel)) ggX7_bandsWith_X7_at
set_option maxRecDepth 20000 in
theorem ggX7_bandsWith_X7_put : GoodIn wsX7_bandsWith wsX7_put := goodIn_r _ [10, 6, 40, 41, 42] (by decide +kernel) (by decide +kernel)
set_option maxRecDepth 20000 in
theorem gX7_bandsWith_X7_put : GoodIn wsX7_bandsWith (wsV RX7 32 RX7 yX7_put wsX7_put) := goodIn_app (goodIn_of _ (by decide +kernel)) ggX7_bandsWith_X7_put
set_option maxRecDepth 20000 in
theorem ggX7_bandsWith_X7_bandOn : GoodIn wsX7_bandsWith wsX7_bandOn := goodIn_r _ [14, 15, 16, 17, 18, 4, 19, 20, 21, 22, 23, 24, 1, 2, 3, 5, 6, 25, 26, 27, 28, 29, 30, 31, 32, 33, 34, 35, 40, 41, 42] (by decide +kernel) (by decide +kernel)
set_option maxRecDepth 20000 in
theorem gX7_bandsWith_X7_bandOn : GoodIn wsX7_bandsWith (wsV RX7 36 RX7 yX7_bandOn wsX7_bandOn) := goodIn_app (goodIn_of _ (by decide +kernel)) ggX7_bandsWith_X7_bandOn
set_option maxRecDepth 20000 in
theorem ggX7_bandsWith_X7_bandBack : GoodIn wsX7_bandsWith wsX7_bandBack := goodIn_r _ [39, 15, 16, 17, 18, 4, 19, 20, 1, 2, 3, 5, 6, 21, 22, 23, 24, 25, 26, 27, 28, 29, 30, 31, 32, 33, 34, 35, 40, 41, 42] (by decide +kernel) (by decide +kernel)
set_option maxRecDepth 20000 in
theorem gX7_bandsWith_X7_bandBack : GoodIn wsX7_bandsWith (wsV RX7 40 RX7 yX7_bandBack wsX7_bandBack) := goodIn_app (goodIn_of _ (by decide +kernel)) ggX7_bandsWith_X7_bandBack
theorem dX7_bandsWith_0 : decode cX7_bandsWith 0 = .ok (.aload_n 0, 1) := by decide +kernel
theorem dX7_bandsWith_1 : decode cX7_bandsWith 1 = .ok (.iload_n 1, 1) := by decide +kernel
theorem dX7_bandsWith_2 : decode cX7_bandsWith 2 = .ok (.iconst 0, 1) := by decide +kernel
theorem dX7_bandsWith_3 : decode cX7_bandsWith 3 = .ok (.invokevirtual 51, 3) := by decide +kernel
theorem dX7_bandsWith_6 : decode cX7_bandsWith 6 = .ok (.istore_n 3, 1) := by decide +kernel
theorem dX7_bandsWith_7 : decode cX7_bandsWith 7 = .ok (.aload_n 0, 1) := by decide +kernel
theorem dX7_bandsWith_8 : decode cX7_bandsWith 8 = .ok (.iload_n 1, 1) := by decide +kernel
theorem dX7_bandsWith_9 : decode cX7_bandsWith 9 = .ok (.iconst 0, 1) := by decide +kernel
theorem dX7_bandsWith_10 : decode cX7_bandsWith 10 = .ok (.iload_n 2, 1) := by decide +kernel
theorem dX7_bandsWith_11 : decode cX7_bandsWith 11 = .ok (.invokevirtual 32, 3) := by decide +kernel
theorem dX7_bandsWith_14 : decode cX7_bandsWith 14 = .ok (.aload_n 0, 1) := by decide +kernel
theorem dX7_bandsWith_15 : decode cX7_bandsWith 15 = .ok (.invokevirtual 36, 3) := by decide +kernel
theorem dX7_bandsWith_18 : decode cX7_bandsWith 18 = .ok (.aload_n 0, 1) := by decide +kernel
theorem dX7_bandsWith_19 : decode cX7_bandsWith 19 = .ok (.invokevirtual 40, 3) := by decide +kernel
theorem dX7_bandsWith_22 : decode cX7_bandsWith 22 = .ok (.iadd, 1) := by decide +kernel
theorem dX7_bandsWith_23 : decode cX7_bandsWith 23 = .ok (.istore 4, 2) := by decide +kernel
theorem dX7_bandsWith_25 : decode cX7_bandsWith 25 = .ok (.aload_n 0, 1) := by decide +kernel
theorem dX7_bandsWith_26 : decode cX7_bandsWith 26 = .ok (.iload_n 1, 1) := by decide +kernel
theorem dX7_bandsWith_27 : decode cX7_bandsWith 27 = .ok (.iconst 0, 1) := by decide +kernel
theorem dX7_bandsWith_28 : decode cX7_bandsWith 28 = .ok (.iload_n 3, 1) := by decide +kernel
theorem dX7_bandsWith_29 : decode cX7_bandsWith 29 = .ok (.invokevirtual 32, 3) := by decide +kernel
theorem dX7_bandsWith_32 : decode cX7_bandsWith 32 = .ok (.iload 4, 2) := by decide +kernel
theorem dX7_bandsWith_34 : decode cX7_bandsWith 34 = .ok (.ireturn, 1) := by decide +kernel
set_option maxRecDepth 20000 in
theorem ggX7_bestOffset_X7_bandsWith : GoodIn wsX7_bestOffset wsX7_bandsWith := goodIn_r _ [6, 7, 8, 9, 5, 10, 11, 12, 13, 14, 15, 16, 17, 18, 19, 20, 21, 22, 23, 24, 1, 25, 26, 27, 28, 29, 30, 31, 32, 33, 34, 35, 36, 37, 38, 39, 40, 41, 42, 43, 44, 45, 46] (by decide +kernel) (by decide +kernel)
set_option maxRecDepth 20000 in
theorem gX7_bestOffset_X7_bandsWith : GoodIn wsX7_bestOffset (wsV RX7 66 RX7 yX7_bandsWith wsX7_bandsWith) := goodIn_app (goodIn_of _ (by decide +kernel)) ggX7_bestOffset_X7_bandsWith
theorem dX7_bestOffset_0 : decode cX7_bestOffset 0 = .ok (.iconst 0, 1) := by decide +kernel
theorem dX7_bestOffset_1 : decode cX7_bestOffset 1 = .ok (.istore_n 2, 1) := by decide +kernel
theorem dX7_bestOffset_2 : decode cX7_bestOffset 2 = .ok (.iconst (-1), 1) := by decide +kernel
theorem dX7_bestOffset_3 : decode cX7_bestOffset 3 = .ok (.istore_n 3, 1) := by decide +kernel
theorem dX7_bestOffset_4 : decode cX7_bestOffset 4 = .ok (.iconst 0, 1) := by decide +kernel
theorem dX7_bestOffset_5 : decode cX7_bestOffset 5 = .ok (.istore 4, 2) := by decide +kernel
theorem dX7_bestOffset_7 : decode cX7_bestOffset 7 = .ok (.iload 4, 2) := by decide +kernel
theorem dX7_bestOffset_9 : decode cX7_bestOffset 9 = .ok (.aload_n 0, 1) := by decide +kernel
theorem dX7_bestOffset_10 : decode cX7_bestOffset 10 = .ok (.getfield 9, 3) := by decide +kernel
theorem dX7_bestOffset_13 : decode cX7_bestOffset 13 = .ok (.if_icmp .ge 30, 3) := by decide +kernel
theorem dX7_bestOffset_16 : decode cX7_bestOffset 16 = .ok (.aload_n 0, 1) := by decide +kernel
theorem dX7_bestOffset_17 : decode cX7_bestOffset 17 = .ok (.iload_n 1, 1) := by decide +kernel
theorem dX7_bestOffset_18 : decode cX7_bestOffset 18 = .ok (.iload 4, 2) := by decide +kernel
theorem dX7_bestOffset_20 : decode cX7_bestOffset 20 = .ok (.invokevirtual 66, 3) := by decide +kernel
theorem dX7_bestOffset_23 : decode cX7_bestOffset 23 = .ok (.istore 5, 2) := by decide +kernel
theorem dX7_bestOffset_25 : decode cX7_bestOffset 25 = .ok (.iload 5, 2) := by decide +kernel
theorem dX7_bestOffset_27 : decode cX7_bestOffset 27 = .ok (.iload_n 3, 1) := by decide +kernel
theorem dX7_bestOffset_28 : decode cX7_bestOffset 28 = .ok (.if_icmp .le 9, 3) := by decide +kernel
theorem dX7_bestOffset_31 : decode cX7_bestOffset 31 = .ok (.iload 4, 2) := by decide +kernel
theorem dX7_bestOffset_33 : decode cX7_bestOffset 33 = .ok (.istore_n 2, 1) := by decide +kernel
theorem dX7_bestOffset_34 : decode cX7_bestOffset 34 = .ok (.iload 5, 2) := by decide +kernel
theorem dX7_bestOffset_36 : decode cX7_bestOffset 36 = .ok (.istore_n 3, 1) := by decide +kernel
theorem dX7_bestOffset_37 : decode cX7_bestOffset 37 = .ok (.iinc 4 1, 3) := by decide +kernel
theorem dX7_bestOffset_40 : decode cX7_bestOffset 40 = .ok (.goto (-33), 3) := by decide +kernel
theorem dX7_bestOffset_43 : decode cX7_bestOffset 43 = .ok (.iload_n 2, 1) := by decide +kernel
theorem dX7_bestOffset_44 : decode cX7_bestOffset 44 = .ok (.ireturn, 1) := by decide +kernel
set_option maxRecDepth 20000 in
theorem ggX7_tuneAll_X7_bestOffset : GoodIn wsX7_tuneAll wsX7_bestOffset := goodIn_r _ [6, 7, 8, 9, 10, 5, 11, 12, 13, 14, 15, 16, 17, 18, 19, 20, 21, 22, 23, 24, 1, 25, 26, 27, 28, 29, 30, 31, 32, 33, 34, 35, 36, 37, 38, 39, 40, 41, 42, 43, 44, 45, 46, 47, 52, 53, 54] (by decide +kernel) (by decide +kernel)
set_option maxRecDepth 20000 in
theorem gX7_tuneAll_X7_bestOffset : GoodIn wsX7_tuneAll (wsV RX7 69 RX7 yX7_bestOffset wsX7_bestOffset) := goodIn_app (goodIn_of _ (by decide +kernel)) ggX7_tuneAll_X7_bestOffset
set_option maxRecDepth 20000 in
theorem ggX7_tuneAll_X7_bandsWith : GoodIn wsX7_tuneAll wsX7_bandsWith := goodIn_r _ [11, 12, 13, 14, 5, 15, 16, 17, 18, 19, 20, 21, 22, 23, 24, 1, 25, 26, 27, 28, 7, 29, 30, 31, 32, 33, 34, 35, 36, 37, 38, 39, 40, 41, 42, 43, 44, 45, 46, 47, 52, 53, 54] (by decide +kernel) (by decide +kernel)
set_option maxRecDepth 20000 in
theorem gX7_tuneAll_X7_bandsWith : GoodIn wsX7_tuneAll (wsV RX7 66 RX7 yX7_bandsWith wsX7_bandsWith) := goodIn_app (goodIn_of _ (by decide +kernel)) ggX7_tuneAll_X7_bandsWith
set_option maxRecDepth 20000 in
theorem ggX7_tuneAll_X7_bothBands : GoodIn wsX7_tuneAll wsX7_bothBands := goodIn_r _ [51, 21, 22, 23, 5, 24, 1, 25, 26, 27, 28, 7, 29, 30, 31, 32, 12, 13, 14, 15, 16, 33, 34, 35, 36, 37, 38, 39, 40, 41, 42, 43, 44, 45, 46, 47, 52, 53, 54] (by decide +kernel) (by decide +kernel)
set_option maxRecDepth 20000 in
theorem gX7_tuneAll_X7_bothBands : GoodIn wsX7_tuneAll (wsV RX7 73 RX7 yX7_bothBands wsX7_bothBands) := goodIn_app (goodIn_of _ (by decide +kernel)) ggX7_tuneAll_X7_bothBands
set_option maxRecDepth 20000 in
theorem ggX7_tuneAll_X7_put : GoodIn wsX7_tuneAll wsX7_put := goodIn_r _ [20, 16, 52, 53, 54] (by decide +kernel) (by decide +kernel)
set_option maxRecDepth 20000 in
theorem gX7_tuneAll_X7_put : GoodIn wsX7_tuneAll (wsV RX7 32 RX7 yX7_put wsX7_put) := goodIn_app (goodIn_of _ (by decide +kernel)) ggX7_tuneAll_X7_put
theorem dX7_tuneAll_0 : decode cX7_tuneAll 0 = .ok (.iconst 0, 1) := by decide +kernel
theorem dX7_tuneAll_1 : decode cX7_tuneAll 1 = .ok (.istore_n 1, 1) := by decide +kernel
theorem dX7_tuneAll_2 : decode cX7_tuneAll 2 = .ok (.iload_n 1, 1) := by decide +kernel
theorem dX7_tuneAll_3 : decode cX7_tuneAll 3 = .ok (.iconst 4, 1) := by decide +kernel
theorem dX7_tuneAll_4 : decode cX7_tuneAll 4 = .ok (.if_icmp .ge 51, 3) := by decide +kernel
theorem dX7_tuneAll_7 : decode cX7_tuneAll 7 = .ok (.iconst 0, 1) := by decide +kernel
theorem dX7_tuneAll_8 : decode cX7_tuneAll 8 = .ok (.istore_n 2, 1) := by decide +kernel
theorem dX7_tuneAll_9 : decode cX7_tuneAll 9 = .ok (.iload_n 2, 1) := by decide +kernel
theorem dX7_tuneAll_10 : decode cX7_tuneAll 10 = .ok (.aload_n 0, 1) := by decide +kernel
theorem dX7_tuneAll_11 : decode cX7_tuneAll 11 = .ok (.getfield 19, 3) := by decide +kernel
theorem dX7_tuneAll_14 : decode cX7_tuneAll 14 = .ok (.if_icmp .ge 35, 3) := by decide +kernel
theorem dX7_tuneAll_17 : decode cX7_tuneAll 17 = .ok (.aload_n 0, 1) := by decide +kernel
theorem dX7_tuneAll_18 : decode cX7_tuneAll 18 = .ok (.iload_n 2, 1) := by decide +kernel
theorem dX7_tuneAll_19 : decode cX7_tuneAll 19 = .ok (.invokevirtual 69, 3) := by decide +kernel
theorem dX7_tuneAll_22 : decode cX7_tuneAll 22 = .ok (.istore_n 3, 1) := by decide +kernel
theorem dX7_tuneAll_23 : decode cX7_tuneAll 23 = .ok (.aload_n 0, 1) := by decide +kernel
theorem dX7_tuneAll_24 : decode cX7_tuneAll 24 = .ok (.iload_n 2, 1) := by decide +kernel
theorem dX7_tuneAll_25 : decode cX7_tuneAll 25 = .ok (.iload_n 3, 1) := by decide +kernel
theorem dX7_tuneAll_26 : decode cX7_tuneAll 26 = .ok (.invokevirtual 66, 3) := by decide +kernel
theorem dX7_tuneAll_29 : decode cX7_tuneAll 29 = .ok (.aload_n 0, 1) := by decide +kernel
theorem dX7_tuneAll_30 : decode cX7_tuneAll 30 = .ok (.invokevirtual 73, 3) := by decide +kernel
theorem dX7_tuneAll_33 : decode cX7_tuneAll 33 = .ok (.if_icmp .le 10, 3) := by decide +kernel
theorem dX7_tuneAll_36 : decode cX7_tuneAll 36 = .ok (.aload_n 0, 1) := by decide +kernel
theorem dX7_tuneAll_37 : decode cX7_tuneAll 37 = .ok (.iload_n 2, 1) := by decide +kernel
theorem dX7_tuneAll_38 : decode cX7_tuneAll 38 = .ok (.iconst 0, 1) := by decide +kernel
theorem dX7_tuneAll_39 : decode cX7_tuneAll 39 = .ok (.iload_n 3, 1) := by decide +kernel
theorem dX7_tuneAll_40 : decode cX7_tuneAll 40 = .ok (.invokevirtual 32, 3) := by decide +kernel
theorem dX7_tuneAll_43 : decode cX7_tuneAll 43 = .ok (.iinc 2 1, 3) := by decide +kernel
theorem dX7_tuneAll_46 : decode cX7_tuneAll 46 = .ok (.goto (-37), 3) := by decide +kernel
theorem dX7_tuneAll_49 : decode cX7_tuneAll 49 = .ok (.iinc 1 1, 3) := by decide +kernel
theorem dX7_tuneAll_52 : decode cX7_tuneAll 52 = .ok (.goto (-50), 3) := by decide +kernel
theorem dX7_tuneAll_55 : decode cX7_tuneAll 55 = .ok (.return_, 1) := by decide +kernel
set_option maxRecDepth 20000 in
theorem ggX8_init_X0_init : GoodIn wsX8_init wsX0_init := goodIn_r _ [19, 20, 2, 3, 21, 22, 23, 24, 25, 26, 27, 28, 29, 30, 31, 32, 33, 13, 14, 34, 35, 36, 37, 38, 39, 40, 41, 42, 43, 44, 45, 46, 47, 48, 49, 50, 51, 52, 53, 54, 55, 56, 57, 58, 59, 60, 61, 62, 63, 64, 65, 66, 67, 68, 69, 70, 71, 72, 73, 74, 75, 76, 77, 111, 112, 113, 114, 115, 116, 117, 84, 85, 86, 87, 88, 89, 90, 91, 92, 93, 94, 95, 96, 97, 98, 99, 118, 119, 120, 121, 122, 123, 124, 125, 126, 127, 128, 129, 108, 109, 110] (by decide +kernel) (by decide +kernel)
set_option maxRecDepth 20000 in
theorem gX8_init_X0_init_n11 : GoodIn wsX8_init (wsX0_init) := ggX8_init_X0_init
set_option maxRecDepth 20000 in
theorem ggX8_init_X7_init : GoodIn wsX8_init wsX7_init := goodIn_r _ [79, 80, 2, 3, 81, 44, 82, 105, 106, 107] (by decide +kernel) (by decide +kernel)
set_option maxRecDepth 20000 in
theorem gX8_init_X7_init_n20 : GoodIn wsX8_init (wsX7_init) := ggX8_init_X7_init
set_option maxRecDepth 20000 in
theorem ggX8_init_X4_init : GoodIn wsX8_init wsX4_init := goodIn_r _ [74, 75, 2, 3, 76, 44, 77, 108, 109, 110] (by decide +kernel) (by decide +kernel)
set_option maxRecDepth 20000 in
theorem gX8_init_X4_init : GoodIn wsX8_init (wsX4_init) := ggX8_init_X4_init
theorem dX8_init_0 : decode cX8_init 0 = .ok (.aload_n 0, 1) := by decide +kernel
theorem dX8_init_1 : decode cX8_init 1 = .ok (.invokespecial 3, 3) := by decide +kernel
theorem dX8_init_4 : decode cX8_init 4 = .ok (.aload_n 0, 1) := by decide +kernel
theorem dX8_init_5 : decode cX8_init 5 = .ok (.new 9, 3) := by decide +kernel
theorem dX8_init_8 : decode cX8_init 8 = .ok (.dup, 1) := by decide +kernel
theorem dX8_init_9 : decode cX8_init 9 = .ok (.invokespecial 11, 3) := by decide +kernel
theorem dX8_init_12 : decode cX8_init 12 = .ok (.putfield 12, 3) := by decide +kernel
theorem dX8_init_15 : decode cX8_init 15 = .ok (.aload_n 0, 1) := by decide +kernel
theorem dX8_init_16 : decode cX8_init 16 = .ok (.new 18, 3) := by decide +kernel
theorem dX8_init_19 : decode cX8_init 19 = .ok (.dup, 1) := by decide +kernel
theorem dX8_init_20 : decode cX8_init 20 = .ok (.invokespecial 20, 3) := by decide +kernel
theorem dX8_init_23 : decode cX8_init 23 = .ok (.putfield 21, 3) := by decide +kernel
theorem dX8_init_26 : decode cX8_init 26 = .ok (.aload_n 0, 1) := by decide +kernel
theorem dX8_init_27 : decode cX8_init 27 = .ok (.new 25, 3) := by decide +kernel
theorem dX8_init_30 : decode cX8_init 30 = .ok (.dup, 1) := by decide +kernel
theorem dX8_init_31 : decode cX8_init 31 = .ok (.bipush 8, 2) := by decide +kernel
theorem dX8_init_33 : decode cX8_init 33 = .ok (.invokespecial 27, 3) := by decide +kernel
theorem dX8_init_36 : decode cX8_init 36 = .ok (.putfield 30, 3) := by decide +kernel
theorem dX8_init_39 : decode cX8_init 39 = .ok (.aload_n 0, 1) := by decide +kernel
theorem dX8_init_40 : decode cX8_init 40 = .ok (.new 25, 3) := by decide +kernel
theorem dX8_init_43 : decode cX8_init 43 = .ok (.dup, 1) := by decide +kernel
theorem dX8_init_44 : decode cX8_init 44 = .ok (.iconst 5, 1) := by decide +kernel
theorem dX8_init_45 : decode cX8_init 45 = .ok (.invokespecial 27, 3) := by decide +kernel
theorem dX8_init_48 : decode cX8_init 48 = .ok (.putfield 34, 3) := by decide +kernel
theorem dX8_init_51 : decode cX8_init 51 = .ok (.aload_n 0, 1) := by decide +kernel
theorem dX8_init_52 : decode cX8_init 52 = .ok (.new 25, 3) := by decide +kernel
theorem dX8_init_55 : decode cX8_init 55 = .ok (.dup, 1) := by decide +kernel
theorem dX8_init_56 : decode cX8_init 56 = .ok (.bipush 8, 2) := by decide +kernel
theorem dX8_init_58 : decode cX8_init 58 = .ok (.invokespecial 27, 3) := by decide +kernel
theorem dX8_init_61 : decode cX8_init 61 = .ok (.putfield 37, 3) := by decide +kernel
theorem dX8_init_64 : decode cX8_init 64 = .ok (.return_, 1) := by decide +kernel
set_option maxRecDepth 20000 in
theorem ggX8_copyFrom_X0_copyFrom : GoodIn wsX8_copyFrom wsX0_copyFrom := goodIn_r _ [10, 11, 12, 13, 14, 15, 16, 17, 18, 19, 20, 21, 22, 23, 24, 25, 26, 27, 28, 29, 30, 31, 32, 33, 34, 35, 36, 37, 38, 39, 40, 41, 42, 43, 44, 45, 46, 47, 48, 49, 50, 51, 52, 53, 54, 55, 56, 57, 58, 59, 60, 61, 62, 63, 64, 65, 66, 67, 68, 69, 70, 71, 72, 73, 74, 75, 76, 77, 78, 94, 95, 96, 97, 98, 99, 100, 101, 102, 103, 104, 105, 106, 107, 108, 109, 110, 111, 112, 113, 114, 115, 116, 117, 118, 119, 120, 121, 122, 123, 124, 125, 126, 127, 128, 129, 130, 131] (by decide +kernel) (by decide +kernel)
set_option maxRecDepth 20000 in
theorem gX8_copyFrom_X0_copyFrom : GoodIn wsX8_copyFrom (wsV RX8 40 RX0 yX0_copyFrom wsX0_copyFrom) := goodIn_app (goodIn_of _ (by decide +kernel)) ggX8_copyFrom_X0_copyFrom
set_option maxRecDepth 20000 in
theorem ggX8_copyFrom_X7_copyFrom : GoodIn wsX8_copyFrom wsX7_copyFrom := goodIn_r _ [83, 84, 85, 86, 87, 36, 37, 38, 132, 133, 134] (by decide +kernel) (by decide +kernel)
set_option maxRecDepth 20000 in
theorem gX8_copyFrom_X7_copyFrom : GoodIn wsX8_copyFrom (wsV RX8 44 RX7 yX7_copyFrom wsX7_copyFrom) := goodIn_app (goodIn_of _ (by decide +kernel)) ggX8_copyFrom_X7_copyFrom
set_option maxRecDepth 20000 in
theorem ggX8_copyFrom_X4_copyFrom : GoodIn wsX8_copyFrom wsX4_copyFrom := goodIn_r _ [71, 72, 73, 74, 75, 76, 77, 78, 36, 37, 38, 129, 130, 131] (by decide +kernel) (by decide +kernel)
set_option maxRecDepth 20000 in
theorem gX8_copyFrom_X4_copyFrom : GoodIn wsX8_copyFrom (wsV RX8 47 RX4 yX4_copyFrom wsX4_copyFrom) := goodIn_app (goodIn_of _ (by decide +kernel)) ggX8_copyFrom_X4_copyFrom
theorem dX8_copyFrom_0 : decode cX8_copyFrom 0 = .ok (.aload_n 0, 1) := by decide +kernel
theorem dX8_copyFrom_1 : decode cX8_copyFrom 1 = .ok (.getfield 12, 3) := by decide +kernel
theorem dX8_copyFrom_4 : decode cX8_copyFrom 4 = .ok (.aload_n 1, 1) := by decide +kernel
theorem dX8_copyFrom_5 : decode cX8_copyFrom 5 = .ok (.getfield 12, 3) := by decide +kernel
theorem dX8_copyFrom_8 : decode cX8_copyFrom 8 = .ok (.invokevirtual 40, 3) := by decide +kernel
theorem dX8_copyFrom_11 : decode cX8_copyFrom 11 = .ok (.aload_n 0, 1) := by decide +kernel
theorem dX8_copyFrom_12 : decode cX8_copyFrom 12 = .ok (.getfield 21, 3) := by decide +kernel
theorem dX8_copyFrom_15 : decode cX8_copyFrom 15 = .ok (.aload_n 1, 1) := by decide +kernel
theorem dX8_copyFrom_16 : decode cX8_copyFrom 16 = .ok (.getfield 21, 3) := by decide +kernel
theorem dX8_copyFrom_19 : decode cX8_copyFrom 19 = .ok (.invokevirtual 44, 3) := by decide +kernel
theorem dX8_copyFrom_22 : decode cX8_copyFrom 22 = .ok (.aload_n 0, 1) := by decide +kernel
theorem dX8_copyFrom_23 : decode cX8_copyFrom 23 = .ok (.getfield 30, 3) := by decide +kernel
theorem dX8_copyFrom_26 : decode cX8_copyFrom 26 = .ok (.aload_n 1, 1) := by decide +kernel
theorem dX8_copyFrom_27 : decode cX8_copyFrom 27 = .ok (.getfield 30, 3) := by decide +kernel
theorem dX8_copyFrom_30 : decode cX8_copyFrom 30 = .ok (.invokevirtual 47, 3) := by decide +kernel
theorem dX8_copyFrom_33 : decode cX8_copyFrom 33 = .ok (.aload_n 0, 1) := by decide +kernel
theorem dX8_copyFrom_34 : decode cX8_copyFrom 34 = .ok (.getfield 34, 3) := by decide +kernel
theorem dX8_copyFrom_37 : decode cX8_copyFrom 37 = .ok (.aload_n 1, 1) := by decide +kernel
theorem dX8_copyFrom_38 : decode cX8_copyFrom 38 = .ok (.getfield 34, 3) := by decide +kernel
theorem dX8_copyFrom_41 : decode cX8_copyFrom 41 = .ok (.invokevirtual 47, 3) := by decide +kernel
theorem dX8_copyFrom_44 : decode cX8_copyFrom 44 = .ok (.aload_n 0, 1) := by decide +kernel
theorem dX8_copyFrom_45 : decode cX8_copyFrom 45 = .ok (.getfield 37, 3) := by decide +kernel
theorem dX8_copyFrom_48 : decode cX8_copyFrom 48 = .ok (.aload_n 1, 1) := by decide +kernel
theorem dX8_copyFrom_49 : decode cX8_copyFrom 49 = .ok (.getfield 37, 3) := by decide +kernel
theorem dX8_copyFrom_52 : decode cX8_copyFrom 52 = .ok (.invokevirtual 47, 3) := by decide +kernel
theorem dX8_copyFrom_55 : decode cX8_copyFrom 55 = .ok (.return_, 1) := by decide +kernel
set_option maxRecDepth 20000 in
theorem ggX8_takersOf_X8_takersByRows : GoodIn wsX8_takersOf wsX8_takersByRows := goodIn_r _ [8, 1, 9, 10, 11, 12, 13, 14, 15, 16, 17, 18, 19, 20, 21, 22, 23, 24, 25, 26, 27, 28, 29, 30, 31, 32, 33, 34, 35, 36, 37, 38, 39, 40, 41, 42, 43, 44, 62, 63, 64, 65, 66, 67, 68, 69, 70, 71, 72, 73, 74, 75, 76, 77, 78, 79, 80, 81, 82, 83, 84, 85, 86, 87, 88, 89, 90, 91, 92] (by decide +kernel) (by decide +kernel)
set_option maxRecDepth 20000 in
theorem gX8_takersOf_X8_takersByRows : GoodIn wsX8_takersOf (wsV RX8 53 RX8 yX8_takersByRows wsX8_takersByRows) := goodIn_app (goodIn_of _ (by decide +kernel)) ggX8_takersOf_X8_takersByRows
set_option maxRecDepth 20000 in
theorem ggX8_takersOf_X0_takersNow : GoodIn wsX8_takersOf wsX0_takersNow := goodIn_r _ [49, 50, 51, 52, 53, 54, 55, 56, 57, 58, 59, 60, 18, 19, 20, 21, 22, 23, 24, 25, 26, 27, 61, 29, 30, 31, 32, 33, 34, 35, 36, 67, 68, 69, 70, 71, 72, 73, 74, 75, 76, 77, 78, 79, 80, 81, 82, 86, 87, 88, 89, 90, 91, 92, 93, 94, 95, 96, 97, 98, 99, 100] (by decide +kernel) (by decide +kernel)
set_option maxRecDepth 20000 in
theorem gX8_takersOf_X0_takersNow : GoodIn wsX8_takersOf (wsV RX8 57 RX0 yX0_takersNow wsX0_takersNow) := goodIn_app (goodIn_of _ (by decide +kernel)) ggX8_takersOf_X0_takersNow
theorem dX8_takersOf_0 : decode cX8_takersOf 0 = .ok (.iload_n 3, 1) := by decide +kernel
theorem dX8_takersOf_1 : decode cX8_takersOf 1 = .ok (.ifCond .ne 27, 3) := by decide +kernel
theorem dX8_takersOf_4 : decode cX8_takersOf 4 = .ok (.aload_n 0, 1) := by decide +kernel
theorem dX8_takersOf_5 : decode cX8_takersOf 5 = .ok (.aload_n 0, 1) := by decide +kernel
theorem dX8_takersOf_6 : decode cX8_takersOf 6 = .ok (.getfield 12, 3) := by decide +kernel
theorem dX8_takersOf_9 : decode cX8_takersOf 9 = .ok (.getfield 50, 3) := by decide +kernel
theorem dX8_takersOf_12 : decode cX8_takersOf 12 = .ok (.iload_n 1, 1) := by decide +kernel
theorem dX8_takersOf_13 : decode cX8_takersOf 13 = .ok (.iload_n 2, 1) := by decide +kernel
theorem dX8_takersOf_14 : decode cX8_takersOf 14 = .ok (.invokevirtual 53, 3) := by decide +kernel
theorem dX8_takersOf_17 : decode cX8_takersOf 17 = .ok (.aload_n 0, 1) := by decide +kernel
theorem dX8_takersOf_18 : decode cX8_takersOf 18 = .ok (.getfield 12, 3) := by decide +kernel
theorem dX8_takersOf_21 : decode cX8_takersOf 21 = .ok (.iload_n 1, 1) := by decide +kernel
theorem dX8_takersOf_22 : decode cX8_takersOf 22 = .ok (.iload_n 2, 1) := by decide +kernel
theorem dX8_takersOf_23 : decode cX8_takersOf 23 = .ok (.invokevirtual 57, 3) := by decide +kernel
theorem dX8_takersOf_26 : decode cX8_takersOf 26 = .ok (.ior, 1) := by decide +kernel
theorem dX8_takersOf_27 : decode cX8_takersOf 27 = .ok (.ireturn, 1) := by decide +kernel
theorem dX8_takersOf_28 : decode cX8_takersOf 28 = .ok (.aload_n 0, 1) := by decide +kernel
theorem dX8_takersOf_29 : decode cX8_takersOf 29 = .ok (.aload_n 0, 1) := by decide +kernel
theorem dX8_takersOf_30 : decode cX8_takersOf 30 = .ok (.getfield 30, 3) := by decide +kernel
theorem dX8_takersOf_33 : decode cX8_takersOf 33 = .ok (.iload_n 1, 1) := by decide +kernel
theorem dX8_takersOf_34 : decode cX8_takersOf 34 = .ok (.iload_n 2, 1) := by decide +kernel
theorem dX8_takersOf_35 : decode cX8_takersOf 35 = .ok (.invokevirtual 53, 3) := by decide +kernel
theorem dX8_takersOf_38 : decode cX8_takersOf 38 = .ok (.ireturn, 1) := by decide +kernel
set_option maxRecDepth 20000 in
theorem ggX8_takersByRows_X4_at : GoodIn wsX8_takersByRows wsX4_at := goodIn_r _ [8, 9, 59, 60, 61] (by decide +kernel) (by decide +kernel)
set_option maxRecDepth 20000 in
theorem gX8_takersByRows_X4_at : GoodIn wsX8_takersByRows (wsV RX8 69 RX4 yX4_at wsX4_at) := goodIn_app (goodIn_of _ (by decide +kernel)) ggX8_takersByRows_X4_at
set_option maxRecDepth 20000 in
theorem ggX8_takersByRows_X1_placeOf : GoodIn wsX8_takersByRows wsX1_placeOf := goodIn_r _ [14, 15, 16, 17, 18, 13, 19, 20, 62, 63, 64, 65, 66, 67, 68] (by decide +kernel) (by decide +kernel)
set_option maxRecDepth 20000 in
theorem gX8_takersByRows_X1_placeOf : GoodIn wsX8_takersByRows (wsV RX8 72 RX1 yX1_placeOf wsX1_placeOf) := goodIn_app (goodIn_of _ (by decide +kernel)) ggX8_takersByRows_X1_placeOf
set_option maxRecDepth 20000 in
theorem ggX8_takersByRows_X1_reaches : GoodIn wsX8_takersByRows wsX1_reaches := goodIn_r _ [24, 25, 26, 27, 13, 28, 29, 62, 63, 64, 65, 66, 67, 68] (by decide +kernel) (by decide +kernel)
set_option maxRecDepth 20000 in
theorem gX8_takersByRows_X1_reaches : GoodIn wsX8_takersByRows (wsV RX8 77 RX1 yX1_reaches wsX1_reaches) := goodIn_app (goodIn_of _ (by decide +kernel)) ggX8_takersByRows_X1_reaches
set_option maxRecDepth 20000 in
theorem ggX8_takersByRows_X1_leaves : GoodIn wsX8_takersByRows wsX1_leaves := goodIn_r _ [33, 34, 35, 36, 13, 37, 29, 25, 26, 27, 28, 62, 63, 64, 65, 66, 67, 68] (by decide +kernel) (by decide +kernel)
set_option maxRecDepth 20000 in
theorem gX8_takersByRows_X1_leaves : GoodIn wsX8_takersByRows (wsV RX8 81 RX1 yX1_leaves wsX1_leaves) := goodIn_app (goodIn_of _ (by decide +kernel)) ggX8_takersByRows_X1_leaves
theorem dX8_takersByRows_0 : decode cX8_takersByRows 0 = .ok (.aload_n 0, 1) := by decide +kernel
theorem dX8_takersByRows_1 : decode cX8_takersByRows 1 = .ok (.getfield 12, 3) := by decide +kernel
theorem dX8_takersByRows_4 : decode cX8_takersByRows 4 = .ok (.getfield 61, 3) := by decide +kernel
theorem dX8_takersByRows_7 : decode cX8_takersByRows 7 = .ok (.astore 4, 2) := by decide +kernel
theorem dX8_takersByRows_9 : decode cX8_takersByRows 9 = .ok (.iconst 0, 1) := by decide +kernel
theorem dX8_takersByRows_10 : decode cX8_takersByRows 10 = .ok (.istore 5, 2) := by decide +kernel
theorem dX8_takersByRows_12 : decode cX8_takersByRows 12 = .ok (.iconst 0, 1) := by decide +kernel
theorem dX8_takersByRows_13 : decode cX8_takersByRows 13 = .ok (.istore 6, 2) := by decide +kernel
theorem dX8_takersByRows_15 : decode cX8_takersByRows 15 = .ok (.iload 6, 2) := by decide +kernel
theorem dX8_takersByRows_17 : decode cX8_takersByRows 17 = .ok (.aload_n 1, 1) := by decide +kernel
theorem dX8_takersByRows_18 : decode cX8_takersByRows 18 = .ok (.getfield 65, 3) := by decide +kernel
theorem dX8_takersByRows_21 : decode cX8_takersByRows 21 = .ok (.if_icmp .ge 84, 3) := by decide +kernel
theorem dX8_takersByRows_24 : decode cX8_takersByRows 24 = .ok (.aload_n 1, 1) := by decide +kernel
theorem dX8_takersByRows_25 : decode cX8_takersByRows 25 = .ok (.iload 6, 2) := by decide +kernel
theorem dX8_takersByRows_27 : decode cX8_takersByRows 27 = .ok (.iconst 0, 1) := by decide +kernel
theorem dX8_takersByRows_28 : decode cX8_takersByRows 28 = .ok (.invokevirtual 69, 3) := by decide +kernel
theorem dX8_takersByRows_31 : decode cX8_takersByRows 31 = .ok (.istore 7, 2) := by decide +kernel
theorem dX8_takersByRows_33 : decode cX8_takersByRows 33 = .ok (.aload 4, 2) := by decide +kernel
theorem dX8_takersByRows_35 : decode cX8_takersByRows 35 = .ok (.iload 7, 2) := by decide +kernel
theorem dX8_takersByRows_37 : decode cX8_takersByRows 37 = .ok (.iload_n 2, 1) := by decide +kernel
theorem dX8_takersByRows_38 : decode cX8_takersByRows 38 = .ok (.invokevirtual 72, 3) := by decide +kernel
theorem dX8_takersByRows_41 : decode cX8_takersByRows 41 = .ok (.istore 8, 2) := by decide +kernel
theorem dX8_takersByRows_43 : decode cX8_takersByRows 43 = .ok (.iload 8, 2) := by decide +kernel
theorem dX8_takersByRows_45 : decode cX8_takersByRows 45 = .ok (.bipush (-5), 2) := by decide +kernel
theorem dX8_takersByRows_47 : decode cX8_takersByRows 47 = .ok (.if_icmp .eq 52, 3) := by decide +kernel
theorem dX8_takersByRows_50 : decode cX8_takersByRows 50 = .ok (.iload_n 3, 1) := by decide +kernel
theorem dX8_takersByRows_51 : decode cX8_takersByRows 51 = .ok (.aload 4, 2) := by decide +kernel
theorem dX8_takersByRows_53 : decode cX8_takersByRows 53 = .ok (.iload 7, 2) := by decide +kernel
theorem dX8_takersByRows_55 : decode cX8_takersByRows 55 = .ok (.iload 8, 2) := by decide +kernel
theorem dX8_takersByRows_57 : decode cX8_takersByRows 57 = .ok (.aload_n 1, 1) := by decide +kernel
theorem dX8_takersByRows_58 : decode cX8_takersByRows 58 = .ok (.iload 6, 2) := by decide +kernel
theorem dX8_takersByRows_60 : decode cX8_takersByRows 60 = .ok (.iconst 1, 1) := by decide +kernel
theorem dX8_takersByRows_61 : decode cX8_takersByRows 61 = .ok (.invokevirtual 69, 3) := by decide +kernel
theorem dX8_takersByRows_64 : decode cX8_takersByRows 64 = .ok (.invokevirtual 77, 3) := by decide +kernel
theorem dX8_takersByRows_67 : decode cX8_takersByRows 67 = .ok (.if_icmp .lt 32, 3) := by decide +kernel
theorem dX8_takersByRows_70 : decode cX8_takersByRows 70 = .ok (.iload_n 3, 1) := by decide +kernel
theorem dX8_takersByRows_71 : decode cX8_takersByRows 71 = .ok (.aload 4, 2) := by decide +kernel
theorem dX8_takersByRows_73 : decode cX8_takersByRows 73 = .ok (.iload 7, 2) := by decide +kernel
theorem dX8_takersByRows_75 : decode cX8_takersByRows 75 = .ok (.iload 8, 2) := by decide +kernel
theorem dX8_takersByRows_77 : decode cX8_takersByRows 77 = .ok (.aload_n 1, 1) := by decide +kernel
theorem dX8_takersByRows_78 : decode cX8_takersByRows 78 = .ok (.iload 6, 2) := by decide +kernel
theorem dX8_takersByRows_80 : decode cX8_takersByRows 80 = .ok (.iconst 2, 1) := by decide +kernel
theorem dX8_takersByRows_81 : decode cX8_takersByRows 81 = .ok (.invokevirtual 69, 3) := by decide +kernel
theorem dX8_takersByRows_84 : decode cX8_takersByRows 84 = .ok (.invokevirtual 81, 3) := by decide +kernel
theorem dX8_takersByRows_87 : decode cX8_takersByRows 87 = .ok (.if_icmp .ge 12, 3) := by decide +kernel
theorem dX8_takersByRows_90 : decode cX8_takersByRows 90 = .ok (.iload 5, 2) := by decide +kernel
theorem dX8_takersByRows_92 : decode cX8_takersByRows 92 = .ok (.iconst 1, 1) := by decide +kernel
theorem dX8_takersByRows_93 : decode cX8_takersByRows 93 = .ok (.iload 7, 2) := by decide +kernel
theorem dX8_takersByRows_95 : decode cX8_takersByRows 95 = .ok (.ishl, 1) := by decide +kernel
theorem dX8_takersByRows_96 : decode cX8_takersByRows 96 = .ok (.ior, 1) := by decide +kernel
theorem dX8_takersByRows_97 : decode cX8_takersByRows 97 = .ok (.istore 5, 2) := by decide +kernel
theorem dX8_takersByRows_99 : decode cX8_takersByRows 99 = .ok (.iinc 6 1, 3) := by decide +kernel
theorem dX8_takersByRows_102 : decode cX8_takersByRows 102 = .ok (.goto (-87), 3) := by decide +kernel
theorem dX8_takersByRows_105 : decode cX8_takersByRows 105 = .ok (.iload 5, 2) := by decide +kernel
theorem dX8_takersByRows_107 : decode cX8_takersByRows 107 = .ok (.ireturn, 1) := by decide +kernel
set_option maxRecDepth 20000 in
theorem ggX8_firstUnproved_X8_areTooNear : GoodIn wsX8_firstUnproved wsX8_areTooNear := goodIn_r _ [7, 8, 9, 1, 10, 11, 12, 13, 14, 15, 16, 17, 18, 19, 20, 21, 22, 23, 24, 6, 25, 26, 27, 28, 29, 30, 31, 32, 33, 34, 35, 36, 40, 41, 42, 43, 44, 45, 46, 47, 48, 49, 50, 51, 52, 53, 54, 55, 37, 38, 39, 56, 57, 58, 59, 60, 61, 62] (by decide +kernel) (by decide +kernel)
set_option maxRecDepth 20000 in
theorem gX8_firstUnproved_X8_areTooNear : GoodIn wsX8_firstUnproved (wsV RX8 84 RX8 yX8_areTooNear wsX8_areTooNear) := goodIn_app (goodIn_of _ (by decide +kernel)) ggX8_firstUnproved_X8_areTooNear
theorem dX8_firstUnproved_0 : decode cX8_firstUnproved 0 = .ok (.iconst 1, 1) := by decide +kernel
theorem dX8_firstUnproved_1 : decode cX8_firstUnproved 1 = .ok (.istore_n 1, 1) := by decide +kernel
theorem dX8_firstUnproved_2 : decode cX8_firstUnproved 2 = .ok (.iload_n 1, 1) := by decide +kernel
theorem dX8_firstUnproved_3 : decode cX8_firstUnproved 3 = .ok (.aload_n 0, 1) := by decide +kernel
theorem dX8_firstUnproved_4 : decode cX8_firstUnproved 4 = .ok (.getfield 30, 3) := by decide +kernel
theorem dX8_firstUnproved_7 : decode cX8_firstUnproved 7 = .ok (.getfield 65, 3) := by decide +kernel
theorem dX8_firstUnproved_10 : decode cX8_firstUnproved 10 = .ok (.if_icmp .ge 33, 3) := by decide +kernel
theorem dX8_firstUnproved_13 : decode cX8_firstUnproved 13 = .ok (.iconst 0, 1) := by decide +kernel
theorem dX8_firstUnproved_14 : decode cX8_firstUnproved 14 = .ok (.istore_n 2, 1) := by decide +kernel
theorem dX8_firstUnproved_15 : decode cX8_firstUnproved 15 = .ok (.iload_n 2, 1) := by decide +kernel
theorem dX8_firstUnproved_16 : decode cX8_firstUnproved 16 = .ok (.iload_n 1, 1) := by decide +kernel
theorem dX8_firstUnproved_17 : decode cX8_firstUnproved 17 = .ok (.if_icmp .ge 20, 3) := by decide +kernel
theorem dX8_firstUnproved_20 : decode cX8_firstUnproved 20 = .ok (.aload_n 0, 1) := by decide +kernel
theorem dX8_firstUnproved_21 : decode cX8_firstUnproved 21 = .ok (.iload_n 1, 1) := by decide +kernel
theorem dX8_firstUnproved_22 : decode cX8_firstUnproved 22 = .ok (.iload_n 2, 1) := by decide +kernel
theorem dX8_firstUnproved_23 : decode cX8_firstUnproved 23 = .ok (.invokevirtual 84, 3) := by decide +kernel
theorem dX8_firstUnproved_26 : decode cX8_firstUnproved 26 = .ok (.ifCond .eq 5, 3) := by decide +kernel
theorem dX8_firstUnproved_29 : decode cX8_firstUnproved 29 = .ok (.iload_n 1, 1) := by decide +kernel
theorem dX8_firstUnproved_30 : decode cX8_firstUnproved 30 = .ok (.ireturn, 1) := by decide +kernel
theorem dX8_firstUnproved_31 : decode cX8_firstUnproved 31 = .ok (.iinc 2 1, 3) := by decide +kernel
theorem dX8_firstUnproved_34 : decode cX8_firstUnproved 34 = .ok (.goto (-19), 3) := by decide +kernel
theorem dX8_firstUnproved_37 : decode cX8_firstUnproved 37 = .ok (.iinc 1 1, 3) := by decide +kernel
theorem dX8_firstUnproved_40 : decode cX8_firstUnproved 40 = .ok (.goto (-38), 3) := by decide +kernel
theorem dX8_firstUnproved_43 : decode cX8_firstUnproved 43 = .ok (.bipush (-5), 2) := by decide +kernel
theorem dX8_firstUnproved_45 : decode cX8_firstUnproved 45 = .ok (.ireturn, 1) := by decide +kernel
set_option maxRecDepth 20000 in
theorem ggX8_areTooNear_X4_at : GoodIn wsX8_areTooNear wsX4_at := goodIn_r _ [8, 9, 48, 49, 50] (by decide +kernel) (by decide +kernel)
set_option maxRecDepth 20000 in
theorem gX8_areTooNear_X4_at : GoodIn wsX8_areTooNear (wsV RX8 69 RX4 yX4_at wsX4_at) := goodIn_app (goodIn_of _ (by decide +kernel)) ggX8_areTooNear_X4_at
set_option maxRecDepth 20000 in
theorem ggX8_areTooNear_X1_meet : GoodIn wsX8_areTooNear wsX1_meet := goodIn_r _ [14, 15, 51, 52, 53, 54, 55, 56, 57] (by decide +kernel) (by decide +kernel)
set_option maxRecDepth 20000 in
theorem gX8_areTooNear_X1_meet : GoodIn wsX8_areTooNear (wsV RX8 88 RX1 yX1_meet wsX1_meet) := goodIn_app (goodIn_of _ (by decide +kernel)) ggX8_areTooNear_X1_meet
set_option maxRecDepth 20000 in
theorem ggX8_areTooNear_X8_isClearBehind : GoodIn wsX8_areTooNear wsX8_isClearBehind := goodIn_r _ [20, 1, 2, 3, 4, 5, 6, 7, 8, 9, 21, 22, 23, 13, 24, 25, 26, 27, 28, 29, 30, 31, 32, 33, 34, 35, 36, 37, 38, 39, 40, 41, 42, 43, 44, 45, 46, 47, 48, 49, 50, 51, 52, 53, 54, 55, 56, 57] (by decide +kernel) (by decide +kernel)
set_option maxRecDepth 20000 in
theorem gX8_areTooNear_X8_isClearBehind : GoodIn wsX8_areTooNear (wsV RX8 91 RX8 yX8_isClearBehind wsX8_isClearBehind) := goodIn_app (goodIn_of _ (by decide +kernel)) ggX8_areTooNear_X8_isClearBehind
theorem dX8_areTooNear_0 : decode cX8_areTooNear 0 = .ok (.aload_n 0, 1) := by decide +kernel
theorem dX8_areTooNear_1 : decode cX8_areTooNear 1 = .ok (.getfield 12, 3) := by decide +kernel
theorem dX8_areTooNear_4 : decode cX8_areTooNear 4 = .ok (.getfield 61, 3) := by decide +kernel
theorem dX8_areTooNear_7 : decode cX8_areTooNear 7 = .ok (.aload_n 0, 1) := by decide +kernel
theorem dX8_areTooNear_8 : decode cX8_areTooNear 8 = .ok (.getfield 30, 3) := by decide +kernel
theorem dX8_areTooNear_11 : decode cX8_areTooNear 11 = .ok (.iload_n 1, 1) := by decide +kernel
theorem dX8_areTooNear_12 : decode cX8_areTooNear 12 = .ok (.iconst 0, 1) := by decide +kernel
theorem dX8_areTooNear_13 : decode cX8_areTooNear 13 = .ok (.invokevirtual 69, 3) := by decide +kernel
theorem dX8_areTooNear_16 : decode cX8_areTooNear 16 = .ok (.aload_n 0, 1) := by decide +kernel
theorem dX8_areTooNear_17 : decode cX8_areTooNear 17 = .ok (.getfield 30, 3) := by decide +kernel
theorem dX8_areTooNear_20 : decode cX8_areTooNear 20 = .ok (.iload_n 2, 1) := by decide +kernel
theorem dX8_areTooNear_21 : decode cX8_areTooNear 21 = .ok (.iconst 0, 1) := by decide +kernel
theorem dX8_areTooNear_22 : decode cX8_areTooNear 22 = .ok (.invokevirtual 69, 3) := by decide +kernel
theorem dX8_areTooNear_25 : decode cX8_areTooNear 25 = .ok (.invokevirtual 88, 3) := by decide +kernel
theorem dX8_areTooNear_28 : decode cX8_areTooNear 28 = .ok (.istore_n 3, 1) := by decide +kernel
theorem dX8_areTooNear_29 : decode cX8_areTooNear 29 = .ok (.iload_n 3, 1) := by decide +kernel
theorem dX8_areTooNear_30 : decode cX8_areTooNear 30 = .ok (.ifCond .eq 25, 3) := by decide +kernel
theorem dX8_areTooNear_33 : decode cX8_areTooNear 33 = .ok (.aload_n 0, 1) := by decide +kernel
theorem dX8_areTooNear_34 : decode cX8_areTooNear 34 = .ok (.iload_n 1, 1) := by decide +kernel
theorem dX8_areTooNear_35 : decode cX8_areTooNear 35 = .ok (.iload_n 2, 1) := by decide +kernel
theorem dX8_areTooNear_36 : decode cX8_areTooNear 36 = .ok (.invokevirtual 91, 3) := by decide +kernel
theorem dX8_areTooNear_39 : decode cX8_areTooNear 39 = .ok (.ifCond .ne 16, 3) := by decide +kernel
theorem dX8_areTooNear_42 : decode cX8_areTooNear 42 = .ok (.aload_n 0, 1) := by decide +kernel
theorem dX8_areTooNear_43 : decode cX8_areTooNear 43 = .ok (.iload_n 2, 1) := by decide +kernel
theorem dX8_areTooNear_44 : decode cX8_areTooNear 44 = .ok (.iload_n 1, 1) := by decide +kernel
theorem dX8_areTooNear_45 : decode cX8_areTooNear 45 = .ok (.invokevirtual 91, 3) := by decide +kernel
theorem dX8_areTooNear_48 : decode cX8_areTooNear 48 = .ok (.ifCond .ne 7, 3) := by decide +kernel
theorem dX8_areTooNear_51 : decode cX8_areTooNear 51 = .ok (.iconst 1, 1) := by decide +kernel
theorem dX8_areTooNear_52 : decode cX8_areTooNear 52 = .ok (.goto 4, 3) := by decide +kernel
theorem dX8_areTooNear_55 : decode cX8_areTooNear 55 = .ok (.iconst 0, 1) := by decide +kernel
theorem dX8_areTooNear_56 : decode cX8_areTooNear 56 = .ok (.ireturn, 1) := by decide +kernel
set_option maxRecDepth 20000 in
theorem ggX8_isClearBehind_X4_at : GoodIn wsX8_isClearBehind wsX4_at := goodIn_r _ [8, 9, 38, 39, 40] (by decide +kernel) (by decide +kernel)
set_option maxRecDepth 20000 in
theorem gX8_isClearBehind_X4_at : GoodIn wsX8_isClearBehind (wsV RX8 69 RX4 yX4_at wsX4_at) := goodIn_app (goodIn_of _ (by decide +kernel)) ggX8_isClearBehind_X4_at
set_option maxRecDepth 20000 in
theorem ggX8_isClearBehind_X1_clearOf : GoodIn wsX8_isClearBehind wsX1_clearOf := goodIn_r _ [14, 15, 16, 41, 42, 43, 44, 45, 46, 47] (by decide +kernel) (by decide +kernel)
set_option maxRecDepth 20000 in
theorem gX8_isClearBehind_X1_clearOf : GoodIn wsX8_isClearBehind (wsV RX8 94 RX1 yX1_clearOf wsX1_clearOf) := goodIn_app (goodIn_of _ (by decide +kernel)) ggX8_isClearBehind_X1_clearOf
theorem dX8_isClearBehind_0 : decode cX8_isClearBehind 0 = .ok (.aload_n 0, 1) := by decide +kernel
theorem dX8_isClearBehind_1 : decode cX8_isClearBehind 1 = .ok (.getfield 12, 3) := by decide +kernel
theorem dX8_isClearBehind_4 : decode cX8_isClearBehind 4 = .ok (.getfield 61, 3) := by decide +kernel
theorem dX8_isClearBehind_7 : decode cX8_isClearBehind 7 = .ok (.aload_n 0, 1) := by decide +kernel
theorem dX8_isClearBehind_8 : decode cX8_isClearBehind 8 = .ok (.getfield 30, 3) := by decide +kernel
theorem dX8_isClearBehind_11 : decode cX8_isClearBehind 11 = .ok (.iload_n 2, 1) := by decide +kernel
theorem dX8_isClearBehind_12 : decode cX8_isClearBehind 12 = .ok (.iconst 0, 1) := by decide +kernel
theorem dX8_isClearBehind_13 : decode cX8_isClearBehind 13 = .ok (.invokevirtual 69, 3) := by decide +kernel
theorem dX8_isClearBehind_16 : decode cX8_isClearBehind 16 = .ok (.aload_n 0, 1) := by decide +kernel
theorem dX8_isClearBehind_17 : decode cX8_isClearBehind 17 = .ok (.getfield 30, 3) := by decide +kernel
theorem dX8_isClearBehind_20 : decode cX8_isClearBehind 20 = .ok (.iload_n 1, 1) := by decide +kernel
theorem dX8_isClearBehind_21 : decode cX8_isClearBehind 21 = .ok (.iconst 0, 1) := by decide +kernel
theorem dX8_isClearBehind_22 : decode cX8_isClearBehind 22 = .ok (.invokevirtual 69, 3) := by decide +kernel
theorem dX8_isClearBehind_25 : decode cX8_isClearBehind 25 = .ok (.invokevirtual 94, 3) := by decide +kernel
theorem dX8_isClearBehind_28 : decode cX8_isClearBehind 28 = .ok (.istore_n 3, 1) := by decide +kernel
theorem dX8_isClearBehind_29 : decode cX8_isClearBehind 29 = .ok (.aload_n 0, 1) := by decide +kernel
theorem dX8_isClearBehind_30 : decode cX8_isClearBehind 30 = .ok (.getfield 30, 3) := by decide +kernel
theorem dX8_isClearBehind_33 : decode cX8_isClearBehind 33 = .ok (.iload_n 1, 1) := by decide +kernel
theorem dX8_isClearBehind_34 : decode cX8_isClearBehind 34 = .ok (.iconst 1, 1) := by decide +kernel
theorem dX8_isClearBehind_35 : decode cX8_isClearBehind 35 = .ok (.invokevirtual 69, 3) := by decide +kernel
theorem dX8_isClearBehind_38 : decode cX8_isClearBehind 38 = .ok (.aload_n 0, 1) := by decide +kernel
theorem dX8_isClearBehind_39 : decode cX8_isClearBehind 39 = .ok (.getfield 30, 3) := by decide +kernel
theorem dX8_isClearBehind_42 : decode cX8_isClearBehind 42 = .ok (.iload_n 2, 1) := by decide +kernel
theorem dX8_isClearBehind_43 : decode cX8_isClearBehind 43 = .ok (.iconst 2, 1) := by decide +kernel
theorem dX8_isClearBehind_44 : decode cX8_isClearBehind 44 = .ok (.invokevirtual 69, 3) := by decide +kernel
theorem dX8_isClearBehind_47 : decode cX8_isClearBehind 47 = .ok (.isub, 1) := by decide +kernel
theorem dX8_isClearBehind_48 : decode cX8_isClearBehind 48 = .ok (.iload_n 3, 1) := by decide +kernel
theorem dX8_isClearBehind_49 : decode cX8_isClearBehind 49 = .ok (.if_icmp .lt 7, 3) := by decide +kernel
theorem dX8_isClearBehind_52 : decode cX8_isClearBehind 52 = .ok (.iconst 1, 1) := by decide +kernel
theorem dX8_isClearBehind_53 : decode cX8_isClearBehind 53 = .ok (.goto 4, 3) := by decide +kernel
theorem dX8_isClearBehind_56 : decode cX8_isClearBehind 56 = .ok (.iconst 0, 1) := by decide +kernel
theorem dX8_isClearBehind_57 : decode cX8_isClearBehind 57 = .ok (.ireturn, 1) := by decide +kernel
set_option maxRecDepth 20000 in
theorem ggX8_notesThatHold_X4_at : GoodIn wsX8_notesThatHold wsX4_at := goodIn_r _ [7, 8, 14, 15, 16] (by decide +kernel) (by decide +kernel)
set_option maxRecDepth 20000 in
theorem gX8_notesThatHold_X4_at : GoodIn wsX8_notesThatHold (wsV RX8 69 RX4 yX4_at wsX4_at) := goodIn_app (goodIn_of _ (by decide +kernel)) ggX8_notesThatHold_X4_at
theorem dX8_notesThatHold_0 : decode cX8_notesThatHold 0 = .ok (.iconst 0, 1) := by decide +kernel
theorem dX8_notesThatHold_1 : decode cX8_notesThatHold 1 = .ok (.istore_n 3, 1) := by decide +kernel
theorem dX8_notesThatHold_2 : decode cX8_notesThatHold 2 = .ok (.iconst 0, 1) := by decide +kernel
theorem dX8_notesThatHold_3 : decode cX8_notesThatHold 3 = .ok (.istore 4, 2) := by decide +kernel
theorem dX8_notesThatHold_5 : decode cX8_notesThatHold 5 = .ok (.iload 4, 2) := by decide +kernel
theorem dX8_notesThatHold_7 : decode cX8_notesThatHold 7 = .ok (.aload_n 0, 1) := by decide +kernel
theorem dX8_notesThatHold_8 : decode cX8_notesThatHold 8 = .ok (.getfield 34, 3) := by decide +kernel
theorem dX8_notesThatHold_11 : decode cX8_notesThatHold 11 = .ok (.getfield 65, 3) := by decide +kernel
theorem dX8_notesThatHold_14 : decode cX8_notesThatHold 14 = .ok (.if_icmp .ge 40, 3) := by decide +kernel
theorem dX8_notesThatHold_17 : decode cX8_notesThatHold 17 = .ok (.aload_n 0, 1) := by decide +kernel
theorem dX8_notesThatHold_18 : decode cX8_notesThatHold 18 = .ok (.getfield 34, 3) := by decide +kernel
theorem dX8_notesThatHold_21 : decode cX8_notesThatHold 21 = .ok (.iload 4, 2) := by decide +kernel
theorem dX8_notesThatHold_23 : decode cX8_notesThatHold 23 = .ok (.iconst 0, 1) := by decide +kernel
theorem dX8_notesThatHold_24 : decode cX8_notesThatHold 24 = .ok (.invokevirtual 69, 3) := by decide +kernel
theorem dX8_notesThatHold_27 : decode cX8_notesThatHold 27 = .ok (.iload_n 1, 1) := by decide +kernel
theorem dX8_notesThatHold_28 : decode cX8_notesThatHold 28 = .ok (.if_icmp .ne 20, 3) := by decide +kernel
theorem dX8_notesThatHold_31 : decode cX8_notesThatHold 31 = .ok (.aload_n 0, 1) := by decide +kernel
theorem dX8_notesThatHold_32 : decode cX8_notesThatHold 32 = .ok (.getfield 34, 3) := by decide +kernel
theorem dX8_notesThatHold_35 : decode cX8_notesThatHold 35 = .ok (.iload 4, 2) := by decide +kernel
theorem dX8_notesThatHold_37 : decode cX8_notesThatHold 37 = .ok (.iconst 1, 1) := by decide +kernel
theorem dX8_notesThatHold_38 : decode cX8_notesThatHold 38 = .ok (.invokevirtual 69, 3) := by decide +kernel
theorem dX8_notesThatHold_41 : decode cX8_notesThatHold 41 = .ok (.iload_n 2, 1) := by decide +kernel
theorem dX8_notesThatHold_42 : decode cX8_notesThatHold 42 = .ok (.if_icmp .ne 6, 3) := by decide +kernel
theorem dX8_notesThatHold_45 : decode cX8_notesThatHold 45 = .ok (.iinc 3 1, 3) := by decide +kernel
theorem dX8_notesThatHold_48 : decode cX8_notesThatHold 48 = .ok (.iinc 4 1, 3) := by decide +kernel
theorem dX8_notesThatHold_51 : decode cX8_notesThatHold 51 = .ok (.goto (-46), 3) := by decide +kernel
theorem dX8_notesThatHold_54 : decode cX8_notesThatHold 54 = .ok (.iload_n 3, 1) := by decide +kernel
theorem dX8_notesThatHold_55 : decode cX8_notesThatHold 55 = .ok (.ireturn, 1) := by decide +kernel
set_option maxRecDepth 20000 in
theorem ggX8_plannedSeconds_X4_at : GoodIn wsX8_plannedSeconds wsX4_at := goodIn_r _ [7, 8, 14, 15, 16] (by decide +kernel) (by decide +kernel)
set_option maxRecDepth 20000 in
theorem gX8_plannedSeconds_X4_at : GoodIn wsX8_plannedSeconds (wsV RX8 69 RX4 yX4_at wsX4_at) := goodIn_app (goodIn_of _ (by decide +kernel)) ggX8_plannedSeconds_X4_at
theorem dX8_plannedSeconds_0 : decode cX8_plannedSeconds 0 = .ok (.iconst 0, 1) := by decide +kernel
theorem dX8_plannedSeconds_1 : decode cX8_plannedSeconds 1 = .ok (.istore_n 1, 1) := by decide +kernel
theorem dX8_plannedSeconds_2 : decode cX8_plannedSeconds 2 = .ok (.iconst 0, 1) := by decide +kernel
theorem dX8_plannedSeconds_3 : decode cX8_plannedSeconds 3 = .ok (.istore_n 2, 1) := by decide +kernel
theorem dX8_plannedSeconds_4 : decode cX8_plannedSeconds 4 = .ok (.iload_n 2, 1) := by decide +kernel
theorem dX8_plannedSeconds_5 : decode cX8_plannedSeconds 5 = .ok (.aload_n 0, 1) := by decide +kernel
theorem dX8_plannedSeconds_6 : decode cX8_plannedSeconds 6 = .ok (.getfield 37, 3) := by decide +kernel
theorem dX8_plannedSeconds_9 : decode cX8_plannedSeconds 9 = .ok (.getfield 65, 3) := by decide +kernel
theorem dX8_plannedSeconds_12 : decode cX8_plannedSeconds 12 = .ok (.if_icmp .ge 33, 3) := by decide +kernel
theorem dX8_plannedSeconds_15 : decode cX8_plannedSeconds 15 = .ok (.aload_n 0, 1) := by decide +kernel
theorem dX8_plannedSeconds_16 : decode cX8_plannedSeconds 16 = .ok (.getfield 37, 3) := by decide +kernel
theorem dX8_plannedSeconds_19 : decode cX8_plannedSeconds 19 = .ok (.iload_n 2, 1) := by decide +kernel
theorem dX8_plannedSeconds_20 : decode cX8_plannedSeconds 20 = .ok (.iconst 0, 1) := by decide +kernel
theorem dX8_plannedSeconds_21 : decode cX8_plannedSeconds 21 = .ok (.invokevirtual 69, 3) := by decide +kernel
theorem dX8_plannedSeconds_24 : decode cX8_plannedSeconds 24 = .ok (.ifCond .ne 15, 3) := by decide +kernel
theorem dX8_plannedSeconds_27 : decode cX8_plannedSeconds 27 = .ok (.iload_n 1, 1) := by decide +kernel
theorem dX8_plannedSeconds_28 : decode cX8_plannedSeconds 28 = .ok (.aload_n 0, 1) := by decide +kernel
theorem dX8_plannedSeconds_29 : decode cX8_plannedSeconds 29 = .ok (.getfield 37, 3) := by decide +kernel
theorem dX8_plannedSeconds_32 : decode cX8_plannedSeconds 32 = .ok (.iload_n 2, 1) := by decide +kernel
theorem dX8_plannedSeconds_33 : decode cX8_plannedSeconds 33 = .ok (.iconst 1, 1) := by decide +kernel
theorem dX8_plannedSeconds_34 : decode cX8_plannedSeconds 34 = .ok (.invokevirtual 69, 3) := by decide +kernel
theorem dX8_plannedSeconds_37 : decode cX8_plannedSeconds 37 = .ok (.iadd, 1) := by decide +kernel
theorem dX8_plannedSeconds_38 : decode cX8_plannedSeconds 38 = .ok (.istore_n 1, 1) := by decide +kernel
theorem dX8_plannedSeconds_39 : decode cX8_plannedSeconds 39 = .ok (.iinc 2 1, 3) := by decide +kernel
theorem dX8_plannedSeconds_42 : decode cX8_plannedSeconds 42 = .ok (.goto (-38), 3) := by decide +kernel
theorem dX8_plannedSeconds_45 : decode cX8_plannedSeconds 45 = .ok (.iload_n 1, 1) := by decide +kernel
theorem dX8_plannedSeconds_46 : decode cX8_plannedSeconds 46 = .ok (.ireturn, 1) := by decide +kernel
set_option maxRecDepth 20000 in
theorem ggX9_init_X8_init : GoodIn wsX9_init wsX8_init := goodIn_r _ [32, 33, 2, 3, 34, 10, 11, 35, 36, 37, 38, 39, 40, 41, 42, 43, 44, 45, 46, 47, 48, 49, 50, 51, 52, 53, 54, 55, 56, 57, 58, 59, 60, 61, 62, 63, 64, 65, 66, 67, 68, 69, 70, 71, 72, 73, 74, 75, 76, 77, 78, 79, 80, 81, 82, 83, 84, 85, 86, 87, 88, 89, 90, 91, 92, 93, 94, 95, 96, 97, 98, 99, 100, 101, 102, 103, 104, 105, 106, 107, 108, 109, 110, 111, 143, 144, 145, 146, 147, 148, 149, 150, 151, 152, 153, 154, 155, 156, 157, 158, 126, 127, 128, 129, 130, 171, 172, 173, 174, 175, 176, 177, 178, 179, 180, 181, 182, 183, 184, 185, 186, 187, 188, 189, 190, 191, 192, 193, 194, 195] (by decide +kernel) (by decide +kernel)
set_option maxRecDepth 20000 in
theorem gX9_init_X8_init_n11 : GoodIn wsX9_init (wsX8_init) := ggX9_init_X8_init
set_option maxRecDepth 20000 in
theorem ggX9_init_X0_init : GoodIn wsX9_init wsX0_init := goodIn_r _ [47, 48, 2, 3, 49, 50, 51, 52, 53, 54, 55, 56, 57, 58, 59, 60, 61, 41, 42, 62, 63, 64, 65, 66, 67, 68, 69, 70, 71, 72, 73, 74, 75, 76, 77, 78, 79, 80, 81, 82, 83, 84, 85, 86, 87, 88, 89, 90, 91, 92, 93, 94, 95, 96, 97, 98, 99, 100, 101, 102, 103, 104, 105, 177, 178, 179, 180, 181, 182, 183, 143, 144, 145, 146, 147, 148, 149, 150, 151, 152, 153, 154, 155, 156, 157, 158, 184, 185, 186, 187, 188, 189, 190, 191, 192, 193, 194, 195, 174, 175, 176] (by decide +kernel) (by decide +kernel)
set_option maxRecDepth 20000 in
theorem gX9_init_X0_init_n23 : GoodIn wsX9_init (wsX0_init) := ggX9_init_X0_init
set_option maxRecDepth 20000 in
theorem ggX9_init_X3_init : GoodIn wsX9_init wsX3_init := goodIn_r _ [113, 114, 2, 3, 72, 115, 116, 117, 118, 119, 159, 160, 161, 162, 163, 164, 165, 166, 167] (by decide +kernel) (by decide +kernel)
set_option maxRecDepth 20000 in
theorem gX9_init_X3_init_n54 : GoodIn wsX9_init (wsX3_init) := ggX9_init_X3_init
set_option maxRecDepth 20000 in
theorem ggX9_init_X6_init : GoodIn wsX9_init wsX6_init := goodIn_r _ [121, 122, 2, 3, 123, 124, 125, 168, 169, 170] (by decide +kernel) (by decide +kernel)
set_option maxRecDepth 20000 in
theorem gX9_init_X6_init_n65 : GoodIn wsX9_init (wsX6_init) := ggX9_init_X6_init
theorem dX9_init_0 : decode cX9_init 0 = .ok (.aload_n 0, 1) := by decide +kernel
theorem dX9_init_1 : decode cX9_init 1 = .ok (.invokespecial 3, 3) := by decide +kernel
theorem dX9_init_4 : decode cX9_init 4 = .ok (.aload_n 0, 1) := by decide +kernel
theorem dX9_init_5 : decode cX9_init 5 = .ok (.new 9, 3) := by decide +kernel
theorem dX9_init_8 : decode cX9_init 8 = .ok (.dup, 1) := by decide +kernel
theorem dX9_init_9 : decode cX9_init 9 = .ok (.invokespecial 11, 3) := by decide +kernel
theorem dX9_init_12 : decode cX9_init 12 = .ok (.putfield 12, 3) := by decide +kernel
theorem dX9_init_15 : decode cX9_init 15 = .ok (.aload_n 0, 1) := by decide +kernel
theorem dX9_init_16 : decode cX9_init 16 = .ok (.new 9, 3) := by decide +kernel
theorem dX9_init_19 : decode cX9_init 19 = .ok (.dup, 1) := by decide +kernel
theorem dX9_init_20 : decode cX9_init 20 = .ok (.invokespecial 11, 3) := by decide +kernel
theorem dX9_init_23 : decode cX9_init 23 = .ok (.putfield 18, 3) := by decide +kernel
theorem dX9_init_26 : decode cX9_init 26 = .ok (.aload_n 0, 1) := by decide +kernel
theorem dX9_init_27 : decode cX9_init 27 = .ok (.new 21, 3) := by decide +kernel
theorem dX9_init_30 : decode cX9_init 30 = .ok (.dup, 1) := by decide +kernel
theorem dX9_init_31 : decode cX9_init 31 = .ok (.invokespecial 23, 3) := by decide +kernel
theorem dX9_init_34 : decode cX9_init 34 = .ok (.putfield 24, 3) := by decide +kernel
theorem dX9_init_37 : decode cX9_init 37 = .ok (.aload_n 0, 1) := by decide +kernel
theorem dX9_init_38 : decode cX9_init 38 = .ok (.aload_n 0, 1) := by decide +kernel
theorem dX9_init_39 : decode cX9_init 39 = .ok (.getfield 12, 3) := by decide +kernel
theorem dX9_init_42 : decode cX9_init 42 = .ok (.getfield 28, 3) := by decide +kernel
theorem dX9_init_45 : decode cX9_init 45 = .ok (.putfield 31, 3) := by decide +kernel
theorem dX9_init_48 : decode cX9_init 48 = .ok (.aload_n 0, 1) := by decide +kernel
theorem dX9_init_49 : decode cX9_init 49 = .ok (.aload_n 0, 1) := by decide +kernel
theorem dX9_init_50 : decode cX9_init 50 = .ok (.getfield 31, 3) := by decide +kernel
theorem dX9_init_53 : decode cX9_init 53 = .ok (.getfield 32, 3) := by decide +kernel
theorem dX9_init_56 : decode cX9_init 56 = .ok (.putfield 36, 3) := by decide +kernel
theorem dX9_init_59 : decode cX9_init 59 = .ok (.aload_n 0, 1) := by decide +kernel
theorem dX9_init_60 : decode cX9_init 60 = .ok (.aload_n 0, 1) := by decide +kernel
theorem dX9_init_61 : decode cX9_init 61 = .ok (.getfield 31, 3) := by decide +kernel
theorem dX9_init_64 : decode cX9_init 64 = .ok (.getfield 37, 3) := by decide +kernel
theorem dX9_init_67 : decode cX9_init 67 = .ok (.putfield 41, 3) := by decide +kernel
theorem dX9_init_70 : decode cX9_init 70 = .ok (.aload_n 0, 1) := by decide +kernel
theorem dX9_init_71 : decode cX9_init 71 = .ok (.aload_n 0, 1) := by decide +kernel
theorem dX9_init_72 : decode cX9_init 72 = .ok (.getfield 31, 3) := by decide +kernel
theorem dX9_init_75 : decode cX9_init 75 = .ok (.getfield 42, 3) := by decide +kernel
theorem dX9_init_78 : decode cX9_init 78 = .ok (.putfield 46, 3) := by decide +kernel
theorem dX9_init_81 : decode cX9_init 81 = .ok (.aload_n 0, 1) := by decide +kernel
theorem dX9_init_82 : decode cX9_init 82 = .ok (.aload_n 0, 1) := by decide +kernel
theorem dX9_init_83 : decode cX9_init 83 = .ok (.getfield 12, 3) := by decide +kernel
theorem dX9_init_86 : decode cX9_init 86 = .ok (.getfield 47, 3) := by decide +kernel
theorem dX9_init_89 : decode cX9_init 89 = .ok (.putfield 51, 3) := by decide +kernel
theorem dX9_init_92 : decode cX9_init 92 = .ok (.aload_n 0, 1) := by decide +kernel
theorem dX9_init_93 : decode cX9_init 93 = .ok (.new 52, 3) := by decide +kernel
theorem dX9_init_96 : decode cX9_init 96 = .ok (.dup, 1) := by decide +kernel
theorem dX9_init_97 : decode cX9_init 97 = .ok (.invokespecial 54, 3) := by decide +kernel
theorem dX9_init_100 : decode cX9_init 100 = .ok (.putfield 55, 3) := by decide +kernel
theorem dX9_init_103 : decode cX9_init 103 = .ok (.aload_n 0, 1) := by decide +kernel
theorem dX9_init_104 : decode cX9_init 104 = .ok (.bipush 6, 2) := by decide +kernel
theorem dX9_init_106 : decode cX9_init 106 = .ok (.anewarray 59, 3) := by decide +kernel
theorem dX9_init_109 : decode cX9_init 109 = .ok (.putfield 61, 3) := by decide +kernel
theorem dX9_init_112 : decode cX9_init 112 = .ok (.iconst 0, 1) := by decide +kernel
theorem dX9_init_113 : decode cX9_init 113 = .ok (.istore_n 1, 1) := by decide +kernel
theorem dX9_init_114 : decode cX9_init 114 = .ok (.iload_n 1, 1) := by decide +kernel
theorem dX9_init_115 : decode cX9_init 115 = .ok (.bipush 6, 2) := by decide +kernel
theorem dX9_init_117 : decode cX9_init 117 = .ok (.if_icmp .ge 22, 3) := by decide +kernel
theorem dX9_init_120 : decode cX9_init 120 = .ok (.aload_n 0, 1) := by decide +kernel
theorem dX9_init_121 : decode cX9_init 121 = .ok (.getfield 61, 3) := by decide +kernel
theorem dX9_init_124 : decode cX9_init 124 = .ok (.iload_n 1, 1) := by decide +kernel
theorem dX9_init_125 : decode cX9_init 125 = .ok (.new 59, 3) := by decide +kernel
theorem dX9_init_128 : decode cX9_init 128 = .ok (.dup, 1) := by decide +kernel
theorem dX9_init_129 : decode cX9_init 129 = .ok (.invokespecial 65, 3) := by decide +kernel
theorem dX9_init_132 : decode cX9_init 132 = .ok (.aastore, 1) := by decide +kernel
theorem dX9_init_133 : decode cX9_init 133 = .ok (.iinc 1 1, 3) := by decide +kernel
theorem dX9_init_136 : decode cX9_init 136 = .ok (.goto (-22), 3) := by decide +kernel
theorem dX9_init_139 : decode cX9_init 139 = .ok (.return_, 1) := by decide +kernel
set_option maxRecDepth 20000 in
theorem ggX9_signal_X9_within : GoodIn wsX9_signal wsX9_within := goodIn_r _ [8] (by decide +kernel) (by decide +kernel)
set_option maxRecDepth 20000 in
theorem gX9_signal_X9_within : GoodIn wsX9_signal (va_wsS RX9 66 yX9_within wsX9_within) := goodIn_app (goodIn_of _ (by decide +kernel)) ggX9_signal_X9_within
set_option maxRecDepth 20000 in
theorem ggX9_signal_X1_addSignal : GoodIn wsX9_signal wsX1_addSignal := goodIn_r _ [13, 14, 15, 16, 17, 18, 12, 19, 20, 21, 22, 23, 24, 25, 26, 27, 28, 29, 30, 31, 32, 33, 34, 35, 36, 37, 38, 39, 40, 41, 42, 43, 44, 45, 46, 47, 48, 49, 50, 51, 52, 53, 54, 55, 84, 85, 86, 87, 88, 89, 90] (by decide +kernel) (by decide +kernel)
set_option maxRecDepth 20000 in
theorem gX9_signal_X1_addSignal : GoodIn wsX9_signal (wsV RX9 80 RX1 yX1_addSignal wsX1_addSignal) := goodIn_app (goodIn_of _ (by decide +kernel)) ggX9_signal_X1_addSignal
theorem dX9_signal_0 : decode cX9_signal 0 = .ok (.iload_n 1, 1) := by decide +kernel
theorem dX9_signal_1 : decode cX9_signal 1 = .ok (.iconst 0, 1) := by decide +kernel
theorem dX9_signal_2 : decode cX9_signal 2 = .ok (.iconst 3, 1) := by decide +kernel
theorem dX9_signal_3 : decode cX9_signal 3 = .ok (.invokestatic 66, 3) := by decide +kernel
theorem dX9_signal_6 : decode cX9_signal 6 = .ok (.ifCond .eq 13, 3) := by decide +kernel
theorem dX9_signal_9 : decode cX9_signal 9 = .ok (.iload_n 2, 1) := by decide +kernel
theorem dX9_signal_10 : decode cX9_signal 10 = .ok (.iconst 0, 1) := by decide +kernel
theorem dX9_signal_11 : decode cX9_signal 11 = .ok (.bipush 63, 2) := by decide +kernel
theorem dX9_signal_13 : decode cX9_signal 13 = .ok (.invokestatic 66, 3) := by decide +kernel
theorem dX9_signal_16 : decode cX9_signal 16 = .ok (.ifCond .ne 6, 3) := by decide +kernel
theorem dX9_signal_19 : decode cX9_signal 19 = .ok (.bipush (-2), 2) := by decide +kernel
theorem dX9_signal_21 : decode cX9_signal 21 = .ok (.ireturn, 1) := by decide +kernel
theorem dX9_signal_22 : decode cX9_signal 22 = .ok (.aload_n 0, 1) := by decide +kernel
theorem dX9_signal_23 : decode cX9_signal 23 = .ok (.getfield 31, 3) := by decide +kernel
theorem dX9_signal_26 : decode cX9_signal 26 = .ok (.getfield 70, 3) := by decide +kernel
theorem dX9_signal_29 : decode cX9_signal 29 = .ok (.ifCond .eq 6, 3) := by decide +kernel
theorem dX9_signal_32 : decode cX9_signal 32 = .ok (.bipush (-3), 2) := by decide +kernel
theorem dX9_signal_34 : decode cX9_signal 34 = .ok (.ireturn, 1) := by decide +kernel
theorem dX9_signal_35 : decode cX9_signal 35 = .ok (.aload_n 0, 1) := by decide +kernel
theorem dX9_signal_36 : decode cX9_signal 36 = .ok (.getfield 36, 3) := by decide +kernel
theorem dX9_signal_39 : decode cX9_signal 39 = .ok (.getfield 74, 3) := by decide +kernel
theorem dX9_signal_42 : decode cX9_signal 42 = .ok (.bipush 8, 2) := by decide +kernel
theorem dX9_signal_44 : decode cX9_signal 44 = .ok (.if_icmp .lt 6, 3) := by decide +kernel
theorem dX9_signal_47 : decode cX9_signal 47 = .ok (.bipush (-4), 2) := by decide +kernel
theorem dX9_signal_49 : decode cX9_signal 49 = .ok (.ireturn, 1) := by decide +kernel
theorem dX9_signal_50 : decode cX9_signal 50 = .ok (.aload_n 0, 1) := by decide +kernel
theorem dX9_signal_51 : decode cX9_signal 51 = .ok (.getfield 36, 3) := by decide +kernel
theorem dX9_signal_54 : decode cX9_signal 54 = .ok (.iload_n 1, 1) := by decide +kernel
theorem dX9_signal_55 : decode cX9_signal 55 = .ok (.iload_n 2, 1) := by decide +kernel
theorem dX9_signal_56 : decode cX9_signal 56 = .ok (.invokevirtual 80, 3) := by decide +kernel
theorem dX9_signal_59 : decode cX9_signal 59 = .ok (.ireturn, 1) := by decide +kernel
set_option maxRecDepth 20000 in
theorem ggX9_goes_X9_isSignal : GoodIn wsX9_goes wsX9_isSignal := goodIn_r _ [9, 1, 10, 11, 12, 8, 13, 58, 59, 60, 61, 62, 63, 64, 65, 66, 67, 68, 69, 74, 75, 76, 77, 78, 79, 80] (by decide +kernel) (by decide +kernel)
set_option maxRecDepth 20000 in
theorem gX9_goes_X9_isSignal : GoodIn wsX9_goes (wsV RX9 84 RX9 yX9_isSignal wsX9_isSignal) := goodIn_app (goodIn_of _ (by decide +kernel)) ggX9_goes_X9_isSignal
set_option maxRecDepth 20000 in
theorem ggX9_goes_X9_within : GoodIn wsX9_goes wsX9_within := goodIn_r _ [13] (by decide +kernel) (by decide +kernel)
set_option maxRecDepth 20000 in
theorem gX9_goes_X9_within : GoodIn wsX9_goes (va_wsS RX9 66 yX9_within wsX9_within) := goodIn_app (goodIn_of _ (by decide +kernel)) ggX9_goes_X9_within
set_option maxRecDepth 20000 in
theorem ggX9_goes_X1_placeOf : GoodIn wsX9_goes wsX1_placeOf := goodIn_r _ [18, 19, 20, 21, 22, 17, 23, 24, 74, 75, 76, 77, 78, 79, 80] (by decide +kernel) (by decide +kernel)
set_option maxRecDepth 20000 in
theorem gX9_goes_X1_placeOf : GoodIn wsX9_goes (wsV RX9 88 RX1 yX1_placeOf wsX1_placeOf) := goodIn_app (goodIn_of _ (by decide +kernel)) ggX9_goes_X1_placeOf
set_option maxRecDepth 20000 in
theorem ggX9_goes_X1_addCell : GoodIn wsX9_goes wsX1_addCell := goodIn_r _ [28, 24, 19, 29, 30, 31, 32, 17, 33, 34, 35, 36, 37, 38, 39, 20, 21, 22, 23, 40, 15, 16, 18, 41, 42, 43, 44, 45, 46, 47, 48, 49, 50, 51, 52, 53, 54, 55, 56, 57, 74, 75, 76, 77, 78, 79, 80] (by decide +kernel) (by decide +kernel)
set_option maxRecDepth 20000 in
theorem gX9_goes_X1_addCell : GoodIn wsX9_goes (wsV RX9 98 RX1 yX1_addCell wsX1_addCell) := goodIn_app (goodIn_of _ (by decide +kernel)) ggX9_goes_X1_addCell
theorem dX9_goes_0 : decode cX9_goes 0 = .ok (.aload_n 0, 1) := by decide +kernel
theorem dX9_goes_1 : decode cX9_goes 1 = .ok (.iload_n 1, 1) := by decide +kernel
theorem dX9_goes_2 : decode cX9_goes 2 = .ok (.invokevirtual 84, 3) := by decide +kernel
theorem dX9_goes_5 : decode cX9_goes 5 = .ok (.ifCond .ne 5, 3) := by decide +kernel
theorem dX9_goes_8 : decode cX9_goes 8 = .ok (.iconst (-1), 1) := by decide +kernel
theorem dX9_goes_9 : decode cX9_goes 9 = .ok (.ireturn, 1) := by decide +kernel
theorem dX9_goes_10 : decode cX9_goes 10 = .ok (.iload_n 2, 1) := by decide +kernel
theorem dX9_goes_11 : decode cX9_goes 11 = .ok (.iconst 0, 1) := by decide +kernel
theorem dX9_goes_12 : decode cX9_goes 12 = .ok (.bipush 63, 2) := by decide +kernel
theorem dX9_goes_14 : decode cX9_goes 14 = .ok (.invokestatic 66, 3) := by decide +kernel
theorem dX9_goes_17 : decode cX9_goes 17 = .ok (.ifCond .eq 17, 3) := by decide +kernel
theorem dX9_goes_20 : decode cX9_goes 20 = .ok (.aload_n 0, 1) := by decide +kernel
theorem dX9_goes_21 : decode cX9_goes 21 = .ok (.getfield 36, 3) := by decide +kernel
theorem dX9_goes_24 : decode cX9_goes 24 = .ok (.iload_n 1, 1) := by decide +kernel
theorem dX9_goes_25 : decode cX9_goes 25 = .ok (.iload_n 2, 1) := by decide +kernel
theorem dX9_goes_26 : decode cX9_goes 26 = .ok (.invokevirtual 88, 3) := by decide +kernel
theorem dX9_goes_29 : decode cX9_goes 29 = .ok (.bipush (-5), 2) := by decide +kernel
theorem dX9_goes_31 : decode cX9_goes 31 = .ok (.if_icmp .eq 6, 3) := by decide +kernel
theorem dX9_goes_34 : decode cX9_goes 34 = .ok (.bipush (-2), 2) := by decide +kernel
theorem dX9_goes_36 : decode cX9_goes 36 = .ok (.ireturn, 1) := by decide +kernel
theorem dX9_goes_37 : decode cX9_goes 37 = .ok (.aload_n 0, 1) := by decide +kernel
theorem dX9_goes_38 : decode cX9_goes 38 = .ok (.getfield 46, 3) := by decide +kernel
theorem dX9_goes_41 : decode cX9_goes 41 = .ok (.getfield 91, 3) := by decide +kernel
theorem dX9_goes_44 : decode cX9_goes 44 = .ok (.ifCond .le 6, 3) := by decide +kernel
theorem dX9_goes_47 : decode cX9_goes 47 = .ok (.bipush (-3), 2) := by decide +kernel
theorem dX9_goes_49 : decode cX9_goes 49 = .ok (.ireturn, 1) := by decide +kernel
theorem dX9_goes_50 : decode cX9_goes 50 = .ok (.aload_n 0, 1) := by decide +kernel
theorem dX9_goes_51 : decode cX9_goes 51 = .ok (.getfield 36, 3) := by decide +kernel
theorem dX9_goes_54 : decode cX9_goes 54 = .ok (.getfield 94, 3) := by decide +kernel
theorem dX9_goes_57 : decode cX9_goes 57 = .ok (.iload_n 1, 1) := by decide +kernel
theorem dX9_goes_58 : decode cX9_goes 58 = .ok (.iaload, 1) := by decide +kernel
theorem dX9_goes_59 : decode cX9_goes 59 = .ok (.bipush 8, 2) := by decide +kernel
theorem dX9_goes_61 : decode cX9_goes 61 = .ok (.if_icmp .lt 6, 3) := by decide +kernel
theorem dX9_goes_64 : decode cX9_goes 64 = .ok (.bipush (-4), 2) := by decide +kernel
theorem dX9_goes_66 : decode cX9_goes 66 = .ok (.ireturn, 1) := by decide +kernel
theorem dX9_goes_67 : decode cX9_goes 67 = .ok (.aload_n 0, 1) := by decide +kernel
theorem dX9_goes_68 : decode cX9_goes 68 = .ok (.getfield 36, 3) := by decide +kernel
theorem dX9_goes_71 : decode cX9_goes 71 = .ok (.iload_n 1, 1) := by decide +kernel
theorem dX9_goes_72 : decode cX9_goes 72 = .ok (.iload_n 2, 1) := by decide +kernel
theorem dX9_goes_73 : decode cX9_goes 73 = .ok (.invokevirtual 98, 3) := by decide +kernel
theorem dX9_goes_76 : decode cX9_goes 76 = .ok (.ireturn, 1) := by decide +kernel
set_option maxRecDepth 20000 in
theorem ggX9_tell_X9_isSignal : GoodIn wsX9_tell wsX9_isSignal := goodIn_r _ [7, 8, 9, 10, 11, 6, 12, 32, 33, 34, 35, 36, 37, 38, 39, 40, 41, 42, 43, 52, 53, 54, 55, 56, 57, 58] (by decide +kernel) (by decide +kernel)
set_option maxRecDepth 20000 in
theorem gX9_tell_X9_isSignal : GoodIn wsX9_tell (wsV RX9 84 RX9 yX9_isSignal wsX9_isSignal) := goodIn_app (goodIn_of _ (by decide +kernel)) ggX9_tell_X9_isSignal
set_option maxRecDepth 20000 in
theorem ggX9_tell_X9_within : GoodIn wsX9_tell wsX9_within := goodIn_r _ [12] (by decide +kernel) (by decide +kernel)
set_option maxRecDepth 20000 in
theorem gX9_tell_X9_within : GoodIn wsX9_tell (va_wsS RX9 66 yX9_within wsX9_within) := goodIn_app (goodIn_of _ (by decide +kernel)) ggX9_tell_X9_within
set_option maxRecDepth 20000 in
theorem ggX9_tell_X5_lowest : GoodIn wsX9_tell wsX5_lowest := goodIn_r _ [17, 18, 19, 20, 16, 21, 22, 44, 45, 46, 47, 48, 49, 50, 51] (by decide +kernel) (by decide +kernel)
set_option maxRecDepth 20000 in
theorem gX9_tell_X5_lowest : GoodIn wsX9_tell (wsV RX9 101 RX5 yX5_lowest wsX5_lowest) := goodIn_app (goodIn_of _ (by decide +kernel)) ggX9_tell_X5_lowest
set_option maxRecDepth 20000 in
theorem ggX9_tell_X5_highest : GoodIn wsX9_tell wsX5_highest := goodIn_r _ [26, 27, 28, 29, 30, 18, 19, 20, 16, 21, 22, 44, 45, 46, 47, 48, 49, 50, 51] (by decide +kernel) (by decide +kernel)
set_option maxRecDepth 20000 in
theorem gX9_tell_X5_highest : GoodIn wsX9_tell (wsV RX9 106 RX5 yX5_highest wsX5_highest) := goodIn_app (goodIn_of _ (by decide +kernel)) ggX9_tell_X5_highest
set_option maxRecDepth 20000 in
theorem ggX9_tell_X5_rule : GoodIn wsX9_tell wsX5_rule := goodIn_r _ [21, 22, 44, 45, 46, 47, 48, 49, 50, 51] (by decide +kernel) (by decide +kernel)
set_option maxRecDepth 20000 in
theorem gX9_tell_X5_rule : GoodIn wsX9_tell (wsV RX9 109 RX5 yX5_rule wsX5_rule) := goodIn_app (goodIn_of _ (by decide +kernel)) ggX9_tell_X5_rule
theorem dX9_tell_0 : decode cX9_tell 0 = .ok (.aload_n 0, 1) := by decide +kernel
theorem dX9_tell_1 : decode cX9_tell 1 = .ok (.iload_n 1, 1) := by decide +kernel
theorem dX9_tell_2 : decode cX9_tell 2 = .ok (.invokevirtual 84, 3) := by decide +kernel
theorem dX9_tell_5 : decode cX9_tell 5 = .ok (.ifCond .eq 12, 3) := by decide +kernel
theorem dX9_tell_8 : decode cX9_tell 8 = .ok (.iload_n 2, 1) := by decide +kernel
theorem dX9_tell_9 : decode cX9_tell 9 = .ok (.iconst 0, 1) := by decide +kernel
theorem dX9_tell_10 : decode cX9_tell 10 = .ok (.iconst 3, 1) := by decide +kernel
theorem dX9_tell_11 : decode cX9_tell 11 = .ok (.invokestatic 66, 3) := by decide +kernel
theorem dX9_tell_14 : decode cX9_tell 14 = .ok (.ifCond .ne 5, 3) := by decide +kernel
theorem dX9_tell_17 : decode cX9_tell 17 = .ok (.iconst (-1), 1) := by decide +kernel
theorem dX9_tell_18 : decode cX9_tell 18 = .ok (.ireturn, 1) := by decide +kernel
theorem dX9_tell_19 : decode cX9_tell 19 = .ok (.iload_n 3, 1) := by decide +kernel
theorem dX9_tell_20 : decode cX9_tell 20 = .ok (.aload_n 0, 1) := by decide +kernel
theorem dX9_tell_21 : decode cX9_tell 21 = .ok (.getfield 41, 3) := by decide +kernel
theorem dX9_tell_24 : decode cX9_tell 24 = .ok (.iload_n 1, 1) := by decide +kernel
theorem dX9_tell_25 : decode cX9_tell 25 = .ok (.iload_n 2, 1) := by decide +kernel
theorem dX9_tell_26 : decode cX9_tell 26 = .ok (.invokevirtual 101, 3) := by decide +kernel
theorem dX9_tell_29 : decode cX9_tell 29 = .ok (.aload_n 0, 1) := by decide +kernel
theorem dX9_tell_30 : decode cX9_tell 30 = .ok (.getfield 41, 3) := by decide +kernel
theorem dX9_tell_33 : decode cX9_tell 33 = .ok (.iload_n 1, 1) := by decide +kernel
theorem dX9_tell_34 : decode cX9_tell 34 = .ok (.iload_n 2, 1) := by decide +kernel
theorem dX9_tell_35 : decode cX9_tell 35 = .ok (.invokevirtual 106, 3) := by decide +kernel
theorem dX9_tell_38 : decode cX9_tell 38 = .ok (.invokestatic 66, 3) := by decide +kernel
theorem dX9_tell_41 : decode cX9_tell 41 = .ok (.ifCond .ne 6, 3) := by decide +kernel
theorem dX9_tell_44 : decode cX9_tell 44 = .ok (.bipush (-2), 2) := by decide +kernel
theorem dX9_tell_46 : decode cX9_tell 46 = .ok (.ireturn, 1) := by decide +kernel
theorem dX9_tell_47 : decode cX9_tell 47 = .ok (.aload_n 0, 1) := by decide +kernel
theorem dX9_tell_48 : decode cX9_tell 48 = .ok (.getfield 41, 3) := by decide +kernel
theorem dX9_tell_51 : decode cX9_tell 51 = .ok (.iload_n 1, 1) := by decide +kernel
theorem dX9_tell_52 : decode cX9_tell 52 = .ok (.iload_n 2, 1) := by decide +kernel
theorem dX9_tell_53 : decode cX9_tell 53 = .ok (.invokevirtual 109, 3) := by decide +kernel
theorem dX9_tell_56 : decode cX9_tell 56 = .ok (.istore 4, 2) := by decide +kernel
theorem dX9_tell_58 : decode cX9_tell 58 = .ok (.aload_n 0, 1) := by decide +kernel
theorem dX9_tell_59 : decode cX9_tell 59 = .ok (.getfield 41, 3) := by decide +kernel
theorem dX9_tell_62 : decode cX9_tell 62 = .ok (.getfield 112, 3) := by decide +kernel
theorem dX9_tell_65 : decode cX9_tell 65 = .ok (.iload_n 1, 1) := by decide +kernel
theorem dX9_tell_66 : decode cX9_tell 66 = .ok (.iconst 4, 1) := by decide +kernel
theorem dX9_tell_67 : decode cX9_tell 67 = .ok (.imul, 1) := by decide +kernel
theorem dX9_tell_68 : decode cX9_tell 68 = .ok (.iload_n 2, 1) := by decide +kernel
theorem dX9_tell_69 : decode cX9_tell 69 = .ok (.iadd, 1) := by decide +kernel
theorem dX9_tell_70 : decode cX9_tell 70 = .ok (.iload_n 3, 1) := by decide +kernel
theorem dX9_tell_71 : decode cX9_tell 71 = .ok (.iastore, 1) := by decide +kernel
theorem dX9_tell_72 : decode cX9_tell 72 = .ok (.iload 4, 2) := by decide +kernel
theorem dX9_tell_74 : decode cX9_tell 74 = .ok (.ireturn, 1) := by decide +kernel
set_option maxRecDepth 20000 in
theorem ggX9_feed_X9_within : GoodIn wsX9_feed wsX9_within := goodIn_r _ [6] (by decide +kernel) (by decide +kernel)
set_option maxRecDepth 20000 in
theorem gX9_feed_X9_within : GoodIn wsX9_feed (va_wsS RX9 66 yX9_within wsX9_within) := goodIn_app (goodIn_of _ (by decide +kernel)) ggX9_feed_X9_within
set_option maxRecDepth 20000 in
theorem ggX9_feed_X3_append : GoodIn wsX9_feed wsX3_append := goodIn_r _ [11, 12, 13, 26, 27, 28, 29, 30, 31, 32, 33, 34] (by decide +kernel) (by decide +kernel)
set_option maxRecDepth 20000 in
theorem gX9_feed_X3_append : GoodIn wsX9_feed (wsV RX9 118 RX3 yX3_append wsX3_append) := goodIn_app (goodIn_of _ (by decide +kernel)) ggX9_feed_X3_append
theorem dX9_feed_0 : decode cX9_feed 0 = .ok (.iload_n 1, 1) := by decide +kernel
theorem dX9_feed_1 : decode cX9_feed 1 = .ok (.iconst 0, 1) := by decide +kernel
theorem dX9_feed_2 : decode cX9_feed 2 = .ok (.bipush 127, 2) := by decide +kernel
theorem dX9_feed_4 : decode cX9_feed 4 = .ok (.invokestatic 66, 3) := by decide +kernel
theorem dX9_feed_7 : decode cX9_feed 7 = .ok (.ifCond .ne 6, 3) := by decide +kernel
theorem dX9_feed_10 : decode cX9_feed 10 = .ok (.bipush (-2), 2) := by decide +kernel
theorem dX9_feed_12 : decode cX9_feed 12 = .ok (.ireturn, 1) := by decide +kernel
theorem dX9_feed_13 : decode cX9_feed 13 = .ok (.aload_n 0, 1) := by decide +kernel
theorem dX9_feed_14 : decode cX9_feed 14 = .ok (.getfield 55, 3) := by decide +kernel
theorem dX9_feed_17 : decode cX9_feed 17 = .ok (.getfield 115, 3) := by decide +kernel
theorem dX9_feed_20 : decode cX9_feed 20 = .ok (.bipush 100, 2) := by decide +kernel
theorem dX9_feed_22 : decode cX9_feed 22 = .ok (.if_icmp .lt 6, 3) := by decide +kernel
theorem dX9_feed_25 : decode cX9_feed 25 = .ok (.bipush (-4), 2) := by decide +kernel
theorem dX9_feed_27 : decode cX9_feed 27 = .ok (.ireturn, 1) := by decide +kernel
theorem dX9_feed_28 : decode cX9_feed 28 = .ok (.aload_n 0, 1) := by decide +kernel
theorem dX9_feed_29 : decode cX9_feed 29 = .ok (.getfield 55, 3) := by decide +kernel
theorem dX9_feed_32 : decode cX9_feed 32 = .ok (.iload_n 1, 1) := by decide +kernel
theorem dX9_feed_33 : decode cX9_feed 33 = .ok (.invokevirtual 118, 3) := by decide +kernel
theorem dX9_feed_36 : decode cX9_feed 36 = .ok (.ireturn, 1) := by decide +kernel
set_option maxRecDepth 20000 in
theorem ggX9_read_X3_parse : GoodIn wsX9_read wsX3_parse := goodIn_r _ [13, 14, 15, 16, 17, 18, 19, 12, 20, 21, 22, 23, 24, 25, 26, 27, 28, 29, 30, 31, 32, 33, 34, 35, 36, 37, 38, 39, 40, 41, 42, 43, 44, 45, 46, 47, 48, 49, 50, 51, 52, 53, 54, 55, 56, 143, 144, 145, 146, 147, 148, 149, 150, 151] (by decide +kernel) (by decide +kernel)
set_option maxRecDepth 20000 in
theorem gX9_read_X3_parse : GoodIn wsX9_read (wsV RX9 122 RX3 yX3_parse wsX3_parse) := goodIn_app (goodIn_of _ (by decide +kernel)) ggX9_read_X3_parse
set_option maxRecDepth 20000 in
theorem ggX9_read_X9_bringClause : GoodIn wsX9_read wsX9_bringClause := goodIn_r _ [60, 6, 3, 61, 62, 63, 64, 65, 66, 67, 68, 69, 70, 71, 72, 73, 74, 75, 76, 77, 78, 79, 80, 81, 82, 83, 84, 85, 86, 87, 88, 89, 90, 91, 92, 93, 94, 95, 96, 97, 98, 99, 100, 101, 102, 103, 104, 105, 106, 107, 108, 109, 110, 111, 112, 113, 114, 115, 116, 117, 118, 119, 120, 121, 122, 123, 124, 125, 126, 143, 144, 145, 146, 147, 148, 149, 150, 151, 159, 160, 161, 162, 163, 164, 165, 166, 152, 153, 154, 155, 156, 157, 158] (by decide +kernel) (by decide +kernel)
set_option maxRecDepth 20000 in
theorem gX9_read_X9_bringClause : GoodIn wsX9_read (wsV RX9 132 RX9 yX9_bringClause wsX9_bringClause) := goodIn_app (goodIn_of _ (by decide +kernel)) ggX9_read_X9_bringClause
theorem dX9_read_0 : decode cX9_read 0 = .ok (.aload_n 0, 1) := by decide +kernel
theorem dX9_read_1 : decode cX9_read 1 = .ok (.getfield 31, 3) := by decide +kernel
theorem dX9_read_4 : decode cX9_read 4 = .ok (.getfield 70, 3) := by decide +kernel
theorem dX9_read_7 : decode cX9_read 7 = .ok (.ifCond .ne 17, 3) := by decide +kernel
theorem dX9_read_10 : decode cX9_read 10 = .ok (.aload_n 0, 1) := by decide +kernel
theorem dX9_read_11 : decode cX9_read 11 = .ok (.getfield 55, 3) := by decide +kernel
theorem dX9_read_14 : decode cX9_read 14 = .ok (.invokevirtual 122, 3) := by decide +kernel
theorem dX9_read_17 : decode cX9_read 17 = .ok (.ifCond .eq 7, 3) := by decide +kernel
theorem dX9_read_20 : decode cX9_read 20 = .ok (.iconst 1, 1) := by decide +kernel
theorem dX9_read_21 : decode cX9_read 21 = .ok (.goto 4, 3) := by decide +kernel
theorem dX9_read_24 : decode cX9_read 24 = .ok (.iconst 0, 1) := by decide +kernel
theorem dX9_read_25 : decode cX9_read 25 = .ok (.istore_n 1, 1) := by decide +kernel
theorem dX9_read_26 : decode cX9_read 26 = .ok (.aload_n 0, 1) := by decide +kernel
theorem dX9_read_27 : decode cX9_read 27 = .ok (.getfield 55, 3) := by decide +kernel
theorem dX9_read_30 : decode cX9_read 30 = .ok (.iconst 0, 1) := by decide +kernel
theorem dX9_read_31 : decode cX9_read 31 = .ok (.putfield 115, 3) := by decide +kernel
theorem dX9_read_34 : decode cX9_read 34 = .ok (.aload_n 0, 1) := by decide +kernel
theorem dX9_read_35 : decode cX9_read 35 = .ok (.getfield 31, 3) := by decide +kernel
theorem dX9_read_38 : decode cX9_read 38 = .ok (.getfield 70, 3) := by decide +kernel
theorem dX9_read_41 : decode cX9_read 41 = .ok (.ifCond .eq 6, 3) := by decide +kernel
theorem dX9_read_44 : decode cX9_read 44 = .ok (.bipush (-3), 2) := by decide +kernel
theorem dX9_read_46 : decode cX9_read 46 = .ok (.ireturn, 1) := by decide +kernel
theorem dX9_read_47 : decode cX9_read 47 = .ok (.iload_n 1, 1) := by decide +kernel
theorem dX9_read_48 : decode cX9_read 48 = .ok (.ifCond .ne 14, 3) := by decide +kernel
theorem dX9_read_51 : decode cX9_read 51 = .ok (.bipush (-10), 2) := by decide +kernel
theorem dX9_read_53 : decode cX9_read 53 = .ok (.aload_n 0, 1) := by decide +kernel
theorem dX9_read_54 : decode cX9_read 54 = .ok (.getfield 55, 3) := by decide +kernel
theorem dX9_read_57 : decode cX9_read 57 = .ok (.getfield 126, 3) := by decide +kernel
theorem dX9_read_60 : decode cX9_read 60 = .ok (.isub, 1) := by decide +kernel
theorem dX9_read_61 : decode cX9_read 61 = .ok (.ireturn, 1) := by decide +kernel
theorem dX9_read_62 : decode cX9_read 62 = .ok (.aload_n 0, 1) := by decide +kernel
theorem dX9_read_63 : decode cX9_read 63 = .ok (.getfield 36, 3) := by decide +kernel
theorem dX9_read_66 : decode cX9_read 66 = .ok (.getfield 74, 3) := by decide +kernel
theorem dX9_read_69 : decode cX9_read 69 = .ok (.aload_n 0, 1) := by decide +kernel
theorem dX9_read_70 : decode cX9_read 70 = .ok (.getfield 55, 3) := by decide +kernel
theorem dX9_read_73 : decode cX9_read 73 = .ok (.getfield 129, 3) := by decide +kernel
theorem dX9_read_76 : decode cX9_read 76 = .ok (.iadd, 1) := by decide +kernel
theorem dX9_read_77 : decode cX9_read 77 = .ok (.bipush 8, 2) := by decide +kernel
theorem dX9_read_79 : decode cX9_read 79 = .ok (.if_icmp .le 6, 3) := by decide +kernel
theorem dX9_read_82 : decode cX9_read 82 = .ok (.bipush (-4), 2) := by decide +kernel
theorem dX9_read_84 : decode cX9_read 84 = .ok (.ireturn, 1) := by decide +kernel
theorem dX9_read_85 : decode cX9_read 85 = .ok (.iconst 0, 1) := by decide +kernel
theorem dX9_read_86 : decode cX9_read 86 = .ok (.istore_n 2, 1) := by decide +kernel
theorem dX9_read_87 : decode cX9_read 87 = .ok (.iload_n 2, 1) := by decide +kernel
theorem dX9_read_88 : decode cX9_read 88 = .ok (.aload_n 0, 1) := by decide +kernel
theorem dX9_read_89 : decode cX9_read 89 = .ok (.getfield 55, 3) := by decide +kernel
theorem dX9_read_92 : decode cX9_read 92 = .ok (.getfield 129, 3) := by decide +kernel
theorem dX9_read_95 : decode cX9_read 95 = .ok (.if_icmp .ge 14, 3) := by decide +kernel
theorem dX9_read_98 : decode cX9_read 98 = .ok (.aload_n 0, 1) := by decide +kernel
theorem dX9_read_99 : decode cX9_read 99 = .ok (.iload_n 2, 1) := by decide +kernel
theorem dX9_read_100 : decode cX9_read 100 = .ok (.invokevirtual 132, 3) := by decide +kernel
theorem dX9_read_103 : decode cX9_read 103 = .ok (.iinc 2 1, 3) := by decide +kernel
theorem dX9_read_106 : decode cX9_read 106 = .ok (.goto (-19), 3) := by decide +kernel
theorem dX9_read_109 : decode cX9_read 109 = .ok (.aload_n 0, 1) := by decide +kernel
theorem dX9_read_110 : decode cX9_read 110 = .ok (.getfield 55, 3) := by decide +kernel
theorem dX9_read_113 : decode cX9_read 113 = .ok (.getfield 129, 3) := by decide +kernel
theorem dX9_read_116 : decode cX9_read 116 = .ok (.ireturn, 1) := by decide +kernel
set_option maxRecDepth 20000 in
theorem ggX9_bringClause_X1_addSignal : GoodIn wsX9_bringClause wsX1_addSignal := goodIn_r _ [13, 14, 15, 16, 17, 18, 12, 19, 20, 21, 22, 23, 24, 25, 26, 27, 28, 29, 30, 31, 32, 33, 34, 35, 36, 37, 38, 39, 40, 41, 42, 43, 44, 45, 46, 47, 48, 49, 50, 51, 52, 53, 54, 55, 86, 87, 88, 89, 90, 91, 92] (by decide +kernel) (by decide +kernel)
set_option maxRecDepth 20000 in
theorem gX9_bringClause_X1_addSignal : GoodIn wsX9_bringClause (wsV RX9 80 RX1 yX1_addSignal wsX1_addSignal) := goodIn_app (goodIn_of _ (by decide +kernel)) ggX9_bringClause_X1_addSignal
set_option maxRecDepth 20000 in
theorem ggX9_bringClause_X1_addCell : GoodIn wsX9_bringClause wsX1_addCell := goodIn_r _ [19, 20, 21, 14, 22, 23, 24, 12, 25, 26, 27, 28, 29, 30, 31, 32, 33, 34, 35, 36, 37, 38, 39, 40, 41, 42, 43, 44, 45, 46, 47, 15, 48, 49, 50, 51, 52, 53, 54, 55, 86, 87, 88, 89, 90, 91, 92] (by decide +kernel) (by decide +kernel)
set_option maxRecDepth 20000 in
theorem gX9_bringClause_X1_addCell : GoodIn wsX9_bringClause (wsV RX9 98 RX1 yX1_addCell wsX1_addCell) := goodIn_app (goodIn_of _ (by decide +kernel)) ggX9_bringClause_X1_addCell
theorem dX9_bringClause_0 : decode cX9_bringClause 0 = .ok (.aload_n 0, 1) := by decide +kernel
theorem dX9_bringClause_1 : decode cX9_bringClause 1 = .ok (.getfield 36, 3) := by decide +kernel
theorem dX9_bringClause_4 : decode cX9_bringClause 4 = .ok (.aload_n 0, 1) := by decide +kernel
theorem dX9_bringClause_5 : decode cX9_bringClause 5 = .ok (.getfield 55, 3) := by decide +kernel
theorem dX9_bringClause_8 : decode cX9_bringClause 8 = .ok (.getfield 136, 3) := by decide +kernel
theorem dX9_bringClause_11 : decode cX9_bringClause 11 = .ok (.iload_n 1, 1) := by decide +kernel
theorem dX9_bringClause_12 : decode cX9_bringClause 12 = .ok (.iaload, 1) := by decide +kernel
theorem dX9_bringClause_13 : decode cX9_bringClause 13 = .ok (.aload_n 0, 1) := by decide +kernel
theorem dX9_bringClause_14 : decode cX9_bringClause 14 = .ok (.getfield 55, 3) := by decide +kernel
theorem dX9_bringClause_17 : decode cX9_bringClause 17 = .ok (.getfield 139, 3) := by decide +kernel
theorem dX9_bringClause_20 : decode cX9_bringClause 20 = .ok (.iload_n 1, 1) := by decide +kernel
theorem dX9_bringClause_21 : decode cX9_bringClause 21 = .ok (.bipush 8, 2) := by decide +kernel
theorem dX9_bringClause_23 : decode cX9_bringClause 23 = .ok (.imul, 1) := by decide +kernel
theorem dX9_bringClause_24 : decode cX9_bringClause 24 = .ok (.iaload, 1) := by decide +kernel
theorem dX9_bringClause_25 : decode cX9_bringClause 25 = .ok (.invokevirtual 80, 3) := by decide +kernel
theorem dX9_bringClause_28 : decode cX9_bringClause 28 = .ok (.istore_n 2, 1) := by decide +kernel
theorem dX9_bringClause_29 : decode cX9_bringClause 29 = .ok (.iconst 1, 1) := by decide +kernel
theorem dX9_bringClause_30 : decode cX9_bringClause 30 = .ok (.istore_n 3, 1) := by decide +kernel
theorem dX9_bringClause_31 : decode cX9_bringClause 31 = .ok (.iload_n 3, 1) := by decide +kernel
theorem dX9_bringClause_32 : decode cX9_bringClause 32 = .ok (.aload_n 0, 1) := by decide +kernel
theorem dX9_bringClause_33 : decode cX9_bringClause 33 = .ok (.getfield 55, 3) := by decide +kernel
theorem dX9_bringClause_36 : decode cX9_bringClause 36 = .ok (.getfield 142, 3) := by decide +kernel
theorem dX9_bringClause_39 : decode cX9_bringClause 39 = .ok (.iload_n 1, 1) := by decide +kernel
theorem dX9_bringClause_40 : decode cX9_bringClause 40 = .ok (.iaload, 1) := by decide +kernel
theorem dX9_bringClause_41 : decode cX9_bringClause 41 = .ok (.if_icmp .ge 32, 3) := by decide +kernel
theorem dX9_bringClause_44 : decode cX9_bringClause 44 = .ok (.aload_n 0, 1) := by decide +kernel
theorem dX9_bringClause_45 : decode cX9_bringClause 45 = .ok (.getfield 36, 3) := by decide +kernel
theorem dX9_bringClause_48 : decode cX9_bringClause 48 = .ok (.iload_n 2, 1) := by decide +kernel
theorem dX9_bringClause_49 : decode cX9_bringClause 49 = .ok (.aload_n 0, 1) := by decide +kernel
theorem dX9_bringClause_50 : decode cX9_bringClause 50 = .ok (.getfield 55, 3) := by decide +kernel
theorem dX9_bringClause_53 : decode cX9_bringClause 53 = .ok (.getfield 139, 3) := by decide +kernel
theorem dX9_bringClause_56 : decode cX9_bringClause 56 = .ok (.iload_n 1, 1) := by decide +kernel
theorem dX9_bringClause_57 : decode cX9_bringClause 57 = .ok (.bipush 8, 2) := by decide +kernel
theorem dX9_bringClause_59 : decode cX9_bringClause 59 = .ok (.imul, 1) := by decide +kernel
theorem dX9_bringClause_60 : decode cX9_bringClause 60 = .ok (.iload_n 3, 1) := by decide +kernel
theorem dX9_bringClause_61 : decode cX9_bringClause 61 = .ok (.iadd, 1) := by decide +kernel
theorem dX9_bringClause_62 : decode cX9_bringClause 62 = .ok (.iaload, 1) := by decide +kernel
theorem dX9_bringClause_63 : decode cX9_bringClause 63 = .ok (.invokevirtual 98, 3) := by decide +kernel
theorem dX9_bringClause_66 : decode cX9_bringClause 66 = .ok (.pop, 1) := by decide +kernel
theorem dX9_bringClause_67 : decode cX9_bringClause 67 = .ok (.iinc 3 1, 3) := by decide +kernel
theorem dX9_bringClause_70 : decode cX9_bringClause 70 = .ok (.goto (-39), 3) := by decide +kernel
theorem dX9_bringClause_73 : decode cX9_bringClause 73 = .ok (.iconst 0, 1) := by decide +kernel
theorem dX9_bringClause_74 : decode cX9_bringClause 74 = .ok (.istore_n 3, 1) := by decide +kernel
theorem dX9_bringClause_75 : decode cX9_bringClause 75 = .ok (.iload_n 3, 1) := by decide +kernel
theorem dX9_bringClause_76 : decode cX9_bringClause 76 = .ok (.iconst 4, 1) := by decide +kernel
theorem dX9_bringClause_77 : decode cX9_bringClause 77 = .ok (.if_icmp .ge 35, 3) := by decide +kernel
theorem dX9_bringClause_80 : decode cX9_bringClause 80 = .ok (.aload_n 0, 1) := by decide +kernel
theorem dX9_bringClause_81 : decode cX9_bringClause 81 = .ok (.getfield 41, 3) := by decide +kernel
theorem dX9_bringClause_84 : decode cX9_bringClause 84 = .ok (.getfield 112, 3) := by decide +kernel
theorem dX9_bringClause_87 : decode cX9_bringClause 87 = .ok (.iload_n 2, 1) := by decide +kernel
theorem dX9_bringClause_88 : decode cX9_bringClause 88 = .ok (.iconst 4, 1) := by decide +kernel
theorem dX9_bringClause_89 : decode cX9_bringClause 89 = .ok (.imul, 1) := by decide +kernel
theorem dX9_bringClause_90 : decode cX9_bringClause 90 = .ok (.iload_n 3, 1) := by decide +kernel
theorem dX9_bringClause_91 : decode cX9_bringClause 91 = .ok (.iadd, 1) := by decide +kernel
theorem dX9_bringClause_92 : decode cX9_bringClause 92 = .ok (.aload_n 0, 1) := by decide +kernel
theorem dX9_bringClause_93 : decode cX9_bringClause 93 = .ok (.getfield 55, 3) := by decide +kernel
theorem dX9_bringClause_96 : decode cX9_bringClause 96 = .ok (.getfield 143, 3) := by decide +kernel
theorem dX9_bringClause_99 : decode cX9_bringClause 99 = .ok (.iload_n 1, 1) := by decide +kernel
theorem dX9_bringClause_100 : decode cX9_bringClause 100 = .ok (.iconst 4, 1) := by decide +kernel
theorem dX9_bringClause_101 : decode cX9_bringClause 101 = .ok (.imul, 1) := by decide +kernel
theorem dX9_bringClause_102 : decode cX9_bringClause 102 = .ok (.iload_n 3, 1) := by decide +kernel
theorem dX9_bringClause_103 : decode cX9_bringClause 103 = .ok (.iadd, 1) := by decide +kernel
theorem dX9_bringClause_104 : decode cX9_bringClause 104 = .ok (.iaload, 1) := by decide +kernel
theorem dX9_bringClause_105 : decode cX9_bringClause 105 = .ok (.iastore, 1) := by decide +kernel
theorem dX9_bringClause_106 : decode cX9_bringClause 106 = .ok (.iinc 3 1, 3) := by decide +kernel
theorem dX9_bringClause_109 : decode cX9_bringClause 109 = .ok (.goto (-34), 3) := by decide +kernel
theorem dX9_bringClause_112 : decode cX9_bringClause 112 = .ok (.return_, 1) := by decide +kernel
set_option maxRecDepth 20000 in
theorem ggX9_safety_X9_within : GoodIn wsX9_safety wsX9_within := goodIn_r _ [8] (by decide +kernel) (by decide +kernel)
set_option maxRecDepth 20000 in
theorem gX9_safety_X9_within : GoodIn wsX9_safety (va_wsS RX9 66 yX9_within wsX9_within) := goodIn_app (goodIn_of _ (by decide +kernel)) ggX9_safety_X9_within
theorem dX9_safety_0 : decode cX9_safety 0 = .ok (.iload_n 1, 1) := by decide +kernel
theorem dX9_safety_1 : decode cX9_safety 1 = .ok (.iconst 0, 1) := by decide +kernel
theorem dX9_safety_2 : decode cX9_safety 2 = .ok (.iconst 5, 1) := by decide +kernel
theorem dX9_safety_3 : decode cX9_safety 3 = .ok (.invokestatic 66, 3) := by decide +kernel
theorem dX9_safety_6 : decode cX9_safety 6 = .ok (.ifCond .ne 6, 3) := by decide +kernel
theorem dX9_safety_9 : decode cX9_safety 9 = .ok (.bipush (-2), 2) := by decide +kernel
theorem dX9_safety_11 : decode cX9_safety 11 = .ok (.ireturn, 1) := by decide +kernel
theorem dX9_safety_12 : decode cX9_safety 12 = .ok (.aload_n 0, 1) := by decide +kernel
theorem dX9_safety_13 : decode cX9_safety 13 = .ok (.getfield 31, 3) := by decide +kernel
theorem dX9_safety_16 : decode cX9_safety 16 = .ok (.getfield 70, 3) := by decide +kernel
theorem dX9_safety_19 : decode cX9_safety 19 = .ok (.ifCond .eq 6, 3) := by decide +kernel
theorem dX9_safety_22 : decode cX9_safety 22 = .ok (.bipush (-3), 2) := by decide +kernel
theorem dX9_safety_24 : decode cX9_safety 24 = .ok (.ireturn, 1) := by decide +kernel
theorem dX9_safety_25 : decode cX9_safety 25 = .ok (.aload_n 0, 1) := by decide +kernel
theorem dX9_safety_26 : decode cX9_safety 26 = .ok (.getfield 36, 3) := by decide +kernel
theorem dX9_safety_29 : decode cX9_safety 29 = .ok (.getfield 146, 3) := by decide +kernel
theorem dX9_safety_32 : decode cX9_safety 32 = .ok (.istore_n 2, 1) := by decide +kernel
theorem dX9_safety_33 : decode cX9_safety 33 = .ok (.aload_n 0, 1) := by decide +kernel
theorem dX9_safety_34 : decode cX9_safety 34 = .ok (.getfield 36, 3) := by decide +kernel
theorem dX9_safety_37 : decode cX9_safety 37 = .ok (.iload_n 1, 1) := by decide +kernel
theorem dX9_safety_38 : decode cX9_safety 38 = .ok (.putfield 146, 3) := by decide +kernel
theorem dX9_safety_41 : decode cX9_safety 41 = .ok (.iload_n 2, 1) := by decide +kernel
theorem dX9_safety_42 : decode cX9_safety 42 = .ok (.ireturn, 1) := by decide +kernel
set_option maxRecDepth 20000 in
theorem ggX9_phase_X9_within : GoodIn wsX9_phase wsX9_within := goodIn_r _ [10] (by decide +kernel) (by decide +kernel)
set_option maxRecDepth 20000 in
theorem gX9_phase_X9_within : GoodIn wsX9_phase (va_wsS RX9 66 yX9_within wsX9_within) := goodIn_app (goodIn_of _ (by decide +kernel)) ggX9_phase_X9_within
set_option maxRecDepth 20000 in
theorem ggX9_phase_X1_twoMeetIn : GoodIn wsX9_phase wsX1_twoMeetIn := goodIn_r _ [15, 16, 17, 9, 18, 19, 20, 21, 14, 22, 23, 24, 25, 26, 27, 48, 49, 50, 51, 52, 53, 54] (by decide +kernel) (by decide +kernel)
set_option maxRecDepth 20000 in
theorem gX9_phase_X1_twoMeetIn : GoodIn wsX9_phase (wsV RX9 149 RX1 yX1_twoMeetIn wsX1_twoMeetIn) := goodIn_app (goodIn_of _ (by decide +kernel)) ggX9_phase_X1_twoMeetIn
set_option maxRecDepth 20000 in
theorem ggX9_phase_X2_add : GoodIn wsX9_phase wsX2_add := goodIn_r _ [32, 33, 34, 35, 71, 72, 73, 74] (by decide +kernel) (by decide +kernel)
set_option maxRecDepth 20000 in
theorem gX9_phase_X2_add : GoodIn wsX9_phase (wsV RX9 152 RX2 yX2_add wsX2_add) := goodIn_app (goodIn_of _ (by decide +kernel)) ggX9_phase_X2_add
theorem dX9_phase_0 : decode cX9_phase 0 = .ok (.iload_n 1, 1) := by decide +kernel
theorem dX9_phase_1 : decode cX9_phase 1 = .ok (.iconst 1, 1) := by decide +kernel
theorem dX9_phase_2 : decode cX9_phase 2 = .ok (.iconst 1, 1) := by decide +kernel
theorem dX9_phase_3 : decode cX9_phase 3 = .ok (.aload_n 0, 1) := by decide +kernel
theorem dX9_phase_4 : decode cX9_phase 4 = .ok (.getfield 36, 3) := by decide +kernel
theorem dX9_phase_7 : decode cX9_phase 7 = .ok (.getfield 74, 3) := by decide +kernel
theorem dX9_phase_10 : decode cX9_phase 10 = .ok (.ishl, 1) := by decide +kernel
theorem dX9_phase_11 : decode cX9_phase 11 = .ok (.iconst 1, 1) := by decide +kernel
theorem dX9_phase_12 : decode cX9_phase 12 = .ok (.isub, 1) := by decide +kernel
theorem dX9_phase_13 : decode cX9_phase 13 = .ok (.invokestatic 66, 3) := by decide +kernel
theorem dX9_phase_16 : decode cX9_phase 16 = .ok (.ifCond .eq 14, 3) := by decide +kernel
theorem dX9_phase_19 : decode cX9_phase 19 = .ok (.iload_n 2, 1) := by decide +kernel
theorem dX9_phase_20 : decode cX9_phase 20 = .ok (.iconst 0, 1) := by decide +kernel
theorem dX9_phase_21 : decode cX9_phase 21 = .ok (.sipush 239, 3) := by decide +kernel
theorem dX9_phase_24 : decode cX9_phase 24 = .ok (.invokestatic 66, 3) := by decide +kernel
theorem dX9_phase_27 : decode cX9_phase 27 = .ok (.ifCond .ne 6, 3) := by decide +kernel
theorem dX9_phase_30 : decode cX9_phase 30 = .ok (.bipush (-2), 2) := by decide +kernel
theorem dX9_phase_32 : decode cX9_phase 32 = .ok (.ireturn, 1) := by decide +kernel
theorem dX9_phase_33 : decode cX9_phase 33 = .ok (.aload_n 0, 1) := by decide +kernel
theorem dX9_phase_34 : decode cX9_phase 34 = .ok (.getfield 31, 3) := by decide +kernel
theorem dX9_phase_37 : decode cX9_phase 37 = .ok (.getfield 70, 3) := by decide +kernel
theorem dX9_phase_40 : decode cX9_phase 40 = .ok (.ifCond .ne 14, 3) := by decide +kernel
theorem dX9_phase_43 : decode cX9_phase 43 = .ok (.aload_n 0, 1) := by decide +kernel
theorem dX9_phase_44 : decode cX9_phase 44 = .ok (.getfield 36, 3) := by decide +kernel
theorem dX9_phase_47 : decode cX9_phase 47 = .ok (.iload_n 1, 1) := by decide +kernel
theorem dX9_phase_48 : decode cX9_phase 48 = .ok (.invokevirtual 149, 3) := by decide +kernel
theorem dX9_phase_51 : decode cX9_phase 51 = .ok (.ifCond .eq 6, 3) := by decide +kernel
theorem dX9_phase_54 : decode cX9_phase 54 = .ok (.bipush (-3), 2) := by decide +kernel
theorem dX9_phase_56 : decode cX9_phase 56 = .ok (.ireturn, 1) := by decide +kernel
theorem dX9_phase_57 : decode cX9_phase 57 = .ok (.aload_n 0, 1) := by decide +kernel
theorem dX9_phase_58 : decode cX9_phase 58 = .ok (.getfield 46, 3) := by decide +kernel
theorem dX9_phase_61 : decode cX9_phase 61 = .ok (.getfield 91, 3) := by decide +kernel
theorem dX9_phase_64 : decode cX9_phase 64 = .ok (.bipush 6, 2) := by decide +kernel
theorem dX9_phase_66 : decode cX9_phase 66 = .ok (.if_icmp .lt 6, 3) := by decide +kernel
theorem dX9_phase_69 : decode cX9_phase 69 = .ok (.bipush (-4), 2) := by decide +kernel
theorem dX9_phase_71 : decode cX9_phase 71 = .ok (.ireturn, 1) := by decide +kernel
theorem dX9_phase_72 : decode cX9_phase 72 = .ok (.aload_n 0, 1) := by decide +kernel
theorem dX9_phase_73 : decode cX9_phase 73 = .ok (.getfield 46, 3) := by decide +kernel
theorem dX9_phase_76 : decode cX9_phase 76 = .ok (.iload_n 1, 1) := by decide +kernel
theorem dX9_phase_77 : decode cX9_phase 77 = .ok (.iload_n 2, 1) := by decide +kernel
theorem dX9_phase_78 : decode cX9_phase 78 = .ok (.invokevirtual 152, 3) := by decide +kernel
theorem dX9_phase_81 : decode cX9_phase 81 = .ok (.ireturn, 1) := by decide +kernel
set_option maxRecDepth 20000 in
theorem ggX9_start_X0_begin : GoodIn wsX9_start wsX0_begin := goodIn_r _ [9, 10, 11, 12, 13, 8, 14, 15, 16, 17, 30, 31, 32, 33, 34, 35, 36, 37, 38, 39, 40, 41, 42, 43, 44, 45, 46, 47, 48, 49] (by decide +kernel) (by decide +kernel)
set_option maxRecDepth 20000 in
theorem gX9_start_X0_begin : GoodIn wsX9_start (wsV RX9 155 RX0 yX0_begin wsX0_begin) := goodIn_app (goodIn_of _ (by decide +kernel)) ggX9_start_X0_begin
theorem dX9_start_0 : decode cX9_start 0 = .ok (.aload_n 0, 1) := by decide +kernel
theorem dX9_start_1 : decode cX9_start 1 = .ok (.getfield 31, 3) := by decide +kernel
theorem dX9_start_4 : decode cX9_start 4 = .ok (.getfield 70, 3) := by decide +kernel
theorem dX9_start_7 : decode cX9_start 7 = .ok (.ifCond .ne 13, 3) := by decide +kernel
theorem dX9_start_10 : decode cX9_start 10 = .ok (.aload_n 0, 1) := by decide +kernel
theorem dX9_start_11 : decode cX9_start 11 = .ok (.getfield 46, 3) := by decide +kernel
theorem dX9_start_14 : decode cX9_start 14 = .ok (.getfield 91, 3) := by decide +kernel
theorem dX9_start_17 : decode cX9_start 17 = .ok (.ifCond .ne 6, 3) := by decide +kernel
theorem dX9_start_20 : decode cX9_start 20 = .ok (.bipush (-3), 2) := by decide +kernel
theorem dX9_start_22 : decode cX9_start 22 = .ok (.ireturn, 1) := by decide +kernel
theorem dX9_start_23 : decode cX9_start 23 = .ok (.aload_n 0, 1) := by decide +kernel
theorem dX9_start_24 : decode cX9_start 24 = .ok (.getfield 31, 3) := by decide +kernel
theorem dX9_start_27 : decode cX9_start 27 = .ok (.invokevirtual 155, 3) := by decide +kernel
theorem dX9_start_30 : decode cX9_start 30 = .ok (.aload_n 0, 1) := by decide +kernel
theorem dX9_start_31 : decode cX9_start 31 = .ok (.getfield 46, 3) := by decide +kernel
theorem dX9_start_34 : decode cX9_start 34 = .ok (.getfield 91, 3) := by decide +kernel
theorem dX9_start_37 : decode cX9_start 37 = .ok (.ireturn, 1) := by decide +kernel
set_option maxRecDepth 20000 in
theorem ggX9_cycle_X9_within : GoodIn wsX9_cycle wsX9_within := goodIn_r _ [8] (by decide +kernel) (by decide +kernel)
set_option maxRecDepth 20000 in
theorem gX9_cycle_X9_within : GoodIn wsX9_cycle (va_wsS RX9 66 yX9_within wsX9_within) := goodIn_app (goodIn_of _ (by decide +kernel)) ggX9_cycle_X9_within
theorem dX9_cycle_0 : decode cX9_cycle 0 = .ok (.iload_n 1, 1) := by decide +kernel
theorem dX9_cycle_1 : decode cX9_cycle 1 = .ok (.ifCond .ne 7, 3) := by decide +kernel
theorem dX9_cycle_4 : decode cX9_cycle 4 = .ok (.iconst 1, 1) := by decide +kernel
theorem dX9_cycle_5 : decode cX9_cycle 5 = .ok (.goto 4, 3) := by decide +kernel
theorem dX9_cycle_8 : decode cX9_cycle 8 = .ok (.iconst 0, 1) := by decide +kernel
theorem dX9_cycle_9 : decode cX9_cycle 9 = .ok (.istore 4, 2) := by decide +kernel
theorem dX9_cycle_11 : decode cX9_cycle 11 = .ok (.iload 4, 2) := by decide +kernel
theorem dX9_cycle_13 : decode cX9_cycle 13 = .ok (.ifCond .ne 38, 3) := by decide +kernel
theorem dX9_cycle_16 : decode cX9_cycle 16 = .ok (.iload_n 1, 1) := by decide +kernel
theorem dX9_cycle_17 : decode cX9_cycle 17 = .ok (.bipush 20, 2) := by decide +kernel
theorem dX9_cycle_19 : decode cX9_cycle 19 = .ok (.sipush 240, 3) := by decide +kernel
theorem dX9_cycle_22 : decode cX9_cycle 22 = .ok (.invokestatic 66, 3) := by decide +kernel
theorem dX9_cycle_25 : decode cX9_cycle 25 = .ok (.ifCond .eq 23, 3) := by decide +kernel
theorem dX9_cycle_28 : decode cX9_cycle 28 = .ok (.iload_n 2, 1) := by decide +kernel
theorem dX9_cycle_29 : decode cX9_cycle 29 = .ok (.iconst 0, 1) := by decide +kernel
theorem dX9_cycle_30 : decode cX9_cycle 30 = .ok (.iload_n 1, 1) := by decide +kernel
theorem dX9_cycle_31 : decode cX9_cycle 31 = .ok (.iconst 1, 1) := by decide +kernel
theorem dX9_cycle_32 : decode cX9_cycle 32 = .ok (.isub, 1) := by decide +kernel
theorem dX9_cycle_33 : decode cX9_cycle 33 = .ok (.invokestatic 66, 3) := by decide +kernel
theorem dX9_cycle_36 : decode cX9_cycle 36 = .ok (.ifCond .eq 12, 3) := by decide +kernel
theorem dX9_cycle_39 : decode cX9_cycle 39 = .ok (.iload_n 3, 1) := by decide +kernel
theorem dX9_cycle_40 : decode cX9_cycle 40 = .ok (.iconst 1, 1) := by decide +kernel
theorem dX9_cycle_41 : decode cX9_cycle 41 = .ok (.iload_n 1, 1) := by decide +kernel
theorem dX9_cycle_42 : decode cX9_cycle 42 = .ok (.invokestatic 66, 3) := by decide +kernel
theorem dX9_cycle_45 : decode cX9_cycle 45 = .ok (.ifCond .ne 6, 3) := by decide +kernel
theorem dX9_cycle_48 : decode cX9_cycle 48 = .ok (.bipush (-2), 2) := by decide +kernel
theorem dX9_cycle_50 : decode cX9_cycle 50 = .ok (.ireturn, 1) := by decide +kernel
theorem dX9_cycle_51 : decode cX9_cycle 51 = .ok (.aload_n 0, 1) := by decide +kernel
theorem dX9_cycle_52 : decode cX9_cycle 52 = .ok (.getfield 31, 3) := by decide +kernel
theorem dX9_cycle_55 : decode cX9_cycle 55 = .ok (.getfield 158, 3) := by decide +kernel
theorem dX9_cycle_58 : decode cX9_cycle 58 = .ok (.istore 5, 2) := by decide +kernel
theorem dX9_cycle_60 : decode cX9_cycle 60 = .ok (.aload_n 0, 1) := by decide +kernel
theorem dX9_cycle_61 : decode cX9_cycle 61 = .ok (.getfield 31, 3) := by decide +kernel
theorem dX9_cycle_64 : decode cX9_cycle 64 = .ok (.iload_n 1, 1) := by decide +kernel
theorem dX9_cycle_65 : decode cX9_cycle 65 = .ok (.putfield 158, 3) := by decide +kernel
theorem dX9_cycle_68 : decode cX9_cycle 68 = .ok (.aload_n 0, 1) := by decide +kernel
theorem dX9_cycle_69 : decode cX9_cycle 69 = .ok (.getfield 31, 3) := by decide +kernel
theorem dX9_cycle_72 : decode cX9_cycle 72 = .ok (.iload 4, 2) := by decide +kernel
theorem dX9_cycle_74 : decode cX9_cycle 74 = .ok (.ifCond .eq 7, 3) := by decide +kernel
theorem dX9_cycle_77 : decode cX9_cycle 77 = .ok (.iconst 0, 1) := by decide +kernel
theorem dX9_cycle_78 : decode cX9_cycle 78 = .ok (.goto 4, 3) := by decide +kernel
theorem dX9_cycle_81 : decode cX9_cycle 81 = .ok (.iload_n 2, 1) := by decide +kernel
theorem dX9_cycle_82 : decode cX9_cycle 82 = .ok (.putfield 161, 3) := by decide +kernel
theorem dX9_cycle_85 : decode cX9_cycle 85 = .ok (.aload_n 0, 1) := by decide +kernel
theorem dX9_cycle_86 : decode cX9_cycle 86 = .ok (.getfield 31, 3) := by decide +kernel
theorem dX9_cycle_89 : decode cX9_cycle 89 = .ok (.iload 4, 2) := by decide +kernel
theorem dX9_cycle_91 : decode cX9_cycle 91 = .ok (.ifCond .eq 7, 3) := by decide +kernel
theorem dX9_cycle_94 : decode cX9_cycle 94 = .ok (.iconst 0, 1) := by decide +kernel
theorem dX9_cycle_95 : decode cX9_cycle 95 = .ok (.goto 4, 3) := by decide +kernel
theorem dX9_cycle_98 : decode cX9_cycle 98 = .ok (.iload_n 3, 1) := by decide +kernel
theorem dX9_cycle_99 : decode cX9_cycle 99 = .ok (.putfield 164, 3) := by decide +kernel
theorem dX9_cycle_102 : decode cX9_cycle 102 = .ok (.iload 5, 2) := by decide +kernel
theorem dX9_cycle_104 : decode cX9_cycle 104 = .ok (.ireturn, 1) := by decide +kernel
set_option maxRecDepth 20000 in
theorem ggX9_come_X9_isSignal : GoodIn wsX9_come wsX9_isSignal := goodIn_r _ [9, 10, 11, 12, 13, 8, 14, 25, 26, 27, 28, 29, 30, 31, 32, 33, 34, 35, 36, 61, 62, 63, 64, 65, 66, 67] (by decide +kernel) (by decide +kernel)
set_option maxRecDepth 20000 in
theorem gX9_come_X9_isSignal : GoodIn wsX9_come (wsV RX9 84 RX9 yX9_isSignal wsX9_isSignal) := goodIn_app (goodIn_of _ (by decide +kernel)) ggX9_come_X9_isSignal
set_option maxRecDepth 20000 in
theorem ggX9_come_X9_within : GoodIn wsX9_come wsX9_within := goodIn_r _ [14] (by decide +kernel) (by decide +kernel)
set_option maxRecDepth 20000 in
theorem gX9_come_X9_within : GoodIn wsX9_come (va_wsS RX9 66 yX9_within wsX9_within) := goodIn_app (goodIn_of _ (by decide +kernel)) ggX9_come_X9_within
set_option maxRecDepth 20000 in
theorem ggX9_come_X5_join : GoodIn wsX9_come wsX5_join := goodIn_r _ [19, 20, 21, 22, 23, 24, 53, 54, 55, 56, 57, 58, 59, 60] (by decide +kernel) (by decide +kernel)
set_option maxRecDepth 20000 in
theorem gX9_come_X5_join : GoodIn wsX9_come (wsV RX9 170 RX5 yX5_join wsX5_join) := goodIn_app (goodIn_of _ (by decide +kernel)) ggX9_come_X5_join
theorem dX9_come_0 : decode cX9_come 0 = .ok (.aload_n 0, 1) := by decide +kernel
theorem dX9_come_1 : decode cX9_come 1 = .ok (.iload_n 1, 1) := by decide +kernel
theorem dX9_come_2 : decode cX9_come 2 = .ok (.invokevirtual 84, 3) := by decide +kernel
theorem dX9_come_5 : decode cX9_come 5 = .ok (.ifCond .ne 5, 3) := by decide +kernel
theorem dX9_come_8 : decode cX9_come 8 = .ok (.iconst (-1), 1) := by decide +kernel
theorem dX9_come_9 : decode cX9_come 9 = .ok (.ireturn, 1) := by decide +kernel
theorem dX9_come_10 : decode cX9_come 10 = .ok (.iload_n 2, 1) := by decide +kernel
theorem dX9_come_11 : decode cX9_come 11 = .ok (.iconst 1, 1) := by decide +kernel
theorem dX9_come_12 : decode cX9_come 12 = .ok (.bipush 20, 2) := by decide +kernel
theorem dX9_come_14 : decode cX9_come 14 = .ok (.invokestatic 66, 3) := by decide +kernel
theorem dX9_come_17 : decode cX9_come 17 = .ok (.ifCond .ne 6, 3) := by decide +kernel
theorem dX9_come_20 : decode cX9_come 20 = .ok (.bipush (-2), 2) := by decide +kernel
theorem dX9_come_22 : decode cX9_come 22 = .ok (.ireturn, 1) := by decide +kernel
theorem dX9_come_23 : decode cX9_come 23 = .ok (.aload_n 0, 1) := by decide +kernel
theorem dX9_come_24 : decode cX9_come 24 = .ok (.getfield 31, 3) := by decide +kernel
theorem dX9_come_27 : decode cX9_come 27 = .ok (.dup, 1) := by decide +kernel
theorem dX9_come_28 : decode cX9_come 28 = .ok (.getfield 167, 3) := by decide +kernel
theorem dX9_come_31 : decode cX9_come 31 = .ok (.aload_n 0, 1) := by decide +kernel
theorem dX9_come_32 : decode cX9_come 32 = .ok (.getfield 41, 3) := by decide +kernel
theorem dX9_come_35 : decode cX9_come 35 = .ok (.iload_n 1, 1) := by decide +kernel
theorem dX9_come_36 : decode cX9_come 36 = .ok (.iload_n 2, 1) := by decide +kernel
theorem dX9_come_37 : decode cX9_come 37 = .ok (.invokevirtual 170, 3) := by decide +kernel
theorem dX9_come_40 : decode cX9_come 40 = .ok (.iadd, 1) := by decide +kernel
theorem dX9_come_41 : decode cX9_come 41 = .ok (.putfield 167, 3) := by decide +kernel
theorem dX9_come_44 : decode cX9_come 44 = .ok (.aload_n 0, 1) := by decide +kernel
theorem dX9_come_45 : decode cX9_come 45 = .ok (.getfield 41, 3) := by decide +kernel
theorem dX9_come_48 : decode cX9_come 48 = .ok (.getfield 173, 3) := by decide +kernel
theorem dX9_come_51 : decode cX9_come 51 = .ok (.iload_n 1, 1) := by decide +kernel
theorem dX9_come_52 : decode cX9_come 52 = .ok (.iaload, 1) := by decide +kernel
theorem dX9_come_53 : decode cX9_come 53 = .ok (.ireturn, 1) := by decide +kernel
theorem dX9_seed_0 : decode cX9_seed 0 = .ok (.aload_n 0, 1) := by decide +kernel
theorem dX9_seed_1 : decode cX9_seed 1 = .ok (.getfield 31, 3) := by decide +kernel
theorem dX9_seed_4 : decode cX9_seed 4 = .ok (.getfield 176, 3) := by decide +kernel
theorem dX9_seed_7 : decode cX9_seed 7 = .ok (.istore_n 2, 1) := by decide +kernel
theorem dX9_seed_8 : decode cX9_seed 8 = .ok (.aload_n 0, 1) := by decide +kernel
theorem dX9_seed_9 : decode cX9_seed 9 = .ok (.getfield 31, 3) := by decide +kernel
theorem dX9_seed_12 : decode cX9_seed 12 = .ok (.iload_n 1, 1) := by decide +kernel
theorem dX9_seed_13 : decode cX9_seed 13 = .ok (.putfield 176, 3) := by decide +kernel
theorem dX9_seed_16 : decode cX9_seed 16 = .ok (.iload_n 2, 1) := by decide +kernel
theorem dX9_seed_17 : decode cX9_seed 17 = .ok (.ireturn, 1) := by decide +kernel
set_option maxRecDepth 20000 in
theorem ggX9_emergency_X9_isSignal : GoodIn wsX9_emergency wsX9_isSignal := goodIn_r _ [7, 8, 9, 10, 11, 6, 12, 31, 32, 33, 34, 35, 36, 37, 38, 39, 40, 41, 42, 43, 44, 45, 46, 47, 48, 49] (by decide +kernel) (by decide +kernel)
set_option maxRecDepth 20000 in
theorem gX9_emergency_X9_isSignal : GoodIn wsX9_emergency (wsV RX9 84 RX9 yX9_isSignal wsX9_isSignal) := goodIn_app (goodIn_of _ (by decide +kernel)) ggX9_emergency_X9_isSignal
set_option maxRecDepth 20000 in
theorem ggX9_emergency_X0_declare : GoodIn wsX9_emergency wsX0_declare := goodIn_r _ [17, 18, 19, 20, 21, 22, 23, 24, 25, 26, 27, 28, 6, 29, 50, 51, 52, 53, 54, 55, 56, 57, 58, 59, 60, 61, 62, 63, 64, 65, 66, 67, 68, 69] (by decide +kernel) (by decide +kernel)
set_option maxRecDepth 20000 in
theorem gX9_emergency_X0_declare : GoodIn wsX9_emergency (wsV RX9 179 RX0 yX0_declare wsX0_declare) := goodIn_app (goodIn_of _ (by decide +kernel)) ggX9_emergency_X0_declare
set_option maxRecDepth 20000 in
theorem ggX9_emergency_X2_firstWith : GoodIn wsX9_emergency wsX2_firstWith := goodIn_r _ [25, 26, 27, 28, 6, 29, 66, 67, 68, 69] (by decide +kernel) (by decide +kernel)
set_option maxRecDepth 20000 in
theorem gX9_emergency_X2_firstWith : GoodIn wsX9_emergency (wsV RX9 182 RX2 yX2_firstWith wsX2_firstWith) := goodIn_app (goodIn_of _ (by decide +kernel)) ggX9_emergency_X2_firstWith
theorem dX9_emergency_0 : decode cX9_emergency 0 = .ok (.aload_n 0, 1) := by decide +kernel
theorem dX9_emergency_1 : decode cX9_emergency 1 = .ok (.iload_n 1, 1) := by decide +kernel
theorem dX9_emergency_2 : decode cX9_emergency 2 = .ok (.invokevirtual 84, 3) := by decide +kernel
theorem dX9_emergency_5 : decode cX9_emergency 5 = .ok (.ifCond .ne 5, 3) := by decide +kernel
theorem dX9_emergency_8 : decode cX9_emergency 8 = .ok (.iconst (-1), 1) := by decide +kernel
theorem dX9_emergency_9 : decode cX9_emergency 9 = .ok (.ireturn, 1) := by decide +kernel
theorem dX9_emergency_10 : decode cX9_emergency 10 = .ok (.aload_n 0, 1) := by decide +kernel
theorem dX9_emergency_11 : decode cX9_emergency 11 = .ok (.getfield 31, 3) := by decide +kernel
theorem dX9_emergency_14 : decode cX9_emergency 14 = .ok (.iload_n 1, 1) := by decide +kernel
theorem dX9_emergency_15 : decode cX9_emergency 15 = .ok (.invokevirtual 179, 3) := by decide +kernel
theorem dX9_emergency_18 : decode cX9_emergency 18 = .ok (.ifCond .eq 14, 3) := by decide +kernel
theorem dX9_emergency_21 : decode cX9_emergency 21 = .ok (.aload_n 0, 1) := by decide +kernel
theorem dX9_emergency_22 : decode cX9_emergency 22 = .ok (.getfield 46, 3) := by decide +kernel
theorem dX9_emergency_25 : decode cX9_emergency 25 = .ok (.iload_n 1, 1) := by decide +kernel
theorem dX9_emergency_26 : decode cX9_emergency 26 = .ok (.invokevirtual 182, 3) := by decide +kernel
theorem dX9_emergency_29 : decode cX9_emergency 29 = .ok (.goto 5, 3) := by decide +kernel
theorem dX9_emergency_32 : decode cX9_emergency 32 = .ok (.bipush (-3), 2) := by decide +kernel
theorem dX9_emergency_34 : decode cX9_emergency 34 = .ok (.ireturn, 1) := by decide +kernel
theorem dX9_over_0 : decode cX9_over 0 = .ok (.aload_n 0, 1) := by decide +kernel
theorem dX9_over_1 : decode cX9_over 1 = .ok (.getfield 31, 3) := by decide +kernel
theorem dX9_over_4 : decode cX9_over 4 = .ok (.getfield 185, 3) := by decide +kernel
theorem dX9_over_7 : decode cX9_over 7 = .ok (.istore_n 1, 1) := by decide +kernel
theorem dX9_over_8 : decode cX9_over 8 = .ok (.iload_n 1, 1) := by decide +kernel
theorem dX9_over_9 : decode cX9_over 9 = .ok (.bipush (-5), 2) := by decide +kernel
theorem dX9_over_11 : decode cX9_over 11 = .ok (.if_icmp .ne 6, 3) := by decide +kernel
theorem dX9_over_14 : decode cX9_over 14 = .ok (.bipush (-3), 2) := by decide +kernel
theorem dX9_over_16 : decode cX9_over 16 = .ok (.ireturn, 1) := by decide +kernel
theorem dX9_over_17 : decode cX9_over 17 = .ok (.aload_n 0, 1) := by decide +kernel
theorem dX9_over_18 : decode cX9_over 18 = .ok (.getfield 31, 3) := by decide +kernel
theorem dX9_over_21 : decode cX9_over 21 = .ok (.bipush (-5), 2) := by decide +kernel
theorem dX9_over_23 : decode cX9_over 23 = .ok (.putfield 185, 3) := by decide +kernel
theorem dX9_over_26 : decode cX9_over 26 = .ok (.iload_n 1, 1) := by decide +kernel
theorem dX9_over_27 : decode cX9_over 27 = .ok (.ireturn, 1) := by decide +kernel
set_option maxRecDepth 20000 in
theorem ggX9_pass_X9_refusalOf : GoodIn wsX9_pass wsX9_refusalOf := goodIn_r _ [7, 1, 8, 9, 10, 6, 11, 12, 13, 14, 15, 16, 215, 216, 217, 218, 219, 220, 221, 222, 223, 224, 225, 226, 227, 228, 229, 230, 231, 232, 233, 234, 235, 236, 237, 238, 239, 240, 241, 242] (by decide +kernel) (by decide +kernel)
set_option maxRecDepth 20000 in
theorem gX9_pass_X9_refusalOf : GoodIn wsX9_pass (wsV RX9 188 RX9 yX9_refusalOf wsX9_refusalOf) := goodIn_app (goodIn_of _ (by decide +kernel)) ggX9_pass_X9_refusalOf
set_option maxRecDepth 20000 in
theorem ggX9_pass_X0_passSeconds : GoodIn wsX9_pass wsX0_passSeconds := goodIn_r _ [21, 22, 23, 24, 25, 26, 27, 28, 29, 20, 30, 31, 32, 33, 34, 35, 36, 37, 38, 39, 40, 41, 42, 43, 44, 45, 46, 47, 48, 49, 50, 51, 52, 53, 54, 55, 56, 57, 58, 59, 60, 61, 62, 63, 64, 65, 6, 66, 67, 68, 69, 70, 71, 72, 73, 74, 75, 76, 77, 78, 79, 80, 81, 82, 83, 84, 85, 86, 87, 88, 89, 90, 91, 92, 93, 94, 95, 96, 97, 98, 99, 100, 101, 102, 103, 104, 105, 106, 107, 108, 109, 110, 111, 112, 113, 114, 115, 116, 117, 118, 119, 120, 121, 122, 123, 124, 125, 126, 127, 128, 129, 130, 131, 132, 133, 134, 135, 136, 137, 138, 139, 140, 141, 142, 143, 144, 145, 146, 147, 148, 149, 150, 151, 152, 153, 154, 155, 156, 157, 158, 159, 160, 161, 162, 163, 164, 165, 166, 167, 168, 169, 170, 171, 172, 173, 174, 175, 176, 177, 178, 179, 180, 181, 182, 183, 184, 185, 186, 187, 188, 189, 190, 191, 192, 193, 194, 195, 196, 197, 198, 199, 200, 201, 202, 203, 204, 205, 206, 207, 208, 209, 210, 211, 212, 213, 214, 227, 228, 229, 230, 231, 232, 233, 234, 235, 236, 237, 238, 239, 240, 241, 242, 243, 244, 245, 246, 247, 248, 249, 250, 251, 252, 253, 254, 255, 256, 257, 258, 259, 260, 261, 262, 263, 264] (by decide +kernel) (by decide +kernel)
set_option maxRecDepth 20000 in
theorem gX9_pass_X0_passSeconds : GoodIn wsX9_pass (wsV RX9 195 RX0 yX0_passSeconds wsX0_passSeconds) := goodIn_app (goodIn_of _ (by decide +kernel)) ggX9_pass_X0_passSeconds
theorem dX9_pass_0 : decode cX9_pass 0 = .ok (.aload_n 0, 1) := by decide +kernel
theorem dX9_pass_1 : decode cX9_pass 1 = .ok (.iload_n 1, 1) := by decide +kernel
theorem dX9_pass_2 : decode cX9_pass 2 = .ok (.bipush 99, 2) := by decide +kernel
theorem dX9_pass_4 : decode cX9_pass 4 = .ok (.iconst 1, 1) := by decide +kernel
theorem dX9_pass_5 : decode cX9_pass 5 = .ok (.invokevirtual 188, 3) := by decide +kernel
theorem dX9_pass_8 : decode cX9_pass 8 = .ok (.istore_n 2, 1) := by decide +kernel
theorem dX9_pass_9 : decode cX9_pass 9 = .ok (.iload_n 2, 1) := by decide +kernel
theorem dX9_pass_10 : decode cX9_pass 10 = .ok (.ifCond .eq 5, 3) := by decide +kernel
theorem dX9_pass_13 : decode cX9_pass 13 = .ok (.iload_n 2, 1) := by decide +kernel
theorem dX9_pass_14 : decode cX9_pass 14 = .ok (.ireturn, 1) := by decide +kernel
theorem dX9_pass_15 : decode cX9_pass 15 = .ok (.aload_n 0, 1) := by decide +kernel
theorem dX9_pass_16 : decode cX9_pass 16 = .ok (.getfield 31, 3) := by decide +kernel
theorem dX9_pass_19 : decode cX9_pass 19 = .ok (.getfield 192, 3) := by decide +kernel
theorem dX9_pass_22 : decode cX9_pass 22 = .ok (.istore_n 3, 1) := by decide +kernel
theorem dX9_pass_23 : decode cX9_pass 23 = .ok (.aload_n 0, 1) := by decide +kernel
theorem dX9_pass_24 : decode cX9_pass 24 = .ok (.getfield 31, 3) := by decide +kernel
theorem dX9_pass_27 : decode cX9_pass 27 = .ok (.iload_n 1, 1) := by decide +kernel
theorem dX9_pass_28 : decode cX9_pass 28 = .ok (.invokevirtual 195, 3) := by decide +kernel
theorem dX9_pass_31 : decode cX9_pass 31 = .ok (.aload_n 0, 1) := by decide +kernel
theorem dX9_pass_32 : decode cX9_pass 32 = .ok (.getfield 31, 3) := by decide +kernel
theorem dX9_pass_35 : decode cX9_pass 35 = .ok (.getfield 192, 3) := by decide +kernel
theorem dX9_pass_38 : decode cX9_pass 38 = .ok (.iload_n 3, 1) := by decide +kernel
theorem dX9_pass_39 : decode cX9_pass 39 = .ok (.isub, 1) := by decide +kernel
theorem dX9_pass_40 : decode cX9_pass 40 = .ok (.ireturn, 1) := by decide +kernel
set_option maxRecDepth 20000 in
theorem ggX9_told_X9_within : GoodIn wsX9_told wsX9_within := goodIn_r _ [5] (by decide +kernel) (by decide +kernel)
set_option maxRecDepth 20000 in
theorem gX9_told_X9_within : GoodIn wsX9_told (va_wsS RX9 66 yX9_within wsX9_within) := goodIn_app (goodIn_of _ (by decide +kernel)) ggX9_told_X9_within
set_option maxRecDepth 20000 in
theorem ggX9_told_X0_fact : GoodIn wsX9_told wsX0_fact := goodIn_r _ [10, 11, 12, 13, 14, 15, 16, 17, 18, 19, 20, 21, 22, 23, 24, 25, 26, 27, 28, 29, 30, 31, 9, 32, 33, 34, 35, 36, 37, 38, 39, 40, 41, 42, 43, 44, 45, 46, 47, 48, 49, 50, 51, 52, 53, 54, 55, 56, 57, 58, 59, 60, 61, 62, 63, 64, 65, 66, 67, 68, 69, 70, 71, 72, 73, 86, 87, 88, 89, 90, 91, 92, 93, 94, 95, 96, 97, 98, 99, 100, 101, 102, 103, 104, 105, 106, 107, 108, 109, 110, 111, 112, 113, 114, 115, 116, 117, 118, 119, 120] (by decide +kernel) (by decide +kernel)
set_option maxRecDepth 20000 in
theorem gX9_told_X0_fact : GoodIn wsX9_told (wsV RX9 198 RX0 yX0_fact wsX0_fact) := goodIn_app (goodIn_of _ (by decide +kernel)) ggX9_told_X0_fact
theorem dX9_told_0 : decode cX9_told 0 = .ok (.iload_n 1, 1) := by decide +kernel
theorem dX9_told_1 : decode cX9_told 1 = .ok (.iconst 0, 1) := by decide +kernel
theorem dX9_told_2 : decode cX9_told 2 = .ok (.bipush 18, 2) := by decide +kernel
theorem dX9_told_4 : decode cX9_told 4 = .ok (.invokestatic 66, 3) := by decide +kernel
theorem dX9_told_7 : decode cX9_told 7 = .ok (.ifCond .eq 14, 3) := by decide +kernel
theorem dX9_told_10 : decode cX9_told 10 = .ok (.aload_n 0, 1) := by decide +kernel
theorem dX9_told_11 : decode cX9_told 11 = .ok (.getfield 31, 3) := by decide +kernel
theorem dX9_told_14 : decode cX9_told 14 = .ok (.iload_n 1, 1) := by decide +kernel
theorem dX9_told_15 : decode cX9_told 15 = .ok (.invokevirtual 198, 3) := by decide +kernel
theorem dX9_told_18 : decode cX9_told 18 = .ok (.goto 4, 3) := by decide +kernel
theorem dX9_told_21 : decode cX9_told 21 = .ok (.iconst (-1), 1) := by decide +kernel
theorem dX9_told_22 : decode cX9_told 22 = .ok (.ireturn, 1) := by decide +kernel
set_option maxRecDepth 20000 in
theorem ggX9_of_X9_isSignal : GoodIn wsX9_of wsX9_isSignal := goodIn_r _ [6, 7, 8, 9, 10, 5, 11, 59, 60, 61, 62, 63, 64, 65, 66, 67, 68, 69, 70, 71, 72, 73, 74, 75, 76, 77] (by decide +kernel) (by decide +kernel)
set_option maxRecDepth 20000 in
theorem gX9_of_X9_isSignal : GoodIn wsX9_of (wsV RX9 84 RX9 yX9_isSignal wsX9_isSignal) := goodIn_app (goodIn_of _ (by decide +kernel)) ggX9_of_X9_isSignal
set_option maxRecDepth 20000 in
theorem ggX9_of_X0_factOf : GoodIn wsX9_of wsX0_factOf := goodIn_r _ [16, 17, 18, 19, 20, 21, 22, 23, 24, 25, 26, 27, 28, 29, 30, 31, 32, 33, 34, 35, 15, 36, 37, 38, 39, 40, 41, 42, 43, 44, 45, 46, 47, 48, 49, 50, 51, 52, 53, 54, 55, 56, 57, 58, 78, 79, 80, 81, 82, 83, 84, 85, 86, 87, 88, 89, 90, 91, 92, 93, 71, 72, 73, 74, 75, 76, 77, 94, 95, 96, 97, 98, 99, 100, 101] (by decide +kernel) (by decide +kernel)
set_option maxRecDepth 20000 in
theorem gX9_of_X0_factOf : GoodIn wsX9_of (wsV RX9 201 RX0 yX0_factOf wsX0_factOf) := goodIn_app (goodIn_of _ (by decide +kernel)) ggX9_of_X0_factOf
theorem dX9_of_0 : decode cX9_of 0 = .ok (.aload_n 0, 1) := by decide +kernel
theorem dX9_of_1 : decode cX9_of 1 = .ok (.iload_n 1, 1) := by decide +kernel
theorem dX9_of_2 : decode cX9_of 2 = .ok (.invokevirtual 84, 3) := by decide +kernel
theorem dX9_of_5 : decode cX9_of 5 = .ok (.ifCond .eq 15, 3) := by decide +kernel
theorem dX9_of_8 : decode cX9_of 8 = .ok (.aload_n 0, 1) := by decide +kernel
theorem dX9_of_9 : decode cX9_of 9 = .ok (.getfield 31, 3) := by decide +kernel
theorem dX9_of_12 : decode cX9_of 12 = .ok (.iload_n 1, 1) := by decide +kernel
theorem dX9_of_13 : decode cX9_of 13 = .ok (.iload_n 2, 1) := by decide +kernel
theorem dX9_of_14 : decode cX9_of 14 = .ok (.invokevirtual 201, 3) := by decide +kernel
theorem dX9_of_17 : decode cX9_of 17 = .ok (.goto 4, 3) := by decide +kernel
theorem dX9_of_20 : decode cX9_of 20 = .ok (.iconst (-1), 1) := by decide +kernel
theorem dX9_of_21 : decode cX9_of 21 = .ok (.ireturn, 1) := by decide +kernel
set_option maxRecDepth 20000 in
theorem ggX9_way_X9_isSignal : GoodIn wsX9_way wsX9_isSignal := goodIn_r _ [7, 1, 8, 9, 10, 6, 11, 18, 19, 20, 21, 22, 23, 24, 25, 26, 27, 28, 29, 30, 31, 32, 33, 34, 35, 36] (by decide +kernel) (by decide +kernel)
set_option maxRecDepth 20000 in
theorem gX9_way_X9_isSignal : GoodIn wsX9_way (wsV RX9 84 RX9 yX9_isSignal wsX9_isSignal) := goodIn_app (goodIn_of _ (by decide +kernel)) ggX9_way_X9_isSignal
set_option maxRecDepth 20000 in
theorem ggX9_way_X9_within : GoodIn wsX9_way wsX9_within := goodIn_r _ [11] (by decide +kernel) (by decide +kernel)
set_option maxRecDepth 20000 in
theorem gX9_way_X9_within : GoodIn wsX9_way (va_wsS RX9 66 yX9_within wsX9_within) := goodIn_app (goodIn_of _ (by decide +kernel)) ggX9_way_X9_within
set_option maxRecDepth 20000 in
theorem ggX9_way_X1_cellAt : GoodIn wsX9_way wsX1_cellAt := goodIn_r _ [16, 17, 30, 31, 32, 33, 34, 35, 36] (by decide +kernel) (by decide +kernel)
set_option maxRecDepth 20000 in
theorem gX9_way_X1_cellAt : GoodIn wsX9_way (wsV RX9 204 RX1 yX1_cellAt wsX1_cellAt) := goodIn_app (goodIn_of _ (by decide +kernel)) ggX9_way_X1_cellAt
theorem dX9_way_0 : decode cX9_way 0 = .ok (.aload_n 0, 1) := by decide +kernel
theorem dX9_way_1 : decode cX9_way 1 = .ok (.iload_n 1, 1) := by decide +kernel
theorem dX9_way_2 : decode cX9_way 2 = .ok (.invokevirtual 84, 3) := by decide +kernel
theorem dX9_way_5 : decode cX9_way 5 = .ok (.ifCond .ne 5, 3) := by decide +kernel
theorem dX9_way_8 : decode cX9_way 8 = .ok (.iconst (-1), 1) := by decide +kernel
theorem dX9_way_9 : decode cX9_way 9 = .ok (.ireturn, 1) := by decide +kernel
theorem dX9_way_10 : decode cX9_way 10 = .ok (.iload_n 2, 1) := by decide +kernel
theorem dX9_way_11 : decode cX9_way 11 = .ok (.iconst 0, 1) := by decide +kernel
theorem dX9_way_12 : decode cX9_way 12 = .ok (.aload_n 0, 1) := by decide +kernel
theorem dX9_way_13 : decode cX9_way 13 = .ok (.getfield 36, 3) := by decide +kernel
theorem dX9_way_16 : decode cX9_way 16 = .ok (.getfield 94, 3) := by decide +kernel
theorem dX9_way_19 : decode cX9_way 19 = .ok (.iload_n 1, 1) := by decide +kernel
theorem dX9_way_20 : decode cX9_way 20 = .ok (.iaload, 1) := by decide +kernel
theorem dX9_way_21 : decode cX9_way 21 = .ok (.iconst 1, 1) := by decide +kernel
theorem dX9_way_22 : decode cX9_way 22 = .ok (.isub, 1) := by decide +kernel
theorem dX9_way_23 : decode cX9_way 23 = .ok (.invokestatic 66, 3) := by decide +kernel
theorem dX9_way_26 : decode cX9_way 26 = .ok (.ifCond .eq 15, 3) := by decide +kernel
theorem dX9_way_29 : decode cX9_way 29 = .ok (.aload_n 0, 1) := by decide +kernel
theorem dX9_way_30 : decode cX9_way 30 = .ok (.getfield 36, 3) := by decide +kernel
theorem dX9_way_33 : decode cX9_way 33 = .ok (.iload_n 1, 1) := by decide +kernel
theorem dX9_way_34 : decode cX9_way 34 = .ok (.iload_n 2, 1) := by decide +kernel
theorem dX9_way_35 : decode cX9_way 35 = .ok (.invokevirtual 204, 3) := by decide +kernel
theorem dX9_way_38 : decode cX9_way 38 = .ok (.goto 5, 3) := by decide +kernel
theorem dX9_way_41 : decode cX9_way 41 = .ok (.bipush (-2), 2) := by decide +kernel
theorem dX9_way_43 : decode cX9_way 43 = .ok (.ireturn, 1) := by decide +kernel
set_option maxRecDepth 20000 in
theorem ggX9_clear_X9_isSignal : GoodIn wsX9_clear wsX9_isSignal := goodIn_r _ [6, 1, 7, 8, 9, 5, 10, 23, 24, 25, 26, 27, 28, 29, 30, 31, 32, 33, 34, 35, 36, 37, 38, 39, 40, 41] (by decide +kernel) (by decide +kernel)
set_option maxRecDepth 20000 in
theorem gX9_clear_X9_isSignal : GoodIn wsX9_clear (wsV RX9 84 RX9 yX9_isSignal wsX9_isSignal) := goodIn_app (goodIn_of _ (by decide +kernel)) ggX9_clear_X9_isSignal
set_option maxRecDepth 20000 in
theorem ggX9_clear_X1_meet : GoodIn wsX9_clear wsX1_meet := goodIn_r _ [15, 16, 35, 36, 37, 38, 39, 40, 41] (by decide +kernel) (by decide +kernel)
set_option maxRecDepth 20000 in
theorem gX9_clear_X1_meet : GoodIn wsX9_clear (wsV RX9 207 RX1 yX1_meet wsX1_meet) := goodIn_app (goodIn_of _ (by decide +kernel)) ggX9_clear_X1_meet
set_option maxRecDepth 20000 in
theorem ggX9_clear_X1_clearOf : GoodIn wsX9_clear wsX1_clearOf := goodIn_r _ [20, 21, 22, 35, 36, 37, 38, 39, 40, 41] (by decide +kernel) (by decide +kernel)
set_option maxRecDepth 20000 in
theorem gX9_clear_X1_clearOf : GoodIn wsX9_clear (wsV RX9 211 RX1 yX1_clearOf wsX1_clearOf) := goodIn_app (goodIn_of _ (by decide +kernel)) ggX9_clear_X1_clearOf
theorem dX9_clear_0 : decode cX9_clear 0 = .ok (.aload_n 0, 1) := by decide +kernel
theorem dX9_clear_1 : decode cX9_clear 1 = .ok (.iload_n 1, 1) := by decide +kernel
theorem dX9_clear_2 : decode cX9_clear 2 = .ok (.invokevirtual 84, 3) := by decide +kernel
theorem dX9_clear_5 : decode cX9_clear 5 = .ok (.ifCond .eq 11, 3) := by decide +kernel
theorem dX9_clear_8 : decode cX9_clear 8 = .ok (.aload_n 0, 1) := by decide +kernel
theorem dX9_clear_9 : decode cX9_clear 9 = .ok (.iload_n 2, 1) := by decide +kernel
theorem dX9_clear_10 : decode cX9_clear 10 = .ok (.invokevirtual 84, 3) := by decide +kernel
theorem dX9_clear_13 : decode cX9_clear 13 = .ok (.ifCond .ne 5, 3) := by decide +kernel
theorem dX9_clear_16 : decode cX9_clear 16 = .ok (.iconst (-1), 1) := by decide +kernel
theorem dX9_clear_17 : decode cX9_clear 17 = .ok (.ireturn, 1) := by decide +kernel
theorem dX9_clear_18 : decode cX9_clear 18 = .ok (.aload_n 0, 1) := by decide +kernel
theorem dX9_clear_19 : decode cX9_clear 19 = .ok (.getfield 36, 3) := by decide +kernel
theorem dX9_clear_22 : decode cX9_clear 22 = .ok (.iload_n 1, 1) := by decide +kernel
theorem dX9_clear_23 : decode cX9_clear 23 = .ok (.iload_n 2, 1) := by decide +kernel
theorem dX9_clear_24 : decode cX9_clear 24 = .ok (.invokevirtual 207, 3) := by decide +kernel
theorem dX9_clear_27 : decode cX9_clear 27 = .ok (.ifCond .eq 15, 3) := by decide +kernel
theorem dX9_clear_30 : decode cX9_clear 30 = .ok (.aload_n 0, 1) := by decide +kernel
theorem dX9_clear_31 : decode cX9_clear 31 = .ok (.getfield 36, 3) := by decide +kernel
theorem dX9_clear_34 : decode cX9_clear 34 = .ok (.iload_n 1, 1) := by decide +kernel
theorem dX9_clear_35 : decode cX9_clear 35 = .ok (.iload_n 2, 1) := by decide +kernel
theorem dX9_clear_36 : decode cX9_clear 36 = .ok (.invokevirtual 211, 3) := by decide +kernel
theorem dX9_clear_39 : decode cX9_clear 39 = .ok (.goto 5, 3) := by decide +kernel
theorem dX9_clear_42 : decode cX9_clear 42 = .ok (.bipush (-5), 2) := by decide +kernel
theorem dX9_clear_44 : decode cX9_clear 44 = .ok (.ireturn, 1) := by decide +kernel
set_option maxRecDepth 20000 in
theorem ggX9_narrow_X9_isSignal : GoodIn wsX9_narrow wsX9_isSignal := goodIn_r _ [7, 1, 8, 9, 10, 6, 11, 12, 13, 14, 15, 16, 17, 18, 19, 20, 21, 22, 23, 24, 25, 26, 27, 28, 29, 30] (by decide +kernel) (by decide +kernel)
set_option maxRecDepth 20000 in
theorem gX9_narrow_X9_isSignal : GoodIn wsX9_narrow (wsV RX9 84 RX9 yX9_isSignal wsX9_isSignal) := goodIn_app (goodIn_of _ (by decide +kernel)) ggX9_narrow_X9_isSignal
theorem dX9_narrow_0 : decode cX9_narrow 0 = .ok (.aload_n 0, 1) := by decide +kernel
theorem dX9_narrow_1 : decode cX9_narrow 1 = .ok (.iload_n 1, 1) := by decide +kernel
theorem dX9_narrow_2 : decode cX9_narrow 2 = .ok (.invokevirtual 84, 3) := by decide +kernel
theorem dX9_narrow_5 : decode cX9_narrow 5 = .ok (.ifCond .eq 11, 3) := by decide +kernel
theorem dX9_narrow_8 : decode cX9_narrow 8 = .ok (.aload_n 0, 1) := by decide +kernel
theorem dX9_narrow_9 : decode cX9_narrow 9 = .ok (.iload_n 2, 1) := by decide +kernel
theorem dX9_narrow_10 : decode cX9_narrow 10 = .ok (.invokevirtual 84, 3) := by decide +kernel
theorem dX9_narrow_13 : decode cX9_narrow 13 = .ok (.ifCond .ne 5, 3) := by decide +kernel
theorem dX9_narrow_16 : decode cX9_narrow 16 = .ok (.iconst (-1), 1) := by decide +kernel
theorem dX9_narrow_17 : decode cX9_narrow 17 = .ok (.ireturn, 1) := by decide +kernel
theorem dX9_narrow_18 : decode cX9_narrow 18 = .ok (.aload_n 0, 1) := by decide +kernel
theorem dX9_narrow_19 : decode cX9_narrow 19 = .ok (.getfield 36, 3) := by decide +kernel
theorem dX9_narrow_22 : decode cX9_narrow 22 = .ok (.getfield 214, 3) := by decide +kernel
theorem dX9_narrow_25 : decode cX9_narrow 25 = .ok (.iload_n 1, 1) := by decide +kernel
theorem dX9_narrow_26 : decode cX9_narrow 26 = .ok (.bipush 8, 2) := by decide +kernel
theorem dX9_narrow_28 : decode cX9_narrow 28 = .ok (.imul, 1) := by decide +kernel
theorem dX9_narrow_29 : decode cX9_narrow 29 = .ok (.iload_n 2, 1) := by decide +kernel
theorem dX9_narrow_30 : decode cX9_narrow 30 = .ok (.iadd, 1) := by decide +kernel
theorem dX9_narrow_31 : decode cX9_narrow 31 = .ok (.iaload, 1) := by decide +kernel
theorem dX9_narrow_32 : decode cX9_narrow 32 = .ok (.ireturn, 1) := by decide +kernel
set_option maxRecDepth 20000 in
theorem ggX9_table_X1_meetings : GoodIn wsX9_table wsX1_meetings := goodIn_r _ [8, 9, 10, 11, 12, 7, 13, 14, 15, 16, 17, 18, 19, 20, 21, 22, 23, 24, 25, 74, 75, 76, 77, 78, 79, 80] (by decide +kernel) (by decide +kernel)
set_option maxRecDepth 20000 in
theorem gX9_table_X1_meetings : GoodIn wsX9_table (wsV RX9 217 RX1 yX1_meetings wsX1_meetings) := goodIn_app (goodIn_of _ (by decide +kernel)) ggX9_table_X1_meetings
set_option maxRecDepth 20000 in
theorem ggX9_table_X1_greatestClear : GoodIn wsX9_table wsX1_greatestClear := goodIn_r _ [29, 9, 30, 31, 32, 33, 14, 15, 16, 7, 17, 18, 34, 35, 36, 37, 38, 39, 74, 75, 76, 77, 78, 79, 80] (by decide +kernel) (by decide +kernel)
set_option maxRecDepth 20000 in
theorem gX9_table_X1_greatestClear : GoodIn wsX9_table (wsV RX9 221 RX1 yX1_greatestClear wsX1_greatestClear) := goodIn_app (goodIn_of _ (by decide +kernel)) ggX9_table_X1_greatestClear
set_option maxRecDepth 20000 in
theorem ggX9_table_X1_allClears : GoodIn wsX9_table wsX1_allClears := goodIn_r _ [43, 9, 14, 15, 16, 7, 17, 18, 34, 35, 36, 37, 38, 39, 74, 75, 76, 77, 78, 79, 80] (by decide +kernel) (by decide +kernel)
set_option maxRecDepth 20000 in
theorem gX9_table_X1_allClears : GoodIn wsX9_table (wsV RX9 224 RX1 yX1_allClears wsX1_allClears) := goodIn_app (goodIn_of _ (by decide +kernel)) ggX9_table_X1_allClears
set_option maxRecDepth 20000 in
theorem ggX9_table_X9_greatestMost : GoodIn wsX9_table wsX9_greatestMost := goodIn_r _ [48, 1, 49, 50, 51, 31, 32, 33, 52, 53, 54, 55, 56, 57, 58, 59, 60, 61, 62, 63, 64, 65, 66, 67, 68, 69, 74, 75, 76, 77, 78, 79, 80, 81, 82, 83, 84, 85, 86, 87, 88] (by decide +kernel) (by decide +kernel)
set_option maxRecDepth 20000 in
theorem gX9_table_X9_greatestMost : GoodIn wsX9_table (wsV RX9 227 RX9 yX9_greatestMost wsX9_greatestMost) := goodIn_app (goodIn_of _ (by decide +kernel)) ggX9_table_X9_greatestMost
theorem dX9_table_0 : decode cX9_table 0 = .ok (.iload_n 1, 1) := by decide +kernel
theorem dX9_table_1 : decode cX9_table 1 = .ok (.tableswitch 80 0 3 #[31, 39, 47, 55], 31) := by decide +kernel
theorem dX9_table_32 : decode cX9_table 32 = .ok (.aload_n 0, 1) := by decide +kernel
theorem dX9_table_33 : decode cX9_table 33 = .ok (.getfield 36, 3) := by decide +kernel
theorem dX9_table_36 : decode cX9_table 36 = .ok (.invokevirtual 217, 3) := by decide +kernel
theorem dX9_table_39 : decode cX9_table 39 = .ok (.ireturn, 1) := by decide +kernel
theorem dX9_table_40 : decode cX9_table 40 = .ok (.aload_n 0, 1) := by decide +kernel
theorem dX9_table_41 : decode cX9_table 41 = .ok (.getfield 36, 3) := by decide +kernel
theorem dX9_table_44 : decode cX9_table 44 = .ok (.invokevirtual 221, 3) := by decide +kernel
theorem dX9_table_47 : decode cX9_table 47 = .ok (.ireturn, 1) := by decide +kernel
theorem dX9_table_48 : decode cX9_table 48 = .ok (.aload_n 0, 1) := by decide +kernel
theorem dX9_table_49 : decode cX9_table 49 = .ok (.getfield 36, 3) := by decide +kernel
theorem dX9_table_52 : decode cX9_table 52 = .ok (.invokevirtual 224, 3) := by decide +kernel
theorem dX9_table_55 : decode cX9_table 55 = .ok (.ireturn, 1) := by decide +kernel
theorem dX9_table_56 : decode cX9_table 56 = .ok (.aload_n 0, 1) := by decide +kernel
theorem dX9_table_57 : decode cX9_table 57 = .ok (.getfield 46, 3) := by decide +kernel
theorem dX9_table_60 : decode cX9_table 60 = .ok (.getfield 91, 3) := by decide +kernel
theorem dX9_table_63 : decode cX9_table 63 = .ok (.iconst 1, 1) := by decide +kernel
theorem dX9_table_64 : decode cX9_table 64 = .ok (.iadd, 1) := by decide +kernel
theorem dX9_table_65 : decode cX9_table 65 = .ok (.aload_n 0, 1) := by decide +kernel
theorem dX9_table_66 : decode cX9_table 66 = .ok (.getfield 36, 3) := by decide +kernel
theorem dX9_table_69 : decode cX9_table 69 = .ok (.invokevirtual 221, 3) := by decide +kernel
theorem dX9_table_72 : decode cX9_table 72 = .ok (.aload_n 0, 1) := by decide +kernel
theorem dX9_table_73 : decode cX9_table 73 = .ok (.invokevirtual 227, 3) := by decide +kernel
theorem dX9_table_76 : decode cX9_table 76 = .ok (.iadd, 1) := by decide +kernel
theorem dX9_table_77 : decode cX9_table 77 = .ok (.iconst 1, 1) := by decide +kernel
theorem dX9_table_78 : decode cX9_table 78 = .ok (.iadd, 1) := by decide +kernel
theorem dX9_table_79 : decode cX9_table 79 = .ok (.imul, 1) := by decide +kernel
theorem dX9_table_80 : decode cX9_table 80 = .ok (.ireturn, 1) := by decide +kernel
theorem dX9_table_81 : decode cX9_table 81 = .ok (.iconst (-1), 1) := by decide +kernel
theorem dX9_table_82 : decode cX9_table 82 = .ok (.ireturn, 1) := by decide +kernel
set_option maxRecDepth 20000 in
theorem ggX9_greatestMost_X5_rule : GoodIn wsX9_greatestMost wsX5_rule := goodIn_r _ [12, 13, 33, 34, 35, 36, 37, 38, 39, 40] (by decide +kernel) (by decide +kernel)
set_option maxRecDepth 20000 in
theorem gX9_greatestMost_X5_rule : GoodIn wsX9_greatestMost (wsV RX9 109 RX5 yX5_rule wsX5_rule) := goodIn_app (goodIn_of _ (by decide +kernel)) ggX9_greatestMost_X5_rule
theorem dX9_greatestMost_0 : decode cX9_greatestMost 0 = .ok (.iconst 0, 1) := by decide +kernel
theorem dX9_greatestMost_1 : decode cX9_greatestMost 1 = .ok (.istore_n 1, 1) := by decide +kernel
theorem dX9_greatestMost_2 : decode cX9_greatestMost 2 = .ok (.iconst 0, 1) := by decide +kernel
theorem dX9_greatestMost_3 : decode cX9_greatestMost 3 = .ok (.istore_n 2, 1) := by decide +kernel
theorem dX9_greatestMost_4 : decode cX9_greatestMost 4 = .ok (.iload_n 2, 1) := by decide +kernel
theorem dX9_greatestMost_5 : decode cX9_greatestMost 5 = .ok (.aload_n 0, 1) := by decide +kernel
theorem dX9_greatestMost_6 : decode cX9_greatestMost 6 = .ok (.getfield 36, 3) := by decide +kernel
theorem dX9_greatestMost_9 : decode cX9_greatestMost 9 = .ok (.getfield 74, 3) := by decide +kernel
theorem dX9_greatestMost_12 : decode cX9_greatestMost 12 = .ok (.if_icmp .ge 23, 3) := by decide +kernel
theorem dX9_greatestMost_15 : decode cX9_greatestMost 15 = .ok (.iload_n 1, 1) := by decide +kernel
theorem dX9_greatestMost_16 : decode cX9_greatestMost 16 = .ok (.aload_n 0, 1) := by decide +kernel
theorem dX9_greatestMost_17 : decode cX9_greatestMost 17 = .ok (.getfield 41, 3) := by decide +kernel
theorem dX9_greatestMost_20 : decode cX9_greatestMost 20 = .ok (.iload_n 2, 1) := by decide +kernel
theorem dX9_greatestMost_21 : decode cX9_greatestMost 21 = .ok (.iconst 1, 1) := by decide +kernel
theorem dX9_greatestMost_22 : decode cX9_greatestMost 22 = .ok (.invokevirtual 109, 3) := by decide +kernel
theorem dX9_greatestMost_25 : decode cX9_greatestMost 25 = .ok (.invokestatic 230, 3) := by decide +kernel
theorem dX9_greatestMost_28 : decode cX9_greatestMost 28 = .ok (.istore_n 1, 1) := by decide +kernel
theorem dX9_greatestMost_29 : decode cX9_greatestMost 29 = .ok (.iinc 2 1, 3) := by decide +kernel
theorem dX9_greatestMost_32 : decode cX9_greatestMost 32 = .ok (.goto (-28), 3) := by decide +kernel
theorem dX9_greatestMost_35 : decode cX9_greatestMost 35 = .ok (.iload_n 1, 1) := by decide +kernel
theorem dX9_greatestMost_36 : decode cX9_greatestMost 36 = .ok (.ireturn, 1) := by decide +kernel
set_option maxRecDepth 20000 in
theorem ggX9_phaseOf_X9_within : GoodIn wsX9_phaseOf wsX9_within := goodIn_r _ [10] (by decide +kernel) (by decide +kernel)
set_option maxRecDepth 20000 in
theorem gX9_phaseOf_X9_within : GoodIn wsX9_phaseOf (va_wsS RX9 66 yX9_within wsX9_within) := goodIn_app (goodIn_of _ (by decide +kernel)) ggX9_phaseOf_X9_within
set_option maxRecDepth 20000 in
theorem ggX9_phaseOf_X0_calledPhases : GoodIn wsX9_phaseOf wsX0_calledPhases := goodIn_r _ [15, 16, 17, 18, 19, 20, 21, 22, 23, 24, 25, 26, 27, 28, 29, 30, 31, 32, 33, 53, 54, 55, 56, 57, 58, 59, 60, 61, 62, 63, 64, 65, 66, 67, 68, 49, 50, 51, 52, 69, 70, 71, 72, 73, 74, 75, 76] (by decide +kernel) (by decide +kernel)
set_option maxRecDepth 20000 in
theorem gX9_phaseOf_X0_calledPhases : GoodIn wsX9_phaseOf (wsV RX9 244 RX0 yX0_calledPhases wsX0_calledPhases) := goodIn_app (goodIn_of _ (by decide +kernel)) ggX9_phaseOf_X0_calledPhases
set_option maxRecDepth 20000 in
theorem ggX9_phaseOf_X9_isIn : GoodIn wsX9_phaseOf wsX9_isIn := goodIn_r _ [36] (by decide +kernel) (by decide +kernel)
set_option maxRecDepth 20000 in
theorem gX9_phaseOf_X9_isIn : GoodIn wsX9_phaseOf (va_wsS RX9 247 yX9_isIn wsX9_isIn) := goodIn_app (goodIn_of _ (by decide +kernel)) ggX9_phaseOf_X9_isIn
theorem dX9_phaseOf_0 : decode cX9_phaseOf 0 = .ok (.iload_n 1, 1) := by decide +kernel
theorem dX9_phaseOf_1 : decode cX9_phaseOf 1 = .ok (.iconst 0, 1) := by decide +kernel
theorem dX9_phaseOf_2 : decode cX9_phaseOf 2 = .ok (.aload_n 0, 1) := by decide +kernel
theorem dX9_phaseOf_3 : decode cX9_phaseOf 3 = .ok (.getfield 46, 3) := by decide +kernel
theorem dX9_phaseOf_6 : decode cX9_phaseOf 6 = .ok (.getfield 91, 3) := by decide +kernel
theorem dX9_phaseOf_9 : decode cX9_phaseOf 9 = .ok (.iconst 1, 1) := by decide +kernel
theorem dX9_phaseOf_10 : decode cX9_phaseOf 10 = .ok (.isub, 1) := by decide +kernel
theorem dX9_phaseOf_11 : decode cX9_phaseOf 11 = .ok (.invokestatic 66, 3) := by decide +kernel
theorem dX9_phaseOf_14 : decode cX9_phaseOf 14 = .ok (.ifCond .ne 5, 3) := by decide +kernel
theorem dX9_phaseOf_17 : decode cX9_phaseOf 17 = .ok (.iconst (-1), 1) := by decide +kernel
theorem dX9_phaseOf_18 : decode cX9_phaseOf 18 = .ok (.ireturn, 1) := by decide +kernel
theorem dX9_phaseOf_19 : decode cX9_phaseOf 19 = .ok (.iload_n 2, 1) := by decide +kernel
theorem dX9_phaseOf_20 : decode cX9_phaseOf 20 = .ok (.tableswitch 82 0 3 #[32, 42, 52, 62], 32) := by decide +kernel
theorem dX9_phaseOf_52 : decode cX9_phaseOf 52 = .ok (.aload_n 0, 1) := by decide +kernel
theorem dX9_phaseOf_53 : decode cX9_phaseOf 53 = .ok (.getfield 46, 3) := by decide +kernel
theorem dX9_phaseOf_56 : decode cX9_phaseOf 56 = .ok (.getfield 235, 3) := by decide +kernel
theorem dX9_phaseOf_59 : decode cX9_phaseOf 59 = .ok (.iload_n 1, 1) := by decide +kernel
theorem dX9_phaseOf_60 : decode cX9_phaseOf 60 = .ok (.iaload, 1) := by decide +kernel
theorem dX9_phaseOf_61 : decode cX9_phaseOf 61 = .ok (.ireturn, 1) := by decide +kernel
theorem dX9_phaseOf_62 : decode cX9_phaseOf 62 = .ok (.aload_n 0, 1) := by decide +kernel
theorem dX9_phaseOf_63 : decode cX9_phaseOf 63 = .ok (.getfield 46, 3) := by decide +kernel
theorem dX9_phaseOf_66 : decode cX9_phaseOf 66 = .ok (.getfield 238, 3) := by decide +kernel
theorem dX9_phaseOf_69 : decode cX9_phaseOf 69 = .ok (.iload_n 1, 1) := by decide +kernel
theorem dX9_phaseOf_70 : decode cX9_phaseOf 70 = .ok (.iaload, 1) := by decide +kernel
theorem dX9_phaseOf_71 : decode cX9_phaseOf 71 = .ok (.ireturn, 1) := by decide +kernel
theorem dX9_phaseOf_72 : decode cX9_phaseOf 72 = .ok (.aload_n 0, 1) := by decide +kernel
theorem dX9_phaseOf_73 : decode cX9_phaseOf 73 = .ok (.getfield 46, 3) := by decide +kernel
theorem dX9_phaseOf_76 : decode cX9_phaseOf 76 = .ok (.getfield 241, 3) := by decide +kernel
theorem dX9_phaseOf_79 : decode cX9_phaseOf 79 = .ok (.iload_n 1, 1) := by decide +kernel
theorem dX9_phaseOf_80 : decode cX9_phaseOf 80 = .ok (.iaload, 1) := by decide +kernel
theorem dX9_phaseOf_81 : decode cX9_phaseOf 81 = .ok (.ireturn, 1) := by decide +kernel
theorem dX9_phaseOf_82 : decode cX9_phaseOf 82 = .ok (.aload_n 0, 1) := by decide +kernel
theorem dX9_phaseOf_83 : decode cX9_phaseOf 83 = .ok (.getfield 31, 3) := by decide +kernel
theorem dX9_phaseOf_86 : decode cX9_phaseOf 86 = .ok (.invokevirtual 244, 3) := by decide +kernel
theorem dX9_phaseOf_89 : decode cX9_phaseOf 89 = .ok (.iload_n 1, 1) := by decide +kernel
theorem dX9_phaseOf_90 : decode cX9_phaseOf 90 = .ok (.invokestatic 247, 3) := by decide +kernel
theorem dX9_phaseOf_93 : decode cX9_phaseOf 93 = .ok (.ifCond .eq 7, 3) := by decide +kernel
theorem dX9_phaseOf_96 : decode cX9_phaseOf 96 = .ok (.iconst 1, 1) := by decide +kernel
theorem dX9_phaseOf_97 : decode cX9_phaseOf 97 = .ok (.goto 4, 3) := by decide +kernel
theorem dX9_phaseOf_100 : decode cX9_phaseOf 100 = .ok (.iconst 0, 1) := by decide +kernel
theorem dX9_phaseOf_101 : decode cX9_phaseOf 101 = .ok (.ireturn, 1) := by decide +kernel
theorem dX9_phaseOf_102 : decode cX9_phaseOf 102 = .ok (.iconst (-1), 1) := by decide +kernel
theorem dX9_phaseOf_103 : decode cX9_phaseOf 103 = .ok (.ireturn, 1) := by decide +kernel
set_option maxRecDepth 20000 in
theorem ggX9_taken_X9_isSignal : GoodIn wsX9_taken wsX9_isSignal := goodIn_r _ [8, 2, 9, 10, 11, 7, 12, 16, 17, 18, 19, 20, 21, 22, 23, 24, 25, 26, 27, 28, 29, 30, 31, 32, 33, 34] (by decide +kernel) (by decide +kernel)
set_option maxRecDepth 20000 in
theorem gX9_taken_X9_isSignal : GoodIn wsX9_taken (wsV RX9 84 RX9 yX9_isSignal wsX9_isSignal) := goodIn_app (goodIn_of _ (by decide +kernel)) ggX9_taken_X9_isSignal
set_option maxRecDepth 20000 in
theorem ggX9_taken_X9_within : GoodIn wsX9_taken wsX9_within := goodIn_r _ [12] (by decide +kernel) (by decide +kernel)
set_option maxRecDepth 20000 in
theorem gX9_taken_X9_within : GoodIn wsX9_taken (va_wsS RX9 66 yX9_within wsX9_within) := goodIn_app (goodIn_of _ (by decide +kernel)) ggX9_taken_X9_within
set_option maxRecDepth 20000 in
theorem ggX9_taken_X9_isIn : GoodIn wsX9_taken wsX9_isIn := goodIn_r _ [15] (by decide +kernel) (by decide +kernel)
set_option maxRecDepth 20000 in
theorem gX9_taken_X9_isIn : GoodIn wsX9_taken (va_wsS RX9 247 yX9_isIn wsX9_isIn) := goodIn_app (goodIn_of _ (by decide +kernel)) ggX9_taken_X9_isIn
theorem dX9_taken_0 : decode cX9_taken 0 = .ok (.aload_n 0, 1) := by decide +kernel
theorem dX9_taken_1 : decode cX9_taken 1 = .ok (.iload_n 1, 1) := by decide +kernel
theorem dX9_taken_2 : decode cX9_taken 2 = .ok (.invokevirtual 84, 3) := by decide +kernel
theorem dX9_taken_5 : decode cX9_taken 5 = .ok (.ifCond .ne 5, 3) := by decide +kernel
theorem dX9_taken_8 : decode cX9_taken 8 = .ok (.iconst (-1), 1) := by decide +kernel
theorem dX9_taken_9 : decode cX9_taken 9 = .ok (.ireturn, 1) := by decide +kernel
theorem dX9_taken_10 : decode cX9_taken 10 = .ok (.iload_n 2, 1) := by decide +kernel
theorem dX9_taken_11 : decode cX9_taken 11 = .ok (.iconst 0, 1) := by decide +kernel
theorem dX9_taken_12 : decode cX9_taken 12 = .ok (.getstatic 250, 3) := by decide +kernel
theorem dX9_taken_15 : decode cX9_taken 15 = .ok (.arraylength, 1) := by decide +kernel
theorem dX9_taken_16 : decode cX9_taken 16 = .ok (.iconst 1, 1) := by decide +kernel
theorem dX9_taken_17 : decode cX9_taken 17 = .ok (.isub, 1) := by decide +kernel
theorem dX9_taken_18 : decode cX9_taken 18 = .ok (.invokestatic 66, 3) := by decide +kernel
theorem dX9_taken_21 : decode cX9_taken 21 = .ok (.ifCond .ne 6, 3) := by decide +kernel
theorem dX9_taken_24 : decode cX9_taken 24 = .ok (.bipush (-2), 2) := by decide +kernel
theorem dX9_taken_26 : decode cX9_taken 26 = .ok (.ireturn, 1) := by decide +kernel
theorem dX9_taken_27 : decode cX9_taken 27 = .ok (.aload_n 0, 1) := by decide +kernel
theorem dX9_taken_28 : decode cX9_taken 28 = .ok (.getfield 36, 3) := by decide +kernel
theorem dX9_taken_31 : decode cX9_taken 31 = .ok (.getfield 253, 3) := by decide +kernel
theorem dX9_taken_34 : decode cX9_taken 34 = .ok (.iload_n 1, 1) := by decide +kernel
theorem dX9_taken_35 : decode cX9_taken 35 = .ok (.iaload, 1) := by decide +kernel
theorem dX9_taken_36 : decode cX9_taken 36 = .ok (.istore_n 3, 1) := by decide +kernel
theorem dX9_taken_37 : decode cX9_taken 37 = .ok (.getstatic 250, 3) := by decide +kernel
theorem dX9_taken_40 : decode cX9_taken 40 = .ok (.iload_n 2, 1) := by decide +kernel
theorem dX9_taken_41 : decode cX9_taken 41 = .ok (.iaload, 1) := by decide +kernel
theorem dX9_taken_42 : decode cX9_taken 42 = .ok (.iload_n 3, 1) := by decide +kernel
theorem dX9_taken_43 : decode cX9_taken 43 = .ok (.invokestatic 247, 3) := by decide +kernel
theorem dX9_taken_46 : decode cX9_taken 46 = .ok (.ifCond .eq 7, 3) := by decide +kernel
theorem dX9_taken_49 : decode cX9_taken 49 = .ok (.iload_n 3, 1) := by decide +kernel
theorem dX9_taken_50 : decode cX9_taken 50 = .ok (.goto 5, 3) := by decide +kernel
theorem dX9_taken_53 : decode cX9_taken 53 = .ok (.bipush (-12), 2) := by decide +kernel
theorem dX9_taken_55 : decode cX9_taken 55 = .ok (.ireturn, 1) := by decide +kernel
set_option maxRecDepth 20000 in
theorem ggX9_recorded_X9_within : GoodIn wsX9_recorded wsX9_within := goodIn_r _ [7] (by decide +kernel) (by decide +kernel)
set_option maxRecDepth 20000 in
theorem gX9_recorded_X9_within : GoodIn wsX9_recorded (va_wsS RX9 66 yX9_within wsX9_within) := goodIn_app (goodIn_of _ (by decide +kernel)) ggX9_recorded_X9_within
set_option maxRecDepth 20000 in
theorem ggX9_recorded_X4_at : GoodIn wsX9_recorded wsX4_at := goodIn_r _ [12, 13, 42, 43, 44] (by decide +kernel) (by decide +kernel)
set_option maxRecDepth 20000 in
theorem gX9_recorded_X4_at : GoodIn wsX9_recorded (wsV RX9 261 RX4 yX4_at wsX4_at) := goodIn_app (goodIn_of _ (by decide +kernel)) ggX9_recorded_X4_at
theorem dX9_recorded_0 : decode cX9_recorded 0 = .ok (.iload_n 2, 1) := by decide +kernel
theorem dX9_recorded_1 : decode cX9_recorded 1 = .ok (.iconst 0, 1) := by decide +kernel
theorem dX9_recorded_2 : decode cX9_recorded 2 = .ok (.iconst 2, 1) := by decide +kernel
theorem dX9_recorded_3 : decode cX9_recorded 3 = .ok (.invokestatic 66, 3) := by decide +kernel
theorem dX9_recorded_6 : decode cX9_recorded 6 = .ok (.ifCond .ne 5, 3) := by decide +kernel
theorem dX9_recorded_9 : decode cX9_recorded 9 = .ok (.iconst (-1), 1) := by decide +kernel
theorem dX9_recorded_10 : decode cX9_recorded 10 = .ok (.ireturn, 1) := by decide +kernel
theorem dX9_recorded_11 : decode cX9_recorded 11 = .ok (.aload_n 0, 1) := by decide +kernel
theorem dX9_recorded_12 : decode cX9_recorded 12 = .ok (.getfield 31, 3) := by decide +kernel
theorem dX9_recorded_15 : decode cX9_recorded 15 = .ok (.getfield 254, 3) := by decide +kernel
theorem dX9_recorded_18 : decode cX9_recorded 18 = .ok (.astore_n 3, 1) := by decide +kernel
theorem dX9_recorded_19 : decode cX9_recorded 19 = .ok (.iload_n 1, 1) := by decide +kernel
theorem dX9_recorded_20 : decode cX9_recorded 20 = .ok (.iconst 0, 1) := by decide +kernel
theorem dX9_recorded_21 : decode cX9_recorded 21 = .ok (.aload_n 3, 1) := by decide +kernel
theorem dX9_recorded_22 : decode cX9_recorded 22 = .ok (.getfield 258, 3) := by decide +kernel
theorem dX9_recorded_25 : decode cX9_recorded 25 = .ok (.iconst 1, 1) := by decide +kernel
theorem dX9_recorded_26 : decode cX9_recorded 26 = .ok (.isub, 1) := by decide +kernel
theorem dX9_recorded_27 : decode cX9_recorded 27 = .ok (.invokestatic 66, 3) := by decide +kernel
theorem dX9_recorded_30 : decode cX9_recorded 30 = .ok (.ifCond .eq 19, 3) := by decide +kernel
theorem dX9_recorded_33 : decode cX9_recorded 33 = .ok (.aload_n 3, 1) := by decide +kernel
theorem dX9_recorded_34 : decode cX9_recorded 34 = .ok (.aload_n 3, 1) := by decide +kernel
theorem dX9_recorded_35 : decode cX9_recorded 35 = .ok (.getfield 258, 3) := by decide +kernel
theorem dX9_recorded_38 : decode cX9_recorded 38 = .ok (.iconst 1, 1) := by decide +kernel
theorem dX9_recorded_39 : decode cX9_recorded 39 = .ok (.isub, 1) := by decide +kernel
theorem dX9_recorded_40 : decode cX9_recorded 40 = .ok (.iload_n 1, 1) := by decide +kernel
theorem dX9_recorded_41 : decode cX9_recorded 41 = .ok (.isub, 1) := by decide +kernel
theorem dX9_recorded_42 : decode cX9_recorded 42 = .ok (.iload_n 2, 1) := by decide +kernel
theorem dX9_recorded_43 : decode cX9_recorded 43 = .ok (.invokevirtual 261, 3) := by decide +kernel
theorem dX9_recorded_46 : decode cX9_recorded 46 = .ok (.goto 5, 3) := by decide +kernel
theorem dX9_recorded_49 : decode cX9_recorded 49 = .ok (.bipush (-2), 2) := by decide +kernel
theorem dX9_recorded_51 : decode cX9_recorded 51 = .ok (.ireturn, 1) := by decide +kernel
set_option maxRecDepth 20000 in
theorem ggX9_greens_X9_isSignal : GoodIn wsX9_greens wsX9_isSignal := goodIn_r _ [6, 7, 8, 9, 10, 5, 11, 45, 46, 47, 48, 49, 50, 51, 52, 53, 54, 55, 56, 57, 58, 59, 60, 61, 62, 63] (by decide +kernel) (by decide +kernel)
set_option maxRecDepth 20000 in
theorem gX9_greens_X9_isSignal : GoodIn wsX9_greens (wsV RX9 84 RX9 yX9_isSignal wsX9_isSignal) := goodIn_app (goodIn_of _ (by decide +kernel)) ggX9_greens_X9_isSignal
set_option maxRecDepth 20000 in
theorem ggX9_greens_X0_recordedGreens : GoodIn wsX9_greens wsX0_recordedGreens := goodIn_r _ [16, 17, 18, 19, 20, 21, 22, 23, 24, 64, 65, 66, 67, 68, 69, 70, 71, 72, 73, 74, 75, 76, 77, 78, 79, 80, 81, 82] (by decide +kernel) (by decide +kernel)
set_option maxRecDepth 20000 in
theorem gX9_greens_X0_recordedGreens : GoodIn wsX9_greens (wsV RX9 264 RX0 yX0_recordedGreens wsX0_recordedGreens) := goodIn_app (goodIn_of _ (by decide +kernel)) ggX9_greens_X0_recordedGreens
set_option maxRecDepth 20000 in
theorem ggX9_greens_X0_recordedTime : GoodIn wsX9_greens wsX0_recordedTime := goodIn_r _ [28, 17, 18, 19, 20, 21, 22, 23, 24, 29, 30, 31, 15, 32, 64, 65, 66, 67, 68, 69, 70, 71, 72, 73, 74, 75, 76, 77, 78, 79, 80, 81, 82] (by decide +kernel) (by decide +kernel)
set_option maxRecDepth 20000 in
theorem gX9_greens_X0_recordedTime : GoodIn wsX9_greens (wsV RX9 267 RX0 yX0_recordedTime wsX0_recordedTime) := goodIn_app (goodIn_of _ (by decide +kernel)) ggX9_greens_X0_recordedTime
set_option maxRecDepth 20000 in
theorem ggX9_greens_X0_shortestGreen : GoodIn wsX9_greens wsX0_shortestGreen := goodIn_r _ [36, 17, 18, 19, 20, 21, 22, 23, 24, 29, 30, 31, 15, 32, 64, 65, 66, 67, 68, 69, 70, 71, 72, 73, 74, 75, 76, 77, 78, 79, 80, 81, 82] (by decide +kernel) (by decide +kernel)
set_option maxRecDepth 20000 in
theorem gX9_greens_X0_shortestGreen : GoodIn wsX9_greens (wsV RX9 270 RX0 yX0_shortestGreen wsX0_shortestGreen) := goodIn_app (goodIn_of _ (by decide +kernel)) ggX9_greens_X0_shortestGreen
set_option maxRecDepth 20000 in
theorem ggX9_greens_X0_longestGreen : GoodIn wsX9_greens wsX0_longestGreen := goodIn_r _ [40, 17, 18, 41, 42, 43, 44, 19, 20, 21, 22, 23, 24, 29, 30, 31, 15, 32, 64, 65, 66, 67, 68, 69, 70, 71, 72, 73, 74, 75, 76, 77, 78, 79, 80, 81, 82] (by decide +kernel) (by decide +kernel)
set_option maxRecDepth 20000 in
theorem gX9_greens_X0_longestGreen : GoodIn wsX9_greens (wsV RX9 273 RX0 yX0_longestGreen wsX0_longestGreen) := goodIn_app (goodIn_of _ (by decide +kernel)) ggX9_greens_X0_longestGreen
theorem dX9_greens_0 : decode cX9_greens 0 = .ok (.aload_n 0, 1) := by decide +kernel
theorem dX9_greens_1 : decode cX9_greens 1 = .ok (.iload_n 1, 1) := by decide +kernel
theorem dX9_greens_2 : decode cX9_greens 2 = .ok (.invokevirtual 84, 3) := by decide +kernel
theorem dX9_greens_5 : decode cX9_greens 5 = .ok (.ifCond .ne 5, 3) := by decide +kernel
theorem dX9_greens_8 : decode cX9_greens 8 = .ok (.iconst (-1), 1) := by decide +kernel
theorem dX9_greens_9 : decode cX9_greens 9 = .ok (.ireturn, 1) := by decide +kernel
theorem dX9_greens_10 : decode cX9_greens 10 = .ok (.iload_n 2, 1) := by decide +kernel
theorem dX9_greens_11 : decode cX9_greens 11 = .ok (.tableswitch 65 0 3 #[29, 38, 47, 56], 29) := by decide +kernel
theorem dX9_greens_40 : decode cX9_greens 40 = .ok (.aload_n 0, 1) := by decide +kernel
theorem dX9_greens_41 : decode cX9_greens 41 = .ok (.getfield 31, 3) := by decide +kernel
theorem dX9_greens_44 : decode cX9_greens 44 = .ok (.iload_n 1, 1) := by decide +kernel
theorem dX9_greens_45 : decode cX9_greens 45 = .ok (.invokevirtual 264, 3) := by decide +kernel
theorem dX9_greens_48 : decode cX9_greens 48 = .ok (.ireturn, 1) := by decide +kernel
theorem dX9_greens_49 : decode cX9_greens 49 = .ok (.aload_n 0, 1) := by decide +kernel
theorem dX9_greens_50 : decode cX9_greens 50 = .ok (.getfield 31, 3) := by decide +kernel
theorem dX9_greens_53 : decode cX9_greens 53 = .ok (.iload_n 1, 1) := by decide +kernel
theorem dX9_greens_54 : decode cX9_greens 54 = .ok (.invokevirtual 267, 3) := by decide +kernel
theorem dX9_greens_57 : decode cX9_greens 57 = .ok (.ireturn, 1) := by decide +kernel
theorem dX9_greens_58 : decode cX9_greens 58 = .ok (.aload_n 0, 1) := by decide +kernel
theorem dX9_greens_59 : decode cX9_greens 59 = .ok (.getfield 31, 3) := by decide +kernel
theorem dX9_greens_62 : decode cX9_greens 62 = .ok (.iload_n 1, 1) := by decide +kernel
theorem dX9_greens_63 : decode cX9_greens 63 = .ok (.invokevirtual 270, 3) := by decide +kernel
theorem dX9_greens_66 : decode cX9_greens 66 = .ok (.ireturn, 1) := by decide +kernel
theorem dX9_greens_67 : decode cX9_greens 67 = .ok (.aload_n 0, 1) := by decide +kernel
theorem dX9_greens_68 : decode cX9_greens 68 = .ok (.getfield 31, 3) := by decide +kernel
theorem dX9_greens_71 : decode cX9_greens 71 = .ok (.iload_n 1, 1) := by decide +kernel
theorem dX9_greens_72 : decode cX9_greens 72 = .ok (.invokevirtual 273, 3) := by decide +kernel
theorem dX9_greens_75 : decode cX9_greens 75 = .ok (.ireturn, 1) := by decide +kernel
theorem dX9_greens_76 : decode cX9_greens 76 = .ok (.iconst (-1), 1) := by decide +kernel
theorem dX9_greens_77 : decode cX9_greens 77 = .ok (.ireturn, 1) := by decide +kernel
set_option maxRecDepth 20000 in
theorem ggX9_could_X9_within : GoodIn wsX9_could wsX9_within := goodIn_r _ [5] (by decide +kernel) (by decide +kernel)
set_option maxRecDepth 20000 in
theorem gX9_could_X9_within : GoodIn wsX9_could (va_wsS RX9 66 yX9_within wsX9_within) := goodIn_app (goodIn_of _ (by decide +kernel)) ggX9_could_X9_within
set_option maxRecDepth 20000 in
theorem ggX9_could_X8_takersOf : GoodIn wsX9_could wsX8_takersOf := goodIn_r _ [10, 11, 12, 13, 14, 15, 16, 9, 17, 18, 19, 20, 21, 22, 23, 24, 25, 26, 27, 28, 29, 30, 31, 32, 33, 34, 35, 36, 37, 38, 39, 40, 41, 42, 43, 44, 45, 46, 47, 48, 49, 50, 51, 52, 53, 54, 55, 56, 57, 58, 59, 60, 61, 62, 63, 64, 65, 66, 67, 68, 69, 70, 83, 84, 85, 86, 87, 88, 89, 90, 91, 92, 93, 94, 95, 96, 97, 98, 99, 100, 101, 102, 103, 104, 105, 106, 107, 108, 109, 110, 111, 112, 113, 114, 115, 116, 117, 118, 119, 120, 121] (by decide +kernel) (by decide +kernel)
set_option maxRecDepth 20000 in
theorem gX9_could_X8_takersOf : GoodIn wsX9_could (wsV RX9 276 RX8 yX8_takersOf wsX8_takersOf) := goodIn_app (goodIn_of _ (by decide +kernel)) ggX9_could_X8_takersOf
theorem dX9_could_0 : decode cX9_could 0 = .ok (.iload_n 3, 1) := by decide +kernel
theorem dX9_could_1 : decode cX9_could 1 = .ok (.iconst 0, 1) := by decide +kernel
theorem dX9_could_2 : decode cX9_could 2 = .ok (.iconst 1, 1) := by decide +kernel
theorem dX9_could_3 : decode cX9_could 3 = .ok (.invokestatic 66, 3) := by decide +kernel
theorem dX9_could_6 : decode cX9_could 6 = .ok (.ifCond .ne 5, 3) := by decide +kernel
theorem dX9_could_9 : decode cX9_could 9 = .ok (.iconst (-1), 1) := by decide +kernel
theorem dX9_could_10 : decode cX9_could 10 = .ok (.ireturn, 1) := by decide +kernel
theorem dX9_could_11 : decode cX9_could 11 = .ok (.iload_n 1, 1) := by decide +kernel
theorem dX9_could_12 : decode cX9_could 12 = .ok (.iconst 0, 1) := by decide +kernel
theorem dX9_could_13 : decode cX9_could 13 = .ok (.bipush 63, 2) := by decide +kernel
theorem dX9_could_15 : decode cX9_could 15 = .ok (.invokestatic 66, 3) := by decide +kernel
theorem dX9_could_18 : decode cX9_could 18 = .ok (.ifCond .eq 14, 3) := by decide +kernel
theorem dX9_could_21 : decode cX9_could 21 = .ok (.iload_n 2, 1) := by decide +kernel
theorem dX9_could_22 : decode cX9_could 22 = .ok (.iconst 0, 1) := by decide +kernel
theorem dX9_could_23 : decode cX9_could 23 = .ok (.sipush 9999, 3) := by decide +kernel
theorem dX9_could_26 : decode cX9_could 26 = .ok (.invokestatic 66, 3) := by decide +kernel
theorem dX9_could_29 : decode cX9_could 29 = .ok (.ifCond .ne 6, 3) := by decide +kernel
theorem dX9_could_32 : decode cX9_could 32 = .ok (.bipush (-2), 2) := by decide +kernel
theorem dX9_could_34 : decode cX9_could 34 = .ok (.ireturn, 1) := by decide +kernel
theorem dX9_could_35 : decode cX9_could 35 = .ok (.aload_n 0, 1) := by decide +kernel
theorem dX9_could_36 : decode cX9_could 36 = .ok (.getfield 12, 3) := by decide +kernel
theorem dX9_could_39 : decode cX9_could 39 = .ok (.iload_n 1, 1) := by decide +kernel
theorem dX9_could_40 : decode cX9_could 40 = .ok (.iload_n 2, 1) := by decide +kernel
theorem dX9_could_41 : decode cX9_could 41 = .ok (.iload_n 3, 1) := by decide +kernel
theorem dX9_could_42 : decode cX9_could 42 = .ok (.invokevirtual 276, 3) := by decide +kernel
theorem dX9_could_45 : decode cX9_could 45 = .ok (.ireturn, 1) := by decide +kernel
set_option maxRecDepth 20000 in
theorem ggX9_crowded_X9_within : GoodIn wsX9_crowded wsX9_within := goodIn_r _ [5] (by decide +kernel) (by decide +kernel)
set_option maxRecDepth 20000 in
theorem gX9_crowded_X9_within : GoodIn wsX9_crowded (va_wsS RX9 66 yX9_within wsX9_within) := goodIn_app (goodIn_of _ (by decide +kernel)) ggX9_crowded_X9_within
set_option maxRecDepth 20000 in
theorem ggX9_crowded_X8_takersOf : GoodIn wsX9_crowded wsX8_takersOf := goodIn_r _ [10, 11, 12, 13, 14, 15, 16, 9, 17, 18, 19, 20, 21, 22, 23, 24, 25, 26, 27, 28, 29, 30, 31, 32, 33, 34, 35, 36, 37, 38, 39, 40, 41, 42, 43, 44, 45, 46, 47, 48, 49, 50, 51, 52, 53, 54, 55, 56, 57, 58, 59, 60, 61, 62, 63, 64, 65, 66, 67, 68, 69, 70, 90, 91, 92, 93, 94, 95, 96, 97, 98, 99, 100, 101, 102, 103, 104, 105, 106, 107, 108, 109, 110, 111, 112, 113, 114, 115, 116, 117, 118, 119, 120, 121, 122, 123, 124, 125, 126, 127, 128] (by decide +kernel) (by decide +kernel)
set_option maxRecDepth 20000 in
theorem gX9_crowded_X8_takersOf : GoodIn wsX9_crowded (wsV RX9 276 RX8 yX8_takersOf wsX8_takersOf) := goodIn_app (goodIn_of _ (by decide +kernel)) ggX9_crowded_X8_takersOf
set_option maxRecDepth 20000 in
theorem ggX9_crowded_J6_bitCount_0f7a4 : GoodIn wsX9_crowded wsJ6_bitCount_0f7a4 := goodIn_r _ [74, 75, 76, 77] (by decide +kernel) (by decide +kernel)
set_option maxRecDepth 20000 in
theorem gX9_crowded_J6_bitCount_0f7a4 : GoodIn wsX9_crowded (va_wsS RX9 279 yJ6_bitCount_0f7a4 wsJ6_bitCount_0f7a4) := goodIn_app (goodIn_of _ (by decide +kernel)) ggX9_crowded_J6_bitCount_0f7a4
theorem dX9_crowded_0 : decode cX9_crowded 0 = .ok (.iload_n 2, 1) := by decide +kernel
theorem dX9_crowded_1 : decode cX9_crowded 1 = .ok (.iconst 0, 1) := by decide +kernel
theorem dX9_crowded_2 : decode cX9_crowded 2 = .ok (.iconst 1, 1) := by decide +kernel
theorem dX9_crowded_3 : decode cX9_crowded 3 = .ok (.invokestatic 66, 3) := by decide +kernel
theorem dX9_crowded_6 : decode cX9_crowded 6 = .ok (.ifCond .ne 5, 3) := by decide +kernel
theorem dX9_crowded_9 : decode cX9_crowded 9 = .ok (.iconst (-1), 1) := by decide +kernel
theorem dX9_crowded_10 : decode cX9_crowded 10 = .ok (.ireturn, 1) := by decide +kernel
theorem dX9_crowded_11 : decode cX9_crowded 11 = .ok (.iload_n 1, 1) := by decide +kernel
theorem dX9_crowded_12 : decode cX9_crowded 12 = .ok (.iconst 0, 1) := by decide +kernel
theorem dX9_crowded_13 : decode cX9_crowded 13 = .ok (.sipush 9999, 3) := by decide +kernel
theorem dX9_crowded_16 : decode cX9_crowded 16 = .ok (.invokestatic 66, 3) := by decide +kernel
theorem dX9_crowded_19 : decode cX9_crowded 19 = .ok (.ifCond .ne 6, 3) := by decide +kernel
theorem dX9_crowded_22 : decode cX9_crowded 22 = .ok (.bipush (-2), 2) := by decide +kernel
theorem dX9_crowded_24 : decode cX9_crowded 24 = .ok (.ireturn, 1) := by decide +kernel
theorem dX9_crowded_25 : decode cX9_crowded 25 = .ok (.iconst 0, 1) := by decide +kernel
theorem dX9_crowded_26 : decode cX9_crowded 26 = .ok (.istore_n 3, 1) := by decide +kernel
theorem dX9_crowded_27 : decode cX9_crowded 27 = .ok (.iload_n 3, 1) := by decide +kernel
theorem dX9_crowded_28 : decode cX9_crowded 28 = .ok (.bipush 64, 2) := by decide +kernel
theorem dX9_crowded_30 : decode cX9_crowded 30 = .ok (.if_icmp .ge 28, 3) := by decide +kernel
theorem dX9_crowded_33 : decode cX9_crowded 33 = .ok (.aload_n 0, 1) := by decide +kernel
theorem dX9_crowded_34 : decode cX9_crowded 34 = .ok (.getfield 12, 3) := by decide +kernel
theorem dX9_crowded_37 : decode cX9_crowded 37 = .ok (.iload_n 3, 1) := by decide +kernel
theorem dX9_crowded_38 : decode cX9_crowded 38 = .ok (.iload_n 1, 1) := by decide +kernel
theorem dX9_crowded_39 : decode cX9_crowded 39 = .ok (.iload_n 2, 1) := by decide +kernel
theorem dX9_crowded_40 : decode cX9_crowded 40 = .ok (.invokevirtual 276, 3) := by decide +kernel
theorem dX9_crowded_43 : decode cX9_crowded 43 = .ok (.invokestatic 279, 3) := by decide +kernel
theorem dX9_crowded_46 : decode cX9_crowded 46 = .ok (.iconst 1, 1) := by decide +kernel
theorem dX9_crowded_47 : decode cX9_crowded 47 = .ok (.if_icmp .le 5, 3) := by decide +kernel
theorem dX9_crowded_50 : decode cX9_crowded 50 = .ok (.iload_n 3, 1) := by decide +kernel
theorem dX9_crowded_51 : decode cX9_crowded 51 = .ok (.ireturn, 1) := by decide +kernel
theorem dX9_crowded_52 : decode cX9_crowded 52 = .ok (.iinc 3 1, 3) := by decide +kernel
theorem dX9_crowded_55 : decode cX9_crowded 55 = .ok (.goto (-28), 3) := by decide +kernel
theorem dX9_crowded_58 : decode cX9_crowded 58 = .ok (.bipush (-5), 2) := by decide +kernel
theorem dX9_crowded_60 : decode cX9_crowded 60 = .ok (.ireturn, 1) := by decide +kernel
set_option maxRecDepth 20000 in
theorem ggX9_green_X9_isSignal : GoodIn wsX9_green wsX9_isSignal := goodIn_r _ [8, 9, 10, 11, 12, 7, 13, 22, 23, 24, 25, 26, 27, 28, 29, 30, 31, 32, 33, 42, 43, 44, 45, 46, 47, 48] (by decide +kernel) (by decide +kernel)
set_option maxRecDepth 20000 in
theorem gX9_green_X9_isSignal : GoodIn wsX9_green (wsV RX9 84 RX9 yX9_isSignal wsX9_isSignal) := goodIn_app (goodIn_of _ (by decide +kernel)) ggX9_green_X9_isSignal
set_option maxRecDepth 20000 in
theorem ggX9_green_X9_within : GoodIn wsX9_green wsX9_within := goodIn_r _ [13] (by decide +kernel) (by decide +kernel)
set_option maxRecDepth 20000 in
theorem gX9_green_X9_within : GoodIn wsX9_green (va_wsS RX9 66 yX9_within wsX9_within) := goodIn_app (goodIn_of _ (by decide +kernel)) ggX9_green_X9_within
set_option maxRecDepth 20000 in
theorem ggX9_green_X4_add : GoodIn wsX9_green wsX4_add := goodIn_r _ [18, 19, 20, 21, 39, 40, 41] (by decide +kernel) (by decide +kernel)
set_option maxRecDepth 20000 in
theorem gX9_green_X4_add : GoodIn wsX9_green (wsV RX9 287 RX4 yX4_add wsX4_add) := goodIn_app (goodIn_of _ (by decide +kernel)) ggX9_green_X4_add
theorem dX9_green_0 : decode cX9_green 0 = .ok (.aload_n 0, 1) := by decide +kernel
theorem dX9_green_1 : decode cX9_green 1 = .ok (.getfield 12, 3) := by decide +kernel
theorem dX9_green_4 : decode cX9_green 4 = .ok (.getfield 284, 3) := by decide +kernel
theorem dX9_green_7 : decode cX9_green 7 = .ok (.astore 4, 2) := by decide +kernel
theorem dX9_green_9 : decode cX9_green 9 = .ok (.iload_n 1, 1) := by decide +kernel
theorem dX9_green_10 : decode cX9_green 10 = .ok (.iconst (-1), 1) := by decide +kernel
theorem dX9_green_11 : decode cX9_green 11 = .ok (.if_icmp .ne 11, 3) := by decide +kernel
theorem dX9_green_14 : decode cX9_green 14 = .ok (.aload 4, 2) := by decide +kernel
theorem dX9_green_16 : decode cX9_green 16 = .ok (.iconst 0, 1) := by decide +kernel
theorem dX9_green_17 : decode cX9_green 17 = .ok (.putfield 258, 3) := by decide +kernel
theorem dX9_green_20 : decode cX9_green 20 = .ok (.iconst 0, 1) := by decide +kernel
theorem dX9_green_21 : decode cX9_green 21 = .ok (.ireturn, 1) := by decide +kernel
theorem dX9_green_22 : decode cX9_green 22 = .ok (.aload_n 0, 1) := by decide +kernel
theorem dX9_green_23 : decode cX9_green 23 = .ok (.iload_n 1, 1) := by decide +kernel
theorem dX9_green_24 : decode cX9_green 24 = .ok (.invokevirtual 84, 3) := by decide +kernel
theorem dX9_green_27 : decode cX9_green 27 = .ok (.ifCond .ne 5, 3) := by decide +kernel
theorem dX9_green_30 : decode cX9_green 30 = .ok (.iconst (-1), 1) := by decide +kernel
theorem dX9_green_31 : decode cX9_green 31 = .ok (.ireturn, 1) := by decide +kernel
theorem dX9_green_32 : decode cX9_green 32 = .ok (.iload_n 2, 1) := by decide +kernel
theorem dX9_green_33 : decode cX9_green 33 = .ok (.iconst 0, 1) := by decide +kernel
theorem dX9_green_34 : decode cX9_green 34 = .ok (.sipush 9998, 3) := by decide +kernel
theorem dX9_green_37 : decode cX9_green 37 = .ok (.invokestatic 66, 3) := by decide +kernel
theorem dX9_green_40 : decode cX9_green 40 = .ok (.ifCond .eq 16, 3) := by decide +kernel
theorem dX9_green_43 : decode cX9_green 43 = .ok (.iload_n 3, 1) := by decide +kernel
theorem dX9_green_44 : decode cX9_green 44 = .ok (.iload_n 2, 1) := by decide +kernel
theorem dX9_green_45 : decode cX9_green 45 = .ok (.iconst 1, 1) := by decide +kernel
theorem dX9_green_46 : decode cX9_green 46 = .ok (.iadd, 1) := by decide +kernel
theorem dX9_green_47 : decode cX9_green 47 = .ok (.sipush 9999, 3) := by decide +kernel
theorem dX9_green_50 : decode cX9_green 50 = .ok (.invokestatic 66, 3) := by decide +kernel
theorem dX9_green_53 : decode cX9_green 53 = .ok (.ifCond .ne 6, 3) := by decide +kernel
theorem dX9_green_56 : decode cX9_green 56 = .ok (.bipush (-2), 2) := by decide +kernel
theorem dX9_green_58 : decode cX9_green 58 = .ok (.ireturn, 1) := by decide +kernel
theorem dX9_green_59 : decode cX9_green 59 = .ok (.aload 4, 2) := by decide +kernel
theorem dX9_green_61 : decode cX9_green 61 = .ok (.iload_n 1, 1) := by decide +kernel
theorem dX9_green_62 : decode cX9_green 62 = .ok (.iload_n 2, 1) := by decide +kernel
theorem dX9_green_63 : decode cX9_green 63 = .ok (.iload_n 3, 1) := by decide +kernel
theorem dX9_green_64 : decode cX9_green 64 = .ok (.invokevirtual 287, 3) := by decide +kernel
theorem dX9_green_67 : decode cX9_green 67 = .ok (.ifCond .eq 11, 3) := by decide +kernel
theorem dX9_green_70 : decode cX9_green 70 = .ok (.aload 4, 2) := by decide +kernel
theorem dX9_green_72 : decode cX9_green 72 = .ok (.getfield 258, 3) := by decide +kernel
theorem dX9_green_75 : decode cX9_green 75 = .ok (.goto 5, 3) := by decide +kernel
theorem dX9_green_78 : decode cX9_green 78 = .ok (.bipush (-4), 2) := by decide +kernel
theorem dX9_green_80 : decode cX9_green 80 = .ok (.ireturn, 1) := by decide +kernel
set_option maxRecDepth 20000 in
theorem ggX9_proved_X8_firstUnproved : GoodIn wsX9_proved wsX8_firstUnproved := goodIn_r _ [6, 7, 8, 9, 10, 11, 5, 12, 13, 14, 15, 16, 17, 18, 19, 20, 21, 22, 23, 24, 25, 26, 27, 28, 29, 30, 31, 32, 33, 34, 35, 36, 49, 50, 51, 52, 53, 54, 55, 56, 57, 58, 59, 60, 61, 62, 63, 64, 65, 66, 67, 68, 69, 70, 71, 72, 73, 74, 75, 76, 77, 78, 79] (by decide +kernel) (by decide +kernel)
set_option maxRecDepth 20000 in
theorem gX9_proved_X8_firstUnproved : GoodIn wsX9_proved (wsV RX9 289 RX8 yX8_firstUnproved wsX8_firstUnproved) := goodIn_app (goodIn_of _ (by decide +kernel)) ggX9_proved_X8_firstUnproved
theorem dX9_proved_0 : decode cX9_proved 0 = .ok (.aload_n 0, 1) := by decide +kernel
theorem dX9_proved_1 : decode cX9_proved 1 = .ok (.getfield 12, 3) := by decide +kernel
theorem dX9_proved_4 : decode cX9_proved 4 = .ok (.invokevirtual 289, 3) := by decide +kernel
theorem dX9_proved_7 : decode cX9_proved 7 = .ok (.ireturn, 1) := by decide +kernel
set_option maxRecDepth 20000 in
theorem ggX9_wave_X9_within : GoodIn wsX9_wave wsX9_within := goodIn_r _ [7] (by decide +kernel) (by decide +kernel)
set_option maxRecDepth 20000 in
theorem gX9_wave_X9_within : GoodIn wsX9_wave (va_wsS RX9 66 yX9_within wsX9_within) := goodIn_app (goodIn_of _ (by decide +kernel)) ggX9_wave_X9_within
theorem dX9_wave_0 : decode cX9_wave 0 = .ok (.iload_n 1, 1) := by decide +kernel
theorem dX9_wave_1 : decode cX9_wave 1 = .ok (.bipush 20, 2) := by decide +kernel
theorem dX9_wave_3 : decode cX9_wave 3 = .ok (.bipush 60, 2) := by decide +kernel
theorem dX9_wave_5 : decode cX9_wave 5 = .ok (.invokestatic 66, 3) := by decide +kernel
theorem dX9_wave_8 : decode cX9_wave 8 = .ok (.ifCond .ne 6, 3) := by decide +kernel
theorem dX9_wave_11 : decode cX9_wave 11 = .ok (.bipush (-2), 2) := by decide +kernel
theorem dX9_wave_13 : decode cX9_wave 13 = .ok (.ireturn, 1) := by decide +kernel
theorem dX9_wave_14 : decode cX9_wave 14 = .ok (.aload_n 0, 1) := by decide +kernel
theorem dX9_wave_15 : decode cX9_wave 15 = .ok (.getfield 51, 3) := by decide +kernel
theorem dX9_wave_18 : decode cX9_wave 18 = .ok (.getfield 292, 3) := by decide +kernel
theorem dX9_wave_21 : decode cX9_wave 21 = .ok (.istore_n 2, 1) := by decide +kernel
theorem dX9_wave_22 : decode cX9_wave 22 = .ok (.aload_n 0, 1) := by decide +kernel
theorem dX9_wave_23 : decode cX9_wave 23 = .ok (.getfield 51, 3) := by decide +kernel
theorem dX9_wave_26 : decode cX9_wave 26 = .ok (.iload_n 1, 1) := by decide +kernel
theorem dX9_wave_27 : decode cX9_wave 27 = .ok (.putfield 292, 3) := by decide +kernel
theorem dX9_wave_30 : decode cX9_wave 30 = .ok (.aload_n 0, 1) := by decide +kernel
theorem dX9_wave_31 : decode cX9_wave 31 = .ok (.getfield 51, 3) := by decide +kernel
theorem dX9_wave_34 : decode cX9_wave 34 = .ok (.iconst 0, 1) := by decide +kernel
theorem dX9_wave_35 : decode cX9_wave 35 = .ok (.putfield 297, 3) := by decide +kernel
theorem dX9_wave_38 : decode cX9_wave 38 = .ok (.iload_n 2, 1) := by decide +kernel
theorem dX9_wave_39 : decode cX9_wave 39 = .ok (.ireturn, 1) := by decide +kernel
set_option maxRecDepth 20000 in
theorem ggX9_node_X7_allows : GoodIn wsX9_node wsX7_allows := goodIn_r _ [7, 8, 9, 10, 11, 34, 35, 36] (by decide +kernel) (by decide +kernel)
set_option maxRecDepth 20000 in
theorem gX9_node_X7_allows : GoodIn wsX9_node (wsV RX9 298 RX7 yX7_allows wsX7_allows) := goodIn_app (goodIn_of _ (by decide +kernel)) ggX9_node_X7_allows
set_option maxRecDepth 20000 in
theorem ggX9_node_X7_add : GoodIn wsX9_node wsX7_add := goodIn_r _ [15, 16, 17, 18, 19, 6, 20, 21, 34, 35, 36] (by decide +kernel) (by decide +kernel)
set_option maxRecDepth 20000 in
theorem gX9_node_X7_add : GoodIn wsX9_node (wsV RX9 301 RX7 yX7_add wsX7_add) := goodIn_app (goodIn_of _ (by decide +kernel)) ggX9_node_X7_add
theorem dX9_node_0 : decode cX9_node 0 = .ok (.aload_n 0, 1) := by decide +kernel
theorem dX9_node_1 : decode cX9_node 1 = .ok (.getfield 51, 3) := by decide +kernel
theorem dX9_node_4 : decode cX9_node 4 = .ok (.iconst 0, 1) := by decide +kernel
theorem dX9_node_5 : decode cX9_node 5 = .ok (.iload_n 1, 1) := by decide +kernel
theorem dX9_node_6 : decode cX9_node 6 = .ok (.invokevirtual 298, 3) := by decide +kernel
theorem dX9_node_9 : decode cX9_node 9 = .ok (.ifCond .eq 27, 3) := by decide +kernel
theorem dX9_node_12 : decode cX9_node 12 = .ok (.aload_n 0, 1) := by decide +kernel
theorem dX9_node_13 : decode cX9_node 13 = .ok (.getfield 51, 3) := by decide +kernel
theorem dX9_node_16 : decode cX9_node 16 = .ok (.iconst 1, 1) := by decide +kernel
theorem dX9_node_17 : decode cX9_node 17 = .ok (.iload_n 2, 1) := by decide +kernel
theorem dX9_node_18 : decode cX9_node 18 = .ok (.invokevirtual 298, 3) := by decide +kernel
theorem dX9_node_21 : decode cX9_node 21 = .ok (.ifCond .eq 15, 3) := by decide +kernel
theorem dX9_node_24 : decode cX9_node 24 = .ok (.aload_n 0, 1) := by decide +kernel
theorem dX9_node_25 : decode cX9_node 25 = .ok (.getfield 51, 3) := by decide +kernel
theorem dX9_node_28 : decode cX9_node 28 = .ok (.iconst 2, 1) := by decide +kernel
theorem dX9_node_29 : decode cX9_node 29 = .ok (.iload_n 3, 1) := by decide +kernel
theorem dX9_node_30 : decode cX9_node 30 = .ok (.invokevirtual 298, 3) := by decide +kernel
theorem dX9_node_33 : decode cX9_node 33 = .ok (.ifCond .ne 6, 3) := by decide +kernel
theorem dX9_node_36 : decode cX9_node 36 = .ok (.bipush (-2), 2) := by decide +kernel
theorem dX9_node_38 : decode cX9_node 38 = .ok (.ireturn, 1) := by decide +kernel
theorem dX9_node_39 : decode cX9_node 39 = .ok (.aload_n 0, 1) := by decide +kernel
theorem dX9_node_40 : decode cX9_node 40 = .ok (.getfield 51, 3) := by decide +kernel
theorem dX9_node_43 : decode cX9_node 43 = .ok (.getfield 297, 3) := by decide +kernel
theorem dX9_node_46 : decode cX9_node 46 = .ok (.iconst 5, 1) := by decide +kernel
theorem dX9_node_47 : decode cX9_node 47 = .ok (.if_icmp .lt 6, 3) := by decide +kernel
theorem dX9_node_50 : decode cX9_node 50 = .ok (.bipush (-4), 2) := by decide +kernel
theorem dX9_node_52 : decode cX9_node 52 = .ok (.ireturn, 1) := by decide +kernel
theorem dX9_node_53 : decode cX9_node 53 = .ok (.aload_n 0, 1) := by decide +kernel
theorem dX9_node_54 : decode cX9_node 54 = .ok (.getfield 51, 3) := by decide +kernel
theorem dX9_node_57 : decode cX9_node 57 = .ok (.iload_n 1, 1) := by decide +kernel
theorem dX9_node_58 : decode cX9_node 58 = .ok (.iload_n 2, 1) := by decide +kernel
theorem dX9_node_59 : decode cX9_node 59 = .ok (.iload_n 3, 1) := by decide +kernel
theorem dX9_node_60 : decode cX9_node 60 = .ok (.invokevirtual 301, 3) := by decide +kernel
theorem dX9_node_63 : decode cX9_node 63 = .ok (.ireturn, 1) := by decide +kernel
set_option maxRecDepth 20000 in
theorem ggX9_change_X9_within : GoodIn wsX9_change wsX9_within := goodIn_r _ [6] (by decide +kernel) (by decide +kernel)
set_option maxRecDepth 20000 in
theorem gX9_change_X9_within : GoodIn wsX9_change (va_wsS RX9 66 yX9_within wsX9_within) := goodIn_app (goodIn_of _ (by decide +kernel)) ggX9_change_X9_within
set_option maxRecDepth 20000 in
theorem ggX9_change_X7_allows : GoodIn wsX9_change wsX7_allows := goodIn_r _ [11, 12, 4, 5, 6, 34, 35, 36] (by decide +kernel) (by decide +kernel)
set_option maxRecDepth 20000 in
theorem gX9_change_X7_allows : GoodIn wsX9_change (wsV RX9 298 RX7 yX7_allows wsX7_allows) := goodIn_app (goodIn_of _ (by decide +kernel)) ggX9_change_X7_allows
set_option maxRecDepth 20000 in
theorem ggX9_change_X7_at : GoodIn wsX9_change wsX7_at := goodIn_r _ [16, 17, 34, 35, 36] (by decide +kernel) (by decide +kernel)
set_option maxRecDepth 20000 in
theorem gX9_change_X7_at : GoodIn wsX9_change (wsV RX9 303 RX7 yX7_at wsX7_at) := goodIn_app (goodIn_of _ (by decide +kernel)) ggX9_change_X7_at
set_option maxRecDepth 20000 in
theorem ggX9_change_X7_put : GoodIn wsX9_change wsX7_put := goodIn_r _ [21, 17, 34, 35, 36] (by decide +kernel) (by decide +kernel)
set_option maxRecDepth 20000 in
theorem gX9_change_X7_put : GoodIn wsX9_change (wsV RX9 304 RX7 yX7_put wsX7_put) := goodIn_app (goodIn_of _ (by decide +kernel)) ggX9_change_X7_put
theorem dX9_change_0 : decode cX9_change 0 = .ok (.iload_n 1, 1) := by decide +kernel
theorem dX9_change_1 : decode cX9_change 1 = .ok (.iconst 0, 1) := by decide +kernel
theorem dX9_change_2 : decode cX9_change 2 = .ok (.aload_n 0, 1) := by decide +kernel
theorem dX9_change_3 : decode cX9_change 3 = .ok (.getfield 51, 3) := by decide +kernel
theorem dX9_change_6 : decode cX9_change 6 = .ok (.getfield 297, 3) := by decide +kernel
theorem dX9_change_9 : decode cX9_change 9 = .ok (.iconst 1, 1) := by decide +kernel
theorem dX9_change_10 : decode cX9_change 10 = .ok (.isub, 1) := by decide +kernel
theorem dX9_change_11 : decode cX9_change 11 = .ok (.invokestatic 66, 3) := by decide +kernel
theorem dX9_change_14 : decode cX9_change 14 = .ok (.ifCond .eq 12, 3) := by decide +kernel
theorem dX9_change_17 : decode cX9_change 17 = .ok (.iload_n 2, 1) := by decide +kernel
theorem dX9_change_18 : decode cX9_change 18 = .ok (.iconst 0, 1) := by decide +kernel
theorem dX9_change_19 : decode cX9_change 19 = .ok (.iconst 2, 1) := by decide +kernel
theorem dX9_change_20 : decode cX9_change 20 = .ok (.invokestatic 66, 3) := by decide +kernel
theorem dX9_change_23 : decode cX9_change 23 = .ok (.ifCond .ne 5, 3) := by decide +kernel
theorem dX9_change_26 : decode cX9_change 26 = .ok (.iconst (-1), 1) := by decide +kernel
theorem dX9_change_27 : decode cX9_change 27 = .ok (.ireturn, 1) := by decide +kernel
theorem dX9_change_28 : decode cX9_change 28 = .ok (.aload_n 0, 1) := by decide +kernel
theorem dX9_change_29 : decode cX9_change 29 = .ok (.getfield 51, 3) := by decide +kernel
theorem dX9_change_32 : decode cX9_change 32 = .ok (.iload_n 2, 1) := by decide +kernel
theorem dX9_change_33 : decode cX9_change 33 = .ok (.iload_n 3, 1) := by decide +kernel
theorem dX9_change_34 : decode cX9_change 34 = .ok (.invokevirtual 298, 3) := by decide +kernel
theorem dX9_change_37 : decode cX9_change 37 = .ok (.ifCond .ne 6, 3) := by decide +kernel
theorem dX9_change_40 : decode cX9_change 40 = .ok (.bipush (-2), 2) := by decide +kernel
theorem dX9_change_42 : decode cX9_change 42 = .ok (.ireturn, 1) := by decide +kernel
theorem dX9_change_43 : decode cX9_change 43 = .ok (.aload_n 0, 1) := by decide +kernel
theorem dX9_change_44 : decode cX9_change 44 = .ok (.getfield 51, 3) := by decide +kernel
theorem dX9_change_47 : decode cX9_change 47 = .ok (.iload_n 1, 1) := by decide +kernel
theorem dX9_change_48 : decode cX9_change 48 = .ok (.iload_n 2, 1) := by decide +kernel
theorem dX9_change_49 : decode cX9_change 49 = .ok (.invokevirtual 303, 3) := by decide +kernel
theorem dX9_change_52 : decode cX9_change 52 = .ok (.istore 4, 2) := by decide +kernel
theorem dX9_change_54 : decode cX9_change 54 = .ok (.aload_n 0, 1) := by decide +kernel
theorem dX9_change_55 : decode cX9_change 55 = .ok (.getfield 51, 3) := by decide +kernel
theorem dX9_change_58 : decode cX9_change 58 = .ok (.iload_n 1, 1) := by decide +kernel
theorem dX9_change_59 : decode cX9_change 59 = .ok (.iload_n 2, 1) := by decide +kernel
theorem dX9_change_60 : decode cX9_change 60 = .ok (.iload_n 3, 1) := by decide +kernel
theorem dX9_change_61 : decode cX9_change 61 = .ok (.invokevirtual 304, 3) := by decide +kernel
theorem dX9_change_64 : decode cX9_change 64 = .ok (.iload 4, 2) := by decide +kernel
theorem dX9_change_66 : decode cX9_change 66 = .ok (.ireturn, 1) := by decide +kernel
set_option maxRecDepth 20000 in
theorem ggX9_band_X7_bandOn : GoodIn wsX9_band wsX7_bandOn := goodIn_r _ [6, 7, 8, 9, 10, 5, 11, 12, 13, 14, 15, 16, 17, 18, 19, 20, 21, 22, 23, 24, 25, 26, 27, 28, 29, 30, 31, 32, 55, 56, 57] (by decide +kernel) (by decide +kernel)
set_option maxRecDepth 20000 in
theorem gX9_band_X7_bandOn : GoodIn wsX9_band (wsV RX9 308 RX7 yX7_bandOn wsX7_bandOn) := goodIn_app (goodIn_of _ (by decide +kernel)) ggX9_band_X7_bandOn
set_option maxRecDepth 20000 in
theorem ggX9_band_X7_bandBack : GoodIn wsX9_band wsX7_bandBack := goodIn_r _ [36, 7, 8, 9, 10, 5, 11, 12, 17, 18, 19, 20, 21, 13, 14, 15, 16, 22, 23, 24, 25, 26, 27, 28, 29, 30, 31, 32, 55, 56, 57] (by decide +kernel) (by decide +kernel)
set_option maxRecDepth 20000 in
theorem gX9_band_X7_bandBack : GoodIn wsX9_band (wsV RX9 311 RX7 yX7_bandBack wsX7_bandBack) := goodIn_app (goodIn_of _ (by decide +kernel)) ggX9_band_X7_bandBack
set_option maxRecDepth 20000 in
theorem ggX9_band_X7_bothBands : GoodIn wsX9_band wsX7_bothBands := goodIn_r _ [40, 41, 3, 4, 5, 6, 7, 8, 9, 10, 11, 12, 13, 14, 15, 16, 17, 18, 19, 20, 21, 22, 23, 24, 25, 26, 27, 28, 29, 30, 31, 32, 42, 34, 35, 36, 55, 56, 57] (by decide +kernel) (by decide +kernel)
set_option maxRecDepth 20000 in
theorem gX9_band_X7_bothBands : GoodIn wsX9_band (wsV RX9 314 RX7 yX7_bothBands wsX7_bothBands) := goodIn_app (goodIn_of _ (by decide +kernel)) ggX9_band_X7_bothBands
theorem dX9_band_0 : decode cX9_band 0 = .ok (.iload_n 1, 1) := by decide +kernel
theorem dX9_band_1 : decode cX9_band 1 = .ok (.tableswitch 51 0 2 #[27, 35, 43], 27) := by decide +kernel
theorem dX9_band_28 : decode cX9_band 28 = .ok (.aload_n 0, 1) := by decide +kernel
theorem dX9_band_29 : decode cX9_band 29 = .ok (.getfield 51, 3) := by decide +kernel
theorem dX9_band_32 : decode cX9_band 32 = .ok (.invokevirtual 308, 3) := by decide +kernel
theorem dX9_band_35 : decode cX9_band 35 = .ok (.ireturn, 1) := by decide +kernel
theorem dX9_band_36 : decode cX9_band 36 = .ok (.aload_n 0, 1) := by decide +kernel
theorem dX9_band_37 : decode cX9_band 37 = .ok (.getfield 51, 3) := by decide +kernel
theorem dX9_band_40 : decode cX9_band 40 = .ok (.invokevirtual 311, 3) := by decide +kernel
theorem dX9_band_43 : decode cX9_band 43 = .ok (.ireturn, 1) := by decide +kernel
theorem dX9_band_44 : decode cX9_band 44 = .ok (.aload_n 0, 1) := by decide +kernel
theorem dX9_band_45 : decode cX9_band 45 = .ok (.getfield 51, 3) := by decide +kernel
theorem dX9_band_48 : decode cX9_band 48 = .ok (.invokevirtual 314, 3) := by decide +kernel
theorem dX9_band_51 : decode cX9_band 51 = .ok (.ireturn, 1) := by decide +kernel
theorem dX9_band_52 : decode cX9_band 52 = .ok (.iconst (-1), 1) := by decide +kernel
theorem dX9_band_53 : decode cX9_band 53 = .ok (.ireturn, 1) := by decide +kernel
set_option maxRecDepth 20000 in
theorem ggX9_nodeBest_X9_within : GoodIn wsX9_nodeBest wsX9_within := goodIn_r _ [6] (by decide +kernel) (by decide +kernel)
set_option maxRecDepth 20000 in
theorem gX9_nodeBest_X9_within : GoodIn wsX9_nodeBest (va_wsS RX9 66 yX9_within wsX9_within) := goodIn_app (goodIn_of _ (by decide +kernel)) ggX9_nodeBest_X9_within
set_option maxRecDepth 20000 in
theorem ggX9_nodeBest_X9_takeSeconds : GoodIn wsX9_nodeBest wsX9_takeSeconds := goodIn_r _ [10, 11, 60, 61, 62, 63, 64, 65, 66, 67, 68, 69, 70, 71] (by decide +kernel) (by decide +kernel)
set_option maxRecDepth 20000 in
theorem gX9_nodeBest_X9_takeSeconds : GoodIn wsX9_nodeBest (wsV RX9 317 RX9 yX9_takeSeconds wsX9_takeSeconds) := goodIn_app (goodIn_of _ (by decide +kernel)) ggX9_nodeBest_X9_takeSeconds
set_option maxRecDepth 20000 in
theorem ggX9_nodeBest_X7_bestOffset : GoodIn wsX9_nodeBest wsX7_bestOffset := goodIn_r _ [16, 17, 18, 19, 20, 15, 21, 22, 23, 24, 25, 26, 27, 28, 29, 30, 31, 32, 33, 34, 35, 36, 37, 38, 39, 40, 41, 42, 43, 44, 45, 46, 47, 48, 49, 50, 51, 52, 53, 54, 55, 56, 57, 58, 72, 73, 74] (by decide +kernel) (by decide +kernel)
set_option maxRecDepth 20000 in
theorem gX9_nodeBest_X7_bestOffset : GoodIn wsX9_nodeBest (wsV RX9 320 RX7 yX7_bestOffset wsX7_bestOffset) := goodIn_app (goodIn_of _ (by decide +kernel)) ggX9_nodeBest_X7_bestOffset
set_option maxRecDepth 20000 in
theorem ggX9_nodeBest_X7_bandsWith : GoodIn wsX9_nodeBest wsX7_bandsWith := goodIn_r _ [21, 22, 23, 24, 15, 25, 26, 27, 28, 29, 30, 31, 32, 33, 34, 35, 36, 37, 38, 39, 17, 40, 41, 42, 43, 44, 45, 46, 47, 48, 49, 50, 51, 52, 53, 54, 55, 56, 57, 58, 72, 73, 74] (by decide +kernel) (by decide +kernel)
set_option maxRecDepth 20000 in
theorem gX9_nodeBest_X7_bandsWith : GoodIn wsX9_nodeBest (wsV RX9 323 RX7 yX7_bandsWith wsX7_bandsWith) := goodIn_app (goodIn_of _ (by decide +kernel)) ggX9_nodeBest_X7_bandsWith
theorem dX9_nodeBest_0 : decode cX9_nodeBest 0 = .ok (.iload_n 1, 1) := by decide +kernel
theorem dX9_nodeBest_1 : decode cX9_nodeBest 1 = .ok (.iconst 0, 1) := by decide +kernel
theorem dX9_nodeBest_2 : decode cX9_nodeBest 2 = .ok (.aload_n 0, 1) := by decide +kernel
theorem dX9_nodeBest_3 : decode cX9_nodeBest 3 = .ok (.getfield 51, 3) := by decide +kernel
theorem dX9_nodeBest_6 : decode cX9_nodeBest 6 = .ok (.getfield 297, 3) := by decide +kernel
theorem dX9_nodeBest_9 : decode cX9_nodeBest 9 = .ok (.iconst 1, 1) := by decide +kernel
theorem dX9_nodeBest_10 : decode cX9_nodeBest 10 = .ok (.isub, 1) := by decide +kernel
theorem dX9_nodeBest_11 : decode cX9_nodeBest 11 = .ok (.invokestatic 66, 3) := by decide +kernel
theorem dX9_nodeBest_14 : decode cX9_nodeBest 14 = .ok (.ifCond .eq 12, 3) := by decide +kernel
theorem dX9_nodeBest_17 : decode cX9_nodeBest 17 = .ok (.iload_n 2, 1) := by decide +kernel
theorem dX9_nodeBest_18 : decode cX9_nodeBest 18 = .ok (.iconst 0, 1) := by decide +kernel
theorem dX9_nodeBest_19 : decode cX9_nodeBest 19 = .ok (.iconst 1, 1) := by decide +kernel
theorem dX9_nodeBest_20 : decode cX9_nodeBest 20 = .ok (.invokestatic 66, 3) := by decide +kernel
theorem dX9_nodeBest_23 : decode cX9_nodeBest 23 = .ok (.ifCond .ne 5, 3) := by decide +kernel
theorem dX9_nodeBest_26 : decode cX9_nodeBest 26 = .ok (.iconst (-1), 1) := by decide +kernel
theorem dX9_nodeBest_27 : decode cX9_nodeBest 27 = .ok (.ireturn, 1) := by decide +kernel
theorem dX9_nodeBest_28 : decode cX9_nodeBest 28 = .ok (.aload_n 0, 1) := by decide +kernel
theorem dX9_nodeBest_29 : decode cX9_nodeBest 29 = .ok (.bipush 10, 2) := by decide +kernel
theorem dX9_nodeBest_31 : decode cX9_nodeBest 31 = .ok (.invokevirtual 317, 3) := by decide +kernel
theorem dX9_nodeBest_34 : decode cX9_nodeBest 34 = .ok (.ifCond .ne 6, 3) := by decide +kernel
theorem dX9_nodeBest_37 : decode cX9_nodeBest 37 = .ok (.bipush (-4), 2) := by decide +kernel
theorem dX9_nodeBest_39 : decode cX9_nodeBest 39 = .ok (.ireturn, 1) := by decide +kernel
theorem dX9_nodeBest_40 : decode cX9_nodeBest 40 = .ok (.aload_n 0, 1) := by decide +kernel
theorem dX9_nodeBest_41 : decode cX9_nodeBest 41 = .ok (.getfield 51, 3) := by decide +kernel
theorem dX9_nodeBest_44 : decode cX9_nodeBest 44 = .ok (.iload_n 1, 1) := by decide +kernel
theorem dX9_nodeBest_45 : decode cX9_nodeBest 45 = .ok (.invokevirtual 320, 3) := by decide +kernel
theorem dX9_nodeBest_48 : decode cX9_nodeBest 48 = .ok (.istore_n 3, 1) := by decide +kernel
theorem dX9_nodeBest_49 : decode cX9_nodeBest 49 = .ok (.iload_n 2, 1) := by decide +kernel
theorem dX9_nodeBest_50 : decode cX9_nodeBest 50 = .ok (.ifCond .ne 7, 3) := by decide +kernel
theorem dX9_nodeBest_53 : decode cX9_nodeBest 53 = .ok (.iload_n 3, 1) := by decide +kernel
theorem dX9_nodeBest_54 : decode cX9_nodeBest 54 = .ok (.goto 12, 3) := by decide +kernel
theorem dX9_nodeBest_57 : decode cX9_nodeBest 57 = .ok (.aload_n 0, 1) := by decide +kernel
theorem dX9_nodeBest_58 : decode cX9_nodeBest 58 = .ok (.getfield 51, 3) := by decide +kernel
theorem dX9_nodeBest_61 : decode cX9_nodeBest 61 = .ok (.iload_n 1, 1) := by decide +kernel
theorem dX9_nodeBest_62 : decode cX9_nodeBest 62 = .ok (.iload_n 3, 1) := by decide +kernel
theorem dX9_nodeBest_63 : decode cX9_nodeBest 63 = .ok (.invokevirtual 323, 3) := by decide +kernel
theorem dX9_nodeBest_66 : decode cX9_nodeBest 66 = .ok (.ireturn, 1) := by decide +kernel
set_option maxRecDepth 20000 in
theorem ggX9_tune_X9_takeSeconds : GoodIn wsX9_tune wsX9_takeSeconds := goodIn_r _ [6, 7, 64, 65, 66, 67, 68, 69, 70, 71, 72, 73, 74, 75] (by decide +kernel) (by decide +kernel)
set_option maxRecDepth 20000 in
theorem gX9_tune_X9_takeSeconds : GoodIn wsX9_tune (wsV RX9 317 RX9 yX9_takeSeconds wsX9_takeSeconds) := goodIn_app (goodIn_of _ (by decide +kernel)) ggX9_tune_X9_takeSeconds
set_option maxRecDepth 20000 in
theorem ggX9_tune_X7_tuneAll : GoodIn wsX9_tune wsX7_tuneAll := goodIn_r _ [12, 13, 14, 15, 16, 11, 17, 18, 19, 20, 21, 22, 23, 24, 25, 26, 27, 28, 29, 30, 31, 32, 33, 34, 35, 36, 37, 38, 39, 40, 41, 42, 43, 44, 45, 46, 47, 48, 49, 50, 51, 52, 53, 54, 55, 56, 57, 58, 59, 60, 61, 62, 76, 77, 78] (by decide +kernel) (by decide +kernel)
set_option maxRecDepth 20000 in
theorem gX9_tune_X7_tuneAll : GoodIn wsX9_tune (wsV RX9 326 RX7 yX7_tuneAll wsX7_tuneAll) := goodIn_app (goodIn_of _ (by decide +kernel)) ggX9_tune_X7_tuneAll
set_option maxRecDepth 20000 in
theorem ggX9_tune_X7_bothBands : GoodIn wsX9_tune wsX7_bothBands := goodIn_r _ [62, 32, 33, 34, 11, 35, 13, 36, 37, 38, 39, 18, 40, 41, 42, 43, 23, 24, 25, 26, 27, 44, 45, 46, 47, 48, 49, 50, 51, 52, 53, 54, 55, 56, 57, 58, 76, 77, 78] (by decide +kernel) (by decide +kernel)
set_option maxRecDepth 20000 in
theorem gX9_tune_X7_bothBands : GoodIn wsX9_tune (wsV RX9 314 RX7 yX7_bothBands wsX7_bothBands) := goodIn_app (goodIn_of _ (by decide +kernel)) ggX9_tune_X7_bothBands
theorem dX9_tune_0 : decode cX9_tune 0 = .ok (.aload_n 0, 1) := by decide +kernel
theorem dX9_tune_1 : decode cX9_tune 1 = .ok (.sipush 200, 3) := by decide +kernel
theorem dX9_tune_4 : decode cX9_tune 4 = .ok (.invokevirtual 317, 3) := by decide +kernel
theorem dX9_tune_7 : decode cX9_tune 7 = .ok (.ifCond .ne 6, 3) := by decide +kernel
theorem dX9_tune_10 : decode cX9_tune 10 = .ok (.bipush (-4), 2) := by decide +kernel
theorem dX9_tune_12 : decode cX9_tune 12 = .ok (.ireturn, 1) := by decide +kernel
theorem dX9_tune_13 : decode cX9_tune 13 = .ok (.aload_n 0, 1) := by decide +kernel
theorem dX9_tune_14 : decode cX9_tune 14 = .ok (.getfield 51, 3) := by decide +kernel
theorem dX9_tune_17 : decode cX9_tune 17 = .ok (.invokevirtual 326, 3) := by decide +kernel
theorem dX9_tune_20 : decode cX9_tune 20 = .ok (.aload_n 0, 1) := by decide +kernel
theorem dX9_tune_21 : decode cX9_tune 21 = .ok (.getfield 51, 3) := by decide +kernel
theorem dX9_tune_24 : decode cX9_tune 24 = .ok (.invokevirtual 314, 3) := by decide +kernel
theorem dX9_tune_27 : decode cX9_tune 27 = .ok (.ireturn, 1) := by decide +kernel
set_option maxRecDepth 20000 in
theorem ggX9_would_X9_within : GoodIn wsX9_would wsX9_within := goodIn_r _ [6] (by decide +kernel) (by decide +kernel)
set_option maxRecDepth 20000 in
theorem gX9_would_X9_within : GoodIn wsX9_would (va_wsS RX9 66 yX9_within wsX9_within) := goodIn_app (goodIn_of _ (by decide +kernel)) ggX9_would_X9_within
set_option maxRecDepth 20000 in
theorem ggX9_would_X9_refusalOf : GoodIn wsX9_would wsX9_refusalOf := goodIn_r _ [10, 2, 11, 3, 4, 5, 6, 12, 13, 14, 15, 16, 265, 266, 267, 268, 269, 270, 271, 272, 273, 274, 275, 276, 277, 278, 279, 280, 281, 282, 283, 284, 285, 286, 287, 288, 289, 290, 291, 292] (by decide +kernel) (by decide +kernel)
set_option maxRecDepth 20000 in
theorem gX9_would_X9_refusalOf : GoodIn wsX9_would (wsV RX9 188 RX9 yX9_refusalOf wsX9_refusalOf) := goodIn_app (goodIn_of _ (by decide +kernel)) ggX9_would_X9_refusalOf
set_option maxRecDepth 20000 in
theorem ggX9_would_X0_copyFrom : GoodIn wsX9_would wsX0_copyFrom := goodIn_r _ [21, 22, 23, 24, 25, 26, 27, 28, 29, 30, 31, 32, 33, 34, 35, 36, 37, 38, 39, 40, 41, 42, 43, 44, 45, 46, 47, 48, 49, 50, 51, 52, 53, 54, 55, 56, 57, 58, 59, 60, 61, 62, 63, 64, 65, 66, 67, 68, 69, 70, 71, 72, 73, 74, 75, 76, 77, 78, 79, 80, 81, 82, 83, 84, 85, 86, 87, 88, 89, 277, 278, 279, 280, 281, 282, 283, 284, 285, 286, 287, 288, 289, 290, 291, 292, 293, 294, 295, 296, 297, 298, 299, 300, 301, 302, 303, 304, 305, 306, 307, 308, 309, 310, 311, 312, 313, 314] (by decide +kernel) (by decide +kernel)
set_option maxRecDepth 20000 in
theorem gX9_would_X0_copyFrom : GoodIn wsX9_would (wsV RX9 329 RX0 yX0_copyFrom wsX0_copyFrom) := goodIn_app (goodIn_of _ (by decide +kernel)) ggX9_would_X0_copyFrom
set_option maxRecDepth 20000 in
theorem ggX9_would_X0_passSeconds : GoodIn wsX9_would wsX0_passSeconds := goodIn_r _ [93, 26, 30, 31, 23, 27, 94, 95, 96, 20, 97, 22, 98, 33, 99, 100, 101, 102, 103, 57, 104, 60, 105, 106, 107, 108, 34, 109, 110, 111, 112, 113, 62, 114, 86, 87, 88, 115, 116, 117, 118, 24, 119, 28, 29, 120, 5, 121, 122, 123, 124, 125, 126, 127, 128, 129, 130, 59, 131, 132, 133, 71, 134, 73, 74, 135, 136, 137, 138, 25, 139, 140, 141, 142, 66, 143, 144, 145, 81, 146, 83, 147, 84, 89, 47, 48, 49, 148, 149, 150, 151, 152, 153, 154, 155, 156, 157, 158, 159, 160, 161, 162, 163, 164, 35, 37, 165, 166, 167, 168, 36, 169, 170, 171, 172, 173, 174, 175, 176, 177, 178, 179, 180, 181, 182, 183, 184, 185, 186, 187, 188, 189, 190, 191, 192, 193, 194, 195, 196, 197, 198, 199, 200, 201, 202, 203, 204, 205, 206, 207, 208, 209, 210, 211, 212, 213, 214, 215, 216, 217, 218, 219, 220, 221, 222, 223, 41, 224, 53, 225, 226, 227, 228, 52, 44, 229, 230, 231, 232, 65, 67, 233, 234, 235, 236, 237, 32, 238, 239, 240, 241, 242, 243, 244, 245, 246, 277, 278, 279, 280, 281, 282, 283, 284, 285, 286, 287, 288, 289, 290, 291, 292, 293, 294, 295, 296, 297, 298, 299, 300, 301, 302, 303, 304, 305, 306, 307, 308, 309, 310, 311, 312, 313, 314] (by decide +kernel) (by decide +kernel)
set_option maxRecDepth 20000 in
theorem gX9_would_X0_passSeconds : GoodIn wsX9_would (wsV RX9 195 RX0 yX0_passSeconds wsX0_passSeconds) := goodIn_app (goodIn_of _ (by decide +kernel)) ggX9_would_X0_passSeconds
set_option maxRecDepth 20000 in
theorem ggX9_would_X0_fact : GoodIn wsX9_would wsX0_fact := goodIn_r _ [250, 27, 28, 29, 30, 31, 32, 33, 23, 251, 34, 22, 252, 35, 36, 37, 98, 24, 189, 253, 254, 255, 20, 256, 257, 258, 259, 260, 220, 127, 128, 129, 57, 130, 59, 261, 262, 263, 41, 264, 45, 185, 186, 187, 188, 26, 119, 190, 191, 192, 193, 62, 194, 165, 166, 167, 168, 169, 170, 171, 172, 243, 244, 245, 246, 277, 278, 279, 280, 281, 282, 283, 284, 285, 286, 287, 288, 289, 290, 291, 292, 300, 301, 302, 303, 304, 305, 306, 307, 293, 294, 295, 296, 297, 298, 299, 308, 309, 310, 311] (by decide +kernel) (by decide +kernel)
set_option maxRecDepth 20000 in
theorem gX9_would_X0_fact : GoodIn wsX9_would (wsV RX9 198 RX0 yX0_fact wsX0_fact) := goodIn_app (goodIn_of _ (by decide +kernel)) ggX9_would_X0_fact
theorem dX9_would_0 : decode cX9_would 0 = .ok (.iload_n 2, 1) := by decide +kernel
theorem dX9_would_1 : decode cX9_would 1 = .ok (.iconst 0, 1) := by decide +kernel
theorem dX9_would_2 : decode cX9_would 2 = .ok (.bipush 18, 2) := by decide +kernel
theorem dX9_would_4 : decode cX9_would 4 = .ok (.invokestatic 66, 3) := by decide +kernel
theorem dX9_would_7 : decode cX9_would 7 = .ok (.ifCond .ne 5, 3) := by decide +kernel
theorem dX9_would_10 : decode cX9_would 10 = .ok (.iconst (-1), 1) := by decide +kernel
theorem dX9_would_11 : decode cX9_would 11 = .ok (.ireturn, 1) := by decide +kernel
theorem dX9_would_12 : decode cX9_would 12 = .ok (.aload_n 0, 1) := by decide +kernel
theorem dX9_would_13 : decode cX9_would 13 = .ok (.iload_n 1, 1) := by decide +kernel
theorem dX9_would_14 : decode cX9_would 14 = .ok (.bipush 99, 2) := by decide +kernel
theorem dX9_would_16 : decode cX9_would 16 = .ok (.iconst 1, 1) := by decide +kernel
theorem dX9_would_17 : decode cX9_would 17 = .ok (.invokevirtual 188, 3) := by decide +kernel
theorem dX9_would_20 : decode cX9_would 20 = .ok (.istore_n 3, 1) := by decide +kernel
theorem dX9_would_21 : decode cX9_would 21 = .ok (.iload_n 3, 1) := by decide +kernel
theorem dX9_would_22 : decode cX9_would 22 = .ok (.ifCond .eq 5, 3) := by decide +kernel
theorem dX9_would_25 : decode cX9_would 25 = .ok (.iload_n 3, 1) := by decide +kernel
theorem dX9_would_26 : decode cX9_would 26 = .ok (.ireturn, 1) := by decide +kernel
theorem dX9_would_27 : decode cX9_would 27 = .ok (.aload_n 0, 1) := by decide +kernel
theorem dX9_would_28 : decode cX9_would 28 = .ok (.getfield 24, 3) := by decide +kernel
theorem dX9_would_31 : decode cX9_would 31 = .ok (.aload_n 0, 1) := by decide +kernel
theorem dX9_would_32 : decode cX9_would 32 = .ok (.getfield 31, 3) := by decide +kernel
theorem dX9_would_35 : decode cX9_would 35 = .ok (.invokevirtual 329, 3) := by decide +kernel
theorem dX9_would_38 : decode cX9_would 38 = .ok (.aload_n 0, 1) := by decide +kernel
theorem dX9_would_39 : decode cX9_would 39 = .ok (.getfield 24, 3) := by decide +kernel
theorem dX9_would_42 : decode cX9_would 42 = .ok (.iload_n 1, 1) := by decide +kernel
theorem dX9_would_43 : decode cX9_would 43 = .ok (.invokevirtual 195, 3) := by decide +kernel
theorem dX9_would_46 : decode cX9_would 46 = .ok (.aload_n 0, 1) := by decide +kernel
theorem dX9_would_47 : decode cX9_would 47 = .ok (.getfield 24, 3) := by decide +kernel
theorem dX9_would_50 : decode cX9_would 50 = .ok (.iload_n 2, 1) := by decide +kernel
theorem dX9_would_51 : decode cX9_would 51 = .ok (.invokevirtual 198, 3) := by decide +kernel
theorem dX9_would_54 : decode cX9_would 54 = .ok (.ireturn, 1) := by decide +kernel
set_option maxRecDepth 20000 in
theorem ggX9_turns_X9_isSignal : GoodIn wsX9_turns wsX9_isSignal := goodIn_r _ [9, 10, 11, 12, 13, 8, 14, 256, 257, 258, 259, 260, 261, 262, 263, 264, 265, 266, 267, 284, 285, 286, 287, 288, 289, 290] (by decide +kernel) (by decide +kernel)
set_option maxRecDepth 20000 in
theorem gX9_turns_X9_isSignal : GoodIn wsX9_turns (wsV RX9 84 RX9 yX9_isSignal wsX9_isSignal) := goodIn_app (goodIn_of _ (by decide +kernel)) ggX9_turns_X9_isSignal
set_option maxRecDepth 20000 in
theorem ggX9_turns_X9_refusalOf : GoodIn wsX9_turns wsX9_refusalOf := goodIn_r _ [18, 2, 19, 12, 13, 8, 14, 20, 21, 22, 23, 24, 256, 257, 258, 259, 260, 261, 262, 263, 264, 265, 266, 267, 268, 269, 270, 271, 272, 273, 274, 275, 276, 277, 278, 279, 280, 281, 282, 283] (by decide +kernel) (by decide +kernel)
set_option maxRecDepth 20000 in
theorem gX9_turns_X9_refusalOf : GoodIn wsX9_turns (wsV RX9 188 RX9 yX9_refusalOf wsX9_refusalOf) := goodIn_app (goodIn_of _ (by decide +kernel)) ggX9_turns_X9_refusalOf
set_option maxRecDepth 20000 in
theorem ggX9_turns_X0_copyFrom : GoodIn wsX9_turns wsX0_copyFrom := goodIn_r _ [29, 30, 31, 32, 33, 34, 35, 36, 37, 38, 39, 40, 41, 42, 43, 44, 45, 46, 47, 48, 49, 50, 51, 52, 53, 54, 55, 56, 57, 58, 59, 60, 61, 62, 63, 64, 65, 66, 67, 68, 69, 70, 71, 72, 73, 74, 75, 76, 77, 78, 79, 80, 81, 82, 83, 84, 85, 86, 87, 88, 89, 90, 91, 92, 93, 94, 95, 96, 97, 268, 269, 270, 271, 272, 273, 274, 275, 276, 277, 278, 279, 280, 281, 282, 283, 284, 285, 286, 287, 288, 289, 290, 291, 292, 293, 294, 295, 296, 297, 298, 299, 300, 301, 302, 303, 304, 305] (by decide +kernel) (by decide +kernel)
set_option maxRecDepth 20000 in
theorem gX9_turns_X0_copyFrom : GoodIn wsX9_turns (wsV RX9 329 RX0 yX0_copyFrom wsX0_copyFrom) := goodIn_app (goodIn_of _ (by decide +kernel)) ggX9_turns_X0_copyFrom
set_option maxRecDepth 20000 in
theorem ggX9_turns_X0_passSeconds : GoodIn wsX9_turns wsX0_passSeconds := goodIn_r _ [101, 34, 38, 39, 31, 35, 102, 103, 104, 28, 105, 30, 106, 41, 107, 108, 109, 110, 111, 65, 112, 68, 113, 114, 115, 116, 42, 117, 118, 119, 120, 121, 70, 122, 94, 95, 96, 123, 124, 125, 126, 32, 127, 36, 37, 128, 8, 129, 130, 131, 132, 133, 134, 135, 136, 137, 138, 67, 139, 140, 141, 79, 142, 81, 82, 143, 144, 145, 146, 33, 147, 148, 149, 150, 74, 151, 152, 153, 89, 154, 91, 155, 92, 97, 55, 56, 57, 156, 157, 158, 159, 160, 161, 162, 163, 164, 165, 166, 167, 168, 169, 170, 171, 172, 43, 45, 173, 174, 175, 176, 44, 177, 178, 179, 180, 181, 182, 183, 184, 185, 186, 187, 188, 189, 190, 191, 192, 193, 194, 195, 196, 197, 198, 199, 200, 201, 202, 203, 204, 205, 206, 207, 208, 209, 210, 211, 212, 213, 214, 215, 216, 217, 218, 219, 220, 221, 222, 223, 224, 225, 226, 227, 228, 229, 230, 231, 49, 232, 61, 233, 234, 235, 236, 60, 52, 237, 238, 239, 240, 73, 75, 241, 242, 243, 244, 245, 40, 246, 247, 248, 249, 250, 251, 252, 253, 254, 268, 269, 270, 271, 272, 273, 274, 275, 276, 277, 278, 279, 280, 281, 282, 283, 284, 285, 286, 287, 288, 289, 290, 291, 292, 293, 294, 295, 296, 297, 298, 299, 300, 301, 302, 303, 304, 305] (by decide +kernel) (by decide +kernel)
set_option maxRecDepth 20000 in
theorem gX9_turns_X0_passSeconds : GoodIn wsX9_turns (wsV RX9 195 RX0 yX0_passSeconds wsX0_passSeconds) := goodIn_app (goodIn_of _ (by decide +kernel)) ggX9_turns_X0_passSeconds
set_option maxRecDepth 20000 in
theorem ggX9_turns_X5_isGreen : GoodIn wsX9_turns wsX5_isGreen := goodIn_r _ [138, 67, 291, 292, 293, 294, 295, 296, 297, 298] (by decide +kernel) (by decide +kernel)
set_option maxRecDepth 20000 in
theorem gX9_turns_X5_isGreen : GoodIn wsX9_turns (wsV RX9 333 RX5 yX5_isGreen wsX5_isGreen) := goodIn_app (goodIn_of _ (by decide +kernel)) ggX9_turns_X5_isGreen
theorem dX9_turns_0 : decode cX9_turns 0 = .ok (.aload_n 0, 1) := by decide +kernel
theorem dX9_turns_1 : decode cX9_turns 1 = .ok (.iload_n 1, 1) := by decide +kernel
theorem dX9_turns_2 : decode cX9_turns 2 = .ok (.invokevirtual 84, 3) := by decide +kernel
theorem dX9_turns_5 : decode cX9_turns 5 = .ok (.ifCond .ne 5, 3) := by decide +kernel
theorem dX9_turns_8 : decode cX9_turns 8 = .ok (.iconst (-1), 1) := by decide +kernel
theorem dX9_turns_9 : decode cX9_turns 9 = .ok (.ireturn, 1) := by decide +kernel
theorem dX9_turns_10 : decode cX9_turns 10 = .ok (.aload_n 0, 1) := by decide +kernel
theorem dX9_turns_11 : decode cX9_turns 11 = .ok (.iload_n 2, 1) := by decide +kernel
theorem dX9_turns_12 : decode cX9_turns 12 = .ok (.bipush 99, 2) := by decide +kernel
theorem dX9_turns_14 : decode cX9_turns 14 = .ok (.iconst 1, 1) := by decide +kernel
theorem dX9_turns_15 : decode cX9_turns 15 = .ok (.invokevirtual 188, 3) := by decide +kernel
theorem dX9_turns_18 : decode cX9_turns 18 = .ok (.istore_n 3, 1) := by decide +kernel
theorem dX9_turns_19 : decode cX9_turns 19 = .ok (.iload_n 3, 1) := by decide +kernel
theorem dX9_turns_20 : decode cX9_turns 20 = .ok (.ifCond .eq 5, 3) := by decide +kernel
theorem dX9_turns_23 : decode cX9_turns 23 = .ok (.iload_n 3, 1) := by decide +kernel
theorem dX9_turns_24 : decode cX9_turns 24 = .ok (.ireturn, 1) := by decide +kernel
theorem dX9_turns_25 : decode cX9_turns 25 = .ok (.aload_n 0, 1) := by decide +kernel
theorem dX9_turns_26 : decode cX9_turns 26 = .ok (.getfield 24, 3) := by decide +kernel
theorem dX9_turns_29 : decode cX9_turns 29 = .ok (.aload_n 0, 1) := by decide +kernel
theorem dX9_turns_30 : decode cX9_turns 30 = .ok (.getfield 31, 3) := by decide +kernel
theorem dX9_turns_33 : decode cX9_turns 33 = .ok (.invokevirtual 329, 3) := by decide +kernel
theorem dX9_turns_36 : decode cX9_turns 36 = .ok (.iconst 0, 1) := by decide +kernel
theorem dX9_turns_37 : decode cX9_turns 37 = .ok (.istore 4, 2) := by decide +kernel
theorem dX9_turns_39 : decode cX9_turns 39 = .ok (.iload 4, 2) := by decide +kernel
theorem dX9_turns_41 : decode cX9_turns 41 = .ok (.iload_n 2, 1) := by decide +kernel
theorem dX9_turns_42 : decode cX9_turns 42 = .ok (.if_icmp .ge 41, 3) := by decide +kernel
theorem dX9_turns_45 : decode cX9_turns 45 = .ok (.aload_n 0, 1) := by decide +kernel
theorem dX9_turns_46 : decode cX9_turns 46 = .ok (.getfield 24, 3) := by decide +kernel
theorem dX9_turns_49 : decode cX9_turns 49 = .ok (.iconst 1, 1) := by decide +kernel
theorem dX9_turns_50 : decode cX9_turns 50 = .ok (.invokevirtual 195, 3) := by decide +kernel
theorem dX9_turns_53 : decode cX9_turns 53 = .ok (.aload_n 0, 1) := by decide +kernel
theorem dX9_turns_54 : decode cX9_turns 54 = .ok (.getfield 24, 3) := by decide +kernel
theorem dX9_turns_57 : decode cX9_turns 57 = .ok (.getfield 37, 3) := by decide +kernel
theorem dX9_turns_60 : decode cX9_turns 60 = .ok (.iload_n 1, 1) := by decide +kernel
theorem dX9_turns_61 : decode cX9_turns 61 = .ok (.invokevirtual 333, 3) := by decide +kernel
theorem dX9_turns_64 : decode cX9_turns 64 = .ok (.ifCond .eq 13, 3) := by decide +kernel
theorem dX9_turns_67 : decode cX9_turns 67 = .ok (.aload_n 0, 1) := by decide +kernel
theorem dX9_turns_68 : decode cX9_turns 68 = .ok (.getfield 24, 3) := by decide +kernel
theorem dX9_turns_71 : decode cX9_turns 71 = .ok (.getfield 336, 3) := by decide +kernel
theorem dX9_turns_74 : decode cX9_turns 74 = .ok (.iconst 1, 1) := by decide +kernel
theorem dX9_turns_75 : decode cX9_turns 75 = .ok (.isub, 1) := by decide +kernel
theorem dX9_turns_76 : decode cX9_turns 76 = .ok (.ireturn, 1) := by decide +kernel
theorem dX9_turns_77 : decode cX9_turns 77 = .ok (.iinc 4 1, 3) := by decide +kernel
theorem dX9_turns_80 : decode cX9_turns 80 = .ok (.goto (-41), 3) := by decide +kernel
theorem dX9_turns_83 : decode cX9_turns 83 = .ok (.bipush (-5), 2) := by decide +kernel
theorem dX9_turns_85 : decode cX9_turns 85 = .ok (.ireturn, 1) := by decide +kernel
set_option maxRecDepth 20000 in
theorem ggX9_best_X9_within : GoodIn wsX9_best wsX9_within := goodIn_r _ [4] (by decide +kernel) (by decide +kernel)
set_option maxRecDepth 20000 in
theorem gX9_best_X9_within : GoodIn wsX9_best (va_wsS RX9 66 yX9_within wsX9_within) := goodIn_app (goodIn_of _ (by decide +kernel)) ggX9_best_X9_within
set_option maxRecDepth 20000 in
theorem ggX9_best_X9_refusalOf : GoodIn wsX9_best wsX9_refusalOf := goodIn_r _ [8, 9, 10, 1, 2, 3, 4, 11, 12, 13, 14, 15, 257, 258, 259, 260, 261, 262, 263, 264, 265, 266, 267, 268, 269, 270, 271, 272, 273, 274, 275, 276, 277, 278, 279, 280, 281, 282, 283, 284] (by decide +kernel) (by decide +kernel)
set_option maxRecDepth 20000 in
theorem gX9_best_X9_refusalOf : GoodIn wsX9_best (wsV RX9 188 RX9 yX9_refusalOf wsX9_refusalOf) := goodIn_app (goodIn_of _ (by decide +kernel)) ggX9_best_X9_refusalOf
set_option maxRecDepth 20000 in
theorem ggX9_best_X9_waitedWithGap : GoodIn wsX9_best wsX9_waitedWithGap := goodIn_r _ [19, 20, 9, 21, 22, 23, 24, 25, 26, 27, 28, 29, 30, 31, 32, 33, 34, 35, 36, 37, 38, 39, 40, 41, 42, 43, 44, 45, 46, 47, 48, 49, 50, 51, 52, 53, 54, 55, 56, 57, 58, 59, 60, 61, 62, 63, 64, 65, 66, 67, 68, 69, 70, 71, 72, 73, 74, 75, 76, 77, 78, 79, 80, 81, 82, 83, 84, 85, 86, 87, 88, 89, 90, 91, 92, 93, 94, 95, 96, 97, 98, 99, 100, 101, 102, 103, 104, 105, 106, 107, 108, 109, 110, 111, 112, 113, 114, 115, 116, 117, 118, 119, 120, 121, 122, 123, 124, 125, 126, 127, 128, 129, 130, 3, 131, 132, 133, 134, 135, 136, 137, 138, 139, 140, 141, 142, 143, 144, 145, 146, 147, 148, 149, 150, 151, 152, 153, 154, 155, 156, 157, 158, 159, 160, 161, 162, 163, 164, 165, 166, 167, 168, 169, 170, 171, 172, 173, 174, 175, 176, 177, 178, 179, 180, 181, 182, 183, 184, 185, 186, 187, 188, 189, 190, 191, 192, 193, 194, 195, 196, 197, 198, 199, 200, 201, 202, 203, 204, 205, 206, 207, 208, 209, 210, 211, 212, 213, 214, 215, 216, 217, 218, 219, 220, 221, 222, 223, 224, 225, 226, 227, 228, 229, 230, 231, 232, 233, 234, 235, 236, 237, 238, 239, 240, 241, 242, 243, 244, 245, 246, 247, 248, 249, 250, 251, 252, 253, 254, 255, 256, 257, 258, 259, 260, 261, 262, 263, 264, 265, 266, 267, 268, 269, 270, 271, 272, 273, 274, 275, 276, 277, 278, 279, 280, 281, 282, 283, 284, 285, 286, 287, 288, 289, 290, 291, 292, 293, 294, 295, 296, 297, 298, 299, 300, 301, 302, 303, 304, 305, 306] (by decide +kernel) (by decide +kernel)
set_option maxRecDepth 20000 in
theorem gX9_best_X9_waitedWithGap : GoodIn wsX9_best (wsV RX9 339 RX9 yX9_waitedWithGap wsX9_waitedWithGap) := goodIn_app (goodIn_of _ (by decide +kernel)) ggX9_best_X9_waitedWithGap
theorem dX9_best_0 : decode cX9_best 0 = .ok (.iload_n 2, 1) := by decide +kernel
theorem dX9_best_1 : decode cX9_best 1 = .ok (.iconst 0, 1) := by decide +kernel
theorem dX9_best_2 : decode cX9_best 2 = .ok (.iconst 1, 1) := by decide +kernel
theorem dX9_best_3 : decode cX9_best 3 = .ok (.invokestatic 66, 3) := by decide +kernel
theorem dX9_best_6 : decode cX9_best 6 = .ok (.ifCond .ne 5, 3) := by decide +kernel
theorem dX9_best_9 : decode cX9_best 9 = .ok (.iconst (-1), 1) := by decide +kernel
theorem dX9_best_10 : decode cX9_best 10 = .ok (.ireturn, 1) := by decide +kernel
theorem dX9_best_11 : decode cX9_best 11 = .ok (.aload_n 0, 1) := by decide +kernel
theorem dX9_best_12 : decode cX9_best 12 = .ok (.iload_n 1, 1) := by decide +kernel
theorem dX9_best_13 : decode cX9_best 13 = .ok (.bipush 60, 2) := by decide +kernel
theorem dX9_best_15 : decode cX9_best 15 = .ok (.bipush 9, 2) := by decide +kernel
theorem dX9_best_17 : decode cX9_best 17 = .ok (.invokevirtual 188, 3) := by decide +kernel
theorem dX9_best_20 : decode cX9_best 20 = .ok (.istore_n 3, 1) := by decide +kernel
theorem dX9_best_21 : decode cX9_best 21 = .ok (.iload_n 3, 1) := by decide +kernel
theorem dX9_best_22 : decode cX9_best 22 = .ok (.ifCond .eq 5, 3) := by decide +kernel
theorem dX9_best_25 : decode cX9_best 25 = .ok (.iload_n 3, 1) := by decide +kernel
theorem dX9_best_26 : decode cX9_best 26 = .ok (.ireturn, 1) := by decide +kernel
theorem dX9_best_27 : decode cX9_best 27 = .ok (.iconst 1, 1) := by decide +kernel
theorem dX9_best_28 : decode cX9_best 28 = .ok (.istore 4, 2) := by decide +kernel
theorem dX9_best_30 : decode cX9_best 30 = .ok (.aload_n 0, 1) := by decide +kernel
theorem dX9_best_31 : decode cX9_best 31 = .ok (.iconst 1, 1) := by decide +kernel
theorem dX9_best_32 : decode cX9_best 32 = .ok (.iload_n 1, 1) := by decide +kernel
theorem dX9_best_33 : decode cX9_best 33 = .ok (.invokevirtual 339, 3) := by decide +kernel
theorem dX9_best_36 : decode cX9_best 36 = .ok (.istore 5, 2) := by decide +kernel
theorem dX9_best_38 : decode cX9_best 38 = .ok (.iconst 2, 1) := by decide +kernel
theorem dX9_best_39 : decode cX9_best 39 = .ok (.istore 6, 2) := by decide +kernel
theorem dX9_best_41 : decode cX9_best 41 = .ok (.iload 6, 2) := by decide +kernel
theorem dX9_best_43 : decode cX9_best 43 = .ok (.bipush 9, 2) := by decide +kernel
theorem dX9_best_45 : decode cX9_best 45 = .ok (.if_icmp .gt 33, 3) := by decide +kernel
theorem dX9_best_48 : decode cX9_best 48 = .ok (.aload_n 0, 1) := by decide +kernel
theorem dX9_best_49 : decode cX9_best 49 = .ok (.iload 6, 2) := by decide +kernel
theorem dX9_best_51 : decode cX9_best 51 = .ok (.iload_n 1, 1) := by decide +kernel
theorem dX9_best_52 : decode cX9_best 52 = .ok (.invokevirtual 339, 3) := by decide +kernel
theorem dX9_best_55 : decode cX9_best 55 = .ok (.istore 7, 2) := by decide +kernel
theorem dX9_best_57 : decode cX9_best 57 = .ok (.iload 7, 2) := by decide +kernel
theorem dX9_best_59 : decode cX9_best 59 = .ok (.iload 5, 2) := by decide +kernel
theorem dX9_best_61 : decode cX9_best 61 = .ok (.if_icmp .ge 11, 3) := by decide +kernel
theorem dX9_best_64 : decode cX9_best 64 = .ok (.iload 6, 2) := by decide +kernel
theorem dX9_best_66 : decode cX9_best 66 = .ok (.istore 4, 2) := by decide +kernel
theorem dX9_best_68 : decode cX9_best 68 = .ok (.iload 7, 2) := by decide +kernel
theorem dX9_best_70 : decode cX9_best 70 = .ok (.istore 5, 2) := by decide +kernel
theorem dX9_best_72 : decode cX9_best 72 = .ok (.iinc 6 1, 3) := by decide +kernel
theorem dX9_best_75 : decode cX9_best 75 = .ok (.goto (-34), 3) := by decide +kernel
theorem dX9_best_78 : decode cX9_best 78 = .ok (.iload_n 2, 1) := by decide +kernel
theorem dX9_best_79 : decode cX9_best 79 = .ok (.ifCond .ne 8, 3) := by decide +kernel
theorem dX9_best_82 : decode cX9_best 82 = .ok (.iload 4, 2) := by decide +kernel
theorem dX9_best_84 : decode cX9_best 84 = .ok (.goto 5, 3) := by decide +kernel
theorem dX9_best_87 : decode cX9_best 87 = .ok (.iload 5, 2) := by decide +kernel
theorem dX9_best_89 : decode cX9_best 89 = .ok (.ireturn, 1) := by decide +kernel
set_option maxRecDepth 20000 in
theorem ggX9_waitedWithGap_X0_copyFrom : GoodIn wsX9_waitedWithGap wsX0_copyFrom := goodIn_r _ [9, 10, 11, 12, 13, 14, 15, 16, 17, 18, 19, 20, 21, 22, 23, 24, 25, 26, 27, 28, 29, 30, 31, 32, 33, 34, 35, 36, 37, 38, 39, 40, 41, 42, 43, 44, 45, 46, 47, 48, 49, 50, 51, 52, 53, 54, 55, 56, 57, 58, 59, 60, 61, 62, 63, 64, 65, 66, 67, 68, 69, 70, 71, 72, 73, 74, 75, 76, 77, 252, 253, 254, 255, 256, 257, 258, 259, 260, 261, 262, 263, 264, 265, 266, 267, 268, 269, 270, 271, 272, 273, 274, 275, 276, 277, 278, 279, 280, 281, 282, 283, 284, 285, 286, 287, 288, 289] (by decide +kernel) (by decide +kernel)
set_option maxRecDepth 20000 in
theorem gX9_waitedWithGap_X0_copyFrom : GoodIn wsX9_waitedWithGap (wsV RX9 329 RX0 yX0_copyFrom wsX0_copyFrom) := goodIn_app (goodIn_of _ (by decide +kernel)) ggX9_waitedWithGap_X0_copyFrom
set_option maxRecDepth 20000 in
theorem ggX9_waitedWithGap_X5_setGaps : GoodIn wsX9_waitedWithGap wsX5_setGaps := goodIn_r _ [81, 48, 275, 276, 277, 278, 279, 280, 281, 282] (by decide +kernel) (by decide +kernel)
set_option maxRecDepth 20000 in
theorem gX9_waitedWithGap_X5_setGaps : GoodIn wsX9_waitedWithGap (wsV RX9 342 RX5 yX5_setGaps wsX5_setGaps) := goodIn_app (goodIn_of _ (by decide +kernel)) ggX9_waitedWithGap_X5_setGaps
set_option maxRecDepth 20000 in
theorem ggX9_waitedWithGap_X0_passSeconds : GoodIn wsX9_waitedWithGap wsX0_passSeconds := goodIn_r _ [85, 14, 18, 19, 11, 15, 86, 87, 88, 8, 89, 10, 90, 21, 91, 92, 93, 94, 95, 45, 96, 48, 97, 98, 99, 100, 22, 101, 102, 103, 104, 105, 50, 106, 74, 75, 76, 107, 108, 109, 110, 12, 111, 16, 17, 112, 113, 114, 115, 116, 117, 118, 119, 120, 121, 122, 123, 47, 124, 125, 126, 59, 127, 61, 62, 128, 129, 130, 131, 13, 132, 133, 134, 135, 54, 136, 137, 138, 69, 139, 71, 140, 72, 77, 35, 36, 37, 141, 142, 143, 144, 145, 146, 147, 148, 149, 150, 151, 152, 153, 154, 155, 156, 157, 23, 25, 158, 159, 160, 161, 24, 162, 163, 164, 165, 166, 167, 168, 169, 170, 171, 172, 173, 174, 175, 176, 177, 178, 179, 180, 181, 182, 183, 184, 185, 186, 187, 188, 189, 190, 191, 192, 193, 194, 195, 196, 197, 198, 199, 200, 201, 202, 203, 204, 205, 206, 207, 208, 209, 210, 211, 212, 213, 214, 215, 216, 29, 217, 41, 218, 219, 220, 221, 40, 32, 222, 223, 224, 225, 53, 55, 226, 227, 228, 229, 230, 20, 231, 232, 233, 234, 235, 236, 237, 238, 239, 252, 253, 254, 255, 256, 257, 258, 259, 260, 261, 262, 263, 264, 265, 266, 267, 268, 269, 270, 271, 272, 273, 274, 275, 276, 277, 278, 279, 280, 281, 282, 283, 284, 285, 286, 287, 288, 289] (by decide +kernel) (by decide +kernel)
set_option maxRecDepth 20000 in
theorem gX9_waitedWithGap_X0_passSeconds : GoodIn wsX9_waitedWithGap (wsV RX9 195 RX0 yX0_passSeconds wsX0_passSeconds) := goodIn_app (goodIn_of _ (by decide +kernel)) ggX9_waitedWithGap_X0_passSeconds
theorem dX9_waitedWithGap_0 : decode cX9_waitedWithGap 0 = .ok (.aload_n 0, 1) := by decide +kernel
theorem dX9_waitedWithGap_1 : decode cX9_waitedWithGap 1 = .ok (.getfield 24, 3) := by decide +kernel
theorem dX9_waitedWithGap_4 : decode cX9_waitedWithGap 4 = .ok (.aload_n 0, 1) := by decide +kernel
theorem dX9_waitedWithGap_5 : decode cX9_waitedWithGap 5 = .ok (.getfield 31, 3) := by decide +kernel
theorem dX9_waitedWithGap_8 : decode cX9_waitedWithGap 8 = .ok (.invokevirtual 329, 3) := by decide +kernel
theorem dX9_waitedWithGap_11 : decode cX9_waitedWithGap 11 = .ok (.aload_n 0, 1) := by decide +kernel
theorem dX9_waitedWithGap_12 : decode cX9_waitedWithGap 12 = .ok (.getfield 24, 3) := by decide +kernel
theorem dX9_waitedWithGap_15 : decode cX9_waitedWithGap 15 = .ok (.getfield 37, 3) := by decide +kernel
theorem dX9_waitedWithGap_18 : decode cX9_waitedWithGap 18 = .ok (.iload_n 1, 1) := by decide +kernel
theorem dX9_waitedWithGap_19 : decode cX9_waitedWithGap 19 = .ok (.invokevirtual 342, 3) := by decide +kernel
theorem dX9_waitedWithGap_22 : decode cX9_waitedWithGap 22 = .ok (.aload_n 0, 1) := by decide +kernel
theorem dX9_waitedWithGap_23 : decode cX9_waitedWithGap 23 = .ok (.getfield 24, 3) := by decide +kernel
theorem dX9_waitedWithGap_26 : decode cX9_waitedWithGap 26 = .ok (.iload_n 2, 1) := by decide +kernel
theorem dX9_waitedWithGap_27 : decode cX9_waitedWithGap 27 = .ok (.invokevirtual 195, 3) := by decide +kernel
theorem dX9_waitedWithGap_30 : decode cX9_waitedWithGap 30 = .ok (.aload_n 0, 1) := by decide +kernel
theorem dX9_waitedWithGap_31 : decode cX9_waitedWithGap 31 = .ok (.getfield 24, 3) := by decide +kernel
theorem dX9_waitedWithGap_34 : decode cX9_waitedWithGap 34 = .ok (.getfield 345, 3) := by decide +kernel
theorem dX9_waitedWithGap_37 : decode cX9_waitedWithGap 37 = .ok (.ireturn, 1) := by decide +kernel
set_option maxRecDepth 20000 in
theorem ggX9_note_X9_within : GoodIn wsX9_note wsX9_within := goodIn_r _ [8] (by decide +kernel) (by decide +kernel)
set_option maxRecDepth 20000 in
theorem gX9_note_X9_within : GoodIn wsX9_note (va_wsS RX9 66 yX9_within wsX9_within) := goodIn_app (goodIn_of _ (by decide +kernel)) ggX9_note_X9_within
set_option maxRecDepth 20000 in
theorem ggX9_note_X4_add : GoodIn wsX9_note wsX4_add := goodIn_r _ [13, 14, 15, 16, 34, 35, 36] (by decide +kernel) (by decide +kernel)
set_option maxRecDepth 20000 in
theorem gX9_note_X4_add : GoodIn wsX9_note (wsV RX9 287 RX4 yX4_add wsX4_add) := goodIn_app (goodIn_of _ (by decide +kernel)) ggX9_note_X4_add
theorem dX9_note_0 : decode cX9_note 0 = .ok (.aload_n 0, 1) := by decide +kernel
theorem dX9_note_1 : decode cX9_note 1 = .ok (.getfield 12, 3) := by decide +kernel
theorem dX9_note_4 : decode cX9_note 4 = .ok (.getfield 348, 3) := by decide +kernel
theorem dX9_note_7 : decode cX9_note 7 = .ok (.astore_n 3, 1) := by decide +kernel
theorem dX9_note_8 : decode cX9_note 8 = .ok (.iload_n 1, 1) := by decide +kernel
theorem dX9_note_9 : decode cX9_note 9 = .ok (.iconst (-1), 1) := by decide +kernel
theorem dX9_note_10 : decode cX9_note 10 = .ok (.if_icmp .ne 10, 3) := by decide +kernel
theorem dX9_note_13 : decode cX9_note 13 = .ok (.aload_n 3, 1) := by decide +kernel
theorem dX9_note_14 : decode cX9_note 14 = .ok (.iconst 0, 1) := by decide +kernel
theorem dX9_note_15 : decode cX9_note 15 = .ok (.putfield 258, 3) := by decide +kernel
theorem dX9_note_18 : decode cX9_note 18 = .ok (.iconst 0, 1) := by decide +kernel
theorem dX9_note_19 : decode cX9_note 19 = .ok (.ireturn, 1) := by decide +kernel
theorem dX9_note_20 : decode cX9_note 20 = .ok (.iload_n 1, 1) := by decide +kernel
theorem dX9_note_21 : decode cX9_note 21 = .ok (.iconst 0, 1) := by decide +kernel
theorem dX9_note_22 : decode cX9_note 22 = .ok (.ldc_w 351, 3) := by decide +kernel
theorem dX9_note_25 : decode cX9_note 25 = .ok (.invokestatic 66, 3) := by decide +kernel
theorem dX9_note_28 : decode cX9_note 28 = .ok (.ifCond .eq 14, 3) := by decide +kernel
theorem dX9_note_31 : decode cX9_note 31 = .ok (.iload_n 2, 1) := by decide +kernel
theorem dX9_note_32 : decode cX9_note 32 = .ok (.iconst 0, 1) := by decide +kernel
theorem dX9_note_33 : decode cX9_note 33 = .ok (.sipush 255, 3) := by decide +kernel
theorem dX9_note_36 : decode cX9_note 36 = .ok (.invokestatic 66, 3) := by decide +kernel
theorem dX9_note_39 : decode cX9_note 39 = .ok (.ifCond .ne 6, 3) := by decide +kernel
theorem dX9_note_42 : decode cX9_note 42 = .ok (.bipush (-2), 2) := by decide +kernel
theorem dX9_note_44 : decode cX9_note 44 = .ok (.ireturn, 1) := by decide +kernel
theorem dX9_note_45 : decode cX9_note 45 = .ok (.aload_n 3, 1) := by decide +kernel
theorem dX9_note_46 : decode cX9_note 46 = .ok (.iload_n 1, 1) := by decide +kernel
theorem dX9_note_47 : decode cX9_note 47 = .ok (.iload_n 2, 1) := by decide +kernel
theorem dX9_note_48 : decode cX9_note 48 = .ok (.iconst 0, 1) := by decide +kernel
theorem dX9_note_49 : decode cX9_note 49 = .ok (.invokevirtual 287, 3) := by decide +kernel
theorem dX9_note_52 : decode cX9_note 52 = .ok (.ifCond .eq 10, 3) := by decide +kernel
theorem dX9_note_55 : decode cX9_note 55 = .ok (.aload_n 3, 1) := by decide +kernel
theorem dX9_note_56 : decode cX9_note 56 = .ok (.getfield 258, 3) := by decide +kernel
theorem dX9_note_59 : decode cX9_note 59 = .ok (.goto 5, 3) := by decide +kernel
theorem dX9_note_62 : decode cX9_note 62 = .ok (.bipush (-4), 2) := by decide +kernel
theorem dX9_note_64 : decode cX9_note 64 = .ok (.ireturn, 1) := by decide +kernel
set_option maxRecDepth 20000 in
theorem ggX9_fits_X9_within : GoodIn wsX9_fits wsX9_within := goodIn_r _ [4] (by decide +kernel) (by decide +kernel)
set_option maxRecDepth 20000 in
theorem gX9_fits_X9_within : GoodIn wsX9_fits (va_wsS RX9 66 yX9_within wsX9_within) := goodIn_app (goodIn_of _ (by decide +kernel)) ggX9_fits_X9_within
set_option maxRecDepth 20000 in
theorem ggX9_fits_X9_refusalOf : GoodIn wsX9_fits wsX9_refusalOf := goodIn_r _ [8, 9, 10, 1, 2, 3, 4, 11, 12, 13, 14, 15, 272, 273, 274, 275, 276, 277, 278, 279, 280, 281, 282, 283, 284, 285, 286, 287, 288, 289, 290, 291, 292, 293, 294, 295, 296, 297, 298, 299] (by decide +kernel) (by decide +kernel)
set_option maxRecDepth 20000 in
theorem gX9_fits_X9_refusalOf : GoodIn wsX9_fits (wsV RX9 188 RX9 yX9_refusalOf wsX9_refusalOf) := goodIn_app (goodIn_of _ (by decide +kernel)) ggX9_fits_X9_refusalOf
set_option maxRecDepth 20000 in
theorem ggX9_fits_X9_notesHoldWithGap : GoodIn wsX9_fits wsX9_notesHoldWithGap := goodIn_r _ [19, 20, 9, 21, 22, 23, 24, 25, 26, 27, 28, 29, 30, 31, 32, 33, 34, 35, 36, 37, 38, 39, 40, 41, 42, 43, 44, 45, 46, 47, 48, 49, 50, 51, 52, 53, 54, 55, 56, 57, 58, 59, 60, 61, 62, 63, 64, 65, 66, 67, 68, 69, 70, 71, 72, 73, 74, 75, 76, 77, 78, 79, 80, 81, 82, 83, 84, 85, 86, 87, 88, 89, 90, 91, 92, 93, 94, 95, 96, 97, 98, 99, 100, 101, 102, 103, 104, 105, 106, 107, 108, 109, 110, 111, 112, 113, 114, 115, 116, 117, 118, 119, 120, 121, 122, 123, 124, 125, 126, 127, 128, 129, 130, 131, 132, 133, 134, 3, 135, 136, 137, 138, 139, 140, 141, 142, 143, 144, 145, 146, 147, 148, 149, 150, 151, 152, 153, 154, 155, 156, 157, 158, 159, 160, 161, 162, 163, 164, 165, 166, 167, 168, 169, 170, 171, 172, 173, 174, 175, 176, 177, 178, 179, 180, 181, 182, 183, 184, 185, 186, 187, 188, 189, 190, 191, 192, 193, 194, 195, 196, 197, 198, 199, 200, 201, 202, 203, 204, 205, 206, 207, 208, 209, 210, 211, 212, 213, 214, 215, 216, 217, 218, 219, 220, 221, 222, 223, 224, 225, 226, 227, 228, 229, 230, 231, 232, 233, 234, 235, 236, 237, 238, 239, 240, 241, 242, 243, 244, 245, 246, 247, 248, 249, 250, 251, 252, 253, 254, 255, 256, 257, 258, 259, 260, 261, 262, 263, 264, 265, 266, 267, 268, 269, 270, 271, 272, 273, 274, 275, 276, 277, 278, 279, 280, 281, 282, 283, 284, 285, 286, 287, 288, 289, 290, 291, 292, 293, 294, 295, 296, 297, 298, 299, 300, 301, 302, 303, 304, 305, 306, 307, 308, 309, 310, 311, 312, 313, 314, 315, 316, 317, 318, 319, 320, 321, 322, 323, 324, 325, 326] (by decide +kernel) (by decide +kernel)
set_option maxRecDepth 20000 in
theorem gX9_fits_X9_notesHoldWithGap : GoodIn wsX9_fits (wsV RX9 352 RX9 yX9_notesHoldWithGap wsX9_notesHoldWithGap) := goodIn_app (goodIn_of _ (by decide +kernel)) ggX9_fits_X9_notesHoldWithGap
theorem dX9_fits_0 : decode cX9_fits 0 = .ok (.iload_n 1, 1) := by decide +kernel
theorem dX9_fits_1 : decode cX9_fits 1 = .ok (.iconst 0, 1) := by decide +kernel
theorem dX9_fits_2 : decode cX9_fits 2 = .ok (.iconst 1, 1) := by decide +kernel
theorem dX9_fits_3 : decode cX9_fits 3 = .ok (.invokestatic 66, 3) := by decide +kernel
theorem dX9_fits_6 : decode cX9_fits 6 = .ok (.ifCond .ne 5, 3) := by decide +kernel
theorem dX9_fits_9 : decode cX9_fits 9 = .ok (.iconst (-1), 1) := by decide +kernel
theorem dX9_fits_10 : decode cX9_fits 10 = .ok (.ireturn, 1) := by decide +kernel
theorem dX9_fits_11 : decode cX9_fits 11 = .ok (.aload_n 0, 1) := by decide +kernel
theorem dX9_fits_12 : decode cX9_fits 12 = .ok (.bipush 60, 2) := by decide +kernel
theorem dX9_fits_14 : decode cX9_fits 14 = .ok (.bipush 60, 2) := by decide +kernel
theorem dX9_fits_16 : decode cX9_fits 16 = .ok (.bipush 9, 2) := by decide +kernel
theorem dX9_fits_18 : decode cX9_fits 18 = .ok (.invokevirtual 188, 3) := by decide +kernel
theorem dX9_fits_21 : decode cX9_fits 21 = .ok (.istore_n 2, 1) := by decide +kernel
theorem dX9_fits_22 : decode cX9_fits 22 = .ok (.iload_n 2, 1) := by decide +kernel
theorem dX9_fits_23 : decode cX9_fits 23 = .ok (.ifCond .eq 5, 3) := by decide +kernel
theorem dX9_fits_26 : decode cX9_fits 26 = .ok (.iload_n 2, 1) := by decide +kernel
theorem dX9_fits_27 : decode cX9_fits 27 = .ok (.ireturn, 1) := by decide +kernel
theorem dX9_fits_28 : decode cX9_fits 28 = .ok (.iconst 0, 1) := by decide +kernel
theorem dX9_fits_29 : decode cX9_fits 29 = .ok (.istore_n 3, 1) := by decide +kernel
theorem dX9_fits_30 : decode cX9_fits 30 = .ok (.bipush (-5), 2) := by decide +kernel
theorem dX9_fits_32 : decode cX9_fits 32 = .ok (.istore 4, 2) := by decide +kernel
theorem dX9_fits_34 : decode cX9_fits 34 = .ok (.bipush 9, 2) := by decide +kernel
theorem dX9_fits_36 : decode cX9_fits 36 = .ok (.istore 5, 2) := by decide +kernel
theorem dX9_fits_38 : decode cX9_fits 38 = .ok (.iload 5, 2) := by decide +kernel
theorem dX9_fits_40 : decode cX9_fits 40 = .ok (.iconst 1, 1) := by decide +kernel
theorem dX9_fits_41 : decode cX9_fits 41 = .ok (.if_icmp .lt 25, 3) := by decide +kernel
theorem dX9_fits_44 : decode cX9_fits 44 = .ok (.aload_n 0, 1) := by decide +kernel
theorem dX9_fits_45 : decode cX9_fits 45 = .ok (.iload 5, 2) := by decide +kernel
theorem dX9_fits_47 : decode cX9_fits 47 = .ok (.invokevirtual 352, 3) := by decide +kernel
theorem dX9_fits_50 : decode cX9_fits 50 = .ok (.ifCond .eq 10, 3) := by decide +kernel
theorem dX9_fits_53 : decode cX9_fits 53 = .ok (.iinc 3 1, 3) := by decide +kernel
theorem dX9_fits_56 : decode cX9_fits 56 = .ok (.iload 5, 2) := by decide +kernel
theorem dX9_fits_58 : decode cX9_fits 58 = .ok (.istore 4, 2) := by decide +kernel
theorem dX9_fits_60 : decode cX9_fits 60 = .ok (.iinc 5 (-1), 3) := by decide +kernel
theorem dX9_fits_63 : decode cX9_fits 63 = .ok (.goto (-25), 3) := by decide +kernel
theorem dX9_fits_66 : decode cX9_fits 66 = .ok (.iload_n 1, 1) := by decide +kernel
theorem dX9_fits_67 : decode cX9_fits 67 = .ok (.ifCond .ne 7, 3) := by decide +kernel
theorem dX9_fits_70 : decode cX9_fits 70 = .ok (.iload_n 3, 1) := by decide +kernel
theorem dX9_fits_71 : decode cX9_fits 71 = .ok (.goto 5, 3) := by decide +kernel
theorem dX9_fits_74 : decode cX9_fits 74 = .ok (.iload 4, 2) := by decide +kernel
theorem dX9_fits_76 : decode cX9_fits 76 = .ok (.ireturn, 1) := by decide +kernel
set_option maxRecDepth 20000 in
theorem ggX9_notesHoldWithGap_X0_copyFrom : GoodIn wsX9_notesHoldWithGap wsX0_copyFrom := goodIn_r _ [13, 14, 15, 16, 17, 18, 19, 20, 21, 22, 23, 24, 25, 26, 27, 28, 29, 30, 31, 32, 33, 34, 35, 36, 37, 38, 39, 40, 41, 42, 43, 44, 45, 46, 47, 48, 49, 50, 51, 52, 53, 54, 55, 56, 57, 58, 59, 60, 61, 62, 63, 64, 65, 66, 67, 68, 69, 70, 71, 72, 73, 74, 75, 76, 77, 78, 79, 80, 81, 267, 268, 269, 270, 271, 272, 273, 274, 275, 276, 277, 278, 279, 280, 281, 282, 299, 300, 301, 302, 303, 304, 305, 283, 284, 285, 286, 287, 288, 289, 290, 306, 307, 308, 309, 296, 297, 298] (by decide +kernel) (by decide +kernel)
set_option maxRecDepth 20000 in
theorem gX9_notesHoldWithGap_X0_copyFrom : GoodIn wsX9_notesHoldWithGap (wsV RX9 329 RX0 yX0_copyFrom wsX0_copyFrom) := goodIn_app (goodIn_of _ (by decide +kernel)) ggX9_notesHoldWithGap_X0_copyFrom
set_option maxRecDepth 20000 in
theorem ggX9_notesHoldWithGap_X5_setGaps : GoodIn wsX9_notesHoldWithGap wsX5_setGaps := goodIn_r _ [85, 52, 283, 284, 285, 286, 287, 288, 289, 290] (by decide +kernel) (by decide +kernel)
set_option maxRecDepth 20000 in
theorem gX9_notesHoldWithGap_X5_setGaps : GoodIn wsX9_notesHoldWithGap (wsV RX9 342 RX5 yX5_setGaps wsX5_setGaps) := goodIn_app (goodIn_of _ (by decide +kernel)) ggX9_notesHoldWithGap_X5_setGaps
set_option maxRecDepth 20000 in
theorem ggX9_notesHoldWithGap_X0_passSeconds : GoodIn wsX9_notesHoldWithGap wsX0_passSeconds := goodIn_r _ [89, 18, 22, 23, 15, 19, 90, 91, 92, 12, 93, 14, 94, 25, 95, 96, 97, 98, 99, 49, 100, 52, 101, 102, 103, 104, 26, 105, 106, 107, 108, 109, 54, 110, 78, 79, 80, 111, 112, 113, 114, 16, 115, 20, 21, 116, 117, 118, 119, 120, 121, 122, 123, 124, 125, 126, 127, 51, 128, 129, 130, 63, 131, 65, 66, 132, 133, 134, 135, 17, 136, 137, 138, 139, 58, 140, 141, 142, 73, 143, 75, 144, 76, 81, 39, 40, 41, 145, 146, 147, 148, 149, 150, 151, 152, 153, 154, 155, 156, 157, 158, 159, 160, 161, 27, 29, 162, 163, 164, 165, 28, 166, 167, 168, 169, 170, 171, 172, 173, 174, 175, 176, 177, 178, 179, 180, 181, 182, 183, 184, 185, 186, 187, 188, 189, 190, 191, 192, 193, 194, 195, 196, 197, 198, 199, 200, 201, 202, 203, 204, 205, 206, 207, 208, 209, 210, 211, 212, 213, 214, 215, 216, 217, 218, 219, 220, 33, 221, 45, 222, 223, 224, 225, 44, 36, 226, 227, 228, 229, 57, 59, 230, 231, 232, 233, 234, 24, 235, 236, 237, 238, 239, 240, 241, 242, 243, 267, 268, 269, 270, 271, 272, 273, 274, 275, 276, 277, 278, 279, 280, 281, 282, 299, 300, 301, 302, 303, 304, 305, 283, 284, 285, 286, 287, 288, 289, 290, 306, 307, 308, 309, 296, 297, 298] (by decide +kernel) (by decide +kernel)
set_option maxRecDepth 20000 in
theorem gX9_notesHoldWithGap_X0_passSeconds : GoodIn wsX9_notesHoldWithGap (wsV RX9 195 RX0 yX0_passSeconds wsX0_passSeconds) := goodIn_app (goodIn_of _ (by decide +kernel)) ggX9_notesHoldWithGap_X0_passSeconds
set_option maxRecDepth 20000 in
theorem ggX9_notesHoldWithGap_X8_notesThatHold : GoodIn wsX9_notesHoldWithGap wsX8_notesThatHold := goodIn_r _ [248, 249, 250, 251, 252, 253, 73, 254, 76, 291, 292, 293, 294, 295, 296, 297, 298] (by decide +kernel) (by decide +kernel)
set_option maxRecDepth 20000 in
theorem gX9_notesHoldWithGap_X8_notesThatHold : GoodIn wsX9_notesHoldWithGap (wsV RX9 358 RX8 yX8_notesThatHold wsX8_notesThatHold) := goodIn_app (goodIn_of _ (by decide +kernel)) ggX9_notesHoldWithGap_X8_notesThatHold
theorem dX9_notesHoldWithGap_0 : decode cX9_notesHoldWithGap 0 = .ok (.aload_n 0, 1) := by decide +kernel
theorem dX9_notesHoldWithGap_1 : decode cX9_notesHoldWithGap 1 = .ok (.getfield 24, 3) := by decide +kernel
theorem dX9_notesHoldWithGap_4 : decode cX9_notesHoldWithGap 4 = .ok (.aload_n 0, 1) := by decide +kernel
theorem dX9_notesHoldWithGap_5 : decode cX9_notesHoldWithGap 5 = .ok (.getfield 31, 3) := by decide +kernel
theorem dX9_notesHoldWithGap_8 : decode cX9_notesHoldWithGap 8 = .ok (.invokevirtual 329, 3) := by decide +kernel
theorem dX9_notesHoldWithGap_11 : decode cX9_notesHoldWithGap 11 = .ok (.aload_n 0, 1) := by decide +kernel
theorem dX9_notesHoldWithGap_12 : decode cX9_notesHoldWithGap 12 = .ok (.getfield 24, 3) := by decide +kernel
theorem dX9_notesHoldWithGap_15 : decode cX9_notesHoldWithGap 15 = .ok (.getfield 37, 3) := by decide +kernel
theorem dX9_notesHoldWithGap_18 : decode cX9_notesHoldWithGap 18 = .ok (.iload_n 1, 1) := by decide +kernel
theorem dX9_notesHoldWithGap_19 : decode cX9_notesHoldWithGap 19 = .ok (.invokevirtual 342, 3) := by decide +kernel
theorem dX9_notesHoldWithGap_22 : decode cX9_notesHoldWithGap 22 = .ok (.iconst 0, 1) := by decide +kernel
theorem dX9_notesHoldWithGap_23 : decode cX9_notesHoldWithGap 23 = .ok (.istore_n 2, 1) := by decide +kernel
theorem dX9_notesHoldWithGap_24 : decode cX9_notesHoldWithGap 24 = .ok (.iconst 0, 1) := by decide +kernel
theorem dX9_notesHoldWithGap_25 : decode cX9_notesHoldWithGap 25 = .ok (.istore_n 3, 1) := by decide +kernel
theorem dX9_notesHoldWithGap_26 : decode cX9_notesHoldWithGap 26 = .ok (.iload_n 3, 1) := by decide +kernel
theorem dX9_notesHoldWithGap_27 : decode cX9_notesHoldWithGap 27 = .ok (.bipush 60, 2) := by decide +kernel
theorem dX9_notesHoldWithGap_29 : decode cX9_notesHoldWithGap 29 = .ok (.if_icmp .ge 48, 3) := by decide +kernel
theorem dX9_notesHoldWithGap_32 : decode cX9_notesHoldWithGap 32 = .ok (.aload_n 0, 1) := by decide +kernel
theorem dX9_notesHoldWithGap_33 : decode cX9_notesHoldWithGap 33 = .ok (.getfield 24, 3) := by decide +kernel
theorem dX9_notesHoldWithGap_36 : decode cX9_notesHoldWithGap 36 = .ok (.getfield 336, 3) := by decide +kernel
theorem dX9_notesHoldWithGap_39 : decode cX9_notesHoldWithGap 39 = .ok (.istore 4, 2) := by decide +kernel
theorem dX9_notesHoldWithGap_41 : decode cX9_notesHoldWithGap 41 = .ok (.aload_n 0, 1) := by decide +kernel
theorem dX9_notesHoldWithGap_42 : decode cX9_notesHoldWithGap 42 = .ok (.getfield 24, 3) := by decide +kernel
theorem dX9_notesHoldWithGap_45 : decode cX9_notesHoldWithGap 45 = .ok (.iconst 1, 1) := by decide +kernel
theorem dX9_notesHoldWithGap_46 : decode cX9_notesHoldWithGap 46 = .ok (.invokevirtual 195, 3) := by decide +kernel
theorem dX9_notesHoldWithGap_49 : decode cX9_notesHoldWithGap 49 = .ok (.iload_n 2, 1) := by decide +kernel
theorem dX9_notesHoldWithGap_50 : decode cX9_notesHoldWithGap 50 = .ok (.aload_n 0, 1) := by decide +kernel
theorem dX9_notesHoldWithGap_51 : decode cX9_notesHoldWithGap 51 = .ok (.getfield 12, 3) := by decide +kernel
theorem dX9_notesHoldWithGap_54 : decode cX9_notesHoldWithGap 54 = .ok (.iload 4, 2) := by decide +kernel
theorem dX9_notesHoldWithGap_56 : decode cX9_notesHoldWithGap 56 = .ok (.aload_n 0, 1) := by decide +kernel
theorem dX9_notesHoldWithGap_57 : decode cX9_notesHoldWithGap 57 = .ok (.getfield 24, 3) := by decide +kernel
theorem dX9_notesHoldWithGap_60 : decode cX9_notesHoldWithGap 60 = .ok (.getfield 37, 3) := by decide +kernel
theorem dX9_notesHoldWithGap_63 : decode cX9_notesHoldWithGap 63 = .ok (.getfield 355, 3) := by decide +kernel
theorem dX9_notesHoldWithGap_66 : decode cX9_notesHoldWithGap 66 = .ok (.invokevirtual 358, 3) := by decide +kernel
theorem dX9_notesHoldWithGap_69 : decode cX9_notesHoldWithGap 69 = .ok (.iadd, 1) := by decide +kernel
theorem dX9_notesHoldWithGap_70 : decode cX9_notesHoldWithGap 70 = .ok (.istore_n 2, 1) := by decide +kernel
theorem dX9_notesHoldWithGap_71 : decode cX9_notesHoldWithGap 71 = .ok (.iinc 3 1, 3) := by decide +kernel
theorem dX9_notesHoldWithGap_74 : decode cX9_notesHoldWithGap 74 = .ok (.goto (-48), 3) := by decide +kernel
theorem dX9_notesHoldWithGap_77 : decode cX9_notesHoldWithGap 77 = .ok (.iload_n 2, 1) := by decide +kernel
theorem dX9_notesHoldWithGap_78 : decode cX9_notesHoldWithGap 78 = .ok (.aload_n 0, 1) := by decide +kernel
theorem dX9_notesHoldWithGap_79 : decode cX9_notesHoldWithGap 79 = .ok (.getfield 12, 3) := by decide +kernel
theorem dX9_notesHoldWithGap_82 : decode cX9_notesHoldWithGap 82 = .ok (.getfield 348, 3) := by decide +kernel
theorem dX9_notesHoldWithGap_85 : decode cX9_notesHoldWithGap 85 = .ok (.getfield 258, 3) := by decide +kernel
theorem dX9_notesHoldWithGap_88 : decode cX9_notesHoldWithGap 88 = .ok (.if_icmp .ne 7, 3) := by decide +kernel
theorem dX9_notesHoldWithGap_91 : decode cX9_notesHoldWithGap 91 = .ok (.iconst 1, 1) := by decide +kernel
theorem dX9_notesHoldWithGap_92 : decode cX9_notesHoldWithGap 92 = .ok (.goto 4, 3) := by decide +kernel
theorem dX9_notesHoldWithGap_95 : decode cX9_notesHoldWithGap 95 = .ok (.iconst 0, 1) := by decide +kernel
theorem dX9_notesHoldWithGap_96 : decode cX9_notesHoldWithGap 96 = .ok (.ireturn, 1) := by decide +kernel
set_option maxRecDepth 20000 in
theorem ggX9_day_X9_refusalOf : GoodIn wsX9_day wsX9_refusalOf := goodIn_r _ [5, 6, 7, 8, 9, 4, 10, 11, 12, 13, 14, 15, 253, 254, 255, 256, 257, 258, 259, 260, 261, 262, 263, 264, 265, 266, 267, 268, 269, 270, 271, 272, 273, 274, 275, 276, 277, 278, 279, 280] (by decide +kernel) (by decide +kernel)
set_option maxRecDepth 20000 in
theorem gX9_day_X9_refusalOf : GoodIn wsX9_day (wsV RX9 188 RX9 yX9_refusalOf wsX9_refusalOf) := goodIn_app (goodIn_of _ (by decide +kernel)) ggX9_day_X9_refusalOf
set_option maxRecDepth 20000 in
theorem ggX9_day_X9_waitedOnDay : GoodIn wsX9_day wsX9_waitedOnDay := goodIn_r _ [19, 20, 6, 21, 22, 23, 24, 25, 26, 27, 28, 29, 30, 31, 32, 33, 34, 35, 36, 37, 38, 39, 40, 41, 42, 43, 44, 45, 46, 47, 48, 49, 50, 51, 52, 53, 54, 55, 56, 57, 58, 59, 60, 61, 62, 63, 64, 65, 66, 67, 68, 69, 70, 71, 72, 73, 74, 75, 76, 77, 78, 79, 80, 81, 82, 83, 84, 85, 86, 87, 88, 89, 90, 91, 92, 93, 94, 95, 96, 97, 98, 99, 100, 101, 102, 103, 104, 105, 106, 107, 108, 109, 110, 111, 112, 113, 114, 115, 116, 117, 118, 119, 120, 121, 122, 123, 124, 125, 126, 4, 127, 128, 129, 130, 131, 132, 133, 134, 135, 136, 137, 138, 139, 140, 141, 142, 143, 144, 145, 146, 147, 148, 149, 150, 151, 152, 153, 154, 155, 156, 157, 158, 159, 160, 161, 162, 163, 164, 165, 166, 167, 168, 169, 170, 171, 172, 173, 174, 175, 176, 177, 178, 179, 180, 181, 182, 183, 184, 185, 186, 187, 188, 189, 190, 191, 192, 193, 194, 195, 196, 197, 198, 199, 200, 201, 202, 203, 204, 205, 206, 207, 208, 209, 210, 211, 212, 213, 214, 215, 216, 217, 218, 219, 220, 221, 222, 223, 224, 225, 226, 227, 228, 229, 230, 231, 232, 233, 234, 235, 236, 237, 238, 239, 240, 241, 242, 243, 244, 245, 246, 247, 248, 249, 250, 251, 252, 253, 254, 255, 256, 257, 258, 259, 260, 261, 262, 263, 264, 265, 266, 267, 268, 269, 270, 271, 272, 273, 274, 275, 276, 277, 278, 279, 280, 281, 282, 283, 284, 285, 286, 287, 288, 289, 290, 291, 292, 293, 294, 295, 296, 297, 298, 299, 300, 301, 302] (by decide +kernel) (by decide +kernel)
set_option maxRecDepth 20000 in
theorem gX9_day_X9_waitedOnDay : GoodIn wsX9_day (wsV RX9 361 RX9 yX9_waitedOnDay wsX9_waitedOnDay) := goodIn_app (goodIn_of _ (by decide +kernel)) ggX9_day_X9_waitedOnDay
theorem dX9_day_0 : decode cX9_day 0 = .ok (.aload_n 0, 1) := by decide +kernel
theorem dX9_day_1 : decode cX9_day 1 = .ok (.iload_n 2, 1) := by decide +kernel
theorem dX9_day_2 : decode cX9_day 2 = .ok (.bipush 99, 2) := by decide +kernel
theorem dX9_day_4 : decode cX9_day 4 = .ok (.iconst 1, 1) := by decide +kernel
theorem dX9_day_5 : decode cX9_day 5 = .ok (.invokevirtual 188, 3) := by decide +kernel
theorem dX9_day_8 : decode cX9_day 8 = .ok (.istore_n 3, 1) := by decide +kernel
theorem dX9_day_9 : decode cX9_day 9 = .ok (.iload_n 3, 1) := by decide +kernel
theorem dX9_day_10 : decode cX9_day 10 = .ok (.ifCond .eq 7, 3) := by decide +kernel
theorem dX9_day_13 : decode cX9_day 13 = .ok (.iload_n 3, 1) := by decide +kernel
theorem dX9_day_14 : decode cX9_day 14 = .ok (.goto 9, 3) := by decide +kernel
theorem dX9_day_17 : decode cX9_day 17 = .ok (.aload_n 0, 1) := by decide +kernel
theorem dX9_day_18 : decode cX9_day 18 = .ok (.iload_n 1, 1) := by decide +kernel
theorem dX9_day_19 : decode cX9_day 19 = .ok (.iload_n 2, 1) := by decide +kernel
theorem dX9_day_20 : decode cX9_day 20 = .ok (.invokevirtual 361, 3) := by decide +kernel
theorem dX9_day_23 : decode cX9_day 23 = .ok (.ireturn, 1) := by decide +kernel
set_option maxRecDepth 20000 in
theorem ggX9_waitedOnDay_X0_copyFrom : GoodIn wsX9_waitedOnDay wsX0_copyFrom := goodIn_r _ [9, 10, 11, 12, 13, 14, 15, 16, 17, 18, 19, 20, 21, 22, 23, 24, 25, 26, 27, 28, 29, 30, 31, 32, 33, 34, 35, 36, 37, 38, 39, 40, 41, 42, 43, 44, 45, 46, 47, 48, 49, 50, 51, 52, 53, 54, 55, 56, 57, 58, 59, 60, 61, 62, 63, 64, 65, 66, 67, 68, 69, 70, 71, 72, 73, 74, 75, 76, 77, 248, 249, 250, 251, 252, 253, 254, 255, 256, 257, 258, 259, 260, 261, 262, 263, 264, 265, 266, 267, 268, 269, 270, 271, 272, 273, 274, 275, 276, 277, 278, 279, 280, 281, 282, 283, 284, 285] (by decide +kernel) (by decide +kernel)
set_option maxRecDepth 20000 in
theorem gX9_waitedOnDay_X0_copyFrom : GoodIn wsX9_waitedOnDay (wsV RX9 329 RX0 yX0_copyFrom wsX0_copyFrom) := goodIn_app (goodIn_of _ (by decide +kernel)) ggX9_waitedOnDay_X0_copyFrom
set_option maxRecDepth 20000 in
theorem ggX9_waitedOnDay_X0_passSeconds : GoodIn wsX9_waitedOnDay wsX0_passSeconds := goodIn_r _ [81, 14, 18, 19, 11, 15, 82, 83, 84, 8, 85, 10, 86, 21, 87, 88, 89, 90, 91, 45, 92, 48, 93, 94, 95, 96, 22, 97, 98, 99, 100, 101, 50, 102, 74, 75, 76, 103, 104, 105, 106, 12, 107, 16, 17, 108, 109, 110, 111, 112, 113, 114, 115, 116, 117, 118, 119, 47, 120, 121, 122, 59, 123, 61, 62, 124, 125, 126, 127, 13, 128, 129, 130, 131, 54, 132, 133, 134, 69, 135, 71, 136, 72, 77, 35, 36, 37, 137, 138, 139, 140, 141, 142, 143, 144, 145, 146, 147, 148, 149, 150, 151, 152, 153, 23, 25, 154, 155, 156, 157, 24, 158, 159, 160, 161, 162, 163, 164, 165, 166, 167, 168, 169, 170, 171, 172, 173, 174, 175, 176, 177, 178, 179, 180, 181, 182, 183, 184, 185, 186, 187, 188, 189, 190, 191, 192, 193, 194, 195, 196, 197, 198, 199, 200, 201, 202, 203, 204, 205, 206, 207, 208, 209, 210, 211, 212, 29, 213, 41, 214, 215, 216, 217, 40, 32, 218, 219, 220, 221, 53, 55, 222, 223, 224, 225, 226, 20, 227, 228, 229, 230, 231, 232, 233, 234, 235, 248, 249, 250, 251, 252, 253, 254, 255, 256, 257, 258, 259, 260, 261, 262, 263, 264, 265, 266, 267, 268, 269, 270, 271, 272, 273, 274, 275, 276, 277, 278, 279, 280, 281, 282, 283, 284, 285] (by decide +kernel) (by decide +kernel)
set_option maxRecDepth 20000 in
theorem gX9_waitedOnDay_X0_passSeconds : GoodIn wsX9_waitedOnDay (wsV RX9 195 RX0 yX0_passSeconds wsX0_passSeconds) := goodIn_app (goodIn_of _ (by decide +kernel)) ggX9_waitedOnDay_X0_passSeconds
theorem dX9_waitedOnDay_0 : decode cX9_waitedOnDay 0 = .ok (.aload_n 0, 1) := by decide +kernel
theorem dX9_waitedOnDay_1 : decode cX9_waitedOnDay 1 = .ok (.getfield 24, 3) := by decide +kernel
theorem dX9_waitedOnDay_4 : decode cX9_waitedOnDay 4 = .ok (.aload_n 0, 1) := by decide +kernel
theorem dX9_waitedOnDay_5 : decode cX9_waitedOnDay 5 = .ok (.getfield 31, 3) := by decide +kernel
theorem dX9_waitedOnDay_8 : decode cX9_waitedOnDay 8 = .ok (.invokevirtual 329, 3) := by decide +kernel
theorem dX9_waitedOnDay_11 : decode cX9_waitedOnDay 11 = .ok (.aload_n 0, 1) := by decide +kernel
theorem dX9_waitedOnDay_12 : decode cX9_waitedOnDay 12 = .ok (.getfield 24, 3) := by decide +kernel
theorem dX9_waitedOnDay_15 : decode cX9_waitedOnDay 15 = .ok (.iload_n 1, 1) := by decide +kernel
theorem dX9_waitedOnDay_16 : decode cX9_waitedOnDay 16 = .ok (.putfield 176, 3) := by decide +kernel
theorem dX9_waitedOnDay_19 : decode cX9_waitedOnDay 19 = .ok (.aload_n 0, 1) := by decide +kernel
theorem dX9_waitedOnDay_20 : decode cX9_waitedOnDay 20 = .ok (.getfield 24, 3) := by decide +kernel
theorem dX9_waitedOnDay_23 : decode cX9_waitedOnDay 23 = .ok (.iload_n 2, 1) := by decide +kernel
theorem dX9_waitedOnDay_24 : decode cX9_waitedOnDay 24 = .ok (.invokevirtual 195, 3) := by decide +kernel
theorem dX9_waitedOnDay_27 : decode cX9_waitedOnDay 27 = .ok (.aload_n 0, 1) := by decide +kernel
theorem dX9_waitedOnDay_28 : decode cX9_waitedOnDay 28 = .ok (.getfield 24, 3) := by decide +kernel
theorem dX9_waitedOnDay_31 : decode cX9_waitedOnDay 31 = .ok (.getfield 345, 3) := by decide +kernel
theorem dX9_waitedOnDay_34 : decode cX9_waitedOnDay 34 = .ok (.aload_n 0, 1) := by decide +kernel
theorem dX9_waitedOnDay_35 : decode cX9_waitedOnDay 35 = .ok (.getfield 31, 3) := by decide +kernel
theorem dX9_waitedOnDay_38 : decode cX9_waitedOnDay 38 = .ok (.getfield 345, 3) := by decide +kernel
theorem dX9_waitedOnDay_41 : decode cX9_waitedOnDay 41 = .ok (.isub, 1) := by decide +kernel
theorem dX9_waitedOnDay_42 : decode cX9_waitedOnDay 42 = .ok (.ireturn, 1) := by decide +kernel
set_option maxRecDepth 20000 in
theorem ggX9_chance_X9_within : GoodIn wsX9_chance wsX9_within := goodIn_r _ [6] (by decide +kernel) (by decide +kernel)
set_option maxRecDepth 20000 in
theorem gX9_chance_X9_within : GoodIn wsX9_chance (va_wsS RX9 66 yX9_within wsX9_within) := goodIn_app (goodIn_of _ (by decide +kernel)) ggX9_chance_X9_within
set_option maxRecDepth 20000 in
theorem ggX9_chance_X9_refusalOf : GoodIn wsX9_chance wsX9_refusalOf := goodIn_r _ [10, 11, 12, 3, 4, 5, 6, 13, 14, 15, 16, 17, 261, 262, 263, 264, 265, 266, 267, 268, 269, 270, 271, 272, 273, 274, 275, 276, 277, 278, 279, 280, 281, 282, 283, 284, 285, 286, 287, 288] (by decide +kernel) (by decide +kernel)
set_option maxRecDepth 20000 in
theorem gX9_chance_X9_refusalOf : GoodIn wsX9_chance (wsV RX9 188 RX9 yX9_refusalOf wsX9_refusalOf) := goodIn_app (goodIn_of _ (by decide +kernel)) ggX9_chance_X9_refusalOf
set_option maxRecDepth 20000 in
theorem ggX9_chance_X9_waitedOnDay : GoodIn wsX9_chance wsX9_waitedOnDay := goodIn_r _ [21, 22, 11, 23, 24, 25, 26, 27, 28, 29, 30, 31, 32, 33, 34, 35, 36, 37, 38, 39, 40, 41, 42, 43, 44, 45, 46, 47, 48, 49, 50, 51, 52, 53, 54, 55, 56, 57, 58, 59, 60, 61, 62, 63, 64, 65, 66, 67, 68, 69, 70, 71, 72, 73, 74, 75, 76, 77, 78, 79, 80, 81, 82, 83, 84, 85, 86, 87, 88, 89, 90, 91, 92, 93, 94, 95, 96, 97, 98, 99, 100, 101, 102, 103, 104, 105, 106, 107, 108, 109, 110, 111, 112, 113, 114, 115, 116, 117, 118, 119, 120, 121, 122, 123, 124, 125, 126, 127, 128, 5, 129, 130, 131, 132, 133, 134, 135, 136, 137, 138, 139, 140, 141, 142, 143, 144, 145, 146, 147, 148, 149, 150, 151, 152, 153, 154, 155, 156, 157, 158, 159, 160, 161, 162, 163, 164, 165, 166, 167, 168, 169, 170, 171, 172, 173, 174, 175, 176, 177, 178, 179, 180, 181, 182, 183, 184, 185, 186, 187, 188, 189, 190, 191, 192, 193, 194, 195, 196, 197, 198, 199, 200, 201, 202, 203, 204, 205, 206, 207, 208, 209, 210, 211, 212, 213, 214, 215, 216, 217, 218, 219, 220, 221, 222, 223, 224, 225, 226, 227, 228, 229, 230, 231, 232, 233, 234, 235, 236, 237, 238, 239, 240, 241, 242, 243, 244, 245, 246, 247, 248, 249, 250, 251, 252, 253, 254, 261, 262, 263, 264, 265, 266, 267, 268, 269, 270, 271, 272, 273, 274, 275, 276, 277, 278, 279, 280, 281, 282, 283, 284, 285, 286, 287, 288, 289, 290, 291, 292, 293, 294, 295, 296, 297, 298, 299, 300, 301, 302, 303, 304, 305, 306, 307, 308, 309, 310] (by decide +kernel) (by decide +kernel)
set_option maxRecDepth 20000 in
theorem gX9_chance_X9_waitedOnDay : GoodIn wsX9_chance (wsV RX9 361 RX9 yX9_waitedOnDay wsX9_waitedOnDay) := goodIn_app (goodIn_of _ (by decide +kernel)) ggX9_chance_X9_waitedOnDay
set_option maxRecDepth 20000 in
theorem ggX9_chance_X9_partOfFraction : GoodIn wsX9_chance wsX9_partOfFraction := goodIn_r _ [257, 2, 258, 259, 5, 260] (by decide +kernel) (by decide +kernel)
set_option maxRecDepth 20000 in
theorem gX9_chance_X9_partOfFraction : GoodIn wsX9_chance (va_wsS RX9 366 yX9_partOfFraction wsX9_partOfFraction) := goodIn_app (goodIn_of _ (by decide +kernel)) ggX9_chance_X9_partOfFraction
theorem dX9_chance_0 : decode cX9_chance 0 = .ok (.iload_n 3, 1) := by decide +kernel
theorem dX9_chance_1 : decode cX9_chance 1 = .ok (.iconst 1, 1) := by decide +kernel
theorem dX9_chance_2 : decode cX9_chance 2 = .ok (.iconst 4, 1) := by decide +kernel
theorem dX9_chance_3 : decode cX9_chance 3 = .ok (.invokestatic 66, 3) := by decide +kernel
theorem dX9_chance_6 : decode cX9_chance 6 = .ok (.ifCond .eq 25, 3) := by decide +kernel
theorem dX9_chance_9 : decode cX9_chance 9 = .ok (.iload 4, 2) := by decide +kernel
theorem dX9_chance_11 : decode cX9_chance 11 = .ok (.iconst 0, 1) := by decide +kernel
theorem dX9_chance_12 : decode cX9_chance 12 = .ok (.ldc_w 351, 3) := by decide +kernel
theorem dX9_chance_15 : decode cX9_chance 15 = .ok (.invokestatic 66, 3) := by decide +kernel
theorem dX9_chance_18 : decode cX9_chance 18 = .ok (.ifCond .eq 13, 3) := by decide +kernel
theorem dX9_chance_21 : decode cX9_chance 21 = .ok (.iload 5, 2) := by decide +kernel
theorem dX9_chance_23 : decode cX9_chance 23 = .ok (.iconst 0, 1) := by decide +kernel
theorem dX9_chance_24 : decode cX9_chance 24 = .ok (.iconst 1, 1) := by decide +kernel
theorem dX9_chance_25 : decode cX9_chance 25 = .ok (.invokestatic 66, 3) := by decide +kernel
theorem dX9_chance_28 : decode cX9_chance 28 = .ok (.ifCond .ne 7, 3) := by decide +kernel
theorem dX9_chance_31 : decode cX9_chance 31 = .ok (.ldc2_w 364, 3) := by decide +kernel
theorem dX9_chance_34 : decode cX9_chance 34 = .ok (.lreturn, 1) := by decide +kernel
theorem dX9_chance_35 : decode cX9_chance 35 = .ok (.aload_n 0, 1) := by decide +kernel
theorem dX9_chance_36 : decode cX9_chance 36 = .ok (.iload_n 2, 1) := by decide +kernel
theorem dX9_chance_37 : decode cX9_chance 37 = .ok (.bipush 99, 2) := by decide +kernel
theorem dX9_chance_39 : decode cX9_chance 39 = .ok (.iload_n 3, 1) := by decide +kernel
theorem dX9_chance_40 : decode cX9_chance 40 = .ok (.invokevirtual 188, 3) := by decide +kernel
theorem dX9_chance_43 : decode cX9_chance 43 = .ok (.ifCond .eq 7, 3) := by decide +kernel
theorem dX9_chance_46 : decode cX9_chance 46 = .ok (.ldc2_w 364, 3) := by decide +kernel
theorem dX9_chance_49 : decode cX9_chance 49 = .ok (.lreturn, 1) := by decide +kernel
theorem dX9_chance_50 : decode cX9_chance 50 = .ok (.iconst 0, 1) := by decide +kernel
theorem dX9_chance_51 : decode cX9_chance 51 = .ok (.istore 6, 2) := by decide +kernel
theorem dX9_chance_53 : decode cX9_chance 53 = .ok (.iconst 0, 1) := by decide +kernel
theorem dX9_chance_54 : decode cX9_chance 54 = .ok (.istore 7, 2) := by decide +kernel
theorem dX9_chance_56 : decode cX9_chance 56 = .ok (.iload 7, 2) := by decide +kernel
theorem dX9_chance_58 : decode cX9_chance 58 = .ok (.iload_n 3, 1) := by decide +kernel
theorem dX9_chance_59 : decode cX9_chance 59 = .ok (.if_icmp .ge 26, 3) := by decide +kernel
theorem dX9_chance_62 : decode cX9_chance 62 = .ok (.aload_n 0, 1) := by decide +kernel
theorem dX9_chance_63 : decode cX9_chance 63 = .ok (.iload_n 1, 1) := by decide +kernel
theorem dX9_chance_64 : decode cX9_chance 64 = .ok (.iload 7, 2) := by decide +kernel
theorem dX9_chance_66 : decode cX9_chance 66 = .ok (.iadd, 1) := by decide +kernel
theorem dX9_chance_67 : decode cX9_chance 67 = .ok (.iload_n 2, 1) := by decide +kernel
theorem dX9_chance_68 : decode cX9_chance 68 = .ok (.invokevirtual 361, 3) := by decide +kernel
theorem dX9_chance_71 : decode cX9_chance 71 = .ok (.iload 4, 2) := by decide +kernel
theorem dX9_chance_73 : decode cX9_chance 73 = .ok (.if_icmp .gt 6, 3) := by decide +kernel
theorem dX9_chance_76 : decode cX9_chance 76 = .ok (.iinc 6 1, 3) := by decide +kernel
theorem dX9_chance_79 : decode cX9_chance 79 = .ok (.iinc 7 1, 3) := by decide +kernel
theorem dX9_chance_82 : decode cX9_chance 82 = .ok (.goto (-26), 3) := by decide +kernel
theorem dX9_chance_85 : decode cX9_chance 85 = .ok (.iload 6, 2) := by decide +kernel
theorem dX9_chance_87 : decode cX9_chance 87 = .ok (.iload_n 3, 1) := by decide +kernel
theorem dX9_chance_88 : decode cX9_chance 88 = .ok (.iload 5, 2) := by decide +kernel
theorem dX9_chance_90 : decode cX9_chance 90 = .ok (.invokestatic 366, 3) := by decide +kernel
theorem dX9_chance_93 : decode cX9_chance 93 = .ok (.lreturn, 1) := by decide +kernel
set_option maxRecDepth 20000 in
theorem ggX9_mean_X9_within : GoodIn wsX9_mean wsX9_within := goodIn_r _ [8] (by decide +kernel) (by decide +kernel)
set_option maxRecDepth 20000 in
theorem gX9_mean_X9_within : GoodIn wsX9_mean (va_wsS RX9 66 yX9_within wsX9_within) := goodIn_app (goodIn_of _ (by decide +kernel)) ggX9_mean_X9_within
set_option maxRecDepth 20000 in
theorem ggX9_mean_X9_partOfFraction : GoodIn wsX9_mean wsX9_partOfFraction := goodIn_r _ [11, 3, 12, 13, 7, 14] (by decide +kernel) (by decide +kernel)
set_option maxRecDepth 20000 in
theorem gX9_mean_X9_partOfFraction : GoodIn wsX9_mean (va_wsS RX9 366 yX9_partOfFraction wsX9_partOfFraction) := goodIn_app (goodIn_of _ (by decide +kernel)) ggX9_mean_X9_partOfFraction
theorem dX9_mean_0 : decode cX9_mean 0 = .ok (.iload_n 1, 1) := by decide +kernel
theorem dX9_mean_1 : decode cX9_mean 1 = .ok (.iconst 0, 1) := by decide +kernel
theorem dX9_mean_2 : decode cX9_mean 2 = .ok (.iconst 1, 1) := by decide +kernel
theorem dX9_mean_3 : decode cX9_mean 3 = .ok (.invokestatic 66, 3) := by decide +kernel
theorem dX9_mean_6 : decode cX9_mean 6 = .ok (.ifCond .eq 13, 3) := by decide +kernel
theorem dX9_mean_9 : decode cX9_mean 9 = .ok (.aload_n 0, 1) := by decide +kernel
theorem dX9_mean_10 : decode cX9_mean 10 = .ok (.getfield 31, 3) := by decide +kernel
theorem dX9_mean_13 : decode cX9_mean 13 = .ok (.getfield 192, 3) := by decide +kernel
theorem dX9_mean_16 : decode cX9_mean 16 = .ok (.ifCond .ne 7, 3) := by decide +kernel
theorem dX9_mean_19 : decode cX9_mean 19 = .ok (.ldc2_w 364, 3) := by decide +kernel
theorem dX9_mean_22 : decode cX9_mean 22 = .ok (.lreturn, 1) := by decide +kernel
theorem dX9_mean_23 : decode cX9_mean 23 = .ok (.aload_n 0, 1) := by decide +kernel
theorem dX9_mean_24 : decode cX9_mean 24 = .ok (.getfield 31, 3) := by decide +kernel
theorem dX9_mean_27 : decode cX9_mean 27 = .ok (.getfield 345, 3) := by decide +kernel
theorem dX9_mean_30 : decode cX9_mean 30 = .ok (.aload_n 0, 1) := by decide +kernel
theorem dX9_mean_31 : decode cX9_mean 31 = .ok (.getfield 31, 3) := by decide +kernel
theorem dX9_mean_34 : decode cX9_mean 34 = .ok (.getfield 192, 3) := by decide +kernel
theorem dX9_mean_37 : decode cX9_mean 37 = .ok (.iload_n 1, 1) := by decide +kernel
theorem dX9_mean_38 : decode cX9_mean 38 = .ok (.invokestatic 366, 3) := by decide +kernel
theorem dX9_mean_41 : decode cX9_mean 41 = .ok (.lreturn, 1) := by decide +kernel
set_option maxRecDepth 20000 in
theorem ggX9_plan_X9_within : GoodIn wsX9_plan wsX9_within := goodIn_r _ [7] (by decide +kernel) (by decide +kernel)
set_option maxRecDepth 20000 in
theorem gX9_plan_X9_within : GoodIn wsX9_plan (va_wsS RX9 66 yX9_within wsX9_within) := goodIn_app (goodIn_of _ (by decide +kernel)) ggX9_plan_X9_within
set_option maxRecDepth 20000 in
theorem ggX9_plan_X4_add : GoodIn wsX9_plan wsX4_add := goodIn_r _ [12, 13, 14, 15, 33, 34, 35] (by decide +kernel) (by decide +kernel)
set_option maxRecDepth 20000 in
theorem gX9_plan_X4_add : GoodIn wsX9_plan (wsV RX9 287 RX4 yX4_add wsX4_add) := goodIn_app (goodIn_of _ (by decide +kernel)) ggX9_plan_X4_add
theorem dX9_plan_0 : decode cX9_plan 0 = .ok (.aload_n 0, 1) := by decide +kernel
theorem dX9_plan_1 : decode cX9_plan 1 = .ok (.getfield 12, 3) := by decide +kernel
theorem dX9_plan_4 : decode cX9_plan 4 = .ok (.getfield 370, 3) := by decide +kernel
theorem dX9_plan_7 : decode cX9_plan 7 = .ok (.astore_n 3, 1) := by decide +kernel
theorem dX9_plan_8 : decode cX9_plan 8 = .ok (.iload_n 1, 1) := by decide +kernel
theorem dX9_plan_9 : decode cX9_plan 9 = .ok (.iconst (-1), 1) := by decide +kernel
theorem dX9_plan_10 : decode cX9_plan 10 = .ok (.if_icmp .ne 10, 3) := by decide +kernel
theorem dX9_plan_13 : decode cX9_plan 13 = .ok (.aload_n 3, 1) := by decide +kernel
theorem dX9_plan_14 : decode cX9_plan 14 = .ok (.iconst 0, 1) := by decide +kernel
theorem dX9_plan_15 : decode cX9_plan 15 = .ok (.putfield 258, 3) := by decide +kernel
theorem dX9_plan_18 : decode cX9_plan 18 = .ok (.iconst 0, 1) := by decide +kernel
theorem dX9_plan_19 : decode cX9_plan 19 = .ok (.ireturn, 1) := by decide +kernel
theorem dX9_plan_20 : decode cX9_plan 20 = .ok (.iload_n 1, 1) := by decide +kernel
theorem dX9_plan_21 : decode cX9_plan 21 = .ok (.iconst 0, 1) := by decide +kernel
theorem dX9_plan_22 : decode cX9_plan 22 = .ok (.iconst 3, 1) := by decide +kernel
theorem dX9_plan_23 : decode cX9_plan 23 = .ok (.invokestatic 66, 3) := by decide +kernel
theorem dX9_plan_26 : decode cX9_plan 26 = .ok (.ifCond .ne 5, 3) := by decide +kernel
theorem dX9_plan_29 : decode cX9_plan 29 = .ok (.iconst (-1), 1) := by decide +kernel
theorem dX9_plan_30 : decode cX9_plan 30 = .ok (.ireturn, 1) := by decide +kernel
theorem dX9_plan_31 : decode cX9_plan 31 = .ok (.iload_n 1, 1) := by decide +kernel
theorem dX9_plan_32 : decode cX9_plan 32 = .ok (.ifCond .ne 8, 3) := by decide +kernel
theorem dX9_plan_35 : decode cX9_plan 35 = .ok (.bipush 99, 2) := by decide +kernel
theorem dX9_plan_37 : decode cX9_plan 37 = .ok (.goto 5, 3) := by decide +kernel
theorem dX9_plan_40 : decode cX9_plan 40 = .ok (.bipush 7, 2) := by decide +kernel
theorem dX9_plan_42 : decode cX9_plan 42 = .ok (.istore 4, 2) := by decide +kernel
theorem dX9_plan_44 : decode cX9_plan 44 = .ok (.iload_n 1, 1) := by decide +kernel
theorem dX9_plan_45 : decode cX9_plan 45 = .ok (.iconst 2, 1) := by decide +kernel
theorem dX9_plan_46 : decode cX9_plan 46 = .ok (.if_icmp .eq 16, 3) := by decide +kernel
theorem dX9_plan_49 : decode cX9_plan 49 = .ok (.iload_n 2, 1) := by decide +kernel
theorem dX9_plan_50 : decode cX9_plan 50 = .ok (.iconst 0, 1) := by decide +kernel
theorem dX9_plan_51 : decode cX9_plan 51 = .ok (.iload 4, 2) := by decide +kernel
theorem dX9_plan_53 : decode cX9_plan 53 = .ok (.invokestatic 66, 3) := by decide +kernel
theorem dX9_plan_56 : decode cX9_plan 56 = .ok (.ifCond .ne 6, 3) := by decide +kernel
theorem dX9_plan_59 : decode cX9_plan 59 = .ok (.bipush (-2), 2) := by decide +kernel
theorem dX9_plan_61 : decode cX9_plan 61 = .ok (.ireturn, 1) := by decide +kernel
theorem dX9_plan_62 : decode cX9_plan 62 = .ok (.aload_n 3, 1) := by decide +kernel
theorem dX9_plan_63 : decode cX9_plan 63 = .ok (.iload_n 1, 1) := by decide +kernel
theorem dX9_plan_64 : decode cX9_plan 64 = .ok (.iload_n 2, 1) := by decide +kernel
theorem dX9_plan_65 : decode cX9_plan 65 = .ok (.iconst 0, 1) := by decide +kernel
theorem dX9_plan_66 : decode cX9_plan 66 = .ok (.invokevirtual 287, 3) := by decide +kernel
theorem dX9_plan_69 : decode cX9_plan 69 = .ok (.ifCond .eq 10, 3) := by decide +kernel
theorem dX9_plan_72 : decode cX9_plan 72 = .ok (.aload_n 3, 1) := by decide +kernel
theorem dX9_plan_73 : decode cX9_plan 73 = .ok (.getfield 258, 3) := by decide +kernel
theorem dX9_plan_76 : decode cX9_plan 76 = .ok (.goto 5, 3) := by decide +kernel
theorem dX9_plan_79 : decode cX9_plan 79 = .ok (.bipush (-4), 2) := by decide +kernel
theorem dX9_plan_81 : decode cX9_plan 81 = .ok (.ireturn, 1) := by decide +kernel
set_option maxRecDepth 20000 in
theorem ggX9_ends_X9_within : GoodIn wsX9_ends wsX9_within := goodIn_r _ [11] (by decide +kernel) (by decide +kernel)
set_option maxRecDepth 20000 in
theorem gX9_ends_X9_within : GoodIn wsX9_ends (va_wsS RX9 66 yX9_within wsX9_within) := goodIn_app (goodIn_of _ (by decide +kernel)) ggX9_ends_X9_within
set_option maxRecDepth 20000 in
theorem ggX9_ends_X8_plannedSeconds : GoodIn wsX9_ends wsX8_plannedSeconds := goodIn_r _ [16, 17, 18, 19, 20, 21, 22, 23, 24, 284, 285, 286, 287, 288, 289, 290, 291] (by decide +kernel) (by decide +kernel)
set_option maxRecDepth 20000 in
theorem gX9_ends_X8_plannedSeconds : GoodIn wsX9_ends (wsV RX9 373 RX8 yX8_plannedSeconds wsX8_plannedSeconds) := goodIn_app (goodIn_of _ (by decide +kernel)) ggX9_ends_X8_plannedSeconds
set_option maxRecDepth 20000 in
theorem ggX9_ends_X9_refusalOf : GoodIn wsX9_ends wsX9_refusalOf := goodIn_r _ [28, 3, 29, 8, 9, 10, 11, 30, 31, 32, 33, 34, 272, 273, 274, 275, 276, 277, 278, 279, 280, 281, 282, 283, 292, 293, 294, 295, 296, 297, 298, 299, 300, 301, 302, 303, 304, 305, 306, 307] (by decide +kernel) (by decide +kernel)
set_option maxRecDepth 20000 in
theorem gX9_ends_X9_refusalOf : GoodIn wsX9_ends (wsV RX9 188 RX9 yX9_refusalOf wsX9_refusalOf) := goodIn_app (goodIn_of _ (by decide +kernel)) ggX9_ends_X9_refusalOf
set_option maxRecDepth 20000 in
theorem ggX9_ends_X0_copyFrom : GoodIn wsX9_ends wsX0_copyFrom := goodIn_r _ [39, 40, 41, 42, 43, 44, 45, 46, 47, 48, 49, 50, 51, 52, 53, 54, 55, 56, 57, 58, 59, 60, 61, 62, 63, 64, 65, 66, 67, 68, 69, 70, 71, 72, 73, 74, 75, 76, 77, 78, 79, 80, 81, 82, 83, 84, 85, 86, 87, 88, 89, 90, 91, 92, 93, 94, 95, 96, 97, 98, 22, 99, 100, 24, 101, 102, 103, 104, 105, 292, 293, 294, 295, 296, 297, 298, 299, 300, 301, 302, 303, 304, 305, 306, 307, 308, 309, 310, 311, 312, 313, 314, 315, 316, 317, 318, 319, 320, 321, 322, 323, 324, 325, 326, 289, 290, 291] (by decide +kernel) (by decide +kernel)
set_option maxRecDepth 20000 in
theorem gX9_ends_X0_copyFrom : GoodIn wsX9_ends (wsV RX9 329 RX0 yX0_copyFrom wsX0_copyFrom) := goodIn_app (goodIn_of _ (by decide +kernel)) ggX9_ends_X0_copyFrom
set_option maxRecDepth 20000 in
theorem ggX9_ends_X4_at : GoodIn wsX9_ends wsX4_at := goodIn_r _ [23, 24, 289, 290, 291] (by decide +kernel) (by decide +kernel)
set_option maxRecDepth 20000 in
theorem gX9_ends_X4_at : GoodIn wsX9_ends (wsV RX9 261 RX4 yX4_at wsX4_at) := goodIn_app (goodIn_of _ (by decide +kernel)) ggX9_ends_X4_at
set_option maxRecDepth 20000 in
theorem ggX9_ends_X0_obey : GoodIn wsX9_ends wsX0_obey := goodIn_r _ [110, 48, 41, 111, 112, 113, 114, 38, 115, 44, 49, 45, 116, 117, 118, 119, 40, 120, 51, 121, 122, 123, 124, 75, 125, 78, 126, 127, 128, 129, 52, 130, 131, 132, 133, 134, 80, 135, 102, 103, 104, 136, 137, 138, 139, 42, 140, 46, 47, 141, 10, 142, 143, 144, 145, 146, 147, 148, 149, 150, 151, 77, 152, 153, 154, 89, 155, 91, 92, 156, 157, 158, 159, 43, 160, 161, 162, 163, 84, 164, 165, 166, 22, 167, 100, 168, 24, 105, 65, 66, 67, 169, 170, 171, 172, 173, 174, 175, 176, 177, 178, 179, 180, 181, 182, 183, 184, 185, 53, 55, 186, 187, 188, 189, 54, 190, 191, 192, 193, 194, 195, 196, 197, 198, 199, 200, 201, 202, 203, 204, 205, 206, 207, 208, 209, 210, 211, 212, 213, 214, 215, 216, 217, 218, 219, 220, 221, 222, 223, 224, 225, 226, 227, 228, 229, 230, 231, 232, 233, 234, 235, 236, 237, 238, 239, 240, 241, 242, 243, 244, 59, 245, 71, 246, 247, 248, 249, 70, 62, 250, 251, 252, 253, 83, 85, 254, 255, 256, 257, 258, 50, 259, 260, 261, 262, 263, 264, 265, 266, 267, 268, 269, 270, 271, 292, 293, 294, 295, 296, 297, 298, 299, 300, 301, 302, 303, 304, 305, 306, 307, 315, 316, 317, 318, 319, 320, 321, 322, 308, 309, 310, 311, 312, 313, 314, 323, 324, 325, 326, 289, 290, 291] (by decide +kernel) (by decide +kernel)
set_option maxRecDepth 20000 in
theorem gX9_ends_X0_obey : GoodIn wsX9_ends (wsV RX9 376 RX0 yX0_obey wsX0_obey) := goodIn_app (goodIn_of _ (by decide +kernel)) ggX9_ends_X0_obey
theorem dX9_ends_0 : decode cX9_ends 0 = .ok (.iload_n 1, 1) := by decide +kernel
theorem dX9_ends_1 : decode cX9_ends 1 = .ok (.iconst 0, 1) := by decide +kernel
theorem dX9_ends_2 : decode cX9_ends 2 = .ok (.iconst 1, 1) := by decide +kernel
theorem dX9_ends_3 : decode cX9_ends 3 = .ok (.invokestatic 66, 3) := by decide +kernel
theorem dX9_ends_6 : decode cX9_ends 6 = .ok (.ifCond .ne 5, 3) := by decide +kernel
theorem dX9_ends_9 : decode cX9_ends 9 = .ok (.iconst (-1), 1) := by decide +kernel
theorem dX9_ends_10 : decode cX9_ends 10 = .ok (.ireturn, 1) := by decide +kernel
theorem dX9_ends_11 : decode cX9_ends 11 = .ok (.aload_n 0, 1) := by decide +kernel
theorem dX9_ends_12 : decode cX9_ends 12 = .ok (.aload_n 0, 1) := by decide +kernel
theorem dX9_ends_13 : decode cX9_ends 13 = .ok (.getfield 12, 3) := by decide +kernel
theorem dX9_ends_16 : decode cX9_ends 16 = .ok (.invokevirtual 373, 3) := by decide +kernel
theorem dX9_ends_19 : decode cX9_ends 19 = .ok (.sipush 792, 3) := by decide +kernel
theorem dX9_ends_22 : decode cX9_ends 22 = .ok (.iconst 1, 1) := by decide +kernel
theorem dX9_ends_23 : decode cX9_ends 23 = .ok (.invokevirtual 188, 3) := by decide +kernel
theorem dX9_ends_26 : decode cX9_ends 26 = .ok (.istore_n 2, 1) := by decide +kernel
theorem dX9_ends_27 : decode cX9_ends 27 = .ok (.iload_n 2, 1) := by decide +kernel
theorem dX9_ends_28 : decode cX9_ends 28 = .ok (.ifCond .eq 5, 3) := by decide +kernel
theorem dX9_ends_31 : decode cX9_ends 31 = .ok (.iload_n 2, 1) := by decide +kernel
theorem dX9_ends_32 : decode cX9_ends 32 = .ok (.ireturn, 1) := by decide +kernel
theorem dX9_ends_33 : decode cX9_ends 33 = .ok (.aload_n 0, 1) := by decide +kernel
theorem dX9_ends_34 : decode cX9_ends 34 = .ok (.getfield 24, 3) := by decide +kernel
theorem dX9_ends_37 : decode cX9_ends 37 = .ok (.aload_n 0, 1) := by decide +kernel
theorem dX9_ends_38 : decode cX9_ends 38 = .ok (.getfield 31, 3) := by decide +kernel
theorem dX9_ends_41 : decode cX9_ends 41 = .ok (.invokevirtual 329, 3) := by decide +kernel
theorem dX9_ends_44 : decode cX9_ends 44 = .ok (.iconst 0, 1) := by decide +kernel
theorem dX9_ends_45 : decode cX9_ends 45 = .ok (.istore_n 3, 1) := by decide +kernel
theorem dX9_ends_46 : decode cX9_ends 46 = .ok (.iload_n 3, 1) := by decide +kernel
theorem dX9_ends_47 : decode cX9_ends 47 = .ok (.aload_n 0, 1) := by decide +kernel
theorem dX9_ends_48 : decode cX9_ends 48 = .ok (.getfield 12, 3) := by decide +kernel
theorem dX9_ends_51 : decode cX9_ends 51 = .ok (.getfield 370, 3) := by decide +kernel
theorem dX9_ends_54 : decode cX9_ends 54 = .ok (.getfield 258, 3) := by decide +kernel
theorem dX9_ends_57 : decode cX9_ends 57 = .ok (.if_icmp .ge 40, 3) := by decide +kernel
theorem dX9_ends_60 : decode cX9_ends 60 = .ok (.aload_n 0, 1) := by decide +kernel
theorem dX9_ends_61 : decode cX9_ends 61 = .ok (.getfield 24, 3) := by decide +kernel
theorem dX9_ends_64 : decode cX9_ends 64 = .ok (.aload_n 0, 1) := by decide +kernel
theorem dX9_ends_65 : decode cX9_ends 65 = .ok (.getfield 12, 3) := by decide +kernel
theorem dX9_ends_68 : decode cX9_ends 68 = .ok (.getfield 370, 3) := by decide +kernel
theorem dX9_ends_71 : decode cX9_ends 71 = .ok (.iload_n 3, 1) := by decide +kernel
theorem dX9_ends_72 : decode cX9_ends 72 = .ok (.iconst 0, 1) := by decide +kernel
theorem dX9_ends_73 : decode cX9_ends 73 = .ok (.invokevirtual 261, 3) := by decide +kernel
theorem dX9_ends_76 : decode cX9_ends 76 = .ok (.aload_n 0, 1) := by decide +kernel
theorem dX9_ends_77 : decode cX9_ends 77 = .ok (.getfield 12, 3) := by decide +kernel
theorem dX9_ends_80 : decode cX9_ends 80 = .ok (.getfield 370, 3) := by decide +kernel
theorem dX9_ends_83 : decode cX9_ends 83 = .ok (.iload_n 3, 1) := by decide +kernel
theorem dX9_ends_84 : decode cX9_ends 84 = .ok (.iconst 1, 1) := by decide +kernel
theorem dX9_ends_85 : decode cX9_ends 85 = .ok (.invokevirtual 261, 3) := by decide +kernel
theorem dX9_ends_88 : decode cX9_ends 88 = .ok (.invokevirtual 376, 3) := by decide +kernel
theorem dX9_ends_91 : decode cX9_ends 91 = .ok (.iinc 3 1, 3) := by decide +kernel
theorem dX9_ends_94 : decode cX9_ends 94 = .ok (.goto (-48), 3) := by decide +kernel
theorem dX9_ends_97 : decode cX9_ends 97 = .ok (.iload_n 1, 1) := by decide +kernel
theorem dX9_ends_98 : decode cX9_ends 98 = .ok (.ifCond .ne 13, 3) := by decide +kernel
theorem dX9_ends_101 : decode cX9_ends 101 = .ok (.aload_n 0, 1) := by decide +kernel
theorem dX9_ends_102 : decode cX9_ends 102 = .ok (.getfield 24, 3) := by decide +kernel
theorem dX9_ends_105 : decode cX9_ends 105 = .ok (.getfield 345, 3) := by decide +kernel
theorem dX9_ends_108 : decode cX9_ends 108 = .ok (.goto 10, 3) := by decide +kernel
theorem dX9_ends_111 : decode cX9_ends 111 = .ok (.aload_n 0, 1) := by decide +kernel
theorem dX9_ends_112 : decode cX9_ends 112 = .ok (.getfield 24, 3) := by decide +kernel
theorem dX9_ends_115 : decode cX9_ends 115 = .ok (.getfield 192, 3) := by decide +kernel
theorem dX9_ends_118 : decode cX9_ends 118 = .ok (.ireturn, 1) := by decide +kernel
set_option maxRecDepth 20000 in
theorem ggX9_judge_X9_within : GoodIn wsX9_judge wsX9_within := goodIn_r _ [10] (by decide +kernel) (by decide +kernel)
set_option maxRecDepth 20000 in
theorem gX9_judge_X9_within : GoodIn wsX9_judge (va_wsS RX9 66 yX9_within wsX9_within) := goodIn_app (goodIn_of _ (by decide +kernel)) ggX9_judge_X9_within
set_option maxRecDepth 20000 in
theorem ggX9_judge_X6_hasPlace : GoodIn wsX9_judge wsX6_hasPlace := goodIn_r _ [15, 16, 8, 9, 10, 50, 51, 52] (by decide +kernel) (by decide +kernel)
set_option maxRecDepth 20000 in
theorem gX9_judge_X6_hasPlace : GoodIn wsX9_judge (wsV RX9 383 RX6 yX6_hasPlace wsX6_hasPlace) := goodIn_app (goodIn_of _ (by decide +kernel)) ggX9_judge_X6_hasPlace
set_option maxRecDepth 20000 in
theorem ggX9_judge_X0_lightOf : GoodIn wsX9_judge wsX0_lightOf := goodIn_r _ [21, 22, 23, 24, 25, 26, 27, 28, 29, 30, 31, 32, 33, 34, 35, 36, 37, 60, 61, 62, 63, 64, 65, 66, 67, 68, 69, 70, 71, 72, 73, 74, 75, 76, 77, 78, 79, 80, 81, 82, 83, 53, 54, 55, 56, 57, 58, 59] (by decide +kernel) (by decide +kernel)
set_option maxRecDepth 20000 in
theorem gX9_judge_X0_lightOf : GoodIn wsX9_judge (wsV RX9 390 RX0 yX0_lightOf wsX0_lightOf) := goodIn_app (goodIn_of _ (by decide +kernel)) ggX9_judge_X0_lightOf
theorem dX9_judge_0 : decode cX9_judge 0 = .ok (.iload_n 1, 1) := by decide +kernel
theorem dX9_judge_1 : decode cX9_judge 1 = .ok (.iconst 0, 1) := by decide +kernel
theorem dX9_judge_2 : decode cX9_judge 2 = .ok (.iconst 5, 1) := by decide +kernel
theorem dX9_judge_3 : decode cX9_judge 3 = .ok (.invokestatic 66, 3) := by decide +kernel
theorem dX9_judge_6 : decode cX9_judge 6 = .ok (.ifCond .ne 5, 3) := by decide +kernel
theorem dX9_judge_9 : decode cX9_judge 9 = .ok (.iconst (-1), 1) := by decide +kernel
theorem dX9_judge_10 : decode cX9_judge 10 = .ok (.ireturn, 1) := by decide +kernel
theorem dX9_judge_11 : decode cX9_judge 11 = .ok (.aload_n 0, 1) := by decide +kernel
theorem dX9_judge_12 : decode cX9_judge 12 = .ok (.getfield 61, 3) := by decide +kernel
theorem dX9_judge_15 : decode cX9_judge 15 = .ok (.iload_n 1, 1) := by decide +kernel
theorem dX9_judge_16 : decode cX9_judge 16 = .ok (.aaload, 1) := by decide +kernel
theorem dX9_judge_17 : decode cX9_judge 17 = .ok (.astore_n 3, 1) := by decide +kernel
theorem dX9_judge_18 : decode cX9_judge 18 = .ok (.aload_n 3, 1) := by decide +kernel
theorem dX9_judge_19 : decode cX9_judge 19 = .ok (.getfield 380, 3) := by decide +kernel
theorem dX9_judge_22 : decode cX9_judge 22 = .ok (.bipush (-5), 2) := by decide +kernel
theorem dX9_judge_24 : decode cX9_judge 24 = .ok (.if_icmp .eq 13, 3) := by decide +kernel
theorem dX9_judge_27 : decode cX9_judge 27 = .ok (.aload_n 3, 1) := by decide +kernel
theorem dX9_judge_28 : decode cX9_judge 28 = .ok (.getfield 380, 3) := by decide +kernel
theorem dX9_judge_31 : decode cX9_judge 31 = .ok (.ifCond .eq 6, 3) := by decide +kernel
theorem dX9_judge_34 : decode cX9_judge 34 = .ok (.bipush (-12), 2) := by decide +kernel
theorem dX9_judge_36 : decode cX9_judge 36 = .ok (.ireturn, 1) := by decide +kernel
theorem dX9_judge_37 : decode cX9_judge 37 = .ok (.iconst 0, 1) := by decide +kernel
theorem dX9_judge_38 : decode cX9_judge 38 = .ok (.istore 4, 2) := by decide +kernel
theorem dX9_judge_40 : decode cX9_judge 40 = .ok (.iload 4, 2) := by decide +kernel
theorem dX9_judge_42 : decode cX9_judge 42 = .ok (.aload_n 0, 1) := by decide +kernel
theorem dX9_judge_43 : decode cX9_judge 43 = .ok (.getfield 36, 3) := by decide +kernel
theorem dX9_judge_46 : decode cX9_judge 46 = .ok (.getfield 74, 3) := by decide +kernel
theorem dX9_judge_49 : decode cX9_judge 49 = .ok (.if_icmp .ge 52, 3) := by decide +kernel
theorem dX9_judge_52 : decode cX9_judge 52 = .ok (.aload_n 3, 1) := by decide +kernel
theorem dX9_judge_53 : decode cX9_judge 53 = .ok (.iload_n 2, 1) := by decide +kernel
theorem dX9_judge_54 : decode cX9_judge 54 = .ok (.iload 4, 2) := by decide +kernel
theorem dX9_judge_56 : decode cX9_judge 56 = .ok (.iadd, 1) := by decide +kernel
theorem dX9_judge_57 : decode cX9_judge 57 = .ok (.invokevirtual 383, 3) := by decide +kernel
theorem dX9_judge_60 : decode cX9_judge 60 = .ok (.ifCond .ne 9, 3) := by decide +kernel
theorem dX9_judge_63 : decode cX9_judge 63 = .ok (.bipush 100, 2) := by decide +kernel
theorem dX9_judge_65 : decode cX9_judge 65 = .ok (.iload 4, 2) := by decide +kernel
theorem dX9_judge_67 : decode cX9_judge 67 = .ok (.iadd, 1) := by decide +kernel
theorem dX9_judge_68 : decode cX9_judge 68 = .ok (.ireturn, 1) := by decide +kernel
theorem dX9_judge_69 : decode cX9_judge 69 = .ok (.aload_n 3, 1) := by decide +kernel
theorem dX9_judge_70 : decode cX9_judge 70 = .ok (.getfield 386, 3) := by decide +kernel
theorem dX9_judge_73 : decode cX9_judge 73 = .ok (.iload_n 2, 1) := by decide +kernel
theorem dX9_judge_74 : decode cX9_judge 74 = .ok (.iload 4, 2) := by decide +kernel
theorem dX9_judge_76 : decode cX9_judge 76 = .ok (.iadd, 1) := by decide +kernel
theorem dX9_judge_77 : decode cX9_judge 77 = .ok (.laload, 1) := by decide +kernel
theorem dX9_judge_78 : decode cX9_judge 78 = .ok (.aload_n 0, 1) := by decide +kernel
theorem dX9_judge_79 : decode cX9_judge 79 = .ok (.getfield 31, 3) := by decide +kernel
theorem dX9_judge_82 : decode cX9_judge 82 = .ok (.iload 4, 2) := by decide +kernel
theorem dX9_judge_84 : decode cX9_judge 84 = .ok (.invokevirtual 390, 3) := by decide +kernel
theorem dX9_judge_87 : decode cX9_judge 87 = .ok (.i2l, 1) := by decide +kernel
theorem dX9_judge_88 : decode cX9_judge 88 = .ok (.lcmp, 1) := by decide +kernel
theorem dX9_judge_89 : decode cX9_judge 89 = .ok (.ifCond .eq 6, 3) := by decide +kernel
theorem dX9_judge_92 : decode cX9_judge 92 = .ok (.iload 4, 2) := by decide +kernel
theorem dX9_judge_94 : decode cX9_judge 94 = .ok (.ireturn, 1) := by decide +kernel
theorem dX9_judge_95 : decode cX9_judge 95 = .ok (.iinc 4 1, 3) := by decide +kernel
theorem dX9_judge_98 : decode cX9_judge 98 = .ok (.goto (-58), 3) := by decide +kernel
theorem dX9_judge_101 : decode cX9_judge 101 = .ok (.bipush (-5), 2) := by decide +kernel
theorem dX9_judge_103 : decode cX9_judge 103 = .ok (.ireturn, 1) := by decide +kernel
set_option maxRecDepth 20000 in
theorem ggX9_image_X8_copyFrom : GoodIn wsX9_image wsX8_copyFrom := goodIn_r _ [10, 11, 12, 13, 14, 15, 16, 17, 18, 19, 20, 21, 22, 23, 24, 25, 26, 27, 28, 29, 30, 31, 32, 33, 34, 35, 36, 37, 38, 39, 40, 41, 42, 43, 44, 45, 46, 47, 48, 49, 50, 51, 52, 53, 54, 55, 56, 57, 58, 59, 60, 61, 62, 63, 64, 65, 66, 67, 68, 69, 70, 71, 72, 73, 74, 75, 76, 77, 78, 79, 80, 81, 82, 83, 84, 85, 86, 87, 88, 89, 90, 91, 92, 93, 94, 95, 96, 97, 98, 127, 128, 129, 130, 131, 111, 112, 113, 114, 115, 116, 117, 118, 119, 120, 121, 122, 123, 124, 125, 126, 132, 133, 134, 135, 136, 137, 138, 139, 140, 141, 142, 143, 144, 145, 146, 147, 148, 149, 150, 151, 152, 153, 154, 155, 156] (by decide +kernel) (by decide +kernel)
set_option maxRecDepth 20000 in
theorem gX9_image_X8_copyFrom : GoodIn wsX9_image (wsV RX9 393 RX8 yX8_copyFrom wsX8_copyFrom) := goodIn_app (goodIn_of _ (by decide +kernel)) ggX9_image_X8_copyFrom
theorem dX9_image_0 : decode cX9_image 0 = .ok (.aload_n 0, 1) := by decide +kernel
theorem dX9_image_1 : decode cX9_image 1 = .ok (.getfield 18, 3) := by decide +kernel
theorem dX9_image_4 : decode cX9_image 4 = .ok (.aload_n 0, 1) := by decide +kernel
theorem dX9_image_5 : decode cX9_image 5 = .ok (.getfield 12, 3) := by decide +kernel
theorem dX9_image_8 : decode cX9_image 8 = .ok (.invokevirtual 393, 3) := by decide +kernel
theorem dX9_image_11 : decode cX9_image 11 = .ok (.aload_n 0, 1) := by decide +kernel
theorem dX9_image_12 : decode cX9_image 12 = .ok (.iconst 1, 1) := by decide +kernel
theorem dX9_image_13 : decode cX9_image 13 = .ok (.putfield 396, 3) := by decide +kernel
theorem dX9_image_16 : decode cX9_image 16 = .ok (.aload_n 0, 1) := by decide +kernel
theorem dX9_image_17 : decode cX9_image 17 = .ok (.getfield 31, 3) := by decide +kernel
theorem dX9_image_20 : decode cX9_image 20 = .ok (.getfield 336, 3) := by decide +kernel
theorem dX9_image_23 : decode cX9_image 23 = .ok (.ireturn, 1) := by decide +kernel
set_option maxRecDepth 20000 in
theorem ggX9_undo_X8_copyFrom : GoodIn wsX9_undo wsX8_copyFrom := goodIn_r _ [10, 11, 12, 13, 14, 15, 16, 17, 18, 19, 20, 21, 22, 23, 24, 25, 26, 27, 28, 29, 30, 31, 32, 33, 34, 35, 36, 37, 38, 39, 40, 41, 42, 43, 44, 45, 46, 47, 48, 49, 50, 51, 52, 53, 54, 55, 56, 57, 58, 59, 60, 61, 62, 63, 64, 65, 66, 67, 68, 69, 70, 71, 72, 73, 74, 75, 76, 77, 78, 79, 80, 81, 82, 83, 84, 85, 86, 87, 88, 89, 90, 91, 92, 93, 94, 95, 96, 97, 98, 127, 128, 129, 130, 131, 111, 112, 113, 114, 115, 116, 117, 118, 119, 120, 121, 122, 123, 124, 125, 126, 132, 133, 134, 135, 136, 137, 138, 139, 140, 141, 142, 143, 144, 145, 146, 147, 148, 149, 150, 151, 152, 153, 154, 155, 156] (by decide +kernel) (by decide +kernel)
set_option maxRecDepth 20000 in
theorem gX9_undo_X8_copyFrom : GoodIn wsX9_undo (wsV RX9 393 RX8 yX8_copyFrom wsX8_copyFrom) := goodIn_app (goodIn_of _ (by decide +kernel)) ggX9_undo_X8_copyFrom
theorem dX9_undo_0 : decode cX9_undo 0 = .ok (.aload_n 0, 1) := by decide +kernel
theorem dX9_undo_1 : decode cX9_undo 1 = .ok (.getfield 396, 3) := by decide +kernel
theorem dX9_undo_4 : decode cX9_undo 4 = .ok (.ifCond .ne 6, 3) := by decide +kernel
theorem dX9_undo_7 : decode cX9_undo 7 = .ok (.bipush (-3), 2) := by decide +kernel
theorem dX9_undo_9 : decode cX9_undo 9 = .ok (.ireturn, 1) := by decide +kernel
theorem dX9_undo_10 : decode cX9_undo 10 = .ok (.aload_n 0, 1) := by decide +kernel
theorem dX9_undo_11 : decode cX9_undo 11 = .ok (.getfield 12, 3) := by decide +kernel
theorem dX9_undo_14 : decode cX9_undo 14 = .ok (.aload_n 0, 1) := by decide +kernel
theorem dX9_undo_15 : decode cX9_undo 15 = .ok (.getfield 18, 3) := by decide +kernel
theorem dX9_undo_18 : decode cX9_undo 18 = .ok (.invokevirtual 393, 3) := by decide +kernel
theorem dX9_undo_21 : decode cX9_undo 21 = .ok (.aload_n 0, 1) := by decide +kernel
theorem dX9_undo_22 : decode cX9_undo 22 = .ok (.getfield 31, 3) := by decide +kernel
theorem dX9_undo_25 : decode cX9_undo 25 = .ok (.getfield 336, 3) := by decide +kernel
theorem dX9_undo_28 : decode cX9_undo 28 = .ok (.ireturn, 1) := by decide +kernel
theorem dX9_count_0 : decode cX9_count 0 = .ok (.iload_n 1, 1) := by decide +kernel
theorem dX9_count_1 : decode cX9_count 1 = .ok (.tableswitch 120 0 7 #[47, 55, 66, 77, 88, 96, 101, 112], 47) := by decide +kernel
theorem dX9_count_48 : decode cX9_count 48 = .ok (.aload_n 0, 1) := by decide +kernel
theorem dX9_count_49 : decode cX9_count 49 = .ok (.getfield 55, 3) := by decide +kernel
theorem dX9_count_52 : decode cX9_count 52 = .ok (.getfield 115, 3) := by decide +kernel
theorem dX9_count_55 : decode cX9_count 55 = .ok (.ireturn, 1) := by decide +kernel
theorem dX9_count_56 : decode cX9_count 56 = .ok (.aload_n 0, 1) := by decide +kernel
theorem dX9_count_57 : decode cX9_count 57 = .ok (.getfield 12, 3) := by decide +kernel
theorem dX9_count_60 : decode cX9_count 60 = .ok (.getfield 348, 3) := by decide +kernel
theorem dX9_count_63 : decode cX9_count 63 = .ok (.getfield 258, 3) := by decide +kernel
theorem dX9_count_66 : decode cX9_count 66 = .ok (.ireturn, 1) := by decide +kernel
theorem dX9_count_67 : decode cX9_count 67 = .ok (.aload_n 0, 1) := by decide +kernel
theorem dX9_count_68 : decode cX9_count 68 = .ok (.getfield 12, 3) := by decide +kernel
theorem dX9_count_71 : decode cX9_count 71 = .ok (.getfield 370, 3) := by decide +kernel
theorem dX9_count_74 : decode cX9_count 74 = .ok (.getfield 258, 3) := by decide +kernel
theorem dX9_count_77 : decode cX9_count 77 = .ok (.ireturn, 1) := by decide +kernel
theorem dX9_count_78 : decode cX9_count 78 = .ok (.aload_n 0, 1) := by decide +kernel
theorem dX9_count_79 : decode cX9_count 79 = .ok (.getfield 12, 3) := by decide +kernel
theorem dX9_count_82 : decode cX9_count 82 = .ok (.getfield 284, 3) := by decide +kernel
theorem dX9_count_85 : decode cX9_count 85 = .ok (.getfield 258, 3) := by decide +kernel
theorem dX9_count_88 : decode cX9_count 88 = .ok (.ireturn, 1) := by decide +kernel
theorem dX9_count_89 : decode cX9_count 89 = .ok (.aload_n 0, 1) := by decide +kernel
theorem dX9_count_90 : decode cX9_count 90 = .ok (.getfield 51, 3) := by decide +kernel
theorem dX9_count_93 : decode cX9_count 93 = .ok (.getfield 297, 3) := by decide +kernel
theorem dX9_count_96 : decode cX9_count 96 = .ok (.ireturn, 1) := by decide +kernel
theorem dX9_count_97 : decode cX9_count 97 = .ok (.aload_n 0, 1) := by decide +kernel
theorem dX9_count_98 : decode cX9_count 98 = .ok (.getfield 399, 3) := by decide +kernel
theorem dX9_count_101 : decode cX9_count 101 = .ok (.ireturn, 1) := by decide +kernel
theorem dX9_count_102 : decode cX9_count 102 = .ok (.aload_n 0, 1) := by decide +kernel
theorem dX9_count_103 : decode cX9_count 103 = .ok (.getfield 31, 3) := by decide +kernel
theorem dX9_count_106 : decode cX9_count 106 = .ok (.getfield 254, 3) := by decide +kernel
theorem dX9_count_109 : decode cX9_count 109 = .ok (.getfield 258, 3) := by decide +kernel
theorem dX9_count_112 : decode cX9_count 112 = .ok (.ireturn, 1) := by decide +kernel
theorem dX9_count_113 : decode cX9_count 113 = .ok (.aload_n 0, 1) := by decide +kernel
theorem dX9_count_114 : decode cX9_count 114 = .ok (.getfield 51, 3) := by decide +kernel
theorem dX9_count_117 : decode cX9_count 117 = .ok (.getfield 292, 3) := by decide +kernel
theorem dX9_count_120 : decode cX9_count 120 = .ok (.ireturn, 1) := by decide +kernel
theorem dX9_count_121 : decode cX9_count 121 = .ok (.bipush (-2), 2) := by decide +kernel
theorem dX9_count_123 : decode cX9_count 123 = .ok (.ireturn, 1) := by decide +kernel
set_option maxRecDepth 20000 in
theorem ggX9_tape_X9_within : GoodIn wsX9_tape wsX9_within := goodIn_r _ [5] (by decide +kernel) (by decide +kernel)
set_option maxRecDepth 20000 in
theorem gX9_tape_X9_within : GoodIn wsX9_tape (va_wsS RX9 66 yX9_within wsX9_within) := goodIn_app (goodIn_of _ (by decide +kernel)) ggX9_tape_X9_within
set_option maxRecDepth 20000 in
theorem ggX9_tape_X6_holdNothing : GoodIn wsX9_tape wsX6_holdNothing := goodIn_r _ [10, 11, 12, 34, 35, 36] (by decide +kernel) (by decide +kernel)
set_option maxRecDepth 20000 in
theorem gX9_tape_X6_holdNothing : GoodIn wsX9_tape (wsV RX9 402 RX6 yX6_holdNothing wsX6_holdNothing) := goodIn_app (goodIn_of _ (by decide +kernel)) ggX9_tape_X6_holdNothing
set_option maxRecDepth 20000 in
theorem ggX9_tape_X6_hold : GoodIn wsX9_tape wsX6_hold := goodIn_r _ [16, 11, 12, 17, 18, 19, 20, 21, 34, 35, 36] (by decide +kernel) (by decide +kernel)
set_option maxRecDepth 20000 in
theorem gX9_tape_X6_hold : GoodIn wsX9_tape (wsV RX9 405 RX6 yX6_hold wsX6_hold) := goodIn_app (goodIn_of _ (by decide +kernel)) ggX9_tape_X6_hold
theorem dX9_tape_0 : decode cX9_tape 0 = .ok (.iload_n 1, 1) := by decide +kernel
theorem dX9_tape_1 : decode cX9_tape 1 = .ok (.iconst 0, 1) := by decide +kernel
theorem dX9_tape_2 : decode cX9_tape 2 = .ok (.iconst 5, 1) := by decide +kernel
theorem dX9_tape_3 : decode cX9_tape 3 = .ok (.invokestatic 66, 3) := by decide +kernel
theorem dX9_tape_6 : decode cX9_tape 6 = .ok (.ifCond .ne 5, 3) := by decide +kernel
theorem dX9_tape_9 : decode cX9_tape 9 = .ok (.iconst (-1), 1) := by decide +kernel
theorem dX9_tape_10 : decode cX9_tape 10 = .ok (.ireturn, 1) := by decide +kernel
theorem dX9_tape_11 : decode cX9_tape 11 = .ok (.iload_n 2, 1) := by decide +kernel
theorem dX9_tape_12 : decode cX9_tape 12 = .ok (.iconst (-1), 1) := by decide +kernel
theorem dX9_tape_13 : decode cX9_tape 13 = .ok (.if_icmp .ne 14, 3) := by decide +kernel
theorem dX9_tape_16 : decode cX9_tape 16 = .ok (.aload_n 0, 1) := by decide +kernel
theorem dX9_tape_17 : decode cX9_tape 17 = .ok (.getfield 61, 3) := by decide +kernel
theorem dX9_tape_20 : decode cX9_tape 20 = .ok (.iload_n 1, 1) := by decide +kernel
theorem dX9_tape_21 : decode cX9_tape 21 = .ok (.aaload, 1) := by decide +kernel
theorem dX9_tape_22 : decode cX9_tape 22 = .ok (.invokevirtual 402, 3) := by decide +kernel
theorem dX9_tape_25 : decode cX9_tape 25 = .ok (.iconst 1, 1) := by decide +kernel
theorem dX9_tape_26 : decode cX9_tape 26 = .ok (.ireturn, 1) := by decide +kernel
theorem dX9_tape_27 : decode cX9_tape 27 = .ok (.iload_n 2, 1) := by decide +kernel
theorem dX9_tape_28 : decode cX9_tape 28 = .ok (.iconst 0, 1) := by decide +kernel
theorem dX9_tape_29 : decode cX9_tape 29 = .ok (.iconst 4, 1) := by decide +kernel
theorem dX9_tape_30 : decode cX9_tape 30 = .ok (.invokestatic 66, 3) := by decide +kernel
theorem dX9_tape_33 : decode cX9_tape 33 = .ok (.ifCond .eq 9, 3) := by decide +kernel
theorem dX9_tape_36 : decode cX9_tape 36 = .ok (.iload_n 3, 1) := by decide +kernel
theorem dX9_tape_37 : decode cX9_tape 37 = .ok (.bipush 60, 2) := by decide +kernel
theorem dX9_tape_39 : decode cX9_tape 39 = .ok (.if_icmp .le 6, 3) := by decide +kernel
theorem dX9_tape_42 : decode cX9_tape 42 = .ok (.bipush (-2), 2) := by decide +kernel
theorem dX9_tape_44 : decode cX9_tape 44 = .ok (.ireturn, 1) := by decide +kernel
theorem dX9_tape_45 : decode cX9_tape 45 = .ok (.iload_n 3, 1) := by decide +kernel
theorem dX9_tape_46 : decode cX9_tape 46 = .ok (.ifCond .ge 6, 3) := by decide +kernel
theorem dX9_tape_49 : decode cX9_tape 49 = .ok (.bipush (-14), 2) := by decide +kernel
theorem dX9_tape_51 : decode cX9_tape 51 = .ok (.ireturn, 1) := by decide +kernel
theorem dX9_tape_52 : decode cX9_tape 52 = .ok (.aload_n 0, 1) := by decide +kernel
theorem dX9_tape_53 : decode cX9_tape 53 = .ok (.getfield 61, 3) := by decide +kernel
theorem dX9_tape_56 : decode cX9_tape 56 = .ok (.iload_n 1, 1) := by decide +kernel
theorem dX9_tape_57 : decode cX9_tape 57 = .ok (.aaload, 1) := by decide +kernel
theorem dX9_tape_58 : decode cX9_tape 58 = .ok (.iload_n 2, 1) := by decide +kernel
theorem dX9_tape_59 : decode cX9_tape 59 = .ok (.iload_n 3, 1) := by decide +kernel
theorem dX9_tape_60 : decode cX9_tape 60 = .ok (.invokevirtual 405, 3) := by decide +kernel
theorem dX9_tape_63 : decode cX9_tape 63 = .ok (.iconst 1, 1) := by decide +kernel
theorem dX9_tape_64 : decode cX9_tape 64 = .ok (.ireturn, 1) := by decide +kernel
set_option maxRecDepth 20000 in
theorem ggX9_item_X9_within : GoodIn wsX9_item wsX9_within := goodIn_r _ [7] (by decide +kernel) (by decide +kernel)
set_option maxRecDepth 20000 in
theorem gX9_item_X9_within : GoodIn wsX9_item (va_wsS RX9 66 yX9_within wsX9_within) := goodIn_app (goodIn_of _ (by decide +kernel)) ggX9_item_X9_within
set_option maxRecDepth 20000 in
theorem ggX9_item_X6_hasPlace : GoodIn wsX9_item wsX6_hasPlace := goodIn_r _ [12, 13, 5, 6, 7, 31, 32, 33] (by decide +kernel) (by decide +kernel)
set_option maxRecDepth 20000 in
theorem gX9_item_X6_hasPlace : GoodIn wsX9_item (wsV RX9 383 RX6 yX6_hasPlace wsX6_hasPlace) := goodIn_app (goodIn_of _ (by decide +kernel)) ggX9_item_X6_hasPlace
set_option maxRecDepth 20000 in
theorem ggX9_item_X6_narrowed : GoodIn wsX9_item wsX6_narrowed := goodIn_r _ [17, 18, 31, 32, 33] (by decide +kernel) (by decide +kernel)
set_option maxRecDepth 20000 in
theorem gX9_item_X6_narrowed : GoodIn wsX9_item (wsV RX9 408 RX6 yX6_narrowed wsX6_narrowed) := goodIn_app (goodIn_of _ (by decide +kernel)) ggX9_item_X6_narrowed
theorem dX9_item_0 : decode cX9_item 0 = .ok (.iload_n 1, 1) := by decide +kernel
theorem dX9_item_1 : decode cX9_item 1 = .ok (.iconst 0, 1) := by decide +kernel
theorem dX9_item_2 : decode cX9_item 2 = .ok (.iconst 5, 1) := by decide +kernel
theorem dX9_item_3 : decode cX9_item 3 = .ok (.invokestatic 66, 3) := by decide +kernel
theorem dX9_item_6 : decode cX9_item 6 = .ok (.ifCond .ne 5, 3) := by decide +kernel
theorem dX9_item_9 : decode cX9_item 9 = .ok (.iconst (-1), 1) := by decide +kernel
theorem dX9_item_10 : decode cX9_item 10 = .ok (.ireturn, 1) := by decide +kernel
theorem dX9_item_11 : decode cX9_item 11 = .ok (.aload_n 0, 1) := by decide +kernel
theorem dX9_item_12 : decode cX9_item 12 = .ok (.getfield 61, 3) := by decide +kernel
theorem dX9_item_15 : decode cX9_item 15 = .ok (.iload_n 1, 1) := by decide +kernel
theorem dX9_item_16 : decode cX9_item 16 = .ok (.aaload, 1) := by decide +kernel
theorem dX9_item_17 : decode cX9_item 17 = .ok (.astore 5, 2) := by decide +kernel
theorem dX9_item_19 : decode cX9_item 19 = .ok (.aload 5, 2) := by decide +kernel
theorem dX9_item_21 : decode cX9_item 21 = .ok (.getfield 380, 3) := by decide +kernel
theorem dX9_item_24 : decode cX9_item 24 = .ok (.bipush (-5), 2) := by decide +kernel
theorem dX9_item_26 : decode cX9_item 26 = .ok (.if_icmp .ne 6, 3) := by decide +kernel
theorem dX9_item_29 : decode cX9_item 29 = .ok (.bipush (-11), 2) := by decide +kernel
theorem dX9_item_31 : decode cX9_item 31 = .ok (.ireturn, 1) := by decide +kernel
theorem dX9_item_32 : decode cX9_item 32 = .ok (.aload 5, 2) := by decide +kernel
theorem dX9_item_34 : decode cX9_item 34 = .ok (.iload_n 2, 1) := by decide +kernel
theorem dX9_item_35 : decode cX9_item 35 = .ok (.invokevirtual 383, 3) := by decide +kernel
theorem dX9_item_38 : decode cX9_item 38 = .ok (.ifCond .ne 6, 3) := by decide +kernel
theorem dX9_item_41 : decode cX9_item 41 = .ok (.bipush (-13), 2) := by decide +kernel
theorem dX9_item_43 : decode cX9_item 43 = .ok (.ireturn, 1) := by decide +kernel
theorem dX9_item_44 : decode cX9_item 44 = .ok (.aload 5, 2) := by decide +kernel
theorem dX9_item_46 : decode cX9_item 46 = .ok (.getfield 386, 3) := by decide +kernel
theorem dX9_item_49 : decode cX9_item 49 = .ok (.iload_n 2, 1) := by decide +kernel
theorem dX9_item_50 : decode cX9_item 50 = .ok (.aload 5, 2) := by decide +kernel
theorem dX9_item_52 : decode cX9_item 52 = .ok (.lload_n 3, 1) := by decide +kernel
theorem dX9_item_53 : decode cX9_item 53 = .ok (.invokevirtual 408, 3) := by decide +kernel
theorem dX9_item_56 : decode cX9_item 56 = .ok (.lastore, 1) := by decide +kernel
theorem dX9_item_57 : decode cX9_item 57 = .ok (.iconst 1, 1) := by decide +kernel
theorem dX9_item_58 : decode cX9_item 58 = .ok (.ireturn, 1) := by decide +kernel
set_option maxRecDepth 20000 in
theorem ggX9_peek_X9_within : GoodIn wsX9_peek wsX9_within := goodIn_r _ [7] (by decide +kernel) (by decide +kernel)
set_option maxRecDepth 20000 in
theorem gX9_peek_X9_within : GoodIn wsX9_peek (va_wsS RX9 66 yX9_within wsX9_within) := goodIn_app (goodIn_of _ (by decide +kernel)) ggX9_peek_X9_within
set_option maxRecDepth 20000 in
theorem ggX9_peek_X6_hasPlace : GoodIn wsX9_peek wsX6_hasPlace := goodIn_r _ [12, 13, 5, 6, 7, 26, 27, 28] (by decide +kernel) (by decide +kernel)
set_option maxRecDepth 20000 in
theorem gX9_peek_X6_hasPlace : GoodIn wsX9_peek (wsV RX9 383 RX6 yX6_hasPlace wsX6_hasPlace) := goodIn_app (goodIn_of _ (by decide +kernel)) ggX9_peek_X6_hasPlace
theorem dX9_peek_0 : decode cX9_peek 0 = .ok (.iload_n 1, 1) := by decide +kernel
theorem dX9_peek_1 : decode cX9_peek 1 = .ok (.iconst 0, 1) := by decide +kernel
theorem dX9_peek_2 : decode cX9_peek 2 = .ok (.iconst 5, 1) := by decide +kernel
theorem dX9_peek_3 : decode cX9_peek 3 = .ok (.invokestatic 66, 3) := by decide +kernel
theorem dX9_peek_6 : decode cX9_peek 6 = .ok (.ifCond .eq 16, 3) := by decide +kernel
theorem dX9_peek_9 : decode cX9_peek 9 = .ok (.aload_n 0, 1) := by decide +kernel
theorem dX9_peek_10 : decode cX9_peek 10 = .ok (.getfield 61, 3) := by decide +kernel
theorem dX9_peek_13 : decode cX9_peek 13 = .ok (.iload_n 1, 1) := by decide +kernel
theorem dX9_peek_14 : decode cX9_peek 14 = .ok (.aaload, 1) := by decide +kernel
theorem dX9_peek_15 : decode cX9_peek 15 = .ok (.iload_n 2, 1) := by decide +kernel
theorem dX9_peek_16 : decode cX9_peek 16 = .ok (.invokevirtual 383, 3) := by decide +kernel
theorem dX9_peek_19 : decode cX9_peek 19 = .ok (.ifCond .ne 7, 3) := by decide +kernel
theorem dX9_peek_22 : decode cX9_peek 22 = .ok (.ldc2_w 364, 3) := by decide +kernel
theorem dX9_peek_25 : decode cX9_peek 25 = .ok (.lreturn, 1) := by decide +kernel
theorem dX9_peek_26 : decode cX9_peek 26 = .ok (.aload_n 0, 1) := by decide +kernel
theorem dX9_peek_27 : decode cX9_peek 27 = .ok (.getfield 61, 3) := by decide +kernel
theorem dX9_peek_30 : decode cX9_peek 30 = .ok (.iload_n 1, 1) := by decide +kernel
theorem dX9_peek_31 : decode cX9_peek 31 = .ok (.aaload, 1) := by decide +kernel
theorem dX9_peek_32 : decode cX9_peek 32 = .ok (.getfield 386, 3) := by decide +kernel
theorem dX9_peek_35 : decode cX9_peek 35 = .ok (.iload_n 2, 1) := by decide +kernel
theorem dX9_peek_36 : decode cX9_peek 36 = .ok (.laload, 1) := by decide +kernel
theorem dX9_peek_37 : decode cX9_peek 37 = .ok (.lreturn, 1) := by decide +kernel
set_option maxRecDepth 20000 in
theorem ggX9_shift_X9_within : GoodIn wsX9_shift wsX9_within := goodIn_r _ [11] (by decide +kernel) (by decide +kernel)
set_option maxRecDepth 20000 in
theorem gX9_shift_X9_within : GoodIn wsX9_shift (va_wsS RX9 66 yX9_within wsX9_within) := goodIn_app (goodIn_of _ (by decide +kernel)) ggX9_shift_X9_within
set_option maxRecDepth 20000 in
theorem ggX9_shift_X6_hasPlaces : GoodIn wsX9_shift wsX6_hasPlaces := goodIn_r _ [16, 17, 9, 10, 11, 30, 31, 32] (by decide +kernel) (by decide +kernel)
set_option maxRecDepth 20000 in
theorem gX9_shift_X6_hasPlaces : GoodIn wsX9_shift (wsV RX9 412 RX6 yX6_hasPlaces wsX6_hasPlaces) := goodIn_app (goodIn_of _ (by decide +kernel)) ggX9_shift_X6_hasPlaces
theorem dX9_shift_0 : decode cX9_shift 0 = .ok (.iload_n 1, 1) := by decide +kernel
theorem dX9_shift_1 : decode cX9_shift 1 = .ok (.iconst 0, 1) := by decide +kernel
theorem dX9_shift_2 : decode cX9_shift 2 = .ok (.iconst 5, 1) := by decide +kernel
theorem dX9_shift_3 : decode cX9_shift 3 = .ok (.invokestatic 66, 3) := by decide +kernel
theorem dX9_shift_6 : decode cX9_shift 6 = .ok (.ifCond .eq 12, 3) := by decide +kernel
theorem dX9_shift_9 : decode cX9_shift 9 = .ok (.iload_n 3, 1) := by decide +kernel
theorem dX9_shift_10 : decode cX9_shift 10 = .ok (.iconst 0, 1) := by decide +kernel
theorem dX9_shift_11 : decode cX9_shift 11 = .ok (.iconst 5, 1) := by decide +kernel
theorem dX9_shift_12 : decode cX9_shift 12 = .ok (.invokestatic 66, 3) := by decide +kernel
theorem dX9_shift_15 : decode cX9_shift 15 = .ok (.ifCond .ne 5, 3) := by decide +kernel
theorem dX9_shift_18 : decode cX9_shift 18 = .ok (.iconst (-1), 1) := by decide +kernel
theorem dX9_shift_19 : decode cX9_shift 19 = .ok (.ireturn, 1) := by decide +kernel
theorem dX9_shift_20 : decode cX9_shift 20 = .ok (.aload_n 0, 1) := by decide +kernel
theorem dX9_shift_21 : decode cX9_shift 21 = .ok (.getfield 61, 3) := by decide +kernel
theorem dX9_shift_24 : decode cX9_shift 24 = .ok (.iload_n 1, 1) := by decide +kernel
theorem dX9_shift_25 : decode cX9_shift 25 = .ok (.aaload, 1) := by decide +kernel
theorem dX9_shift_26 : decode cX9_shift 26 = .ok (.astore 6, 2) := by decide +kernel
theorem dX9_shift_28 : decode cX9_shift 28 = .ok (.aload_n 0, 1) := by decide +kernel
theorem dX9_shift_29 : decode cX9_shift 29 = .ok (.getfield 61, 3) := by decide +kernel
theorem dX9_shift_32 : decode cX9_shift 32 = .ok (.iload_n 3, 1) := by decide +kernel
theorem dX9_shift_33 : decode cX9_shift 33 = .ok (.aaload, 1) := by decide +kernel
theorem dX9_shift_34 : decode cX9_shift 34 = .ok (.astore 7, 2) := by decide +kernel
theorem dX9_shift_36 : decode cX9_shift 36 = .ok (.aload 6, 2) := by decide +kernel
theorem dX9_shift_38 : decode cX9_shift 38 = .ok (.getfield 380, 3) := by decide +kernel
theorem dX9_shift_41 : decode cX9_shift 41 = .ok (.bipush (-5), 2) := by decide +kernel
theorem dX9_shift_43 : decode cX9_shift 43 = .ok (.if_icmp .eq 13, 3) := by decide +kernel
theorem dX9_shift_46 : decode cX9_shift 46 = .ok (.aload 7, 2) := by decide +kernel
theorem dX9_shift_48 : decode cX9_shift 48 = .ok (.getfield 380, 3) := by decide +kernel
theorem dX9_shift_51 : decode cX9_shift 51 = .ok (.bipush (-5), 2) := by decide +kernel
theorem dX9_shift_53 : decode cX9_shift 53 = .ok (.if_icmp .ne 6, 3) := by decide +kernel
theorem dX9_shift_56 : decode cX9_shift 56 = .ok (.bipush (-11), 2) := by decide +kernel
theorem dX9_shift_58 : decode cX9_shift 58 = .ok (.ireturn, 1) := by decide +kernel
theorem dX9_shift_59 : decode cX9_shift 59 = .ok (.aload 6, 2) := by decide +kernel
theorem dX9_shift_61 : decode cX9_shift 61 = .ok (.getfield 380, 3) := by decide +kernel
theorem dX9_shift_64 : decode cX9_shift 64 = .ok (.aload 7, 2) := by decide +kernel
theorem dX9_shift_66 : decode cX9_shift 66 = .ok (.getfield 380, 3) := by decide +kernel
theorem dX9_shift_69 : decode cX9_shift 69 = .ok (.if_icmp .eq 6, 3) := by decide +kernel
theorem dX9_shift_72 : decode cX9_shift 72 = .ok (.bipush (-12), 2) := by decide +kernel
theorem dX9_shift_74 : decode cX9_shift 74 = .ok (.ireturn, 1) := by decide +kernel
theorem dX9_shift_75 : decode cX9_shift 75 = .ok (.aload 6, 2) := by decide +kernel
theorem dX9_shift_77 : decode cX9_shift 77 = .ok (.iload_n 2, 1) := by decide +kernel
theorem dX9_shift_78 : decode cX9_shift 78 = .ok (.iload 5, 2) := by decide +kernel
theorem dX9_shift_80 : decode cX9_shift 80 = .ok (.invokevirtual 412, 3) := by decide +kernel
theorem dX9_shift_83 : decode cX9_shift 83 = .ok (.ifCond .eq 15, 3) := by decide +kernel
theorem dX9_shift_86 : decode cX9_shift 86 = .ok (.aload 7, 2) := by decide +kernel
theorem dX9_shift_88 : decode cX9_shift 88 = .ok (.iload 4, 2) := by decide +kernel
theorem dX9_shift_90 : decode cX9_shift 90 = .ok (.iload 5, 2) := by decide +kernel
theorem dX9_shift_92 : decode cX9_shift 92 = .ok (.invokevirtual 412, 3) := by decide +kernel
theorem dX9_shift_95 : decode cX9_shift 95 = .ok (.ifCond .ne 6, 3) := by decide +kernel
theorem dX9_shift_98 : decode cX9_shift 98 = .ok (.bipush (-13), 2) := by decide +kernel
theorem dX9_shift_100 : decode cX9_shift 100 = .ok (.ireturn, 1) := by decide +kernel
theorem dX9_shift_101 : decode cX9_shift 101 = .ok (.aload 6, 2) := by decide +kernel
theorem dX9_shift_103 : decode cX9_shift 103 = .ok (.getfield 386, 3) := by decide +kernel
theorem dX9_shift_106 : decode cX9_shift 106 = .ok (.iload_n 2, 1) := by decide +kernel
theorem dX9_shift_107 : decode cX9_shift 107 = .ok (.aload 7, 2) := by decide +kernel
theorem dX9_shift_109 : decode cX9_shift 109 = .ok (.getfield 386, 3) := by decide +kernel
theorem dX9_shift_112 : decode cX9_shift 112 = .ok (.iload 4, 2) := by decide +kernel
theorem dX9_shift_114 : decode cX9_shift 114 = .ok (.iload 5, 2) := by decide +kernel
theorem dX9_shift_116 : decode cX9_shift 116 = .ok (.invokestatic 415, 3) := by decide +kernel
theorem dX9_shift_119 : decode cX9_shift 119 = .ok (.iload 5, 2) := by decide +kernel
theorem dX9_shift_121 : decode cX9_shift 121 = .ok (.ireturn, 1) := by decide +kernel
theorem dX9_within_0 : decode cX9_within 0 = .ok (.iload_n 1, 1) := by decide +kernel
theorem dX9_within_1 : decode cX9_within 1 = .ok (.iload_n 0, 1) := by decide +kernel
theorem dX9_within_2 : decode cX9_within 2 = .ok (.if_icmp .gt 12, 3) := by decide +kernel
theorem dX9_within_5 : decode cX9_within 5 = .ok (.iload_n 0, 1) := by decide +kernel
theorem dX9_within_6 : decode cX9_within 6 = .ok (.iload_n 2, 1) := by decide +kernel
theorem dX9_within_7 : decode cX9_within 7 = .ok (.if_icmp .gt 7, 3) := by decide +kernel
theorem dX9_within_10 : decode cX9_within 10 = .ok (.iconst 1, 1) := by decide +kernel
theorem dX9_within_11 : decode cX9_within 11 = .ok (.goto 4, 3) := by decide +kernel
theorem dX9_within_14 : decode cX9_within 14 = .ok (.iconst 0, 1) := by decide +kernel
theorem dX9_within_15 : decode cX9_within 15 = .ok (.ireturn, 1) := by decide +kernel
theorem dX9_isIn_0 : decode cX9_isIn 0 = .ok (.iload_n 0, 1) := by decide +kernel
theorem dX9_isIn_1 : decode cX9_isIn 1 = .ok (.iload_n 1, 1) := by decide +kernel
theorem dX9_isIn_2 : decode cX9_isIn 2 = .ok (.ishr, 1) := by decide +kernel
theorem dX9_isIn_3 : decode cX9_isIn 3 = .ok (.iconst 1, 1) := by decide +kernel
theorem dX9_isIn_4 : decode cX9_isIn 4 = .ok (.iand, 1) := by decide +kernel
theorem dX9_isIn_5 : decode cX9_isIn 5 = .ok (.ifCond .eq 7, 3) := by decide +kernel
theorem dX9_isIn_8 : decode cX9_isIn 8 = .ok (.iconst 1, 1) := by decide +kernel
theorem dX9_isIn_9 : decode cX9_isIn 9 = .ok (.goto 4, 3) := by decide +kernel
theorem dX9_isIn_12 : decode cX9_isIn 12 = .ok (.iconst 0, 1) := by decide +kernel
theorem dX9_isIn_13 : decode cX9_isIn 13 = .ok (.ireturn, 1) := by decide +kernel
set_option maxRecDepth 20000 in
theorem ggX9_isSignal_X9_within : GoodIn wsX9_isSignal wsX9_within := goodIn_r _ [6] (by decide +kernel) (by decide +kernel)
set_option maxRecDepth 20000 in
theorem gX9_isSignal_X9_within : GoodIn wsX9_isSignal (va_wsS RX9 66 yX9_within wsX9_within) := goodIn_app (goodIn_of _ (by decide +kernel)) ggX9_isSignal_X9_within
theorem dX9_isSignal_0 : decode cX9_isSignal 0 = .ok (.iload_n 1, 1) := by decide +kernel
theorem dX9_isSignal_1 : decode cX9_isSignal 1 = .ok (.iconst 0, 1) := by decide +kernel
theorem dX9_isSignal_2 : decode cX9_isSignal 2 = .ok (.aload_n 0, 1) := by decide +kernel
theorem dX9_isSignal_3 : decode cX9_isSignal 3 = .ok (.getfield 36, 3) := by decide +kernel
theorem dX9_isSignal_6 : decode cX9_isSignal 6 = .ok (.getfield 74, 3) := by decide +kernel
theorem dX9_isSignal_9 : decode cX9_isSignal 9 = .ok (.iconst 1, 1) := by decide +kernel
theorem dX9_isSignal_10 : decode cX9_isSignal 10 = .ok (.isub, 1) := by decide +kernel
theorem dX9_isSignal_11 : decode cX9_isSignal 11 = .ok (.invokestatic 66, 3) := by decide +kernel
theorem dX9_isSignal_14 : decode cX9_isSignal 14 = .ok (.ireturn, 1) := by decide +kernel
set_option maxRecDepth 20000 in
theorem ggX9_refusalOf_X9_within : GoodIn wsX9_refusalOf wsX9_within := goodIn_r _ [6] (by decide +kernel) (by decide +kernel)
set_option maxRecDepth 20000 in
theorem gX9_refusalOf_X9_within : GoodIn wsX9_refusalOf (va_wsS RX9 66 yX9_within wsX9_within) := goodIn_app (goodIn_of _ (by decide +kernel)) ggX9_refusalOf_X9_within
set_option maxRecDepth 20000 in
theorem ggX9_refusalOf_X9_takeSeconds : GoodIn wsX9_refusalOf wsX9_takeSeconds := goodIn_r _ [10, 11, 12, 13, 14, 15, 16, 17, 18, 19, 20, 21, 22, 23] (by decide +kernel) (by decide +kernel)
set_option maxRecDepth 20000 in
theorem gX9_refusalOf_X9_takeSeconds : GoodIn wsX9_refusalOf (wsV RX9 317 RX9 yX9_takeSeconds wsX9_takeSeconds) := goodIn_app (goodIn_of _ (by decide +kernel)) ggX9_refusalOf_X9_takeSeconds
theorem dX9_refusalOf_0 : decode cX9_refusalOf 0 = .ok (.iload_n 1, 1) := by decide +kernel
theorem dX9_refusalOf_1 : decode cX9_refusalOf 1 = .ok (.iconst 0, 1) := by decide +kernel
theorem dX9_refusalOf_2 : decode cX9_refusalOf 2 = .ok (.iload_n 2, 1) := by decide +kernel
theorem dX9_refusalOf_3 : decode cX9_refusalOf 3 = .ok (.invokestatic 66, 3) := by decide +kernel
theorem dX9_refusalOf_6 : decode cX9_refusalOf 6 = .ok (.ifCond .ne 6, 3) := by decide +kernel
theorem dX9_refusalOf_9 : decode cX9_refusalOf 9 = .ok (.bipush (-2), 2) := by decide +kernel
theorem dX9_refusalOf_11 : decode cX9_refusalOf 11 = .ok (.ireturn, 1) := by decide +kernel
theorem dX9_refusalOf_12 : decode cX9_refusalOf 12 = .ok (.aload_n 0, 1) := by decide +kernel
theorem dX9_refusalOf_13 : decode cX9_refusalOf 13 = .ok (.getfield 31, 3) := by decide +kernel
theorem dX9_refusalOf_16 : decode cX9_refusalOf 16 = .ok (.getfield 70, 3) := by decide +kernel
theorem dX9_refusalOf_19 : decode cX9_refusalOf 19 = .ok (.ifCond .ne 6, 3) := by decide +kernel
theorem dX9_refusalOf_22 : decode cX9_refusalOf 22 = .ok (.bipush (-3), 2) := by decide +kernel
theorem dX9_refusalOf_24 : decode cX9_refusalOf 24 = .ok (.ireturn, 1) := by decide +kernel
theorem dX9_refusalOf_25 : decode cX9_refusalOf 25 = .ok (.aload_n 0, 1) := by decide +kernel
theorem dX9_refusalOf_26 : decode cX9_refusalOf 26 = .ok (.iload_n 1, 1) := by decide +kernel
theorem dX9_refusalOf_27 : decode cX9_refusalOf 27 = .ok (.iload_n 3, 1) := by decide +kernel
theorem dX9_refusalOf_28 : decode cX9_refusalOf 28 = .ok (.imul, 1) := by decide +kernel
theorem dX9_refusalOf_29 : decode cX9_refusalOf 29 = .ok (.invokevirtual 317, 3) := by decide +kernel
theorem dX9_refusalOf_32 : decode cX9_refusalOf 32 = .ok (.ifCond .eq 7, 3) := by decide +kernel
theorem dX9_refusalOf_35 : decode cX9_refusalOf 35 = .ok (.iconst 0, 1) := by decide +kernel
theorem dX9_refusalOf_36 : decode cX9_refusalOf 36 = .ok (.goto 5, 3) := by decide +kernel
theorem dX9_refusalOf_39 : decode cX9_refusalOf 39 = .ok (.bipush (-4), 2) := by decide +kernel
theorem dX9_refusalOf_41 : decode cX9_refusalOf 41 = .ok (.ireturn, 1) := by decide +kernel
theorem dX9_takeSeconds_0 : decode cX9_takeSeconds 0 = .ok (.aload_n 0, 1) := by decide +kernel
theorem dX9_takeSeconds_1 : decode cX9_takeSeconds 1 = .ok (.getfield 399, 3) := by decide +kernel
theorem dX9_takeSeconds_4 : decode cX9_takeSeconds 4 = .ok (.iload_n 1, 1) := by decide +kernel
theorem dX9_takeSeconds_5 : decode cX9_takeSeconds 5 = .ok (.iadd, 1) := by decide +kernel
theorem dX9_takeSeconds_6 : decode cX9_takeSeconds 6 = .ok (.sipush 12000, 3) := by decide +kernel
theorem dX9_takeSeconds_9 : decode cX9_takeSeconds 9 = .ok (.if_icmp .le 5, 3) := by decide +kernel
theorem dX9_takeSeconds_12 : decode cX9_takeSeconds 12 = .ok (.iconst 0, 1) := by decide +kernel
theorem dX9_takeSeconds_13 : decode cX9_takeSeconds 13 = .ok (.ireturn, 1) := by decide +kernel
theorem dX9_takeSeconds_14 : decode cX9_takeSeconds 14 = .ok (.aload_n 0, 1) := by decide +kernel
theorem dX9_takeSeconds_15 : decode cX9_takeSeconds 15 = .ok (.dup, 1) := by decide +kernel
theorem dX9_takeSeconds_16 : decode cX9_takeSeconds 16 = .ok (.getfield 399, 3) := by decide +kernel
theorem dX9_takeSeconds_19 : decode cX9_takeSeconds 19 = .ok (.iload_n 1, 1) := by decide +kernel
theorem dX9_takeSeconds_20 : decode cX9_takeSeconds 20 = .ok (.iadd, 1) := by decide +kernel
theorem dX9_takeSeconds_21 : decode cX9_takeSeconds 21 = .ok (.putfield 399, 3) := by decide +kernel
theorem dX9_takeSeconds_24 : decode cX9_takeSeconds 24 = .ok (.iconst 1, 1) := by decide +kernel
theorem dX9_takeSeconds_25 : decode cX9_takeSeconds 25 = .ok (.ireturn, 1) := by decide +kernel
set_option maxRecDepth 20000 in
theorem ggX9_partOfFraction_X9_greatestDivisor : GoodIn wsX9_partOfFraction wsX9_greatestDivisor := goodIn_r _ [5] (by decide +kernel) (by decide +kernel)
set_option maxRecDepth 20000 in
theorem gX9_partOfFraction_X9_greatestDivisor : GoodIn wsX9_partOfFraction (va_wsS RX9 421 yX9_greatestDivisor wsX9_greatestDivisor) := goodIn_app (goodIn_of _ (by decide +kernel)) ggX9_partOfFraction_X9_greatestDivisor
theorem dX9_partOfFraction_0 : decode cX9_partOfFraction 0 = .ok (.iload_n 0, 1) := by decide +kernel
theorem dX9_partOfFraction_1 : decode cX9_partOfFraction 1 = .ok (.iload_n 1, 1) := by decide +kernel
theorem dX9_partOfFraction_2 : decode cX9_partOfFraction 2 = .ok (.invokestatic 421, 3) := by decide +kernel
theorem dX9_partOfFraction_5 : decode cX9_partOfFraction 5 = .ok (.istore_n 3, 1) := by decide +kernel
theorem dX9_partOfFraction_6 : decode cX9_partOfFraction 6 = .ok (.iload_n 3, 1) := by decide +kernel
theorem dX9_partOfFraction_7 : decode cX9_partOfFraction 7 = .ok (.ifCond .ne 7, 3) := by decide +kernel
theorem dX9_partOfFraction_10 : decode cX9_partOfFraction 10 = .ok (.ldc2_w 364, 3) := by decide +kernel
theorem dX9_partOfFraction_13 : decode cX9_partOfFraction 13 = .ok (.lreturn, 1) := by decide +kernel
theorem dX9_partOfFraction_14 : decode cX9_partOfFraction 14 = .ok (.iload_n 2, 1) := by decide +kernel
theorem dX9_partOfFraction_15 : decode cX9_partOfFraction 15 = .ok (.ifCond .ne 7, 3) := by decide +kernel
theorem dX9_partOfFraction_18 : decode cX9_partOfFraction 18 = .ok (.iload_n 0, 1) := by decide +kernel
theorem dX9_partOfFraction_19 : decode cX9_partOfFraction 19 = .ok (.goto 4, 3) := by decide +kernel
theorem dX9_partOfFraction_22 : decode cX9_partOfFraction 22 = .ok (.iload_n 1, 1) := by decide +kernel
theorem dX9_partOfFraction_23 : decode cX9_partOfFraction 23 = .ok (.iload_n 3, 1) := by decide +kernel
theorem dX9_partOfFraction_24 : decode cX9_partOfFraction 24 = .ok (.idiv, 1) := by decide +kernel
theorem dX9_partOfFraction_25 : decode cX9_partOfFraction 25 = .ok (.i2l, 1) := by decide +kernel
theorem dX9_partOfFraction_26 : decode cX9_partOfFraction 26 = .ok (.lreturn, 1) := by decide +kernel
theorem dX9_greatestDivisor_0 : decode cX9_greatestDivisor 0 = .ok (.iload_n 0, 1) := by decide +kernel
theorem dX9_greatestDivisor_1 : decode cX9_greatestDivisor 1 = .ok (.istore_n 2, 1) := by decide +kernel
theorem dX9_greatestDivisor_2 : decode cX9_greatestDivisor 2 = .ok (.iload_n 1, 1) := by decide +kernel
theorem dX9_greatestDivisor_3 : decode cX9_greatestDivisor 3 = .ok (.istore_n 3, 1) := by decide +kernel
theorem dX9_greatestDivisor_4 : decode cX9_greatestDivisor 4 = .ok (.iconst 0, 1) := by decide +kernel
theorem dX9_greatestDivisor_5 : decode cX9_greatestDivisor 5 = .ok (.istore 4, 2) := by decide +kernel
theorem dX9_greatestDivisor_7 : decode cX9_greatestDivisor 7 = .ok (.iload 4, 2) := by decide +kernel
theorem dX9_greatestDivisor_9 : decode cX9_greatestDivisor 9 = .ok (.bipush 64, 2) := by decide +kernel
theorem dX9_greatestDivisor_11 : decode cX9_greatestDivisor 11 = .ok (.if_icmp .ge 23, 3) := by decide +kernel
theorem dX9_greatestDivisor_14 : decode cX9_greatestDivisor 14 = .ok (.iload_n 3, 1) := by decide +kernel
theorem dX9_greatestDivisor_15 : decode cX9_greatestDivisor 15 = .ok (.ifCond .eq 19, 3) := by decide +kernel
theorem dX9_greatestDivisor_18 : decode cX9_greatestDivisor 18 = .ok (.iload_n 2, 1) := by decide +kernel
theorem dX9_greatestDivisor_19 : decode cX9_greatestDivisor 19 = .ok (.iload_n 3, 1) := by decide +kernel
theorem dX9_greatestDivisor_20 : decode cX9_greatestDivisor 20 = .ok (.irem, 1) := by decide +kernel
theorem dX9_greatestDivisor_21 : decode cX9_greatestDivisor 21 = .ok (.istore 5, 2) := by decide +kernel
theorem dX9_greatestDivisor_23 : decode cX9_greatestDivisor 23 = .ok (.iload_n 3, 1) := by decide +kernel
theorem dX9_greatestDivisor_24 : decode cX9_greatestDivisor 24 = .ok (.istore_n 2, 1) := by decide +kernel
theorem dX9_greatestDivisor_25 : decode cX9_greatestDivisor 25 = .ok (.iload 5, 2) := by decide +kernel
theorem dX9_greatestDivisor_27 : decode cX9_greatestDivisor 27 = .ok (.istore_n 3, 1) := by decide +kernel
theorem dX9_greatestDivisor_28 : decode cX9_greatestDivisor 28 = .ok (.iinc 4 1, 3) := by decide +kernel
theorem dX9_greatestDivisor_31 : decode cX9_greatestDivisor 31 = .ok (.goto (-24), 3) := by decide +kernel
theorem dX9_greatestDivisor_34 : decode cX9_greatestDivisor 34 = .ok (.iload_n 2, 1) := by decide +kernel
theorem dX9_greatestDivisor_35 : decode cX9_greatestDivisor 35 = .ok (.ireturn, 1) := by decide +kernel
set_option maxRecDepth 20000 in
theorem ggX10_init_X10_clears_ : GoodIn wsX10_init wsX10_clears_ := goodIn_r _ [21, 22, 23, 24, 20, 25, 9, 8, 26, 27, 28, 29, 5, 30, 31, 32, 33, 34, 35, 36, 37, 38, 39, 40, 41, 42, 43, 44, 45, 46, 47, 48, 49, 50, 51, 52, 53, 54, 55, 56, 57, 58, 59, 60, 61, 62, 63, 64] (by decide +kernel) (by decide +kernel)
set_option maxRecDepth 20000 in
theorem gX10_init_X10_clears_ : GoodIn wsX10_init (wsV RX10 46 RX10 yX10_clears_ wsX10_clears_) := goodIn_app (goodIn_of _ (by decide +kernel)) ggX10_init_X10_clears_
theorem dX10_init_0 : decode cX10_init 0 = .ok (.aload_n 0, 1) := by decide +kernel
theorem dX10_init_1 : decode cX10_init 1 = .ok (.invokespecial 3, 3) := by decide +kernel
theorem dX10_init_4 : decode cX10_init 4 = .ok (.aload_n 0, 1) := by decide +kernel
theorem dX10_init_5 : decode cX10_init 5 = .ok (.sipush 372, 3) := by decide +kernel
theorem dX10_init_8 : decode cX10_init 8 = .ok (.newarray .int, 2) := by decide +kernel
theorem dX10_init_10 : decode cX10_init 10 = .ok (.putfield 11, 3) := by decide +kernel
theorem dX10_init_13 : decode cX10_init 13 = .ok (.aload_n 0, 1) := by decide +kernel
theorem dX10_init_14 : decode cX10_init 14 = .ok (.sipush 372, 3) := by decide +kernel
