theorem dX1_whoIsOn_11 : decode cX1_whoIsOn 11 = .ok (.iload_n 1, 1) := by decide +kernel
theorem dX1_whoIsOn_12 : decode cX1_whoIsOn 12 = .ok (.if_icmp .ne 5, 3) := by decide +kernel
theorem dX1_whoIsOn_15 : decode cX1_whoIsOn 15 = .ok (.iload_n 2, 1) := by decide +kernel
theorem dX1_whoIsOn_16 : decode cX1_whoIsOn 16 = .ok (.ireturn, 1) := by decide +kernel
theorem dX1_whoIsOn_17 : decode cX1_whoIsOn 17 = .ok (.iinc 2 1, 3) := by decide +kernel
theorem dX1_whoIsOn_20 : decode cX1_whoIsOn 20 = .ok (.goto (-18), 3) := by decide +kernel
theorem dX1_whoIsOn_23 : decode cX1_whoIsOn 23 = .ok (.ldc 78, 2) := by decide +kernel
theorem dX1_whoIsOn_25 : decode cX1_whoIsOn 25 = .ok (.ireturn, 1) := by decide +kernel
theorem dX1_exchange_0 : decode cX1_exchange 0 = .ok (.aload_n 0, 1) := by decide +kernel
theorem dX1_exchange_1 : decode cX1_exchange 1 = .ok (.iload_n 1, 1) := by decide +kernel
theorem dX1_exchange_2 : decode cX1_exchange 2 = .ok (.iaload, 1) := by decide +kernel
theorem dX1_exchange_3 : decode cX1_exchange 3 = .ok (.istore_n 3, 1) := by decide +kernel
theorem dX1_exchange_4 : decode cX1_exchange 4 = .ok (.aload_n 0, 1) := by decide +kernel
theorem dX1_exchange_5 : decode cX1_exchange 5 = .ok (.iload_n 1, 1) := by decide +kernel
theorem dX1_exchange_6 : decode cX1_exchange 6 = .ok (.aload_n 0, 1) := by decide +kernel
theorem dX1_exchange_7 : decode cX1_exchange 7 = .ok (.iload_n 2, 1) := by decide +kernel
theorem dX1_exchange_8 : decode cX1_exchange 8 = .ok (.iaload, 1) := by decide +kernel
theorem dX1_exchange_9 : decode cX1_exchange 9 = .ok (.iastore, 1) := by decide +kernel
theorem dX1_exchange_10 : decode cX1_exchange 10 = .ok (.aload_n 0, 1) := by decide +kernel
theorem dX1_exchange_11 : decode cX1_exchange 11 = .ok (.iload_n 2, 1) := by decide +kernel
theorem dX1_exchange_12 : decode cX1_exchange 12 = .ok (.iload_n 3, 1) := by decide +kernel
theorem dX1_exchange_13 : decode cX1_exchange 13 = .ok (.iastore, 1) := by decide +kernel
theorem dX1_exchange_14 : decode cX1_exchange 14 = .ok (.return_, 1) := by decide +kernel
set_option maxRecDepth 20000 in
theorem ggX1_exchangePair_X1_isPair : GoodIn wsX1_exchangePair wsX1_isPair := goodIn_r _ [5, 6, 7, 8, 4, 9, 10, 11, 15, 16, 17, 18, 19, 20, 21, 22, 23, 24, 25, 26, 27, 28, 29, 30, 31, 32, 33, 34, 35, 36] (by decide +kernel) (by decide +kernel)
set_option maxRecDepth 20000 in
theorem gX1_exchangePair_X1_isPair : GoodIn wsX1_exchangePair (wsV RX1 98 RX1 yX1_isPair wsX1_isPair) := goodIn_app (goodIn_of _ (by decide +kernel)) ggX1_exchangePair_X1_isPair
set_option maxRecDepth 20000 in
theorem ggX1_exchangePair_X1_exchange : GoodIn wsX1_exchangePair wsX1_exchange := goodIn_r _ [14] (by decide +kernel) (by decide +kernel)
set_option maxRecDepth 20000 in
theorem gX1_exchangePair_X1_exchange : GoodIn wsX1_exchangePair (va_wsS RX1 102 yX1_exchange wsX1_exchange) := goodIn_app (goodIn_of _ (by decide +kernel)) ggX1_exchangePair_X1_exchange
theorem dX1_exchangePair_0 : decode cX1_exchangePair 0 = .ok (.iload_n 2, 1) := by decide +kernel
theorem dX1_exchangePair_1 : decode cX1_exchangePair 1 = .ok (.bipush 10, 2) := by decide +kernel
theorem dX1_exchangePair_3 : decode cX1_exchangePair 3 = .ok (.idiv, 1) := by decide +kernel
theorem dX1_exchangePair_4 : decode cX1_exchangePair 4 = .ok (.istore_n 3, 1) := by decide +kernel
theorem dX1_exchangePair_5 : decode cX1_exchangePair 5 = .ok (.iload_n 2, 1) := by decide +kernel
theorem dX1_exchangePair_6 : decode cX1_exchangePair 6 = .ok (.bipush 10, 2) := by decide +kernel
theorem dX1_exchangePair_8 : decode cX1_exchangePair 8 = .ok (.irem, 1) := by decide +kernel
theorem dX1_exchangePair_9 : decode cX1_exchangePair 9 = .ok (.istore 4, 2) := by decide +kernel
theorem dX1_exchangePair_11 : decode cX1_exchangePair 11 = .ok (.aload_n 0, 1) := by decide +kernel
theorem dX1_exchangePair_12 : decode cX1_exchangePair 12 = .ok (.iload_n 3, 1) := by decide +kernel
theorem dX1_exchangePair_13 : decode cX1_exchangePair 13 = .ok (.iload 4, 2) := by decide +kernel
theorem dX1_exchangePair_15 : decode cX1_exchangePair 15 = .ok (.invokevirtual 98, 3) := by decide +kernel
theorem dX1_exchangePair_18 : decode cX1_exchangePair 18 = .ok (.ifCond .eq 10, 3) := by decide +kernel
theorem dX1_exchangePair_21 : decode cX1_exchangePair 21 = .ok (.aload_n 1, 1) := by decide +kernel
theorem dX1_exchangePair_22 : decode cX1_exchangePair 22 = .ok (.iload_n 3, 1) := by decide +kernel
theorem dX1_exchangePair_23 : decode cX1_exchangePair 23 = .ok (.iload 4, 2) := by decide +kernel
theorem dX1_exchangePair_25 : decode cX1_exchangePair 25 = .ok (.invokestatic 102, 3) := by decide +kernel
theorem dX1_exchangePair_28 : decode cX1_exchangePair 28 = .ok (.return_, 1) := by decide +kernel
set_option maxRecDepth 20000 in
theorem ggX1_errorWith_X1_weighAll : GoodIn wsX1_errorWith wsX1_weighAll := goodIn_r _ [11, 12, 13, 1, 14, 15, 16, 17, 10, 18, 19, 20, 5, 21, 22, 23, 24, 25, 26, 27, 28, 29, 30, 31, 32, 33, 34, 35, 36, 37, 38, 45, 46, 47, 48, 49, 50, 51, 52, 53, 54, 55, 56, 57, 58, 59, 60, 61, 62, 63, 64, 65, 66] (by decide +kernel) (by decide +kernel)
set_option maxRecDepth 20000 in
theorem gX1_errorWith_X1_weighAll : GoodIn wsX1_errorWith (wsV RX1 59 RX1 yX1_weighAll wsX1_weighAll) := goodIn_app (goodIn_of _ (by decide +kernel)) ggX1_errorWith_X1_weighAll
set_option maxRecDepth 20000 in
theorem ggX1_errorWith_X1_expectAll : GoodIn wsX1_errorWith wsX1_expectAll := goodIn_r _ [42, 12, 43, 2, 44, 16, 17, 10, 18, 19, 20, 5, 21, 22, 23, 24, 25, 26, 27, 28, 29, 30, 31, 32, 33, 34, 35, 36, 37, 38, 45, 46, 47, 48, 49, 50, 51, 52, 53, 54, 55, 56, 57, 58, 59, 60, 61, 62, 63, 64, 65, 66] (by decide +kernel) (by decide +kernel)
set_option maxRecDepth 20000 in
theorem gX1_errorWith_X1_expectAll : GoodIn wsX1_errorWith (wsV RX1 167 RX1 yX1_expectAll wsX1_expectAll) := goodIn_app (goodIn_of _ (by decide +kernel)) ggX1_errorWith_X1_expectAll
theorem dX1_errorWith_0 : decode cX1_errorWith 0 = .ok (.aload_n 0, 1) := by decide +kernel
theorem dX1_errorWith_1 : decode cX1_errorWith 1 = .ok (.invokevirtual 59, 3) := by decide +kernel
theorem dX1_errorWith_4 : decode cX1_errorWith 4 = .ok (.aload_n 0, 1) := by decide +kernel
theorem dX1_errorWith_5 : decode cX1_errorWith 5 = .ok (.aload_n 1, 1) := by decide +kernel
theorem dX1_errorWith_6 : decode cX1_errorWith 6 = .ok (.invokevirtual 167, 3) := by decide +kernel
theorem dX1_errorWith_9 : decode cX1_errorWith 9 = .ok (.iconst 0, 1) := by decide +kernel
theorem dX1_errorWith_10 : decode cX1_errorWith 10 = .ok (.istore_n 2, 1) := by decide +kernel
theorem dX1_errorWith_11 : decode cX1_errorWith 11 = .ok (.iconst 0, 1) := by decide +kernel
theorem dX1_errorWith_12 : decode cX1_errorWith 12 = .ok (.istore_n 3, 1) := by decide +kernel
theorem dX1_errorWith_13 : decode cX1_errorWith 13 = .ok (.iload_n 3, 1) := by decide +kernel
theorem dX1_errorWith_14 : decode cX1_errorWith 14 = .ok (.bipush 24, 2) := by decide +kernel
theorem dX1_errorWith_16 : decode cX1_errorWith 16 = .ok (.if_icmp .ge 28, 3) := by decide +kernel
theorem dX1_errorWith_19 : decode cX1_errorWith 19 = .ok (.iload_n 2, 1) := by decide +kernel
theorem dX1_errorWith_20 : decode cX1_errorWith 20 = .ok (.aload_n 0, 1) := by decide +kernel
theorem dX1_errorWith_21 : decode cX1_errorWith 21 = .ok (.getfield 27, 3) := by decide +kernel
theorem dX1_errorWith_24 : decode cX1_errorWith 24 = .ok (.iload_n 3, 1) := by decide +kernel
theorem dX1_errorWith_25 : decode cX1_errorWith 25 = .ok (.iaload, 1) := by decide +kernel
theorem dX1_errorWith_26 : decode cX1_errorWith 26 = .ok (.aload_n 0, 1) := by decide +kernel
theorem dX1_errorWith_27 : decode cX1_errorWith 27 = .ok (.getfield 31, 3) := by decide +kernel
theorem dX1_errorWith_30 : decode cX1_errorWith 30 = .ok (.iload_n 3, 1) := by decide +kernel
theorem dX1_errorWith_31 : decode cX1_errorWith 31 = .ok (.iaload, 1) := by decide +kernel
theorem dX1_errorWith_32 : decode cX1_errorWith 32 = .ok (.isub, 1) := by decide +kernel
theorem dX1_errorWith_33 : decode cX1_errorWith 33 = .ok (.invokestatic 208, 3) := by decide +kernel
theorem dX1_errorWith_36 : decode cX1_errorWith 36 = .ok (.iadd, 1) := by decide +kernel
theorem dX1_errorWith_37 : decode cX1_errorWith 37 = .ok (.istore_n 2, 1) := by decide +kernel
theorem dX1_errorWith_38 : decode cX1_errorWith 38 = .ok (.iinc 3 1, 3) := by decide +kernel
theorem dX1_errorWith_41 : decode cX1_errorWith 41 = .ok (.goto (-28), 3) := by decide +kernel
theorem dX1_errorWith_44 : decode cX1_errorWith 44 = .ok (.iload_n 2, 1) := by decide +kernel
theorem dX1_errorWith_45 : decode cX1_errorWith 45 = .ok (.ireturn, 1) := by decide +kernel
set_option maxRecDepth 20000 in
theorem ggX1_bestExchange_X1_errorWith : GoodIn wsX1_bestExchange wsX1_errorWith := goodIn_r _ [6, 7, 8, 9, 10, 11, 12, 13, 14, 15, 5, 16, 17, 18, 19, 20, 21, 22, 23, 24, 25, 26, 27, 28, 29, 30, 31, 32, 33, 34, 35, 36, 37, 38, 39, 40, 41, 42, 1, 43, 44, 45, 46, 47, 48, 61, 62, 63, 64, 65, 66, 67, 68, 69, 70, 71, 72, 73, 74, 75, 76, 77, 78, 79, 80, 81, 82] (by decide +kernel) (by decide +kernel)
set_option maxRecDepth 20000 in
theorem gX1_bestExchange_X1_errorWith : GoodIn wsX1_bestExchange (wsV RX1 106 RX1 yX1_errorWith wsX1_errorWith) := goodIn_app (goodIn_of _ (by decide +kernel)) ggX1_bestExchange_X1_errorWith
set_option maxRecDepth 20000 in
theorem ggX1_bestExchange_X1_isAboard : GoodIn wsX1_bestExchange wsX1_isAboard := goodIn_r _ [52, 17, 20, 1, 53, 54, 55, 5, 56, 57, 61, 62, 63, 64, 65, 66, 67, 68, 69, 70, 71, 72, 73, 74, 75, 76, 77, 78, 79, 80, 81, 82] (by decide +kernel) (by decide +kernel)
set_option maxRecDepth 20000 in
theorem gX1_bestExchange_X1_isAboard : GoodIn wsX1_bestExchange (wsV RX1 95 RX1 yX1_isAboard wsX1_isAboard) := goodIn_app (goodIn_of _ (by decide +kernel)) ggX1_bestExchange_X1_isAboard
set_option maxRecDepth 20000 in
theorem ggX1_bestExchange_X1_exchange : GoodIn wsX1_bestExchange wsX1_exchange := goodIn_r _ [60] (by decide +kernel) (by decide +kernel)
set_option maxRecDepth 20000 in
theorem gX1_bestExchange_X1_exchange : GoodIn wsX1_bestExchange (va_wsS RX1 102 yX1_exchange wsX1_exchange) := goodIn_app (goodIn_of _ (by decide +kernel)) ggX1_bestExchange_X1_exchange
theorem dX1_bestExchange_0 : decode cX1_bestExchange 0 = .ok (.ldc 78, 2) := by decide +kernel
theorem dX1_bestExchange_2 : decode cX1_bestExchange 2 = .ok (.istore_n 2, 1) := by decide +kernel
theorem dX1_bestExchange_3 : decode cX1_bestExchange 3 = .ok (.aload_n 0, 1) := by decide +kernel
theorem dX1_bestExchange_4 : decode cX1_bestExchange 4 = .ok (.aload_n 1, 1) := by decide +kernel
theorem dX1_bestExchange_5 : decode cX1_bestExchange 5 = .ok (.invokevirtual 106, 3) := by decide +kernel
theorem dX1_bestExchange_8 : decode cX1_bestExchange 8 = .ok (.istore_n 3, 1) := by decide +kernel
theorem dX1_bestExchange_9 : decode cX1_bestExchange 9 = .ok (.iconst 0, 1) := by decide +kernel
theorem dX1_bestExchange_10 : decode cX1_bestExchange 10 = .ok (.istore 4, 2) := by decide +kernel
theorem dX1_bestExchange_12 : decode cX1_bestExchange 12 = .ok (.iload 4, 2) := by decide +kernel
theorem dX1_bestExchange_14 : decode cX1_bestExchange 14 = .ok (.bipush 8, 2) := by decide +kernel
theorem dX1_bestExchange_16 : decode cX1_bestExchange 16 = .ok (.if_icmp .ge 87, 3) := by decide +kernel
theorem dX1_bestExchange_19 : decode cX1_bestExchange 19 = .ok (.iload 4, 2) := by decide +kernel
theorem dX1_bestExchange_21 : decode cX1_bestExchange 21 = .ok (.iconst 1, 1) := by decide +kernel
theorem dX1_bestExchange_22 : decode cX1_bestExchange 22 = .ok (.iadd, 1) := by decide +kernel
theorem dX1_bestExchange_23 : decode cX1_bestExchange 23 = .ok (.istore 5, 2) := by decide +kernel
theorem dX1_bestExchange_25 : decode cX1_bestExchange 25 = .ok (.iload 5, 2) := by decide +kernel
theorem dX1_bestExchange_27 : decode cX1_bestExchange 27 = .ok (.bipush 8, 2) := by decide +kernel
theorem dX1_bestExchange_29 : decode cX1_bestExchange 29 = .ok (.if_icmp .ge 68, 3) := by decide +kernel
theorem dX1_bestExchange_32 : decode cX1_bestExchange 32 = .ok (.aload_n 0, 1) := by decide +kernel
theorem dX1_bestExchange_33 : decode cX1_bestExchange 33 = .ok (.iload 4, 2) := by decide +kernel
theorem dX1_bestExchange_35 : decode cX1_bestExchange 35 = .ok (.invokevirtual 95, 3) := by decide +kernel
theorem dX1_bestExchange_38 : decode cX1_bestExchange 38 = .ok (.ifCond .eq 53, 3) := by decide +kernel
theorem dX1_bestExchange_41 : decode cX1_bestExchange 41 = .ok (.aload_n 0, 1) := by decide +kernel
theorem dX1_bestExchange_42 : decode cX1_bestExchange 42 = .ok (.iload 5, 2) := by decide +kernel
theorem dX1_bestExchange_44 : decode cX1_bestExchange 44 = .ok (.invokevirtual 95, 3) := by decide +kernel
theorem dX1_bestExchange_47 : decode cX1_bestExchange 47 = .ok (.ifCond .eq 44, 3) := by decide +kernel
theorem dX1_bestExchange_50 : decode cX1_bestExchange 50 = .ok (.aload_n 1, 1) := by decide +kernel
theorem dX1_bestExchange_51 : decode cX1_bestExchange 51 = .ok (.iload 4, 2) := by decide +kernel
theorem dX1_bestExchange_53 : decode cX1_bestExchange 53 = .ok (.iload 5, 2) := by decide +kernel
theorem dX1_bestExchange_55 : decode cX1_bestExchange 55 = .ok (.invokestatic 102, 3) := by decide +kernel
theorem dX1_bestExchange_58 : decode cX1_bestExchange 58 = .ok (.aload_n 0, 1) := by decide +kernel
theorem dX1_bestExchange_59 : decode cX1_bestExchange 59 = .ok (.aload_n 1, 1) := by decide +kernel
theorem dX1_bestExchange_60 : decode cX1_bestExchange 60 = .ok (.invokevirtual 106, 3) := by decide +kernel
theorem dX1_bestExchange_63 : decode cX1_bestExchange 63 = .ok (.istore 6, 2) := by decide +kernel
theorem dX1_bestExchange_65 : decode cX1_bestExchange 65 = .ok (.aload_n 1, 1) := by decide +kernel
theorem dX1_bestExchange_66 : decode cX1_bestExchange 66 = .ok (.iload 4, 2) := by decide +kernel
theorem dX1_bestExchange_68 : decode cX1_bestExchange 68 = .ok (.iload 5, 2) := by decide +kernel
theorem dX1_bestExchange_70 : decode cX1_bestExchange 70 = .ok (.invokestatic 102, 3) := by decide +kernel
theorem dX1_bestExchange_73 : decode cX1_bestExchange 73 = .ok (.iload 6, 2) := by decide +kernel
theorem dX1_bestExchange_75 : decode cX1_bestExchange 75 = .ok (.iload_n 3, 1) := by decide +kernel
theorem dX1_bestExchange_76 : decode cX1_bestExchange 76 = .ok (.if_icmp .ge 15, 3) := by decide +kernel
theorem dX1_bestExchange_79 : decode cX1_bestExchange 79 = .ok (.iload 6, 2) := by decide +kernel
theorem dX1_bestExchange_81 : decode cX1_bestExchange 81 = .ok (.istore_n 3, 1) := by decide +kernel
theorem dX1_bestExchange_82 : decode cX1_bestExchange 82 = .ok (.bipush 10, 2) := by decide +kernel
theorem dX1_bestExchange_84 : decode cX1_bestExchange 84 = .ok (.iload 4, 2) := by decide +kernel
theorem dX1_bestExchange_86 : decode cX1_bestExchange 86 = .ok (.imul, 1) := by decide +kernel
theorem dX1_bestExchange_87 : decode cX1_bestExchange 87 = .ok (.iload 5, 2) := by decide +kernel
theorem dX1_bestExchange_89 : decode cX1_bestExchange 89 = .ok (.iadd, 1) := by decide +kernel
theorem dX1_bestExchange_90 : decode cX1_bestExchange 90 = .ok (.istore_n 2, 1) := by decide +kernel
theorem dX1_bestExchange_91 : decode cX1_bestExchange 91 = .ok (.iinc 5 1, 3) := by decide +kernel
theorem dX1_bestExchange_94 : decode cX1_bestExchange 94 = .ok (.goto (-69), 3) := by decide +kernel
theorem dX1_bestExchange_97 : decode cX1_bestExchange 97 = .ok (.iinc 4 1, 3) := by decide +kernel
theorem dX1_bestExchange_100 : decode cX1_bestExchange 100 = .ok (.goto (-88), 3) := by decide +kernel
theorem dX1_bestExchange_103 : decode cX1_bestExchange 103 = .ok (.iload_n 2, 1) := by decide +kernel
theorem dX1_bestExchange_104 : decode cX1_bestExchange 104 = .ok (.ireturn, 1) := by decide +kernel
set_option maxRecDepth 20000 in
theorem ggX1_walkersAboard_X1_isAboard : GoodIn wsX1_walkersAboard wsX1_isAboard := goodIn_r _ [5, 6, 7, 8, 9, 10, 11, 4, 12, 13, 14, 15, 16, 17, 18, 19, 20, 21, 22, 23, 24, 25, 26, 27, 28, 29, 30, 31, 32, 33, 34, 35] (by decide +kernel) (by decide +kernel)
set_option maxRecDepth 20000 in
theorem gX1_walkersAboard_X1_isAboard : GoodIn wsX1_walkersAboard (wsV RX1 95 RX1 yX1_isAboard wsX1_isAboard) := goodIn_app (goodIn_of _ (by decide +kernel)) ggX1_walkersAboard_X1_isAboard
theorem dX1_walkersAboard_0 : decode cX1_walkersAboard 0 = .ok (.iconst 0, 1) := by decide +kernel
theorem dX1_walkersAboard_1 : decode cX1_walkersAboard 1 = .ok (.istore_n 1, 1) := by decide +kernel
theorem dX1_walkersAboard_2 : decode cX1_walkersAboard 2 = .ok (.iconst 0, 1) := by decide +kernel
theorem dX1_walkersAboard_3 : decode cX1_walkersAboard 3 = .ok (.istore_n 2, 1) := by decide +kernel
theorem dX1_walkersAboard_4 : decode cX1_walkersAboard 4 = .ok (.iload_n 2, 1) := by decide +kernel
theorem dX1_walkersAboard_5 : decode cX1_walkersAboard 5 = .ok (.bipush 8, 2) := by decide +kernel
theorem dX1_walkersAboard_7 : decode cX1_walkersAboard 7 = .ok (.if_icmp .ge 20, 3) := by decide +kernel
theorem dX1_walkersAboard_10 : decode cX1_walkersAboard 10 = .ok (.aload_n 0, 1) := by decide +kernel
theorem dX1_walkersAboard_11 : decode cX1_walkersAboard 11 = .ok (.iload_n 2, 1) := by decide +kernel
theorem dX1_walkersAboard_12 : decode cX1_walkersAboard 12 = .ok (.invokevirtual 95, 3) := by decide +kernel
theorem dX1_walkersAboard_15 : decode cX1_walkersAboard 15 = .ok (.ifCond .eq 6, 3) := by decide +kernel
theorem dX1_walkersAboard_18 : decode cX1_walkersAboard 18 = .ok (.iinc 1 1, 3) := by decide +kernel
theorem dX1_walkersAboard_21 : decode cX1_walkersAboard 21 = .ok (.iinc 2 1, 3) := by decide +kernel
theorem dX1_walkersAboard_24 : decode cX1_walkersAboard 24 = .ok (.goto (-20), 3) := by decide +kernel
theorem dX1_walkersAboard_27 : decode cX1_walkersAboard 27 = .ok (.iload_n 1, 1) := by decide +kernel
theorem dX1_walkersAboard_28 : decode cX1_walkersAboard 28 = .ok (.ireturn, 1) := by decide +kernel
theorem dX1_walkersMisplaced_0 : decode cX1_walkersMisplaced 0 = .ok (.iconst 0, 1) := by decide +kernel
theorem dX1_walkersMisplaced_1 : decode cX1_walkersMisplaced 1 = .ok (.istore_n 1, 1) := by decide +kernel
theorem dX1_walkersMisplaced_2 : decode cX1_walkersMisplaced 2 = .ok (.iconst 0, 1) := by decide +kernel
theorem dX1_walkersMisplaced_3 : decode cX1_walkersMisplaced 3 = .ok (.istore_n 2, 1) := by decide +kernel
theorem dX1_walkersMisplaced_4 : decode cX1_walkersMisplaced 4 = .ok (.iload_n 2, 1) := by decide +kernel
theorem dX1_walkersMisplaced_5 : decode cX1_walkersMisplaced 5 = .ok (.bipush 8, 2) := by decide +kernel
theorem dX1_walkersMisplaced_7 : decode cX1_walkersMisplaced 7 = .ok (.if_icmp .ge 33, 3) := by decide +kernel
theorem dX1_walkersMisplaced_10 : decode cX1_walkersMisplaced 10 = .ok (.aload_n 0, 1) := by decide +kernel
theorem dX1_walkersMisplaced_11 : decode cX1_walkersMisplaced 11 = .ok (.getfield 10, 3) := by decide +kernel
theorem dX1_walkersMisplaced_14 : decode cX1_walkersMisplaced 14 = .ok (.getfield 71, 3) := by decide +kernel
theorem dX1_walkersMisplaced_17 : decode cX1_walkersMisplaced 17 = .ok (.iload_n 2, 1) := by decide +kernel
theorem dX1_walkersMisplaced_18 : decode cX1_walkersMisplaced 18 = .ok (.iaload, 1) := by decide +kernel
theorem dX1_walkersMisplaced_19 : decode cX1_walkersMisplaced 19 = .ok (.aload_n 0, 1) := by decide +kernel
theorem dX1_walkersMisplaced_20 : decode cX1_walkersMisplaced 20 = .ok (.getfield 10, 3) := by decide +kernel
theorem dX1_walkersMisplaced_23 : decode cX1_walkersMisplaced 23 = .ok (.getfield 89, 3) := by decide +kernel
theorem dX1_walkersMisplaced_26 : decode cX1_walkersMisplaced 26 = .ok (.iload_n 2, 1) := by decide +kernel
theorem dX1_walkersMisplaced_27 : decode cX1_walkersMisplaced 27 = .ok (.iaload, 1) := by decide +kernel
theorem dX1_walkersMisplaced_28 : decode cX1_walkersMisplaced 28 = .ok (.if_icmp .eq 6, 3) := by decide +kernel
theorem dX1_walkersMisplaced_31 : decode cX1_walkersMisplaced 31 = .ok (.iinc 1 1, 3) := by decide +kernel
theorem dX1_walkersMisplaced_34 : decode cX1_walkersMisplaced 34 = .ok (.iinc 2 1, 3) := by decide +kernel
theorem dX1_walkersMisplaced_37 : decode cX1_walkersMisplaced 37 = .ok (.goto (-33), 3) := by decide +kernel
theorem dX1_walkersMisplaced_40 : decode cX1_walkersMisplaced 40 = .ok (.iload_n 1, 1) := by decide +kernel
theorem dX1_walkersMisplaced_41 : decode cX1_walkersMisplaced 41 = .ok (.ireturn, 1) := by decide +kernel
set_option maxRecDepth 20000 in
theorem ggX1_estimateFor_X1_isAboard : GoodIn wsX1_estimateFor wsX1_isAboard := goodIn_r _ [14, 1, 15, 16, 17, 18, 19, 13, 20, 21, 55, 56, 57, 58, 59, 60, 61, 62, 63, 64, 65, 66, 67, 68, 69, 70, 71, 72, 73, 74, 75, 76] (by decide +kernel) (by decide +kernel)
set_option maxRecDepth 20000 in
theorem gX1_estimateFor_X1_isAboard : GoodIn wsX1_estimateFor (wsV RX1 95 RX1 yX1_isAboard wsX1_isAboard) := goodIn_app (goodIn_of _ (by decide +kernel)) ggX1_estimateFor_X1_isAboard
set_option maxRecDepth 20000 in
theorem ggX1_estimateFor_X1_weighAll : GoodIn wsX1_estimateFor wsX1_weighAll := goodIn_r _ [25, 1, 26, 4, 27, 15, 28, 29, 13, 30, 31, 32, 8, 33, 34, 35, 36, 37, 38, 39, 40, 41, 42, 43, 44, 45, 46, 47, 48, 49, 16, 55, 56, 57, 58, 59, 60, 61, 62, 63, 64, 65, 66, 67, 68, 69, 70, 71, 72, 73, 74, 75, 76] (by decide +kernel) (by decide +kernel)
set_option maxRecDepth 20000 in
theorem gX1_estimateFor_X1_weighAll : GoodIn wsX1_estimateFor (wsV RX1 59 RX1 yX1_weighAll wsX1_weighAll) := goodIn_app (goodIn_of _ (by decide +kernel)) ggX1_estimateFor_X1_weighAll
set_option maxRecDepth 20000 in
theorem ggX1_estimateFor_X1_expectAll : GoodIn wsX1_estimateFor wsX1_expectAll := goodIn_r _ [53, 1, 54, 5, 3, 28, 29, 13, 30, 31, 32, 8, 33, 34, 35, 36, 37, 38, 39, 40, 41, 42, 43, 44, 45, 46, 47, 48, 49, 16, 55, 56, 57, 58, 59, 60, 61, 62, 63, 64, 65, 66, 67, 68, 69, 70, 71, 72, 73, 74, 75, 76] (by decide +kernel) (by decide +kernel)
set_option maxRecDepth 20000 in
theorem gX1_estimateFor_X1_expectAll : GoodIn wsX1_estimateFor (wsV RX1 167 RX1 yX1_expectAll wsX1_expectAll) := goodIn_app (goodIn_of _ (by decide +kernel)) ggX1_estimateFor_X1_expectAll
set_option maxRecDepth 20000 in
theorem ggX1_estimateFor_X1_nearCell : GoodIn wsX1_estimateFor wsX1_nearCell := goodIn_r _ [49, 16] (by decide +kernel) (by decide +kernel)
set_option maxRecDepth 20000 in
theorem gX1_estimateFor_X1_nearCell : GoodIn wsX1_estimateFor (va_wsS RX1 195 yX1_nearCell wsX1_nearCell) := goodIn_app (goodIn_of _ (by decide +kernel)) ggX1_estimateFor_X1_nearCell
set_option maxRecDepth 20000 in
theorem ggX1_estimateFor_X1_isCell : GoodIn wsX1_estimateFor wsX1_isCell := goodIn_r _ [46] (by decide +kernel) (by decide +kernel)
set_option maxRecDepth 20000 in
theorem gX1_estimateFor_X1_isCell : GoodIn wsX1_estimateFor (va_wsS RX1 37 yX1_isCell wsX1_isCell) := goodIn_app (goodIn_of _ (by decide +kernel)) ggX1_estimateFor_X1_isCell
theorem dX1_estimateFor_0 : decode cX1_estimateFor 0 = .ok (.aload_n 0, 1) := by decide +kernel
theorem dX1_estimateFor_1 : decode cX1_estimateFor 1 = .ok (.iload_n 1, 1) := by decide +kernel
theorem dX1_estimateFor_2 : decode cX1_estimateFor 2 = .ok (.invokevirtual 95, 3) := by decide +kernel
theorem dX1_estimateFor_5 : decode cX1_estimateFor 5 = .ok (.ifCond .ne 5, 3) := by decide +kernel
theorem dX1_estimateFor_8 : decode cX1_estimateFor 8 = .ok (.iconst 0, 1) := by decide +kernel
theorem dX1_estimateFor_9 : decode cX1_estimateFor 9 = .ok (.ireturn, 1) := by decide +kernel
theorem dX1_estimateFor_10 : decode cX1_estimateFor 10 = .ok (.aload_n 0, 1) := by decide +kernel
theorem dX1_estimateFor_11 : decode cX1_estimateFor 11 = .ok (.invokevirtual 59, 3) := by decide +kernel
theorem dX1_estimateFor_14 : decode cX1_estimateFor 14 = .ok (.aload_n 0, 1) := by decide +kernel
theorem dX1_estimateFor_15 : decode cX1_estimateFor 15 = .ok (.aload_n 0, 1) := by decide +kernel
theorem dX1_estimateFor_16 : decode cX1_estimateFor 16 = .ok (.getfield 10, 3) := by decide +kernel
theorem dX1_estimateFor_19 : decode cX1_estimateFor 19 = .ok (.getfield 89, 3) := by decide +kernel
theorem dX1_estimateFor_22 : decode cX1_estimateFor 22 = .ok (.invokevirtual 167, 3) := by decide +kernel
theorem dX1_estimateFor_25 : decode cX1_estimateFor 25 = .ok (.aload_n 0, 1) := by decide +kernel
theorem dX1_estimateFor_26 : decode cX1_estimateFor 26 = .ok (.getfield 10, 3) := by decide +kernel
theorem dX1_estimateFor_29 : decode cX1_estimateFor 29 = .ok (.getfield 89, 3) := by decide +kernel
theorem dX1_estimateFor_32 : decode cX1_estimateFor 32 = .ok (.iload_n 1, 1) := by decide +kernel
theorem dX1_estimateFor_33 : decode cX1_estimateFor 33 = .ok (.iaload, 1) := by decide +kernel
theorem dX1_estimateFor_34 : decode cX1_estimateFor 34 = .ok (.istore_n 2, 1) := by decide +kernel
theorem dX1_estimateFor_35 : decode cX1_estimateFor 35 = .ok (.aload_n 0, 1) := by decide +kernel
theorem dX1_estimateFor_36 : decode cX1_estimateFor 36 = .ok (.getfield 10, 3) := by decide +kernel
theorem dX1_estimateFor_39 : decode cX1_estimateFor 39 = .ok (.getfield 86, 3) := by decide +kernel
theorem dX1_estimateFor_42 : decode cX1_estimateFor 42 = .ok (.iload_n 1, 1) := by decide +kernel
theorem dX1_estimateFor_43 : decode cX1_estimateFor 43 = .ok (.iaload, 1) := by decide +kernel
theorem dX1_estimateFor_44 : decode cX1_estimateFor 44 = .ok (.istore_n 3, 1) := by decide +kernel
theorem dX1_estimateFor_45 : decode cX1_estimateFor 45 = .ok (.iconst 0, 1) := by decide +kernel
theorem dX1_estimateFor_46 : decode cX1_estimateFor 46 = .ok (.istore 4, 2) := by decide +kernel
theorem dX1_estimateFor_48 : decode cX1_estimateFor 48 = .ok (.iload 4, 2) := by decide +kernel
theorem dX1_estimateFor_50 : decode cX1_estimateFor 50 = .ok (.iconst 5, 1) := by decide +kernel
theorem dX1_estimateFor_51 : decode cX1_estimateFor 51 = .ok (.if_icmp .ge 43, 3) := by decide +kernel
theorem dX1_estimateFor_54 : decode cX1_estimateFor 54 = .ok (.iload_n 2, 1) := by decide +kernel
theorem dX1_estimateFor_55 : decode cX1_estimateFor 55 = .ok (.iload 4, 2) := by decide +kernel
theorem dX1_estimateFor_57 : decode cX1_estimateFor 57 = .ok (.invokestatic 195, 3) := by decide +kernel
theorem dX1_estimateFor_60 : decode cX1_estimateFor 60 = .ok (.istore 5, 2) := by decide +kernel
theorem dX1_estimateFor_62 : decode cX1_estimateFor 62 = .ok (.iload 5, 2) := by decide +kernel
theorem dX1_estimateFor_64 : decode cX1_estimateFor 64 = .ok (.invokestatic 37, 3) := by decide +kernel
theorem dX1_estimateFor_67 : decode cX1_estimateFor 67 = .ok (.ifCond .eq 21, 3) := by decide +kernel
theorem dX1_estimateFor_70 : decode cX1_estimateFor 70 = .ok (.iload_n 3, 1) := by decide +kernel
theorem dX1_estimateFor_71 : decode cX1_estimateFor 71 = .ok (.aload_n 0, 1) := by decide +kernel
theorem dX1_estimateFor_72 : decode cX1_estimateFor 72 = .ok (.getfield 27, 3) := by decide +kernel
theorem dX1_estimateFor_75 : decode cX1_estimateFor 75 = .ok (.iload 5, 2) := by decide +kernel
theorem dX1_estimateFor_77 : decode cX1_estimateFor 77 = .ok (.iaload, 1) := by decide +kernel
theorem dX1_estimateFor_78 : decode cX1_estimateFor 78 = .ok (.aload_n 0, 1) := by decide +kernel
theorem dX1_estimateFor_79 : decode cX1_estimateFor 79 = .ok (.getfield 31, 3) := by decide +kernel
theorem dX1_estimateFor_82 : decode cX1_estimateFor 82 = .ok (.iload 5, 2) := by decide +kernel
theorem dX1_estimateFor_84 : decode cX1_estimateFor 84 = .ok (.iaload, 1) := by decide +kernel
theorem dX1_estimateFor_85 : decode cX1_estimateFor 85 = .ok (.isub, 1) := by decide +kernel
theorem dX1_estimateFor_86 : decode cX1_estimateFor 86 = .ok (.iadd, 1) := by decide +kernel
theorem dX1_estimateFor_87 : decode cX1_estimateFor 87 = .ok (.istore_n 3, 1) := by decide +kernel
theorem dX1_estimateFor_88 : decode cX1_estimateFor 88 = .ok (.iinc 4 1, 3) := by decide +kernel
theorem dX1_estimateFor_91 : decode cX1_estimateFor 91 = .ok (.goto (-43), 3) := by decide +kernel
theorem dX1_estimateFor_94 : decode cX1_estimateFor 94 = .ok (.iconst 0, 1) := by decide +kernel
theorem dX1_estimateFor_95 : decode cX1_estimateFor 95 = .ok (.iload_n 3, 1) := by decide +kernel
theorem dX1_estimateFor_96 : decode cX1_estimateFor 96 = .ok (.invokestatic 129, 3) := by decide +kernel
theorem dX1_estimateFor_99 : decode cX1_estimateFor 99 = .ok (.ireturn, 1) := by decide +kernel
set_option maxRecDepth 20000 in
theorem ggX1_certaintyFor_X1_isAboard : GoodIn wsX1_certaintyFor wsX1_isAboard := goodIn_r _ [13, 1, 14, 15, 16, 17, 18, 12, 19, 20, 35, 36, 37, 38, 39, 40, 41, 42, 43, 44, 45, 46, 47, 48, 49, 50, 51, 52, 53, 54, 55, 56] (by decide +kernel) (by decide +kernel)
set_option maxRecDepth 20000 in
theorem gX1_certaintyFor_X1_isAboard : GoodIn wsX1_certaintyFor (wsV RX1 95 RX1 yX1_isAboard wsX1_isAboard) := goodIn_app (goodIn_of _ (by decide +kernel)) ggX1_certaintyFor_X1_isAboard
set_option maxRecDepth 20000 in
theorem ggX1_certaintyFor_X1_earliestTare : GoodIn wsX1_certaintyFor wsX1_earliestTare := goodIn_r _ [24, 1, 2, 25, 26, 27, 7, 28, 29, 30, 12, 31, 15, 32, 33, 34, 35, 36, 37, 38, 39, 40, 41, 42, 43, 44, 45, 46, 47, 48, 49, 50, 51, 52, 53, 54, 55, 56] (by decide +kernel) (by decide +kernel)
set_option maxRecDepth 20000 in
theorem gX1_certaintyFor_X1_earliestTare : GoodIn wsX1_certaintyFor (wsV RX1 192 RX1 yX1_earliestTare wsX1_earliestTare) := goodIn_app (goodIn_of _ (by decide +kernel)) ggX1_certaintyFor_X1_earliestTare
theorem dX1_certaintyFor_0 : decode cX1_certaintyFor 0 = .ok (.aload_n 0, 1) := by decide +kernel
theorem dX1_certaintyFor_1 : decode cX1_certaintyFor 1 = .ok (.iload_n 1, 1) := by decide +kernel
theorem dX1_certaintyFor_2 : decode cX1_certaintyFor 2 = .ok (.invokevirtual 95, 3) := by decide +kernel
theorem dX1_certaintyFor_5 : decode cX1_certaintyFor 5 = .ok (.ifCond .ne 5, 3) := by decide +kernel
theorem dX1_certaintyFor_8 : decode cX1_certaintyFor 8 = .ok (.iconst 0, 1) := by decide +kernel
theorem dX1_certaintyFor_9 : decode cX1_certaintyFor 9 = .ok (.ireturn, 1) := by decide +kernel
theorem dX1_certaintyFor_10 : decode cX1_certaintyFor 10 = .ok (.aload_n 0, 1) := by decide +kernel
theorem dX1_certaintyFor_11 : decode cX1_certaintyFor 11 = .ok (.getfield 10, 3) := by decide +kernel
theorem dX1_certaintyFor_14 : decode cX1_certaintyFor 14 = .ok (.getfield 52, 3) := by decide +kernel
theorem dX1_certaintyFor_17 : decode cX1_certaintyFor 17 = .ok (.aload_n 0, 1) := by decide +kernel
theorem dX1_certaintyFor_18 : decode cX1_certaintyFor 18 = .ok (.aload_n 0, 1) := by decide +kernel
theorem dX1_certaintyFor_19 : decode cX1_certaintyFor 19 = .ok (.getfield 10, 3) := by decide +kernel
theorem dX1_certaintyFor_22 : decode cX1_certaintyFor 22 = .ok (.getfield 89, 3) := by decide +kernel
theorem dX1_certaintyFor_25 : decode cX1_certaintyFor 25 = .ok (.iload_n 1, 1) := by decide +kernel
theorem dX1_certaintyFor_26 : decode cX1_certaintyFor 26 = .ok (.iaload, 1) := by decide +kernel
theorem dX1_certaintyFor_27 : decode cX1_certaintyFor 27 = .ok (.invokevirtual 192, 3) := by decide +kernel
theorem dX1_certaintyFor_30 : decode cX1_certaintyFor 30 = .ok (.isub, 1) := by decide +kernel
theorem dX1_certaintyFor_31 : decode cX1_certaintyFor 31 = .ok (.istore_n 2, 1) := by decide +kernel
theorem dX1_certaintyFor_32 : decode cX1_certaintyFor 32 = .ok (.iconst 5, 1) := by decide +kernel
theorem dX1_certaintyFor_33 : decode cX1_certaintyFor 33 = .ok (.iload_n 2, 1) := by decide +kernel
theorem dX1_certaintyFor_34 : decode cX1_certaintyFor 34 = .ok (.imul, 1) := by decide +kernel
theorem dX1_certaintyFor_35 : decode cX1_certaintyFor 35 = .ok (.bipush 10, 2) := by decide +kernel
theorem dX1_certaintyFor_37 : decode cX1_certaintyFor 37 = .ok (.aload_n 0, 1) := by decide +kernel
theorem dX1_certaintyFor_38 : decode cX1_certaintyFor 38 = .ok (.getfield 10, 3) := by decide +kernel
theorem dX1_certaintyFor_41 : decode cX1_certaintyFor 41 = .ok (.getfield 113, 3) := by decide +kernel
theorem dX1_certaintyFor_44 : decode cX1_certaintyFor 44 = .ok (.iload_n 1, 1) := by decide +kernel
theorem dX1_certaintyFor_45 : decode cX1_certaintyFor 45 = .ok (.iaload, 1) := by decide +kernel
theorem dX1_certaintyFor_46 : decode cX1_certaintyFor 46 = .ok (.imul, 1) := by decide +kernel
theorem dX1_certaintyFor_47 : decode cX1_certaintyFor 47 = .ok (.iadd, 1) := by decide +kernel
theorem dX1_certaintyFor_48 : decode cX1_certaintyFor 48 = .ok (.istore_n 3, 1) := by decide +kernel
theorem dX1_certaintyFor_49 : decode cX1_certaintyFor 49 = .ok (.iconst 0, 1) := by decide +kernel
theorem dX1_certaintyFor_50 : decode cX1_certaintyFor 50 = .ok (.bipush 100, 2) := by decide +kernel
theorem dX1_certaintyFor_52 : decode cX1_certaintyFor 52 = .ok (.iload_n 3, 1) := by decide +kernel
theorem dX1_certaintyFor_53 : decode cX1_certaintyFor 53 = .ok (.isub, 1) := by decide +kernel
theorem dX1_certaintyFor_54 : decode cX1_certaintyFor 54 = .ok (.invokestatic 129, 3) := by decide +kernel
theorem dX1_certaintyFor_57 : decode cX1_certaintyFor 57 = .ok (.ireturn, 1) := by decide +kernel
set_option maxRecDepth 20000 in
theorem ggX1_kilogramsToBill_X1_estimateFor : GoodIn wsX1_kilogramsToBill wsX1_estimateFor := goodIn_r _ [14, 1, 15, 16, 17, 18, 7, 8, 5, 9, 19, 20, 21, 13, 22, 23, 24, 25, 26, 27, 28, 29, 30, 31, 32, 33, 34, 35, 36, 37, 38, 3, 4, 6, 39, 40, 41, 42, 43, 44, 45, 46, 47, 48, 49, 50, 51, 52, 53, 54, 55, 56, 57, 58, 2, 86, 87, 88, 89, 90, 91, 92, 93, 94, 95, 96, 97, 98, 99, 100, 101, 102, 103, 104, 105, 106, 107] (by decide +kernel) (by decide +kernel)
set_option maxRecDepth 20000 in
theorem gX1_kilogramsToBill_X1_estimateFor : GoodIn wsX1_kilogramsToBill (wsV RX1 174 RX1 yX1_estimateFor wsX1_estimateFor) := goodIn_app (goodIn_of _ (by decide +kernel)) ggX1_kilogramsToBill_X1_estimateFor
set_option maxRecDepth 20000 in
theorem ggX1_kilogramsToBill_X1_certaintyFor : GoodIn wsX1_kilogramsToBill wsX1_certaintyFor := goodIn_r _ [62, 1, 63, 15, 64, 7, 8, 5, 9, 19, 20, 21, 13, 22, 23, 24, 25, 26, 27, 28, 29, 65, 66, 67, 68, 69, 3, 4, 6, 52, 53, 54, 49, 50, 51, 86, 87, 88, 89, 90, 91, 92, 93, 94, 95, 96, 97, 98, 99, 100, 101, 102, 103, 104, 105, 106, 107] (by decide +kernel) (by decide +kernel)
set_option maxRecDepth 20000 in
theorem gX1_kilogramsToBill_X1_certaintyFor : GoodIn wsX1_kilogramsToBill (wsV RX1 177 RX1 yX1_certaintyFor wsX1_certaintyFor) := goodIn_app (goodIn_of _ (by decide +kernel)) ggX1_kilogramsToBill_X1_certaintyFor
set_option maxRecDepth 20000 in
theorem ggX1_kilogramsToBill_X1_sumOfReadings : GoodIn wsX1_kilogramsToBill wsX1_sumOfReadings := goodIn_r _ [73, 17, 30, 31, 32, 13, 33, 1, 34, 35, 23, 36, 37, 38, 3, 4, 5, 6, 39, 40, 41, 42, 43, 44, 45, 46, 47, 48, 49, 50, 51, 52, 53, 54, 24, 74, 75, 76, 86, 87, 88, 89, 90, 91, 92, 93, 94, 95, 96, 97, 98, 99, 100, 101, 102, 103, 104, 105, 106, 107] (by decide +kernel) (by decide +kernel)
set_option maxRecDepth 20000 in
theorem gX1_kilogramsToBill_X1_sumOfReadings : GoodIn wsX1_kilogramsToBill (wsV RX1 149 RX1 yX1_sumOfReadings wsX1_sumOfReadings) := goodIn_app (goodIn_of _ (by decide +kernel)) ggX1_kilogramsToBill_X1_sumOfReadings
set_option maxRecDepth 20000 in
theorem ggX1_kilogramsToBill_X1_sumOf : GoodIn wsX1_kilogramsToBill wsX1_sumOf := goodIn_r _ [76] (by decide +kernel) (by decide +kernel)
set_option maxRecDepth 20000 in
theorem gX1_kilogramsToBill_X1_sumOf : GoodIn wsX1_kilogramsToBill (va_wsS RX1 152 yX1_sumOf wsX1_sumOf) := goodIn_app (goodIn_of _ (by decide +kernel)) ggX1_kilogramsToBill_X1_sumOf
set_option maxRecDepth 20000 in
theorem ggX1_kilogramsToBill_X1_kilogramsBilled : GoodIn wsX1_kilogramsToBill wsX1_kilogramsBilled := goodIn_r _ [80, 1, 81, 82, 83, 84, 13, 85, 24, 86, 87, 88, 89, 90, 91, 92, 93, 94, 95, 96, 97, 98, 99, 100, 101, 102, 103, 104, 105, 106, 107] (by decide +kernel) (by decide +kernel)
set_option maxRecDepth 20000 in
theorem gX1_kilogramsToBill_X1_kilogramsBilled : GoodIn wsX1_kilogramsToBill (wsV RX1 158 RX1 yX1_kilogramsBilled wsX1_kilogramsBilled) := goodIn_app (goodIn_of _ (by decide +kernel)) ggX1_kilogramsToBill_X1_kilogramsBilled
theorem dX1_kilogramsToBill_0 : decode cX1_kilogramsToBill 0 = .ok (.aload_n 0, 1) := by decide +kernel
theorem dX1_kilogramsToBill_1 : decode cX1_kilogramsToBill 1 = .ok (.iload_n 1, 1) := by decide +kernel
theorem dX1_kilogramsToBill_2 : decode cX1_kilogramsToBill 2 = .ok (.invokevirtual 174, 3) := by decide +kernel
theorem dX1_kilogramsToBill_5 : decode cX1_kilogramsToBill 5 = .ok (.aload_n 0, 1) := by decide +kernel
theorem dX1_kilogramsToBill_6 : decode cX1_kilogramsToBill 6 = .ok (.iload_n 1, 1) := by decide +kernel
theorem dX1_kilogramsToBill_7 : decode cX1_kilogramsToBill 7 = .ok (.invokevirtual 177, 3) := by decide +kernel
theorem dX1_kilogramsToBill_10 : decode cX1_kilogramsToBill 10 = .ok (.imul, 1) := by decide +kernel
theorem dX1_kilogramsToBill_11 : decode cX1_kilogramsToBill 11 = .ok (.bipush 100, 2) := by decide +kernel
theorem dX1_kilogramsToBill_13 : decode cX1_kilogramsToBill 13 = .ok (.idiv, 1) := by decide +kernel
theorem dX1_kilogramsToBill_14 : decode cX1_kilogramsToBill 14 = .ok (.istore_n 2, 1) := by decide +kernel
theorem dX1_kilogramsToBill_15 : decode cX1_kilogramsToBill 15 = .ok (.aload_n 0, 1) := by decide +kernel
theorem dX1_kilogramsToBill_16 : decode cX1_kilogramsToBill 16 = .ok (.invokevirtual 149, 3) := by decide +kernel
theorem dX1_kilogramsToBill_19 : decode cX1_kilogramsToBill 19 = .ok (.aload_n 0, 1) := by decide +kernel
theorem dX1_kilogramsToBill_20 : decode cX1_kilogramsToBill 20 = .ok (.getfield 10, 3) := by decide +kernel
theorem dX1_kilogramsToBill_23 : decode cX1_kilogramsToBill 23 = .ok (.getfield 62, 3) := by decide +kernel
theorem dX1_kilogramsToBill_26 : decode cX1_kilogramsToBill 26 = .ok (.invokestatic 152, 3) := by decide +kernel
theorem dX1_kilogramsToBill_29 : decode cX1_kilogramsToBill 29 = .ok (.isub, 1) := by decide +kernel
theorem dX1_kilogramsToBill_30 : decode cX1_kilogramsToBill 30 = .ok (.aload_n 0, 1) := by decide +kernel
theorem dX1_kilogramsToBill_31 : decode cX1_kilogramsToBill 31 = .ok (.invokevirtual 158, 3) := by decide +kernel
theorem dX1_kilogramsToBill_34 : decode cX1_kilogramsToBill 34 = .ok (.isub, 1) := by decide +kernel
theorem dX1_kilogramsToBill_35 : decode cX1_kilogramsToBill 35 = .ok (.istore_n 3, 1) := by decide +kernel
theorem dX1_kilogramsToBill_36 : decode cX1_kilogramsToBill 36 = .ok (.iconst 0, 1) := by decide +kernel
theorem dX1_kilogramsToBill_37 : decode cX1_kilogramsToBill 37 = .ok (.iload_n 2, 1) := by decide +kernel
theorem dX1_kilogramsToBill_38 : decode cX1_kilogramsToBill 38 = .ok (.iload_n 3, 1) := by decide +kernel
theorem dX1_kilogramsToBill_39 : decode cX1_kilogramsToBill 39 = .ok (.invokestatic 205, 3) := by decide +kernel
theorem dX1_kilogramsToBill_42 : decode cX1_kilogramsToBill 42 = .ok (.invokestatic 129, 3) := by decide +kernel
theorem dX1_kilogramsToBill_45 : decode cX1_kilogramsToBill 45 = .ok (.ireturn, 1) := by decide +kernel
set_option maxRecDepth 20000 in
theorem ggX1_kilogramsBilled_X1_orZero : GoodIn wsX1_kilogramsBilled wsX1_orZero := goodIn_r _ [7, 8] (by decide +kernel) (by decide +kernel)
set_option maxRecDepth 20000 in
theorem gX1_kilogramsBilled_X1_orZero : GoodIn wsX1_kilogramsBilled (va_wsS RX1 211 yX1_orZero wsX1_orZero) := goodIn_app (goodIn_of _ (by decide +kernel)) ggX1_kilogramsBilled_X1_orZero
theorem dX1_kilogramsBilled_0 : decode cX1_kilogramsBilled 0 = .ok (.iconst 0, 1) := by decide +kernel
theorem dX1_kilogramsBilled_1 : decode cX1_kilogramsBilled 1 = .ok (.istore_n 1, 1) := by decide +kernel
theorem dX1_kilogramsBilled_2 : decode cX1_kilogramsBilled 2 = .ok (.iconst 0, 1) := by decide +kernel
theorem dX1_kilogramsBilled_3 : decode cX1_kilogramsBilled 3 = .ok (.istore_n 2, 1) := by decide +kernel
theorem dX1_kilogramsBilled_4 : decode cX1_kilogramsBilled 4 = .ok (.iload_n 2, 1) := by decide +kernel
theorem dX1_kilogramsBilled_5 : decode cX1_kilogramsBilled 5 = .ok (.bipush 8, 2) := by decide +kernel
theorem dX1_kilogramsBilled_7 : decode cX1_kilogramsBilled 7 = .ok (.if_icmp .ge 37, 3) := by decide +kernel
theorem dX1_kilogramsBilled_10 : decode cX1_kilogramsBilled 10 = .ok (.iload_n 1, 1) := by decide +kernel
theorem dX1_kilogramsBilled_11 : decode cX1_kilogramsBilled 11 = .ok (.aload_n 0, 1) := by decide +kernel
theorem dX1_kilogramsBilled_12 : decode cX1_kilogramsBilled 12 = .ok (.getfield 10, 3) := by decide +kernel
theorem dX1_kilogramsBilled_15 : decode cX1_kilogramsBilled 15 = .ok (.getfield 116, 3) := by decide +kernel
theorem dX1_kilogramsBilled_18 : decode cX1_kilogramsBilled 18 = .ok (.iload_n 2, 1) := by decide +kernel
theorem dX1_kilogramsBilled_19 : decode cX1_kilogramsBilled 19 = .ok (.iaload, 1) := by decide +kernel
theorem dX1_kilogramsBilled_20 : decode cX1_kilogramsBilled 20 = .ok (.invokestatic 211, 3) := by decide +kernel
theorem dX1_kilogramsBilled_23 : decode cX1_kilogramsBilled 23 = .ok (.aload_n 0, 1) := by decide +kernel
theorem dX1_kilogramsBilled_24 : decode cX1_kilogramsBilled 24 = .ok (.getfield 10, 3) := by decide +kernel
theorem dX1_kilogramsBilled_27 : decode cX1_kilogramsBilled 27 = .ok (.getfield 126, 3) := by decide +kernel
theorem dX1_kilogramsBilled_30 : decode cX1_kilogramsBilled 30 = .ok (.iload_n 2, 1) := by decide +kernel
theorem dX1_kilogramsBilled_31 : decode cX1_kilogramsBilled 31 = .ok (.iaload, 1) := by decide +kernel
theorem dX1_kilogramsBilled_32 : decode cX1_kilogramsBilled 32 = .ok (.invokestatic 211, 3) := by decide +kernel
theorem dX1_kilogramsBilled_35 : decode cX1_kilogramsBilled 35 = .ok (.isub, 1) := by decide +kernel
theorem dX1_kilogramsBilled_36 : decode cX1_kilogramsBilled 36 = .ok (.iadd, 1) := by decide +kernel
theorem dX1_kilogramsBilled_37 : decode cX1_kilogramsBilled 37 = .ok (.istore_n 1, 1) := by decide +kernel
theorem dX1_kilogramsBilled_38 : decode cX1_kilogramsBilled 38 = .ok (.iinc 2 1, 3) := by decide +kernel
theorem dX1_kilogramsBilled_41 : decode cX1_kilogramsBilled 41 = .ok (.goto (-37), 3) := by decide +kernel
theorem dX1_kilogramsBilled_44 : decode cX1_kilogramsBilled 44 = .ok (.iload_n 1, 1) := by decide +kernel
theorem dX1_kilogramsBilled_45 : decode cX1_kilogramsBilled 45 = .ok (.ireturn, 1) := by decide +kernel
set_option maxRecDepth 20000 in
theorem ggX1_billAmount_X1_isWalker : GoodIn wsX1_billAmount wsX1_isWalker := goodIn_r _ [8, 1, 9, 14, 15, 16, 17, 18, 19, 20, 21, 22, 23, 24, 25, 26, 27, 28, 29, 30, 31, 32, 33, 34, 35] (by decide +kernel) (by decide +kernel)
set_option maxRecDepth 20000 in
theorem gX1_billAmount_X1_isWalker : GoodIn wsX1_billAmount (wsV RX1 92 RX1 yX1_isWalker wsX1_isWalker) := goodIn_app (goodIn_of _ (by decide +kernel)) ggX1_billAmount_X1_isWalker
set_option maxRecDepth 20000 in
theorem ggX1_billAmount_X1_orZero : GoodIn wsX1_billAmount wsX1_orZero := goodIn_r _ [12, 13] (by decide +kernel) (by decide +kernel)
set_option maxRecDepth 20000 in
theorem gX1_billAmount_X1_orZero : GoodIn wsX1_billAmount (va_wsS RX1 211 yX1_orZero wsX1_orZero) := goodIn_app (goodIn_of _ (by decide +kernel)) ggX1_billAmount_X1_orZero
theorem dX1_billAmount_0 : decode cX1_billAmount 0 = .ok (.aload_n 0, 1) := by decide +kernel
theorem dX1_billAmount_1 : decode cX1_billAmount 1 = .ok (.iload_n 1, 1) := by decide +kernel
theorem dX1_billAmount_2 : decode cX1_billAmount 2 = .ok (.invokevirtual 92, 3) := by decide +kernel
theorem dX1_billAmount_5 : decode cX1_billAmount 5 = .ok (.ifCond .eq 28, 3) := by decide +kernel
theorem dX1_billAmount_8 : decode cX1_billAmount 8 = .ok (.aload_n 0, 1) := by decide +kernel
theorem dX1_billAmount_9 : decode cX1_billAmount 9 = .ok (.getfield 10, 3) := by decide +kernel
theorem dX1_billAmount_12 : decode cX1_billAmount 12 = .ok (.getfield 116, 3) := by decide +kernel
theorem dX1_billAmount_15 : decode cX1_billAmount 15 = .ok (.iload_n 1, 1) := by decide +kernel
theorem dX1_billAmount_16 : decode cX1_billAmount 16 = .ok (.iaload, 1) := by decide +kernel
theorem dX1_billAmount_17 : decode cX1_billAmount 17 = .ok (.invokestatic 211, 3) := by decide +kernel
theorem dX1_billAmount_20 : decode cX1_billAmount 20 = .ok (.aload_n 0, 1) := by decide +kernel
theorem dX1_billAmount_21 : decode cX1_billAmount 21 = .ok (.getfield 10, 3) := by decide +kernel
theorem dX1_billAmount_24 : decode cX1_billAmount 24 = .ok (.getfield 123, 3) := by decide +kernel
theorem dX1_billAmount_27 : decode cX1_billAmount 27 = .ok (.iload_n 1, 1) := by decide +kernel
theorem dX1_billAmount_28 : decode cX1_billAmount 28 = .ok (.iaload, 1) := by decide +kernel
theorem dX1_billAmount_29 : decode cX1_billAmount 29 = .ok (.imul, 1) := by decide +kernel
theorem dX1_billAmount_30 : decode cX1_billAmount 30 = .ok (.goto 4, 3) := by decide +kernel
theorem dX1_billAmount_33 : decode cX1_billAmount 33 = .ok (.iconst 0, 1) := by decide +kernel
theorem dX1_billAmount_34 : decode cX1_billAmount 34 = .ok (.ireturn, 1) := by decide +kernel
set_option maxRecDepth 20000 in
theorem ggX1_backAmount_X1_isWalker : GoodIn wsX1_backAmount wsX1_isWalker := goodIn_r _ [8, 1, 9, 14, 15, 16, 17, 18, 19, 20, 21, 22, 23, 24, 25, 26, 27, 28, 29, 30, 31, 32, 33, 34, 35] (by decide +kernel) (by decide +kernel)
set_option maxRecDepth 20000 in
theorem gX1_backAmount_X1_isWalker : GoodIn wsX1_backAmount (wsV RX1 92 RX1 yX1_isWalker wsX1_isWalker) := goodIn_app (goodIn_of _ (by decide +kernel)) ggX1_backAmount_X1_isWalker
set_option maxRecDepth 20000 in
theorem ggX1_backAmount_X1_orZero : GoodIn wsX1_backAmount wsX1_orZero := goodIn_r _ [12, 13] (by decide +kernel) (by decide +kernel)
set_option maxRecDepth 20000 in
theorem gX1_backAmount_X1_orZero : GoodIn wsX1_backAmount (va_wsS RX1 211 yX1_orZero wsX1_orZero) := goodIn_app (goodIn_of _ (by decide +kernel)) ggX1_backAmount_X1_orZero
theorem dX1_backAmount_0 : decode cX1_backAmount 0 = .ok (.aload_n 0, 1) := by decide +kernel
theorem dX1_backAmount_1 : decode cX1_backAmount 1 = .ok (.iload_n 1, 1) := by decide +kernel
theorem dX1_backAmount_2 : decode cX1_backAmount 2 = .ok (.invokevirtual 92, 3) := by decide +kernel
theorem dX1_backAmount_5 : decode cX1_backAmount 5 = .ok (.ifCond .eq 28, 3) := by decide +kernel
theorem dX1_backAmount_8 : decode cX1_backAmount 8 = .ok (.aload_n 0, 1) := by decide +kernel
theorem dX1_backAmount_9 : decode cX1_backAmount 9 = .ok (.getfield 10, 3) := by decide +kernel
theorem dX1_backAmount_12 : decode cX1_backAmount 12 = .ok (.getfield 126, 3) := by decide +kernel
theorem dX1_backAmount_15 : decode cX1_backAmount 15 = .ok (.iload_n 1, 1) := by decide +kernel
theorem dX1_backAmount_16 : decode cX1_backAmount 16 = .ok (.iaload, 1) := by decide +kernel
theorem dX1_backAmount_17 : decode cX1_backAmount 17 = .ok (.invokestatic 211, 3) := by decide +kernel
theorem dX1_backAmount_20 : decode cX1_backAmount 20 = .ok (.aload_n 0, 1) := by decide +kernel
theorem dX1_backAmount_21 : decode cX1_backAmount 21 = .ok (.getfield 10, 3) := by decide +kernel
theorem dX1_backAmount_24 : decode cX1_backAmount 24 = .ok (.getfield 123, 3) := by decide +kernel
theorem dX1_backAmount_27 : decode cX1_backAmount 27 = .ok (.iload_n 1, 1) := by decide +kernel
theorem dX1_backAmount_28 : decode cX1_backAmount 28 = .ok (.iaload, 1) := by decide +kernel
theorem dX1_backAmount_29 : decode cX1_backAmount 29 = .ok (.imul, 1) := by decide +kernel
theorem dX1_backAmount_30 : decode cX1_backAmount 30 = .ok (.goto 4, 3) := by decide +kernel
theorem dX1_backAmount_33 : decode cX1_backAmount 33 = .ok (.iconst 0, 1) := by decide +kernel
theorem dX1_backAmount_34 : decode cX1_backAmount 34 = .ok (.ireturn, 1) := by decide +kernel
set_option maxRecDepth 20000 in
theorem ggX1_sumOfBillAmounts_X1_billAmount : GoodIn wsX1_sumOfBillAmounts wsX1_billAmount := goodIn_r _ [5, 6, 7, 8, 9, 10, 11, 4, 12, 13, 14, 15, 16, 17, 18, 19, 20, 21, 22, 23, 24, 25, 26, 27, 28, 29, 30, 31, 32, 33, 34, 35, 36, 37, 38, 39] (by decide +kernel) (by decide +kernel)
set_option maxRecDepth 20000 in
theorem gX1_sumOfBillAmounts_X1_billAmount : GoodIn wsX1_sumOfBillAmounts (wsV RX1 171 RX1 yX1_billAmount wsX1_billAmount) := goodIn_app (goodIn_of _ (by decide +kernel)) ggX1_sumOfBillAmounts_X1_billAmount
theorem dX1_sumOfBillAmounts_0 : decode cX1_sumOfBillAmounts 0 = .ok (.iconst 0, 1) := by decide +kernel
theorem dX1_sumOfBillAmounts_1 : decode cX1_sumOfBillAmounts 1 = .ok (.istore_n 1, 1) := by decide +kernel
theorem dX1_sumOfBillAmounts_2 : decode cX1_sumOfBillAmounts 2 = .ok (.iconst 0, 1) := by decide +kernel
theorem dX1_sumOfBillAmounts_3 : decode cX1_sumOfBillAmounts 3 = .ok (.istore_n 2, 1) := by decide +kernel
theorem dX1_sumOfBillAmounts_4 : decode cX1_sumOfBillAmounts 4 = .ok (.iload_n 2, 1) := by decide +kernel
theorem dX1_sumOfBillAmounts_5 : decode cX1_sumOfBillAmounts 5 = .ok (.bipush 8, 2) := by decide +kernel
theorem dX1_sumOfBillAmounts_7 : decode cX1_sumOfBillAmounts 7 = .ok (.if_icmp .ge 17, 3) := by decide +kernel
theorem dX1_sumOfBillAmounts_10 : decode cX1_sumOfBillAmounts 10 = .ok (.iload_n 1, 1) := by decide +kernel
theorem dX1_sumOfBillAmounts_11 : decode cX1_sumOfBillAmounts 11 = .ok (.aload_n 0, 1) := by decide +kernel
theorem dX1_sumOfBillAmounts_12 : decode cX1_sumOfBillAmounts 12 = .ok (.iload_n 2, 1) := by decide +kernel
theorem dX1_sumOfBillAmounts_13 : decode cX1_sumOfBillAmounts 13 = .ok (.invokevirtual 171, 3) := by decide +kernel
theorem dX1_sumOfBillAmounts_16 : decode cX1_sumOfBillAmounts 16 = .ok (.iadd, 1) := by decide +kernel
theorem dX1_sumOfBillAmounts_17 : decode cX1_sumOfBillAmounts 17 = .ok (.istore_n 1, 1) := by decide +kernel
theorem dX1_sumOfBillAmounts_18 : decode cX1_sumOfBillAmounts 18 = .ok (.iinc 2 1, 3) := by decide +kernel
theorem dX1_sumOfBillAmounts_21 : decode cX1_sumOfBillAmounts 21 = .ok (.goto (-17), 3) := by decide +kernel
theorem dX1_sumOfBillAmounts_24 : decode cX1_sumOfBillAmounts 24 = .ok (.iload_n 1, 1) := by decide +kernel
theorem dX1_sumOfBillAmounts_25 : decode cX1_sumOfBillAmounts 25 = .ok (.ireturn, 1) := by decide +kernel
set_option maxRecDepth 20000 in
theorem ggX1_sumOfBackAmounts_X1_backAmount : GoodIn wsX1_sumOfBackAmounts wsX1_backAmount := goodIn_r _ [5, 6, 7, 8, 9, 10, 11, 4, 12, 13, 14, 15, 16, 17, 18, 19, 20, 21, 22, 23, 24, 25, 26, 27, 28, 29, 30, 31, 32, 33, 34, 35, 36, 37, 38, 39] (by decide +kernel) (by decide +kernel)
set_option maxRecDepth 20000 in
theorem gX1_sumOfBackAmounts_X1_backAmount : GoodIn wsX1_sumOfBackAmounts (wsV RX1 135 RX1 yX1_backAmount wsX1_backAmount) := goodIn_app (goodIn_of _ (by decide +kernel)) ggX1_sumOfBackAmounts_X1_backAmount
theorem dX1_sumOfBackAmounts_0 : decode cX1_sumOfBackAmounts 0 = .ok (.iconst 0, 1) := by decide +kernel
theorem dX1_sumOfBackAmounts_1 : decode cX1_sumOfBackAmounts 1 = .ok (.istore_n 1, 1) := by decide +kernel
theorem dX1_sumOfBackAmounts_2 : decode cX1_sumOfBackAmounts 2 = .ok (.iconst 0, 1) := by decide +kernel
theorem dX1_sumOfBackAmounts_3 : decode cX1_sumOfBackAmounts 3 = .ok (.istore_n 2, 1) := by decide +kernel
theorem dX1_sumOfBackAmounts_4 : decode cX1_sumOfBackAmounts 4 = .ok (.iload_n 2, 1) := by decide +kernel
theorem dX1_sumOfBackAmounts_5 : decode cX1_sumOfBackAmounts 5 = .ok (.bipush 8, 2) := by decide +kernel
theorem dX1_sumOfBackAmounts_7 : decode cX1_sumOfBackAmounts 7 = .ok (.if_icmp .ge 17, 3) := by decide +kernel
theorem dX1_sumOfBackAmounts_10 : decode cX1_sumOfBackAmounts 10 = .ok (.iload_n 1, 1) := by decide +kernel
theorem dX1_sumOfBackAmounts_11 : decode cX1_sumOfBackAmounts 11 = .ok (.aload_n 0, 1) := by decide +kernel
theorem dX1_sumOfBackAmounts_12 : decode cX1_sumOfBackAmounts 12 = .ok (.iload_n 2, 1) := by decide +kernel
theorem dX1_sumOfBackAmounts_13 : decode cX1_sumOfBackAmounts 13 = .ok (.invokevirtual 135, 3) := by decide +kernel
theorem dX1_sumOfBackAmounts_16 : decode cX1_sumOfBackAmounts 16 = .ok (.iadd, 1) := by decide +kernel
theorem dX1_sumOfBackAmounts_17 : decode cX1_sumOfBackAmounts 17 = .ok (.istore_n 1, 1) := by decide +kernel
theorem dX1_sumOfBackAmounts_18 : decode cX1_sumOfBackAmounts 18 = .ok (.iinc 2 1, 3) := by decide +kernel
theorem dX1_sumOfBackAmounts_21 : decode cX1_sumOfBackAmounts 21 = .ok (.goto (-17), 3) := by decide +kernel
theorem dX1_sumOfBackAmounts_24 : decode cX1_sumOfBackAmounts 24 = .ok (.iload_n 1, 1) := by decide +kernel
theorem dX1_sumOfBackAmounts_25 : decode cX1_sumOfBackAmounts 25 = .ok (.ireturn, 1) := by decide +kernel
theorem dX1_orZero_0 : decode cX1_orZero 0 = .ok (.iload_n 0, 1) := by decide +kernel
theorem dX1_orZero_1 : decode cX1_orZero 1 = .ok (.ldc 78, 2) := by decide +kernel
theorem dX1_orZero_3 : decode cX1_orZero 3 = .ok (.if_icmp .ne 7, 3) := by decide +kernel
theorem dX1_orZero_6 : decode cX1_orZero 6 = .ok (.iconst 0, 1) := by decide +kernel
theorem dX1_orZero_7 : decode cX1_orZero 7 = .ok (.goto 4, 3) := by decide +kernel
theorem dX1_orZero_10 : decode cX1_orZero 10 = .ok (.iload_n 0, 1) := by decide +kernel
theorem dX1_orZero_11 : decode cX1_orZero 11 = .ok (.ireturn, 1) := by decide +kernel
set_option maxRecDepth 20000 in
theorem ggX1_remember_X1_slotAfter : GoodIn wsX1_remember wsX1_slotAfter := goodIn_r _ [9, 2, 10, 11, 12, 13, 44, 45, 46, 47, 48, 49, 50] (by decide +kernel) (by decide +kernel)
set_option maxRecDepth 20000 in
theorem gX1_remember_X1_slotAfter : GoodIn wsX1_remember (wsV RX1 138 RX1 yX1_slotAfter wsX1_slotAfter) := goodIn_app (goodIn_of _ (by decide +kernel)) ggX1_remember_X1_slotAfter
set_option maxRecDepth 20000 in
theorem ggX1_remember_X0_copyFrom : GoodIn wsX1_remember wsX0_copyFrom := goodIn_r _ [18, 19, 20, 21, 22, 23, 24, 25, 26, 27, 28, 29, 30, 31, 32, 33, 34, 8, 35, 36, 37, 38, 39, 40, 41, 42, 43, 51, 52, 53, 54, 55, 56, 57, 58, 59, 60, 61, 62, 63, 64, 65] (by decide +kernel) (by decide +kernel)
set_option maxRecDepth 20000 in
theorem gX1_remember_X0_copyFrom : GoodIn wsX1_remember (wsV RX1 141 RX0 yX0_copyFrom wsX0_copyFrom) := goodIn_app (goodIn_of _ (by decide +kernel)) ggX1_remember_X0_copyFrom
theorem dX1_remember_0 : decode cX1_remember 0 = .ok (.aload_n 0, 1) := by decide +kernel
theorem dX1_remember_1 : decode cX1_remember 1 = .ok (.getfield 24, 3) := by decide +kernel
theorem dX1_remember_4 : decode cX1_remember 4 = .ok (.iconst 5, 1) := by decide +kernel
theorem dX1_remember_5 : decode cX1_remember 5 = .ok (.if_icmp .ne 22, 3) := by decide +kernel
theorem dX1_remember_8 : decode cX1_remember 8 = .ok (.aload_n 0, 1) := by decide +kernel
theorem dX1_remember_9 : decode cX1_remember 9 = .ok (.aload_n 0, 1) := by decide +kernel
theorem dX1_remember_10 : decode cX1_remember 10 = .ok (.iconst 1, 1) := by decide +kernel
theorem dX1_remember_11 : decode cX1_remember 11 = .ok (.invokevirtual 138, 3) := by decide +kernel
theorem dX1_remember_14 : decode cX1_remember 14 = .ok (.putfield 20, 3) := by decide +kernel
theorem dX1_remember_17 : decode cX1_remember 17 = .ok (.aload_n 0, 1) := by decide +kernel
theorem dX1_remember_18 : decode cX1_remember 18 = .ok (.dup, 1) := by decide +kernel
theorem dX1_remember_19 : decode cX1_remember 19 = .ok (.getfield 24, 3) := by decide +kernel
theorem dX1_remember_22 : decode cX1_remember 22 = .ok (.iconst 1, 1) := by decide +kernel
theorem dX1_remember_23 : decode cX1_remember 23 = .ok (.isub, 1) := by decide +kernel
theorem dX1_remember_24 : decode cX1_remember 24 = .ok (.putfield 24, 3) := by decide +kernel
theorem dX1_remember_27 : decode cX1_remember 27 = .ok (.aload_n 0, 1) := by decide +kernel
theorem dX1_remember_28 : decode cX1_remember 28 = .ok (.getfield 16, 3) := by decide +kernel
theorem dX1_remember_31 : decode cX1_remember 31 = .ok (.aload_n 0, 1) := by decide +kernel
theorem dX1_remember_32 : decode cX1_remember 32 = .ok (.aload_n 0, 1) := by decide +kernel
theorem dX1_remember_33 : decode cX1_remember 33 = .ok (.getfield 24, 3) := by decide +kernel
theorem dX1_remember_36 : decode cX1_remember 36 = .ok (.invokevirtual 138, 3) := by decide +kernel
theorem dX1_remember_39 : decode cX1_remember 39 = .ok (.aaload, 1) := by decide +kernel
theorem dX1_remember_40 : decode cX1_remember 40 = .ok (.astore_n 1, 1) := by decide +kernel
theorem dX1_remember_41 : decode cX1_remember 41 = .ok (.aload_n 1, 1) := by decide +kernel
theorem dX1_remember_42 : decode cX1_remember 42 = .ok (.ifnull 11, 3) := by decide +kernel
theorem dX1_remember_45 : decode cX1_remember 45 = .ok (.aload_n 1, 1) := by decide +kernel
theorem dX1_remember_46 : decode cX1_remember 46 = .ok (.aload_n 0, 1) := by decide +kernel
theorem dX1_remember_47 : decode cX1_remember 47 = .ok (.getfield 10, 3) := by decide +kernel
theorem dX1_remember_50 : decode cX1_remember 50 = .ok (.invokevirtual 141, 3) := by decide +kernel
theorem dX1_remember_53 : decode cX1_remember 53 = .ok (.aload_n 0, 1) := by decide +kernel
theorem dX1_remember_54 : decode cX1_remember 54 = .ok (.dup, 1) := by decide +kernel
theorem dX1_remember_55 : decode cX1_remember 55 = .ok (.getfield 24, 3) := by decide +kernel
theorem dX1_remember_58 : decode cX1_remember 58 = .ok (.iconst 1, 1) := by decide +kernel
theorem dX1_remember_59 : decode cX1_remember 59 = .ok (.iadd, 1) := by decide +kernel
theorem dX1_remember_60 : decode cX1_remember 60 = .ok (.putfield 24, 3) := by decide +kernel
theorem dX1_remember_63 : decode cX1_remember 63 = .ok (.return_, 1) := by decide +kernel
set_option maxRecDepth 20000 in
theorem ggX1_slotAfter_J9_floorMod_7cf53 : GoodIn wsX1_slotAfter wsJ9_floorMod_7cf53 := goodIn_r _ [5] (by decide +kernel) (by decide +kernel)
set_option maxRecDepth 20000 in
theorem gX1_slotAfter_J9_floorMod_7cf53 : GoodIn wsX1_slotAfter (va_wsS RX1 214 yJ9_floorMod_7cf53 wsJ9_floorMod_7cf53) := goodIn_app (goodIn_of _ (by decide +kernel)) ggX1_slotAfter_J9_floorMod_7cf53
theorem dX1_slotAfter_0 : decode cX1_slotAfter 0 = .ok (.aload_n 0, 1) := by decide +kernel
theorem dX1_slotAfter_1 : decode cX1_slotAfter 1 = .ok (.getfield 20, 3) := by decide +kernel
theorem dX1_slotAfter_4 : decode cX1_slotAfter 4 = .ok (.iload_n 1, 1) := by decide +kernel
theorem dX1_slotAfter_5 : decode cX1_slotAfter 5 = .ok (.iadd, 1) := by decide +kernel
theorem dX1_slotAfter_6 : decode cX1_slotAfter 6 = .ok (.iconst 5, 1) := by decide +kernel
theorem dX1_slotAfter_7 : decode cX1_slotAfter 7 = .ok (.invokestatic 214, 3) := by decide +kernel
theorem dX1_slotAfter_10 : decode cX1_slotAfter 10 = .ok (.ireturn, 1) := by decide +kernel
theorem dX1_copyRow_0 : decode cX1_copyRow 0 = .ok (.aload_n 0, 1) := by decide +kernel
theorem dX1_copyRow_1 : decode cX1_copyRow 1 = .ok (.iconst 0, 1) := by decide +kernel
theorem dX1_copyRow_2 : decode cX1_copyRow 2 = .ok (.aload_n 1, 1) := by decide +kernel
theorem dX1_copyRow_3 : decode cX1_copyRow 3 = .ok (.iconst 0, 1) := by decide +kernel
theorem dX1_copyRow_4 : decode cX1_copyRow 4 = .ok (.aload_n 0, 1) := by decide +kernel
theorem dX1_copyRow_5 : decode cX1_copyRow 5 = .ok (.arraylength, 1) := by decide +kernel
theorem dX1_copyRow_6 : decode cX1_copyRow 6 = .ok (.aload_n 1, 1) := by decide +kernel
theorem dX1_copyRow_7 : decode cX1_copyRow 7 = .ok (.arraylength, 1) := by decide +kernel
theorem dX1_copyRow_8 : decode cX1_copyRow 8 = .ok (.invokestatic 205, 3) := by decide +kernel
theorem dX1_copyRow_11 : decode cX1_copyRow 11 = .ok (.invokestatic 217, 3) := by decide +kernel
theorem dX1_copyRow_14 : decode cX1_copyRow 14 = .ok (.return_, 1) := by decide +kernel
theorem dX1_fillRow_0 : decode cX1_fillRow 0 = .ok (.iconst 0, 1) := by decide +kernel
theorem dX1_fillRow_1 : decode cX1_fillRow 1 = .ok (.istore_n 2, 1) := by decide +kernel
theorem dX1_fillRow_2 : decode cX1_fillRow 2 = .ok (.iload_n 2, 1) := by decide +kernel
theorem dX1_fillRow_3 : decode cX1_fillRow 3 = .ok (.aload_n 0, 1) := by decide +kernel
theorem dX1_fillRow_4 : decode cX1_fillRow 4 = .ok (.arraylength, 1) := by decide +kernel
theorem dX1_fillRow_5 : decode cX1_fillRow 5 = .ok (.if_icmp .ge 13, 3) := by decide +kernel
theorem dX1_fillRow_8 : decode cX1_fillRow 8 = .ok (.aload_n 0, 1) := by decide +kernel
theorem dX1_fillRow_9 : decode cX1_fillRow 9 = .ok (.iload_n 2, 1) := by decide +kernel
theorem dX1_fillRow_10 : decode cX1_fillRow 10 = .ok (.iload_n 1, 1) := by decide +kernel
theorem dX1_fillRow_11 : decode cX1_fillRow 11 = .ok (.iastore, 1) := by decide +kernel
theorem dX1_fillRow_12 : decode cX1_fillRow 12 = .ok (.iinc 2 1, 3) := by decide +kernel
theorem dX1_fillRow_15 : decode cX1_fillRow 15 = .ok (.goto (-13), 3) := by decide +kernel
theorem dX1_fillRow_18 : decode cX1_fillRow 18 = .ok (.return_, 1) := by decide +kernel
theorem dX1_sumOf_0 : decode cX1_sumOf 0 = .ok (.iconst 0, 1) := by decide +kernel
theorem dX1_sumOf_1 : decode cX1_sumOf 1 = .ok (.istore_n 1, 1) := by decide +kernel
theorem dX1_sumOf_2 : decode cX1_sumOf 2 = .ok (.iconst 0, 1) := by decide +kernel
theorem dX1_sumOf_3 : decode cX1_sumOf 3 = .ok (.istore_n 2, 1) := by decide +kernel
theorem dX1_sumOf_4 : decode cX1_sumOf 4 = .ok (.iload_n 2, 1) := by decide +kernel
theorem dX1_sumOf_5 : decode cX1_sumOf 5 = .ok (.aload_n 0, 1) := by decide +kernel
theorem dX1_sumOf_6 : decode cX1_sumOf 6 = .ok (.arraylength, 1) := by decide +kernel
theorem dX1_sumOf_7 : decode cX1_sumOf 7 = .ok (.if_icmp .ge 15, 3) := by decide +kernel
theorem dX1_sumOf_10 : decode cX1_sumOf 10 = .ok (.iload_n 1, 1) := by decide +kernel
theorem dX1_sumOf_11 : decode cX1_sumOf 11 = .ok (.aload_n 0, 1) := by decide +kernel
theorem dX1_sumOf_12 : decode cX1_sumOf 12 = .ok (.iload_n 2, 1) := by decide +kernel
theorem dX1_sumOf_13 : decode cX1_sumOf 13 = .ok (.iaload, 1) := by decide +kernel
theorem dX1_sumOf_14 : decode cX1_sumOf 14 = .ok (.iadd, 1) := by decide +kernel
theorem dX1_sumOf_15 : decode cX1_sumOf 15 = .ok (.istore_n 1, 1) := by decide +kernel
theorem dX1_sumOf_16 : decode cX1_sumOf 16 = .ok (.iinc 2 1, 3) := by decide +kernel
theorem dX1_sumOf_19 : decode cX1_sumOf 19 = .ok (.goto (-15), 3) := by decide +kernel
theorem dX1_sumOf_22 : decode cX1_sumOf 22 = .ok (.iload_n 1, 1) := by decide +kernel
theorem dX1_sumOf_23 : decode cX1_sumOf 23 = .ok (.ireturn, 1) := by decide +kernel
theorem dX2_init_0 : decode cX2_init 0 = .ok (.aload_n 0, 1) := by decide +kernel
theorem dX2_init_1 : decode cX2_init 1 = .ok (.invokespecial 1, 3) := by decide +kernel
theorem dX2_init_4 : decode cX2_init 4 = .ok (.aload_n 0, 1) := by decide +kernel
theorem dX2_init_5 : decode cX2_init 5 = .ok (.sipush 182, 3) := by decide +kernel
theorem dX2_init_8 : decode cX2_init 8 = .ok (.newarray .int, 2) := by decide +kernel
theorem dX2_init_10 : decode cX2_init 10 = .ok (.putfield 7, 3) := by decide +kernel
theorem dX2_init_13 : decode cX2_init 13 = .ok (.aload_n 0, 1) := by decide +kernel
theorem dX2_init_14 : decode cX2_init 14 = .ok (.sipush 910, 3) := by decide +kernel
theorem dX2_init_17 : decode cX2_init 17 = .ok (.newarray .int, 2) := by decide +kernel
theorem dX2_init_19 : decode cX2_init 19 = .ok (.putfield 13, 3) := by decide +kernel
theorem dX2_init_22 : decode cX2_init 22 = .ok (.aload_n 0, 1) := by decide +kernel
theorem dX2_init_23 : decode cX2_init 23 = .ok (.bipush 8, 2) := by decide +kernel
theorem dX2_init_25 : decode cX2_init 25 = .ok (.newarray .int, 2) := by decide +kernel
theorem dX2_init_27 : decode cX2_init 27 = .ok (.putfield 16, 3) := by decide +kernel
theorem dX2_init_30 : decode cX2_init 30 = .ok (.aload_n 0, 1) := by decide +kernel
theorem dX2_init_31 : decode cX2_init 31 = .ok (.getfield 7, 3) := by decide +kernel
theorem dX2_init_34 : decode cX2_init 34 = .ok (.iconst 2, 1) := by decide +kernel
theorem dX2_init_35 : decode cX2_init 35 = .ok (.bipush 10, 2) := by decide +kernel
theorem dX2_init_37 : decode cX2_init 37 = .ok (.iastore, 1) := by decide +kernel
theorem dX2_init_38 : decode cX2_init 38 = .ok (.return_, 1) := by decide +kernel
theorem dX2_in_0 : decode cX2_in 0 = .ok (.iload_n 0, 1) := by decide +kernel
theorem dX2_in_1 : decode cX2_in 1 = .ok (.iload_n 1, 1) := by decide +kernel
theorem dX2_in_2 : decode cX2_in 2 = .ok (.if_icmp .lt 12, 3) := by decide +kernel
theorem dX2_in_5 : decode cX2_in 5 = .ok (.iload_n 0, 1) := by decide +kernel
theorem dX2_in_6 : decode cX2_in 6 = .ok (.iload_n 2, 1) := by decide +kernel
theorem dX2_in_7 : decode cX2_in 7 = .ok (.if_icmp .gt 7, 3) := by decide +kernel
theorem dX2_in_10 : decode cX2_in 10 = .ok (.iconst 1, 1) := by decide +kernel
theorem dX2_in_11 : decode cX2_in 11 = .ok (.goto 4, 3) := by decide +kernel
theorem dX2_in_14 : decode cX2_in 14 = .ok (.iconst 0, 1) := by decide +kernel
theorem dX2_in_15 : decode cX2_in 15 = .ok (.ireturn, 1) := by decide +kernel
theorem dX2_acts_0 : decode cX2_acts 0 = .ok (.aload_n 0, 1) := by decide +kernel
theorem dX2_acts_1 : decode cX2_acts 1 = .ok (.getfield 19, 3) := by decide +kernel
theorem dX2_acts_4 : decode cX2_acts 4 = .ok (.iconst 5, 1) := by decide +kernel
theorem dX2_acts_5 : decode cX2_acts 5 = .ok (.if_icmp .ne 44, 3) := by decide +kernel
theorem dX2_acts_8 : decode cX2_acts 8 = .ok (.iconst 0, 1) := by decide +kernel
theorem dX2_acts_9 : decode cX2_acts 9 = .ok (.istore_n 1, 1) := by decide +kernel
theorem dX2_acts_10 : decode cX2_acts 10 = .ok (.iload_n 1, 1) := by decide +kernel
theorem dX2_acts_11 : decode cX2_acts 11 = .ok (.sipush 728, 3) := by decide +kernel
theorem dX2_acts_14 : decode cX2_acts 14 = .ok (.if_icmp .ge 25, 3) := by decide +kernel
theorem dX2_acts_17 : decode cX2_acts 17 = .ok (.aload_n 0, 1) := by decide +kernel
theorem dX2_acts_18 : decode cX2_acts 18 = .ok (.getfield 13, 3) := by decide +kernel
theorem dX2_acts_21 : decode cX2_acts 21 = .ok (.iload_n 1, 1) := by decide +kernel
theorem dX2_acts_22 : decode cX2_acts 22 = .ok (.aload_n 0, 1) := by decide +kernel
theorem dX2_acts_23 : decode cX2_acts 23 = .ok (.getfield 13, 3) := by decide +kernel
theorem dX2_acts_26 : decode cX2_acts 26 = .ok (.iload_n 1, 1) := by decide +kernel
theorem dX2_acts_27 : decode cX2_acts 27 = .ok (.sipush 182, 3) := by decide +kernel
theorem dX2_acts_30 : decode cX2_acts 30 = .ok (.iadd, 1) := by decide +kernel
theorem dX2_acts_31 : decode cX2_acts 31 = .ok (.iaload, 1) := by decide +kernel
theorem dX2_acts_32 : decode cX2_acts 32 = .ok (.iastore, 1) := by decide +kernel
theorem dX2_acts_33 : decode cX2_acts 33 = .ok (.iinc 1 1, 3) := by decide +kernel
theorem dX2_acts_36 : decode cX2_acts 36 = .ok (.goto (-26), 3) := by decide +kernel
theorem dX2_acts_39 : decode cX2_acts 39 = .ok (.aload_n 0, 1) := by decide +kernel
theorem dX2_acts_40 : decode cX2_acts 40 = .ok (.dup, 1) := by decide +kernel
theorem dX2_acts_41 : decode cX2_acts 41 = .ok (.getfield 19, 3) := by decide +kernel
theorem dX2_acts_44 : decode cX2_acts 44 = .ok (.iconst 1, 1) := by decide +kernel
theorem dX2_acts_45 : decode cX2_acts 45 = .ok (.isub, 1) := by decide +kernel
theorem dX2_acts_46 : decode cX2_acts 46 = .ok (.putfield 19, 3) := by decide +kernel
theorem dX2_acts_49 : decode cX2_acts 49 = .ok (.iconst 0, 1) := by decide +kernel
theorem dX2_acts_50 : decode cX2_acts 50 = .ok (.istore_n 1, 1) := by decide +kernel
theorem dX2_acts_51 : decode cX2_acts 51 = .ok (.iload_n 1, 1) := by decide +kernel
theorem dX2_acts_52 : decode cX2_acts 52 = .ok (.sipush 182, 3) := by decide +kernel
theorem dX2_acts_55 : decode cX2_acts 55 = .ok (.if_icmp .ge 30, 3) := by decide +kernel
theorem dX2_acts_58 : decode cX2_acts 58 = .ok (.aload_n 0, 1) := by decide +kernel
theorem dX2_acts_59 : decode cX2_acts 59 = .ok (.getfield 13, 3) := by decide +kernel
theorem dX2_acts_62 : decode cX2_acts 62 = .ok (.sipush 182, 3) := by decide +kernel
theorem dX2_acts_65 : decode cX2_acts 65 = .ok (.aload_n 0, 1) := by decide +kernel
theorem dX2_acts_66 : decode cX2_acts 66 = .ok (.getfield 19, 3) := by decide +kernel
theorem dX2_acts_69 : decode cX2_acts 69 = .ok (.imul, 1) := by decide +kernel
theorem dX2_acts_70 : decode cX2_acts 70 = .ok (.iload_n 1, 1) := by decide +kernel
theorem dX2_acts_71 : decode cX2_acts 71 = .ok (.iadd, 1) := by decide +kernel
theorem dX2_acts_72 : decode cX2_acts 72 = .ok (.aload_n 0, 1) := by decide +kernel
theorem dX2_acts_73 : decode cX2_acts 73 = .ok (.getfield 7, 3) := by decide +kernel
theorem dX2_acts_76 : decode cX2_acts 76 = .ok (.iload_n 1, 1) := by decide +kernel
theorem dX2_acts_77 : decode cX2_acts 77 = .ok (.iaload, 1) := by decide +kernel
theorem dX2_acts_78 : decode cX2_acts 78 = .ok (.iastore, 1) := by decide +kernel
theorem dX2_acts_79 : decode cX2_acts 79 = .ok (.iinc 1 1, 3) := by decide +kernel
theorem dX2_acts_82 : decode cX2_acts 82 = .ok (.goto (-31), 3) := by decide +kernel
theorem dX2_acts_85 : decode cX2_acts 85 = .ok (.aload_n 0, 1) := by decide +kernel
theorem dX2_acts_86 : decode cX2_acts 86 = .ok (.dup, 1) := by decide +kernel
theorem dX2_acts_87 : decode cX2_acts 87 = .ok (.getfield 19, 3) := by decide +kernel
theorem dX2_acts_90 : decode cX2_acts 90 = .ok (.iconst 1, 1) := by decide +kernel
theorem dX2_acts_91 : decode cX2_acts 91 = .ok (.iadd, 1) := by decide +kernel
theorem dX2_acts_92 : decode cX2_acts 92 = .ok (.putfield 19, 3) := by decide +kernel
theorem dX2_acts_95 : decode cX2_acts 95 = .ok (.return_, 1) := by decide +kernel
set_option maxRecDepth 20000 in
theorem ggX2_isCell_X2_in : GoodIn wsX2_isCell wsX2_in := goodIn_r _ [4] (by decide +kernel) (by decide +kernel)
set_option maxRecDepth 20000 in
theorem gX2_isCell_X2_in : GoodIn wsX2_isCell (va_wsS RX2 23 yX2_in wsX2_in) := goodIn_app (goodIn_of _ (by decide +kernel)) ggX2_isCell_X2_in
theorem dX2_isCell_0 : decode cX2_isCell 0 = .ok (.iload_n 0, 1) := by decide +kernel
theorem dX2_isCell_1 : decode cX2_isCell 1 = .ok (.iconst 0, 1) := by decide +kernel
theorem dX2_isCell_2 : decode cX2_isCell 2 = .ok (.bipush 23, 2) := by decide +kernel
theorem dX2_isCell_4 : decode cX2_isCell 4 = .ok (.invokestatic 23, 3) := by decide +kernel
theorem dX2_isCell_7 : decode cX2_isCell 7 = .ok (.ireturn, 1) := by decide +kernel
theorem dX2_isWalker_0 : decode cX2_isWalker 0 = .ok (.iload_n 1, 1) := by decide +kernel
theorem dX2_isWalker_1 : decode cX2_isWalker 1 = .ok (.ifCond .lt 17, 3) := by decide +kernel
theorem dX2_isWalker_4 : decode cX2_isWalker 4 = .ok (.iload_n 1, 1) := by decide +kernel
theorem dX2_isWalker_5 : decode cX2_isWalker 5 = .ok (.aload_n 0, 1) := by decide +kernel
theorem dX2_isWalker_6 : decode cX2_isWalker 6 = .ok (.getfield 7, 3) := by decide +kernel
theorem dX2_isWalker_9 : decode cX2_isWalker 9 = .ok (.iconst 1, 1) := by decide +kernel
theorem dX2_isWalker_10 : decode cX2_isWalker 10 = .ok (.iaload, 1) := by decide +kernel
theorem dX2_isWalker_11 : decode cX2_isWalker 11 = .ok (.if_icmp .ge 7, 3) := by decide +kernel
theorem dX2_isWalker_14 : decode cX2_isWalker 14 = .ok (.iconst 1, 1) := by decide +kernel
theorem dX2_isWalker_15 : decode cX2_isWalker 15 = .ok (.goto 4, 3) := by decide +kernel
theorem dX2_isWalker_18 : decode cX2_isWalker 18 = .ok (.iconst 0, 1) := by decide +kernel
theorem dX2_isWalker_19 : decode cX2_isWalker 19 = .ok (.ireturn, 1) := by decide +kernel
theorem dX2_of_0 : decode cX2_of 0 = .ok (.aload_n 0, 1) := by decide +kernel
theorem dX2_of_1 : decode cX2_of 1 = .ok (.getfield 7, 3) := by decide +kernel
theorem dX2_of_4 : decode cX2_of 4 = .ok (.bipush 6, 2) := by decide +kernel
theorem dX2_of_6 : decode cX2_of 6 = .ok (.iconst 4, 1) := by decide +kernel
theorem dX2_of_7 : decode cX2_of 7 = .ok (.iload_n 1, 1) := by decide +kernel
theorem dX2_of_8 : decode cX2_of 8 = .ok (.imul, 1) := by decide +kernel
theorem dX2_of_9 : decode cX2_of 9 = .ok (.iadd, 1) := by decide +kernel
theorem dX2_of_10 : decode cX2_of 10 = .ok (.iload_n 2, 1) := by decide +kernel
theorem dX2_of_11 : decode cX2_of 11 = .ok (.iadd, 1) := by decide +kernel
theorem dX2_of_12 : decode cX2_of 12 = .ok (.iaload, 1) := by decide +kernel
theorem dX2_of_13 : decode cX2_of 13 = .ok (.ireturn, 1) := by decide +kernel
theorem dX2_ofWalker_0 : decode cX2_ofWalker 0 = .ok (.aload_n 0, 1) := by decide +kernel
theorem dX2_ofWalker_1 : decode cX2_ofWalker 1 = .ok (.getfield 7, 3) := by decide +kernel
theorem dX2_ofWalker_4 : decode cX2_ofWalker 4 = .ok (.bipush 102, 2) := by decide +kernel
theorem dX2_ofWalker_6 : decode cX2_ofWalker 6 = .ok (.bipush 10, 2) := by decide +kernel
theorem dX2_ofWalker_8 : decode cX2_ofWalker 8 = .ok (.iload_n 1, 1) := by decide +kernel
theorem dX2_ofWalker_9 : decode cX2_ofWalker 9 = .ok (.imul, 1) := by decide +kernel
theorem dX2_ofWalker_10 : decode cX2_ofWalker 10 = .ok (.iadd, 1) := by decide +kernel
theorem dX2_ofWalker_11 : decode cX2_ofWalker 11 = .ok (.iload_n 2, 1) := by decide +kernel
theorem dX2_ofWalker_12 : decode cX2_ofWalker 12 = .ok (.iadd, 1) := by decide +kernel
theorem dX2_ofWalker_13 : decode cX2_ofWalker 13 = .ok (.iaload, 1) := by decide +kernel
theorem dX2_ofWalker_14 : decode cX2_ofWalker 14 = .ok (.ireturn, 1) := by decide +kernel
set_option maxRecDepth 20000 in
theorem ggX2_isAboard_X2_ofWalker : GoodIn wsX2_isAboard wsX2_ofWalker := goodIn_r _ [6, 7, 8, 9, 10, 11, 12] (by decide +kernel) (by decide +kernel)
set_option maxRecDepth 20000 in
theorem gX2_isAboard_X2_ofWalker : GoodIn wsX2_isAboard (wsV RX2 27 RX2 yX2_ofWalker wsX2_ofWalker) := goodIn_app (goodIn_of _ (by decide +kernel)) ggX2_isAboard_X2_ofWalker
theorem dX2_isAboard_0 : decode cX2_isAboard 0 = .ok (.aload_n 0, 1) := by decide +kernel
theorem dX2_isAboard_1 : decode cX2_isAboard 1 = .ok (.iload_n 1, 1) := by decide +kernel
theorem dX2_isAboard_2 : decode cX2_isAboard 2 = .ok (.iconst 1, 1) := by decide +kernel
theorem dX2_isAboard_3 : decode cX2_isAboard 3 = .ok (.invokevirtual 27, 3) := by decide +kernel
theorem dX2_isAboard_6 : decode cX2_isAboard 6 = .ok (.ldc 31, 2) := by decide +kernel
theorem dX2_isAboard_8 : decode cX2_isAboard 8 = .ok (.if_icmp .eq 7, 3) := by decide +kernel
theorem dX2_isAboard_11 : decode cX2_isAboard 11 = .ok (.iconst 1, 1) := by decide +kernel
theorem dX2_isAboard_12 : decode cX2_isAboard 12 = .ok (.goto 4, 3) := by decide +kernel
theorem dX2_isAboard_15 : decode cX2_isAboard 15 = .ok (.iconst 0, 1) := by decide +kernel
theorem dX2_isAboard_16 : decode cX2_isAboard 16 = .ok (.ireturn, 1) := by decide +kernel
theorem dX2_areNeighbors_0 : decode cX2_areNeighbors 0 = .ok (.iload_n 0, 1) := by decide +kernel
theorem dX2_areNeighbors_1 : decode cX2_areNeighbors 1 = .ok (.iload_n 1, 1) := by decide +kernel
theorem dX2_areNeighbors_2 : decode cX2_areNeighbors 2 = .ok (.if_icmp .ge 9, 3) := by decide +kernel
theorem dX2_areNeighbors_5 : decode cX2_areNeighbors 5 = .ok (.iload_n 1, 1) := by decide +kernel
theorem dX2_areNeighbors_6 : decode cX2_areNeighbors 6 = .ok (.iload_n 0, 1) := by decide +kernel
theorem dX2_areNeighbors_7 : decode cX2_areNeighbors 7 = .ok (.isub, 1) := by decide +kernel
theorem dX2_areNeighbors_8 : decode cX2_areNeighbors 8 = .ok (.goto 6, 3) := by decide +kernel
theorem dX2_areNeighbors_11 : decode cX2_areNeighbors 11 = .ok (.iload_n 0, 1) := by decide +kernel
theorem dX2_areNeighbors_12 : decode cX2_areNeighbors 12 = .ok (.iload_n 1, 1) := by decide +kernel
theorem dX2_areNeighbors_13 : decode cX2_areNeighbors 13 = .ok (.isub, 1) := by decide +kernel
theorem dX2_areNeighbors_14 : decode cX2_areNeighbors 14 = .ok (.istore_n 2, 1) := by decide +kernel
theorem dX2_areNeighbors_15 : decode cX2_areNeighbors 15 = .ok (.iload_n 2, 1) := by decide +kernel
theorem dX2_areNeighbors_16 : decode cX2_areNeighbors 16 = .ok (.bipush 6, 2) := by decide +kernel
theorem dX2_areNeighbors_18 : decode cX2_areNeighbors 18 = .ok (.if_icmp .eq 19, 3) := by decide +kernel
theorem dX2_areNeighbors_21 : decode cX2_areNeighbors 21 = .ok (.iload_n 2, 1) := by decide +kernel
theorem dX2_areNeighbors_22 : decode cX2_areNeighbors 22 = .ok (.iconst 1, 1) := by decide +kernel
theorem dX2_areNeighbors_23 : decode cX2_areNeighbors 23 = .ok (.if_icmp .ne 18, 3) := by decide +kernel
theorem dX2_areNeighbors_26 : decode cX2_areNeighbors 26 = .ok (.iload_n 0, 1) := by decide +kernel
theorem dX2_areNeighbors_27 : decode cX2_areNeighbors 27 = .ok (.bipush 6, 2) := by decide +kernel
theorem dX2_areNeighbors_29 : decode cX2_areNeighbors 29 = .ok (.idiv, 1) := by decide +kernel
theorem dX2_areNeighbors_30 : decode cX2_areNeighbors 30 = .ok (.iload_n 1, 1) := by decide +kernel
theorem dX2_areNeighbors_31 : decode cX2_areNeighbors 31 = .ok (.bipush 6, 2) := by decide +kernel
theorem dX2_areNeighbors_33 : decode cX2_areNeighbors 33 = .ok (.idiv, 1) := by decide +kernel
theorem dX2_areNeighbors_34 : decode cX2_areNeighbors 34 = .ok (.if_icmp .ne 7, 3) := by decide +kernel
theorem dX2_areNeighbors_37 : decode cX2_areNeighbors 37 = .ok (.iconst 1, 1) := by decide +kernel
theorem dX2_areNeighbors_38 : decode cX2_areNeighbors 38 = .ok (.goto 4, 3) := by decide +kernel
theorem dX2_areNeighbors_41 : decode cX2_areNeighbors 41 = .ok (.iconst 0, 1) := by decide +kernel
theorem dX2_areNeighbors_42 : decode cX2_areNeighbors 42 = .ok (.ireturn, 1) := by decide +kernel
set_option maxRecDepth 20000 in
theorem ggX2_neighbors_X2_areNeighbors : GoodIn wsX2_neighbors wsX2_areNeighbors := goodIn_r _ [4] (by decide +kernel) (by decide +kernel)
set_option maxRecDepth 20000 in
theorem gX2_neighbors_X2_areNeighbors : GoodIn wsX2_neighbors (va_wsS RX2 32 yX2_areNeighbors wsX2_areNeighbors) := goodIn_app (goodIn_of _ (by decide +kernel)) ggX2_neighbors_X2_areNeighbors
theorem dX2_neighbors_0 : decode cX2_neighbors 0 = .ok (.iconst 0, 1) := by decide +kernel
theorem dX2_neighbors_1 : decode cX2_neighbors 1 = .ok (.istore_n 1, 1) := by decide +kernel
theorem dX2_neighbors_2 : decode cX2_neighbors 2 = .ok (.iconst 0, 1) := by decide +kernel
theorem dX2_neighbors_3 : decode cX2_neighbors 3 = .ok (.istore_n 2, 1) := by decide +kernel
theorem dX2_neighbors_4 : decode cX2_neighbors 4 = .ok (.iload_n 2, 1) := by decide +kernel
theorem dX2_neighbors_5 : decode cX2_neighbors 5 = .ok (.bipush 24, 2) := by decide +kernel
theorem dX2_neighbors_7 : decode cX2_neighbors 7 = .ok (.if_icmp .ge 25, 3) := by decide +kernel
theorem dX2_neighbors_10 : decode cX2_neighbors 10 = .ok (.iload_n 1, 1) := by decide +kernel
theorem dX2_neighbors_11 : decode cX2_neighbors 11 = .ok (.iload_n 0, 1) := by decide +kernel
theorem dX2_neighbors_12 : decode cX2_neighbors 12 = .ok (.iload_n 2, 1) := by decide +kernel
theorem dX2_neighbors_13 : decode cX2_neighbors 13 = .ok (.invokestatic 32, 3) := by decide +kernel
theorem dX2_neighbors_16 : decode cX2_neighbors 16 = .ok (.ifCond .eq 7, 3) := by decide +kernel
theorem dX2_neighbors_19 : decode cX2_neighbors 19 = .ok (.iconst 1, 1) := by decide +kernel
theorem dX2_neighbors_20 : decode cX2_neighbors 20 = .ok (.goto 4, 3) := by decide +kernel
theorem dX2_neighbors_23 : decode cX2_neighbors 23 = .ok (.iconst 0, 1) := by decide +kernel
theorem dX2_neighbors_24 : decode cX2_neighbors 24 = .ok (.iadd, 1) := by decide +kernel
theorem dX2_neighbors_25 : decode cX2_neighbors 25 = .ok (.istore_n 1, 1) := by decide +kernel
theorem dX2_neighbors_26 : decode cX2_neighbors 26 = .ok (.iinc 2 1, 3) := by decide +kernel
theorem dX2_neighbors_29 : decode cX2_neighbors 29 = .ok (.goto (-25), 3) := by decide +kernel
theorem dX2_neighbors_32 : decode cX2_neighbors 32 = .ok (.iload_n 1, 1) := by decide +kernel
theorem dX2_neighbors_33 : decode cX2_neighbors 33 = .ok (.ireturn, 1) := by decide +kernel
set_option maxRecDepth 20000 in
theorem ggX2_share_X2_neighbors : GoodIn wsX2_share wsX2_neighbors := goodIn_r _ [4, 5, 6, 3, 7] (by decide +kernel) (by decide +kernel)
set_option maxRecDepth 20000 in
theorem gX2_share_X2_neighbors : GoodIn wsX2_share (va_wsS RX2 36 yX2_neighbors wsX2_neighbors) := goodIn_app (goodIn_of _ (by decide +kernel)) ggX2_share_X2_neighbors
set_option maxRecDepth 20000 in
theorem ggX2_share_X2_areNeighbors : GoodIn wsX2_share wsX2_areNeighbors := goodIn_r _ [7] (by decide +kernel) (by decide +kernel)
set_option maxRecDepth 20000 in
theorem gX2_share_X2_areNeighbors : GoodIn wsX2_share (va_wsS RX2 32 yX2_areNeighbors wsX2_areNeighbors) := goodIn_app (goodIn_of _ (by decide +kernel)) ggX2_share_X2_areNeighbors
theorem dX2_share_0 : decode cX2_share 0 = .ok (.iload_n 1, 1) := by decide +kernel
theorem dX2_share_1 : decode cX2_share 1 = .ok (.iload_n 2, 1) := by decide +kernel
theorem dX2_share_2 : decode cX2_share 2 = .ok (.if_icmp .ne 17, 3) := by decide +kernel
theorem dX2_share_5 : decode cX2_share 5 = .ok (.iload_n 0, 1) := by decide +kernel
theorem dX2_share_6 : decode cX2_share 6 = .ok (.iload_n 1, 1) := by decide +kernel
theorem dX2_share_7 : decode cX2_share 7 = .ok (.invokestatic 36, 3) := by decide +kernel
theorem dX2_share_10 : decode cX2_share 10 = .ok (.iload_n 0, 1) := by decide +kernel
theorem dX2_share_11 : decode cX2_share 11 = .ok (.bipush 8, 2) := by decide +kernel
theorem dX2_share_13 : decode cX2_share 13 = .ok (.idiv, 1) := by decide +kernel
theorem dX2_share_14 : decode cX2_share 14 = .ok (.imul, 1) := by decide +kernel
theorem dX2_share_15 : decode cX2_share 15 = .ok (.isub, 1) := by decide +kernel
theorem dX2_share_16 : decode cX2_share 16 = .ok (.goto 19, 3) := by decide +kernel
theorem dX2_share_19 : decode cX2_share 19 = .ok (.iload_n 1, 1) := by decide +kernel
theorem dX2_share_20 : decode cX2_share 20 = .ok (.iload_n 2, 1) := by decide +kernel
theorem dX2_share_21 : decode cX2_share 21 = .ok (.invokestatic 32, 3) := by decide +kernel
theorem dX2_share_24 : decode cX2_share 24 = .ok (.ifCond .eq 10, 3) := by decide +kernel
theorem dX2_share_27 : decode cX2_share 27 = .ok (.iload_n 0, 1) := by decide +kernel
theorem dX2_share_28 : decode cX2_share 28 = .ok (.bipush 8, 2) := by decide +kernel
theorem dX2_share_30 : decode cX2_share 30 = .ok (.idiv, 1) := by decide +kernel
theorem dX2_share_31 : decode cX2_share 31 = .ok (.goto 4, 3) := by decide +kernel
theorem dX2_share_34 : decode cX2_share 34 = .ok (.iconst 0, 1) := by decide +kernel
theorem dX2_share_35 : decode cX2_share 35 = .ok (.ireturn, 1) := by decide +kernel
set_option maxRecDepth 20000 in
theorem ggX2_shares_X2_isAboard : GoodIn wsX2_shares wsX2_isAboard := goodIn_r _ [6, 7, 8, 9, 10, 5, 11, 1, 21, 22, 23, 24, 25] (by decide +kernel) (by decide +kernel)
set_option maxRecDepth 20000 in
theorem gX2_shares_X2_isAboard : GoodIn wsX2_shares (wsV RX2 40 RX2 yX2_isAboard wsX2_isAboard) := goodIn_app (goodIn_of _ (by decide +kernel)) ggX2_shares_X2_isAboard
set_option maxRecDepth 20000 in
theorem ggX2_shares_X2_ofWalker : GoodIn wsX2_shares wsX2_ofWalker := goodIn_r _ [11, 1, 21, 22, 23, 24, 25] (by decide +kernel) (by decide +kernel)
set_option maxRecDepth 20000 in
theorem gX2_shares_X2_ofWalker : GoodIn wsX2_shares (wsV RX2 27 RX2 yX2_ofWalker wsX2_ofWalker) := goodIn_app (goodIn_of _ (by decide +kernel)) ggX2_shares_X2_ofWalker
set_option maxRecDepth 20000 in
theorem ggX2_shares_X2_share : GoodIn wsX2_shares wsX2_share := goodIn_r _ [14, 15, 16, 5, 17, 18, 19, 20] (by decide +kernel) (by decide +kernel)
set_option maxRecDepth 20000 in
theorem gX2_shares_X2_share : GoodIn wsX2_shares (va_wsS RX2 44 yX2_share wsX2_share) := goodIn_app (goodIn_of _ (by decide +kernel)) ggX2_shares_X2_share
theorem dX2_shares_0 : decode cX2_shares 0 = .ok (.iconst 0, 1) := by decide +kernel
theorem dX2_shares_1 : decode cX2_shares 1 = .ok (.istore_n 2, 1) := by decide +kernel
theorem dX2_shares_2 : decode cX2_shares 2 = .ok (.iconst 0, 1) := by decide +kernel
theorem dX2_shares_3 : decode cX2_shares 3 = .ok (.istore_n 3, 1) := by decide +kernel
theorem dX2_shares_4 : decode cX2_shares 4 = .ok (.iload_n 3, 1) := by decide +kernel
theorem dX2_shares_5 : decode cX2_shares 5 = .ok (.aload_n 0, 1) := by decide +kernel
theorem dX2_shares_6 : decode cX2_shares 6 = .ok (.getfield 7, 3) := by decide +kernel
theorem dX2_shares_9 : decode cX2_shares 9 = .ok (.iconst 1, 1) := by decide +kernel
theorem dX2_shares_10 : decode cX2_shares 10 = .ok (.iaload, 1) := by decide +kernel
theorem dX2_shares_11 : decode cX2_shares 11 = .ok (.if_icmp .ge 40, 3) := by decide +kernel
theorem dX2_shares_14 : decode cX2_shares 14 = .ok (.iload_n 2, 1) := by decide +kernel
theorem dX2_shares_15 : decode cX2_shares 15 = .ok (.aload_n 0, 1) := by decide +kernel
theorem dX2_shares_16 : decode cX2_shares 16 = .ok (.iload_n 3, 1) := by decide +kernel
theorem dX2_shares_17 : decode cX2_shares 17 = .ok (.invokevirtual 40, 3) := by decide +kernel
theorem dX2_shares_20 : decode cX2_shares 20 = .ok (.ifCond .eq 22, 3) := by decide +kernel
theorem dX2_shares_23 : decode cX2_shares 23 = .ok (.aload_n 0, 1) := by decide +kernel
theorem dX2_shares_24 : decode cX2_shares 24 = .ok (.iload_n 3, 1) := by decide +kernel
theorem dX2_shares_25 : decode cX2_shares 25 = .ok (.iconst 0, 1) := by decide +kernel
theorem dX2_shares_26 : decode cX2_shares 26 = .ok (.invokevirtual 27, 3) := by decide +kernel
theorem dX2_shares_29 : decode cX2_shares 29 = .ok (.aload_n 0, 1) := by decide +kernel
theorem dX2_shares_30 : decode cX2_shares 30 = .ok (.iload_n 3, 1) := by decide +kernel
theorem dX2_shares_31 : decode cX2_shares 31 = .ok (.iconst 1, 1) := by decide +kernel
theorem dX2_shares_32 : decode cX2_shares 32 = .ok (.invokevirtual 27, 3) := by decide +kernel
theorem dX2_shares_35 : decode cX2_shares 35 = .ok (.iload_n 1, 1) := by decide +kernel
theorem dX2_shares_36 : decode cX2_shares 36 = .ok (.invokestatic 44, 3) := by decide +kernel
theorem dX2_shares_39 : decode cX2_shares 39 = .ok (.goto 4, 3) := by decide +kernel
theorem dX2_shares_42 : decode cX2_shares 42 = .ok (.iconst 0, 1) := by decide +kernel
theorem dX2_shares_43 : decode cX2_shares 43 = .ok (.iadd, 1) := by decide +kernel
theorem dX2_shares_44 : decode cX2_shares 44 = .ok (.istore_n 2, 1) := by decide +kernel
theorem dX2_shares_45 : decode cX2_shares 45 = .ok (.iinc 3 1, 3) := by decide +kernel
theorem dX2_shares_48 : decode cX2_shares 48 = .ok (.goto (-44), 3) := by decide +kernel
theorem dX2_shares_51 : decode cX2_shares 51 = .ok (.iload_n 2, 1) := by decide +kernel
theorem dX2_shares_52 : decode cX2_shares 52 = .ok (.ireturn, 1) := by decide +kernel
set_option maxRecDepth 20000 in
theorem ggX2_reading_X2_shares : GoodIn wsX2_reading wsX2_shares := goodIn_r _ [5, 6, 7, 8, 9, 4, 10, 11, 12, 13, 14, 15, 16, 17, 18, 19, 20, 21, 22, 23, 24, 29, 30, 31, 32, 33] (by decide +kernel) (by decide +kernel)
set_option maxRecDepth 20000 in
theorem gX2_reading_X2_shares : GoodIn wsX2_reading (wsV RX2 48 RX2 yX2_shares wsX2_shares) := goodIn_app (goodIn_of _ (by decide +kernel)) ggX2_reading_X2_shares
set_option maxRecDepth 20000 in
theorem ggX2_reading_X2_of : GoodIn wsX2_reading wsX2_of := goodIn_r _ [28, 6, 29, 30, 31, 32, 33] (by decide +kernel) (by decide +kernel)
set_option maxRecDepth 20000 in
theorem gX2_reading_X2_of : GoodIn wsX2_reading (wsV RX2 51 RX2 yX2_of wsX2_of) := goodIn_app (goodIn_of _ (by decide +kernel)) ggX2_reading_X2_of
theorem dX2_reading_0 : decode cX2_reading 0 = .ok (.aload_n 0, 1) := by decide +kernel
theorem dX2_reading_1 : decode cX2_reading 1 = .ok (.iload_n 1, 1) := by decide +kernel
theorem dX2_reading_2 : decode cX2_reading 2 = .ok (.invokevirtual 48, 3) := by decide +kernel
theorem dX2_reading_5 : decode cX2_reading 5 = .ok (.aload_n 0, 1) := by decide +kernel
theorem dX2_reading_6 : decode cX2_reading 6 = .ok (.iload_n 1, 1) := by decide +kernel
theorem dX2_reading_7 : decode cX2_reading 7 = .ok (.iconst 0, 1) := by decide +kernel
theorem dX2_reading_8 : decode cX2_reading 8 = .ok (.invokevirtual 51, 3) := by decide +kernel
theorem dX2_reading_11 : decode cX2_reading 11 = .ok (.iadd, 1) := by decide +kernel
theorem dX2_reading_12 : decode cX2_reading 12 = .ok (.ireturn, 1) := by decide +kernel
set_option maxRecDepth 20000 in
theorem ggX2_booked_X2_isAboard : GoodIn wsX2_booked wsX2_isAboard := goodIn_r _ [6, 7, 8, 9, 10, 5, 11, 1, 21, 22, 23, 24, 25] (by decide +kernel) (by decide +kernel)
set_option maxRecDepth 20000 in
theorem gX2_booked_X2_isAboard : GoodIn wsX2_booked (wsV RX2 40 RX2 yX2_isAboard wsX2_isAboard) := goodIn_app (goodIn_of _ (by decide +kernel)) ggX2_booked_X2_isAboard
set_option maxRecDepth 20000 in
theorem ggX2_booked_X2_ofWalker : GoodIn wsX2_booked wsX2_ofWalker := goodIn_r _ [11, 1, 21, 22, 23, 24, 25] (by decide +kernel) (by decide +kernel)
set_option maxRecDepth 20000 in
theorem gX2_booked_X2_ofWalker : GoodIn wsX2_booked (wsV RX2 27 RX2 yX2_ofWalker wsX2_ofWalker) := goodIn_app (goodIn_of _ (by decide +kernel)) ggX2_booked_X2_ofWalker
set_option maxRecDepth 20000 in
theorem ggX2_booked_X2_share : GoodIn wsX2_booked wsX2_share := goodIn_r _ [14, 15, 16, 5, 17, 18, 19, 20] (by decide +kernel) (by decide +kernel)
set_option maxRecDepth 20000 in
theorem gX2_booked_X2_share : GoodIn wsX2_booked (va_wsS RX2 44 yX2_share wsX2_share) := goodIn_app (goodIn_of _ (by decide +kernel)) ggX2_booked_X2_share
theorem dX2_booked_0 : decode cX2_booked 0 = .ok (.iconst 0, 1) := by decide +kernel
theorem dX2_booked_1 : decode cX2_booked 1 = .ok (.istore_n 3, 1) := by decide +kernel
theorem dX2_booked_2 : decode cX2_booked 2 = .ok (.iconst 0, 1) := by decide +kernel
theorem dX2_booked_3 : decode cX2_booked 3 = .ok (.istore 4, 2) := by decide +kernel
theorem dX2_booked_5 : decode cX2_booked 5 = .ok (.iload 4, 2) := by decide +kernel
theorem dX2_booked_7 : decode cX2_booked 7 = .ok (.aload_n 0, 1) := by decide +kernel
theorem dX2_booked_8 : decode cX2_booked 8 = .ok (.getfield 7, 3) := by decide +kernel
theorem dX2_booked_11 : decode cX2_booked 11 = .ok (.iconst 1, 1) := by decide +kernel
theorem dX2_booked_12 : decode cX2_booked 12 = .ok (.iaload, 1) := by decide +kernel
theorem dX2_booked_13 : decode cX2_booked 13 = .ok (.if_icmp .ge 49, 3) := by decide +kernel
theorem dX2_booked_16 : decode cX2_booked 16 = .ok (.iload_n 3, 1) := by decide +kernel
theorem dX2_booked_17 : decode cX2_booked 17 = .ok (.aload_n 0, 1) := by decide +kernel
theorem dX2_booked_18 : decode cX2_booked 18 = .ok (.iload 4, 2) := by decide +kernel
theorem dX2_booked_20 : decode cX2_booked 20 = .ok (.invokevirtual 40, 3) := by decide +kernel
theorem dX2_booked_23 : decode cX2_booked 23 = .ok (.ifCond .eq 30, 3) := by decide +kernel
theorem dX2_booked_26 : decode cX2_booked 26 = .ok (.iload 4, 2) := by decide +kernel
theorem dX2_booked_28 : decode cX2_booked 28 = .ok (.iload_n 2, 1) := by decide +kernel
theorem dX2_booked_29 : decode cX2_booked 29 = .ok (.if_icmp .eq 24, 3) := by decide +kernel
theorem dX2_booked_32 : decode cX2_booked 32 = .ok (.aload_n 0, 1) := by decide +kernel
theorem dX2_booked_33 : decode cX2_booked 33 = .ok (.iload 4, 2) := by decide +kernel
theorem dX2_booked_35 : decode cX2_booked 35 = .ok (.iconst 2, 1) := by decide +kernel
theorem dX2_booked_36 : decode cX2_booked 36 = .ok (.invokevirtual 27, 3) := by decide +kernel
theorem dX2_booked_39 : decode cX2_booked 39 = .ok (.aload_n 0, 1) := by decide +kernel
theorem dX2_booked_40 : decode cX2_booked 40 = .ok (.iload 4, 2) := by decide +kernel
theorem dX2_booked_42 : decode cX2_booked 42 = .ok (.iconst 3, 1) := by decide +kernel
theorem dX2_booked_43 : decode cX2_booked 43 = .ok (.invokevirtual 27, 3) := by decide +kernel
theorem dX2_booked_46 : decode cX2_booked 46 = .ok (.iload_n 1, 1) := by decide +kernel
theorem dX2_booked_47 : decode cX2_booked 47 = .ok (.invokestatic 44, 3) := by decide +kernel
theorem dX2_booked_50 : decode cX2_booked 50 = .ok (.goto 4, 3) := by decide +kernel
theorem dX2_booked_53 : decode cX2_booked 53 = .ok (.iconst 0, 1) := by decide +kernel
theorem dX2_booked_54 : decode cX2_booked 54 = .ok (.iadd, 1) := by decide +kernel
theorem dX2_booked_55 : decode cX2_booked 55 = .ok (.istore_n 3, 1) := by decide +kernel
theorem dX2_booked_56 : decode cX2_booked 56 = .ok (.iinc 4 1, 3) := by decide +kernel
theorem dX2_booked_59 : decode cX2_booked 59 = .ok (.goto (-54), 3) := by decide +kernel
theorem dX2_booked_62 : decode cX2_booked 62 = .ok (.iload_n 3, 1) := by decide +kernel
theorem dX2_booked_63 : decode cX2_booked 63 = .ok (.ireturn, 1) := by decide +kernel
set_option maxRecDepth 20000 in
theorem ggX2_expected_X2_booked : GoodIn wsX2_expected wsX2_booked := goodIn_r _ [6, 7, 8, 9, 10, 5, 11, 1, 12, 13, 14, 15, 16, 17, 18, 19, 20, 21, 22, 23, 24, 29, 30, 31, 32, 33] (by decide +kernel) (by decide +kernel)
set_option maxRecDepth 20000 in
theorem gX2_expected_X2_booked : GoodIn wsX2_expected (wsV RX2 54 RX2 yX2_booked wsX2_booked) := goodIn_app (goodIn_of _ (by decide +kernel)) ggX2_expected_X2_booked
set_option maxRecDepth 20000 in
theorem ggX2_expected_X2_of : GoodIn wsX2_expected wsX2_of := goodIn_r _ [28, 7, 29, 30, 31, 32, 33] (by decide +kernel) (by decide +kernel)
set_option maxRecDepth 20000 in
theorem gX2_expected_X2_of : GoodIn wsX2_expected (wsV RX2 51 RX2 yX2_of wsX2_of) := goodIn_app (goodIn_of _ (by decide +kernel)) ggX2_expected_X2_of
theorem dX2_expected_0 : decode cX2_expected 0 = .ok (.aload_n 0, 1) := by decide +kernel
theorem dX2_expected_1 : decode cX2_expected 1 = .ok (.iload_n 1, 1) := by decide +kernel
theorem dX2_expected_2 : decode cX2_expected 2 = .ok (.ldc 31, 2) := by decide +kernel
theorem dX2_expected_4 : decode cX2_expected 4 = .ok (.invokevirtual 54, 3) := by decide +kernel
theorem dX2_expected_7 : decode cX2_expected 7 = .ok (.aload_n 0, 1) := by decide +kernel
theorem dX2_expected_8 : decode cX2_expected 8 = .ok (.iload_n 1, 1) := by decide +kernel
theorem dX2_expected_9 : decode cX2_expected 9 = .ok (.iconst 2, 1) := by decide +kernel
theorem dX2_expected_10 : decode cX2_expected 10 = .ok (.invokevirtual 51, 3) := by decide +kernel
theorem dX2_expected_13 : decode cX2_expected 13 = .ok (.iadd, 1) := by decide +kernel
theorem dX2_expected_14 : decode cX2_expected 14 = .ok (.ireturn, 1) := by decide +kernel
set_option maxRecDepth 20000 in
theorem ggX2_error_X2_reading : GoodIn wsX2_error wsX2_reading := goodIn_r _ [5, 6, 7, 8, 4, 9, 10, 11, 12, 13, 14, 15, 16, 17, 18, 19, 20, 21, 22, 23, 24, 25, 26, 27, 28, 29, 30, 31, 32, 41, 42, 43, 44, 45] (by decide +kernel) (by decide +kernel)
set_option maxRecDepth 20000 in
theorem gX2_error_X2_reading : GoodIn wsX2_error (wsV RX2 57 RX2 yX2_reading wsX2_reading) := goodIn_app (goodIn_of _ (by decide +kernel)) ggX2_error_X2_reading
set_option maxRecDepth 20000 in
theorem ggX2_error_X2_expected : GoodIn wsX2_error wsX2_expected := goodIn_r _ [36, 15, 37, 38, 39, 4, 40, 10, 11, 12, 13, 14, 16, 17, 18, 19, 20, 21, 22, 23, 24, 25, 26, 27, 28, 29, 30, 31, 32, 41, 42, 43, 44, 45] (by decide +kernel) (by decide +kernel)
set_option maxRecDepth 20000 in
theorem gX2_error_X2_expected : GoodIn wsX2_error (wsV RX2 60 RX2 yX2_expected wsX2_expected) := goodIn_app (goodIn_of _ (by decide +kernel)) ggX2_error_X2_expected
theorem dX2_error_0 : decode cX2_error 0 = .ok (.iconst 0, 1) := by decide +kernel
theorem dX2_error_1 : decode cX2_error 1 = .ok (.istore_n 1, 1) := by decide +kernel
theorem dX2_error_2 : decode cX2_error 2 = .ok (.iconst 0, 1) := by decide +kernel
theorem dX2_error_3 : decode cX2_error 3 = .ok (.istore_n 2, 1) := by decide +kernel
theorem dX2_error_4 : decode cX2_error 4 = .ok (.iload_n 2, 1) := by decide +kernel
theorem dX2_error_5 : decode cX2_error 5 = .ok (.bipush 24, 2) := by decide +kernel
theorem dX2_error_7 : decode cX2_error 7 = .ok (.if_icmp .ge 34, 3) := by decide +kernel
theorem dX2_error_10 : decode cX2_error 10 = .ok (.aload_n 0, 1) := by decide +kernel
theorem dX2_error_11 : decode cX2_error 11 = .ok (.iload_n 2, 1) := by decide +kernel
theorem dX2_error_12 : decode cX2_error 12 = .ok (.invokevirtual 57, 3) := by decide +kernel
theorem dX2_error_15 : decode cX2_error 15 = .ok (.aload_n 0, 1) := by decide +kernel
theorem dX2_error_16 : decode cX2_error 16 = .ok (.iload_n 2, 1) := by decide +kernel
theorem dX2_error_17 : decode cX2_error 17 = .ok (.invokevirtual 60, 3) := by decide +kernel
theorem dX2_error_20 : decode cX2_error 20 = .ok (.isub, 1) := by decide +kernel
theorem dX2_error_21 : decode cX2_error 21 = .ok (.istore_n 3, 1) := by decide +kernel
theorem dX2_error_22 : decode cX2_error 22 = .ok (.iload_n 1, 1) := by decide +kernel
theorem dX2_error_23 : decode cX2_error 23 = .ok (.iload_n 3, 1) := by decide +kernel
theorem dX2_error_24 : decode cX2_error 24 = .ok (.ifCond .ge 8, 3) := by decide +kernel
theorem dX2_error_27 : decode cX2_error 27 = .ok (.iload_n 3, 1) := by decide +kernel
theorem dX2_error_28 : decode cX2_error 28 = .ok (.ineg, 1) := by decide +kernel
theorem dX2_error_29 : decode cX2_error 29 = .ok (.goto 4, 3) := by decide +kernel
theorem dX2_error_32 : decode cX2_error 32 = .ok (.iload_n 3, 1) := by decide +kernel
theorem dX2_error_33 : decode cX2_error 33 = .ok (.iadd, 1) := by decide +kernel
theorem dX2_error_34 : decode cX2_error 34 = .ok (.istore_n 1, 1) := by decide +kernel
theorem dX2_error_35 : decode cX2_error 35 = .ok (.iinc 2 1, 3) := by decide +kernel
theorem dX2_error_38 : decode cX2_error 38 = .ok (.goto (-34), 3) := by decide +kernel
theorem dX2_error_41 : decode cX2_error 41 = .ok (.iload_n 1, 1) := by decide +kernel
theorem dX2_error_42 : decode cX2_error 42 = .ok (.ireturn, 1) := by decide +kernel
set_option maxRecDepth 20000 in
theorem ggX2_setDrift_X2_isCell : GoodIn wsX2_setDrift wsX2_isCell := goodIn_r _ [6, 7, 8, 5, 9] (by decide +kernel) (by decide +kernel)
set_option maxRecDepth 20000 in
theorem gX2_setDrift_X2_isCell : GoodIn wsX2_setDrift (va_wsS RX2 63 yX2_isCell wsX2_isCell) := goodIn_app (goodIn_of _ (by decide +kernel)) ggX2_setDrift_X2_isCell
set_option maxRecDepth 20000 in
theorem ggX2_setDrift_X2_in : GoodIn wsX2_setDrift wsX2_in := goodIn_r _ [9] (by decide +kernel) (by decide +kernel)
set_option maxRecDepth 20000 in
theorem gX2_setDrift_X2_in : GoodIn wsX2_setDrift (va_wsS RX2 23 yX2_in wsX2_in) := goodIn_app (goodIn_of _ (by decide +kernel)) ggX2_setDrift_X2_in
set_option maxRecDepth 20000 in
theorem ggX2_setDrift_X2_acts : GoodIn wsX2_setDrift wsX2_acts := goodIn_r _ [13, 14, 15, 2, 20, 21, 22, 23, 24] (by decide +kernel) (by decide +kernel)
set_option maxRecDepth 20000 in
theorem gX2_setDrift_X2_acts : GoodIn wsX2_setDrift (wsV RX2 67 RX2 yX2_acts wsX2_acts) := goodIn_app (goodIn_of _ (by decide +kernel)) ggX2_setDrift_X2_acts
set_option maxRecDepth 20000 in
theorem ggX2_setDrift_X2_of : GoodIn wsX2_setDrift wsX2_of := goodIn_r _ [19, 2, 20, 21, 22, 23, 24] (by decide +kernel) (by decide +kernel)
set_option maxRecDepth 20000 in
theorem gX2_setDrift_X2_of : GoodIn wsX2_setDrift (wsV RX2 51 RX2 yX2_of wsX2_of) := goodIn_app (goodIn_of _ (by decide +kernel)) ggX2_setDrift_X2_of
theorem dX2_setDrift_0 : decode cX2_setDrift 0 = .ok (.iload_n 1, 1) := by decide +kernel
theorem dX2_setDrift_1 : decode cX2_setDrift 1 = .ok (.invokestatic 63, 3) := by decide +kernel
theorem dX2_setDrift_4 : decode cX2_setDrift 4 = .ok (.ifCond .eq 13, 3) := by decide +kernel
theorem dX2_setDrift_7 : decode cX2_setDrift 7 = .ok (.iload_n 2, 1) := by decide +kernel
theorem dX2_setDrift_8 : decode cX2_setDrift 8 = .ok (.bipush (-3), 2) := by decide +kernel
theorem dX2_setDrift_10 : decode cX2_setDrift 10 = .ok (.iconst 3, 1) := by decide +kernel
theorem dX2_setDrift_11 : decode cX2_setDrift 11 = .ok (.invokestatic 23, 3) := by decide +kernel
theorem dX2_setDrift_14 : decode cX2_setDrift 14 = .ok (.ifCond .ne 6, 3) := by decide +kernel
theorem dX2_setDrift_17 : decode cX2_setDrift 17 = .ok (.ldc 66, 2) := by decide +kernel
theorem dX2_setDrift_19 : decode cX2_setDrift 19 = .ok (.ireturn, 1) := by decide +kernel
theorem dX2_setDrift_20 : decode cX2_setDrift 20 = .ok (.aload_n 0, 1) := by decide +kernel
theorem dX2_setDrift_21 : decode cX2_setDrift 21 = .ok (.invokevirtual 67, 3) := by decide +kernel
theorem dX2_setDrift_24 : decode cX2_setDrift 24 = .ok (.aload_n 0, 1) := by decide +kernel
theorem dX2_setDrift_25 : decode cX2_setDrift 25 = .ok (.iload_n 1, 1) := by decide +kernel
theorem dX2_setDrift_26 : decode cX2_setDrift 26 = .ok (.iconst 1, 1) := by decide +kernel
theorem dX2_setDrift_27 : decode cX2_setDrift 27 = .ok (.invokevirtual 51, 3) := by decide +kernel
theorem dX2_setDrift_30 : decode cX2_setDrift 30 = .ok (.istore_n 3, 1) := by decide +kernel
theorem dX2_setDrift_31 : decode cX2_setDrift 31 = .ok (.aload_n 0, 1) := by decide +kernel
theorem dX2_setDrift_32 : decode cX2_setDrift 32 = .ok (.getfield 7, 3) := by decide +kernel
theorem dX2_setDrift_35 : decode cX2_setDrift 35 = .ok (.bipush 6, 2) := by decide +kernel
theorem dX2_setDrift_37 : decode cX2_setDrift 37 = .ok (.iconst 4, 1) := by decide +kernel
theorem dX2_setDrift_38 : decode cX2_setDrift 38 = .ok (.iload_n 1, 1) := by decide +kernel
theorem dX2_setDrift_39 : decode cX2_setDrift 39 = .ok (.imul, 1) := by decide +kernel
theorem dX2_setDrift_40 : decode cX2_setDrift 40 = .ok (.iadd, 1) := by decide +kernel
theorem dX2_setDrift_41 : decode cX2_setDrift 41 = .ok (.iconst 1, 1) := by decide +kernel
theorem dX2_setDrift_42 : decode cX2_setDrift 42 = .ok (.iadd, 1) := by decide +kernel
theorem dX2_setDrift_43 : decode cX2_setDrift 43 = .ok (.iload_n 2, 1) := by decide +kernel
theorem dX2_setDrift_44 : decode cX2_setDrift 44 = .ok (.iastore, 1) := by decide +kernel
theorem dX2_setDrift_45 : decode cX2_setDrift 45 = .ok (.iload_n 3, 1) := by decide +kernel
theorem dX2_setDrift_46 : decode cX2_setDrift 46 = .ok (.ireturn, 1) := by decide +kernel
set_option maxRecDepth 20000 in
theorem ggX2_pass_X2_in : GoodIn wsX2_pass wsX2_in := goodIn_r _ [7] (by decide +kernel) (by decide +kernel)
set_option maxRecDepth 20000 in
theorem gX2_pass_X2_in : GoodIn wsX2_pass (va_wsS RX2 23 yX2_in wsX2_in) := goodIn_app (goodIn_of _ (by decide +kernel)) ggX2_pass_X2_in
set_option maxRecDepth 20000 in
theorem ggX2_pass_X2_acts : GoodIn wsX2_pass wsX2_acts := goodIn_r _ [11, 12, 13, 2, 18, 19, 20, 21, 22] (by decide +kernel) (by decide +kernel)
set_option maxRecDepth 20000 in
theorem gX2_pass_X2_acts : GoodIn wsX2_pass (wsV RX2 67 RX2 yX2_acts wsX2_acts) := goodIn_app (goodIn_of _ (by decide +kernel)) ggX2_pass_X2_acts
set_option maxRecDepth 20000 in
theorem ggX2_pass_X2_of : GoodIn wsX2_pass wsX2_of := goodIn_r _ [17, 2, 18, 19, 20, 21, 22] (by decide +kernel) (by decide +kernel)
set_option maxRecDepth 20000 in
theorem gX2_pass_X2_of : GoodIn wsX2_pass (wsV RX2 51 RX2 yX2_of wsX2_of) := goodIn_app (goodIn_of _ (by decide +kernel)) ggX2_pass_X2_of
theorem dX2_pass_0 : decode cX2_pass 0 = .ok (.iload_n 1, 1) := by decide +kernel
theorem dX2_pass_1 : decode cX2_pass 1 = .ok (.iconst 1, 1) := by decide +kernel
theorem dX2_pass_2 : decode cX2_pass 2 = .ok (.bipush 60, 2) := by decide +kernel
theorem dX2_pass_4 : decode cX2_pass 4 = .ok (.invokestatic 23, 3) := by decide +kernel
theorem dX2_pass_7 : decode cX2_pass 7 = .ok (.ifCond .ne 6, 3) := by decide +kernel
theorem dX2_pass_10 : decode cX2_pass 10 = .ok (.ldc 66, 2) := by decide +kernel
theorem dX2_pass_12 : decode cX2_pass 12 = .ok (.ireturn, 1) := by decide +kernel
theorem dX2_pass_13 : decode cX2_pass 13 = .ok (.aload_n 0, 1) := by decide +kernel
theorem dX2_pass_14 : decode cX2_pass 14 = .ok (.getfield 7, 3) := by decide +kernel
theorem dX2_pass_17 : decode cX2_pass 17 = .ok (.iconst 0, 1) := by decide +kernel
theorem dX2_pass_18 : decode cX2_pass 18 = .ok (.iaload, 1) := by decide +kernel
theorem dX2_pass_19 : decode cX2_pass 19 = .ok (.iload_n 1, 1) := by decide +kernel
theorem dX2_pass_20 : decode cX2_pass 20 = .ok (.iadd, 1) := by decide +kernel
theorem dX2_pass_21 : decode cX2_pass 21 = .ok (.sipush 2000, 3) := by decide +kernel
theorem dX2_pass_24 : decode cX2_pass 24 = .ok (.if_icmp .le 6, 3) := by decide +kernel
theorem dX2_pass_27 : decode cX2_pass 27 = .ok (.ldc 70, 2) := by decide +kernel
theorem dX2_pass_29 : decode cX2_pass 29 = .ok (.ireturn, 1) := by decide +kernel
theorem dX2_pass_30 : decode cX2_pass 30 = .ok (.aload_n 0, 1) := by decide +kernel
theorem dX2_pass_31 : decode cX2_pass 31 = .ok (.invokevirtual 67, 3) := by decide +kernel
theorem dX2_pass_34 : decode cX2_pass 34 = .ok (.aload_n 0, 1) := by decide +kernel
theorem dX2_pass_35 : decode cX2_pass 35 = .ok (.getfield 7, 3) := by decide +kernel
theorem dX2_pass_38 : decode cX2_pass 38 = .ok (.iconst 0, 1) := by decide +kernel
theorem dX2_pass_39 : decode cX2_pass 39 = .ok (.dup2, 1) := by decide +kernel
theorem dX2_pass_40 : decode cX2_pass 40 = .ok (.iaload, 1) := by decide +kernel
theorem dX2_pass_41 : decode cX2_pass 41 = .ok (.iload_n 1, 1) := by decide +kernel
theorem dX2_pass_42 : decode cX2_pass 42 = .ok (.iadd, 1) := by decide +kernel
theorem dX2_pass_43 : decode cX2_pass 43 = .ok (.iastore, 1) := by decide +kernel
theorem dX2_pass_44 : decode cX2_pass 44 = .ok (.iconst 0, 1) := by decide +kernel
theorem dX2_pass_45 : decode cX2_pass 45 = .ok (.istore_n 2, 1) := by decide +kernel
theorem dX2_pass_46 : decode cX2_pass 46 = .ok (.iload_n 2, 1) := by decide +kernel
theorem dX2_pass_47 : decode cX2_pass 47 = .ok (.bipush 24, 2) := by decide +kernel
theorem dX2_pass_49 : decode cX2_pass 49 = .ok (.if_icmp .ge 31, 3) := by decide +kernel
theorem dX2_pass_52 : decode cX2_pass 52 = .ok (.aload_n 0, 1) := by decide +kernel
theorem dX2_pass_53 : decode cX2_pass 53 = .ok (.getfield 7, 3) := by decide +kernel
theorem dX2_pass_56 : decode cX2_pass 56 = .ok (.bipush 6, 2) := by decide +kernel
theorem dX2_pass_58 : decode cX2_pass 58 = .ok (.iconst 4, 1) := by decide +kernel
theorem dX2_pass_59 : decode cX2_pass 59 = .ok (.iload_n 2, 1) := by decide +kernel
theorem dX2_pass_60 : decode cX2_pass 60 = .ok (.imul, 1) := by decide +kernel
theorem dX2_pass_61 : decode cX2_pass 61 = .ok (.iadd, 1) := by decide +kernel
theorem dX2_pass_62 : decode cX2_pass 62 = .ok (.dup2, 1) := by decide +kernel
theorem dX2_pass_63 : decode cX2_pass 63 = .ok (.iaload, 1) := by decide +kernel
theorem dX2_pass_64 : decode cX2_pass 64 = .ok (.iload_n 1, 1) := by decide +kernel
theorem dX2_pass_65 : decode cX2_pass 65 = .ok (.aload_n 0, 1) := by decide +kernel
theorem dX2_pass_66 : decode cX2_pass 66 = .ok (.iload_n 2, 1) := by decide +kernel
theorem dX2_pass_67 : decode cX2_pass 67 = .ok (.iconst 1, 1) := by decide +kernel
theorem dX2_pass_68 : decode cX2_pass 68 = .ok (.invokevirtual 51, 3) := by decide +kernel
theorem dX2_pass_71 : decode cX2_pass 71 = .ok (.imul, 1) := by decide +kernel
theorem dX2_pass_72 : decode cX2_pass 72 = .ok (.iadd, 1) := by decide +kernel
theorem dX2_pass_73 : decode cX2_pass 73 = .ok (.iastore, 1) := by decide +kernel
theorem dX2_pass_74 : decode cX2_pass 74 = .ok (.iinc 2 1, 3) := by decide +kernel
theorem dX2_pass_77 : decode cX2_pass 77 = .ok (.goto (-31), 3) := by decide +kernel
theorem dX2_pass_80 : decode cX2_pass 80 = .ok (.aload_n 0, 1) := by decide +kernel
theorem dX2_pass_81 : decode cX2_pass 81 = .ok (.getfield 7, 3) := by decide +kernel
theorem dX2_pass_84 : decode cX2_pass 84 = .ok (.iconst 0, 1) := by decide +kernel
theorem dX2_pass_85 : decode cX2_pass 85 = .ok (.iaload, 1) := by decide +kernel
theorem dX2_pass_86 : decode cX2_pass 86 = .ok (.ireturn, 1) := by decide +kernel
set_option maxRecDepth 20000 in
theorem ggX2_isPressed_X2_isAboard : GoodIn wsX2_isPressed wsX2_isAboard := goodIn_r _ [6, 7, 8, 9, 10, 5, 11, 1, 21, 22, 23, 24, 25] (by decide +kernel) (by decide +kernel)
set_option maxRecDepth 20000 in
theorem gX2_isPressed_X2_isAboard : GoodIn wsX2_isPressed (wsV RX2 40 RX2 yX2_isAboard wsX2_isAboard) := goodIn_app (goodIn_of _ (by decide +kernel)) ggX2_isPressed_X2_isAboard
set_option maxRecDepth 20000 in
theorem ggX2_isPressed_X2_ofWalker : GoodIn wsX2_isPressed wsX2_ofWalker := goodIn_r _ [11, 1, 21, 22, 23, 24, 25] (by decide +kernel) (by decide +kernel)
set_option maxRecDepth 20000 in
theorem gX2_isPressed_X2_ofWalker : GoodIn wsX2_isPressed (wsV RX2 27 RX2 yX2_ofWalker wsX2_ofWalker) := goodIn_app (goodIn_of _ (by decide +kernel)) ggX2_isPressed_X2_ofWalker
set_option maxRecDepth 20000 in
theorem ggX2_isPressed_X2_share : GoodIn wsX2_isPressed wsX2_share := goodIn_r _ [14, 15, 16, 5, 17, 18, 19, 20] (by decide +kernel) (by decide +kernel)
set_option maxRecDepth 20000 in
theorem gX2_isPressed_X2_share : GoodIn wsX2_isPressed (va_wsS RX2 44 yX2_share wsX2_share) := goodIn_app (goodIn_of _ (by decide +kernel)) ggX2_isPressed_X2_share
theorem dX2_isPressed_0 : decode cX2_isPressed 0 = .ok (.iconst 0, 1) := by decide +kernel
theorem dX2_isPressed_1 : decode cX2_isPressed 1 = .ok (.istore_n 2, 1) := by decide +kernel
theorem dX2_isPressed_2 : decode cX2_isPressed 2 = .ok (.iconst 0, 1) := by decide +kernel
theorem dX2_isPressed_3 : decode cX2_isPressed 3 = .ok (.istore_n 3, 1) := by decide +kernel
theorem dX2_isPressed_4 : decode cX2_isPressed 4 = .ok (.iload_n 3, 1) := by decide +kernel
theorem dX2_isPressed_5 : decode cX2_isPressed 5 = .ok (.aload_n 0, 1) := by decide +kernel
theorem dX2_isPressed_6 : decode cX2_isPressed 6 = .ok (.getfield 7, 3) := by decide +kernel
theorem dX2_isPressed_9 : decode cX2_isPressed 9 = .ok (.iconst 1, 1) := by decide +kernel
theorem dX2_isPressed_10 : decode cX2_isPressed 10 = .ok (.iaload, 1) := by decide +kernel
theorem dX2_isPressed_11 : decode cX2_isPressed 11 = .ok (.if_icmp .ge 46, 3) := by decide +kernel
theorem dX2_isPressed_14 : decode cX2_isPressed 14 = .ok (.iload_n 2, 1) := by decide +kernel
theorem dX2_isPressed_15 : decode cX2_isPressed 15 = .ok (.ifCond .ne 30, 3) := by decide +kernel
theorem dX2_isPressed_18 : decode cX2_isPressed 18 = .ok (.aload_n 0, 1) := by decide +kernel
theorem dX2_isPressed_19 : decode cX2_isPressed 19 = .ok (.iload_n 3, 1) := by decide +kernel
theorem dX2_isPressed_20 : decode cX2_isPressed 20 = .ok (.invokevirtual 40, 3) := by decide +kernel
theorem dX2_isPressed_23 : decode cX2_isPressed 23 = .ok (.ifCond .eq 26, 3) := by decide +kernel
theorem dX2_isPressed_26 : decode cX2_isPressed 26 = .ok (.aload_n 0, 1) := by decide +kernel
theorem dX2_isPressed_27 : decode cX2_isPressed 27 = .ok (.iload_n 3, 1) := by decide +kernel
theorem dX2_isPressed_28 : decode cX2_isPressed 28 = .ok (.iconst 0, 1) := by decide +kernel
theorem dX2_isPressed_29 : decode cX2_isPressed 29 = .ok (.invokevirtual 27, 3) := by decide +kernel
theorem dX2_isPressed_32 : decode cX2_isPressed 32 = .ok (.aload_n 0, 1) := by decide +kernel
theorem dX2_isPressed_33 : decode cX2_isPressed 33 = .ok (.iload_n 3, 1) := by decide +kernel
theorem dX2_isPressed_34 : decode cX2_isPressed 34 = .ok (.iconst 1, 1) := by decide +kernel
theorem dX2_isPressed_35 : decode cX2_isPressed 35 = .ok (.invokevirtual 27, 3) := by decide +kernel
theorem dX2_isPressed_38 : decode cX2_isPressed 38 = .ok (.iload_n 1, 1) := by decide +kernel
theorem dX2_isPressed_39 : decode cX2_isPressed 39 = .ok (.invokestatic 44, 3) := by decide +kernel
theorem dX2_isPressed_42 : decode cX2_isPressed 42 = .ok (.ifCond .le 7, 3) := by decide +kernel
theorem dX2_isPressed_45 : decode cX2_isPressed 45 = .ok (.iconst 1, 1) := by decide +kernel
theorem dX2_isPressed_46 : decode cX2_isPressed 46 = .ok (.goto 4, 3) := by decide +kernel
theorem dX2_isPressed_49 : decode cX2_isPressed 49 = .ok (.iconst 0, 1) := by decide +kernel
theorem dX2_isPressed_50 : decode cX2_isPressed 50 = .ok (.istore_n 2, 1) := by decide +kernel
theorem dX2_isPressed_51 : decode cX2_isPressed 51 = .ok (.iinc 3 1, 3) := by decide +kernel
theorem dX2_isPressed_54 : decode cX2_isPressed 54 = .ok (.goto (-50), 3) := by decide +kernel
theorem dX2_isPressed_57 : decode cX2_isPressed 57 = .ok (.iload_n 2, 1) := by decide +kernel
theorem dX2_isPressed_58 : decode cX2_isPressed 58 = .ok (.ireturn, 1) := by decide +kernel
set_option maxRecDepth 20000 in
theorem ggX2_tare_X2_isCell : GoodIn wsX2_tare wsX2_isCell := goodIn_r _ [7, 8, 9, 6, 10] (by decide +kernel) (by decide +kernel)
set_option maxRecDepth 20000 in
theorem gX2_tare_X2_isCell : GoodIn wsX2_tare (va_wsS RX2 63 yX2_isCell wsX2_isCell) := goodIn_app (goodIn_of _ (by decide +kernel)) ggX2_tare_X2_isCell
set_option maxRecDepth 20000 in
theorem ggX2_tare_X2_isPressed : GoodIn wsX2_tare wsX2_isPressed := goodIn_r _ [14, 3, 15, 16, 17, 6, 18, 19, 20, 21, 22, 23, 24, 25, 26, 27, 28, 29, 30, 31, 32, 51, 52, 53, 54, 55] (by decide +kernel) (by decide +kernel)
set_option maxRecDepth 20000 in
theorem gX2_tare_X2_isPressed : GoodIn wsX2_tare (wsV RX2 71 RX2 yX2_isPressed wsX2_isPressed) := goodIn_app (goodIn_of _ (by decide +kernel)) ggX2_tare_X2_isPressed
set_option maxRecDepth 20000 in
theorem ggX2_tare_X2_acts : GoodIn wsX2_tare wsX2_acts := goodIn_r _ [36, 37, 38, 3, 51, 52, 53, 54, 55] (by decide +kernel) (by decide +kernel)
set_option maxRecDepth 20000 in
theorem gX2_tare_X2_acts : GoodIn wsX2_tare (wsV RX2 67 RX2 yX2_acts wsX2_acts) := goodIn_app (goodIn_of _ (by decide +kernel)) ggX2_tare_X2_acts
set_option maxRecDepth 20000 in
theorem ggX2_tare_X2_reading : GoodIn wsX2_tare wsX2_reading := goodIn_r _ [42, 43, 44, 45, 6, 46, 3, 15, 16, 17, 18, 19, 20, 21, 22, 23, 24, 25, 26, 27, 28, 29, 30, 31, 32, 47, 48, 49, 50, 51, 52, 53, 54, 55] (by decide +kernel) (by decide +kernel)
set_option maxRecDepth 20000 in
theorem gX2_tare_X2_reading : GoodIn wsX2_tare (wsV RX2 57 RX2 yX2_reading wsX2_reading) := goodIn_app (goodIn_of _ (by decide +kernel)) ggX2_tare_X2_reading
set_option maxRecDepth 20000 in
theorem ggX2_tare_X2_of : GoodIn wsX2_tare wsX2_of := goodIn_r _ [50, 3, 51, 52, 53, 54, 55] (by decide +kernel) (by decide +kernel)
set_option maxRecDepth 20000 in
theorem gX2_tare_X2_of : GoodIn wsX2_tare (wsV RX2 51 RX2 yX2_of wsX2_of) := goodIn_app (goodIn_of _ (by decide +kernel)) ggX2_tare_X2_of
theorem dX2_tare_0 : decode cX2_tare 0 = .ok (.iload_n 1, 1) := by decide +kernel
theorem dX2_tare_1 : decode cX2_tare 1 = .ok (.invokestatic 63, 3) := by decide +kernel
theorem dX2_tare_4 : decode cX2_tare 4 = .ok (.ifCond .ne 6, 3) := by decide +kernel
theorem dX2_tare_7 : decode cX2_tare 7 = .ok (.ldc 66, 2) := by decide +kernel
theorem dX2_tare_9 : decode cX2_tare 9 = .ok (.ireturn, 1) := by decide +kernel
theorem dX2_tare_10 : decode cX2_tare 10 = .ok (.aload_n 0, 1) := by decide +kernel
theorem dX2_tare_11 : decode cX2_tare 11 = .ok (.iload_n 1, 1) := by decide +kernel
theorem dX2_tare_12 : decode cX2_tare 12 = .ok (.invokevirtual 71, 3) := by decide +kernel
theorem dX2_tare_15 : decode cX2_tare 15 = .ok (.ifCond .eq 6, 3) := by decide +kernel
theorem dX2_tare_18 : decode cX2_tare 18 = .ok (.ldc 70, 2) := by decide +kernel
theorem dX2_tare_20 : decode cX2_tare 20 = .ok (.ireturn, 1) := by decide +kernel
theorem dX2_tare_21 : decode cX2_tare 21 = .ok (.aload_n 0, 1) := by decide +kernel
theorem dX2_tare_22 : decode cX2_tare 22 = .ok (.invokevirtual 67, 3) := by decide +kernel
theorem dX2_tare_25 : decode cX2_tare 25 = .ok (.aload_n 0, 1) := by decide +kernel
theorem dX2_tare_26 : decode cX2_tare 26 = .ok (.getfield 7, 3) := by decide +kernel
theorem dX2_tare_29 : decode cX2_tare 29 = .ok (.bipush 6, 2) := by decide +kernel
theorem dX2_tare_31 : decode cX2_tare 31 = .ok (.iconst 4, 1) := by decide +kernel
theorem dX2_tare_32 : decode cX2_tare 32 = .ok (.iload_n 1, 1) := by decide +kernel
theorem dX2_tare_33 : decode cX2_tare 33 = .ok (.imul, 1) := by decide +kernel
theorem dX2_tare_34 : decode cX2_tare 34 = .ok (.iadd, 1) := by decide +kernel
theorem dX2_tare_35 : decode cX2_tare 35 = .ok (.iconst 2, 1) := by decide +kernel
theorem dX2_tare_36 : decode cX2_tare 36 = .ok (.iadd, 1) := by decide +kernel
theorem dX2_tare_37 : decode cX2_tare 37 = .ok (.aload_n 0, 1) := by decide +kernel
theorem dX2_tare_38 : decode cX2_tare 38 = .ok (.iload_n 1, 1) := by decide +kernel
theorem dX2_tare_39 : decode cX2_tare 39 = .ok (.invokevirtual 57, 3) := by decide +kernel
theorem dX2_tare_42 : decode cX2_tare 42 = .ok (.iastore, 1) := by decide +kernel
theorem dX2_tare_43 : decode cX2_tare 43 = .ok (.aload_n 0, 1) := by decide +kernel
theorem dX2_tare_44 : decode cX2_tare 44 = .ok (.getfield 7, 3) := by decide +kernel
theorem dX2_tare_47 : decode cX2_tare 47 = .ok (.bipush 6, 2) := by decide +kernel
theorem dX2_tare_49 : decode cX2_tare 49 = .ok (.iconst 4, 1) := by decide +kernel
theorem dX2_tare_50 : decode cX2_tare 50 = .ok (.iload_n 1, 1) := by decide +kernel
theorem dX2_tare_51 : decode cX2_tare 51 = .ok (.imul, 1) := by decide +kernel
theorem dX2_tare_52 : decode cX2_tare 52 = .ok (.iadd, 1) := by decide +kernel
theorem dX2_tare_53 : decode cX2_tare 53 = .ok (.iconst 3, 1) := by decide +kernel
theorem dX2_tare_54 : decode cX2_tare 54 = .ok (.iadd, 1) := by decide +kernel
theorem dX2_tare_55 : decode cX2_tare 55 = .ok (.aload_n 0, 1) := by decide +kernel
theorem dX2_tare_56 : decode cX2_tare 56 = .ok (.getfield 7, 3) := by decide +kernel
theorem dX2_tare_59 : decode cX2_tare 59 = .ok (.iconst 0, 1) := by decide +kernel
theorem dX2_tare_60 : decode cX2_tare 60 = .ok (.iaload, 1) := by decide +kernel
theorem dX2_tare_61 : decode cX2_tare 61 = .ok (.iastore, 1) := by decide +kernel
theorem dX2_tare_62 : decode cX2_tare 62 = .ok (.aload_n 0, 1) := by decide +kernel
theorem dX2_tare_63 : decode cX2_tare 63 = .ok (.iload_n 1, 1) := by decide +kernel
theorem dX2_tare_64 : decode cX2_tare 64 = .ok (.iconst 2, 1) := by decide +kernel
theorem dX2_tare_65 : decode cX2_tare 65 = .ok (.invokevirtual 51, 3) := by decide +kernel
theorem dX2_tare_68 : decode cX2_tare 68 = .ok (.ireturn, 1) := by decide +kernel
set_option maxRecDepth 20000 in
theorem ggX2_on_X2_isAboard : GoodIn wsX2_on wsX2_isAboard := goodIn_r _ [7, 1, 8, 9, 10, 6, 11, 2, 12, 13, 14, 15, 16] (by decide +kernel) (by decide +kernel)
set_option maxRecDepth 20000 in
theorem gX2_on_X2_isAboard : GoodIn wsX2_on (wsV RX2 40 RX2 yX2_isAboard wsX2_isAboard) := goodIn_app (goodIn_of _ (by decide +kernel)) ggX2_on_X2_isAboard
set_option maxRecDepth 20000 in
theorem ggX2_on_X2_ofWalker : GoodIn wsX2_on wsX2_ofWalker := goodIn_r _ [11, 2, 12, 13, 14, 15, 16] (by decide +kernel) (by decide +kernel)
set_option maxRecDepth 20000 in
theorem gX2_on_X2_ofWalker : GoodIn wsX2_on (wsV RX2 27 RX2 yX2_ofWalker wsX2_ofWalker) := goodIn_app (goodIn_of _ (by decide +kernel)) ggX2_on_X2_ofWalker
theorem dX2_on_0 : decode cX2_on 0 = .ok (.ldc 31, 2) := by decide +kernel
theorem dX2_on_2 : decode cX2_on 2 = .ok (.istore_n 3, 1) := by decide +kernel
theorem dX2_on_3 : decode cX2_on 3 = .ok (.iconst 0, 1) := by decide +kernel
theorem dX2_on_4 : decode cX2_on 4 = .ok (.istore 4, 2) := by decide +kernel
theorem dX2_on_6 : decode cX2_on 6 = .ok (.iload 4, 2) := by decide +kernel
theorem dX2_on_8 : decode cX2_on 8 = .ok (.aload_n 0, 1) := by decide +kernel
theorem dX2_on_9 : decode cX2_on 9 = .ok (.getfield 7, 3) := by decide +kernel
theorem dX2_on_12 : decode cX2_on 12 = .ok (.iconst 1, 1) := by decide +kernel
theorem dX2_on_13 : decode cX2_on 13 = .ok (.iaload, 1) := by decide +kernel
theorem dX2_on_14 : decode cX2_on 14 = .ok (.if_icmp .ge 36, 3) := by decide +kernel
theorem dX2_on_17 : decode cX2_on 17 = .ok (.aload_n 0, 1) := by decide +kernel
theorem dX2_on_18 : decode cX2_on 18 = .ok (.iload 4, 2) := by decide +kernel
theorem dX2_on_20 : decode cX2_on 20 = .ok (.invokevirtual 40, 3) := by decide +kernel
theorem dX2_on_23 : decode cX2_on 23 = .ok (.ifCond .eq 19, 3) := by decide +kernel
theorem dX2_on_26 : decode cX2_on 26 = .ok (.aload_n 0, 1) := by decide +kernel
theorem dX2_on_27 : decode cX2_on 27 = .ok (.iload 4, 2) := by decide +kernel
theorem dX2_on_29 : decode cX2_on 29 = .ok (.iload_n 2, 1) := by decide +kernel
theorem dX2_on_30 : decode cX2_on 30 = .ok (.invokevirtual 27, 3) := by decide +kernel
theorem dX2_on_33 : decode cX2_on 33 = .ok (.iload_n 1, 1) := by decide +kernel
theorem dX2_on_34 : decode cX2_on 34 = .ok (.if_icmp .ne 8, 3) := by decide +kernel
theorem dX2_on_37 : decode cX2_on 37 = .ok (.iload 4, 2) := by decide +kernel
theorem dX2_on_39 : decode cX2_on 39 = .ok (.goto 4, 3) := by decide +kernel
theorem dX2_on_42 : decode cX2_on 42 = .ok (.iload_n 3, 1) := by decide +kernel
theorem dX2_on_43 : decode cX2_on 43 = .ok (.istore_n 3, 1) := by decide +kernel
theorem dX2_on_44 : decode cX2_on 44 = .ok (.iinc 4 1, 3) := by decide +kernel
theorem dX2_on_47 : decode cX2_on 47 = .ok (.goto (-41), 3) := by decide +kernel
theorem dX2_on_50 : decode cX2_on 50 = .ok (.iload_n 3, 1) := by decide +kernel
theorem dX2_on_51 : decode cX2_on 51 = .ok (.ireturn, 1) := by decide +kernel
set_option maxRecDepth 20000 in
theorem ggX2_isWeight_X2_in : GoodIn wsX2_isWeight wsX2_in := goodIn_r _ [4] (by decide +kernel) (by decide +kernel)
set_option maxRecDepth 20000 in
theorem gX2_isWeight_X2_in : GoodIn wsX2_isWeight (va_wsS RX2 23 yX2_in wsX2_in) := goodIn_app (goodIn_of _ (by decide +kernel)) ggX2_isWeight_X2_in
theorem dX2_isWeight_0 : decode cX2_isWeight 0 = .ok (.iload_n 0, 1) := by decide +kernel
theorem dX2_isWeight_1 : decode cX2_isWeight 1 = .ok (.bipush 20, 2) := by decide +kernel
theorem dX2_isWeight_3 : decode cX2_isWeight 3 = .ok (.sipush 150, 3) := by decide +kernel
theorem dX2_isWeight_6 : decode cX2_isWeight 6 = .ok (.invokestatic 23, 3) := by decide +kernel
theorem dX2_isWeight_9 : decode cX2_isWeight 9 = .ok (.ireturn, 1) := by decide +kernel
set_option maxRecDepth 20000 in
theorem ggX2_board_X2_isWeight : GoodIn wsX2_board wsX2_isWeight := goodIn_r _ [9, 10, 11, 8, 12] (by decide +kernel) (by decide +kernel)
set_option maxRecDepth 20000 in
theorem gX2_board_X2_isWeight : GoodIn wsX2_board (va_wsS RX2 74 yX2_isWeight wsX2_isWeight) := goodIn_app (goodIn_of _ (by decide +kernel)) ggX2_board_X2_isWeight
set_option maxRecDepth 20000 in
theorem ggX2_board_X2_isCell : GoodIn wsX2_board wsX2_isCell := goodIn_r _ [15, 10, 11, 8, 12] (by decide +kernel) (by decide +kernel)
set_option maxRecDepth 20000 in
theorem gX2_board_X2_isCell : GoodIn wsX2_board (va_wsS RX2 63 yX2_isCell wsX2_isCell) := goodIn_app (goodIn_of _ (by decide +kernel)) ggX2_board_X2_isCell
set_option maxRecDepth 20000 in
theorem ggX2_board_X2_on : GoodIn wsX2_board wsX2_on := goodIn_r _ [19, 2, 4, 20, 21, 22, 8, 23, 24, 25, 26, 27, 34, 35, 36, 37, 38] (by decide +kernel) (by decide +kernel)
set_option maxRecDepth 20000 in
theorem gX2_board_X2_on : GoodIn wsX2_board (wsV RX2 77 RX2 yX2_on wsX2_on) := goodIn_app (goodIn_of _ (by decide +kernel)) ggX2_board_X2_on
set_option maxRecDepth 20000 in
theorem ggX2_board_X2_acts : GoodIn wsX2_board wsX2_acts := goodIn_r _ [31, 32, 33, 4, 34, 35, 36, 37, 38] (by decide +kernel) (by decide +kernel)
set_option maxRecDepth 20000 in
theorem gX2_board_X2_acts : GoodIn wsX2_board (wsV RX2 67 RX2 yX2_acts wsX2_acts) := goodIn_app (goodIn_of _ (by decide +kernel)) ggX2_board_X2_acts
theorem dX2_board_0 : decode cX2_board 0 = .ok (.iload_n 1, 1) := by decide +kernel
theorem dX2_board_1 : decode cX2_board 1 = .ok (.invokestatic 74, 3) := by decide +kernel
theorem dX2_board_4 : decode cX2_board 4 = .ok (.ifCond .eq 17, 3) := by decide +kernel
theorem dX2_board_7 : decode cX2_board 7 = .ok (.iload_n 2, 1) := by decide +kernel
theorem dX2_board_8 : decode cX2_board 8 = .ok (.invokestatic 74, 3) := by decide +kernel
theorem dX2_board_11 : decode cX2_board 11 = .ok (.ifCond .eq 10, 3) := by decide +kernel
theorem dX2_board_14 : decode cX2_board 14 = .ok (.iload_n 3, 1) := by decide +kernel
theorem dX2_board_15 : decode cX2_board 15 = .ok (.invokestatic 63, 3) := by decide +kernel
theorem dX2_board_18 : decode cX2_board 18 = .ok (.ifCond .ne 6, 3) := by decide +kernel
theorem dX2_board_21 : decode cX2_board 21 = .ok (.ldc 66, 2) := by decide +kernel
theorem dX2_board_23 : decode cX2_board 23 = .ok (.ireturn, 1) := by decide +kernel
theorem dX2_board_24 : decode cX2_board 24 = .ok (.aload_n 0, 1) := by decide +kernel
theorem dX2_board_25 : decode cX2_board 25 = .ok (.iload_n 3, 1) := by decide +kernel
theorem dX2_board_26 : decode cX2_board 26 = .ok (.iconst 1, 1) := by decide +kernel
theorem dX2_board_27 : decode cX2_board 27 = .ok (.invokevirtual 77, 3) := by decide +kernel
theorem dX2_board_30 : decode cX2_board 30 = .ok (.ldc 31, 2) := by decide +kernel
theorem dX2_board_32 : decode cX2_board 32 = .ok (.if_icmp .eq 6, 3) := by decide +kernel
theorem dX2_board_35 : decode cX2_board 35 = .ok (.ldc 70, 2) := by decide +kernel
theorem dX2_board_37 : decode cX2_board 37 = .ok (.ireturn, 1) := by decide +kernel
theorem dX2_board_38 : decode cX2_board 38 = .ok (.aload_n 0, 1) := by decide +kernel
theorem dX2_board_39 : decode cX2_board 39 = .ok (.getfield 7, 3) := by decide +kernel
theorem dX2_board_42 : decode cX2_board 42 = .ok (.iconst 1, 1) := by decide +kernel
theorem dX2_board_43 : decode cX2_board 43 = .ok (.iaload, 1) := by decide +kernel
theorem dX2_board_44 : decode cX2_board 44 = .ok (.bipush 8, 2) := by decide +kernel
theorem dX2_board_46 : decode cX2_board 46 = .ok (.if_icmp .ne 6, 3) := by decide +kernel
theorem dX2_board_49 : decode cX2_board 49 = .ok (.ldc 80, 2) := by decide +kernel
theorem dX2_board_51 : decode cX2_board 51 = .ok (.ireturn, 1) := by decide +kernel
theorem dX2_board_52 : decode cX2_board 52 = .ok (.aload_n 0, 1) := by decide +kernel
theorem dX2_board_53 : decode cX2_board 53 = .ok (.invokevirtual 67, 3) := by decide +kernel
theorem dX2_board_56 : decode cX2_board 56 = .ok (.aload_n 0, 1) := by decide +kernel
theorem dX2_board_57 : decode cX2_board 57 = .ok (.getfield 7, 3) := by decide +kernel
theorem dX2_board_60 : decode cX2_board 60 = .ok (.iconst 1, 1) := by decide +kernel
theorem dX2_board_61 : decode cX2_board 61 = .ok (.iaload, 1) := by decide +kernel
theorem dX2_board_62 : decode cX2_board 62 = .ok (.istore 4, 2) := by decide +kernel
theorem dX2_board_64 : decode cX2_board 64 = .ok (.bipush 102, 2) := by decide +kernel
theorem dX2_board_66 : decode cX2_board 66 = .ok (.bipush 10, 2) := by decide +kernel
theorem dX2_board_68 : decode cX2_board 68 = .ok (.iload 4, 2) := by decide +kernel
theorem dX2_board_70 : decode cX2_board 70 = .ok (.imul, 1) := by decide +kernel
theorem dX2_board_71 : decode cX2_board 71 = .ok (.iadd, 1) := by decide +kernel
theorem dX2_board_72 : decode cX2_board 72 = .ok (.istore 5, 2) := by decide +kernel
theorem dX2_board_74 : decode cX2_board 74 = .ok (.iconst 0, 1) := by decide +kernel
theorem dX2_board_75 : decode cX2_board 75 = .ok (.istore 6, 2) := by decide +kernel
theorem dX2_board_77 : decode cX2_board 77 = .ok (.iload 6, 2) := by decide +kernel
theorem dX2_board_79 : decode cX2_board 79 = .ok (.bipush 10, 2) := by decide +kernel
theorem dX2_board_81 : decode cX2_board 81 = .ok (.if_icmp .ge 20, 3) := by decide +kernel
theorem dX2_board_84 : decode cX2_board 84 = .ok (.aload_n 0, 1) := by decide +kernel
theorem dX2_board_85 : decode cX2_board 85 = .ok (.getfield 7, 3) := by decide +kernel
theorem dX2_board_88 : decode cX2_board 88 = .ok (.iload 5, 2) := by decide +kernel
theorem dX2_board_90 : decode cX2_board 90 = .ok (.iload 6, 2) := by decide +kernel
theorem dX2_board_92 : decode cX2_board 92 = .ok (.iadd, 1) := by decide +kernel
theorem dX2_board_93 : decode cX2_board 93 = .ok (.iconst 0, 1) := by decide +kernel
theorem dX2_board_94 : decode cX2_board 94 = .ok (.iastore, 1) := by decide +kernel
theorem dX2_board_95 : decode cX2_board 95 = .ok (.iinc 6 1, 3) := by decide +kernel
theorem dX2_board_98 : decode cX2_board 98 = .ok (.goto (-21), 3) := by decide +kernel
theorem dX2_board_101 : decode cX2_board 101 = .ok (.aload_n 0, 1) := by decide +kernel
theorem dX2_board_102 : decode cX2_board 102 = .ok (.getfield 7, 3) := by decide +kernel
theorem dX2_board_105 : decode cX2_board 105 = .ok (.iload 5, 2) := by decide +kernel
theorem dX2_board_107 : decode cX2_board 107 = .ok (.iconst 0, 1) := by decide +kernel
theorem dX2_board_108 : decode cX2_board 108 = .ok (.iadd, 1) := by decide +kernel
theorem dX2_board_109 : decode cX2_board 109 = .ok (.iload_n 1, 1) := by decide +kernel
theorem dX2_board_110 : decode cX2_board 110 = .ok (.iastore, 1) := by decide +kernel
theorem dX2_board_111 : decode cX2_board 111 = .ok (.aload_n 0, 1) := by decide +kernel
theorem dX2_board_112 : decode cX2_board 112 = .ok (.getfield 7, 3) := by decide +kernel
theorem dX2_board_115 : decode cX2_board 115 = .ok (.iload 5, 2) := by decide +kernel
theorem dX2_board_117 : decode cX2_board 117 = .ok (.iconst 1, 1) := by decide +kernel
theorem dX2_board_118 : decode cX2_board 118 = .ok (.iadd, 1) := by decide +kernel
theorem dX2_board_119 : decode cX2_board 119 = .ok (.iload_n 3, 1) := by decide +kernel
theorem dX2_board_120 : decode cX2_board 120 = .ok (.iastore, 1) := by decide +kernel
theorem dX2_board_121 : decode cX2_board 121 = .ok (.aload_n 0, 1) := by decide +kernel
theorem dX2_board_122 : decode cX2_board 122 = .ok (.getfield 7, 3) := by decide +kernel
theorem dX2_board_125 : decode cX2_board 125 = .ok (.iload 5, 2) := by decide +kernel
theorem dX2_board_127 : decode cX2_board 127 = .ok (.iconst 2, 1) := by decide +kernel
theorem dX2_board_128 : decode cX2_board 128 = .ok (.iadd, 1) := by decide +kernel
theorem dX2_board_129 : decode cX2_board 129 = .ok (.iload_n 2, 1) := by decide +kernel
theorem dX2_board_130 : decode cX2_board 130 = .ok (.iastore, 1) := by decide +kernel
theorem dX2_board_131 : decode cX2_board 131 = .ok (.aload_n 0, 1) := by decide +kernel
theorem dX2_board_132 : decode cX2_board 132 = .ok (.getfield 7, 3) := by decide +kernel
theorem dX2_board_135 : decode cX2_board 135 = .ok (.iload 5, 2) := by decide +kernel
theorem dX2_board_137 : decode cX2_board 137 = .ok (.iconst 3, 1) := by decide +kernel
theorem dX2_board_138 : decode cX2_board 138 = .ok (.iadd, 1) := by decide +kernel
theorem dX2_board_139 : decode cX2_board 139 = .ok (.iload_n 3, 1) := by decide +kernel
theorem dX2_board_140 : decode cX2_board 140 = .ok (.iastore, 1) := by decide +kernel
theorem dX2_board_141 : decode cX2_board 141 = .ok (.aload_n 0, 1) := by decide +kernel
theorem dX2_board_142 : decode cX2_board 142 = .ok (.getfield 7, 3) := by decide +kernel
theorem dX2_board_145 : decode cX2_board 145 = .ok (.iload 5, 2) := by decide +kernel
theorem dX2_board_147 : decode cX2_board 147 = .ok (.iconst 5, 1) := by decide +kernel
theorem dX2_board_148 : decode cX2_board 148 = .ok (.iadd, 1) := by decide +kernel
theorem dX2_board_149 : decode cX2_board 149 = .ok (.ldc 31, 2) := by decide +kernel
theorem dX2_board_151 : decode cX2_board 151 = .ok (.iastore, 1) := by decide +kernel
theorem dX2_board_152 : decode cX2_board 152 = .ok (.aload_n 0, 1) := by decide +kernel
theorem dX2_board_153 : decode cX2_board 153 = .ok (.getfield 7, 3) := by decide +kernel
theorem dX2_board_156 : decode cX2_board 156 = .ok (.iconst 1, 1) := by decide +kernel
theorem dX2_board_157 : decode cX2_board 157 = .ok (.dup2, 1) := by decide +kernel
theorem dX2_board_158 : decode cX2_board 158 = .ok (.iaload, 1) := by decide +kernel
theorem dX2_board_159 : decode cX2_board 159 = .ok (.iconst 1, 1) := by decide +kernel
theorem dX2_board_160 : decode cX2_board 160 = .ok (.iadd, 1) := by decide +kernel
theorem dX2_board_161 : decode cX2_board 161 = .ok (.iastore, 1) := by decide +kernel
theorem dX2_board_162 : decode cX2_board 162 = .ok (.iload 4, 2) := by decide +kernel
theorem dX2_board_164 : decode cX2_board 164 = .ok (.ireturn, 1) := by decide +kernel
theorem dX2_puts_0 : decode cX2_puts 0 = .ok (.aload_n 0, 1) := by decide +kernel
theorem dX2_puts_1 : decode cX2_puts 1 = .ok (.getfield 7, 3) := by decide +kernel
theorem dX2_puts_4 : decode cX2_puts 4 = .ok (.bipush 102, 2) := by decide +kernel
theorem dX2_puts_6 : decode cX2_puts 6 = .ok (.bipush 10, 2) := by decide +kernel
theorem dX2_puts_8 : decode cX2_puts 8 = .ok (.iload_n 1, 1) := by decide +kernel
theorem dX2_puts_9 : decode cX2_puts 9 = .ok (.imul, 1) := by decide +kernel
theorem dX2_puts_10 : decode cX2_puts 10 = .ok (.iadd, 1) := by decide +kernel
theorem dX2_puts_11 : decode cX2_puts 11 = .ok (.iload_n 2, 1) := by decide +kernel
theorem dX2_puts_12 : decode cX2_puts 12 = .ok (.iadd, 1) := by decide +kernel
theorem dX2_puts_13 : decode cX2_puts 13 = .ok (.iload_n 3, 1) := by decide +kernel
theorem dX2_puts_14 : decode cX2_puts 14 = .ok (.iastore, 1) := by decide +kernel
theorem dX2_puts_15 : decode cX2_puts 15 = .ok (.return_, 1) := by decide +kernel
set_option maxRecDepth 20000 in
theorem ggX2_walk_X2_isWalker : GoodIn wsX2_walk wsX2_isWalker := goodIn_r _ [8, 9, 38, 39, 40, 41, 42] (by decide +kernel) (by decide +kernel)
set_option maxRecDepth 20000 in
theorem gX2_walk_X2_isWalker : GoodIn wsX2_walk (wsV RX2 81 RX2 yX2_isWalker wsX2_isWalker) := goodIn_app (goodIn_of _ (by decide +kernel)) ggX2_walk_X2_isWalker
set_option maxRecDepth 20000 in
theorem ggX2_walk_X2_isCell : GoodIn wsX2_walk wsX2_isCell := goodIn_r _ [12, 13, 14, 7, 15] (by decide +kernel) (by decide +kernel)
set_option maxRecDepth 20000 in
theorem gX2_walk_X2_isCell : GoodIn wsX2_walk (va_wsS RX2 63 yX2_isCell wsX2_isCell) := goodIn_app (goodIn_of _ (by decide +kernel)) ggX2_walk_X2_isCell
set_option maxRecDepth 20000 in
theorem ggX2_walk_X2_isAboard : GoodIn wsX2_walk wsX2_isAboard := goodIn_r _ [19, 2, 20, 21, 22, 7, 23, 9, 38, 39, 40, 41, 42] (by decide +kernel) (by decide +kernel)
set_option maxRecDepth 20000 in
theorem gX2_walk_X2_isAboard : GoodIn wsX2_walk (wsV RX2 40 RX2 yX2_isAboard wsX2_isAboard) := goodIn_app (goodIn_of _ (by decide +kernel)) ggX2_walk_X2_isAboard
set_option maxRecDepth 20000 in
theorem ggX2_walk_X2_on : GoodIn wsX2_walk wsX2_on := goodIn_r _ [27, 2, 9, 16, 17, 18, 7, 19, 20, 21, 22, 23, 38, 39, 40, 41, 42] (by decide +kernel) (by decide +kernel)
set_option maxRecDepth 20000 in
theorem gX2_walk_X2_on : GoodIn wsX2_walk (wsV RX2 77 RX2 yX2_on wsX2_on) := goodIn_app (goodIn_of _ (by decide +kernel)) ggX2_walk_X2_on
set_option maxRecDepth 20000 in
theorem ggX2_walk_X2_acts : GoodIn wsX2_walk wsX2_acts := goodIn_r _ [31, 32, 33, 9, 38, 39, 40, 41, 42] (by decide +kernel) (by decide +kernel)
set_option maxRecDepth 20000 in
theorem gX2_walk_X2_acts : GoodIn wsX2_walk (wsV RX2 67 RX2 yX2_acts wsX2_acts) := goodIn_app (goodIn_of _ (by decide +kernel)) ggX2_walk_X2_acts
set_option maxRecDepth 20000 in
theorem ggX2_walk_X2_ofWalker : GoodIn wsX2_walk wsX2_ofWalker := goodIn_r _ [23, 9, 38, 39, 40, 41, 42] (by decide +kernel) (by decide +kernel)
set_option maxRecDepth 20000 in
theorem gX2_walk_X2_ofWalker : GoodIn wsX2_walk (wsV RX2 27 RX2 yX2_ofWalker wsX2_ofWalker) := goodIn_app (goodIn_of _ (by decide +kernel)) ggX2_walk_X2_ofWalker
set_option maxRecDepth 20000 in
theorem ggX2_walk_X2_puts : GoodIn wsX2_walk wsX2_puts := goodIn_r _ [37, 9, 38, 39, 40, 41, 42] (by decide +kernel) (by decide +kernel)
set_option maxRecDepth 20000 in
theorem gX2_walk_X2_puts : GoodIn wsX2_walk (wsV RX2 84 RX2 yX2_puts wsX2_puts) := goodIn_app (goodIn_of _ (by decide +kernel)) ggX2_walk_X2_puts
theorem dX2_walk_0 : decode cX2_walk 0 = .ok (.aload_n 0, 1) := by decide +kernel
theorem dX2_walk_1 : decode cX2_walk 1 = .ok (.iload_n 1, 1) := by decide +kernel
theorem dX2_walk_2 : decode cX2_walk 2 = .ok (.invokevirtual 81, 3) := by decide +kernel
theorem dX2_walk_5 : decode cX2_walk 5 = .ok (.ifCond .eq 10, 3) := by decide +kernel
theorem dX2_walk_8 : decode cX2_walk 8 = .ok (.iload_n 2, 1) := by decide +kernel
theorem dX2_walk_9 : decode cX2_walk 9 = .ok (.invokestatic 63, 3) := by decide +kernel
theorem dX2_walk_12 : decode cX2_walk 12 = .ok (.ifCond .ne 6, 3) := by decide +kernel
theorem dX2_walk_15 : decode cX2_walk 15 = .ok (.ldc 66, 2) := by decide +kernel
theorem dX2_walk_17 : decode cX2_walk 17 = .ok (.ireturn, 1) := by decide +kernel
theorem dX2_walk_18 : decode cX2_walk 18 = .ok (.aload_n 0, 1) := by decide +kernel
theorem dX2_walk_19 : decode cX2_walk 19 = .ok (.iload_n 1, 1) := by decide +kernel
theorem dX2_walk_20 : decode cX2_walk 20 = .ok (.invokevirtual 40, 3) := by decide +kernel
theorem dX2_walk_23 : decode cX2_walk 23 = .ok (.ifCond .eq 14, 3) := by decide +kernel
theorem dX2_walk_26 : decode cX2_walk 26 = .ok (.aload_n 0, 1) := by decide +kernel
theorem dX2_walk_27 : decode cX2_walk 27 = .ok (.iload_n 2, 1) := by decide +kernel
theorem dX2_walk_28 : decode cX2_walk 28 = .ok (.iconst 1, 1) := by decide +kernel
theorem dX2_walk_29 : decode cX2_walk 29 = .ok (.invokevirtual 77, 3) := by decide +kernel
theorem dX2_walk_32 : decode cX2_walk 32 = .ok (.ldc 31, 2) := by decide +kernel
theorem dX2_walk_34 : decode cX2_walk 34 = .ok (.if_icmp .eq 6, 3) := by decide +kernel
theorem dX2_walk_37 : decode cX2_walk 37 = .ok (.ldc 70, 2) := by decide +kernel
theorem dX2_walk_39 : decode cX2_walk 39 = .ok (.ireturn, 1) := by decide +kernel
theorem dX2_walk_40 : decode cX2_walk 40 = .ok (.aload_n 0, 1) := by decide +kernel
theorem dX2_walk_41 : decode cX2_walk 41 = .ok (.invokevirtual 67, 3) := by decide +kernel
theorem dX2_walk_44 : decode cX2_walk 44 = .ok (.aload_n 0, 1) := by decide +kernel
theorem dX2_walk_45 : decode cX2_walk 45 = .ok (.aload_n 0, 1) := by decide +kernel
theorem dX2_walk_46 : decode cX2_walk 46 = .ok (.iload_n 1, 1) := by decide +kernel
theorem dX2_walk_47 : decode cX2_walk 47 = .ok (.iconst 1, 1) := by decide +kernel
theorem dX2_walk_48 : decode cX2_walk 48 = .ok (.invokevirtual 27, 3) := by decide +kernel
theorem dX2_walk_51 : decode cX2_walk 51 = .ok (.iconst 3, 1) := by decide +kernel
theorem dX2_walk_52 : decode cX2_walk 52 = .ok (.invokevirtual 77, 3) := by decide +kernel
theorem dX2_walk_55 : decode cX2_walk 55 = .ok (.istore_n 3, 1) := by decide +kernel
theorem dX2_walk_56 : decode cX2_walk 56 = .ok (.aload_n 0, 1) := by decide +kernel
theorem dX2_walk_57 : decode cX2_walk 57 = .ok (.iload_n 1, 1) := by decide +kernel
theorem dX2_walk_58 : decode cX2_walk 58 = .ok (.iconst 1, 1) := by decide +kernel
theorem dX2_walk_59 : decode cX2_walk 59 = .ok (.iload_n 2, 1) := by decide +kernel
theorem dX2_walk_60 : decode cX2_walk 60 = .ok (.invokevirtual 84, 3) := by decide +kernel
theorem dX2_walk_63 : decode cX2_walk 63 = .ok (.aload_n 0, 1) := by decide +kernel
theorem dX2_walk_64 : decode cX2_walk 64 = .ok (.iload_n 3, 1) := by decide +kernel
theorem dX2_walk_65 : decode cX2_walk 65 = .ok (.iconst 3, 1) := by decide +kernel
theorem dX2_walk_66 : decode cX2_walk 66 = .ok (.iload_n 2, 1) := by decide +kernel
theorem dX2_walk_67 : decode cX2_walk 67 = .ok (.invokevirtual 84, 3) := by decide +kernel
theorem dX2_walk_70 : decode cX2_walk 70 = .ok (.iload_n 3, 1) := by decide +kernel
theorem dX2_walk_71 : decode cX2_walk 71 = .ok (.ireturn, 1) := by decide +kernel
set_option maxRecDepth 20000 in
theorem ggX2_exchanges_X2_ofWalker : GoodIn wsX2_exchanges wsX2_ofWalker := goodIn_r _ [5, 6, 11, 12, 13, 14, 15] (by decide +kernel) (by decide +kernel)
set_option maxRecDepth 20000 in
theorem gX2_exchanges_X2_ofWalker : GoodIn wsX2_exchanges (wsV RX2 27 RX2 yX2_ofWalker wsX2_ofWalker) := goodIn_app (goodIn_of _ (by decide +kernel)) ggX2_exchanges_X2_ofWalker
set_option maxRecDepth 20000 in
theorem ggX2_exchanges_X2_puts : GoodIn wsX2_exchanges wsX2_puts := goodIn_r _ [10, 6, 11, 12, 13, 14, 15] (by decide +kernel) (by decide +kernel)
set_option maxRecDepth 20000 in
theorem gX2_exchanges_X2_puts : GoodIn wsX2_exchanges (wsV RX2 84 RX2 yX2_puts wsX2_puts) := goodIn_app (goodIn_of _ (by decide +kernel)) ggX2_exchanges_X2_puts
theorem dX2_exchanges_0 : decode cX2_exchanges 0 = .ok (.aload_n 0, 1) := by decide +kernel
theorem dX2_exchanges_1 : decode cX2_exchanges 1 = .ok (.iload_n 1, 1) := by decide +kernel
theorem dX2_exchanges_2 : decode cX2_exchanges 2 = .ok (.iload_n 3, 1) := by decide +kernel
theorem dX2_exchanges_3 : decode cX2_exchanges 3 = .ok (.invokevirtual 27, 3) := by decide +kernel
theorem dX2_exchanges_6 : decode cX2_exchanges 6 = .ok (.istore 4, 2) := by decide +kernel
theorem dX2_exchanges_8 : decode cX2_exchanges 8 = .ok (.aload_n 0, 1) := by decide +kernel
theorem dX2_exchanges_9 : decode cX2_exchanges 9 = .ok (.iload_n 1, 1) := by decide +kernel
theorem dX2_exchanges_10 : decode cX2_exchanges 10 = .ok (.iload_n 3, 1) := by decide +kernel
theorem dX2_exchanges_11 : decode cX2_exchanges 11 = .ok (.aload_n 0, 1) := by decide +kernel
theorem dX2_exchanges_12 : decode cX2_exchanges 12 = .ok (.iload_n 2, 1) := by decide +kernel
theorem dX2_exchanges_13 : decode cX2_exchanges 13 = .ok (.iload_n 3, 1) := by decide +kernel
theorem dX2_exchanges_14 : decode cX2_exchanges 14 = .ok (.invokevirtual 27, 3) := by decide +kernel
theorem dX2_exchanges_17 : decode cX2_exchanges 17 = .ok (.invokevirtual 84, 3) := by decide +kernel
theorem dX2_exchanges_20 : decode cX2_exchanges 20 = .ok (.aload_n 0, 1) := by decide +kernel
theorem dX2_exchanges_21 : decode cX2_exchanges 21 = .ok (.iload_n 2, 1) := by decide +kernel
theorem dX2_exchanges_22 : decode cX2_exchanges 22 = .ok (.iload_n 3, 1) := by decide +kernel
theorem dX2_exchanges_23 : decode cX2_exchanges 23 = .ok (.iload 4, 2) := by decide +kernel
theorem dX2_exchanges_25 : decode cX2_exchanges 25 = .ok (.invokevirtual 84, 3) := by decide +kernel
theorem dX2_exchanges_28 : decode cX2_exchanges 28 = .ok (.return_, 1) := by decide +kernel
set_option maxRecDepth 20000 in
theorem ggX2_whyNotTwo_X2_isWalker : GoodIn wsX2_whyNotTwo wsX2_isWalker := goodIn_r _ [7, 8, 18, 19, 20, 21, 22] (by decide +kernel) (by decide +kernel)
set_option maxRecDepth 20000 in
theorem gX2_whyNotTwo_X2_isWalker : GoodIn wsX2_whyNotTwo (wsV RX2 81 RX2 yX2_isWalker wsX2_isWalker) := goodIn_app (goodIn_of _ (by decide +kernel)) ggX2_whyNotTwo_X2_isWalker
set_option maxRecDepth 20000 in
theorem ggX2_whyNotTwo_X2_isAboard : GoodIn wsX2_whyNotTwo wsX2_isAboard := goodIn_r _ [12, 13, 14, 15, 16, 6, 17, 8, 18, 19, 20, 21, 22] (by decide +kernel) (by decide +kernel)
set_option maxRecDepth 20000 in
theorem gX2_whyNotTwo_X2_isAboard : GoodIn wsX2_whyNotTwo (wsV RX2 40 RX2 yX2_isAboard wsX2_isAboard) := goodIn_app (goodIn_of _ (by decide +kernel)) ggX2_whyNotTwo_X2_isAboard
theorem dX2_whyNotTwo_0 : decode cX2_whyNotTwo 0 = .ok (.aload_n 0, 1) := by decide +kernel
theorem dX2_whyNotTwo_1 : decode cX2_whyNotTwo 1 = .ok (.iload_n 1, 1) := by decide +kernel
theorem dX2_whyNotTwo_2 : decode cX2_whyNotTwo 2 = .ok (.invokevirtual 81, 3) := by decide +kernel
theorem dX2_whyNotTwo_5 : decode cX2_whyNotTwo 5 = .ok (.ifCond .eq 16, 3) := by decide +kernel
theorem dX2_whyNotTwo_8 : decode cX2_whyNotTwo 8 = .ok (.aload_n 0, 1) := by decide +kernel
theorem dX2_whyNotTwo_9 : decode cX2_whyNotTwo 9 = .ok (.iload_n 2, 1) := by decide +kernel
theorem dX2_whyNotTwo_10 : decode cX2_whyNotTwo 10 = .ok (.invokevirtual 81, 3) := by decide +kernel
theorem dX2_whyNotTwo_13 : decode cX2_whyNotTwo 13 = .ok (.ifCond .eq 8, 3) := by decide +kernel
theorem dX2_whyNotTwo_16 : decode cX2_whyNotTwo 16 = .ok (.iload_n 1, 1) := by decide +kernel
theorem dX2_whyNotTwo_17 : decode cX2_whyNotTwo 17 = .ok (.iload_n 2, 1) := by decide +kernel
theorem dX2_whyNotTwo_18 : decode cX2_whyNotTwo 18 = .ok (.if_icmp .ne 6, 3) := by decide +kernel
theorem dX2_whyNotTwo_21 : decode cX2_whyNotTwo 21 = .ok (.ldc 66, 2) := by decide +kernel
theorem dX2_whyNotTwo_23 : decode cX2_whyNotTwo 23 = .ok (.ireturn, 1) := by decide +kernel
theorem dX2_whyNotTwo_24 : decode cX2_whyNotTwo 24 = .ok (.aload_n 0, 1) := by decide +kernel
theorem dX2_whyNotTwo_25 : decode cX2_whyNotTwo 25 = .ok (.iload_n 1, 1) := by decide +kernel
theorem dX2_whyNotTwo_26 : decode cX2_whyNotTwo 26 = .ok (.invokevirtual 40, 3) := by decide +kernel
theorem dX2_whyNotTwo_29 : decode cX2_whyNotTwo 29 = .ok (.ifCond .eq 15, 3) := by decide +kernel
theorem dX2_whyNotTwo_32 : decode cX2_whyNotTwo 32 = .ok (.aload_n 0, 1) := by decide +kernel
theorem dX2_whyNotTwo_33 : decode cX2_whyNotTwo 33 = .ok (.iload_n 2, 1) := by decide +kernel
theorem dX2_whyNotTwo_34 : decode cX2_whyNotTwo 34 = .ok (.invokevirtual 40, 3) := by decide +kernel
theorem dX2_whyNotTwo_37 : decode cX2_whyNotTwo 37 = .ok (.ifCond .eq 7, 3) := by decide +kernel
theorem dX2_whyNotTwo_40 : decode cX2_whyNotTwo 40 = .ok (.iconst 0, 1) := by decide +kernel
theorem dX2_whyNotTwo_41 : decode cX2_whyNotTwo 41 = .ok (.goto 5, 3) := by decide +kernel
theorem dX2_whyNotTwo_44 : decode cX2_whyNotTwo 44 = .ok (.ldc 70, 2) := by decide +kernel
theorem dX2_whyNotTwo_46 : decode cX2_whyNotTwo 46 = .ok (.ireturn, 1) := by decide +kernel
set_option maxRecDepth 20000 in
theorem ggX2_swap_X2_whyNotTwo : GoodIn wsX2_swap wsX2_whyNotTwo := goodIn_r _ [5, 6, 7, 8, 9, 10, 4, 11, 12, 13, 14, 15, 16, 17, 18, 19, 20, 21, 69, 70, 71, 72, 73] (by decide +kernel) (by decide +kernel)
set_option maxRecDepth 20000 in
theorem gX2_swap_X2_whyNotTwo : GoodIn wsX2_swap (wsV RX2 88 RX2 yX2_whyNotTwo wsX2_whyNotTwo) := goodIn_app (goodIn_of _ (by decide +kernel)) ggX2_swap_X2_whyNotTwo
set_option maxRecDepth 20000 in
theorem ggX2_swap_X2_acts : GoodIn wsX2_swap wsX2_acts := goodIn_r _ [25, 26, 27, 12, 69, 70, 71, 72, 73] (by decide +kernel) (by decide +kernel)
set_option maxRecDepth 20000 in
theorem gX2_swap_X2_acts : GoodIn wsX2_swap (wsV RX2 67 RX2 yX2_acts wsX2_acts) := goodIn_app (goodIn_of _ (by decide +kernel)) ggX2_swap_X2_acts
set_option maxRecDepth 20000 in
theorem ggX2_swap_X2_exchanges : GoodIn wsX2_swap wsX2_exchanges := goodIn_r _ [31, 18, 19, 20, 4, 21, 12, 32, 33, 34, 35, 69, 70, 71, 72, 73] (by decide +kernel) (by decide +kernel)
set_option maxRecDepth 20000 in
theorem gX2_swap_X2_exchanges : GoodIn wsX2_swap (wsV RX2 91 RX2 yX2_exchanges wsX2_exchanges) := goodIn_app (goodIn_of _ (by decide +kernel)) ggX2_swap_X2_exchanges
set_option maxRecDepth 20000 in
theorem ggX2_swap_X2_error : GoodIn wsX2_swap wsX2_error := goodIn_r _ [39, 40, 41, 42, 4, 43, 44, 45, 46, 47, 12, 13, 14, 15, 16, 17, 18, 19, 20, 21, 48, 49, 50, 51, 52, 53, 54, 55, 56, 57, 58, 59, 60, 61, 62, 63, 64, 65, 66, 67, 68, 69, 70, 71, 72, 73] (by decide +kernel) (by decide +kernel)
set_option maxRecDepth 20000 in
theorem gX2_swap_X2_error : GoodIn wsX2_swap (wsV RX2 94 RX2 yX2_error wsX2_error) := goodIn_app (goodIn_of _ (by decide +kernel)) ggX2_swap_X2_error
theorem dX2_swap_0 : decode cX2_swap 0 = .ok (.aload_n 0, 1) := by decide +kernel
theorem dX2_swap_1 : decode cX2_swap 1 = .ok (.iload_n 1, 1) := by decide +kernel
theorem dX2_swap_2 : decode cX2_swap 2 = .ok (.iload_n 2, 1) := by decide +kernel
theorem dX2_swap_3 : decode cX2_swap 3 = .ok (.invokevirtual 88, 3) := by decide +kernel
theorem dX2_swap_6 : decode cX2_swap 6 = .ok (.istore_n 3, 1) := by decide +kernel
theorem dX2_swap_7 : decode cX2_swap 7 = .ok (.iload_n 3, 1) := by decide +kernel
theorem dX2_swap_8 : decode cX2_swap 8 = .ok (.ifCond .eq 5, 3) := by decide +kernel
theorem dX2_swap_11 : decode cX2_swap 11 = .ok (.iload_n 3, 1) := by decide +kernel
theorem dX2_swap_12 : decode cX2_swap 12 = .ok (.ireturn, 1) := by decide +kernel
theorem dX2_swap_13 : decode cX2_swap 13 = .ok (.aload_n 0, 1) := by decide +kernel
theorem dX2_swap_14 : decode cX2_swap 14 = .ok (.invokevirtual 67, 3) := by decide +kernel
theorem dX2_swap_17 : decode cX2_swap 17 = .ok (.aload_n 0, 1) := by decide +kernel
theorem dX2_swap_18 : decode cX2_swap 18 = .ok (.iload_n 1, 1) := by decide +kernel
theorem dX2_swap_19 : decode cX2_swap 19 = .ok (.iload_n 2, 1) := by decide +kernel
theorem dX2_swap_20 : decode cX2_swap 20 = .ok (.iconst 1, 1) := by decide +kernel
theorem dX2_swap_21 : decode cX2_swap 21 = .ok (.invokevirtual 91, 3) := by decide +kernel
theorem dX2_swap_24 : decode cX2_swap 24 = .ok (.aload_n 0, 1) := by decide +kernel
theorem dX2_swap_25 : decode cX2_swap 25 = .ok (.invokevirtual 94, 3) := by decide +kernel
theorem dX2_swap_28 : decode cX2_swap 28 = .ok (.ireturn, 1) := by decide +kernel
set_option maxRecDepth 20000 in
theorem ggX2_leave_X2_isWalker : GoodIn wsX2_leave wsX2_isWalker := goodIn_r _ [8, 9, 32, 33, 34, 35, 36] (by decide +kernel) (by decide +kernel)
set_option maxRecDepth 20000 in
theorem gX2_leave_X2_isWalker : GoodIn wsX2_leave (wsV RX2 81 RX2 yX2_isWalker wsX2_isWalker) := goodIn_app (goodIn_of _ (by decide +kernel)) ggX2_leave_X2_isWalker
set_option maxRecDepth 20000 in
theorem ggX2_leave_X2_isAboard : GoodIn wsX2_leave wsX2_isAboard := goodIn_r _ [13, 3, 14, 15, 16, 7, 17, 9, 32, 33, 34, 35, 36] (by decide +kernel) (by decide +kernel)
set_option maxRecDepth 20000 in
theorem gX2_leave_X2_isAboard : GoodIn wsX2_leave (wsV RX2 40 RX2 yX2_isAboard wsX2_isAboard) := goodIn_app (goodIn_of _ (by decide +kernel)) ggX2_leave_X2_isAboard
set_option maxRecDepth 20000 in
theorem ggX2_leave_X2_acts : GoodIn wsX2_leave wsX2_acts := goodIn_r _ [21, 22, 23, 9, 32, 33, 34, 35, 36] (by decide +kernel) (by decide +kernel)
set_option maxRecDepth 20000 in
theorem gX2_leave_X2_acts : GoodIn wsX2_leave (wsV RX2 67 RX2 yX2_acts wsX2_acts) := goodIn_app (goodIn_of _ (by decide +kernel)) ggX2_leave_X2_acts
set_option maxRecDepth 20000 in
theorem ggX2_leave_X2_ofWalker : GoodIn wsX2_leave wsX2_ofWalker := goodIn_r _ [17, 9, 32, 33, 34, 35, 36] (by decide +kernel) (by decide +kernel)
set_option maxRecDepth 20000 in
theorem gX2_leave_X2_ofWalker : GoodIn wsX2_leave (wsV RX2 27 RX2 yX2_ofWalker wsX2_ofWalker) := goodIn_app (goodIn_of _ (by decide +kernel)) ggX2_leave_X2_ofWalker
set_option maxRecDepth 20000 in
theorem ggX2_leave_X2_on : GoodIn wsX2_leave wsX2_on := goodIn_r _ [27, 3, 9, 10, 11, 12, 7, 13, 14, 15, 16, 17, 32, 33, 34, 35, 36] (by decide +kernel) (by decide +kernel)
set_option maxRecDepth 20000 in
theorem gX2_leave_X2_on : GoodIn wsX2_leave (wsV RX2 77 RX2 yX2_on wsX2_on) := goodIn_app (goodIn_of _ (by decide +kernel)) ggX2_leave_X2_on
set_option maxRecDepth 20000 in
theorem ggX2_leave_X2_puts : GoodIn wsX2_leave wsX2_puts := goodIn_r _ [31, 9, 32, 33, 34, 35, 36] (by decide +kernel) (by decide +kernel)
set_option maxRecDepth 20000 in
theorem gX2_leave_X2_puts : GoodIn wsX2_leave (wsV RX2 84 RX2 yX2_puts wsX2_puts) := goodIn_app (goodIn_of _ (by decide +kernel)) ggX2_leave_X2_puts
theorem dX2_leave_0 : decode cX2_leave 0 = .ok (.aload_n 0, 1) := by decide +kernel
theorem dX2_leave_1 : decode cX2_leave 1 = .ok (.iload_n 1, 1) := by decide +kernel
theorem dX2_leave_2 : decode cX2_leave 2 = .ok (.invokevirtual 81, 3) := by decide +kernel
theorem dX2_leave_5 : decode cX2_leave 5 = .ok (.ifCond .ne 6, 3) := by decide +kernel
theorem dX2_leave_8 : decode cX2_leave 8 = .ok (.ldc 66, 2) := by decide +kernel
theorem dX2_leave_10 : decode cX2_leave 10 = .ok (.ireturn, 1) := by decide +kernel
theorem dX2_leave_11 : decode cX2_leave 11 = .ok (.aload_n 0, 1) := by decide +kernel
theorem dX2_leave_12 : decode cX2_leave 12 = .ok (.iload_n 1, 1) := by decide +kernel
theorem dX2_leave_13 : decode cX2_leave 13 = .ok (.invokevirtual 40, 3) := by decide +kernel
theorem dX2_leave_16 : decode cX2_leave 16 = .ok (.ifCond .ne 6, 3) := by decide +kernel
theorem dX2_leave_19 : decode cX2_leave 19 = .ok (.ldc 70, 2) := by decide +kernel
theorem dX2_leave_21 : decode cX2_leave 21 = .ok (.ireturn, 1) := by decide +kernel
theorem dX2_leave_22 : decode cX2_leave 22 = .ok (.aload_n 0, 1) := by decide +kernel
theorem dX2_leave_23 : decode cX2_leave 23 = .ok (.invokevirtual 67, 3) := by decide +kernel
theorem dX2_leave_26 : decode cX2_leave 26 = .ok (.aload_n 0, 1) := by decide +kernel
theorem dX2_leave_27 : decode cX2_leave 27 = .ok (.aload_n 0, 1) := by decide +kernel
theorem dX2_leave_28 : decode cX2_leave 28 = .ok (.iload_n 1, 1) := by decide +kernel
theorem dX2_leave_29 : decode cX2_leave 29 = .ok (.iconst 1, 1) := by decide +kernel
theorem dX2_leave_30 : decode cX2_leave 30 = .ok (.invokevirtual 27, 3) := by decide +kernel
theorem dX2_leave_33 : decode cX2_leave 33 = .ok (.iconst 3, 1) := by decide +kernel
theorem dX2_leave_34 : decode cX2_leave 34 = .ok (.invokevirtual 77, 3) := by decide +kernel
theorem dX2_leave_37 : decode cX2_leave 37 = .ok (.istore_n 2, 1) := by decide +kernel
theorem dX2_leave_38 : decode cX2_leave 38 = .ok (.aload_n 0, 1) := by decide +kernel
theorem dX2_leave_39 : decode cX2_leave 39 = .ok (.iload_n 2, 1) := by decide +kernel
theorem dX2_leave_40 : decode cX2_leave 40 = .ok (.iconst 3, 1) := by decide +kernel
theorem dX2_leave_41 : decode cX2_leave 41 = .ok (.aload_n 0, 1) := by decide +kernel
theorem dX2_leave_42 : decode cX2_leave 42 = .ok (.iload_n 1, 1) := by decide +kernel
theorem dX2_leave_43 : decode cX2_leave 43 = .ok (.iconst 3, 1) := by decide +kernel
theorem dX2_leave_44 : decode cX2_leave 44 = .ok (.invokevirtual 27, 3) := by decide +kernel
theorem dX2_leave_47 : decode cX2_leave 47 = .ok (.invokevirtual 84, 3) := by decide +kernel
theorem dX2_leave_50 : decode cX2_leave 50 = .ok (.aload_n 0, 1) := by decide +kernel
theorem dX2_leave_51 : decode cX2_leave 51 = .ok (.iload_n 1, 1) := by decide +kernel
theorem dX2_leave_52 : decode cX2_leave 52 = .ok (.iconst 1, 1) := by decide +kernel
theorem dX2_leave_53 : decode cX2_leave 53 = .ok (.ldc 31, 2) := by decide +kernel
theorem dX2_leave_55 : decode cX2_leave 55 = .ok (.invokevirtual 84, 3) := by decide +kernel
theorem dX2_leave_58 : decode cX2_leave 58 = .ok (.aload_n 0, 1) := by decide +kernel
theorem dX2_leave_59 : decode cX2_leave 59 = .ok (.iload_n 1, 1) := by decide +kernel
theorem dX2_leave_60 : decode cX2_leave 60 = .ok (.iconst 3, 1) := by decide +kernel
theorem dX2_leave_61 : decode cX2_leave 61 = .ok (.ldc 31, 2) := by decide +kernel
theorem dX2_leave_63 : decode cX2_leave 63 = .ok (.invokevirtual 84, 3) := by decide +kernel
theorem dX2_leave_66 : decode cX2_leave 66 = .ok (.aload_n 0, 1) := by decide +kernel
theorem dX2_leave_67 : decode cX2_leave 67 = .ok (.iload_n 1, 1) := by decide +kernel
theorem dX2_leave_68 : decode cX2_leave 68 = .ok (.iconst 2, 1) := by decide +kernel
theorem dX2_leave_69 : decode cX2_leave 69 = .ok (.ldc 31, 2) := by decide +kernel
theorem dX2_leave_71 : decode cX2_leave 71 = .ok (.invokevirtual 84, 3) := by decide +kernel
theorem dX2_leave_74 : decode cX2_leave 74 = .ok (.iload_n 2, 1) := by decide +kernel
theorem dX2_leave_75 : decode cX2_leave 75 = .ok (.iload_n 1, 1) := by decide +kernel
theorem dX2_leave_76 : decode cX2_leave 76 = .ok (.if_icmp .ne 7, 3) := by decide +kernel
theorem dX2_leave_79 : decode cX2_leave 79 = .ok (.iconst 1, 1) := by decide +kernel
theorem dX2_leave_80 : decode cX2_leave 80 = .ok (.goto 4, 3) := by decide +kernel
theorem dX2_leave_83 : decode cX2_leave 83 = .ok (.iconst 0, 1) := by decide +kernel
theorem dX2_leave_84 : decode cX2_leave 84 = .ok (.ireturn, 1) := by decide +kernel
set_option maxRecDepth 20000 in
theorem ggX2_setPrice_X2_in : GoodIn wsX2_setPrice wsX2_in := goodIn_r _ [6] (by decide +kernel) (by decide +kernel)
set_option maxRecDepth 20000 in
theorem gX2_setPrice_X2_in : GoodIn wsX2_setPrice (va_wsS RX2 23 yX2_in wsX2_in) := goodIn_app (goodIn_of _ (by decide +kernel)) ggX2_setPrice_X2_in
set_option maxRecDepth 20000 in
theorem ggX2_setPrice_X2_acts : GoodIn wsX2_setPrice wsX2_acts := goodIn_r _ [10, 11, 12, 2, 13, 14, 15, 16, 17] (by decide +kernel) (by decide +kernel)
set_option maxRecDepth 20000 in
theorem gX2_setPrice_X2_acts : GoodIn wsX2_setPrice (wsV RX2 67 RX2 yX2_acts wsX2_acts) := goodIn_app (goodIn_of _ (by decide +kernel)) ggX2_setPrice_X2_acts
theorem dX2_setPrice_0 : decode cX2_setPrice 0 = .ok (.iload_n 1, 1) := by decide +kernel
theorem dX2_setPrice_1 : decode cX2_setPrice 1 = .ok (.iconst 0, 1) := by decide +kernel
theorem dX2_setPrice_2 : decode cX2_setPrice 2 = .ok (.bipush 100, 2) := by decide +kernel
theorem dX2_setPrice_4 : decode cX2_setPrice 4 = .ok (.invokestatic 23, 3) := by decide +kernel
theorem dX2_setPrice_7 : decode cX2_setPrice 7 = .ok (.ifCond .ne 6, 3) := by decide +kernel
theorem dX2_setPrice_10 : decode cX2_setPrice 10 = .ok (.ldc 66, 2) := by decide +kernel
theorem dX2_setPrice_12 : decode cX2_setPrice 12 = .ok (.ireturn, 1) := by decide +kernel
theorem dX2_setPrice_13 : decode cX2_setPrice 13 = .ok (.aload_n 0, 1) := by decide +kernel
theorem dX2_setPrice_14 : decode cX2_setPrice 14 = .ok (.invokevirtual 67, 3) := by decide +kernel
theorem dX2_setPrice_17 : decode cX2_setPrice 17 = .ok (.aload_n 0, 1) := by decide +kernel
theorem dX2_setPrice_18 : decode cX2_setPrice 18 = .ok (.getfield 7, 3) := by decide +kernel
theorem dX2_setPrice_21 : decode cX2_setPrice 21 = .ok (.iconst 2, 1) := by decide +kernel
theorem dX2_setPrice_22 : decode cX2_setPrice 22 = .ok (.iaload, 1) := by decide +kernel
theorem dX2_setPrice_23 : decode cX2_setPrice 23 = .ok (.istore_n 2, 1) := by decide +kernel
theorem dX2_setPrice_24 : decode cX2_setPrice 24 = .ok (.aload_n 0, 1) := by decide +kernel
theorem dX2_setPrice_25 : decode cX2_setPrice 25 = .ok (.getfield 7, 3) := by decide +kernel
theorem dX2_setPrice_28 : decode cX2_setPrice 28 = .ok (.iconst 2, 1) := by decide +kernel
theorem dX2_setPrice_29 : decode cX2_setPrice 29 = .ok (.iload_n 1, 1) := by decide +kernel
theorem dX2_setPrice_30 : decode cX2_setPrice 30 = .ok (.iastore, 1) := by decide +kernel
theorem dX2_setPrice_31 : decode cX2_setPrice 31 = .ok (.iload_n 2, 1) := by decide +kernel
theorem dX2_setPrice_32 : decode cX2_setPrice 32 = .ok (.ireturn, 1) := by decide +kernel
set_option maxRecDepth 20000 in
theorem ggX2_accuse_X2_whyNotTwo : GoodIn wsX2_accuse wsX2_whyNotTwo := goodIn_r _ [6, 7, 8, 9, 10, 11, 5, 12, 1, 13, 14, 15, 16, 17, 18, 19, 20, 21, 69, 70, 71, 72, 73] (by decide +kernel) (by decide +kernel)
set_option maxRecDepth 20000 in
theorem gX2_accuse_X2_whyNotTwo : GoodIn wsX2_accuse (wsV RX2 88 RX2 yX2_whyNotTwo wsX2_whyNotTwo) := goodIn_app (goodIn_of _ (by decide +kernel)) ggX2_accuse_X2_whyNotTwo
set_option maxRecDepth 20000 in
theorem ggX2_accuse_X2_acts : GoodIn wsX2_accuse wsX2_acts := goodIn_r _ [25, 26, 27, 1, 69, 70, 71, 72, 73] (by decide +kernel) (by decide +kernel)
set_option maxRecDepth 20000 in
theorem gX2_accuse_X2_acts : GoodIn wsX2_accuse (wsV RX2 67 RX2 yX2_acts wsX2_acts) := goodIn_app (goodIn_of _ (by decide +kernel)) ggX2_accuse_X2_acts
set_option maxRecDepth 20000 in
theorem ggX2_accuse_X2_exchanges : GoodIn wsX2_accuse wsX2_exchanges := goodIn_r _ [31, 18, 19, 20, 5, 21, 1, 32, 33, 34, 35, 69, 70, 71, 72, 73] (by decide +kernel) (by decide +kernel)
set_option maxRecDepth 20000 in
theorem gX2_accuse_X2_exchanges : GoodIn wsX2_accuse (wsV RX2 91 RX2 yX2_exchanges wsX2_exchanges) := goodIn_app (goodIn_of _ (by decide +kernel)) ggX2_accuse_X2_exchanges
set_option maxRecDepth 20000 in
theorem ggX2_accuse_X2_error : GoodIn wsX2_accuse wsX2_error := goodIn_r _ [39, 40, 41, 42, 5, 43, 44, 45, 46, 47, 1, 13, 14, 15, 16, 17, 18, 19, 20, 21, 48, 49, 50, 51, 52, 53, 54, 55, 56, 57, 58, 59, 60, 61, 62, 63, 64, 65, 66, 67, 68, 69, 70, 71, 72, 73] (by decide +kernel) (by decide +kernel)
set_option maxRecDepth 20000 in
theorem gX2_accuse_X2_error : GoodIn wsX2_accuse (wsV RX2 94 RX2 yX2_error wsX2_error) := goodIn_app (goodIn_of _ (by decide +kernel)) ggX2_accuse_X2_error
theorem dX2_accuse_0 : decode cX2_accuse 0 = .ok (.aload_n 0, 1) := by decide +kernel
theorem dX2_accuse_1 : decode cX2_accuse 1 = .ok (.iload_n 1, 1) := by decide +kernel
theorem dX2_accuse_2 : decode cX2_accuse 2 = .ok (.iload_n 2, 1) := by decide +kernel
theorem dX2_accuse_3 : decode cX2_accuse 3 = .ok (.invokevirtual 88, 3) := by decide +kernel
theorem dX2_accuse_6 : decode cX2_accuse 6 = .ok (.istore_n 3, 1) := by decide +kernel
theorem dX2_accuse_7 : decode cX2_accuse 7 = .ok (.iload_n 3, 1) := by decide +kernel
theorem dX2_accuse_8 : decode cX2_accuse 8 = .ok (.ifCond .eq 5, 3) := by decide +kernel
theorem dX2_accuse_11 : decode cX2_accuse 11 = .ok (.iload_n 3, 1) := by decide +kernel
theorem dX2_accuse_12 : decode cX2_accuse 12 = .ok (.ireturn, 1) := by decide +kernel
theorem dX2_accuse_13 : decode cX2_accuse 13 = .ok (.aload_n 0, 1) := by decide +kernel
theorem dX2_accuse_14 : decode cX2_accuse 14 = .ok (.invokevirtual 67, 3) := by decide +kernel
theorem dX2_accuse_17 : decode cX2_accuse 17 = .ok (.aload_n 0, 1) := by decide +kernel
theorem dX2_accuse_18 : decode cX2_accuse 18 = .ok (.iload_n 1, 1) := by decide +kernel
theorem dX2_accuse_19 : decode cX2_accuse 19 = .ok (.iload_n 2, 1) := by decide +kernel
theorem dX2_accuse_20 : decode cX2_accuse 20 = .ok (.iconst 3, 1) := by decide +kernel
theorem dX2_accuse_21 : decode cX2_accuse 21 = .ok (.invokevirtual 91, 3) := by decide +kernel
theorem dX2_accuse_24 : decode cX2_accuse 24 = .ok (.aload_n 0, 1) := by decide +kernel
theorem dX2_accuse_25 : decode cX2_accuse 25 = .ok (.getfield 7, 3) := by decide +kernel
theorem dX2_accuse_28 : decode cX2_accuse 28 = .ok (.bipush 102, 2) := by decide +kernel
theorem dX2_accuse_30 : decode cX2_accuse 30 = .ok (.bipush 10, 2) := by decide +kernel
theorem dX2_accuse_32 : decode cX2_accuse 32 = .ok (.iload_n 1, 1) := by decide +kernel
theorem dX2_accuse_33 : decode cX2_accuse 33 = .ok (.imul, 1) := by decide +kernel
theorem dX2_accuse_34 : decode cX2_accuse 34 = .ok (.iadd, 1) := by decide +kernel
theorem dX2_accuse_35 : decode cX2_accuse 35 = .ok (.iconst 4, 1) := by decide +kernel
theorem dX2_accuse_36 : decode cX2_accuse 36 = .ok (.iadd, 1) := by decide +kernel
theorem dX2_accuse_37 : decode cX2_accuse 37 = .ok (.dup2, 1) := by decide +kernel
theorem dX2_accuse_38 : decode cX2_accuse 38 = .ok (.iaload, 1) := by decide +kernel
theorem dX2_accuse_39 : decode cX2_accuse 39 = .ok (.iconst 1, 1) := by decide +kernel
theorem dX2_accuse_40 : decode cX2_accuse 40 = .ok (.iadd, 1) := by decide +kernel
theorem dX2_accuse_41 : decode cX2_accuse 41 = .ok (.iastore, 1) := by decide +kernel
theorem dX2_accuse_42 : decode cX2_accuse 42 = .ok (.aload_n 0, 1) := by decide +kernel
theorem dX2_accuse_43 : decode cX2_accuse 43 = .ok (.getfield 7, 3) := by decide +kernel
theorem dX2_accuse_46 : decode cX2_accuse 46 = .ok (.bipush 102, 2) := by decide +kernel
theorem dX2_accuse_48 : decode cX2_accuse 48 = .ok (.bipush 10, 2) := by decide +kernel
theorem dX2_accuse_50 : decode cX2_accuse 50 = .ok (.iload_n 2, 1) := by decide +kernel
