theorem dX1_kilogramsToBill_11 : decode cX1_kilogramsToBill 11 = .ok (.bipush 100, 2) := by decide +kernel
theorem dX1_kilogramsToBill_13 : decode cX1_kilogramsToBill 13 = .ok (.idiv, 1) := by decide +kernel
theorem dX1_kilogramsToBill_14 : decode cX1_kilogramsToBill 14 = .ok (.istore_n 2, 1) := by decide +kernel
theorem dX1_kilogramsToBill_15 : decode cX1_kilogramsToBill 15 = .ok (.aload_n 0, 1) := by decide +kernel
theorem dX1_kilogramsToBill_16 : decode cX1_kilogramsToBill 16 = .ok (.invokevirtual 149, 3) := by decide +kernel
theorem dX1_kilogramsToBill_19 : decode cX1_kilogramsToBill 19 = .ok (.aload_n 0, 1) := by decide +kernel
theorem dX1_kilogramsToBill_20 : decode cX1_kilogramsToBill 20 = .ok (.getfield 10, 3) := by decide +kernel
theorem dX1_kilogramsToBill_23 : decode cX1_kilogramsToBill 23 = .ok (.getfield 62, 3) := by decide +kernel
theorem dX1_kilogramsToBill_26 : decode cX1_kilogramsToBill 26 = .ok (.invokestatic 152, 3) := by decide +kernel
theorem dX1_kilogramsToBill_29 : decode cX1_kilogramsToBill 29 = .ok (.isub, 1) := by decide +kernel
theorem dX1_kilogramsToBill_30 : decode cX1_kilogramsToBill 30 = .ok (.aload_n 0, 1) := by decide +kernel
theorem dX1_kilogramsToBill_31 : decode cX1_kilogramsToBill 31 = .ok (.invokevirtual 158, 3) := by decide +kernel
theorem dX1_kilogramsToBill_34 : decode cX1_kilogramsToBill 34 = .ok (.isub, 1) := by decide +kernel
theorem dX1_kilogramsToBill_35 : decode cX1_kilogramsToBill 35 = .ok (.istore_n 3, 1) := by decide +kernel
theorem dX1_kilogramsToBill_36 : decode cX1_kilogramsToBill 36 = .ok (.iconst 0, 1) := by decide +kernel
theorem dX1_kilogramsToBill_37 : decode cX1_kilogramsToBill 37 = .ok (.iload_n 2, 1) := by decide +kernel
theorem dX1_kilogramsToBill_38 : decode cX1_kilogramsToBill 38 = .ok (.iload_n 3, 1) := by decide +kernel
theorem dX1_kilogramsToBill_39 : decode cX1_kilogramsToBill 39 = .ok (.invokestatic 205, 3) := by decide +kernel
theorem dX1_kilogramsToBill_42 : decode cX1_kilogramsToBill 42 = .ok (.invokestatic 129, 3) := by decide +kernel
theorem dX1_kilogramsToBill_45 : decode cX1_kilogramsToBill 45 = .ok (.ireturn, 1) := by decide +kernel
set_option maxRecDepth 20000 in
theorem ggX1_kilogramsBilled_X1_orZero : GoodIn wsX1_kilogramsBilled wsX1_orZero := goodIn_r _ [7, 8] (by decide +kernel) (by decide +kernel)
set_option maxRecDepth 20000 in
theorem gX1_kilogramsBilled_X1_orZero : GoodIn wsX1_kilogramsBilled (va_wsS RX1 211 yX1_orZero wsX1_orZero) := goodIn_app (goodIn_of _ (by decide +kernel)) ggX1_kilogramsBilled_X1_orZero
theorem dX1_kilogramsBilled_0 : decode cX1_kilogramsBilled 0 = .ok (.iconst 0, 1) := by decide +kernel
theorem dX1_kilogramsBilled_1 : decode cX1_kilogramsBilled 1 = .ok (.istore_n 1, 1) := by decide +kernel
theorem dX1_kilogramsBilled_2 : decode cX1_kilogramsBilled 2 = .ok (.iconst 0, 1) := by decide +kernel
theorem dX1_kilogramsBilled_3 : decode cX1_kilogramsBilled 3 = .ok (.istore_n 2, 1) := by decide +kernel
theorem dX1_kilogramsBilled_4 : decode cX1_kilogramsBilled 4 = .ok (.iload_n 2, 1) := by decide +kernel
theorem dX1_kilogramsBilled_5 : decode cX1_kilogramsBilled 5 = .ok (.bipush 8, 2) := by decide +kernel
theorem dX1_kilogramsBilled_7 : decode cX1_kilogramsBilled 7 = .ok (.if_icmp .ge 37, 3) := by decide +kernel
theorem dX1_kilogramsBilled_10 : decode cX1_kilogramsBilled 10 = .ok (.iload_n 1, 1) := by decide +kernel
theorem dX1_kilogramsBilled_11 : decode cX1_kilogramsBilled 11 = .ok (.aload_n 0, 1) := by decide +kernel
theorem dX1_kilogramsBilled_12 : decode cX1_kilogramsBilled 12 = .ok (.getfield 10, 3) := by decide +kernel
theorem dX1_kilogramsBilled_15 : decode cX1_kilogramsBilled 15 = .ok (.getfield 116, 3) := by decide +kernel
theorem dX1_kilogramsBilled_18 : decode cX1_kilogramsBilled 18 = .ok (.iload_n 2, 1) := by decide +kernel
theorem dX1_kilogramsBilled_19 : decode cX1_kilogramsBilled 19 = .ok (.iaload, 1) := by decide +kernel
theorem dX1_kilogramsBilled_20 : decode cX1_kilogramsBilled 20 = .ok (.invokestatic 211, 3) := by decide +kernel
theorem dX1_kilogramsBilled_23 : decode cX1_kilogramsBilled 23 = .ok (.aload_n 0, 1) := by decide +kernel
theorem dX1_kilogramsBilled_24 : decode cX1_kilogramsBilled 24 = .ok (.getfield 10, 3) := by decide +kernel
theorem dX1_kilogramsBilled_27 : decode cX1_kilogramsBilled 27 = .ok (.getfield 126, 3) := by decide +kernel
theorem dX1_kilogramsBilled_30 : decode cX1_kilogramsBilled 30 = .ok (.iload_n 2, 1) := by decide +kernel
theorem dX1_kilogramsBilled_31 : decode cX1_kilogramsBilled 31 = .ok (.iaload, 1) := by decide +kernel
theorem dX1_kilogramsBilled_32 : decode cX1_kilogramsBilled 32 = .ok (.invokestatic 211, 3) := by decide +kernel
theorem dX1_kilogramsBilled_35 : decode cX1_kilogramsBilled 35 = .ok (.isub, 1) := by decide +kernel
theorem dX1_kilogramsBilled_36 : decode cX1_kilogramsBilled 36 = .ok (.iadd, 1) := by decide +kernel
theorem dX1_kilogramsBilled_37 : decode cX1_kilogramsBilled 37 = .ok (.istore_n 1, 1) := by decide +kernel
theorem dX1_kilogramsBilled_38 : decode cX1_kilogramsBilled 38 = .ok (.iinc 2 1, 3) := by decide +kernel
theorem dX1_kilogramsBilled_41 : decode cX1_kilogramsBilled 41 = .ok (.goto (-37), 3) := by decide +kernel
theorem dX1_kilogramsBilled_44 : decode cX1_kilogramsBilled 44 = .ok (.iload_n 1, 1) := by decide +kernel
theorem dX1_kilogramsBilled_45 : decode cX1_kilogramsBilled 45 = .ok (.ireturn, 1) := by decide +kernel
set_option maxRecDepth 20000 in
theorem ggX1_billAmount_X1_isWalker : GoodIn wsX1_billAmount wsX1_isWalker := goodIn_r _ [8, 1, 9, 14, 15, 16, 17, 18, 19, 20, 21, 22, 23, 24, 25, 26, 27, 28, 29, 30, 31, 32, 33, 34, 35] (by decide +kernel) (by decide +kernel)
set_option maxRecDepth 20000 in
theorem gX1_billAmount_X1_isWalker : GoodIn wsX1_billAmount (wsV RX1 92 RX1 yX1_isWalker wsX1_isWalker) := goodIn_app (goodIn_of _ (by decide +kernel)) ggX1_billAmount_X1_isWalker
set_option maxRecDepth 20000 in
theorem ggX1_billAmount_X1_orZero : GoodIn wsX1_billAmount wsX1_orZero := goodIn_r _ [12, 13] (by decide +kernel) (by decide +kernel)
set_option maxRecDepth 20000 in
theorem gX1_billAmount_X1_orZero : GoodIn wsX1_billAmount (va_wsS RX1 211 yX1_orZero wsX1_orZero) := goodIn_app (goodIn_of _ (by decide +kernel)) ggX1_billAmount_X1_orZero
theorem dX1_billAmount_0 : decode cX1_billAmount 0 = .ok (.aload_n 0, 1) := by decide +kernel
theorem dX1_billAmount_1 : decode cX1_billAmount 1 = .ok (.iload_n 1, 1) := by decide +kernel
theorem dX1_billAmount_2 : decode cX1_billAmount 2 = .ok (.invokevirtual 92, 3) := by decide +kernel
theorem dX1_billAmount_5 : decode cX1_billAmount 5 = .ok (.ifCond .eq 28, 3) := by decide +kernel
theorem dX1_billAmount_8 : decode cX1_billAmount 8 = .ok (.aload_n 0, 1) := by decide +kernel
theorem dX1_billAmount_9 : decode cX1_billAmount 9 = .ok (.getfield 10, 3) := by decide +kernel
theorem dX1_billAmount_12 : decode cX1_billAmount 12 = .ok (.getfield 116, 3) := by decide +kernel
theorem dX1_billAmount_15 : decode cX1_billAmount 15 = .ok (.iload_n 1, 1) := by decide +kernel
theorem dX1_billAmount_16 : decode cX1_billAmount 16 = .ok (.iaload, 1) := by decide +kernel
theorem dX1_billAmount_17 : decode cX1_billAmount 17 = .ok (.invokestatic 211, 3) := by decide +kernel
theorem dX1_billAmount_20 : decode cX1_billAmount 20 = .ok (.aload_n 0, 1) := by decide +kernel
theorem dX1_billAmount_21 : decode cX1_billAmount 21 = .ok (.getfield 10, 3) := by decide +kernel
theorem dX1_billAmount_24 : decode cX1_billAmount 24 = .ok (.getfield 123, 3) := by decide +kernel
theorem dX1_billAmount_27 : decode cX1_billAmount 27 = .ok (.iload_n 1, 1) := by decide +kernel
theorem dX1_billAmount_28 : decode cX1_billAmount 28 = .ok (.iaload, 1) := by decide +kernel
theorem dX1_billAmount_29 : decode cX1_billAmount 29 = .ok (.imul, 1) := by decide +kernel
theorem dX1_billAmount_30 : decode cX1_billAmount 30 = .ok (.goto 4, 3) := by decide +kernel
theorem dX1_billAmount_33 : decode cX1_billAmount 33 = .ok (.iconst 0, 1) := by decide +kernel
theorem dX1_billAmount_34 : decode cX1_billAmount 34 = .ok (.ireturn, 1) := by decide +kernel
set_option maxRecDepth 20000 in
theorem ggX1_backAmount_X1_isWalker : GoodIn wsX1_backAmount wsX1_isWalker := goodIn_r _ [8, 1, 9, 14, 15, 16, 17, 18, 19, 20, 21, 22, 23, 24, 25, 26, 27, 28, 29, 30, 31, 32, 33, 34, 35] (by decide +kernel) (by decide +kernel)
set_option maxRecDepth 20000 in
theorem gX1_backAmount_X1_isWalker : GoodIn wsX1_backAmount (wsV RX1 92 RX1 yX1_isWalker wsX1_isWalker) := goodIn_app (goodIn_of _ (by decide +kernel)) ggX1_backAmount_X1_isWalker
set_option maxRecDepth 20000 in
theorem ggX1_backAmount_X1_orZero : GoodIn wsX1_backAmount wsX1_orZero := goodIn_r _ [12, 13] (by decide +kernel) (by decide +kernel)
set_option maxRecDepth 20000 in
theorem gX1_backAmount_X1_orZero : GoodIn wsX1_backAmount (va_wsS RX1 211 yX1_orZero wsX1_orZero) := goodIn_app (goodIn_of _ (by decide +kernel)) ggX1_backAmount_X1_orZero
theorem dX1_backAmount_0 : decode cX1_backAmount 0 = .ok (.aload_n 0, 1) := by decide +kernel
theorem dX1_backAmount_1 : decode cX1_backAmount 1 = .ok (.iload_n 1, 1) := by decide +kernel
theorem dX1_backAmount_2 : decode cX1_backAmount 2 = .ok (.invokevirtual 92, 3) := by decide +kernel
theorem dX1_backAmount_5 : decode cX1_backAmount 5 = .ok (.ifCond .eq 28, 3) := by decide +kernel
theorem dX1_backAmount_8 : decode cX1_backAmount 8 = .ok (.aload_n 0, 1) := by decide +kernel
theorem dX1_backAmount_9 : decode cX1_backAmount 9 = .ok (.getfield 10, 3) := by decide +kernel
theorem dX1_backAmount_12 : decode cX1_backAmount 12 = .ok (.getfield 126, 3) := by decide +kernel
theorem dX1_backAmount_15 : decode cX1_backAmount 15 = .ok (.iload_n 1, 1) := by decide +kernel
theorem dX1_backAmount_16 : decode cX1_backAmount 16 = .ok (.iaload, 1) := by decide +kernel
theorem dX1_backAmount_17 : decode cX1_backAmount 17 = .ok (.invokestatic 211, 3) := by decide +kernel
theorem dX1_backAmount_20 : decode cX1_backAmount 20 = .ok (.aload_n 0, 1) := by decide +kernel
theorem dX1_backAmount_21 : decode cX1_backAmount 21 = .ok (.getfield 10, 3) := by decide +kernel
theorem dX1_backAmount_24 : decode cX1_backAmount 24 = .ok (.getfield 123, 3) := by decide +kernel
theorem dX1_backAmount_27 : decode cX1_backAmount 27 = .ok (.iload_n 1, 1) := by decide +kernel
theorem dX1_backAmount_28 : decode cX1_backAmount 28 = .ok (.iaload, 1) := by decide +kernel
theorem dX1_backAmount_29 : decode cX1_backAmount 29 = .ok (.imul, 1) := by decide +kernel
theorem dX1_backAmount_30 : decode cX1_backAmount 30 = .ok (.goto 4, 3) := by decide +kernel
theorem dX1_backAmount_33 : decode cX1_backAmount 33 = .ok (.iconst 0, 1) := by decide +kernel
theorem dX1_backAmount_34 : decode cX1_backAmount 34 = .ok (.ireturn, 1) := by decide +kernel
set_option maxRecDepth 20000 in
theorem ggX1_sumOfBillAmounts_X1_billAmount : GoodIn wsX1_sumOfBillAmounts wsX1_billAmount := goodIn_r _ [5, 6, 7, 8, 9, 10, 11, 4, 12, 13, 14, 15, 16, 17, 18, 19, 20, 21, 22, 23, 24, 25, 26, 27, 28, 29, 30, 31, 32, 33, 34, 35, 36, 37, 38, 39] (by decide +kernel) (by decide +kernel)
set_option maxRecDepth 20000 in
theorem gX1_sumOfBillAmounts_X1_billAmount : GoodIn wsX1_sumOfBillAmounts (wsV RX1 171 RX1 yX1_billAmount wsX1_billAmount) := goodIn_app (goodIn_of _ (by decide +kernel)) ggX1_sumOfBillAmounts_X1_billAmount
theorem dX1_sumOfBillAmounts_0 : decode cX1_sumOfBillAmounts 0 = .ok (.iconst 0, 1) := by decide +kernel
theorem dX1_sumOfBillAmounts_1 : decode cX1_sumOfBillAmounts 1 = .ok (.istore_n 1, 1) := by decide +kernel
theorem dX1_sumOfBillAmounts_2 : decode cX1_sumOfBillAmounts 2 = .ok (.iconst 0, 1) := by decide +kernel
theorem dX1_sumOfBillAmounts_3 : decode cX1_sumOfBillAmounts 3 = .ok (.istore_n 2, 1) := by decide +kernel
theorem dX1_sumOfBillAmounts_4 : decode cX1_sumOfBillAmounts 4 = .ok (.iload_n 2, 1) := by decide +kernel
theorem dX1_sumOfBillAmounts_5 : decode cX1_sumOfBillAmounts 5 = .ok (.bipush 8, 2) := by decide +kernel
theorem dX1_sumOfBillAmounts_7 : decode cX1_sumOfBillAmounts 7 = .ok (.if_icmp .ge 17, 3) := by decide +kernel
theorem dX1_sumOfBillAmounts_10 : decode cX1_sumOfBillAmounts 10 = .ok (.iload_n 1, 1) := by decide +kernel
theorem dX1_sumOfBillAmounts_11 : decode cX1_sumOfBillAmounts 11 = .ok (.aload_n 0, 1) := by decide +kernel
theorem dX1_sumOfBillAmounts_12 : decode cX1_sumOfBillAmounts 12 = .ok (.iload_n 2, 1) := by decide +kernel
theorem dX1_sumOfBillAmounts_13 : decode cX1_sumOfBillAmounts 13 = .ok (.invokevirtual 171, 3) := by decide +kernel
theorem dX1_sumOfBillAmounts_16 : decode cX1_sumOfBillAmounts 16 = .ok (.iadd, 1) := by decide +kernel
theorem dX1_sumOfBillAmounts_17 : decode cX1_sumOfBillAmounts 17 = .ok (.istore_n 1, 1) := by decide +kernel
theorem dX1_sumOfBillAmounts_18 : decode cX1_sumOfBillAmounts 18 = .ok (.iinc 2 1, 3) := by decide +kernel
theorem dX1_sumOfBillAmounts_21 : decode cX1_sumOfBillAmounts 21 = .ok (.goto (-17), 3) := by decide +kernel
theorem dX1_sumOfBillAmounts_24 : decode cX1_sumOfBillAmounts 24 = .ok (.iload_n 1, 1) := by decide +kernel
theorem dX1_sumOfBillAmounts_25 : decode cX1_sumOfBillAmounts 25 = .ok (.ireturn, 1) := by decide +kernel
set_option maxRecDepth 20000 in
theorem ggX1_sumOfBackAmounts_X1_backAmount : GoodIn wsX1_sumOfBackAmounts wsX1_backAmount := goodIn_r _ [5, 6, 7, 8, 9, 10, 11, 4, 12, 13, 14, 15, 16, 17, 18, 19, 20, 21, 22, 23, 24, 25, 26, 27, 28, 29, 30, 31, 32, 33, 34, 35, 36, 37, 38, 39] (by decide +kernel) (by decide +kernel)
set_option maxRecDepth 20000 in
theorem gX1_sumOfBackAmounts_X1_backAmount : GoodIn wsX1_sumOfBackAmounts (wsV RX1 135 RX1 yX1_backAmount wsX1_backAmount) := goodIn_app (goodIn_of _ (by decide +kernel)) ggX1_sumOfBackAmounts_X1_backAmount
theorem dX1_sumOfBackAmounts_0 : decode cX1_sumOfBackAmounts 0 = .ok (.iconst 0, 1) := by decide +kernel
theorem dX1_sumOfBackAmounts_1 : decode cX1_sumOfBackAmounts 1 = .ok (.istore_n 1, 1) := by decide +kernel
theorem dX1_sumOfBackAmounts_2 : decode cX1_sumOfBackAmounts 2 = .ok (.iconst 0, 1) := by decide +kernel
theorem dX1_sumOfBackAmounts_3 : decode cX1_sumOfBackAmounts 3 = .ok (.istore_n 2, 1) := by decide +kernel
theorem dX1_sumOfBackAmounts_4 : decode cX1_sumOfBackAmounts 4 = .ok (.iload_n 2, 1) := by decide +kernel
theorem dX1_sumOfBackAmounts_5 : decode cX1_sumOfBackAmounts 5 = .ok (.bipush 8, 2) := by decide +kernel
theorem dX1_sumOfBackAmounts_7 : decode cX1_sumOfBackAmounts 7 = .ok (.if_icmp .ge 17, 3) := by decide +kernel
theorem dX1_sumOfBackAmounts_10 : decode cX1_sumOfBackAmounts 10 = .ok (.iload_n 1, 1) := by decide +kernel
theorem dX1_sumOfBackAmounts_11 : decode cX1_sumOfBackAmounts 11 = .ok (.aload_n 0, 1) := by decide +kernel
theorem dX1_sumOfBackAmounts_12 : decode cX1_sumOfBackAmounts 12 = .ok (.iload_n 2, 1) := by decide +kernel
theorem dX1_sumOfBackAmounts_13 : decode cX1_sumOfBackAmounts 13 = .ok (.invokevirtual 135, 3) := by decide +kernel
theorem dX1_sumOfBackAmounts_16 : decode cX1_sumOfBackAmounts 16 = .ok (.iadd, 1) := by decide +kernel
theorem dX1_sumOfBackAmounts_17 : decode cX1_sumOfBackAmounts 17 = .ok (.istore_n 1, 1) := by decide +kernel
theorem dX1_sumOfBackAmounts_18 : decode cX1_sumOfBackAmounts 18 = .ok (.iinc 2 1, 3) := by decide +kernel
theorem dX1_sumOfBackAmounts_21 : decode cX1_sumOfBackAmounts 21 = .ok (.goto (-17), 3) := by decide +kernel
theorem dX1_sumOfBackAmounts_24 : decode cX1_sumOfBackAmounts 24 = .ok (.iload_n 1, 1) := by decide +kernel
theorem dX1_sumOfBackAmounts_25 : decode cX1_sumOfBackAmounts 25 = .ok (.ireturn, 1) := by decide +kernel
theorem dX1_orZero_0 : decode cX1_orZero 0 = .ok (.iload_n 0, 1) := by decide +kernel
theorem dX1_orZero_1 : decode cX1_orZero 1 = .ok (.ldc 78, 2) := by decide +kernel
theorem dX1_orZero_3 : decode cX1_orZero 3 = .ok (.if_icmp .ne 7, 3) := by decide +kernel
theorem dX1_orZero_6 : decode cX1_orZero 6 = .ok (.iconst 0, 1) := by decide +kernel
theorem dX1_orZero_7 : decode cX1_orZero 7 = .ok (.goto 4, 3) := by decide +kernel
theorem dX1_orZero_10 : decode cX1_orZero 10 = .ok (.iload_n 0, 1) := by decide +kernel
theorem dX1_orZero_11 : decode cX1_orZero 11 = .ok (.ireturn, 1) := by decide +kernel
set_option maxRecDepth 20000 in
theorem ggX1_remember_X1_slotAfter : GoodIn wsX1_remember wsX1_slotAfter := goodIn_r _ [9, 2, 10, 11, 12, 13, 44, 45, 46, 47, 48, 49, 50] (by decide +kernel) (by decide +kernel)
set_option maxRecDepth 20000 in
theorem gX1_remember_X1_slotAfter : GoodIn wsX1_remember (wsV RX1 138 RX1 yX1_slotAfter wsX1_slotAfter) := goodIn_app (goodIn_of _ (by decide +kernel)) ggX1_remember_X1_slotAfter
set_option maxRecDepth 20000 in
theorem ggX1_remember_X0_copyFrom : GoodIn wsX1_remember wsX0_copyFrom := goodIn_r _ [18, 19, 20, 21, 22, 23, 24, 25, 26, 27, 28, 29, 30, 31, 32, 33, 34, 8, 35, 36, 37, 38, 39, 40, 41, 42, 43, 51, 52, 53, 54, 55, 56, 57, 58, 59, 60, 61, 62, 63, 64, 65] (by decide +kernel) (by decide +kernel)
set_option maxRecDepth 20000 in
theorem gX1_remember_X0_copyFrom : GoodIn wsX1_remember (wsV RX1 141 RX0 yX0_copyFrom wsX0_copyFrom) := goodIn_app (goodIn_of _ (by decide +kernel)) ggX1_remember_X0_copyFrom
theorem dX1_remember_0 : decode cX1_remember 0 = .ok (.aload_n 0, 1) := by decide +kernel
theorem dX1_remember_1 : decode cX1_remember 1 = .ok (.getfield 24, 3) := by decide +kernel
theorem dX1_remember_4 : decode cX1_remember 4 = .ok (.iconst 5, 1) := by decide +kernel
theorem dX1_remember_5 : decode cX1_remember 5 = .ok (.if_icmp .ne 22, 3) := by decide +kernel
theorem dX1_remember_8 : decode cX1_remember 8 = .ok (.aload_n 0, 1) := by decide +kernel
theorem dX1_remember_9 : decode cX1_remember 9 = .ok (.aload_n 0, 1) := by decide +kernel
theorem dX1_remember_10 : decode cX1_remember 10 = .ok (.iconst 1, 1) := by decide +kernel
theorem dX1_remember_11 : decode cX1_remember 11 = .ok (.invokevirtual 138, 3) := by decide +kernel
theorem dX1_remember_14 : decode cX1_remember 14 = .ok (.putfield 20, 3) := by decide +kernel
theorem dX1_remember_17 : decode cX1_remember 17 = .ok (.aload_n 0, 1) := by decide +kernel
theorem dX1_remember_18 : decode cX1_remember 18 = .ok (.dup, 1) := by decide +kernel
theorem dX1_remember_19 : decode cX1_remember 19 = .ok (.getfield 24, 3) := by decide +kernel
theorem dX1_remember_22 : decode cX1_remember 22 = .ok (.iconst 1, 1) := by decide +kernel
theorem dX1_remember_23 : decode cX1_remember 23 = .ok (.isub, 1) := by decide +kernel
theorem dX1_remember_24 : decode cX1_remember 24 = .ok (.putfield 24, 3) := by decide +kernel
theorem dX1_remember_27 : decode cX1_remember 27 = .ok (.aload_n 0, 1) := by decide +kernel
theorem dX1_remember_28 : decode cX1_remember 28 = .ok (.getfield 16, 3) := by decide +kernel
theorem dX1_remember_31 : decode cX1_remember 31 = .ok (.aload_n 0, 1) := by decide +kernel
theorem dX1_remember_32 : decode cX1_remember 32 = .ok (.aload_n 0, 1) := by decide +kernel
theorem dX1_remember_33 : decode cX1_remember 33 = .ok (.getfield 24, 3) := by decide +kernel
theorem dX1_remember_36 : decode cX1_remember 36 = .ok (.invokevirtual 138, 3) := by decide +kernel
theorem dX1_remember_39 : decode cX1_remember 39 = .ok (.aaload, 1) := by decide +kernel
theorem dX1_remember_40 : decode cX1_remember 40 = .ok (.astore_n 1, 1) := by decide +kernel
theorem dX1_remember_41 : decode cX1_remember 41 = .ok (.aload_n 1, 1) := by decide +kernel
theorem dX1_remember_42 : decode cX1_remember 42 = .ok (.ifnull 11, 3) := by decide +kernel
theorem dX1_remember_45 : decode cX1_remember 45 = .ok (.aload_n 1, 1) := by decide +kernel
theorem dX1_remember_46 : decode cX1_remember 46 = .ok (.aload_n 0, 1) := by decide +kernel
theorem dX1_remember_47 : decode cX1_remember 47 = .ok (.getfield 10, 3) := by decide +kernel
theorem dX1_remember_50 : decode cX1_remember 50 = .ok (.invokevirtual 141, 3) := by decide +kernel
theorem dX1_remember_53 : decode cX1_remember 53 = .ok (.aload_n 0, 1) := by decide +kernel
theorem dX1_remember_54 : decode cX1_remember 54 = .ok (.dup, 1) := by decide +kernel
theorem dX1_remember_55 : decode cX1_remember 55 = .ok (.getfield 24, 3) := by decide +kernel
theorem dX1_remember_58 : decode cX1_remember 58 = .ok (.iconst 1, 1) := by decide +kernel
theorem dX1_remember_59 : decode cX1_remember 59 = .ok (.iadd, 1) := by decide +kernel
theorem dX1_remember_60 : decode cX1_remember 60 = .ok (.putfield 24, 3) := by decide +kernel
theorem dX1_remember_63 : decode cX1_remember 63 = .ok (.return_, 1) := by decide +kernel
set_option maxRecDepth 20000 in
theorem ggX1_slotAfter_J9_floorMod_7cf53 : GoodIn wsX1_slotAfter wsJ9_floorMod_7cf53 := goodIn_r _ [5] (by decide +kernel) (by decide +kernel)
set_option maxRecDepth 20000 in
theorem gX1_slotAfter_J9_floorMod_7cf53 : GoodIn wsX1_slotAfter (va_wsS RX1 214 yJ9_floorMod_7cf53 wsJ9_floorMod_7cf53) := goodIn_app (goodIn_of _ (by decide +kernel)) ggX1_slotAfter_J9_floorMod_7cf53
theorem dX1_slotAfter_0 : decode cX1_slotAfter 0 = .ok (.aload_n 0, 1) := by decide +kernel
theorem dX1_slotAfter_1 : decode cX1_slotAfter 1 = .ok (.getfield 20, 3) := by decide +kernel
theorem dX1_slotAfter_4 : decode cX1_slotAfter 4 = .ok (.iload_n 1, 1) := by decide +kernel
theorem dX1_slotAfter_5 : decode cX1_slotAfter 5 = .ok (.iadd, 1) := by decide +kernel
theorem dX1_slotAfter_6 : decode cX1_slotAfter 6 = .ok (.iconst 5, 1) := by decide +kernel
theorem dX1_slotAfter_7 : decode cX1_slotAfter 7 = .ok (.invokestatic 214, 3) := by decide +kernel
theorem dX1_slotAfter_10 : decode cX1_slotAfter 10 = .ok (.ireturn, 1) := by decide +kernel
theorem dX1_copyRow_0 : decode cX1_copyRow 0 = .ok (.aload_n 0, 1) := by decide +kernel
theorem dX1_copyRow_1 : decode cX1_copyRow 1 = .ok (.iconst 0, 1) := by decide +kernel
theorem dX1_copyRow_2 : decode cX1_copyRow 2 = .ok (.aload_n 1, 1) := by decide +kernel
theorem dX1_copyRow_3 : decode cX1_copyRow 3 = .ok (.iconst 0, 1) := by decide +kernel
theorem dX1_copyRow_4 : decode cX1_copyRow 4 = .ok (.aload_n 0, 1) := by decide +kernel
theorem dX1_copyRow_5 : decode cX1_copyRow 5 = .ok (.arraylength, 1) := by decide +kernel
theorem dX1_copyRow_6 : decode cX1_copyRow 6 = .ok (.aload_n 1, 1) := by decide +kernel
theorem dX1_copyRow_7 : decode cX1_copyRow 7 = .ok (.arraylength, 1) := by decide +kernel
theorem dX1_copyRow_8 : decode cX1_copyRow 8 = .ok (.invokestatic 205, 3) := by decide +kernel
theorem dX1_copyRow_11 : decode cX1_copyRow 11 = .ok (.invokestatic 217, 3) := by decide +kernel
theorem dX1_copyRow_14 : decode cX1_copyRow 14 = .ok (.return_, 1) := by decide +kernel
theorem dX1_fillRow_0 : decode cX1_fillRow 0 = .ok (.iconst 0, 1) := by decide +kernel
theorem dX1_fillRow_1 : decode cX1_fillRow 1 = .ok (.istore_n 2, 1) := by decide +kernel
theorem dX1_fillRow_2 : decode cX1_fillRow 2 = .ok (.iload_n 2, 1) := by decide +kernel
theorem dX1_fillRow_3 : decode cX1_fillRow 3 = .ok (.aload_n 0, 1) := by decide +kernel
theorem dX1_fillRow_4 : decode cX1_fillRow 4 = .ok (.arraylength, 1) := by decide +kernel
theorem dX1_fillRow_5 : decode cX1_fillRow 5 = .ok (.if_icmp .ge 13, 3) := by decide +kernel
theorem dX1_fillRow_8 : decode cX1_fillRow 8 = .ok (.aload_n 0, 1) := by decide +kernel
theorem dX1_fillRow_9 : decode cX1_fillRow 9 = .ok (.iload_n 2, 1) := by decide +kernel
theorem dX1_fillRow_10 : decode cX1_fillRow 10 = .ok (.iload_n 1, 1) := by decide +kernel
theorem dX1_fillRow_11 : decode cX1_fillRow 11 = .ok (.iastore, 1) := by decide +kernel
theorem dX1_fillRow_12 : decode cX1_fillRow 12 = .ok (.iinc 2 1, 3) := by decide +kernel
theorem dX1_fillRow_15 : decode cX1_fillRow 15 = .ok (.goto (-13), 3) := by decide +kernel
theorem dX1_fillRow_18 : decode cX1_fillRow 18 = .ok (.return_, 1) := by decide +kernel
theorem dX1_sumOf_0 : decode cX1_sumOf 0 = .ok (.iconst 0, 1) := by decide +kernel
theorem dX1_sumOf_1 : decode cX1_sumOf 1 = .ok (.istore_n 1, 1) := by decide +kernel
theorem dX1_sumOf_2 : decode cX1_sumOf 2 = .ok (.iconst 0, 1) := by decide +kernel
theorem dX1_sumOf_3 : decode cX1_sumOf 3 = .ok (.istore_n 2, 1) := by decide +kernel
theorem dX1_sumOf_4 : decode cX1_sumOf 4 = .ok (.iload_n 2, 1) := by decide +kernel
theorem dX1_sumOf_5 : decode cX1_sumOf 5 = .ok (.aload_n 0, 1) := by decide +kernel
theorem dX1_sumOf_6 : decode cX1_sumOf 6 = .ok (.arraylength, 1) := by decide +kernel
theorem dX1_sumOf_7 : decode cX1_sumOf 7 = .ok (.if_icmp .ge 15, 3) := by decide +kernel
theorem dX1_sumOf_10 : decode cX1_sumOf 10 = .ok (.iload_n 1, 1) := by decide +kernel
theorem dX1_sumOf_11 : decode cX1_sumOf 11 = .ok (.aload_n 0, 1) := by decide +kernel
theorem dX1_sumOf_12 : decode cX1_sumOf 12 = .ok (.iload_n 2, 1) := by decide +kernel
theorem dX1_sumOf_13 : decode cX1_sumOf 13 = .ok (.iaload, 1) := by decide +kernel
theorem dX1_sumOf_14 : decode cX1_sumOf 14 = .ok (.iadd, 1) := by decide +kernel
theorem dX1_sumOf_15 : decode cX1_sumOf 15 = .ok (.istore_n 1, 1) := by decide +kernel
theorem dX1_sumOf_16 : decode cX1_sumOf 16 = .ok (.iinc 2 1, 3) := by decide +kernel
theorem dX1_sumOf_19 : decode cX1_sumOf 19 = .ok (.goto (-15), 3) := by decide +kernel
theorem dX1_sumOf_22 : decode cX1_sumOf 22 = .ok (.iload_n 1, 1) := by decide +kernel
theorem dX1_sumOf_23 : decode cX1_sumOf 23 = .ok (.ireturn, 1) := by decide +kernel
theorem dJ9_floorMod_7cf53_0 : decode cJ9_floorMod_7cf53 0 = .ok (.iload_n 0, 1) := by decide +kernel
theorem dJ9_floorMod_7cf53_1 : decode cJ9_floorMod_7cf53 1 = .ok (.iload_n 1, 1) := by decide +kernel
theorem dJ9_floorMod_7cf53_2 : decode cJ9_floorMod_7cf53 2 = .ok (.irem, 1) := by decide +kernel
theorem dJ9_floorMod_7cf53_3 : decode cJ9_floorMod_7cf53 3 = .ok (.istore_n 2, 1) := by decide +kernel
theorem dJ9_floorMod_7cf53_4 : decode cJ9_floorMod_7cf53 4 = .ok (.iload_n 0, 1) := by decide +kernel
theorem dJ9_floorMod_7cf53_5 : decode cJ9_floorMod_7cf53 5 = .ok (.iload_n 1, 1) := by decide +kernel
theorem dJ9_floorMod_7cf53_6 : decode cJ9_floorMod_7cf53 6 = .ok (.ixor, 1) := by decide +kernel
theorem dJ9_floorMod_7cf53_7 : decode cJ9_floorMod_7cf53 7 = .ok (.ifCond .ge 11, 3) := by decide +kernel
theorem dJ9_floorMod_7cf53_10 : decode cJ9_floorMod_7cf53 10 = .ok (.iload_n 2, 1) := by decide +kernel
theorem dJ9_floorMod_7cf53_11 : decode cJ9_floorMod_7cf53 11 = .ok (.ifCond .eq 7, 3) := by decide +kernel
theorem dJ9_floorMod_7cf53_14 : decode cJ9_floorMod_7cf53 14 = .ok (.iload_n 2, 1) := by decide +kernel
theorem dJ9_floorMod_7cf53_15 : decode cJ9_floorMod_7cf53 15 = .ok (.iload_n 1, 1) := by decide +kernel
theorem dJ9_floorMod_7cf53_16 : decode cJ9_floorMod_7cf53 16 = .ok (.iadd, 1) := by decide +kernel
theorem dJ9_floorMod_7cf53_17 : decode cJ9_floorMod_7cf53 17 = .ok (.ireturn, 1) := by decide +kernel
theorem dJ9_floorMod_7cf53_18 : decode cJ9_floorMod_7cf53 18 = .ok (.iload_n 2, 1) := by decide +kernel
theorem dJ9_floorMod_7cf53_19 : decode cJ9_floorMod_7cf53 19 = .ok (.ireturn, 1) := by decide +kernel
theorem dJ9_abs_0f7a4_0 : decode cJ9_abs_0f7a4 0 = .ok (.iload_n 0, 1) := by decide +kernel
theorem dJ9_abs_0f7a4_1 : decode cJ9_abs_0f7a4 1 = .ok (.ifCond .ge 8, 3) := by decide +kernel
theorem dJ9_abs_0f7a4_4 : decode cJ9_abs_0f7a4 4 = .ok (.iload_n 0, 1) := by decide +kernel
theorem dJ9_abs_0f7a4_5 : decode cJ9_abs_0f7a4 5 = .ok (.ineg, 1) := by decide +kernel
theorem dJ9_abs_0f7a4_6 : decode cJ9_abs_0f7a4 6 = .ok (.goto 4, 3) := by decide +kernel
theorem dJ9_abs_0f7a4_9 : decode cJ9_abs_0f7a4 9 = .ok (.iload_n 0, 1) := by decide +kernel
theorem dJ9_abs_0f7a4_10 : decode cJ9_abs_0f7a4 10 = .ok (.ireturn, 1) := by decide +kernel
theorem dJ9_max_7cf53_0 : decode cJ9_max_7cf53 0 = .ok (.iload_n 0, 1) := by decide +kernel
theorem dJ9_max_7cf53_1 : decode cJ9_max_7cf53 1 = .ok (.iload_n 1, 1) := by decide +kernel
theorem dJ9_max_7cf53_2 : decode cJ9_max_7cf53 2 = .ok (.if_icmp .lt 7, 3) := by decide +kernel
theorem dJ9_max_7cf53_5 : decode cJ9_max_7cf53 5 = .ok (.iload_n 0, 1) := by decide +kernel
theorem dJ9_max_7cf53_6 : decode cJ9_max_7cf53 6 = .ok (.goto 4, 3) := by decide +kernel
theorem dJ9_max_7cf53_9 : decode cJ9_max_7cf53 9 = .ok (.iload_n 1, 1) := by decide +kernel
theorem dJ9_max_7cf53_10 : decode cJ9_max_7cf53 10 = .ok (.ireturn, 1) := by decide +kernel
theorem dJ9_min_7cf53_0 : decode cJ9_min_7cf53 0 = .ok (.iload_n 0, 1) := by decide +kernel
theorem dJ9_min_7cf53_1 : decode cJ9_min_7cf53 1 = .ok (.iload_n 1, 1) := by decide +kernel
theorem dJ9_min_7cf53_2 : decode cJ9_min_7cf53 2 = .ok (.if_icmp .gt 7, 3) := by decide +kernel
theorem dJ9_min_7cf53_5 : decode cJ9_min_7cf53 5 = .ok (.iload_n 0, 1) := by decide +kernel
theorem dJ9_min_7cf53_6 : decode cJ9_min_7cf53 6 = .ok (.goto 4, 3) := by decide +kernel
theorem dJ9_min_7cf53_9 : decode cJ9_min_7cf53 9 = .ok (.iload_n 1, 1) := by decide +kernel
theorem dJ9_min_7cf53_10 : decode cJ9_min_7cf53 10 = .ok (.ireturn, 1) := by decide +kernel
theorem dL_cell_0 : decode cL_cell 0 = .ok (.iload_n 1, 1) := by decide +kernel
theorem dL_cell_1 : decode cL_cell 1 = .ok (.aload_n 0, 1) := by decide +kernel
theorem dL_cell_2 : decode cL_cell 2 = .ok (.arraylength, 1) := by decide +kernel
theorem dL_cell_3 : decode cL_cell 3 = .ok (.if_icmp .ge 9, 3) := by decide +kernel
theorem dL_cell_6 : decode cL_cell 6 = .ok (.aload_n 0, 1) := by decide +kernel
theorem dL_cell_7 : decode cL_cell 7 = .ok (.iload_n 1, 1) := by decide +kernel
theorem dL_cell_8 : decode cL_cell 8 = .ok (.iaload, 1) := by decide +kernel
theorem dL_cell_9 : decode cL_cell 9 = .ok (.goto 9, 3) := by decide +kernel
theorem dL_cell_12 : decode cL_cell 12 = .ok (.ldc 7, 2) := by decide +kernel
theorem dL_cell_14 : decode cL_cell 14 = .ok (.iload_n 1, 1) := by decide +kernel
theorem dL_cell_15 : decode cL_cell 15 = .ok (.iconst 3, 1) := by decide +kernel
theorem dL_cell_16 : decode cL_cell 16 = .ok (.iadd, 1) := by decide +kernel
theorem dL_cell_17 : decode cL_cell 17 = .ok (.imul, 1) := by decide +kernel
theorem dL_cell_18 : decode cL_cell 18 = .ok (.ireturn, 1) := by decide +kernel
theorem dL_low_0 : decode cL_low 0 = .ok (.iload_n 0, 1) := by decide +kernel
theorem dL_low_1 : decode cL_low 1 = .ok (.ldc 8, 2) := by decide +kernel
theorem dL_low_3 : decode cL_low 3 = .ok (.iand, 1) := by decide +kernel
theorem dL_low_4 : decode cL_low 4 = .ok (.iload_n 1, 1) := by decide +kernel
theorem dL_low_5 : decode cL_low 5 = .ok (.irem, 1) := by decide +kernel
theorem dL_low_6 : decode cL_low 6 = .ok (.ireturn, 1) := by decide +kernel
theorem dL_share_0 : decode cL_share 0 = .ok (.iload_n 0, 1) := by decide +kernel
theorem dL_share_1 : decode cL_share 1 = .ok (.bipush 8, 2) := by decide +kernel
theorem dL_share_3 : decode cL_share 3 = .ok (.idiv, 1) := by decide +kernel
theorem dL_share_4 : decode cL_share 4 = .ok (.istore_n 3, 1) := by decide +kernel
theorem dL_share_5 : decode cL_share 5 = .ok (.iload_n 1, 1) := by decide +kernel
theorem dL_share_6 : decode cL_share 6 = .ok (.bipush 6, 2) := by decide +kernel
theorem dL_share_8 : decode cL_share 8 = .ok (.idiv, 1) := by decide +kernel
theorem dL_share_9 : decode cL_share 9 = .ok (.iload_n 2, 1) := by decide +kernel
theorem dL_share_10 : decode cL_share 10 = .ok (.bipush 6, 2) := by decide +kernel
theorem dL_share_12 : decode cL_share 12 = .ok (.idiv, 1) := by decide +kernel
theorem dL_share_13 : decode cL_share 13 = .ok (.isub, 1) := by decide +kernel
theorem dL_share_14 : decode cL_share 14 = .ok (.istore 4, 2) := by decide +kernel
theorem dL_share_16 : decode cL_share 16 = .ok (.iload_n 1, 1) := by decide +kernel
theorem dL_share_17 : decode cL_share 17 = .ok (.bipush 6, 2) := by decide +kernel
theorem dL_share_19 : decode cL_share 19 = .ok (.irem, 1) := by decide +kernel
theorem dL_share_20 : decode cL_share 20 = .ok (.iload_n 2, 1) := by decide +kernel
theorem dL_share_21 : decode cL_share 21 = .ok (.bipush 6, 2) := by decide +kernel
theorem dL_share_23 : decode cL_share 23 = .ok (.irem, 1) := by decide +kernel
theorem dL_share_24 : decode cL_share 24 = .ok (.isub, 1) := by decide +kernel
theorem dL_share_25 : decode cL_share 25 = .ok (.istore 5, 2) := by decide +kernel
theorem dL_share_27 : decode cL_share 27 = .ok (.iload 4, 2) := by decide +kernel
theorem dL_share_29 : decode cL_share 29 = .ok (.ifCond .ne 66, 3) := by decide +kernel
theorem dL_share_32 : decode cL_share 32 = .ok (.iload 5, 2) := by decide +kernel
theorem dL_share_34 : decode cL_share 34 = .ok (.ifCond .ne 61, 3) := by decide +kernel
theorem dL_share_37 : decode cL_share 37 = .ok (.iload_n 1, 1) := by decide +kernel
theorem dL_share_38 : decode cL_share 38 = .ok (.iconst 5, 1) := by decide +kernel
theorem dL_share_39 : decode cL_share 39 = .ok (.if_icmp .le 7, 3) := by decide +kernel
theorem dL_share_42 : decode cL_share 42 = .ok (.iconst 1, 1) := by decide +kernel
theorem dL_share_43 : decode cL_share 43 = .ok (.goto 4, 3) := by decide +kernel
theorem dL_share_46 : decode cL_share 46 = .ok (.iconst 0, 1) := by decide +kernel
theorem dL_share_47 : decode cL_share 47 = .ok (.iload_n 1, 1) := by decide +kernel
theorem dL_share_48 : decode cL_share 48 = .ok (.bipush 18, 2) := by decide +kernel
theorem dL_share_50 : decode cL_share 50 = .ok (.if_icmp .ge 7, 3) := by decide +kernel
theorem dL_share_53 : decode cL_share 53 = .ok (.iconst 1, 1) := by decide +kernel
theorem dL_share_54 : decode cL_share 54 = .ok (.goto 4, 3) := by decide +kernel
theorem dL_share_57 : decode cL_share 57 = .ok (.iconst 0, 1) := by decide +kernel
theorem dL_share_58 : decode cL_share 58 = .ok (.iadd, 1) := by decide +kernel
theorem dL_share_59 : decode cL_share 59 = .ok (.iload_n 1, 1) := by decide +kernel
theorem dL_share_60 : decode cL_share 60 = .ok (.bipush 6, 2) := by decide +kernel
theorem dL_share_62 : decode cL_share 62 = .ok (.irem, 1) := by decide +kernel
theorem dL_share_63 : decode cL_share 63 = .ok (.ifCond .le 7, 3) := by decide +kernel
theorem dL_share_66 : decode cL_share 66 = .ok (.iconst 1, 1) := by decide +kernel
theorem dL_share_67 : decode cL_share 67 = .ok (.goto 4, 3) := by decide +kernel
theorem dL_share_70 : decode cL_share 70 = .ok (.iconst 0, 1) := by decide +kernel
theorem dL_share_71 : decode cL_share 71 = .ok (.iadd, 1) := by decide +kernel
theorem dL_share_72 : decode cL_share 72 = .ok (.iload_n 1, 1) := by decide +kernel
theorem dL_share_73 : decode cL_share 73 = .ok (.bipush 6, 2) := by decide +kernel
theorem dL_share_75 : decode cL_share 75 = .ok (.irem, 1) := by decide +kernel
theorem dL_share_76 : decode cL_share 76 = .ok (.iconst 5, 1) := by decide +kernel
theorem dL_share_77 : decode cL_share 77 = .ok (.if_icmp .ge 7, 3) := by decide +kernel
theorem dL_share_80 : decode cL_share 80 = .ok (.iconst 1, 1) := by decide +kernel
theorem dL_share_81 : decode cL_share 81 = .ok (.goto 4, 3) := by decide +kernel
theorem dL_share_84 : decode cL_share 84 = .ok (.iconst 0, 1) := by decide +kernel
theorem dL_share_85 : decode cL_share 85 = .ok (.iadd, 1) := by decide +kernel
theorem dL_share_86 : decode cL_share 86 = .ok (.istore 6, 2) := by decide +kernel
theorem dL_share_88 : decode cL_share 88 = .ok (.iload_n 0, 1) := by decide +kernel
theorem dL_share_89 : decode cL_share 89 = .ok (.iload 6, 2) := by decide +kernel
theorem dL_share_91 : decode cL_share 91 = .ok (.iload_n 3, 1) := by decide +kernel
theorem dL_share_92 : decode cL_share 92 = .ok (.imul, 1) := by decide +kernel
theorem dL_share_93 : decode cL_share 93 = .ok (.isub, 1) := by decide +kernel
theorem dL_share_94 : decode cL_share 94 = .ok (.ireturn, 1) := by decide +kernel
theorem dL_share_95 : decode cL_share 95 = .ok (.iload 4, 2) := by decide +kernel
theorem dL_share_97 : decode cL_share 97 = .ok (.iload 4, 2) := by decide +kernel
theorem dL_share_99 : decode cL_share 99 = .ok (.imul, 1) := by decide +kernel
theorem dL_share_100 : decode cL_share 100 = .ok (.iload 5, 2) := by decide +kernel
theorem dL_share_102 : decode cL_share 102 = .ok (.iload 5, 2) := by decide +kernel
theorem dL_share_104 : decode cL_share 104 = .ok (.imul, 1) := by decide +kernel
theorem dL_share_105 : decode cL_share 105 = .ok (.iadd, 1) := by decide +kernel
theorem dL_share_106 : decode cL_share 106 = .ok (.iconst 1, 1) := by decide +kernel
theorem dL_share_107 : decode cL_share 107 = .ok (.if_icmp .ne 7, 3) := by decide +kernel
theorem dL_share_110 : decode cL_share 110 = .ok (.iload_n 3, 1) := by decide +kernel
theorem dL_share_111 : decode cL_share 111 = .ok (.goto 4, 3) := by decide +kernel
theorem dL_share_114 : decode cL_share 114 = .ok (.iconst 0, 1) := by decide +kernel
theorem dL_share_115 : decode cL_share 115 = .ok (.ireturn, 1) := by decide +kernel
set_option maxRecDepth 20000 in
theorem ggL_gets_L_share : GoodIn wsL_gets wsL_share := goodIn_r _ [4] (by decide +kernel) (by decide +kernel)
set_option maxRecDepth 20000 in
theorem gL_gets_L_share : GoodIn wsL_gets (va_wsS RL 9 yL_share wsL_share) := goodIn_app (goodIn_of _ (by decide +kernel)) ggL_gets_L_share
theorem dL_gets_0 : decode cL_gets 0 = .ok (.iconst 0, 1) := by decide +kernel
theorem dL_gets_1 : decode cL_gets 1 = .ok (.istore 5, 2) := by decide +kernel
theorem dL_gets_3 : decode cL_gets 3 = .ok (.iconst 0, 1) := by decide +kernel
theorem dL_gets_4 : decode cL_gets 4 = .ok (.istore 6, 2) := by decide +kernel
theorem dL_gets_6 : decode cL_gets 6 = .ok (.iload 6, 2) := by decide +kernel
theorem dL_gets_8 : decode cL_gets 8 = .ok (.aload_n 0, 1) := by decide +kernel
theorem dL_gets_9 : decode cL_gets 9 = .ok (.iconst 1, 1) := by decide +kernel
theorem dL_gets_10 : decode cL_gets 10 = .ok (.iaload, 1) := by decide +kernel
theorem dL_gets_11 : decode cL_gets 11 = .ok (.if_icmp .ge 58, 3) := by decide +kernel
theorem dL_gets_14 : decode cL_gets 14 = .ok (.iload 5, 2) := by decide +kernel
theorem dL_gets_16 : decode cL_gets 16 = .ok (.aload_n 1, 1) := by decide +kernel
theorem dL_gets_17 : decode cL_gets 17 = .ok (.iconst 5, 1) := by decide +kernel
theorem dL_gets_18 : decode cL_gets 18 = .ok (.iload 6, 2) := by decide +kernel
theorem dL_gets_20 : decode cL_gets 20 = .ok (.imul, 1) := by decide +kernel
theorem dL_gets_21 : decode cL_gets 21 = .ok (.iconst 1, 1) := by decide +kernel
theorem dL_gets_22 : decode cL_gets 22 = .ok (.iadd, 1) := by decide +kernel
theorem dL_gets_23 : decode cL_gets 23 = .ok (.iaload, 1) := by decide +kernel
theorem dL_gets_24 : decode cL_gets 24 = .ok (.ifCond .lt 35, 3) := by decide +kernel
theorem dL_gets_27 : decode cL_gets 27 = .ok (.iload 6, 2) := by decide +kernel
theorem dL_gets_29 : decode cL_gets 29 = .ok (.iload 4, 2) := by decide +kernel
theorem dL_gets_31 : decode cL_gets 31 = .ok (.if_icmp .eq 28, 3) := by decide +kernel
theorem dL_gets_34 : decode cL_gets 34 = .ok (.aload_n 1, 1) := by decide +kernel
theorem dL_gets_35 : decode cL_gets 35 = .ok (.iconst 5, 1) := by decide +kernel
theorem dL_gets_36 : decode cL_gets 36 = .ok (.iload 6, 2) := by decide +kernel
theorem dL_gets_38 : decode cL_gets 38 = .ok (.imul, 1) := by decide +kernel
theorem dL_gets_39 : decode cL_gets 39 = .ok (.iload_n 3, 1) := by decide +kernel
theorem dL_gets_40 : decode cL_gets 40 = .ok (.iadd, 1) := by decide +kernel
theorem dL_gets_41 : decode cL_gets 41 = .ok (.iaload, 1) := by decide +kernel
theorem dL_gets_42 : decode cL_gets 42 = .ok (.aload_n 1, 1) := by decide +kernel
theorem dL_gets_43 : decode cL_gets 43 = .ok (.iconst 5, 1) := by decide +kernel
theorem dL_gets_44 : decode cL_gets 44 = .ok (.iload 6, 2) := by decide +kernel
theorem dL_gets_46 : decode cL_gets 46 = .ok (.imul, 1) := by decide +kernel
theorem dL_gets_47 : decode cL_gets 47 = .ok (.iload_n 3, 1) := by decide +kernel
theorem dL_gets_48 : decode cL_gets 48 = .ok (.iadd, 1) := by decide +kernel
theorem dL_gets_49 : decode cL_gets 49 = .ok (.iconst 1, 1) := by decide +kernel
theorem dL_gets_50 : decode cL_gets 50 = .ok (.iadd, 1) := by decide +kernel
theorem dL_gets_51 : decode cL_gets 51 = .ok (.iaload, 1) := by decide +kernel
theorem dL_gets_52 : decode cL_gets 52 = .ok (.iload_n 2, 1) := by decide +kernel
theorem dL_gets_53 : decode cL_gets 53 = .ok (.invokestatic 9, 3) := by decide +kernel
theorem dL_gets_56 : decode cL_gets 56 = .ok (.goto 4, 3) := by decide +kernel
theorem dL_gets_59 : decode cL_gets 59 = .ok (.iconst 0, 1) := by decide +kernel
theorem dL_gets_60 : decode cL_gets 60 = .ok (.iadd, 1) := by decide +kernel
theorem dL_gets_61 : decode cL_gets 61 = .ok (.istore 5, 2) := by decide +kernel
theorem dL_gets_63 : decode cL_gets 63 = .ok (.iinc 6 1, 3) := by decide +kernel
theorem dL_gets_66 : decode cL_gets 66 = .ok (.goto (-60), 3) := by decide +kernel
theorem dL_gets_69 : decode cL_gets 69 = .ok (.iload 5, 2) := by decide +kernel
theorem dL_gets_71 : decode cL_gets 71 = .ok (.ireturn, 1) := by decide +kernel
set_option maxRecDepth 20000 in
theorem ggL_error_L_gets : GoodIn wsL_error wsL_gets := goodIn_r _ [4, 5, 6, 3, 7] (by decide +kernel) (by decide +kernel)
set_option maxRecDepth 20000 in
theorem gL_error_L_gets : GoodIn wsL_error (va_wsS RL 15 yL_gets wsL_gets) := goodIn_app (goodIn_of _ (by decide +kernel)) ggL_error_L_gets
theorem dL_error_0 : decode cL_error 0 = .ok (.iconst 0, 1) := by decide +kernel
theorem dL_error_1 : decode cL_error 1 = .ok (.istore 4, 2) := by decide +kernel
theorem dL_error_3 : decode cL_error 3 = .ok (.iconst 0, 1) := by decide +kernel
theorem dL_error_4 : decode cL_error 4 = .ok (.istore 5, 2) := by decide +kernel
theorem dL_error_6 : decode cL_error 6 = .ok (.iload 5, 2) := by decide +kernel
theorem dL_error_8 : decode cL_error 8 = .ok (.bipush 24, 2) := by decide +kernel
theorem dL_error_10 : decode cL_error 10 = .ok (.if_icmp .ge 58, 3) := by decide +kernel
theorem dL_error_13 : decode cL_error 13 = .ok (.aload_n 0, 1) := by decide +kernel
theorem dL_error_14 : decode cL_error 14 = .ok (.aload_n 3, 1) := by decide +kernel
theorem dL_error_15 : decode cL_error 15 = .ok (.iload 5, 2) := by decide +kernel
theorem dL_error_17 : decode cL_error 17 = .ok (.iconst 0, 1) := by decide +kernel
theorem dL_error_18 : decode cL_error 18 = .ok (.iconst (-1), 1) := by decide +kernel
theorem dL_error_19 : decode cL_error 19 = .ok (.invokestatic 15, 3) := by decide +kernel
theorem dL_error_22 : decode cL_error 22 = .ok (.aload_n 1, 1) := by decide +kernel
theorem dL_error_23 : decode cL_error 23 = .ok (.iload 5, 2) := by decide +kernel
theorem dL_error_25 : decode cL_error 25 = .ok (.iaload, 1) := by decide +kernel
theorem dL_error_26 : decode cL_error 26 = .ok (.iadd, 1) := by decide +kernel
theorem dL_error_27 : decode cL_error 27 = .ok (.aload_n 0, 1) := by decide +kernel
theorem dL_error_28 : decode cL_error 28 = .ok (.aload_n 3, 1) := by decide +kernel
theorem dL_error_29 : decode cL_error 29 = .ok (.iload 5, 2) := by decide +kernel
theorem dL_error_31 : decode cL_error 31 = .ok (.iconst 2, 1) := by decide +kernel
theorem dL_error_32 : decode cL_error 32 = .ok (.iconst (-1), 1) := by decide +kernel
theorem dL_error_33 : decode cL_error 33 = .ok (.invokestatic 15, 3) := by decide +kernel
theorem dL_error_36 : decode cL_error 36 = .ok (.isub, 1) := by decide +kernel
theorem dL_error_37 : decode cL_error 37 = .ok (.aload_n 2, 1) := by decide +kernel
theorem dL_error_38 : decode cL_error 38 = .ok (.iload 5, 2) := by decide +kernel
theorem dL_error_40 : decode cL_error 40 = .ok (.iaload, 1) := by decide +kernel
theorem dL_error_41 : decode cL_error 41 = .ok (.isub, 1) := by decide +kernel
theorem dL_error_42 : decode cL_error 42 = .ok (.istore 6, 2) := by decide +kernel
theorem dL_error_44 : decode cL_error 44 = .ok (.iload 4, 2) := by decide +kernel
theorem dL_error_46 : decode cL_error 46 = .ok (.iload 6, 2) := by decide +kernel
theorem dL_error_48 : decode cL_error 48 = .ok (.ifCond .ge 9, 3) := by decide +kernel
theorem dL_error_51 : decode cL_error 51 = .ok (.iload 6, 2) := by decide +kernel
theorem dL_error_53 : decode cL_error 53 = .ok (.ineg, 1) := by decide +kernel
theorem dL_error_54 : decode cL_error 54 = .ok (.goto 5, 3) := by decide +kernel
theorem dL_error_57 : decode cL_error 57 = .ok (.iload 6, 2) := by decide +kernel
theorem dL_error_59 : decode cL_error 59 = .ok (.iadd, 1) := by decide +kernel
theorem dL_error_60 : decode cL_error 60 = .ok (.istore 4, 2) := by decide +kernel
theorem dL_error_62 : decode cL_error 62 = .ok (.iinc 5 1, 3) := by decide +kernel
theorem dL_error_65 : decode cL_error 65 = .ok (.goto (-59), 3) := by decide +kernel
theorem dL_error_68 : decode cL_error 68 = .ok (.iload 4, 2) := by decide +kernel
theorem dL_error_70 : decode cL_error 70 = .ok (.ireturn, 1) := by decide +kernel
theorem dL_who_0 : decode cL_who 0 = .ok (.iconst (-1), 1) := by decide +kernel
theorem dL_who_1 : decode cL_who 1 = .ok (.istore 4, 2) := by decide +kernel
theorem dL_who_3 : decode cL_who 3 = .ok (.iconst 0, 1) := by decide +kernel
theorem dL_who_4 : decode cL_who 4 = .ok (.istore 5, 2) := by decide +kernel
theorem dL_who_6 : decode cL_who 6 = .ok (.iload 5, 2) := by decide +kernel
theorem dL_who_8 : decode cL_who 8 = .ok (.aload_n 0, 1) := by decide +kernel
theorem dL_who_9 : decode cL_who 9 = .ok (.iconst 1, 1) := by decide +kernel
theorem dL_who_10 : decode cL_who 10 = .ok (.iaload, 1) := by decide +kernel
theorem dL_who_11 : decode cL_who 11 = .ok (.if_icmp .ge 30, 3) := by decide +kernel
theorem dL_who_14 : decode cL_who 14 = .ok (.aload_n 1, 1) := by decide +kernel
theorem dL_who_15 : decode cL_who 15 = .ok (.iconst 5, 1) := by decide +kernel
theorem dL_who_16 : decode cL_who 16 = .ok (.iload 5, 2) := by decide +kernel
theorem dL_who_18 : decode cL_who 18 = .ok (.imul, 1) := by decide +kernel
theorem dL_who_19 : decode cL_who 19 = .ok (.iload_n 3, 1) := by decide +kernel
theorem dL_who_20 : decode cL_who 20 = .ok (.iadd, 1) := by decide +kernel
theorem dL_who_21 : decode cL_who 21 = .ok (.iaload, 1) := by decide +kernel
theorem dL_who_22 : decode cL_who 22 = .ok (.iload_n 2, 1) := by decide +kernel
theorem dL_who_23 : decode cL_who 23 = .ok (.if_icmp .ne 8, 3) := by decide +kernel
theorem dL_who_26 : decode cL_who 26 = .ok (.iload 5, 2) := by decide +kernel
theorem dL_who_28 : decode cL_who 28 = .ok (.goto 5, 3) := by decide +kernel
theorem dL_who_31 : decode cL_who 31 = .ok (.iload 4, 2) := by decide +kernel
theorem dL_who_33 : decode cL_who 33 = .ok (.istore 4, 2) := by decide +kernel
theorem dL_who_35 : decode cL_who 35 = .ok (.iinc 5 1, 3) := by decide +kernel
theorem dL_who_38 : decode cL_who 38 = .ok (.goto (-32), 3) := by decide +kernel
theorem dL_who_41 : decode cL_who 41 = .ok (.iload 4, 2) := by decide +kernel
theorem dL_who_43 : decode cL_who 43 = .ok (.ireturn, 1) := by decide +kernel
set_option maxRecDepth 20000 in
theorem ggL_estimate_L_share : GoodIn wsL_estimate wsL_share := goodIn_r _ [4] (by decide +kernel) (by decide +kernel)
set_option maxRecDepth 20000 in
theorem gL_estimate_L_share : GoodIn wsL_estimate (va_wsS RL 9 yL_share wsL_share) := goodIn_app (goodIn_of _ (by decide +kernel)) ggL_estimate_L_share
set_option maxRecDepth 20000 in
theorem ggL_estimate_L_gets : GoodIn wsL_estimate wsL_gets := goodIn_r _ [7, 1, 2, 3, 4] (by decide +kernel) (by decide +kernel)
set_option maxRecDepth 20000 in
theorem gL_estimate_L_gets : GoodIn wsL_estimate (va_wsS RL 15 yL_gets wsL_gets) := goodIn_app (goodIn_of _ (by decide +kernel)) ggL_estimate_L_gets
theorem dL_estimate_0 : decode cL_estimate 0 = .ok (.iconst 0, 1) := by decide +kernel
theorem dL_estimate_1 : decode cL_estimate 1 = .ok (.istore 5, 2) := by decide +kernel
theorem dL_estimate_3 : decode cL_estimate 3 = .ok (.iconst 0, 1) := by decide +kernel
theorem dL_estimate_4 : decode cL_estimate 4 = .ok (.istore 6, 2) := by decide +kernel
theorem dL_estimate_6 : decode cL_estimate 6 = .ok (.iload 6, 2) := by decide +kernel
theorem dL_estimate_8 : decode cL_estimate 8 = .ok (.bipush 24, 2) := by decide +kernel
theorem dL_estimate_10 : decode cL_estimate 10 = .ok (.if_icmp .ge 62, 3) := by decide +kernel
theorem dL_estimate_13 : decode cL_estimate 13 = .ok (.bipush 8, 2) := by decide +kernel
theorem dL_estimate_15 : decode cL_estimate 15 = .ok (.aload_n 3, 1) := by decide +kernel
theorem dL_estimate_16 : decode cL_estimate 16 = .ok (.iconst 5, 1) := by decide +kernel
theorem dL_estimate_17 : decode cL_estimate 17 = .ok (.iload 4, 2) := by decide +kernel
theorem dL_estimate_19 : decode cL_estimate 19 = .ok (.imul, 1) := by decide +kernel
theorem dL_estimate_20 : decode cL_estimate 20 = .ok (.iconst 3, 1) := by decide +kernel
theorem dL_estimate_21 : decode cL_estimate 21 = .ok (.iadd, 1) := by decide +kernel
theorem dL_estimate_22 : decode cL_estimate 22 = .ok (.iaload, 1) := by decide +kernel
theorem dL_estimate_23 : decode cL_estimate 23 = .ok (.iload 6, 2) := by decide +kernel
theorem dL_estimate_25 : decode cL_estimate 25 = .ok (.invokestatic 9, 3) := by decide +kernel
theorem dL_estimate_28 : decode cL_estimate 28 = .ok (.ifCond .le 38, 3) := by decide +kernel
theorem dL_estimate_31 : decode cL_estimate 31 = .ok (.iload 5, 2) := by decide +kernel
theorem dL_estimate_33 : decode cL_estimate 33 = .ok (.aload_n 0, 1) := by decide +kernel
theorem dL_estimate_34 : decode cL_estimate 34 = .ok (.aload_n 3, 1) := by decide +kernel
theorem dL_estimate_35 : decode cL_estimate 35 = .ok (.iload 6, 2) := by decide +kernel
theorem dL_estimate_37 : decode cL_estimate 37 = .ok (.iconst 0, 1) := by decide +kernel
theorem dL_estimate_38 : decode cL_estimate 38 = .ok (.iconst (-1), 1) := by decide +kernel
theorem dL_estimate_39 : decode cL_estimate 39 = .ok (.invokestatic 15, 3) := by decide +kernel
theorem dL_estimate_42 : decode cL_estimate 42 = .ok (.aload_n 1, 1) := by decide +kernel
theorem dL_estimate_43 : decode cL_estimate 43 = .ok (.iload 6, 2) := by decide +kernel
theorem dL_estimate_45 : decode cL_estimate 45 = .ok (.iaload, 1) := by decide +kernel
theorem dL_estimate_46 : decode cL_estimate 46 = .ok (.iadd, 1) := by decide +kernel
theorem dL_estimate_47 : decode cL_estimate 47 = .ok (.aload_n 2, 1) := by decide +kernel
theorem dL_estimate_48 : decode cL_estimate 48 = .ok (.iload 6, 2) := by decide +kernel
theorem dL_estimate_50 : decode cL_estimate 50 = .ok (.iaload, 1) := by decide +kernel
theorem dL_estimate_51 : decode cL_estimate 51 = .ok (.isub, 1) := by decide +kernel
theorem dL_estimate_52 : decode cL_estimate 52 = .ok (.aload_n 0, 1) := by decide +kernel
theorem dL_estimate_53 : decode cL_estimate 53 = .ok (.aload_n 3, 1) := by decide +kernel
theorem dL_estimate_54 : decode cL_estimate 54 = .ok (.iload 6, 2) := by decide +kernel
theorem dL_estimate_56 : decode cL_estimate 56 = .ok (.iconst 2, 1) := by decide +kernel
theorem dL_estimate_57 : decode cL_estimate 57 = .ok (.iload 4, 2) := by decide +kernel
theorem dL_estimate_59 : decode cL_estimate 59 = .ok (.invokestatic 15, 3) := by decide +kernel
theorem dL_estimate_62 : decode cL_estimate 62 = .ok (.isub, 1) := by decide +kernel
theorem dL_estimate_63 : decode cL_estimate 63 = .ok (.iadd, 1) := by decide +kernel
theorem dL_estimate_64 : decode cL_estimate 64 = .ok (.istore 5, 2) := by decide +kernel
theorem dL_estimate_66 : decode cL_estimate 66 = .ok (.iinc 6 1, 3) := by decide +kernel
theorem dL_estimate_69 : decode cL_estimate 69 = .ok (.goto (-63), 3) := by decide +kernel
theorem dL_estimate_72 : decode cL_estimate 72 = .ok (.iload 5, 2) := by decide +kernel
theorem dL_estimate_74 : decode cL_estimate 74 = .ok (.ifCond .le 8, 3) := by decide +kernel
theorem dL_estimate_77 : decode cL_estimate 77 = .ok (.iload 5, 2) := by decide +kernel
theorem dL_estimate_79 : decode cL_estimate 79 = .ok (.goto 4, 3) := by decide +kernel
theorem dL_estimate_82 : decode cL_estimate 82 = .ok (.iconst 0, 1) := by decide +kernel
theorem dL_estimate_83 : decode cL_estimate 83 = .ok (.ireturn, 1) := by decide +kernel
set_option maxRecDepth 20000 in
theorem ggL_oldest_L_share : GoodIn wsL_oldest wsL_share := goodIn_r _ [4] (by decide +kernel) (by decide +kernel)
set_option maxRecDepth 20000 in
theorem gL_oldest_L_share : GoodIn wsL_oldest (va_wsS RL 9 yL_share wsL_share) := goodIn_app (goodIn_of _ (by decide +kernel)) ggL_oldest_L_share
theorem dL_oldest_0 : decode cL_oldest 0 = .ok (.sipush 9999, 3) := by decide +kernel
theorem dL_oldest_3 : decode cL_oldest 3 = .ok (.istore_n 2, 1) := by decide +kernel
theorem dL_oldest_4 : decode cL_oldest 4 = .ok (.iconst 0, 1) := by decide +kernel
theorem dL_oldest_5 : decode cL_oldest 5 = .ok (.istore_n 3, 1) := by decide +kernel
theorem dL_oldest_6 : decode cL_oldest 6 = .ok (.iload_n 3, 1) := by decide +kernel
theorem dL_oldest_7 : decode cL_oldest 7 = .ok (.bipush 24, 2) := by decide +kernel
theorem dL_oldest_9 : decode cL_oldest 9 = .ok (.if_icmp .ge 34, 3) := by decide +kernel
theorem dL_oldest_12 : decode cL_oldest 12 = .ok (.bipush 8, 2) := by decide +kernel
theorem dL_oldest_14 : decode cL_oldest 14 = .ok (.iload_n 1, 1) := by decide +kernel
theorem dL_oldest_15 : decode cL_oldest 15 = .ok (.iload_n 3, 1) := by decide +kernel
theorem dL_oldest_16 : decode cL_oldest 16 = .ok (.invokestatic 9, 3) := by decide +kernel
theorem dL_oldest_19 : decode cL_oldest 19 = .ok (.ifCond .le 16, 3) := by decide +kernel
theorem dL_oldest_22 : decode cL_oldest 22 = .ok (.aload_n 0, 1) := by decide +kernel
theorem dL_oldest_23 : decode cL_oldest 23 = .ok (.iload_n 3, 1) := by decide +kernel
theorem dL_oldest_24 : decode cL_oldest 24 = .ok (.iaload, 1) := by decide +kernel
theorem dL_oldest_25 : decode cL_oldest 25 = .ok (.iload_n 2, 1) := by decide +kernel
theorem dL_oldest_26 : decode cL_oldest 26 = .ok (.if_icmp .ge 9, 3) := by decide +kernel
theorem dL_oldest_29 : decode cL_oldest 29 = .ok (.aload_n 0, 1) := by decide +kernel
theorem dL_oldest_30 : decode cL_oldest 30 = .ok (.iload_n 3, 1) := by decide +kernel
theorem dL_oldest_31 : decode cL_oldest 31 = .ok (.iaload, 1) := by decide +kernel
theorem dL_oldest_32 : decode cL_oldest 32 = .ok (.goto 4, 3) := by decide +kernel
theorem dL_oldest_35 : decode cL_oldest 35 = .ok (.iload_n 2, 1) := by decide +kernel
theorem dL_oldest_36 : decode cL_oldest 36 = .ok (.istore_n 2, 1) := by decide +kernel
theorem dL_oldest_37 : decode cL_oldest 37 = .ok (.iinc 3 1, 3) := by decide +kernel
theorem dL_oldest_40 : decode cL_oldest 40 = .ok (.goto (-34), 3) := by decide +kernel
theorem dL_oldest_43 : decode cL_oldest 43 = .ok (.iload_n 2, 1) := by decide +kernel
theorem dL_oldest_44 : decode cL_oldest 44 = .ok (.ireturn, 1) := by decide +kernel
set_option maxRecDepth 20000 in
theorem ggL_certainty_L_oldest : GoodIn wsL_certainty wsL_oldest := goodIn_r _ [4, 5, 6, 3, 7] (by decide +kernel) (by decide +kernel)
set_option maxRecDepth 20000 in
theorem gL_certainty_L_oldest : GoodIn wsL_certainty (va_wsS RL 19 yL_oldest wsL_oldest) := goodIn_app (goodIn_of _ (by decide +kernel)) ggL_certainty_L_oldest
theorem dL_certainty_0 : decode cL_certainty 0 = .ok (.bipush 100, 2) := by decide +kernel
theorem dL_certainty_2 : decode cL_certainty 2 = .ok (.aload_n 0, 1) := by decide +kernel
theorem dL_certainty_3 : decode cL_certainty 3 = .ok (.iconst 0, 1) := by decide +kernel
theorem dL_certainty_4 : decode cL_certainty 4 = .ok (.iaload, 1) := by decide +kernel
theorem dL_certainty_5 : decode cL_certainty 5 = .ok (.aload_n 1, 1) := by decide +kernel
theorem dL_certainty_6 : decode cL_certainty 6 = .ok (.aload_n 2, 1) := by decide +kernel
theorem dL_certainty_7 : decode cL_certainty 7 = .ok (.iconst 5, 1) := by decide +kernel
theorem dL_certainty_8 : decode cL_certainty 8 = .ok (.iload_n 3, 1) := by decide +kernel
theorem dL_certainty_9 : decode cL_certainty 9 = .ok (.imul, 1) := by decide +kernel
theorem dL_certainty_10 : decode cL_certainty 10 = .ok (.iconst 3, 1) := by decide +kernel
theorem dL_certainty_11 : decode cL_certainty 11 = .ok (.iadd, 1) := by decide +kernel
theorem dL_certainty_12 : decode cL_certainty 12 = .ok (.iaload, 1) := by decide +kernel
theorem dL_certainty_13 : decode cL_certainty 13 = .ok (.invokestatic 19, 3) := by decide +kernel
theorem dL_certainty_16 : decode cL_certainty 16 = .ok (.isub, 1) := by decide +kernel
theorem dL_certainty_17 : decode cL_certainty 17 = .ok (.iconst 5, 1) := by decide +kernel
theorem dL_certainty_18 : decode cL_certainty 18 = .ok (.imul, 1) := by decide +kernel
theorem dL_certainty_19 : decode cL_certainty 19 = .ok (.isub, 1) := by decide +kernel
theorem dL_certainty_20 : decode cL_certainty 20 = .ok (.aload_n 2, 1) := by decide +kernel
theorem dL_certainty_21 : decode cL_certainty 21 = .ok (.iconst 5, 1) := by decide +kernel
theorem dL_certainty_22 : decode cL_certainty 22 = .ok (.iload_n 3, 1) := by decide +kernel
theorem dL_certainty_23 : decode cL_certainty 23 = .ok (.imul, 1) := by decide +kernel
theorem dL_certainty_24 : decode cL_certainty 24 = .ok (.iconst 4, 1) := by decide +kernel
theorem dL_certainty_25 : decode cL_certainty 25 = .ok (.iadd, 1) := by decide +kernel
theorem dL_certainty_26 : decode cL_certainty 26 = .ok (.iaload, 1) := by decide +kernel
theorem dL_certainty_27 : decode cL_certainty 27 = .ok (.bipush 10, 2) := by decide +kernel
theorem dL_certainty_29 : decode cL_certainty 29 = .ok (.imul, 1) := by decide +kernel
theorem dL_certainty_30 : decode cL_certainty 30 = .ok (.isub, 1) := by decide +kernel
theorem dL_certainty_31 : decode cL_certainty 31 = .ok (.istore 4, 2) := by decide +kernel
theorem dL_certainty_33 : decode cL_certainty 33 = .ok (.iload 4, 2) := by decide +kernel
theorem dL_certainty_35 : decode cL_certainty 35 = .ok (.ifCond .le 8, 3) := by decide +kernel
theorem dL_certainty_38 : decode cL_certainty 38 = .ok (.iload 4, 2) := by decide +kernel
theorem dL_certainty_40 : decode cL_certainty 40 = .ok (.goto 4, 3) := by decide +kernel
theorem dL_certainty_43 : decode cL_certainty 43 = .ok (.iconst 0, 1) := by decide +kernel
theorem dL_certainty_44 : decode cL_certainty 44 = .ok (.ireturn, 1) := by decide +kernel
set_option maxRecDepth 20000 in
theorem ggL_two_X1_swap : GoodIn wsL_two wsX1_swap := goodIn_r _ [7, 8, 9, 10, 11, 12, 13, 14, 15, 6, 16, 17, 18, 19, 20, 21, 22, 23, 24, 25, 26, 27, 28, 29, 30, 31, 32, 33, 34, 35, 36, 37, 38, 39, 40, 41, 42, 43, 44, 45, 46, 47, 48, 49, 50, 51, 52, 53, 54, 55, 56, 57, 58, 59, 60, 61, 62, 63, 64, 65, 66, 67, 68, 69, 70, 71, 72, 73, 74, 75, 76, 77, 78, 79, 80, 81, 82, 83, 84, 85, 86, 87, 88, 89, 90, 91, 92, 93, 94, 95, 96, 97, 98, 99, 100, 101, 102, 103, 104, 105, 106, 107, 108, 124, 125, 126, 127, 128, 129, 130, 131, 132, 133, 134, 135, 136, 137, 138, 139, 140, 141, 142, 143, 144, 145] (by decide +kernel) (by decide +kernel)
set_option maxRecDepth 20000 in
theorem gL_two_X1_swap : GoodIn wsL_two (wsV RL 23 RX1 yX1_swap wsX1_swap) := goodIn_app (goodIn_of _ (by decide +kernel)) ggL_two_X1_swap
set_option maxRecDepth 20000 in
theorem ggL_two_X1_accuse : GoodIn wsL_two wsX1_accuse := goodIn_r _ [112, 8, 9, 10, 12, 113, 13, 14, 15, 6, 16, 17, 18, 19, 20, 21, 22, 23, 24, 25, 11, 26, 27, 28, 29, 30, 31, 32, 33, 34, 35, 36, 37, 38, 39, 40, 41, 42, 43, 44, 45, 46, 47, 48, 49, 50, 51, 52, 53, 54, 55, 56, 57, 58, 59, 60, 61, 62, 63, 64, 65, 66, 67, 68, 69, 70, 71, 72, 73, 74, 75, 76, 77, 78, 79, 80, 81, 82, 83, 84, 85, 86, 87, 88, 89, 90, 91, 92, 93, 94, 95, 96, 97, 98, 99, 100, 101, 102, 103, 104, 105, 106, 107, 108, 124, 125, 126, 127, 128, 129, 130, 131, 132, 133, 134, 135, 136, 137, 138, 139, 140, 141, 142, 143, 144, 145] (by decide +kernel) (by decide +kernel)
set_option maxRecDepth 20000 in
theorem gL_two_X1_accuse : GoodIn wsL_two (wsV RL 29 RX1 yX1_accuse wsX1_accuse) := goodIn_app (goodIn_of _ (by decide +kernel)) ggL_two_X1_accuse
set_option maxRecDepth 20000 in
theorem ggL_two_L_error : GoodIn wsL_two wsL_error := goodIn_r _ [117, 118, 119, 116, 120, 121, 122, 123] (by decide +kernel) (by decide +kernel)
set_option maxRecDepth 20000 in
theorem gL_two_L_error : GoodIn wsL_two (va_wsS RL 34 yL_error wsL_error) := goodIn_app (goodIn_of _ (by decide +kernel)) ggL_two_L_error
theorem dL_two_0 : decode cL_two 0 = .ok (.iload 5, 2) := by decide +kernel
theorem dL_two_2 : decode cL_two 2 = .ok (.aload_n 1, 1) := by decide +kernel
theorem dL_two_3 : decode cL_two 3 = .ok (.iconst 1, 1) := by decide +kernel
theorem dL_two_4 : decode cL_two 4 = .ok (.iaload, 1) := by decide +kernel
theorem dL_two_5 : decode cL_two 5 = .ok (.irem, 1) := by decide +kernel
theorem dL_two_6 : decode cL_two 6 = .ok (.istore 7, 2) := by decide +kernel
theorem dL_two_8 : decode cL_two 8 = .ok (.iload 5, 2) := by decide +kernel
theorem dL_two_10 : decode cL_two 10 = .ok (.bipush 8, 2) := by decide +kernel
theorem dL_two_12 : decode cL_two 12 = .ok (.idiv, 1) := by decide +kernel
theorem dL_two_13 : decode cL_two 13 = .ok (.aload_n 1, 1) := by decide +kernel
theorem dL_two_14 : decode cL_two 14 = .ok (.iconst 1, 1) := by decide +kernel
theorem dL_two_15 : decode cL_two 15 = .ok (.iaload, 1) := by decide +kernel
theorem dL_two_16 : decode cL_two 16 = .ok (.irem, 1) := by decide +kernel
theorem dL_two_17 : decode cL_two 17 = .ok (.istore 8, 2) := by decide +kernel
theorem dL_two_19 : decode cL_two 19 = .ok (.iload 7, 2) := by decide +kernel
theorem dL_two_21 : decode cL_two 21 = .ok (.iload 8, 2) := by decide +kernel
theorem dL_two_23 : decode cL_two 23 = .ok (.if_icmp .ne 38, 3) := by decide +kernel
theorem dL_two_26 : decode cL_two 26 = .ok (.iload 6, 2) := by decide +kernel
theorem dL_two_28 : decode cL_two 28 = .ok (.ifCond .eq 14, 3) := by decide +kernel
theorem dL_two_31 : decode cL_two 31 = .ok (.aload_n 0, 1) := by decide +kernel
theorem dL_two_32 : decode cL_two 32 = .ok (.iload 7, 2) := by decide +kernel
theorem dL_two_34 : decode cL_two 34 = .ok (.iload 8, 2) := by decide +kernel
theorem dL_two_36 : decode cL_two 36 = .ok (.invokevirtual 23, 3) := by decide +kernel
theorem dL_two_39 : decode cL_two 39 = .ok (.goto 11, 3) := by decide +kernel
theorem dL_two_42 : decode cL_two 42 = .ok (.aload_n 0, 1) := by decide +kernel
theorem dL_two_43 : decode cL_two 43 = .ok (.iload 7, 2) := by decide +kernel
theorem dL_two_45 : decode cL_two 45 = .ok (.iload 8, 2) := by decide +kernel
theorem dL_two_47 : decode cL_two 47 = .ok (.invokevirtual 29, 3) := by decide +kernel
theorem dL_two_50 : decode cL_two 50 = .ok (.ldc 32, 2) := by decide +kernel
theorem dL_two_52 : decode cL_two 52 = .ok (.if_icmp .ne 7, 3) := by decide +kernel
theorem dL_two_55 : decode cL_two 55 = .ok (.iconst 1, 1) := by decide +kernel
theorem dL_two_56 : decode cL_two 56 = .ok (.goto 4, 3) := by decide +kernel
theorem dL_two_59 : decode cL_two 59 = .ok (.iconst 0, 1) := by decide +kernel
theorem dL_two_60 : decode cL_two 60 = .ok (.ireturn, 1) := by decide +kernel
theorem dL_two_61 : decode cL_two 61 = .ok (.aload 4, 2) := by decide +kernel
theorem dL_two_63 : decode cL_two 63 = .ok (.iconst 5, 1) := by decide +kernel
theorem dL_two_64 : decode cL_two 64 = .ok (.iload 7, 2) := by decide +kernel
theorem dL_two_66 : decode cL_two 66 = .ok (.imul, 1) := by decide +kernel
theorem dL_two_67 : decode cL_two 67 = .ok (.iconst 1, 1) := by decide +kernel
theorem dL_two_68 : decode cL_two 68 = .ok (.iadd, 1) := by decide +kernel
theorem dL_two_69 : decode cL_two 69 = .ok (.iaload, 1) := by decide +kernel
theorem dL_two_70 : decode cL_two 70 = .ok (.ifCond .lt 15, 3) := by decide +kernel
theorem dL_two_73 : decode cL_two 73 = .ok (.aload 4, 2) := by decide +kernel
theorem dL_two_75 : decode cL_two 75 = .ok (.iconst 5, 1) := by decide +kernel
theorem dL_two_76 : decode cL_two 76 = .ok (.iload 8, 2) := by decide +kernel
theorem dL_two_78 : decode cL_two 78 = .ok (.imul, 1) := by decide +kernel
theorem dL_two_79 : decode cL_two 79 = .ok (.iconst 1, 1) := by decide +kernel
theorem dL_two_80 : decode cL_two 80 = .ok (.iadd, 1) := by decide +kernel
theorem dL_two_81 : decode cL_two 81 = .ok (.iaload, 1) := by decide +kernel
theorem dL_two_82 : decode cL_two 82 = .ok (.ifCond .ge 38, 3) := by decide +kernel
theorem dL_two_85 : decode cL_two 85 = .ok (.iload 6, 2) := by decide +kernel
theorem dL_two_87 : decode cL_two 87 = .ok (.ifCond .eq 14, 3) := by decide +kernel
theorem dL_two_90 : decode cL_two 90 = .ok (.aload_n 0, 1) := by decide +kernel
theorem dL_two_91 : decode cL_two 91 = .ok (.iload 7, 2) := by decide +kernel
theorem dL_two_93 : decode cL_two 93 = .ok (.iload 8, 2) := by decide +kernel
theorem dL_two_95 : decode cL_two 95 = .ok (.invokevirtual 23, 3) := by decide +kernel
theorem dL_two_98 : decode cL_two 98 = .ok (.goto 11, 3) := by decide +kernel
theorem dL_two_101 : decode cL_two 101 = .ok (.aload_n 0, 1) := by decide +kernel
theorem dL_two_102 : decode cL_two 102 = .ok (.iload 7, 2) := by decide +kernel
theorem dL_two_104 : decode cL_two 104 = .ok (.iload 8, 2) := by decide +kernel
theorem dL_two_106 : decode cL_two 106 = .ok (.invokevirtual 29, 3) := by decide +kernel
theorem dL_two_109 : decode cL_two 109 = .ok (.ldc 33, 2) := by decide +kernel
theorem dL_two_111 : decode cL_two 111 = .ok (.if_icmp .ne 7, 3) := by decide +kernel
theorem dL_two_114 : decode cL_two 114 = .ok (.iconst 1, 1) := by decide +kernel
theorem dL_two_115 : decode cL_two 115 = .ok (.goto 4, 3) := by decide +kernel
theorem dL_two_118 : decode cL_two 118 = .ok (.iconst 0, 1) := by decide +kernel
theorem dL_two_119 : decode cL_two 119 = .ok (.ireturn, 1) := by decide +kernel
theorem dL_two_120 : decode cL_two 120 = .ok (.iload 6, 2) := by decide +kernel
theorem dL_two_122 : decode cL_two 122 = .ok (.ifCond .eq 7, 3) := by decide +kernel
theorem dL_two_125 : decode cL_two 125 = .ok (.iconst 1, 1) := by decide +kernel
theorem dL_two_126 : decode cL_two 126 = .ok (.goto 4, 3) := by decide +kernel
theorem dL_two_129 : decode cL_two 129 = .ok (.iconst 3, 1) := by decide +kernel
theorem dL_two_130 : decode cL_two 130 = .ok (.istore 9, 2) := by decide +kernel
theorem dL_two_132 : decode cL_two 132 = .ok (.aload 4, 2) := by decide +kernel
theorem dL_two_134 : decode cL_two 134 = .ok (.iconst 5, 1) := by decide +kernel
theorem dL_two_135 : decode cL_two 135 = .ok (.iload 7, 2) := by decide +kernel
theorem dL_two_137 : decode cL_two 137 = .ok (.imul, 1) := by decide +kernel
theorem dL_two_138 : decode cL_two 138 = .ok (.iload 9, 2) := by decide +kernel
theorem dL_two_140 : decode cL_two 140 = .ok (.iadd, 1) := by decide +kernel
theorem dL_two_141 : decode cL_two 141 = .ok (.iaload, 1) := by decide +kernel
theorem dL_two_142 : decode cL_two 142 = .ok (.istore 10, 2) := by decide +kernel
theorem dL_two_144 : decode cL_two 144 = .ok (.aload 4, 2) := by decide +kernel
theorem dL_two_146 : decode cL_two 146 = .ok (.iconst 5, 1) := by decide +kernel
theorem dL_two_147 : decode cL_two 147 = .ok (.iload 7, 2) := by decide +kernel
theorem dL_two_149 : decode cL_two 149 = .ok (.imul, 1) := by decide +kernel
theorem dL_two_150 : decode cL_two 150 = .ok (.iload 9, 2) := by decide +kernel
theorem dL_two_152 : decode cL_two 152 = .ok (.iadd, 1) := by decide +kernel
theorem dL_two_153 : decode cL_two 153 = .ok (.aload 4, 2) := by decide +kernel
theorem dL_two_155 : decode cL_two 155 = .ok (.iconst 5, 1) := by decide +kernel
theorem dL_two_156 : decode cL_two 156 = .ok (.iload 8, 2) := by decide +kernel
theorem dL_two_158 : decode cL_two 158 = .ok (.imul, 1) := by decide +kernel
theorem dL_two_159 : decode cL_two 159 = .ok (.iload 9, 2) := by decide +kernel
theorem dL_two_161 : decode cL_two 161 = .ok (.iadd, 1) := by decide +kernel
theorem dL_two_162 : decode cL_two 162 = .ok (.iaload, 1) := by decide +kernel
theorem dL_two_163 : decode cL_two 163 = .ok (.iastore, 1) := by decide +kernel
theorem dL_two_164 : decode cL_two 164 = .ok (.aload 4, 2) := by decide +kernel
theorem dL_two_166 : decode cL_two 166 = .ok (.iconst 5, 1) := by decide +kernel
theorem dL_two_167 : decode cL_two 167 = .ok (.iload 8, 2) := by decide +kernel
theorem dL_two_169 : decode cL_two 169 = .ok (.imul, 1) := by decide +kernel
theorem dL_two_170 : decode cL_two 170 = .ok (.iload 9, 2) := by decide +kernel
theorem dL_two_172 : decode cL_two 172 = .ok (.iadd, 1) := by decide +kernel
theorem dL_two_173 : decode cL_two 173 = .ok (.iload 10, 2) := by decide +kernel
theorem dL_two_175 : decode cL_two 175 = .ok (.iastore, 1) := by decide +kernel
theorem dL_two_176 : decode cL_two 176 = .ok (.aload 4, 2) := by decide +kernel
theorem dL_two_178 : decode cL_two 178 = .ok (.iconst 5, 1) := by decide +kernel
theorem dL_two_179 : decode cL_two 179 = .ok (.iload 7, 2) := by decide +kernel
theorem dL_two_181 : decode cL_two 181 = .ok (.imul, 1) := by decide +kernel
theorem dL_two_182 : decode cL_two 182 = .ok (.iconst 4, 1) := by decide +kernel
theorem dL_two_183 : decode cL_two 183 = .ok (.iadd, 1) := by decide +kernel
theorem dL_two_184 : decode cL_two 184 = .ok (.dup2, 1) := by decide +kernel
theorem dL_two_185 : decode cL_two 185 = .ok (.iaload, 1) := by decide +kernel
theorem dL_two_186 : decode cL_two 186 = .ok (.iload 6, 2) := by decide +kernel
theorem dL_two_188 : decode cL_two 188 = .ok (.ifCond .eq 7, 3) := by decide +kernel
theorem dL_two_191 : decode cL_two 191 = .ok (.iconst 0, 1) := by decide +kernel
theorem dL_two_192 : decode cL_two 192 = .ok (.goto 4, 3) := by decide +kernel
theorem dL_two_195 : decode cL_two 195 = .ok (.iconst 1, 1) := by decide +kernel
theorem dL_two_196 : decode cL_two 196 = .ok (.iadd, 1) := by decide +kernel
theorem dL_two_197 : decode cL_two 197 = .ok (.iastore, 1) := by decide +kernel
theorem dL_two_198 : decode cL_two 198 = .ok (.aload 4, 2) := by decide +kernel
theorem dL_two_200 : decode cL_two 200 = .ok (.iconst 5, 1) := by decide +kernel
theorem dL_two_201 : decode cL_two 201 = .ok (.iload 8, 2) := by decide +kernel
theorem dL_two_203 : decode cL_two 203 = .ok (.imul, 1) := by decide +kernel
theorem dL_two_204 : decode cL_two 204 = .ok (.iconst 4, 1) := by decide +kernel
theorem dL_two_205 : decode cL_two 205 = .ok (.iadd, 1) := by decide +kernel
theorem dL_two_206 : decode cL_two 206 = .ok (.dup2, 1) := by decide +kernel
theorem dL_two_207 : decode cL_two 207 = .ok (.iaload, 1) := by decide +kernel
theorem dL_two_208 : decode cL_two 208 = .ok (.iload 6, 2) := by decide +kernel
theorem dL_two_210 : decode cL_two 210 = .ok (.ifCond .eq 7, 3) := by decide +kernel
theorem dL_two_213 : decode cL_two 213 = .ok (.iconst 0, 1) := by decide +kernel
theorem dL_two_214 : decode cL_two 214 = .ok (.goto 4, 3) := by decide +kernel
theorem dL_two_217 : decode cL_two 217 = .ok (.iconst 1, 1) := by decide +kernel
theorem dL_two_218 : decode cL_two 218 = .ok (.iadd, 1) := by decide +kernel
theorem dL_two_219 : decode cL_two 219 = .ok (.iastore, 1) := by decide +kernel
theorem dL_two_220 : decode cL_two 220 = .ok (.iload 6, 2) := by decide +kernel
theorem dL_two_222 : decode cL_two 222 = .ok (.ifCond .eq 14, 3) := by decide +kernel
theorem dL_two_225 : decode cL_two 225 = .ok (.aload_n 0, 1) := by decide +kernel
theorem dL_two_226 : decode cL_two 226 = .ok (.iload 7, 2) := by decide +kernel
theorem dL_two_228 : decode cL_two 228 = .ok (.iload 8, 2) := by decide +kernel
theorem dL_two_230 : decode cL_two 230 = .ok (.invokevirtual 23, 3) := by decide +kernel
theorem dL_two_233 : decode cL_two 233 = .ok (.goto 11, 3) := by decide +kernel
theorem dL_two_236 : decode cL_two 236 = .ok (.aload_n 0, 1) := by decide +kernel
theorem dL_two_237 : decode cL_two 237 = .ok (.iload 7, 2) := by decide +kernel
theorem dL_two_239 : decode cL_two 239 = .ok (.iload 8, 2) := by decide +kernel
theorem dL_two_241 : decode cL_two 241 = .ok (.invokevirtual 29, 3) := by decide +kernel
theorem dL_two_244 : decode cL_two 244 = .ok (.aload_n 1, 1) := by decide +kernel
theorem dL_two_245 : decode cL_two 245 = .ok (.aload_n 2, 1) := by decide +kernel
theorem dL_two_246 : decode cL_two 246 = .ok (.aload_n 3, 1) := by decide +kernel
theorem dL_two_247 : decode cL_two 247 = .ok (.aload 4, 2) := by decide +kernel
theorem dL_two_249 : decode cL_two 249 = .ok (.invokestatic 34, 3) := by decide +kernel
theorem dL_two_252 : decode cL_two 252 = .ok (.if_icmp .ne 7, 3) := by decide +kernel
theorem dL_two_255 : decode cL_two 255 = .ok (.iconst 1, 1) := by decide +kernel
theorem dL_two_256 : decode cL_two 256 = .ok (.goto 4, 3) := by decide +kernel
theorem dL_two_259 : decode cL_two 259 = .ok (.iconst 0, 1) := by decide +kernel
theorem dL_two_260 : decode cL_two 260 = .ok (.ireturn, 1) := by decide +kernel
set_option maxRecDepth 20000 in
theorem ggL_clerk_X1_bill : GoodIn wsL_clerk wsX1_bill := goodIn_r _ [6, 7, 8, 9, 10, 11, 12, 13, 14, 15, 16, 17, 5, 18, 19, 20, 21, 22, 23, 24, 25, 26, 27, 28, 29, 30, 31, 32, 33, 34, 35, 36, 37, 38, 39, 40, 41, 42, 43, 44, 45, 46, 47, 48, 49, 50, 51, 52, 53, 54, 55, 56, 57, 58, 59, 60, 61, 62, 63, 64, 65, 66, 67, 68, 69, 70, 71, 72, 73, 74, 75, 76, 77, 78, 79, 80, 81, 82, 83, 84, 85, 86, 87, 88, 89, 90, 91, 92, 93, 94, 95, 96, 97, 98, 99, 100, 101, 102, 103, 104, 105, 106, 107, 108, 109, 110, 111, 112, 113, 114, 115, 116, 117, 118, 119, 120, 121, 122, 123, 124, 125, 126, 127, 128, 129, 130, 131, 132, 133, 158, 159, 160, 161, 162, 163, 164, 165, 166, 167, 168, 169, 170, 171, 172, 173, 174, 175, 176, 177, 178, 179] (by decide +kernel) (by decide +kernel)
set_option maxRecDepth 20000 in
theorem gL_clerk_X1_bill : GoodIn wsL_clerk (wsV RL 38 RX1 yX1_bill wsX1_bill) := goodIn_app (goodIn_of _ (by decide +kernel)) ggL_clerk_X1_bill
set_option maxRecDepth 20000 in
theorem ggL_clerk_L_estimate : GoodIn wsL_clerk wsL_estimate := goodIn_r _ [137, 138, 139, 136, 140, 141, 142, 143] (by decide +kernel) (by decide +kernel)
set_option maxRecDepth 20000 in
theorem gL_clerk_L_estimate : GoodIn wsL_clerk (va_wsS RL 42 yL_estimate wsL_estimate) := goodIn_app (goodIn_of _ (by decide +kernel)) ggL_clerk_L_estimate
set_option maxRecDepth 20000 in
theorem ggL_clerk_L_certainty : GoodIn wsL_clerk wsL_certainty := goodIn_r _ [146, 147, 148, 136, 149, 138, 139, 140] (by decide +kernel) (by decide +kernel)
set_option maxRecDepth 20000 in
theorem gL_clerk_L_certainty : GoodIn wsL_clerk (va_wsS RL 46 yL_certainty wsL_certainty) := goodIn_app (goodIn_of _ (by decide +kernel)) ggL_clerk_L_certainty
set_option maxRecDepth 20000 in
theorem ggL_clerk_L_gets : GoodIn wsL_clerk wsL_gets := goodIn_r _ [143, 138, 139, 136, 140] (by decide +kernel) (by decide +kernel)
set_option maxRecDepth 20000 in
theorem gL_clerk_L_gets : GoodIn wsL_clerk (va_wsS RL 15 yL_gets wsL_gets) := goodIn_app (goodIn_of _ (by decide +kernel)) ggL_clerk_L_gets
set_option maxRecDepth 20000 in
theorem ggL_clerk_X1_complain : GoodIn wsL_clerk wsX1_complain := goodIn_r _ [153, 7, 8, 9, 10, 130, 11, 90, 75, 76, 64, 77, 15, 16, 17, 5, 18, 19, 20, 21, 22, 23, 24, 25, 26, 27, 28, 29, 30, 31, 32, 33, 34, 35, 36, 37, 38, 39, 40, 41, 42, 43, 44, 45, 46, 47, 48, 49, 50, 51, 52, 53, 54, 55, 56, 57, 58, 59, 60, 61, 62, 63, 65, 66, 67, 68, 69, 154, 155, 156, 157, 12, 131, 132, 133, 158, 159, 160, 161, 162, 163, 164, 165, 166, 167, 168, 169, 170, 171, 172, 173, 174, 175, 176, 177, 178, 179] (by decide +kernel) (by decide +kernel)
set_option maxRecDepth 20000 in
theorem gL_clerk_X1_complain : GoodIn wsL_clerk (wsV RL 50 RX1 yX1_complain wsX1_complain) := goodIn_app (goodIn_of _ (by decide +kernel)) ggL_clerk_X1_complain
theorem dL_clerk_0 : decode cL_clerk 0 = .ok (.iload 8, 2) := by decide +kernel
theorem dL_clerk_2 : decode cL_clerk 2 = .ok (.ifCond .eq 252, 3) := by decide +kernel
theorem dL_clerk_5 : decode cL_clerk 5 = .ok (.aload 5, 2) := by decide +kernel
theorem dL_clerk_7 : decode cL_clerk 7 = .ok (.iconst 5, 1) := by decide +kernel
theorem dL_clerk_8 : decode cL_clerk 8 = .ok (.iload 7, 2) := by decide +kernel
theorem dL_clerk_10 : decode cL_clerk 10 = .ok (.imul, 1) := by decide +kernel
theorem dL_clerk_11 : decode cL_clerk 11 = .ok (.iconst 1, 1) := by decide +kernel
theorem dL_clerk_12 : decode cL_clerk 12 = .ok (.iadd, 1) := by decide +kernel
theorem dL_clerk_13 : decode cL_clerk 13 = .ok (.iaload, 1) := by decide +kernel
theorem dL_clerk_14 : decode cL_clerk 14 = .ok (.ifCond .lt 13, 3) := by decide +kernel
theorem dL_clerk_17 : decode cL_clerk 17 = .ok (.aload 6, 2) := by decide +kernel
theorem dL_clerk_19 : decode cL_clerk 19 = .ok (.iconst 5, 1) := by decide +kernel
theorem dL_clerk_20 : decode cL_clerk 20 = .ok (.iload 7, 2) := by decide +kernel
theorem dL_clerk_22 : decode cL_clerk 22 = .ok (.imul, 1) := by decide +kernel
theorem dL_clerk_23 : decode cL_clerk 23 = .ok (.iaload, 1) := by decide +kernel
theorem dL_clerk_24 : decode cL_clerk 24 = .ok (.ifCond .lt 20, 3) := by decide +kernel
theorem dL_clerk_27 : decode cL_clerk 27 = .ok (.aload_n 0, 1) := by decide +kernel
theorem dL_clerk_28 : decode cL_clerk 28 = .ok (.iload 7, 2) := by decide +kernel
theorem dL_clerk_30 : decode cL_clerk 30 = .ok (.invokevirtual 38, 3) := by decide +kernel
theorem dL_clerk_33 : decode cL_clerk 33 = .ok (.ldc 33, 2) := by decide +kernel
theorem dL_clerk_35 : decode cL_clerk 35 = .ok (.if_icmp .ne 7, 3) := by decide +kernel
theorem dL_clerk_38 : decode cL_clerk 38 = .ok (.iconst 1, 1) := by decide +kernel
theorem dL_clerk_39 : decode cL_clerk 39 = .ok (.goto 4, 3) := by decide +kernel
theorem dL_clerk_42 : decode cL_clerk 42 = .ok (.iconst 0, 1) := by decide +kernel
theorem dL_clerk_43 : decode cL_clerk 43 = .ok (.ireturn, 1) := by decide +kernel
theorem dL_clerk_44 : decode cL_clerk 44 = .ok (.aload_n 1, 1) := by decide +kernel
theorem dL_clerk_45 : decode cL_clerk 45 = .ok (.aload_n 2, 1) := by decide +kernel
theorem dL_clerk_46 : decode cL_clerk 46 = .ok (.aload_n 3, 1) := by decide +kernel
theorem dL_clerk_47 : decode cL_clerk 47 = .ok (.aload 5, 2) := by decide +kernel
theorem dL_clerk_49 : decode cL_clerk 49 = .ok (.iload 7, 2) := by decide +kernel
theorem dL_clerk_51 : decode cL_clerk 51 = .ok (.invokestatic 42, 3) := by decide +kernel
theorem dL_clerk_54 : decode cL_clerk 54 = .ok (.aload_n 1, 1) := by decide +kernel
theorem dL_clerk_55 : decode cL_clerk 55 = .ok (.aload 4, 2) := by decide +kernel
theorem dL_clerk_57 : decode cL_clerk 57 = .ok (.aload 5, 2) := by decide +kernel
theorem dL_clerk_59 : decode cL_clerk 59 = .ok (.iload 7, 2) := by decide +kernel
theorem dL_clerk_61 : decode cL_clerk 61 = .ok (.invokestatic 46, 3) := by decide +kernel
theorem dL_clerk_64 : decode cL_clerk 64 = .ok (.imul, 1) := by decide +kernel
theorem dL_clerk_65 : decode cL_clerk 65 = .ok (.bipush 100, 2) := by decide +kernel
theorem dL_clerk_67 : decode cL_clerk 67 = .ok (.idiv, 1) := by decide +kernel
theorem dL_clerk_68 : decode cL_clerk 68 = .ok (.istore 9, 2) := by decide +kernel
theorem dL_clerk_70 : decode cL_clerk 70 = .ok (.iconst 0, 1) := by decide +kernel
theorem dL_clerk_71 : decode cL_clerk 71 = .ok (.istore 10, 2) := by decide +kernel
theorem dL_clerk_73 : decode cL_clerk 73 = .ok (.iconst 0, 1) := by decide +kernel
theorem dL_clerk_74 : decode cL_clerk 74 = .ok (.istore 11, 2) := by decide +kernel
theorem dL_clerk_76 : decode cL_clerk 76 = .ok (.iload 11, 2) := by decide +kernel
theorem dL_clerk_78 : decode cL_clerk 78 = .ok (.bipush 24, 2) := by decide +kernel
theorem dL_clerk_80 : decode cL_clerk 80 = .ok (.if_icmp .ge 34, 3) := by decide +kernel
theorem dL_clerk_83 : decode cL_clerk 83 = .ok (.iload 10, 2) := by decide +kernel
theorem dL_clerk_85 : decode cL_clerk 85 = .ok (.aload_n 1, 1) := by decide +kernel
theorem dL_clerk_86 : decode cL_clerk 86 = .ok (.aload 5, 2) := by decide +kernel
theorem dL_clerk_88 : decode cL_clerk 88 = .ok (.iload 11, 2) := by decide +kernel
theorem dL_clerk_90 : decode cL_clerk 90 = .ok (.iconst 0, 1) := by decide +kernel
theorem dL_clerk_91 : decode cL_clerk 91 = .ok (.iconst (-1), 1) := by decide +kernel
theorem dL_clerk_92 : decode cL_clerk 92 = .ok (.invokestatic 15, 3) := by decide +kernel
theorem dL_clerk_95 : decode cL_clerk 95 = .ok (.aload_n 2, 1) := by decide +kernel
theorem dL_clerk_96 : decode cL_clerk 96 = .ok (.iload 11, 2) := by decide +kernel
theorem dL_clerk_98 : decode cL_clerk 98 = .ok (.iaload, 1) := by decide +kernel
theorem dL_clerk_99 : decode cL_clerk 99 = .ok (.iadd, 1) := by decide +kernel
theorem dL_clerk_100 : decode cL_clerk 100 = .ok (.aload_n 3, 1) := by decide +kernel
theorem dL_clerk_101 : decode cL_clerk 101 = .ok (.iload 11, 2) := by decide +kernel
theorem dL_clerk_103 : decode cL_clerk 103 = .ok (.iaload, 1) := by decide +kernel
theorem dL_clerk_104 : decode cL_clerk 104 = .ok (.isub, 1) := by decide +kernel
theorem dL_clerk_105 : decode cL_clerk 105 = .ok (.iadd, 1) := by decide +kernel
theorem dL_clerk_106 : decode cL_clerk 106 = .ok (.istore 10, 2) := by decide +kernel
theorem dL_clerk_108 : decode cL_clerk 108 = .ok (.iinc 11 1, 3) := by decide +kernel
theorem dL_clerk_111 : decode cL_clerk 111 = .ok (.goto (-35), 3) := by decide +kernel
theorem dL_clerk_114 : decode cL_clerk 114 = .ok (.iload 10, 2) := by decide +kernel
theorem dL_clerk_116 : decode cL_clerk 116 = .ok (.aload_n 1, 1) := by decide +kernel
theorem dL_clerk_117 : decode cL_clerk 117 = .ok (.iconst 3, 1) := by decide +kernel
theorem dL_clerk_118 : decode cL_clerk 118 = .ok (.iaload, 1) := by decide +kernel
theorem dL_clerk_119 : decode cL_clerk 119 = .ok (.isub, 1) := by decide +kernel
theorem dL_clerk_120 : decode cL_clerk 120 = .ok (.istore 11, 2) := by decide +kernel
theorem dL_clerk_122 : decode cL_clerk 122 = .ok (.iload 9, 2) := by decide +kernel
theorem dL_clerk_124 : decode cL_clerk 124 = .ok (.iload 11, 2) := by decide +kernel
theorem dL_clerk_126 : decode cL_clerk 126 = .ok (.if_icmp .le 8, 3) := by decide +kernel
theorem dL_clerk_129 : decode cL_clerk 129 = .ok (.iload 11, 2) := by decide +kernel
theorem dL_clerk_131 : decode cL_clerk 131 = .ok (.goto 5, 3) := by decide +kernel
theorem dL_clerk_134 : decode cL_clerk 134 = .ok (.iload 9, 2) := by decide +kernel
theorem dL_clerk_136 : decode cL_clerk 136 = .ok (.istore 9, 2) := by decide +kernel
theorem dL_clerk_138 : decode cL_clerk 138 = .ok (.iload 9, 2) := by decide +kernel
theorem dL_clerk_140 : decode cL_clerk 140 = .ok (.ifCond .ge 7, 3) := by decide +kernel
theorem dL_clerk_143 : decode cL_clerk 143 = .ok (.iconst 0, 1) := by decide +kernel
theorem dL_clerk_144 : decode cL_clerk 144 = .ok (.goto 5, 3) := by decide +kernel
theorem dL_clerk_147 : decode cL_clerk 147 = .ok (.iload 9, 2) := by decide +kernel
theorem dL_clerk_149 : decode cL_clerk 149 = .ok (.istore 9, 2) := by decide +kernel
theorem dL_clerk_151 : decode cL_clerk 151 = .ok (.aload 6, 2) := by decide +kernel
theorem dL_clerk_153 : decode cL_clerk 153 = .ok (.iconst 5, 1) := by decide +kernel
theorem dL_clerk_154 : decode cL_clerk 154 = .ok (.iload 7, 2) := by decide +kernel
theorem dL_clerk_156 : decode cL_clerk 156 = .ok (.imul, 1) := by decide +kernel
theorem dL_clerk_157 : decode cL_clerk 157 = .ok (.iload 9, 2) := by decide +kernel
theorem dL_clerk_159 : decode cL_clerk 159 = .ok (.iastore, 1) := by decide +kernel
theorem dL_clerk_160 : decode cL_clerk 160 = .ok (.aload 6, 2) := by decide +kernel
theorem dL_clerk_162 : decode cL_clerk 162 = .ok (.iconst 5, 1) := by decide +kernel
theorem dL_clerk_163 : decode cL_clerk 163 = .ok (.iload 7, 2) := by decide +kernel
theorem dL_clerk_165 : decode cL_clerk 165 = .ok (.imul, 1) := by decide +kernel
theorem dL_clerk_166 : decode cL_clerk 166 = .ok (.iconst 1, 1) := by decide +kernel
theorem dL_clerk_167 : decode cL_clerk 167 = .ok (.iadd, 1) := by decide +kernel
theorem dL_clerk_168 : decode cL_clerk 168 = .ok (.iload 9, 2) := by decide +kernel
theorem dL_clerk_170 : decode cL_clerk 170 = .ok (.aload_n 1, 1) := by decide +kernel
theorem dL_clerk_171 : decode cL_clerk 171 = .ok (.iconst 2, 1) := by decide +kernel
theorem dL_clerk_172 : decode cL_clerk 172 = .ok (.iaload, 1) := by decide +kernel
theorem dL_clerk_173 : decode cL_clerk 173 = .ok (.imul, 1) := by decide +kernel
theorem dL_clerk_174 : decode cL_clerk 174 = .ok (.iastore, 1) := by decide +kernel
theorem dL_clerk_175 : decode cL_clerk 175 = .ok (.aload 6, 2) := by decide +kernel
theorem dL_clerk_177 : decode cL_clerk 177 = .ok (.iconst 5, 1) := by decide +kernel
theorem dL_clerk_178 : decode cL_clerk 178 = .ok (.iload 7, 2) := by decide +kernel
theorem dL_clerk_180 : decode cL_clerk 180 = .ok (.imul, 1) := by decide +kernel
theorem dL_clerk_181 : decode cL_clerk 181 = .ok (.iconst 3, 1) := by decide +kernel
theorem dL_clerk_182 : decode cL_clerk 182 = .ok (.iadd, 1) := by decide +kernel
theorem dL_clerk_183 : decode cL_clerk 183 = .ok (.aload_n 1, 1) := by decide +kernel
theorem dL_clerk_184 : decode cL_clerk 184 = .ok (.iconst 2, 1) := by decide +kernel
theorem dL_clerk_185 : decode cL_clerk 185 = .ok (.iaload, 1) := by decide +kernel
theorem dL_clerk_186 : decode cL_clerk 186 = .ok (.iastore, 1) := by decide +kernel
theorem dL_clerk_187 : decode cL_clerk 187 = .ok (.aload 5, 2) := by decide +kernel
theorem dL_clerk_189 : decode cL_clerk 189 = .ok (.iconst 5, 1) := by decide +kernel
theorem dL_clerk_190 : decode cL_clerk 190 = .ok (.iload 7, 2) := by decide +kernel
theorem dL_clerk_192 : decode cL_clerk 192 = .ok (.imul, 1) := by decide +kernel
theorem dL_clerk_193 : decode cL_clerk 193 = .ok (.iconst 2, 1) := by decide +kernel
theorem dL_clerk_194 : decode cL_clerk 194 = .ok (.iadd, 1) := by decide +kernel
theorem dL_clerk_195 : decode cL_clerk 195 = .ok (.iload 9, 2) := by decide +kernel
theorem dL_clerk_197 : decode cL_clerk 197 = .ok (.bipush 19, 2) := by decide +kernel
theorem dL_clerk_199 : decode cL_clerk 199 = .ok (.if_icmp .le 8, 3) := by decide +kernel
theorem dL_clerk_202 : decode cL_clerk 202 = .ok (.iload 9, 2) := by decide +kernel
theorem dL_clerk_204 : decode cL_clerk 204 = .ok (.goto 12, 3) := by decide +kernel
theorem dL_clerk_207 : decode cL_clerk 207 = .ok (.aload 5, 2) := by decide +kernel
theorem dL_clerk_209 : decode cL_clerk 209 = .ok (.iconst 5, 1) := by decide +kernel
theorem dL_clerk_210 : decode cL_clerk 210 = .ok (.iload 7, 2) := by decide +kernel
theorem dL_clerk_212 : decode cL_clerk 212 = .ok (.imul, 1) := by decide +kernel
theorem dL_clerk_213 : decode cL_clerk 213 = .ok (.iconst 2, 1) := by decide +kernel
theorem dL_clerk_214 : decode cL_clerk 214 = .ok (.iadd, 1) := by decide +kernel
theorem dL_clerk_215 : decode cL_clerk 215 = .ok (.iaload, 1) := by decide +kernel
theorem dL_clerk_216 : decode cL_clerk 216 = .ok (.iastore, 1) := by decide +kernel
theorem dL_clerk_217 : decode cL_clerk 217 = .ok (.aload_n 1, 1) := by decide +kernel
theorem dL_clerk_218 : decode cL_clerk 218 = .ok (.iconst 3, 1) := by decide +kernel
theorem dL_clerk_219 : decode cL_clerk 219 = .ok (.dup2, 1) := by decide +kernel
theorem dL_clerk_220 : decode cL_clerk 220 = .ok (.iaload, 1) := by decide +kernel
theorem dL_clerk_221 : decode cL_clerk 221 = .ok (.iload 9, 2) := by decide +kernel
theorem dL_clerk_223 : decode cL_clerk 223 = .ok (.iadd, 1) := by decide +kernel
theorem dL_clerk_224 : decode cL_clerk 224 = .ok (.iastore, 1) := by decide +kernel
theorem dL_clerk_225 : decode cL_clerk 225 = .ok (.aload_n 1, 1) := by decide +kernel
theorem dL_clerk_226 : decode cL_clerk 226 = .ok (.iconst 4, 1) := by decide +kernel
theorem dL_clerk_227 : decode cL_clerk 227 = .ok (.dup2, 1) := by decide +kernel
theorem dL_clerk_228 : decode cL_clerk 228 = .ok (.iaload, 1) := by decide +kernel
theorem dL_clerk_229 : decode cL_clerk 229 = .ok (.iload 9, 2) := by decide +kernel
theorem dL_clerk_231 : decode cL_clerk 231 = .ok (.aload_n 1, 1) := by decide +kernel
theorem dL_clerk_232 : decode cL_clerk 232 = .ok (.iconst 2, 1) := by decide +kernel
theorem dL_clerk_233 : decode cL_clerk 233 = .ok (.iaload, 1) := by decide +kernel
theorem dL_clerk_234 : decode cL_clerk 234 = .ok (.imul, 1) := by decide +kernel
theorem dL_clerk_235 : decode cL_clerk 235 = .ok (.iadd, 1) := by decide +kernel
theorem dL_clerk_236 : decode cL_clerk 236 = .ok (.iastore, 1) := by decide +kernel
theorem dL_clerk_237 : decode cL_clerk 237 = .ok (.aload_n 0, 1) := by decide +kernel
theorem dL_clerk_238 : decode cL_clerk 238 = .ok (.iload 7, 2) := by decide +kernel
theorem dL_clerk_240 : decode cL_clerk 240 = .ok (.invokevirtual 38, 3) := by decide +kernel
theorem dL_clerk_243 : decode cL_clerk 243 = .ok (.iload 9, 2) := by decide +kernel
theorem dL_clerk_245 : decode cL_clerk 245 = .ok (.if_icmp .ne 7, 3) := by decide +kernel
theorem dL_clerk_248 : decode cL_clerk 248 = .ok (.iconst 1, 1) := by decide +kernel
theorem dL_clerk_249 : decode cL_clerk 249 = .ok (.goto 4, 3) := by decide +kernel
theorem dL_clerk_252 : decode cL_clerk 252 = .ok (.iconst 0, 1) := by decide +kernel
theorem dL_clerk_253 : decode cL_clerk 253 = .ok (.ireturn, 1) := by decide +kernel
theorem dL_clerk_254 : decode cL_clerk 254 = .ok (.aload 5, 2) := by decide +kernel
theorem dL_clerk_256 : decode cL_clerk 256 = .ok (.iconst 5, 1) := by decide +kernel
theorem dL_clerk_257 : decode cL_clerk 257 = .ok (.iload 7, 2) := by decide +kernel
theorem dL_clerk_259 : decode cL_clerk 259 = .ok (.imul, 1) := by decide +kernel
theorem dL_clerk_260 : decode cL_clerk 260 = .ok (.iconst 1, 1) := by decide +kernel
theorem dL_clerk_261 : decode cL_clerk 261 = .ok (.iadd, 1) := by decide +kernel
theorem dL_clerk_262 : decode cL_clerk 262 = .ok (.iaload, 1) := by decide +kernel
theorem dL_clerk_263 : decode cL_clerk 263 = .ok (.ifCond .ge 26, 3) := by decide +kernel
theorem dL_clerk_266 : decode cL_clerk 266 = .ok (.aload 6, 2) := by decide +kernel
theorem dL_clerk_268 : decode cL_clerk 268 = .ok (.iconst 5, 1) := by decide +kernel
theorem dL_clerk_269 : decode cL_clerk 269 = .ok (.iload 7, 2) := by decide +kernel
theorem dL_clerk_271 : decode cL_clerk 271 = .ok (.imul, 1) := by decide +kernel
theorem dL_clerk_272 : decode cL_clerk 272 = .ok (.iaload, 1) := by decide +kernel
theorem dL_clerk_273 : decode cL_clerk 273 = .ok (.ifCond .lt 16, 3) := by decide +kernel
theorem dL_clerk_276 : decode cL_clerk 276 = .ok (.aload 6, 2) := by decide +kernel
theorem dL_clerk_278 : decode cL_clerk 278 = .ok (.iconst 5, 1) := by decide +kernel
theorem dL_clerk_279 : decode cL_clerk 279 = .ok (.iload 7, 2) := by decide +kernel
theorem dL_clerk_281 : decode cL_clerk 281 = .ok (.imul, 1) := by decide +kernel
theorem dL_clerk_282 : decode cL_clerk 282 = .ok (.iconst 4, 1) := by decide +kernel
theorem dL_clerk_283 : decode cL_clerk 283 = .ok (.iadd, 1) := by decide +kernel
theorem dL_clerk_284 : decode cL_clerk 284 = .ok (.iaload, 1) := by decide +kernel
theorem dL_clerk_285 : decode cL_clerk 285 = .ok (.iconst 1, 1) := by decide +kernel
theorem dL_clerk_286 : decode cL_clerk 286 = .ok (.if_icmp .ne 20, 3) := by decide +kernel
theorem dL_clerk_289 : decode cL_clerk 289 = .ok (.aload_n 0, 1) := by decide +kernel
theorem dL_clerk_290 : decode cL_clerk 290 = .ok (.iload 7, 2) := by decide +kernel
theorem dL_clerk_292 : decode cL_clerk 292 = .ok (.invokevirtual 50, 3) := by decide +kernel
theorem dL_clerk_295 : decode cL_clerk 295 = .ok (.ldc 33, 2) := by decide +kernel
theorem dL_clerk_297 : decode cL_clerk 297 = .ok (.if_icmp .ne 7, 3) := by decide +kernel
theorem dL_clerk_300 : decode cL_clerk 300 = .ok (.iconst 1, 1) := by decide +kernel
theorem dL_clerk_301 : decode cL_clerk 301 = .ok (.goto 4, 3) := by decide +kernel
theorem dL_clerk_304 : decode cL_clerk 304 = .ok (.iconst 0, 1) := by decide +kernel
theorem dL_clerk_305 : decode cL_clerk 305 = .ok (.ireturn, 1) := by decide +kernel
theorem dL_clerk_306 : decode cL_clerk 306 = .ok (.aload 6, 2) := by decide +kernel
theorem dL_clerk_308 : decode cL_clerk 308 = .ok (.iconst 5, 1) := by decide +kernel
theorem dL_clerk_309 : decode cL_clerk 309 = .ok (.iload 7, 2) := by decide +kernel
theorem dL_clerk_311 : decode cL_clerk 311 = .ok (.imul, 1) := by decide +kernel
theorem dL_clerk_312 : decode cL_clerk 312 = .ok (.iaload, 1) := by decide +kernel
theorem dL_clerk_313 : decode cL_clerk 313 = .ok (.aload 5, 2) := by decide +kernel
theorem dL_clerk_315 : decode cL_clerk 315 = .ok (.iconst 5, 1) := by decide +kernel
theorem dL_clerk_316 : decode cL_clerk 316 = .ok (.iload 7, 2) := by decide +kernel
theorem dL_clerk_318 : decode cL_clerk 318 = .ok (.imul, 1) := by decide +kernel
theorem dL_clerk_319 : decode cL_clerk 319 = .ok (.iaload, 1) := by decide +kernel
theorem dL_clerk_320 : decode cL_clerk 320 = .ok (.if_icmp .le 21, 3) := by decide +kernel
theorem dL_clerk_323 : decode cL_clerk 323 = .ok (.aload 6, 2) := by decide +kernel
theorem dL_clerk_325 : decode cL_clerk 325 = .ok (.iconst 5, 1) := by decide +kernel
theorem dL_clerk_326 : decode cL_clerk 326 = .ok (.iload 7, 2) := by decide +kernel
theorem dL_clerk_328 : decode cL_clerk 328 = .ok (.imul, 1) := by decide +kernel
theorem dL_clerk_329 : decode cL_clerk 329 = .ok (.iaload, 1) := by decide +kernel
theorem dL_clerk_330 : decode cL_clerk 330 = .ok (.aload 5, 2) := by decide +kernel
theorem dL_clerk_332 : decode cL_clerk 332 = .ok (.iconst 5, 1) := by decide +kernel
theorem dL_clerk_333 : decode cL_clerk 333 = .ok (.iload 7, 2) := by decide +kernel
theorem dL_clerk_335 : decode cL_clerk 335 = .ok (.imul, 1) := by decide +kernel
theorem dL_clerk_336 : decode cL_clerk 336 = .ok (.iaload, 1) := by decide +kernel
theorem dL_clerk_337 : decode cL_clerk 337 = .ok (.isub, 1) := by decide +kernel
theorem dL_clerk_338 : decode cL_clerk 338 = .ok (.goto 4, 3) := by decide +kernel
theorem dL_clerk_341 : decode cL_clerk 341 = .ok (.iconst 0, 1) := by decide +kernel
theorem dL_clerk_342 : decode cL_clerk 342 = .ok (.istore 9, 2) := by decide +kernel
theorem dL_clerk_344 : decode cL_clerk 344 = .ok (.aload 6, 2) := by decide +kernel
theorem dL_clerk_346 : decode cL_clerk 346 = .ok (.iconst 5, 1) := by decide +kernel
theorem dL_clerk_347 : decode cL_clerk 347 = .ok (.iload 7, 2) := by decide +kernel
theorem dL_clerk_349 : decode cL_clerk 349 = .ok (.imul, 1) := by decide +kernel
theorem dL_clerk_350 : decode cL_clerk 350 = .ok (.iconst 4, 1) := by decide +kernel
theorem dL_clerk_351 : decode cL_clerk 351 = .ok (.iadd, 1) := by decide +kernel
theorem dL_clerk_352 : decode cL_clerk 352 = .ok (.iconst 1, 1) := by decide +kernel
theorem dL_clerk_353 : decode cL_clerk 353 = .ok (.iastore, 1) := by decide +kernel
theorem dL_clerk_354 : decode cL_clerk 354 = .ok (.aload 6, 2) := by decide +kernel
theorem dL_clerk_356 : decode cL_clerk 356 = .ok (.iconst 5, 1) := by decide +kernel
theorem dL_clerk_357 : decode cL_clerk 357 = .ok (.iload 7, 2) := by decide +kernel
theorem dL_clerk_359 : decode cL_clerk 359 = .ok (.imul, 1) := by decide +kernel
theorem dL_clerk_360 : decode cL_clerk 360 = .ok (.iconst 2, 1) := by decide +kernel
theorem dL_clerk_361 : decode cL_clerk 361 = .ok (.iadd, 1) := by decide +kernel
theorem dL_clerk_362 : decode cL_clerk 362 = .ok (.iload 9, 2) := by decide +kernel
theorem dL_clerk_364 : decode cL_clerk 364 = .ok (.aload 6, 2) := by decide +kernel
theorem dL_clerk_366 : decode cL_clerk 366 = .ok (.iconst 5, 1) := by decide +kernel
theorem dL_clerk_367 : decode cL_clerk 367 = .ok (.iload 7, 2) := by decide +kernel
theorem dL_clerk_369 : decode cL_clerk 369 = .ok (.imul, 1) := by decide +kernel
theorem dL_clerk_370 : decode cL_clerk 370 = .ok (.iconst 3, 1) := by decide +kernel
theorem dL_clerk_371 : decode cL_clerk 371 = .ok (.iadd, 1) := by decide +kernel
theorem dL_clerk_372 : decode cL_clerk 372 = .ok (.iaload, 1) := by decide +kernel
theorem dL_clerk_373 : decode cL_clerk 373 = .ok (.imul, 1) := by decide +kernel
theorem dL_clerk_374 : decode cL_clerk 374 = .ok (.iastore, 1) := by decide +kernel
theorem dL_clerk_375 : decode cL_clerk 375 = .ok (.aload_n 1, 1) := by decide +kernel
theorem dL_clerk_376 : decode cL_clerk 376 = .ok (.iconst 3, 1) := by decide +kernel
theorem dL_clerk_377 : decode cL_clerk 377 = .ok (.dup2, 1) := by decide +kernel
theorem dL_clerk_378 : decode cL_clerk 378 = .ok (.iaload, 1) := by decide +kernel
theorem dL_clerk_379 : decode cL_clerk 379 = .ok (.iload 9, 2) := by decide +kernel
theorem dL_clerk_381 : decode cL_clerk 381 = .ok (.isub, 1) := by decide +kernel
theorem dL_clerk_382 : decode cL_clerk 382 = .ok (.iastore, 1) := by decide +kernel
theorem dL_clerk_383 : decode cL_clerk 383 = .ok (.aload_n 1, 1) := by decide +kernel
theorem dL_clerk_384 : decode cL_clerk 384 = .ok (.iconst 5, 1) := by decide +kernel
theorem dL_clerk_385 : decode cL_clerk 385 = .ok (.dup2, 1) := by decide +kernel
theorem dL_clerk_386 : decode cL_clerk 386 = .ok (.iaload, 1) := by decide +kernel
theorem dL_clerk_387 : decode cL_clerk 387 = .ok (.aload 6, 2) := by decide +kernel
theorem dL_clerk_389 : decode cL_clerk 389 = .ok (.iconst 5, 1) := by decide +kernel
theorem dL_clerk_390 : decode cL_clerk 390 = .ok (.iload 7, 2) := by decide +kernel
theorem dL_clerk_392 : decode cL_clerk 392 = .ok (.imul, 1) := by decide +kernel
theorem dL_clerk_393 : decode cL_clerk 393 = .ok (.iconst 2, 1) := by decide +kernel
theorem dL_clerk_394 : decode cL_clerk 394 = .ok (.iadd, 1) := by decide +kernel
theorem dL_clerk_395 : decode cL_clerk 395 = .ok (.iaload, 1) := by decide +kernel
theorem dL_clerk_396 : decode cL_clerk 396 = .ok (.iadd, 1) := by decide +kernel
theorem dL_clerk_397 : decode cL_clerk 397 = .ok (.iastore, 1) := by decide +kernel
theorem dL_clerk_398 : decode cL_clerk 398 = .ok (.aload_n 0, 1) := by decide +kernel
theorem dL_clerk_399 : decode cL_clerk 399 = .ok (.iload 7, 2) := by decide +kernel
theorem dL_clerk_401 : decode cL_clerk 401 = .ok (.invokevirtual 50, 3) := by decide +kernel
theorem dL_clerk_404 : decode cL_clerk 404 = .ok (.aload 6, 2) := by decide +kernel
theorem dL_clerk_406 : decode cL_clerk 406 = .ok (.iconst 5, 1) := by decide +kernel
theorem dL_clerk_407 : decode cL_clerk 407 = .ok (.iload 7, 2) := by decide +kernel
theorem dL_clerk_409 : decode cL_clerk 409 = .ok (.imul, 1) := by decide +kernel
theorem dL_clerk_410 : decode cL_clerk 410 = .ok (.iconst 2, 1) := by decide +kernel
theorem dL_clerk_411 : decode cL_clerk 411 = .ok (.iadd, 1) := by decide +kernel
theorem dL_clerk_412 : decode cL_clerk 412 = .ok (.iaload, 1) := by decide +kernel
theorem dL_clerk_413 : decode cL_clerk 413 = .ok (.if_icmp .ne 7, 3) := by decide +kernel
theorem dL_clerk_416 : decode cL_clerk 416 = .ok (.iconst 1, 1) := by decide +kernel
theorem dL_clerk_417 : decode cL_clerk 417 = .ok (.goto 4, 3) := by decide +kernel
theorem dL_clerk_420 : decode cL_clerk 420 = .ok (.iconst 0, 1) := by decide +kernel
theorem dL_clerk_421 : decode cL_clerk 421 = .ok (.ireturn, 1) := by decide +kernel
set_option maxRecDepth 20000 in
theorem ggL_acts_L_low : GoodIn wsL_acts wsL_low := goodIn_r _ [8, 9] (by decide +kernel) (by decide +kernel)
set_option maxRecDepth 20000 in
theorem gL_acts_L_low : GoodIn wsL_acts (va_wsS RL 54 yL_low wsL_low) := goodIn_app (goodIn_of _ (by decide +kernel)) ggL_acts_L_low
set_option maxRecDepth 20000 in
theorem ggL_acts_X1_setDrift : GoodIn wsL_acts wsX1_setDrift := goodIn_r _ [14, 15, 16, 17, 18, 19, 13, 20, 21, 22, 23, 24, 25, 26, 27, 28, 29, 30, 31, 32, 33, 34, 35, 36, 37, 38, 39, 40, 41, 42, 43, 44, 45, 46, 47, 48, 49, 50, 51, 52, 53, 54, 55, 56, 57, 58, 59, 60, 61, 62, 63, 64, 65, 66, 67, 68, 238, 239, 240, 241, 242, 243, 244, 245, 246, 247, 248, 249, 250, 251, 252, 253, 254, 255, 256, 257, 258, 259] (by decide +kernel) (by decide +kernel)
set_option maxRecDepth 20000 in
theorem gL_acts_X1_setDrift : GoodIn wsL_acts (wsV RL 57 RX1 yX1_setDrift wsX1_setDrift) := goodIn_app (goodIn_of _ (by decide +kernel)) ggL_acts_X1_setDrift
set_option maxRecDepth 20000 in
theorem ggL_acts_X1_setPrice : GoodIn wsL_acts wsX1_setPrice := goodIn_r _ [72, 15, 16, 73, 21, 22, 13, 23, 24, 25, 26, 27, 28, 29, 30, 31, 32, 33, 34, 35, 36, 37, 38, 39, 40, 41, 42, 43, 44, 45, 46, 47, 48, 49, 50, 51, 52, 53, 54, 55, 56, 57, 58, 59, 60, 61, 62, 63, 64, 65, 66, 67, 68, 238, 239, 240, 241, 242, 243, 244, 245, 246, 247, 248, 249, 250, 251, 252, 253, 254, 255, 256, 257, 258, 259] (by decide +kernel) (by decide +kernel)
set_option maxRecDepth 20000 in
theorem gL_acts_X1_setPrice : GoodIn wsL_acts (wsV RL 60 RX1 yX1_setPrice wsX1_setPrice) := goodIn_app (goodIn_of _ (by decide +kernel)) ggL_acts_X1_setPrice
set_option maxRecDepth 20000 in
theorem ggL_acts_L_who : GoodIn wsL_acts wsL_who := goodIn_r _ [76] (by decide +kernel) (by decide +kernel)
set_option maxRecDepth 20000 in
theorem gL_acts_L_who : GoodIn wsL_acts (va_wsS RL 63 yL_who wsL_who) := goodIn_app (goodIn_of _ (by decide +kernel)) ggL_acts_L_who
set_option maxRecDepth 20000 in
theorem ggL_acts_X1_board : GoodIn wsL_acts wsX1_board := goodIn_r _ [80, 15, 16, 81, 82, 83, 84, 85, 86, 87, 88, 89, 90, 13, 91, 21, 22, 23, 18, 19, 20, 92, 93, 94, 24, 25, 26, 27, 28, 29, 30, 31, 32, 33, 34, 35, 36, 37, 38, 39, 40, 41, 42, 43, 44, 45, 46, 47, 48, 49, 50, 51, 52, 53, 54, 55, 56, 57, 58, 59, 60, 61, 62, 63, 64, 65, 66, 67, 68, 238, 239, 240, 241, 242, 243, 244, 245, 246, 247, 248, 249, 250, 251, 252, 253, 254, 255, 256, 257, 258, 259] (by decide +kernel) (by decide +kernel)
set_option maxRecDepth 20000 in
theorem gL_acts_X1_board : GoodIn wsL_acts (wsV RL 67 RX1 yX1_board wsX1_board) := goodIn_app (goodIn_of _ (by decide +kernel)) ggL_acts_X1_board
set_option maxRecDepth 20000 in
theorem ggL_acts_X1_walk : GoodIn wsL_acts wsX1_walk := goodIn_r _ [98, 15, 16, 81, 82, 83, 88, 99, 100, 101, 13, 102, 84, 18, 19, 20, 103, 104, 105, 106, 92, 93, 94, 24, 25, 26, 27, 28, 29, 30, 31, 32, 33, 34, 35, 36, 37, 38, 39, 40, 41, 42, 43, 44, 45, 46, 47, 48, 49, 50, 51, 52, 53, 54, 55, 56, 57, 58, 59, 60, 61, 62, 63, 64, 65, 66, 67, 68, 238, 239, 240, 241, 242, 243, 244, 245, 246, 247, 248, 249, 250, 251, 252, 253, 254, 255, 256, 257, 258, 259] (by decide +kernel) (by decide +kernel)
set_option maxRecDepth 20000 in
theorem gL_acts_X1_walk : GoodIn wsL_acts (wsV RL 71 RX1 yX1_walk wsX1_walk) := goodIn_app (goodIn_of _ (by decide +kernel)) ggL_acts_X1_walk
set_option maxRecDepth 20000 in
theorem ggL_acts_X1_leave : GoodIn wsL_acts wsX1_leave := goodIn_r _ [110, 15, 83, 16, 81, 88, 82, 99, 100, 101, 13, 102, 84, 103, 104, 105, 106, 24, 25, 26, 27, 28, 29, 30, 31, 32, 33, 34, 35, 36, 37, 38, 39, 40, 41, 42, 43, 44, 45, 46, 47, 48, 49, 50, 51, 52, 53, 54, 55, 56, 57, 58, 59, 60, 61, 62, 63, 64, 65, 66, 67, 68, 92, 93, 94, 238, 239, 240, 241, 242, 243, 244, 245, 246, 247, 248, 249, 250, 251, 252, 253, 254, 255, 256, 257, 258, 259] (by decide +kernel) (by decide +kernel)
set_option maxRecDepth 20000 in
theorem gL_acts_X1_leave : GoodIn wsL_acts (wsV RL 74 RX1 yX1_leave wsX1_leave) := goodIn_app (goodIn_of _ (by decide +kernel)) ggL_acts_X1_leave
set_option maxRecDepth 20000 in
theorem ggL_acts_X1_bill : GoodIn wsL_acts wsX1_bill := goodIn_r _ [114, 15, 16, 115, 82, 83, 116, 73, 87, 99, 100, 101, 13, 102, 84, 103, 104, 105, 106, 81, 24, 25, 26, 27, 28, 29, 30, 31, 32, 33, 34, 35, 36, 37, 38, 39, 40, 41, 42, 43, 44, 45, 46, 47, 48, 49, 50, 51, 52, 53, 54, 55, 56, 57, 58, 59, 60, 61, 62, 63, 64, 65, 66, 67, 68, 117, 118, 119, 120, 121, 122, 123, 124, 125, 126, 127, 128, 88, 129, 130, 131, 132, 133, 134, 135, 86, 136, 137, 138, 139, 140, 141, 142, 18, 19, 20, 143, 144, 145, 146, 147, 148, 149, 150, 151, 152, 153, 154, 155, 156, 157, 158, 159, 160, 161, 162, 163, 164, 165, 166, 167, 168, 169, 170, 171, 172, 173, 174, 175, 238, 239, 240, 241, 242, 243, 244, 245, 246, 247, 248, 249, 250, 251, 252, 253, 254, 255, 256, 257, 258, 259] (by decide +kernel) (by decide +kernel)
set_option maxRecDepth 20000 in
theorem gL_acts_X1_bill : GoodIn wsL_acts (wsV RL 38 RX1 yX1_bill wsX1_bill) := goodIn_app (goodIn_of _ (by decide +kernel)) ggL_acts_X1_bill
set_option maxRecDepth 20000 in
theorem ggL_acts_X1_complain : GoodIn wsL_acts wsX1_complain := goodIn_r _ [179, 15, 16, 115, 82, 172, 83, 86, 122, 123, 63, 124, 99, 100, 101, 13, 102, 84, 103, 104, 105, 106, 81, 24, 25, 26, 27, 28, 29, 30, 31, 32, 33, 34, 35, 36, 37, 38, 39, 40, 41, 42, 43, 44, 45, 46, 47, 48, 49, 50, 51, 52, 53, 54, 55, 56, 57, 58, 59, 60, 61, 62, 64, 65, 66, 67, 68, 180, 181, 182, 183, 116, 173, 174, 175, 238, 239, 240, 241, 242, 243, 244, 245, 246, 247, 248, 249, 250, 251, 252, 253, 254, 255, 256, 257, 258, 259] (by decide +kernel) (by decide +kernel)
set_option maxRecDepth 20000 in
theorem gL_acts_X1_complain : GoodIn wsL_acts (wsV RL 50 RX1 yX1_complain wsX1_complain) := goodIn_app (goodIn_of _ (by decide +kernel)) ggL_acts_X1_complain
set_option maxRecDepth 20000 in
theorem ggL_acts_X1_swap : GoodIn wsL_acts wsX1_swap := goodIn_r _ [187, 15, 83, 16, 81, 88, 188, 189, 190, 13, 191, 99, 100, 101, 102, 84, 103, 104, 105, 106, 82, 24, 25, 26, 27, 28, 29, 30, 31, 32, 33, 34, 35, 36, 37, 38, 39, 40, 41, 42, 43, 44, 45, 46, 47, 48, 49, 50, 51, 52, 53, 54, 55, 56, 57, 58, 59, 60, 61, 62, 63, 64, 65, 66, 67, 68, 192, 193, 194, 195, 196, 197, 198, 129, 130, 199, 200, 201, 131, 132, 133, 134, 135, 86, 136, 137, 138, 139, 140, 141, 142, 18, 19, 20, 143, 144, 145, 146, 147, 148, 149, 121, 87, 238, 239, 240, 241, 242, 243, 244, 245, 246, 247, 248, 249, 250, 251, 252, 253, 254, 255, 256, 257, 258, 259] (by decide +kernel) (by decide +kernel)
set_option maxRecDepth 20000 in
theorem gL_acts_X1_swap : GoodIn wsL_acts (wsV RL 23 RX1 yX1_swap wsX1_swap) := goodIn_app (goodIn_of _ (by decide +kernel)) ggL_acts_X1_swap
set_option maxRecDepth 20000 in
theorem ggL_acts_L_two : GoodIn wsL_acts wsL_two := goodIn_r _ [204, 4, 2, 184, 185, 186, 13, 187, 15, 83, 16, 81, 88, 188, 189, 190, 191, 99, 100, 101, 102, 84, 103, 104, 105, 106, 82, 24, 25, 26, 27, 28, 29, 30, 31, 32, 33, 34, 35, 36, 37, 38, 39, 40, 41, 42, 43, 44, 45, 46, 47, 48, 49, 50, 51, 52, 53, 54, 55, 56, 57, 58, 59, 60, 61, 62, 63, 64, 65, 66, 67, 68, 192, 193, 194, 195, 196, 197, 198, 129, 130, 199, 200, 201, 131, 132, 133, 134, 135, 86, 136, 137, 138, 139, 140, 141, 142, 18, 19, 20, 143, 144, 145, 146, 147, 148, 149, 121, 87, 205, 206, 207, 208, 155, 209, 210, 7, 211, 212, 213, 214, 215, 216, 217, 238, 239, 240, 241, 242, 243, 244, 245, 246, 247, 248, 249, 250, 251, 252, 253, 254, 255, 256, 257, 258, 259] (by decide +kernel) (by decide +kernel)
set_option maxRecDepth 20000 in
theorem gL_acts_L_two : GoodIn wsL_acts (va_wsS RL 77 yL_two wsL_two) := goodIn_app (goodIn_of _ (by decide +kernel)) ggL_acts_L_two
set_option maxRecDepth 20000 in
theorem ggL_acts_L_clerk : GoodIn wsL_acts wsL_clerk := goodIn_r _ [220, 2, 111, 112, 113, 13, 114, 15, 16, 115, 82, 83, 116, 73, 87, 99, 100, 101, 102, 84, 103, 104, 105, 106, 81, 24, 25, 26, 27, 28, 29, 30, 31, 32, 33, 34, 35, 36, 37, 38, 39, 40, 41, 42, 43, 44, 45, 46, 47, 48, 49, 50, 51, 52, 53, 54, 55, 56, 57, 58, 59, 60, 61, 62, 63, 64, 65, 66, 67, 68, 117, 118, 119, 120, 121, 122, 123, 124, 125, 126, 127, 128, 88, 129, 130, 131, 132, 133, 134, 135, 86, 136, 137, 138, 139, 140, 141, 142, 18, 19, 20, 143, 144, 145, 146, 147, 148, 149, 150, 151, 152, 153, 154, 155, 156, 157, 158, 159, 160, 161, 162, 163, 164, 165, 166, 167, 168, 169, 170, 171, 172, 173, 174, 175, 221, 222, 7, 223, 215, 216, 217, 212, 213, 214, 224, 225, 226, 227, 228, 229, 176, 177, 178, 179, 180, 181, 182, 183, 238, 239, 240, 241, 242, 243, 244, 245, 246, 247, 248, 249, 250, 251, 252, 253, 254, 255, 256, 257, 258, 259] (by decide +kernel) (by decide +kernel)
set_option maxRecDepth 20000 in
theorem gL_acts_L_clerk : GoodIn wsL_acts (va_wsS RL 81 yL_clerk wsL_clerk) := goodIn_app (goodIn_of _ (by decide +kernel)) ggL_acts_L_clerk
set_option maxRecDepth 20000 in
theorem ggL_acts_L_share : GoodIn wsL_acts wsL_share := goodIn_r _ [217] (by decide +kernel) (by decide +kernel)
set_option maxRecDepth 20000 in
theorem gL_acts_L_share : GoodIn wsL_acts (va_wsS RL 9 yL_share wsL_share) := goodIn_app (goodIn_of _ (by decide +kernel)) ggL_acts_L_share
set_option maxRecDepth 20000 in
theorem ggL_acts_X1_tare : GoodIn wsL_acts wsX1_tare := goodIn_r _ [233, 15, 129, 16, 135, 83, 121, 160, 154, 18, 19, 13, 20, 131, 132, 133, 134, 86, 81, 136, 59, 60, 61, 62, 63, 64, 65, 66, 67, 68, 137, 138, 139, 140, 141, 142, 143, 144, 145, 82, 24, 25, 26, 27, 28, 29, 30, 31, 32, 33, 34, 35, 36, 37, 38, 39, 40, 41, 42, 43, 44, 45, 46, 47, 48, 49, 50, 51, 52, 53, 54, 55, 56, 57, 58, 238, 239, 240, 241, 242, 243, 244, 245, 246, 247, 248, 249, 250, 251, 252, 253, 254, 255, 256, 257, 258, 259] (by decide +kernel) (by decide +kernel)
set_option maxRecDepth 20000 in
theorem gL_acts_X1_tare : GoodIn wsL_acts (wsV RL 85 RX1 yX1_tare wsX1_tare) := goodIn_app (goodIn_of _ (by decide +kernel)) ggL_acts_X1_tare
set_option maxRecDepth 20000 in
theorem ggL_acts_X1_pass : GoodIn wsL_acts wsX1_pass := goodIn_r _ [237, 15, 16, 154, 83, 135, 17, 21, 22, 13, 23, 24, 25, 26, 27, 28, 29, 30, 31, 32, 33, 34, 35, 36, 37, 38, 39, 40, 41, 42, 43, 44, 45, 46, 47, 48, 49, 50, 51, 52, 53, 54, 55, 56, 57, 58, 59, 60, 61, 62, 63, 64, 65, 66, 67, 68, 238, 239, 240, 241, 242, 243, 244, 245, 246, 247, 248, 249, 250, 251, 252, 253, 254, 255, 256, 257, 258, 259] (by decide +kernel) (by decide +kernel)
set_option maxRecDepth 20000 in
theorem gL_acts_X1_pass : GoodIn wsL_acts (wsV RL 88 RX1 yX1_pass wsX1_pass) := goodIn_app (goodIn_of _ (by decide +kernel)) ggL_acts_X1_pass
theorem dL_acts_0 : decode cL_acts 0 = .ok (.iload 8, 2) := by decide +kernel
theorem dL_acts_2 : decode cL_acts 2 = .ok (.iconst 5, 1) := by decide +kernel
theorem dL_acts_3 : decode cL_acts 3 = .ok (.ishr, 1) := by decide +kernel
theorem dL_acts_4 : decode cL_acts 4 = .ok (.ldc 53, 2) := by decide +kernel
theorem dL_acts_6 : decode cL_acts 6 = .ok (.invokestatic 54, 3) := by decide +kernel
theorem dL_acts_9 : decode cL_acts 9 = .ok (.istore 9, 2) := by decide +kernel
theorem dL_acts_11 : decode cL_acts 11 = .ok (.iload 8, 2) := by decide +kernel
theorem dL_acts_13 : decode cL_acts 13 = .ok (.bipush 26, 2) := by decide +kernel
theorem dL_acts_15 : decode cL_acts 15 = .ok (.invokestatic 54, 3) := by decide +kernel
theorem dL_acts_18 : decode cL_acts 18 = .ok (.istore 10, 2) := by decide +kernel
theorem dL_acts_20 : decode cL_acts 20 = .ok (.iload 9, 2) := by decide +kernel
theorem dL_acts_22 : decode cL_acts 22 = .ok (.bipush 24, 2) := by decide +kernel
theorem dL_acts_24 : decode cL_acts 24 = .ok (.irem, 1) := by decide +kernel
theorem dL_acts_25 : decode cL_acts 25 = .ok (.istore 11, 2) := by decide +kernel
theorem dL_acts_27 : decode cL_acts 27 = .ok (.iload 10, 2) := by decide +kernel
theorem dL_acts_29 : decode cL_acts 29 = .ok (.ifCond .ne 44, 3) := by decide +kernel
theorem dL_acts_32 : decode cL_acts 32 = .ok (.aload_n 3, 1) := by decide +kernel
theorem dL_acts_33 : decode cL_acts 33 = .ok (.iload 11, 2) := by decide +kernel
theorem dL_acts_35 : decode cL_acts 35 = .ok (.iaload, 1) := by decide +kernel
theorem dL_acts_36 : decode cL_acts 36 = .ok (.istore 12, 2) := by decide +kernel
theorem dL_acts_38 : decode cL_acts 38 = .ok (.aload_n 3, 1) := by decide +kernel
theorem dL_acts_39 : decode cL_acts 39 = .ok (.iload 11, 2) := by decide +kernel
theorem dL_acts_41 : decode cL_acts 41 = .ok (.iload 9, 2) := by decide +kernel
theorem dL_acts_43 : decode cL_acts 43 = .ok (.bipush 24, 2) := by decide +kernel
theorem dL_acts_45 : decode cL_acts 45 = .ok (.idiv, 1) := by decide +kernel
theorem dL_acts_46 : decode cL_acts 46 = .ok (.bipush 7, 2) := by decide +kernel
theorem dL_acts_48 : decode cL_acts 48 = .ok (.irem, 1) := by decide +kernel
theorem dL_acts_49 : decode cL_acts 49 = .ok (.iconst 3, 1) := by decide +kernel
theorem dL_acts_50 : decode cL_acts 50 = .ok (.isub, 1) := by decide +kernel
theorem dL_acts_51 : decode cL_acts 51 = .ok (.iastore, 1) := by decide +kernel
theorem dL_acts_52 : decode cL_acts 52 = .ok (.aload_n 0, 1) := by decide +kernel
theorem dL_acts_53 : decode cL_acts 53 = .ok (.iload 11, 2) := by decide +kernel
theorem dL_acts_55 : decode cL_acts 55 = .ok (.aload_n 3, 1) := by decide +kernel
theorem dL_acts_56 : decode cL_acts 56 = .ok (.iload 11, 2) := by decide +kernel
theorem dL_acts_58 : decode cL_acts 58 = .ok (.iaload, 1) := by decide +kernel
theorem dL_acts_59 : decode cL_acts 59 = .ok (.invokevirtual 57, 3) := by decide +kernel
theorem dL_acts_62 : decode cL_acts 62 = .ok (.iload 12, 2) := by decide +kernel
theorem dL_acts_64 : decode cL_acts 64 = .ok (.if_icmp .ne 7, 3) := by decide +kernel
theorem dL_acts_67 : decode cL_acts 67 = .ok (.iconst 1, 1) := by decide +kernel
theorem dL_acts_68 : decode cL_acts 68 = .ok (.goto 4, 3) := by decide +kernel
theorem dL_acts_71 : decode cL_acts 71 = .ok (.iconst 0, 1) := by decide +kernel
theorem dL_acts_72 : decode cL_acts 72 = .ok (.ireturn, 1) := by decide +kernel
theorem dL_acts_73 : decode cL_acts 73 = .ok (.iload 10, 2) := by decide +kernel
theorem dL_acts_75 : decode cL_acts 75 = .ok (.iconst 1, 1) := by decide +kernel
theorem dL_acts_76 : decode cL_acts 76 = .ok (.if_icmp .ne 36, 3) := by decide +kernel
theorem dL_acts_79 : decode cL_acts 79 = .ok (.aload_n 1, 1) := by decide +kernel
theorem dL_acts_80 : decode cL_acts 80 = .ok (.iconst 2, 1) := by decide +kernel
theorem dL_acts_81 : decode cL_acts 81 = .ok (.iaload, 1) := by decide +kernel
theorem dL_acts_82 : decode cL_acts 82 = .ok (.istore 12, 2) := by decide +kernel
theorem dL_acts_84 : decode cL_acts 84 = .ok (.aload_n 1, 1) := by decide +kernel
theorem dL_acts_85 : decode cL_acts 85 = .ok (.iconst 2, 1) := by decide +kernel
theorem dL_acts_86 : decode cL_acts 86 = .ok (.iload 9, 2) := by decide +kernel
theorem dL_acts_88 : decode cL_acts 88 = .ok (.bipush 101, 2) := by decide +kernel
theorem dL_acts_90 : decode cL_acts 90 = .ok (.irem, 1) := by decide +kernel
theorem dL_acts_91 : decode cL_acts 91 = .ok (.iastore, 1) := by decide +kernel
theorem dL_acts_92 : decode cL_acts 92 = .ok (.aload_n 0, 1) := by decide +kernel
theorem dL_acts_93 : decode cL_acts 93 = .ok (.iload 9, 2) := by decide +kernel
theorem dL_acts_95 : decode cL_acts 95 = .ok (.bipush 101, 2) := by decide +kernel
theorem dL_acts_97 : decode cL_acts 97 = .ok (.irem, 1) := by decide +kernel
theorem dL_acts_98 : decode cL_acts 98 = .ok (.invokevirtual 60, 3) := by decide +kernel
theorem dL_acts_101 : decode cL_acts 101 = .ok (.iload 12, 2) := by decide +kernel
theorem dL_acts_103 : decode cL_acts 103 = .ok (.if_icmp .ne 7, 3) := by decide +kernel
theorem dL_acts_106 : decode cL_acts 106 = .ok (.iconst 1, 1) := by decide +kernel
theorem dL_acts_107 : decode cL_acts 107 = .ok (.goto 4, 3) := by decide +kernel
theorem dL_acts_110 : decode cL_acts 110 = .ok (.iconst 0, 1) := by decide +kernel
theorem dL_acts_111 : decode cL_acts 111 = .ok (.ireturn, 1) := by decide +kernel
theorem dL_acts_112 : decode cL_acts 112 = .ok (.iload 10, 2) := by decide +kernel
theorem dL_acts_114 : decode cL_acts 114 = .ok (.bipush 7, 2) := by decide +kernel
theorem dL_acts_116 : decode cL_acts 116 = .ok (.if_icmp .ge 217, 3) := by decide +kernel
theorem dL_acts_119 : decode cL_acts 119 = .ok (.bipush 20, 2) := by decide +kernel
theorem dL_acts_121 : decode cL_acts 121 = .ok (.iload 9, 2) := by decide +kernel
theorem dL_acts_123 : decode cL_acts 123 = .ok (.bipush 24, 2) := by decide +kernel
theorem dL_acts_125 : decode cL_acts 125 = .ok (.idiv, 1) := by decide +kernel
theorem dL_acts_126 : decode cL_acts 126 = .ok (.sipush 131, 3) := by decide +kernel
theorem dL_acts_129 : decode cL_acts 129 = .ok (.irem, 1) := by decide +kernel
theorem dL_acts_130 : decode cL_acts 130 = .ok (.iadd, 1) := by decide +kernel
theorem dL_acts_131 : decode cL_acts 131 = .ok (.istore 12, 2) := by decide +kernel
theorem dL_acts_133 : decode cL_acts 133 = .ok (.iload 9, 2) := by decide +kernel
theorem dL_acts_135 : decode cL_acts 135 = .ok (.iconst 4, 1) := by decide +kernel
theorem dL_acts_136 : decode cL_acts 136 = .ok (.irem, 1) := by decide +kernel
theorem dL_acts_137 : decode cL_acts 137 = .ok (.ifCond .ne 18, 3) := by decide +kernel
theorem dL_acts_140 : decode cL_acts 140 = .ok (.bipush 20, 2) := by decide +kernel
theorem dL_acts_142 : decode cL_acts 142 = .ok (.iload 9, 2) := by decide +kernel
theorem dL_acts_144 : decode cL_acts 144 = .ok (.bipush 7, 2) := by decide +kernel
theorem dL_acts_146 : decode cL_acts 146 = .ok (.idiv, 1) := by decide +kernel
theorem dL_acts_147 : decode cL_acts 147 = .ok (.sipush 131, 3) := by decide +kernel
theorem dL_acts_150 : decode cL_acts 150 = .ok (.irem, 1) := by decide +kernel
theorem dL_acts_151 : decode cL_acts 151 = .ok (.iadd, 1) := by decide +kernel
theorem dL_acts_152 : decode cL_acts 152 = .ok (.goto 5, 3) := by decide +kernel
theorem dL_acts_155 : decode cL_acts 155 = .ok (.iload 12, 2) := by decide +kernel
theorem dL_acts_157 : decode cL_acts 157 = .ok (.istore 13, 2) := by decide +kernel
theorem dL_acts_159 : decode cL_acts 159 = .ok (.aload_n 1, 1) := by decide +kernel
theorem dL_acts_160 : decode cL_acts 160 = .ok (.aload 6, 2) := by decide +kernel
theorem dL_acts_162 : decode cL_acts 162 = .ok (.iload 11, 2) := by decide +kernel
theorem dL_acts_164 : decode cL_acts 164 = .ok (.iconst 1, 1) := by decide +kernel
theorem dL_acts_165 : decode cL_acts 165 = .ok (.invokestatic 63, 3) := by decide +kernel
theorem dL_acts_168 : decode cL_acts 168 = .ok (.ifCond .lt 24, 3) := by decide +kernel
theorem dL_acts_171 : decode cL_acts 171 = .ok (.aload_n 0, 1) := by decide +kernel
theorem dL_acts_172 : decode cL_acts 172 = .ok (.iload 12, 2) := by decide +kernel
theorem dL_acts_174 : decode cL_acts 174 = .ok (.iload 13, 2) := by decide +kernel
theorem dL_acts_176 : decode cL_acts 176 = .ok (.iload 11, 2) := by decide +kernel
theorem dL_acts_178 : decode cL_acts 178 = .ok (.invokevirtual 67, 3) := by decide +kernel
theorem dL_acts_181 : decode cL_acts 181 = .ok (.ldc 33, 2) := by decide +kernel
theorem dL_acts_183 : decode cL_acts 183 = .ok (.if_icmp .ne 7, 3) := by decide +kernel
theorem dL_acts_186 : decode cL_acts 186 = .ok (.iconst 1, 1) := by decide +kernel
theorem dL_acts_187 : decode cL_acts 187 = .ok (.goto 4, 3) := by decide +kernel
theorem dL_acts_190 : decode cL_acts 190 = .ok (.iconst 0, 1) := by decide +kernel
theorem dL_acts_191 : decode cL_acts 191 = .ok (.ireturn, 1) := by decide +kernel
theorem dL_acts_192 : decode cL_acts 192 = .ok (.aload_n 1, 1) := by decide +kernel
theorem dL_acts_193 : decode cL_acts 193 = .ok (.iconst 1, 1) := by decide +kernel
theorem dL_acts_194 : decode cL_acts 194 = .ok (.iaload, 1) := by decide +kernel
theorem dL_acts_195 : decode cL_acts 195 = .ok (.bipush 8, 2) := by decide +kernel
theorem dL_acts_197 : decode cL_acts 197 = .ok (.if_icmp .ne 24, 3) := by decide +kernel
theorem dL_acts_200 : decode cL_acts 200 = .ok (.aload_n 0, 1) := by decide +kernel
theorem dL_acts_201 : decode cL_acts 201 = .ok (.iload 12, 2) := by decide +kernel
theorem dL_acts_203 : decode cL_acts 203 = .ok (.iload 13, 2) := by decide +kernel
theorem dL_acts_205 : decode cL_acts 205 = .ok (.iload 11, 2) := by decide +kernel
theorem dL_acts_207 : decode cL_acts 207 = .ok (.invokevirtual 67, 3) := by decide +kernel
theorem dL_acts_210 : decode cL_acts 210 = .ok (.ldc 70, 2) := by decide +kernel
theorem dL_acts_212 : decode cL_acts 212 = .ok (.if_icmp .ne 7, 3) := by decide +kernel
theorem dL_acts_215 : decode cL_acts 215 = .ok (.iconst 1, 1) := by decide +kernel
theorem dL_acts_216 : decode cL_acts 216 = .ok (.goto 4, 3) := by decide +kernel
theorem dL_acts_219 : decode cL_acts 219 = .ok (.iconst 0, 1) := by decide +kernel
theorem dL_acts_220 : decode cL_acts 220 = .ok (.ireturn, 1) := by decide +kernel
theorem dL_acts_221 : decode cL_acts 221 = .ok (.iconst 5, 1) := by decide +kernel
theorem dL_acts_222 : decode cL_acts 222 = .ok (.aload_n 1, 1) := by decide +kernel
theorem dL_acts_223 : decode cL_acts 223 = .ok (.iconst 1, 1) := by decide +kernel
theorem dL_acts_224 : decode cL_acts 224 = .ok (.iaload, 1) := by decide +kernel
theorem dL_acts_225 : decode cL_acts 225 = .ok (.imul, 1) := by decide +kernel
theorem dL_acts_226 : decode cL_acts 226 = .ok (.istore 14, 2) := by decide +kernel
theorem dL_acts_228 : decode cL_acts 228 = .ok (.iconst 0, 1) := by decide +kernel
theorem dL_acts_229 : decode cL_acts 229 = .ok (.istore 15, 2) := by decide +kernel
theorem dL_acts_231 : decode cL_acts 231 = .ok (.iload 15, 2) := by decide +kernel
theorem dL_acts_233 : decode cL_acts 233 = .ok (.iconst 5, 1) := by decide +kernel
theorem dL_acts_234 : decode cL_acts 234 = .ok (.if_icmp .ge 68, 3) := by decide +kernel
theorem dL_acts_237 : decode cL_acts 237 = .ok (.aload 6, 2) := by decide +kernel
theorem dL_acts_239 : decode cL_acts 239 = .ok (.iload 14, 2) := by decide +kernel
theorem dL_acts_241 : decode cL_acts 241 = .ok (.iload 15, 2) := by decide +kernel
theorem dL_acts_243 : decode cL_acts 243 = .ok (.iadd, 1) := by decide +kernel
theorem dL_acts_244 : decode cL_acts 244 = .ok (.iload 15, 2) := by decide +kernel
theorem dL_acts_246 : decode cL_acts 246 = .ok (.ifCond .ne 8, 3) := by decide +kernel
theorem dL_acts_249 : decode cL_acts 249 = .ok (.iload 12, 2) := by decide +kernel
theorem dL_acts_251 : decode cL_acts 251 = .ok (.goto 26, 3) := by decide +kernel
theorem dL_acts_254 : decode cL_acts 254 = .ok (.iload 15, 2) := by decide +kernel
theorem dL_acts_256 : decode cL_acts 256 = .ok (.iconst 2, 1) := by decide +kernel
theorem dL_acts_257 : decode cL_acts 257 = .ok (.if_icmp .ne 8, 3) := by decide +kernel
theorem dL_acts_260 : decode cL_acts 260 = .ok (.iload 13, 2) := by decide +kernel
theorem dL_acts_262 : decode cL_acts 262 = .ok (.goto 15, 3) := by decide +kernel
theorem dL_acts_265 : decode cL_acts 265 = .ok (.iload 15, 2) := by decide +kernel
theorem dL_acts_267 : decode cL_acts 267 = .ok (.iconst 4, 1) := by decide +kernel
theorem dL_acts_268 : decode cL_acts 268 = .ok (.if_icmp .ne 7, 3) := by decide +kernel
theorem dL_acts_271 : decode cL_acts 271 = .ok (.iconst 0, 1) := by decide +kernel
theorem dL_acts_272 : decode cL_acts 272 = .ok (.goto 5, 3) := by decide +kernel
theorem dL_acts_275 : decode cL_acts 275 = .ok (.iload 11, 2) := by decide +kernel
theorem dL_acts_277 : decode cL_acts 277 = .ok (.iastore, 1) := by decide +kernel
theorem dL_acts_278 : decode cL_acts 278 = .ok (.aload 7, 2) := by decide +kernel
theorem dL_acts_280 : decode cL_acts 280 = .ok (.iload 14, 2) := by decide +kernel
theorem dL_acts_282 : decode cL_acts 282 = .ok (.iload 15, 2) := by decide +kernel
theorem dL_acts_284 : decode cL_acts 284 = .ok (.iadd, 1) := by decide +kernel
theorem dL_acts_285 : decode cL_acts 285 = .ok (.iload 15, 2) := by decide +kernel
theorem dL_acts_287 : decode cL_acts 287 = .ok (.ifCond .ne 7, 3) := by decide +kernel
theorem dL_acts_290 : decode cL_acts 290 = .ok (.iconst (-1), 1) := by decide +kernel
theorem dL_acts_291 : decode cL_acts 291 = .ok (.goto 4, 3) := by decide +kernel
theorem dL_acts_294 : decode cL_acts 294 = .ok (.iconst 0, 1) := by decide +kernel
theorem dL_acts_295 : decode cL_acts 295 = .ok (.iastore, 1) := by decide +kernel
theorem dL_acts_296 : decode cL_acts 296 = .ok (.iinc 15 1, 3) := by decide +kernel
theorem dL_acts_299 : decode cL_acts 299 = .ok (.goto (-68), 3) := by decide +kernel
theorem dL_acts_302 : decode cL_acts 302 = .ok (.aload_n 1, 1) := by decide +kernel
theorem dL_acts_303 : decode cL_acts 303 = .ok (.iconst 1, 1) := by decide +kernel
theorem dL_acts_304 : decode cL_acts 304 = .ok (.dup2, 1) := by decide +kernel
theorem dL_acts_305 : decode cL_acts 305 = .ok (.iaload, 1) := by decide +kernel
theorem dL_acts_306 : decode cL_acts 306 = .ok (.iconst 1, 1) := by decide +kernel
theorem dL_acts_307 : decode cL_acts 307 = .ok (.iadd, 1) := by decide +kernel
theorem dL_acts_308 : decode cL_acts 308 = .ok (.iastore, 1) := by decide +kernel
theorem dL_acts_309 : decode cL_acts 309 = .ok (.aload_n 0, 1) := by decide +kernel
theorem dL_acts_310 : decode cL_acts 310 = .ok (.iload 12, 2) := by decide +kernel
theorem dL_acts_312 : decode cL_acts 312 = .ok (.iload 13, 2) := by decide +kernel
theorem dL_acts_314 : decode cL_acts 314 = .ok (.iload 11, 2) := by decide +kernel
theorem dL_acts_316 : decode cL_acts 316 = .ok (.invokevirtual 67, 3) := by decide +kernel
theorem dL_acts_319 : decode cL_acts 319 = .ok (.aload_n 1, 1) := by decide +kernel
theorem dL_acts_320 : decode cL_acts 320 = .ok (.iconst 1, 1) := by decide +kernel
theorem dL_acts_321 : decode cL_acts 321 = .ok (.iaload, 1) := by decide +kernel
theorem dL_acts_322 : decode cL_acts 322 = .ok (.iconst 1, 1) := by decide +kernel
theorem dL_acts_323 : decode cL_acts 323 = .ok (.isub, 1) := by decide +kernel
theorem dL_acts_324 : decode cL_acts 324 = .ok (.if_icmp .ne 7, 3) := by decide +kernel
theorem dL_acts_327 : decode cL_acts 327 = .ok (.iconst 1, 1) := by decide +kernel
theorem dL_acts_328 : decode cL_acts 328 = .ok (.goto 4, 3) := by decide +kernel
theorem dL_acts_331 : decode cL_acts 331 = .ok (.iconst 0, 1) := by decide +kernel
theorem dL_acts_332 : decode cL_acts 332 = .ok (.ireturn, 1) := by decide +kernel
theorem dL_acts_333 : decode cL_acts 333 = .ok (.iload 10, 2) := by decide +kernel
theorem dL_acts_335 : decode cL_acts 335 = .ok (.bipush 20, 2) := by decide +kernel
theorem dL_acts_337 : decode cL_acts 337 = .ok (.if_icmp .ge 67, 3) := by decide +kernel
theorem dL_acts_340 : decode cL_acts 340 = .ok (.aload_n 1, 1) := by decide +kernel
theorem dL_acts_341 : decode cL_acts 341 = .ok (.iconst 1, 1) := by decide +kernel
theorem dL_acts_342 : decode cL_acts 342 = .ok (.iaload, 1) := by decide +kernel
theorem dL_acts_343 : decode cL_acts 343 = .ok (.ifCond .ne 61, 3) := by decide +kernel
theorem dL_acts_346 : decode cL_acts 346 = .ok (.aload_n 0, 1) := by decide +kernel
theorem dL_acts_347 : decode cL_acts 347 = .ok (.iconst 0, 1) := by decide +kernel
theorem dL_acts_348 : decode cL_acts 348 = .ok (.iconst 0, 1) := by decide +kernel
theorem dL_acts_349 : decode cL_acts 349 = .ok (.invokevirtual 71, 3) := by decide +kernel
theorem dL_acts_352 : decode cL_acts 352 = .ok (.ldc 32, 2) := by decide +kernel
theorem dL_acts_354 : decode cL_acts 354 = .ok (.if_icmp .ne 48, 3) := by decide +kernel
theorem dL_acts_357 : decode cL_acts 357 = .ok (.aload_n 0, 1) := by decide +kernel
theorem dL_acts_358 : decode cL_acts 358 = .ok (.iconst 0, 1) := by decide +kernel
theorem dL_acts_359 : decode cL_acts 359 = .ok (.invokevirtual 74, 3) := by decide +kernel
theorem dL_acts_362 : decode cL_acts 362 = .ok (.ldc 32, 2) := by decide +kernel
theorem dL_acts_364 : decode cL_acts 364 = .ok (.if_icmp .ne 38, 3) := by decide +kernel
theorem dL_acts_367 : decode cL_acts 367 = .ok (.aload_n 0, 1) := by decide +kernel
theorem dL_acts_368 : decode cL_acts 368 = .ok (.iconst 0, 1) := by decide +kernel
theorem dL_acts_369 : decode cL_acts 369 = .ok (.invokevirtual 38, 3) := by decide +kernel
theorem dL_acts_372 : decode cL_acts 372 = .ok (.ldc 32, 2) := by decide +kernel
theorem dL_acts_374 : decode cL_acts 374 = .ok (.if_icmp .ne 28, 3) := by decide +kernel
theorem dL_acts_377 : decode cL_acts 377 = .ok (.aload_n 0, 1) := by decide +kernel
theorem dL_acts_378 : decode cL_acts 378 = .ok (.iconst 0, 1) := by decide +kernel
theorem dL_acts_379 : decode cL_acts 379 = .ok (.invokevirtual 50, 3) := by decide +kernel
theorem dL_acts_382 : decode cL_acts 382 = .ok (.ldc 32, 2) := by decide +kernel
theorem dL_acts_384 : decode cL_acts 384 = .ok (.if_icmp .ne 18, 3) := by decide +kernel
theorem dL_acts_387 : decode cL_acts 387 = .ok (.aload_n 0, 1) := by decide +kernel
theorem dL_acts_388 : decode cL_acts 388 = .ok (.iconst 0, 1) := by decide +kernel
theorem dL_acts_389 : decode cL_acts 389 = .ok (.iconst 1, 1) := by decide +kernel
theorem dL_acts_390 : decode cL_acts 390 = .ok (.invokevirtual 23, 3) := by decide +kernel
theorem dL_acts_393 : decode cL_acts 393 = .ok (.ldc 32, 2) := by decide +kernel
theorem dL_acts_395 : decode cL_acts 395 = .ok (.if_icmp .ne 7, 3) := by decide +kernel
theorem dL_acts_398 : decode cL_acts 398 = .ok (.iconst 1, 1) := by decide +kernel
theorem dL_acts_399 : decode cL_acts 399 = .ok (.goto 4, 3) := by decide +kernel
theorem dL_acts_402 : decode cL_acts 402 = .ok (.iconst 0, 1) := by decide +kernel
theorem dL_acts_403 : decode cL_acts 403 = .ok (.ireturn, 1) := by decide +kernel
theorem dL_acts_404 : decode cL_acts 404 = .ok (.aload_n 1, 1) := by decide +kernel
theorem dL_acts_405 : decode cL_acts 405 = .ok (.iconst 1, 1) := by decide +kernel
theorem dL_acts_406 : decode cL_acts 406 = .ok (.iaload, 1) := by decide +kernel
theorem dL_acts_407 : decode cL_acts 407 = .ok (.ifCond .ne 7, 3) := by decide +kernel
theorem dL_acts_410 : decode cL_acts 410 = .ok (.iconst 0, 1) := by decide +kernel
theorem dL_acts_411 : decode cL_acts 411 = .ok (.goto 12, 3) := by decide +kernel
theorem dL_acts_414 : decode cL_acts 414 = .ok (.iload 9, 2) := by decide +kernel
theorem dL_acts_416 : decode cL_acts 416 = .ok (.bipush 24, 2) := by decide +kernel
theorem dL_acts_418 : decode cL_acts 418 = .ok (.idiv, 1) := by decide +kernel
theorem dL_acts_419 : decode cL_acts 419 = .ok (.aload_n 1, 1) := by decide +kernel
theorem dL_acts_420 : decode cL_acts 420 = .ok (.iconst 1, 1) := by decide +kernel
theorem dL_acts_421 : decode cL_acts 421 = .ok (.iaload, 1) := by decide +kernel
theorem dL_acts_422 : decode cL_acts 422 = .ok (.irem, 1) := by decide +kernel
theorem dL_acts_423 : decode cL_acts 423 = .ok (.istore 12, 2) := by decide +kernel
theorem dL_acts_425 : decode cL_acts 425 = .ok (.iload 10, 2) := by decide +kernel
theorem dL_acts_427 : decode cL_acts 427 = .ok (.bipush 10, 2) := by decide +kernel
theorem dL_acts_429 : decode cL_acts 429 = .ok (.if_icmp .ge 105, 3) := by decide +kernel
theorem dL_acts_432 : decode cL_acts 432 = .ok (.aload 6, 2) := by decide +kernel
theorem dL_acts_434 : decode cL_acts 434 = .ok (.iconst 5, 1) := by decide +kernel
theorem dL_acts_435 : decode cL_acts 435 = .ok (.iload 12, 2) := by decide +kernel
theorem dL_acts_437 : decode cL_acts 437 = .ok (.imul, 1) := by decide +kernel
theorem dL_acts_438 : decode cL_acts 438 = .ok (.iconst 1, 1) := by decide +kernel
theorem dL_acts_439 : decode cL_acts 439 = .ok (.iadd, 1) := by decide +kernel
theorem dL_acts_440 : decode cL_acts 440 = .ok (.iaload, 1) := by decide +kernel
theorem dL_acts_441 : decode cL_acts 441 = .ok (.ifCond .lt 15, 3) := by decide +kernel
theorem dL_acts_444 : decode cL_acts 444 = .ok (.aload_n 1, 1) := by decide +kernel
theorem dL_acts_445 : decode cL_acts 445 = .ok (.aload 6, 2) := by decide +kernel
theorem dL_acts_447 : decode cL_acts 447 = .ok (.iload 11, 2) := by decide +kernel
theorem dL_acts_449 : decode cL_acts 449 = .ok (.iconst 1, 1) := by decide +kernel
theorem dL_acts_450 : decode cL_acts 450 = .ok (.invokestatic 63, 3) := by decide +kernel
theorem dL_acts_453 : decode cL_acts 453 = .ok (.ifCond .lt 22, 3) := by decide +kernel
theorem dL_acts_456 : decode cL_acts 456 = .ok (.aload_n 0, 1) := by decide +kernel
theorem dL_acts_457 : decode cL_acts 457 = .ok (.iload 12, 2) := by decide +kernel
theorem dL_acts_459 : decode cL_acts 459 = .ok (.iload 11, 2) := by decide +kernel
theorem dL_acts_461 : decode cL_acts 461 = .ok (.invokevirtual 71, 3) := by decide +kernel
theorem dL_acts_464 : decode cL_acts 464 = .ok (.ldc 33, 2) := by decide +kernel
theorem dL_acts_466 : decode cL_acts 466 = .ok (.if_icmp .ne 7, 3) := by decide +kernel
theorem dL_acts_469 : decode cL_acts 469 = .ok (.iconst 1, 1) := by decide +kernel
theorem dL_acts_470 : decode cL_acts 470 = .ok (.goto 4, 3) := by decide +kernel
theorem dL_acts_473 : decode cL_acts 473 = .ok (.iconst 0, 1) := by decide +kernel
theorem dL_acts_474 : decode cL_acts 474 = .ok (.ireturn, 1) := by decide +kernel
theorem dL_acts_475 : decode cL_acts 475 = .ok (.aload_n 1, 1) := by decide +kernel
theorem dL_acts_476 : decode cL_acts 476 = .ok (.aload 6, 2) := by decide +kernel
theorem dL_acts_478 : decode cL_acts 478 = .ok (.aload 6, 2) := by decide +kernel
theorem dL_acts_480 : decode cL_acts 480 = .ok (.iconst 5, 1) := by decide +kernel
theorem dL_acts_481 : decode cL_acts 481 = .ok (.iload 12, 2) := by decide +kernel
theorem dL_acts_483 : decode cL_acts 483 = .ok (.imul, 1) := by decide +kernel
theorem dL_acts_484 : decode cL_acts 484 = .ok (.iconst 1, 1) := by decide +kernel
theorem dL_acts_485 : decode cL_acts 485 = .ok (.iadd, 1) := by decide +kernel
theorem dL_acts_486 : decode cL_acts 486 = .ok (.iaload, 1) := by decide +kernel
theorem dL_acts_487 : decode cL_acts 487 = .ok (.iconst 3, 1) := by decide +kernel
theorem dL_acts_488 : decode cL_acts 488 = .ok (.invokestatic 63, 3) := by decide +kernel
theorem dL_acts_491 : decode cL_acts 491 = .ok (.istore 13, 2) := by decide +kernel
theorem dL_acts_493 : decode cL_acts 493 = .ok (.aload 6, 2) := by decide +kernel
theorem dL_acts_495 : decode cL_acts 495 = .ok (.iconst 5, 1) := by decide +kernel
theorem dL_acts_496 : decode cL_acts 496 = .ok (.iload 12, 2) := by decide +kernel
theorem dL_acts_498 : decode cL_acts 498 = .ok (.imul, 1) := by decide +kernel
theorem dL_acts_499 : decode cL_acts 499 = .ok (.iconst 1, 1) := by decide +kernel
theorem dL_acts_500 : decode cL_acts 500 = .ok (.iadd, 1) := by decide +kernel
theorem dL_acts_501 : decode cL_acts 501 = .ok (.iload 11, 2) := by decide +kernel
theorem dL_acts_503 : decode cL_acts 503 = .ok (.iastore, 1) := by decide +kernel
theorem dL_acts_504 : decode cL_acts 504 = .ok (.aload 6, 2) := by decide +kernel
theorem dL_acts_506 : decode cL_acts 506 = .ok (.iconst 5, 1) := by decide +kernel
theorem dL_acts_507 : decode cL_acts 507 = .ok (.iload 13, 2) := by decide +kernel
theorem dL_acts_509 : decode cL_acts 509 = .ok (.imul, 1) := by decide +kernel
theorem dL_acts_510 : decode cL_acts 510 = .ok (.iconst 3, 1) := by decide +kernel
theorem dL_acts_511 : decode cL_acts 511 = .ok (.iadd, 1) := by decide +kernel
theorem dL_acts_512 : decode cL_acts 512 = .ok (.iload 11, 2) := by decide +kernel
theorem dL_acts_514 : decode cL_acts 514 = .ok (.iastore, 1) := by decide +kernel
theorem dL_acts_515 : decode cL_acts 515 = .ok (.aload_n 0, 1) := by decide +kernel
theorem dL_acts_516 : decode cL_acts 516 = .ok (.iload 12, 2) := by decide +kernel
theorem dL_acts_518 : decode cL_acts 518 = .ok (.iload 11, 2) := by decide +kernel
theorem dL_acts_520 : decode cL_acts 520 = .ok (.invokevirtual 71, 3) := by decide +kernel
theorem dL_acts_523 : decode cL_acts 523 = .ok (.iload 13, 2) := by decide +kernel
theorem dL_acts_525 : decode cL_acts 525 = .ok (.if_icmp .ne 7, 3) := by decide +kernel
theorem dL_acts_528 : decode cL_acts 528 = .ok (.iconst 1, 1) := by decide +kernel
theorem dL_acts_529 : decode cL_acts 529 = .ok (.goto 4, 3) := by decide +kernel
theorem dL_acts_532 : decode cL_acts 532 = .ok (.iconst 0, 1) := by decide +kernel
theorem dL_acts_533 : decode cL_acts 533 = .ok (.ireturn, 1) := by decide +kernel
theorem dL_acts_534 : decode cL_acts 534 = .ok (.iload 10, 2) := by decide +kernel
theorem dL_acts_536 : decode cL_acts 536 = .ok (.bipush 14, 2) := by decide +kernel
theorem dL_acts_538 : decode cL_acts 538 = .ok (.if_icmp .ge 28, 3) := by decide +kernel
theorem dL_acts_541 : decode cL_acts 541 = .ok (.aload_n 0, 1) := by decide +kernel
theorem dL_acts_542 : decode cL_acts 542 = .ok (.aload_n 1, 1) := by decide +kernel
theorem dL_acts_543 : decode cL_acts 543 = .ok (.aload_n 2, 1) := by decide +kernel
theorem dL_acts_544 : decode cL_acts 544 = .ok (.aload 4, 2) := by decide +kernel
theorem dL_acts_546 : decode cL_acts 546 = .ok (.aload 6, 2) := by decide +kernel
theorem dL_acts_548 : decode cL_acts 548 = .ok (.iload 9, 2) := by decide +kernel
theorem dL_acts_550 : decode cL_acts 550 = .ok (.iload 10, 2) := by decide +kernel
theorem dL_acts_552 : decode cL_acts 552 = .ok (.bipush 12, 2) := by decide +kernel
theorem dL_acts_554 : decode cL_acts 554 = .ok (.if_icmp .ge 7, 3) := by decide +kernel
theorem dL_acts_557 : decode cL_acts 557 = .ok (.iconst 1, 1) := by decide +kernel
theorem dL_acts_558 : decode cL_acts 558 = .ok (.goto 4, 3) := by decide +kernel
theorem dL_acts_561 : decode cL_acts 561 = .ok (.iconst 0, 1) := by decide +kernel
theorem dL_acts_562 : decode cL_acts 562 = .ok (.invokestatic 77, 3) := by decide +kernel
theorem dL_acts_565 : decode cL_acts 565 = .ok (.ireturn, 1) := by decide +kernel
theorem dL_acts_566 : decode cL_acts 566 = .ok (.iload 10, 2) := by decide +kernel
theorem dL_acts_568 : decode cL_acts 568 = .ok (.bipush 14, 2) := by decide +kernel
theorem dL_acts_570 : decode cL_acts 570 = .ok (.if_icmp .ne 125, 3) := by decide +kernel
theorem dL_acts_573 : decode cL_acts 573 = .ok (.aload 6, 2) := by decide +kernel
theorem dL_acts_575 : decode cL_acts 575 = .ok (.iconst 5, 1) := by decide +kernel
theorem dL_acts_576 : decode cL_acts 576 = .ok (.iload 12, 2) := by decide +kernel
theorem dL_acts_578 : decode cL_acts 578 = .ok (.imul, 1) := by decide +kernel
theorem dL_acts_579 : decode cL_acts 579 = .ok (.iconst 1, 1) := by decide +kernel
theorem dL_acts_580 : decode cL_acts 580 = .ok (.iadd, 1) := by decide +kernel
theorem dL_acts_581 : decode cL_acts 581 = .ok (.iaload, 1) := by decide +kernel
theorem dL_acts_582 : decode cL_acts 582 = .ok (.ifCond .ge 20, 3) := by decide +kernel
theorem dL_acts_585 : decode cL_acts 585 = .ok (.aload_n 0, 1) := by decide +kernel
theorem dL_acts_586 : decode cL_acts 586 = .ok (.iload 12, 2) := by decide +kernel
theorem dL_acts_588 : decode cL_acts 588 = .ok (.invokevirtual 74, 3) := by decide +kernel
theorem dL_acts_591 : decode cL_acts 591 = .ok (.ldc 33, 2) := by decide +kernel
theorem dL_acts_593 : decode cL_acts 593 = .ok (.if_icmp .ne 7, 3) := by decide +kernel
theorem dL_acts_596 : decode cL_acts 596 = .ok (.iconst 1, 1) := by decide +kernel
theorem dL_acts_597 : decode cL_acts 597 = .ok (.goto 4, 3) := by decide +kernel
theorem dL_acts_600 : decode cL_acts 600 = .ok (.iconst 0, 1) := by decide +kernel
theorem dL_acts_601 : decode cL_acts 601 = .ok (.ireturn, 1) := by decide +kernel
theorem dL_acts_602 : decode cL_acts 602 = .ok (.aload_n 1, 1) := by decide +kernel
theorem dL_acts_603 : decode cL_acts 603 = .ok (.aload 6, 2) := by decide +kernel
theorem dL_acts_605 : decode cL_acts 605 = .ok (.aload 6, 2) := by decide +kernel
theorem dL_acts_607 : decode cL_acts 607 = .ok (.iconst 5, 1) := by decide +kernel
theorem dL_acts_608 : decode cL_acts 608 = .ok (.iload 12, 2) := by decide +kernel
theorem dL_acts_610 : decode cL_acts 610 = .ok (.imul, 1) := by decide +kernel
theorem dL_acts_611 : decode cL_acts 611 = .ok (.iconst 1, 1) := by decide +kernel
theorem dL_acts_612 : decode cL_acts 612 = .ok (.iadd, 1) := by decide +kernel
theorem dL_acts_613 : decode cL_acts 613 = .ok (.iaload, 1) := by decide +kernel
theorem dL_acts_614 : decode cL_acts 614 = .ok (.iconst 3, 1) := by decide +kernel
theorem dL_acts_615 : decode cL_acts 615 = .ok (.invokestatic 63, 3) := by decide +kernel
theorem dL_acts_618 : decode cL_acts 618 = .ok (.istore 13, 2) := by decide +kernel
theorem dL_acts_620 : decode cL_acts 620 = .ok (.aload 6, 2) := by decide +kernel
theorem dL_acts_622 : decode cL_acts 622 = .ok (.iconst 5, 1) := by decide +kernel
theorem dL_acts_623 : decode cL_acts 623 = .ok (.iload 13, 2) := by decide +kernel
theorem dL_acts_625 : decode cL_acts 625 = .ok (.imul, 1) := by decide +kernel
theorem dL_acts_626 : decode cL_acts 626 = .ok (.iconst 3, 1) := by decide +kernel
theorem dL_acts_627 : decode cL_acts 627 = .ok (.iadd, 1) := by decide +kernel
theorem dL_acts_628 : decode cL_acts 628 = .ok (.aload 6, 2) := by decide +kernel
theorem dL_acts_630 : decode cL_acts 630 = .ok (.iconst 5, 1) := by decide +kernel
theorem dL_acts_631 : decode cL_acts 631 = .ok (.iload 12, 2) := by decide +kernel
theorem dL_acts_633 : decode cL_acts 633 = .ok (.imul, 1) := by decide +kernel
theorem dL_acts_634 : decode cL_acts 634 = .ok (.iconst 3, 1) := by decide +kernel
theorem dL_acts_635 : decode cL_acts 635 = .ok (.iadd, 1) := by decide +kernel
theorem dL_acts_636 : decode cL_acts 636 = .ok (.iaload, 1) := by decide +kernel
theorem dL_acts_637 : decode cL_acts 637 = .ok (.iastore, 1) := by decide +kernel
theorem dL_acts_638 : decode cL_acts 638 = .ok (.aload 6, 2) := by decide +kernel
theorem dL_acts_640 : decode cL_acts 640 = .ok (.iconst 5, 1) := by decide +kernel
theorem dL_acts_641 : decode cL_acts 641 = .ok (.iload 12, 2) := by decide +kernel
theorem dL_acts_643 : decode cL_acts 643 = .ok (.imul, 1) := by decide +kernel
theorem dL_acts_644 : decode cL_acts 644 = .ok (.iconst 1, 1) := by decide +kernel
theorem dL_acts_645 : decode cL_acts 645 = .ok (.iadd, 1) := by decide +kernel
theorem dL_acts_646 : decode cL_acts 646 = .ok (.iconst (-1), 1) := by decide +kernel
theorem dL_acts_647 : decode cL_acts 647 = .ok (.iastore, 1) := by decide +kernel
theorem dL_acts_648 : decode cL_acts 648 = .ok (.aload 6, 2) := by decide +kernel
theorem dL_acts_650 : decode cL_acts 650 = .ok (.iconst 5, 1) := by decide +kernel
theorem dL_acts_651 : decode cL_acts 651 = .ok (.iload 12, 2) := by decide +kernel
theorem dL_acts_653 : decode cL_acts 653 = .ok (.imul, 1) := by decide +kernel
theorem dL_acts_654 : decode cL_acts 654 = .ok (.iconst 2, 1) := by decide +kernel
theorem dL_acts_655 : decode cL_acts 655 = .ok (.iadd, 1) := by decide +kernel
theorem dL_acts_656 : decode cL_acts 656 = .ok (.iconst (-1), 1) := by decide +kernel
theorem dL_acts_657 : decode cL_acts 657 = .ok (.iastore, 1) := by decide +kernel
theorem dL_acts_658 : decode cL_acts 658 = .ok (.aload 6, 2) := by decide +kernel
theorem dL_acts_660 : decode cL_acts 660 = .ok (.iconst 5, 1) := by decide +kernel
theorem dL_acts_661 : decode cL_acts 661 = .ok (.iload 12, 2) := by decide +kernel
theorem dL_acts_663 : decode cL_acts 663 = .ok (.imul, 1) := by decide +kernel
theorem dL_acts_664 : decode cL_acts 664 = .ok (.iconst 3, 1) := by decide +kernel
theorem dL_acts_665 : decode cL_acts 665 = .ok (.iadd, 1) := by decide +kernel
theorem dL_acts_666 : decode cL_acts 666 = .ok (.iconst (-1), 1) := by decide +kernel
theorem dL_acts_667 : decode cL_acts 667 = .ok (.iastore, 1) := by decide +kernel
theorem dL_acts_668 : decode cL_acts 668 = .ok (.aload_n 0, 1) := by decide +kernel
theorem dL_acts_669 : decode cL_acts 669 = .ok (.iload 12, 2) := by decide +kernel
theorem dL_acts_671 : decode cL_acts 671 = .ok (.invokevirtual 74, 3) := by decide +kernel
theorem dL_acts_674 : decode cL_acts 674 = .ok (.iload 13, 2) := by decide +kernel
theorem dL_acts_676 : decode cL_acts 676 = .ok (.iload 12, 2) := by decide +kernel
theorem dL_acts_678 : decode cL_acts 678 = .ok (.if_icmp .ne 7, 3) := by decide +kernel
theorem dL_acts_681 : decode cL_acts 681 = .ok (.iconst 1, 1) := by decide +kernel
theorem dL_acts_682 : decode cL_acts 682 = .ok (.goto 4, 3) := by decide +kernel
theorem dL_acts_685 : decode cL_acts 685 = .ok (.iconst 0, 1) := by decide +kernel
theorem dL_acts_686 : decode cL_acts 686 = .ok (.if_icmp .ne 7, 3) := by decide +kernel
theorem dL_acts_689 : decode cL_acts 689 = .ok (.iconst 1, 1) := by decide +kernel
theorem dL_acts_690 : decode cL_acts 690 = .ok (.goto 4, 3) := by decide +kernel
theorem dL_acts_693 : decode cL_acts 693 = .ok (.iconst 0, 1) := by decide +kernel
theorem dL_acts_694 : decode cL_acts 694 = .ok (.ireturn, 1) := by decide +kernel
theorem dL_acts_695 : decode cL_acts 695 = .ok (.iload 10, 2) := by decide +kernel
theorem dL_acts_697 : decode cL_acts 697 = .ok (.bipush 20, 2) := by decide +kernel
theorem dL_acts_699 : decode cL_acts 699 = .ok (.if_icmp .ge 32, 3) := by decide +kernel
theorem dL_acts_702 : decode cL_acts 702 = .ok (.aload_n 0, 1) := by decide +kernel
theorem dL_acts_703 : decode cL_acts 703 = .ok (.aload_n 1, 1) := by decide +kernel
theorem dL_acts_704 : decode cL_acts 704 = .ok (.aload_n 2, 1) := by decide +kernel
theorem dL_acts_705 : decode cL_acts 705 = .ok (.aload 4, 2) := by decide +kernel
theorem dL_acts_707 : decode cL_acts 707 = .ok (.aload 5, 2) := by decide +kernel
theorem dL_acts_709 : decode cL_acts 709 = .ok (.aload 6, 2) := by decide +kernel
theorem dL_acts_711 : decode cL_acts 711 = .ok (.aload 7, 2) := by decide +kernel
theorem dL_acts_713 : decode cL_acts 713 = .ok (.iload 12, 2) := by decide +kernel
theorem dL_acts_715 : decode cL_acts 715 = .ok (.iload 10, 2) := by decide +kernel
theorem dL_acts_717 : decode cL_acts 717 = .ok (.bipush 18, 2) := by decide +kernel
theorem dL_acts_719 : decode cL_acts 719 = .ok (.if_icmp .ge 7, 3) := by decide +kernel
theorem dL_acts_722 : decode cL_acts 722 = .ok (.iconst 1, 1) := by decide +kernel
theorem dL_acts_723 : decode cL_acts 723 = .ok (.goto 4, 3) := by decide +kernel
theorem dL_acts_726 : decode cL_acts 726 = .ok (.iconst 0, 1) := by decide +kernel
theorem dL_acts_727 : decode cL_acts 727 = .ok (.invokestatic 81, 3) := by decide +kernel
theorem dL_acts_730 : decode cL_acts 730 = .ok (.ireturn, 1) := by decide +kernel
theorem dL_acts_731 : decode cL_acts 731 = .ok (.iload 10, 2) := by decide +kernel
theorem dL_acts_733 : decode cL_acts 733 = .ok (.bipush 23, 2) := by decide +kernel
theorem dL_acts_735 : decode cL_acts 735 = .ok (.if_icmp .ge 124, 3) := by decide +kernel
theorem dL_acts_738 : decode cL_acts 738 = .ok (.iconst 1, 1) := by decide +kernel
theorem dL_acts_739 : decode cL_acts 739 = .ok (.istore 13, 2) := by decide +kernel
theorem dL_acts_741 : decode cL_acts 741 = .ok (.iconst 0, 1) := by decide +kernel
theorem dL_acts_742 : decode cL_acts 742 = .ok (.istore 14, 2) := by decide +kernel
theorem dL_acts_744 : decode cL_acts 744 = .ok (.iload 14, 2) := by decide +kernel
theorem dL_acts_746 : decode cL_acts 746 = .ok (.aload_n 1, 1) := by decide +kernel
theorem dL_acts_747 : decode cL_acts 747 = .ok (.iconst 1, 1) := by decide +kernel
theorem dL_acts_748 : decode cL_acts 748 = .ok (.iaload, 1) := by decide +kernel
theorem dL_acts_749 : decode cL_acts 749 = .ok (.if_icmp .ge 52, 3) := by decide +kernel
theorem dL_acts_752 : decode cL_acts 752 = .ok (.iload 13, 2) := by decide +kernel
theorem dL_acts_754 : decode cL_acts 754 = .ok (.ifCond .eq 38, 3) := by decide +kernel
theorem dL_acts_757 : decode cL_acts 757 = .ok (.aload 6, 2) := by decide +kernel
theorem dL_acts_759 : decode cL_acts 759 = .ok (.iconst 5, 1) := by decide +kernel
theorem dL_acts_760 : decode cL_acts 760 = .ok (.iload 14, 2) := by decide +kernel
theorem dL_acts_762 : decode cL_acts 762 = .ok (.imul, 1) := by decide +kernel
theorem dL_acts_763 : decode cL_acts 763 = .ok (.iconst 1, 1) := by decide +kernel
theorem dL_acts_764 : decode cL_acts 764 = .ok (.iadd, 1) := by decide +kernel
theorem dL_acts_765 : decode cL_acts 765 = .ok (.iaload, 1) := by decide +kernel
theorem dL_acts_766 : decode cL_acts 766 = .ok (.ifCond .lt 22, 3) := by decide +kernel
theorem dL_acts_769 : decode cL_acts 769 = .ok (.bipush 8, 2) := by decide +kernel
theorem dL_acts_771 : decode cL_acts 771 = .ok (.aload 6, 2) := by decide +kernel
theorem dL_acts_773 : decode cL_acts 773 = .ok (.iconst 5, 1) := by decide +kernel
theorem dL_acts_774 : decode cL_acts 774 = .ok (.iload 14, 2) := by decide +kernel
theorem dL_acts_776 : decode cL_acts 776 = .ok (.imul, 1) := by decide +kernel
theorem dL_acts_777 : decode cL_acts 777 = .ok (.iconst 1, 1) := by decide +kernel
theorem dL_acts_778 : decode cL_acts 778 = .ok (.iadd, 1) := by decide +kernel
theorem dL_acts_779 : decode cL_acts 779 = .ok (.iaload, 1) := by decide +kernel
theorem dL_acts_780 : decode cL_acts 780 = .ok (.iload 11, 2) := by decide +kernel
theorem dL_acts_782 : decode cL_acts 782 = .ok (.invokestatic 9, 3) := by decide +kernel
theorem dL_acts_785 : decode cL_acts 785 = .ok (.ifCond .ne 7, 3) := by decide +kernel
theorem dL_acts_788 : decode cL_acts 788 = .ok (.iconst 1, 1) := by decide +kernel
theorem dL_acts_789 : decode cL_acts 789 = .ok (.goto 4, 3) := by decide +kernel
theorem dL_acts_792 : decode cL_acts 792 = .ok (.iconst 0, 1) := by decide +kernel
theorem dL_acts_793 : decode cL_acts 793 = .ok (.istore 13, 2) := by decide +kernel
theorem dL_acts_795 : decode cL_acts 795 = .ok (.iinc 14 1, 3) := by decide +kernel
theorem dL_acts_798 : decode cL_acts 798 = .ok (.goto (-54), 3) := by decide +kernel
theorem dL_acts_801 : decode cL_acts 801 = .ok (.iload 13, 2) := by decide +kernel
theorem dL_acts_803 : decode cL_acts 803 = .ok (.ifCond .ne 20, 3) := by decide +kernel
theorem dL_acts_806 : decode cL_acts 806 = .ok (.aload_n 0, 1) := by decide +kernel
theorem dL_acts_807 : decode cL_acts 807 = .ok (.iload 11, 2) := by decide +kernel
theorem dL_acts_809 : decode cL_acts 809 = .ok (.invokevirtual 85, 3) := by decide +kernel
theorem dL_acts_812 : decode cL_acts 812 = .ok (.ldc 33, 2) := by decide +kernel
theorem dL_acts_814 : decode cL_acts 814 = .ok (.if_icmp .ne 7, 3) := by decide +kernel
theorem dL_acts_817 : decode cL_acts 817 = .ok (.iconst 1, 1) := by decide +kernel
theorem dL_acts_818 : decode cL_acts 818 = .ok (.goto 4, 3) := by decide +kernel
theorem dL_acts_821 : decode cL_acts 821 = .ok (.iconst 0, 1) := by decide +kernel
theorem dL_acts_822 : decode cL_acts 822 = .ok (.ireturn, 1) := by decide +kernel
theorem dL_acts_823 : decode cL_acts 823 = .ok (.aload 4, 2) := by decide +kernel
theorem dL_acts_825 : decode cL_acts 825 = .ok (.iload 11, 2) := by decide +kernel
theorem dL_acts_827 : decode cL_acts 827 = .ok (.aload_n 2, 1) := by decide +kernel
theorem dL_acts_828 : decode cL_acts 828 = .ok (.iload 11, 2) := by decide +kernel
theorem dL_acts_830 : decode cL_acts 830 = .ok (.iaload, 1) := by decide +kernel
theorem dL_acts_831 : decode cL_acts 831 = .ok (.iastore, 1) := by decide +kernel
theorem dL_acts_832 : decode cL_acts 832 = .ok (.aload 5, 2) := by decide +kernel
theorem dL_acts_834 : decode cL_acts 834 = .ok (.iload 11, 2) := by decide +kernel
theorem dL_acts_836 : decode cL_acts 836 = .ok (.aload_n 1, 1) := by decide +kernel
theorem dL_acts_837 : decode cL_acts 837 = .ok (.iconst 0, 1) := by decide +kernel
theorem dL_acts_838 : decode cL_acts 838 = .ok (.iaload, 1) := by decide +kernel
theorem dL_acts_839 : decode cL_acts 839 = .ok (.iastore, 1) := by decide +kernel
theorem dL_acts_840 : decode cL_acts 840 = .ok (.aload_n 0, 1) := by decide +kernel
theorem dL_acts_841 : decode cL_acts 841 = .ok (.iload 11, 2) := by decide +kernel
theorem dL_acts_843 : decode cL_acts 843 = .ok (.invokevirtual 85, 3) := by decide +kernel
theorem dL_acts_846 : decode cL_acts 846 = .ok (.aload_n 2, 1) := by decide +kernel
theorem dL_acts_847 : decode cL_acts 847 = .ok (.iload 11, 2) := by decide +kernel
theorem dL_acts_849 : decode cL_acts 849 = .ok (.iaload, 1) := by decide +kernel
theorem dL_acts_850 : decode cL_acts 850 = .ok (.if_icmp .ne 7, 3) := by decide +kernel
theorem dL_acts_853 : decode cL_acts 853 = .ok (.iconst 1, 1) := by decide +kernel
theorem dL_acts_854 : decode cL_acts 854 = .ok (.goto 4, 3) := by decide +kernel
theorem dL_acts_857 : decode cL_acts 857 = .ok (.iconst 0, 1) := by decide +kernel
theorem dL_acts_858 : decode cL_acts 858 = .ok (.ireturn, 1) := by decide +kernel
theorem dL_acts_859 : decode cL_acts 859 = .ok (.iconst 1, 1) := by decide +kernel
theorem dL_acts_860 : decode cL_acts 860 = .ok (.iload 9, 2) := by decide +kernel
theorem dL_acts_862 : decode cL_acts 862 = .ok (.iload 9, 2) := by decide +kernel
theorem dL_acts_864 : decode cL_acts 864 = .ok (.bipush 9, 2) := by decide +kernel
theorem dL_acts_866 : decode cL_acts 866 = .ok (.irem, 1) := by decide +kernel
theorem dL_acts_867 : decode cL_acts 867 = .ok (.ifCond .ne 8, 3) := by decide +kernel
theorem dL_acts_870 : decode cL_acts 870 = .ok (.bipush 60, 2) := by decide +kernel
theorem dL_acts_872 : decode cL_acts 872 = .ok (.goto 4, 3) := by decide +kernel
theorem dL_acts_875 : decode cL_acts 875 = .ok (.iconst 4, 1) := by decide +kernel
theorem dL_acts_876 : decode cL_acts 876 = .ok (.irem, 1) := by decide +kernel
theorem dL_acts_877 : decode cL_acts 877 = .ok (.iadd, 1) := by decide +kernel
theorem dL_acts_878 : decode cL_acts 878 = .ok (.istore 13, 2) := by decide +kernel
theorem dL_acts_880 : decode cL_acts 880 = .ok (.aload_n 1, 1) := by decide +kernel
theorem dL_acts_881 : decode cL_acts 881 = .ok (.iconst 0, 1) := by decide +kernel
theorem dL_acts_882 : decode cL_acts 882 = .ok (.iaload, 1) := by decide +kernel
theorem dL_acts_883 : decode cL_acts 883 = .ok (.iload 13, 2) := by decide +kernel
theorem dL_acts_885 : decode cL_acts 885 = .ok (.iadd, 1) := by decide +kernel
theorem dL_acts_886 : decode cL_acts 886 = .ok (.sipush 2000, 3) := by decide +kernel
theorem dL_acts_889 : decode cL_acts 889 = .ok (.if_icmp .le 20, 3) := by decide +kernel
theorem dL_acts_892 : decode cL_acts 892 = .ok (.aload_n 0, 1) := by decide +kernel
theorem dL_acts_893 : decode cL_acts 893 = .ok (.iload 13, 2) := by decide +kernel
theorem dL_acts_895 : decode cL_acts 895 = .ok (.invokevirtual 88, 3) := by decide +kernel
theorem dL_acts_898 : decode cL_acts 898 = .ok (.ldc 33, 2) := by decide +kernel
theorem dL_acts_900 : decode cL_acts 900 = .ok (.if_icmp .ne 7, 3) := by decide +kernel
theorem dL_acts_903 : decode cL_acts 903 = .ok (.iconst 1, 1) := by decide +kernel
theorem dL_acts_904 : decode cL_acts 904 = .ok (.goto 4, 3) := by decide +kernel
theorem dL_acts_907 : decode cL_acts 907 = .ok (.iconst 0, 1) := by decide +kernel
theorem dL_acts_908 : decode cL_acts 908 = .ok (.ireturn, 1) := by decide +kernel
theorem dL_acts_909 : decode cL_acts 909 = .ok (.aload_n 1, 1) := by decide +kernel
theorem dL_acts_910 : decode cL_acts 910 = .ok (.iconst 0, 1) := by decide +kernel
theorem dL_acts_911 : decode cL_acts 911 = .ok (.dup2, 1) := by decide +kernel
theorem dL_acts_912 : decode cL_acts 912 = .ok (.iaload, 1) := by decide +kernel
theorem dL_acts_913 : decode cL_acts 913 = .ok (.iload 13, 2) := by decide +kernel
theorem dL_acts_915 : decode cL_acts 915 = .ok (.iadd, 1) := by decide +kernel
theorem dL_acts_916 : decode cL_acts 916 = .ok (.iastore, 1) := by decide +kernel
theorem dL_acts_917 : decode cL_acts 917 = .ok (.iconst 0, 1) := by decide +kernel
theorem dL_acts_918 : decode cL_acts 918 = .ok (.istore 14, 2) := by decide +kernel
theorem dL_acts_920 : decode cL_acts 920 = .ok (.iload 14, 2) := by decide +kernel
theorem dL_acts_922 : decode cL_acts 922 = .ok (.bipush 24, 2) := by decide +kernel
theorem dL_acts_924 : decode cL_acts 924 = .ok (.if_icmp .ge 23, 3) := by decide +kernel
theorem dL_acts_927 : decode cL_acts 927 = .ok (.aload_n 2, 1) := by decide +kernel
theorem dL_acts_928 : decode cL_acts 928 = .ok (.iload 14, 2) := by decide +kernel
theorem dL_acts_930 : decode cL_acts 930 = .ok (.dup2, 1) := by decide +kernel
theorem dL_acts_931 : decode cL_acts 931 = .ok (.iaload, 1) := by decide +kernel
theorem dL_acts_932 : decode cL_acts 932 = .ok (.aload_n 3, 1) := by decide +kernel
theorem dL_acts_933 : decode cL_acts 933 = .ok (.iload 14, 2) := by decide +kernel
theorem dL_acts_935 : decode cL_acts 935 = .ok (.iaload, 1) := by decide +kernel
theorem dL_acts_936 : decode cL_acts 936 = .ok (.iload 13, 2) := by decide +kernel
theorem dL_acts_938 : decode cL_acts 938 = .ok (.imul, 1) := by decide +kernel
