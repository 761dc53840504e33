theorem dX2_accuse_51 : decode cX2_accuse 51 = .ok (.imul, 1) := by decide +kernel
theorem dX2_accuse_52 : decode cX2_accuse 52 = .ok (.iadd, 1) := by decide +kernel
theorem dX2_accuse_53 : decode cX2_accuse 53 = .ok (.iconst 4, 1) := by decide +kernel
theorem dX2_accuse_54 : decode cX2_accuse 54 = .ok (.iadd, 1) := by decide +kernel
theorem dX2_accuse_55 : decode cX2_accuse 55 = .ok (.dup2, 1) := by decide +kernel
theorem dX2_accuse_56 : decode cX2_accuse 56 = .ok (.iaload, 1) := by decide +kernel
theorem dX2_accuse_57 : decode cX2_accuse 57 = .ok (.iconst 1, 1) := by decide +kernel
theorem dX2_accuse_58 : decode cX2_accuse 58 = .ok (.iadd, 1) := by decide +kernel
theorem dX2_accuse_59 : decode cX2_accuse 59 = .ok (.iastore, 1) := by decide +kernel
theorem dX2_accuse_60 : decode cX2_accuse 60 = .ok (.aload_n 0, 1) := by decide +kernel
theorem dX2_accuse_61 : decode cX2_accuse 61 = .ok (.invokevirtual 94, 3) := by decide +kernel
theorem dX2_accuse_64 : decode cX2_accuse 64 = .ok (.ireturn, 1) := by decide +kernel
set_option maxRecDepth 20000 in
theorem ggX2_isNear_X2_areNeighbors : GoodIn wsX2_isNear wsX2_areNeighbors := goodIn_r _ [4] (by decide +kernel) (by decide +kernel)
set_option maxRecDepth 20000 in
theorem gX2_isNear_X2_areNeighbors : GoodIn wsX2_isNear (va_wsS RX2 32 yX2_areNeighbors wsX2_areNeighbors) := goodIn_app (goodIn_of _ (by decide +kernel)) ggX2_isNear_X2_areNeighbors
theorem dX2_isNear_0 : decode cX2_isNear 0 = .ok (.iload_n 0, 1) := by decide +kernel
theorem dX2_isNear_1 : decode cX2_isNear 1 = .ok (.iload_n 1, 1) := by decide +kernel
theorem dX2_isNear_2 : decode cX2_isNear 2 = .ok (.if_icmp .eq 11, 3) := by decide +kernel
theorem dX2_isNear_5 : decode cX2_isNear 5 = .ok (.iload_n 0, 1) := by decide +kernel
theorem dX2_isNear_6 : decode cX2_isNear 6 = .ok (.iload_n 1, 1) := by decide +kernel
theorem dX2_isNear_7 : decode cX2_isNear 7 = .ok (.invokestatic 32, 3) := by decide +kernel
theorem dX2_isNear_10 : decode cX2_isNear 10 = .ok (.ifCond .eq 7, 3) := by decide +kernel
theorem dX2_isNear_13 : decode cX2_isNear 13 = .ok (.iconst 1, 1) := by decide +kernel
theorem dX2_isNear_14 : decode cX2_isNear 14 = .ok (.goto 4, 3) := by decide +kernel
theorem dX2_isNear_17 : decode cX2_isNear 17 = .ok (.iconst 0, 1) := by decide +kernel
theorem dX2_isNear_18 : decode cX2_isNear 18 = .ok (.ireturn, 1) := by decide +kernel
set_option maxRecDepth 20000 in
theorem ggX2_estimateOf_X2_ofWalker : GoodIn wsX2_estimateOf wsX2_ofWalker := goodIn_r _ [5, 6, 40, 41, 42, 43, 44] (by decide +kernel) (by decide +kernel)
set_option maxRecDepth 20000 in
theorem gX2_estimateOf_X2_ofWalker : GoodIn wsX2_estimateOf (wsV RX2 27 RX2 yX2_ofWalker wsX2_ofWalker) := goodIn_app (goodIn_of _ (by decide +kernel)) ggX2_estimateOf_X2_ofWalker
set_option maxRecDepth 20000 in
theorem ggX2_estimateOf_X2_isNear : GoodIn wsX2_estimateOf wsX2_isNear := goodIn_r _ [9, 10, 11, 4, 12] (by decide +kernel) (by decide +kernel)
set_option maxRecDepth 20000 in
theorem gX2_estimateOf_X2_isNear : GoodIn wsX2_estimateOf (va_wsS RX2 98 yX2_isNear wsX2_isNear) := goodIn_app (goodIn_of _ (by decide +kernel)) ggX2_estimateOf_X2_isNear
set_option maxRecDepth 20000 in
theorem ggX2_estimateOf_X2_reading : GoodIn wsX2_estimateOf wsX2_reading := goodIn_r _ [16, 17, 18, 19, 4, 20, 6, 21, 22, 23, 24, 25, 1, 2, 3, 5, 26, 27, 28, 29, 30, 31, 10, 11, 12, 32, 33, 34, 35, 40, 41, 42, 43, 44] (by decide +kernel) (by decide +kernel)
set_option maxRecDepth 20000 in
theorem gX2_estimateOf_X2_reading : GoodIn wsX2_estimateOf (wsV RX2 57 RX2 yX2_reading wsX2_reading) := goodIn_app (goodIn_of _ (by decide +kernel)) ggX2_estimateOf_X2_reading
set_option maxRecDepth 20000 in
theorem ggX2_estimateOf_X2_of : GoodIn wsX2_estimateOf wsX2_of := goodIn_r _ [35, 6, 40, 41, 42, 43, 44] (by decide +kernel) (by decide +kernel)
set_option maxRecDepth 20000 in
theorem gX2_estimateOf_X2_of : GoodIn wsX2_estimateOf (wsV RX2 51 RX2 yX2_of wsX2_of) := goodIn_app (goodIn_of _ (by decide +kernel)) ggX2_estimateOf_X2_of
set_option maxRecDepth 20000 in
theorem ggX2_estimateOf_X2_booked : GoodIn wsX2_estimateOf wsX2_booked := goodIn_r _ [39, 6, 21, 22, 23, 4, 24, 25, 1, 2, 3, 5, 26, 27, 28, 29, 30, 31, 10, 11, 12, 40, 41, 42, 43, 44] (by decide +kernel) (by decide +kernel)
set_option maxRecDepth 20000 in
theorem gX2_estimateOf_X2_booked : GoodIn wsX2_estimateOf (wsV RX2 54 RX2 yX2_booked wsX2_booked) := goodIn_app (goodIn_of _ (by decide +kernel)) ggX2_estimateOf_X2_booked
theorem dX2_estimateOf_0 : decode cX2_estimateOf 0 = .ok (.iconst 0, 1) := by decide +kernel
theorem dX2_estimateOf_1 : decode cX2_estimateOf 1 = .ok (.istore_n 2, 1) := by decide +kernel
theorem dX2_estimateOf_2 : decode cX2_estimateOf 2 = .ok (.iconst 0, 1) := by decide +kernel
theorem dX2_estimateOf_3 : decode cX2_estimateOf 3 = .ok (.istore_n 3, 1) := by decide +kernel
theorem dX2_estimateOf_4 : decode cX2_estimateOf 4 = .ok (.iload_n 3, 1) := by decide +kernel
theorem dX2_estimateOf_5 : decode cX2_estimateOf 5 = .ok (.bipush 24, 2) := by decide +kernel
theorem dX2_estimateOf_7 : decode cX2_estimateOf 7 = .ok (.if_icmp .ge 48, 3) := by decide +kernel
theorem dX2_estimateOf_10 : decode cX2_estimateOf 10 = .ok (.iload_n 2, 1) := by decide +kernel
theorem dX2_estimateOf_11 : decode cX2_estimateOf 11 = .ok (.iload_n 3, 1) := by decide +kernel
theorem dX2_estimateOf_12 : decode cX2_estimateOf 12 = .ok (.aload_n 0, 1) := by decide +kernel
theorem dX2_estimateOf_13 : decode cX2_estimateOf 13 = .ok (.iload_n 1, 1) := by decide +kernel
theorem dX2_estimateOf_14 : decode cX2_estimateOf 14 = .ok (.iconst 3, 1) := by decide +kernel
theorem dX2_estimateOf_15 : decode cX2_estimateOf 15 = .ok (.invokevirtual 27, 3) := by decide +kernel
theorem dX2_estimateOf_18 : decode cX2_estimateOf 18 = .ok (.invokestatic 98, 3) := by decide +kernel
theorem dX2_estimateOf_21 : decode cX2_estimateOf 21 = .ok (.ifCond .eq 25, 3) := by decide +kernel
theorem dX2_estimateOf_24 : decode cX2_estimateOf 24 = .ok (.aload_n 0, 1) := by decide +kernel
theorem dX2_estimateOf_25 : decode cX2_estimateOf 25 = .ok (.iload_n 3, 1) := by decide +kernel
theorem dX2_estimateOf_26 : decode cX2_estimateOf 26 = .ok (.invokevirtual 57, 3) := by decide +kernel
theorem dX2_estimateOf_29 : decode cX2_estimateOf 29 = .ok (.aload_n 0, 1) := by decide +kernel
theorem dX2_estimateOf_30 : decode cX2_estimateOf 30 = .ok (.iload_n 3, 1) := by decide +kernel
theorem dX2_estimateOf_31 : decode cX2_estimateOf 31 = .ok (.iconst 2, 1) := by decide +kernel
theorem dX2_estimateOf_32 : decode cX2_estimateOf 32 = .ok (.invokevirtual 51, 3) := by decide +kernel
theorem dX2_estimateOf_35 : decode cX2_estimateOf 35 = .ok (.isub, 1) := by decide +kernel
theorem dX2_estimateOf_36 : decode cX2_estimateOf 36 = .ok (.aload_n 0, 1) := by decide +kernel
theorem dX2_estimateOf_37 : decode cX2_estimateOf 37 = .ok (.iload_n 3, 1) := by decide +kernel
theorem dX2_estimateOf_38 : decode cX2_estimateOf 38 = .ok (.iload_n 1, 1) := by decide +kernel
theorem dX2_estimateOf_39 : decode cX2_estimateOf 39 = .ok (.invokevirtual 54, 3) := by decide +kernel
theorem dX2_estimateOf_42 : decode cX2_estimateOf 42 = .ok (.isub, 1) := by decide +kernel
theorem dX2_estimateOf_43 : decode cX2_estimateOf 43 = .ok (.goto 4, 3) := by decide +kernel
theorem dX2_estimateOf_46 : decode cX2_estimateOf 46 = .ok (.iconst 0, 1) := by decide +kernel
theorem dX2_estimateOf_47 : decode cX2_estimateOf 47 = .ok (.iadd, 1) := by decide +kernel
theorem dX2_estimateOf_48 : decode cX2_estimateOf 48 = .ok (.istore_n 2, 1) := by decide +kernel
theorem dX2_estimateOf_49 : decode cX2_estimateOf 49 = .ok (.iinc 3 1, 3) := by decide +kernel
theorem dX2_estimateOf_52 : decode cX2_estimateOf 52 = .ok (.goto (-48), 3) := by decide +kernel
theorem dX2_estimateOf_55 : decode cX2_estimateOf 55 = .ok (.iload_n 2, 1) := by decide +kernel
theorem dX2_estimateOf_56 : decode cX2_estimateOf 56 = .ok (.ifCond .ge 7, 3) := by decide +kernel
theorem dX2_estimateOf_59 : decode cX2_estimateOf 59 = .ok (.iconst 0, 1) := by decide +kernel
theorem dX2_estimateOf_60 : decode cX2_estimateOf 60 = .ok (.goto 4, 3) := by decide +kernel
theorem dX2_estimateOf_63 : decode cX2_estimateOf 63 = .ok (.iload_n 2, 1) := by decide +kernel
theorem dX2_estimateOf_64 : decode cX2_estimateOf 64 = .ok (.ireturn, 1) := by decide +kernel
set_option maxRecDepth 20000 in
theorem ggX2_earliest_X2_isNear : GoodIn wsX2_earliest wsX2_isNear := goodIn_r _ [4, 5, 6, 3, 7] (by decide +kernel) (by decide +kernel)
set_option maxRecDepth 20000 in
theorem gX2_earliest_X2_isNear : GoodIn wsX2_earliest (va_wsS RX2 98 yX2_isNear wsX2_isNear) := goodIn_app (goodIn_of _ (by decide +kernel)) ggX2_earliest_X2_isNear
set_option maxRecDepth 20000 in
theorem ggX2_earliest_X2_of : GoodIn wsX2_earliest wsX2_of := goodIn_r _ [11, 12, 13, 14, 15, 16, 17] (by decide +kernel) (by decide +kernel)
set_option maxRecDepth 20000 in
theorem gX2_earliest_X2_of : GoodIn wsX2_earliest (wsV RX2 51 RX2 yX2_of wsX2_of) := goodIn_app (goodIn_of _ (by decide +kernel)) ggX2_earliest_X2_of
theorem dX2_earliest_0 : decode cX2_earliest 0 = .ok (.sipush 2000, 3) := by decide +kernel
theorem dX2_earliest_3 : decode cX2_earliest 3 = .ok (.istore_n 2, 1) := by decide +kernel
theorem dX2_earliest_4 : decode cX2_earliest 4 = .ok (.iconst 0, 1) := by decide +kernel
theorem dX2_earliest_5 : decode cX2_earliest 5 = .ok (.istore_n 3, 1) := by decide +kernel
theorem dX2_earliest_6 : decode cX2_earliest 6 = .ok (.iload_n 3, 1) := by decide +kernel
theorem dX2_earliest_7 : decode cX2_earliest 7 = .ok (.bipush 24, 2) := by decide +kernel
theorem dX2_earliest_9 : decode cX2_earliest 9 = .ok (.if_icmp .ge 38, 3) := by decide +kernel
theorem dX2_earliest_12 : decode cX2_earliest 12 = .ok (.iload_n 3, 1) := by decide +kernel
theorem dX2_earliest_13 : decode cX2_earliest 13 = .ok (.iload_n 1, 1) := by decide +kernel
theorem dX2_earliest_14 : decode cX2_earliest 14 = .ok (.invokestatic 98, 3) := by decide +kernel
theorem dX2_earliest_17 : decode cX2_earliest 17 = .ok (.ifCond .eq 22, 3) := by decide +kernel
theorem dX2_earliest_20 : decode cX2_earliest 20 = .ok (.aload_n 0, 1) := by decide +kernel
theorem dX2_earliest_21 : decode cX2_earliest 21 = .ok (.iload_n 3, 1) := by decide +kernel
theorem dX2_earliest_22 : decode cX2_earliest 22 = .ok (.iconst 3, 1) := by decide +kernel
theorem dX2_earliest_23 : decode cX2_earliest 23 = .ok (.invokevirtual 51, 3) := by decide +kernel
theorem dX2_earliest_26 : decode cX2_earliest 26 = .ok (.iload_n 2, 1) := by decide +kernel
theorem dX2_earliest_27 : decode cX2_earliest 27 = .ok (.if_icmp .ge 12, 3) := by decide +kernel
theorem dX2_earliest_30 : decode cX2_earliest 30 = .ok (.aload_n 0, 1) := by decide +kernel
theorem dX2_earliest_31 : decode cX2_earliest 31 = .ok (.iload_n 3, 1) := by decide +kernel
theorem dX2_earliest_32 : decode cX2_earliest 32 = .ok (.iconst 3, 1) := by decide +kernel
theorem dX2_earliest_33 : decode cX2_earliest 33 = .ok (.invokevirtual 51, 3) := by decide +kernel
theorem dX2_earliest_36 : decode cX2_earliest 36 = .ok (.goto 4, 3) := by decide +kernel
theorem dX2_earliest_39 : decode cX2_earliest 39 = .ok (.iload_n 2, 1) := by decide +kernel
theorem dX2_earliest_40 : decode cX2_earliest 40 = .ok (.istore_n 2, 1) := by decide +kernel
theorem dX2_earliest_41 : decode cX2_earliest 41 = .ok (.iinc 3 1, 3) := by decide +kernel
theorem dX2_earliest_44 : decode cX2_earliest 44 = .ok (.goto (-38), 3) := by decide +kernel
theorem dX2_earliest_47 : decode cX2_earliest 47 = .ok (.iload_n 2, 1) := by decide +kernel
theorem dX2_earliest_48 : decode cX2_earliest 48 = .ok (.ireturn, 1) := by decide +kernel
set_option maxRecDepth 20000 in
theorem ggX2_certaintyIn_X2_ofWalker : GoodIn wsX2_certaintyIn wsX2_ofWalker := goodIn_r _ [6, 1, 21, 22, 23, 24, 25] (by decide +kernel) (by decide +kernel)
set_option maxRecDepth 20000 in
theorem gX2_certaintyIn_X2_ofWalker : GoodIn wsX2_certaintyIn (wsV RX2 27 RX2 yX2_ofWalker wsX2_ofWalker) := goodIn_app (goodIn_of _ (by decide +kernel)) ggX2_certaintyIn_X2_ofWalker
set_option maxRecDepth 20000 in
theorem ggX2_certaintyIn_X2_earliest : GoodIn wsX2_certaintyIn wsX2_earliest := goodIn_r _ [10, 11, 12, 5, 13, 14, 15, 16, 17, 18, 19, 20, 1, 21, 22, 23, 24, 25] (by decide +kernel) (by decide +kernel)
set_option maxRecDepth 20000 in
theorem gX2_certaintyIn_X2_earliest : GoodIn wsX2_certaintyIn (wsV RX2 101 RX2 yX2_earliest wsX2_earliest) := goodIn_app (goodIn_of _ (by decide +kernel)) ggX2_certaintyIn_X2_earliest
theorem dX2_certaintyIn_0 : decode cX2_certaintyIn 0 = .ok (.bipush 100, 2) := by decide +kernel
theorem dX2_certaintyIn_2 : decode cX2_certaintyIn 2 = .ok (.iconst 5, 1) := by decide +kernel
theorem dX2_certaintyIn_3 : decode cX2_certaintyIn 3 = .ok (.aload_n 0, 1) := by decide +kernel
theorem dX2_certaintyIn_4 : decode cX2_certaintyIn 4 = .ok (.getfield 7, 3) := by decide +kernel
theorem dX2_certaintyIn_7 : decode cX2_certaintyIn 7 = .ok (.iconst 0, 1) := by decide +kernel
theorem dX2_certaintyIn_8 : decode cX2_certaintyIn 8 = .ok (.iaload, 1) := by decide +kernel
theorem dX2_certaintyIn_9 : decode cX2_certaintyIn 9 = .ok (.iload_n 2, 1) := by decide +kernel
theorem dX2_certaintyIn_10 : decode cX2_certaintyIn 10 = .ok (.iadd, 1) := by decide +kernel
theorem dX2_certaintyIn_11 : decode cX2_certaintyIn 11 = .ok (.aload_n 0, 1) := by decide +kernel
theorem dX2_certaintyIn_12 : decode cX2_certaintyIn 12 = .ok (.aload_n 0, 1) := by decide +kernel
theorem dX2_certaintyIn_13 : decode cX2_certaintyIn 13 = .ok (.iload_n 1, 1) := by decide +kernel
theorem dX2_certaintyIn_14 : decode cX2_certaintyIn 14 = .ok (.iconst 3, 1) := by decide +kernel
theorem dX2_certaintyIn_15 : decode cX2_certaintyIn 15 = .ok (.invokevirtual 27, 3) := by decide +kernel
theorem dX2_certaintyIn_18 : decode cX2_certaintyIn 18 = .ok (.invokevirtual 101, 3) := by decide +kernel
theorem dX2_certaintyIn_21 : decode cX2_certaintyIn 21 = .ok (.isub, 1) := by decide +kernel
theorem dX2_certaintyIn_22 : decode cX2_certaintyIn 22 = .ok (.imul, 1) := by decide +kernel
theorem dX2_certaintyIn_23 : decode cX2_certaintyIn 23 = .ok (.isub, 1) := by decide +kernel
theorem dX2_certaintyIn_24 : decode cX2_certaintyIn 24 = .ok (.bipush 10, 2) := by decide +kernel
theorem dX2_certaintyIn_26 : decode cX2_certaintyIn 26 = .ok (.aload_n 0, 1) := by decide +kernel
theorem dX2_certaintyIn_27 : decode cX2_certaintyIn 27 = .ok (.iload_n 1, 1) := by decide +kernel
theorem dX2_certaintyIn_28 : decode cX2_certaintyIn 28 = .ok (.iconst 4, 1) := by decide +kernel
theorem dX2_certaintyIn_29 : decode cX2_certaintyIn 29 = .ok (.invokevirtual 27, 3) := by decide +kernel
theorem dX2_certaintyIn_32 : decode cX2_certaintyIn 32 = .ok (.imul, 1) := by decide +kernel
theorem dX2_certaintyIn_33 : decode cX2_certaintyIn 33 = .ok (.isub, 1) := by decide +kernel
theorem dX2_certaintyIn_34 : decode cX2_certaintyIn 34 = .ok (.istore_n 3, 1) := by decide +kernel
theorem dX2_certaintyIn_35 : decode cX2_certaintyIn 35 = .ok (.iload_n 3, 1) := by decide +kernel
theorem dX2_certaintyIn_36 : decode cX2_certaintyIn 36 = .ok (.ifCond .ge 7, 3) := by decide +kernel
theorem dX2_certaintyIn_39 : decode cX2_certaintyIn 39 = .ok (.iconst 0, 1) := by decide +kernel
theorem dX2_certaintyIn_40 : decode cX2_certaintyIn 40 = .ok (.goto 4, 3) := by decide +kernel
theorem dX2_certaintyIn_43 : decode cX2_certaintyIn 43 = .ok (.iload_n 3, 1) := by decide +kernel
theorem dX2_certaintyIn_44 : decode cX2_certaintyIn 44 = .ok (.ireturn, 1) := by decide +kernel
set_option maxRecDepth 20000 in
theorem ggX2_sumOf_X2_reading : GoodIn wsX2_sumOf wsX2_reading := goodIn_r _ [5, 6, 7, 8, 4, 9, 10, 11, 12, 13, 14, 15, 16, 17, 18, 19, 20, 21, 22, 23, 24, 25, 26, 27, 28, 29, 30, 31, 32, 33, 34, 35, 36, 37] (by decide +kernel) (by decide +kernel)
set_option maxRecDepth 20000 in
theorem gX2_sumOf_X2_reading : GoodIn wsX2_sumOf (wsV RX2 57 RX2 yX2_reading wsX2_reading) := goodIn_app (goodIn_of _ (by decide +kernel)) ggX2_sumOf_X2_reading
set_option maxRecDepth 20000 in
theorem ggX2_sumOf_X2_of : GoodIn wsX2_sumOf wsX2_of := goodIn_r _ [32, 10, 33, 34, 35, 36, 37] (by decide +kernel) (by decide +kernel)
set_option maxRecDepth 20000 in
theorem gX2_sumOf_X2_of : GoodIn wsX2_sumOf (wsV RX2 51 RX2 yX2_of wsX2_of) := goodIn_app (goodIn_of _ (by decide +kernel)) ggX2_sumOf_X2_of
theorem dX2_sumOf_0 : decode cX2_sumOf 0 = .ok (.iconst 0, 1) := by decide +kernel
theorem dX2_sumOf_1 : decode cX2_sumOf 1 = .ok (.istore_n 2, 1) := by decide +kernel
theorem dX2_sumOf_2 : decode cX2_sumOf 2 = .ok (.iconst 0, 1) := by decide +kernel
theorem dX2_sumOf_3 : decode cX2_sumOf 3 = .ok (.istore_n 3, 1) := by decide +kernel
theorem dX2_sumOf_4 : decode cX2_sumOf 4 = .ok (.iload_n 3, 1) := by decide +kernel
theorem dX2_sumOf_5 : decode cX2_sumOf 5 = .ok (.bipush 24, 2) := by decide +kernel
theorem dX2_sumOf_7 : decode cX2_sumOf 7 = .ok (.if_icmp .ge 30, 3) := by decide +kernel
theorem dX2_sumOf_10 : decode cX2_sumOf 10 = .ok (.iload_n 2, 1) := by decide +kernel
theorem dX2_sumOf_11 : decode cX2_sumOf 11 = .ok (.iload_n 1, 1) := by decide +kernel
theorem dX2_sumOf_12 : decode cX2_sumOf 12 = .ok (.ifCond .eq 11, 3) := by decide +kernel
theorem dX2_sumOf_15 : decode cX2_sumOf 15 = .ok (.aload_n 0, 1) := by decide +kernel
theorem dX2_sumOf_16 : decode cX2_sumOf 16 = .ok (.iload_n 3, 1) := by decide +kernel
theorem dX2_sumOf_17 : decode cX2_sumOf 17 = .ok (.invokevirtual 57, 3) := by decide +kernel
theorem dX2_sumOf_20 : decode cX2_sumOf 20 = .ok (.goto 9, 3) := by decide +kernel
theorem dX2_sumOf_23 : decode cX2_sumOf 23 = .ok (.aload_n 0, 1) := by decide +kernel
theorem dX2_sumOf_24 : decode cX2_sumOf 24 = .ok (.iload_n 3, 1) := by decide +kernel
theorem dX2_sumOf_25 : decode cX2_sumOf 25 = .ok (.iconst 2, 1) := by decide +kernel
theorem dX2_sumOf_26 : decode cX2_sumOf 26 = .ok (.invokevirtual 51, 3) := by decide +kernel
theorem dX2_sumOf_29 : decode cX2_sumOf 29 = .ok (.iadd, 1) := by decide +kernel
theorem dX2_sumOf_30 : decode cX2_sumOf 30 = .ok (.istore_n 2, 1) := by decide +kernel
theorem dX2_sumOf_31 : decode cX2_sumOf 31 = .ok (.iinc 3 1, 3) := by decide +kernel
theorem dX2_sumOf_34 : decode cX2_sumOf 34 = .ok (.goto (-30), 3) := by decide +kernel
theorem dX2_sumOf_37 : decode cX2_sumOf 37 = .ok (.iload_n 2, 1) := by decide +kernel
theorem dX2_sumOf_38 : decode cX2_sumOf 38 = .ok (.ireturn, 1) := by decide +kernel
set_option maxRecDepth 20000 in
theorem ggX2_bill_X2_isWalker : GoodIn wsX2_bill wsX2_isWalker := goodIn_r _ [9, 4, 72, 73, 74, 75, 76] (by decide +kernel) (by decide +kernel)
set_option maxRecDepth 20000 in
theorem gX2_bill_X2_isWalker : GoodIn wsX2_bill (wsV RX2 81 RX2 yX2_isWalker wsX2_isWalker) := goodIn_app (goodIn_of _ (by decide +kernel)) ggX2_bill_X2_isWalker
set_option maxRecDepth 20000 in
theorem ggX2_bill_X2_isAboard : GoodIn wsX2_bill wsX2_isAboard := goodIn_r _ [13, 2, 14, 15, 16, 8, 17, 4, 72, 73, 74, 75, 76] (by decide +kernel) (by decide +kernel)
set_option maxRecDepth 20000 in
theorem gX2_bill_X2_isAboard : GoodIn wsX2_bill (wsV RX2 40 RX2 yX2_isAboard wsX2_isAboard) := goodIn_app (goodIn_of _ (by decide +kernel)) ggX2_bill_X2_isAboard
set_option maxRecDepth 20000 in
theorem ggX2_bill_X2_ofWalker : GoodIn wsX2_bill wsX2_ofWalker := goodIn_r _ [17, 4, 72, 73, 74, 75, 76] (by decide +kernel) (by decide +kernel)
set_option maxRecDepth 20000 in
theorem gX2_bill_X2_ofWalker : GoodIn wsX2_bill (wsV RX2 27 RX2 yX2_ofWalker wsX2_ofWalker) := goodIn_app (goodIn_of _ (by decide +kernel)) ggX2_bill_X2_ofWalker
set_option maxRecDepth 20000 in
theorem ggX2_bill_X2_acts : GoodIn wsX2_bill wsX2_acts := goodIn_r _ [21, 22, 23, 4, 72, 73, 74, 75, 76] (by decide +kernel) (by decide +kernel)
set_option maxRecDepth 20000 in
theorem gX2_bill_X2_acts : GoodIn wsX2_bill (wsV RX2 67 RX2 yX2_acts wsX2_acts) := goodIn_app (goodIn_of _ (by decide +kernel)) ggX2_bill_X2_acts
set_option maxRecDepth 20000 in
theorem ggX2_bill_X2_estimateOf : GoodIn wsX2_bill wsX2_estimateOf := goodIn_r _ [27, 14, 15, 16, 8, 17, 4, 28, 29, 30, 31, 32, 33, 34, 35, 36, 37, 38, 39, 40, 41, 10, 11, 12, 13, 2, 42, 43, 44, 45, 46, 47, 48, 49, 50, 51, 52, 53, 54, 55, 72, 73, 74, 75, 76] (by decide +kernel) (by decide +kernel)
set_option maxRecDepth 20000 in
theorem gX2_bill_X2_estimateOf : GoodIn wsX2_bill (wsV RX2 104 RX2 yX2_estimateOf wsX2_estimateOf) := goodIn_app (goodIn_of _ (by decide +kernel)) ggX2_bill_X2_estimateOf
set_option maxRecDepth 20000 in
theorem ggX2_bill_X2_certaintyIn : GoodIn wsX2_bill wsX2_certaintyIn := goodIn_r _ [59, 4, 14, 15, 16, 8, 17, 60, 61, 62, 63, 28, 29, 30, 31, 32, 33, 48, 49, 50, 51, 72, 73, 74, 75, 76] (by decide +kernel) (by decide +kernel)
set_option maxRecDepth 20000 in
theorem gX2_bill_X2_certaintyIn : GoodIn wsX2_bill (wsV RX2 107 RX2 yX2_certaintyIn wsX2_certaintyIn) := goodIn_app (goodIn_of _ (by decide +kernel)) ggX2_bill_X2_certaintyIn
set_option maxRecDepth 20000 in
theorem ggX2_bill_X2_sumOf : GoodIn wsX2_bill wsX2_sumOf := goodIn_r _ [67, 34, 35, 36, 8, 37, 38, 39, 40, 41, 4, 10, 11, 12, 13, 2, 14, 15, 16, 17, 42, 43, 44, 45, 46, 47, 31, 32, 33, 48, 49, 50, 51, 72, 73, 74, 75, 76] (by decide +kernel) (by decide +kernel)
set_option maxRecDepth 20000 in
theorem gX2_bill_X2_sumOf : GoodIn wsX2_bill (wsV RX2 110 RX2 yX2_sumOf wsX2_sumOf) := goodIn_app (goodIn_of _ (by decide +kernel)) ggX2_bill_X2_sumOf
set_option maxRecDepth 20000 in
theorem ggX2_bill_X2_puts : GoodIn wsX2_bill wsX2_puts := goodIn_r _ [71, 4, 72, 73, 74, 75, 76] (by decide +kernel) (by decide +kernel)
set_option maxRecDepth 20000 in
theorem gX2_bill_X2_puts : GoodIn wsX2_bill (wsV RX2 84 RX2 yX2_puts wsX2_puts) := goodIn_app (goodIn_of _ (by decide +kernel)) ggX2_bill_X2_puts
theorem dX2_bill_0 : decode cX2_bill 0 = .ok (.aload_n 0, 1) := by decide +kernel
theorem dX2_bill_1 : decode cX2_bill 1 = .ok (.iload_n 1, 1) := by decide +kernel
theorem dX2_bill_2 : decode cX2_bill 2 = .ok (.invokevirtual 81, 3) := by decide +kernel
theorem dX2_bill_5 : decode cX2_bill 5 = .ok (.ifCond .ne 6, 3) := by decide +kernel
theorem dX2_bill_8 : decode cX2_bill 8 = .ok (.ldc 66, 2) := by decide +kernel
theorem dX2_bill_10 : decode cX2_bill 10 = .ok (.ireturn, 1) := by decide +kernel
theorem dX2_bill_11 : decode cX2_bill 11 = .ok (.aload_n 0, 1) := by decide +kernel
theorem dX2_bill_12 : decode cX2_bill 12 = .ok (.iload_n 1, 1) := by decide +kernel
theorem dX2_bill_13 : decode cX2_bill 13 = .ok (.invokevirtual 40, 3) := by decide +kernel
theorem dX2_bill_16 : decode cX2_bill 16 = .ok (.ifCond .eq 14, 3) := by decide +kernel
theorem dX2_bill_19 : decode cX2_bill 19 = .ok (.aload_n 0, 1) := by decide +kernel
theorem dX2_bill_20 : decode cX2_bill 20 = .ok (.iload_n 1, 1) := by decide +kernel
theorem dX2_bill_21 : decode cX2_bill 21 = .ok (.iconst 5, 1) := by decide +kernel
theorem dX2_bill_22 : decode cX2_bill 22 = .ok (.invokevirtual 27, 3) := by decide +kernel
theorem dX2_bill_25 : decode cX2_bill 25 = .ok (.ldc 31, 2) := by decide +kernel
theorem dX2_bill_27 : decode cX2_bill 27 = .ok (.if_icmp .eq 6, 3) := by decide +kernel
theorem dX2_bill_30 : decode cX2_bill 30 = .ok (.ldc 70, 2) := by decide +kernel
theorem dX2_bill_32 : decode cX2_bill 32 = .ok (.ireturn, 1) := by decide +kernel
theorem dX2_bill_33 : decode cX2_bill 33 = .ok (.aload_n 0, 1) := by decide +kernel
theorem dX2_bill_34 : decode cX2_bill 34 = .ok (.invokevirtual 67, 3) := by decide +kernel
theorem dX2_bill_37 : decode cX2_bill 37 = .ok (.aload_n 0, 1) := by decide +kernel
theorem dX2_bill_38 : decode cX2_bill 38 = .ok (.iload_n 1, 1) := by decide +kernel
theorem dX2_bill_39 : decode cX2_bill 39 = .ok (.invokevirtual 104, 3) := by decide +kernel
theorem dX2_bill_42 : decode cX2_bill 42 = .ok (.aload_n 0, 1) := by decide +kernel
theorem dX2_bill_43 : decode cX2_bill 43 = .ok (.iload_n 1, 1) := by decide +kernel
theorem dX2_bill_44 : decode cX2_bill 44 = .ok (.iconst 0, 1) := by decide +kernel
theorem dX2_bill_45 : decode cX2_bill 45 = .ok (.invokevirtual 107, 3) := by decide +kernel
theorem dX2_bill_48 : decode cX2_bill 48 = .ok (.imul, 1) := by decide +kernel
theorem dX2_bill_49 : decode cX2_bill 49 = .ok (.bipush 100, 2) := by decide +kernel
theorem dX2_bill_51 : decode cX2_bill 51 = .ok (.idiv, 1) := by decide +kernel
theorem dX2_bill_52 : decode cX2_bill 52 = .ok (.istore_n 2, 1) := by decide +kernel
theorem dX2_bill_53 : decode cX2_bill 53 = .ok (.aload_n 0, 1) := by decide +kernel
theorem dX2_bill_54 : decode cX2_bill 54 = .ok (.getfield 7, 3) := by decide +kernel
theorem dX2_bill_57 : decode cX2_bill 57 = .ok (.iconst 3, 1) := by decide +kernel
theorem dX2_bill_58 : decode cX2_bill 58 = .ok (.iaload, 1) := by decide +kernel
theorem dX2_bill_59 : decode cX2_bill 59 = .ok (.iload_n 2, 1) := by decide +kernel
theorem dX2_bill_60 : decode cX2_bill 60 = .ok (.iadd, 1) := by decide +kernel
theorem dX2_bill_61 : decode cX2_bill 61 = .ok (.aload_n 0, 1) := by decide +kernel
theorem dX2_bill_62 : decode cX2_bill 62 = .ok (.iconst 1, 1) := by decide +kernel
theorem dX2_bill_63 : decode cX2_bill 63 = .ok (.invokevirtual 110, 3) := by decide +kernel
theorem dX2_bill_66 : decode cX2_bill 66 = .ok (.aload_n 0, 1) := by decide +kernel
theorem dX2_bill_67 : decode cX2_bill 67 = .ok (.iconst 0, 1) := by decide +kernel
theorem dX2_bill_68 : decode cX2_bill 68 = .ok (.invokevirtual 110, 3) := by decide +kernel
theorem dX2_bill_71 : decode cX2_bill 71 = .ok (.isub, 1) := by decide +kernel
theorem dX2_bill_72 : decode cX2_bill 72 = .ok (.isub, 1) := by decide +kernel
theorem dX2_bill_73 : decode cX2_bill 73 = .ok (.istore_n 3, 1) := by decide +kernel
theorem dX2_bill_74 : decode cX2_bill 74 = .ok (.iload_n 2, 1) := by decide +kernel
theorem dX2_bill_75 : decode cX2_bill 75 = .ok (.iload_n 3, 1) := by decide +kernel
theorem dX2_bill_76 : decode cX2_bill 76 = .ok (.ifCond .le 7, 3) := by decide +kernel
theorem dX2_bill_79 : decode cX2_bill 79 = .ok (.iload_n 3, 1) := by decide +kernel
theorem dX2_bill_80 : decode cX2_bill 80 = .ok (.goto 4, 3) := by decide +kernel
theorem dX2_bill_83 : decode cX2_bill 83 = .ok (.iconst 0, 1) := by decide +kernel
theorem dX2_bill_84 : decode cX2_bill 84 = .ok (.isub, 1) := by decide +kernel
theorem dX2_bill_85 : decode cX2_bill 85 = .ok (.istore_n 2, 1) := by decide +kernel
theorem dX2_bill_86 : decode cX2_bill 86 = .ok (.iload_n 2, 1) := by decide +kernel
theorem dX2_bill_87 : decode cX2_bill 87 = .ok (.ifCond .ge 7, 3) := by decide +kernel
theorem dX2_bill_90 : decode cX2_bill 90 = .ok (.iconst 0, 1) := by decide +kernel
theorem dX2_bill_91 : decode cX2_bill 91 = .ok (.goto 4, 3) := by decide +kernel
theorem dX2_bill_94 : decode cX2_bill 94 = .ok (.iload_n 2, 1) := by decide +kernel
theorem dX2_bill_95 : decode cX2_bill 95 = .ok (.istore_n 2, 1) := by decide +kernel
theorem dX2_bill_96 : decode cX2_bill 96 = .ok (.aload_n 0, 1) := by decide +kernel
theorem dX2_bill_97 : decode cX2_bill 97 = .ok (.iload_n 1, 1) := by decide +kernel
theorem dX2_bill_98 : decode cX2_bill 98 = .ok (.iconst 5, 1) := by decide +kernel
theorem dX2_bill_99 : decode cX2_bill 99 = .ok (.iload_n 2, 1) := by decide +kernel
theorem dX2_bill_100 : decode cX2_bill 100 = .ok (.invokevirtual 84, 3) := by decide +kernel
theorem dX2_bill_103 : decode cX2_bill 103 = .ok (.aload_n 0, 1) := by decide +kernel
theorem dX2_bill_104 : decode cX2_bill 104 = .ok (.iload_n 1, 1) := by decide +kernel
theorem dX2_bill_105 : decode cX2_bill 105 = .ok (.bipush 6, 2) := by decide +kernel
theorem dX2_bill_107 : decode cX2_bill 107 = .ok (.iload_n 2, 1) := by decide +kernel
theorem dX2_bill_108 : decode cX2_bill 108 = .ok (.aload_n 0, 1) := by decide +kernel
theorem dX2_bill_109 : decode cX2_bill 109 = .ok (.getfield 7, 3) := by decide +kernel
theorem dX2_bill_112 : decode cX2_bill 112 = .ok (.iconst 2, 1) := by decide +kernel
theorem dX2_bill_113 : decode cX2_bill 113 = .ok (.iaload, 1) := by decide +kernel
theorem dX2_bill_114 : decode cX2_bill 114 = .ok (.imul, 1) := by decide +kernel
theorem dX2_bill_115 : decode cX2_bill 115 = .ok (.invokevirtual 84, 3) := by decide +kernel
theorem dX2_bill_118 : decode cX2_bill 118 = .ok (.aload_n 0, 1) := by decide +kernel
theorem dX2_bill_119 : decode cX2_bill 119 = .ok (.iload_n 1, 1) := by decide +kernel
theorem dX2_bill_120 : decode cX2_bill 120 = .ok (.bipush 8, 2) := by decide +kernel
theorem dX2_bill_122 : decode cX2_bill 122 = .ok (.aload_n 0, 1) := by decide +kernel
theorem dX2_bill_123 : decode cX2_bill 123 = .ok (.getfield 7, 3) := by decide +kernel
theorem dX2_bill_126 : decode cX2_bill 126 = .ok (.iconst 2, 1) := by decide +kernel
theorem dX2_bill_127 : decode cX2_bill 127 = .ok (.iaload, 1) := by decide +kernel
theorem dX2_bill_128 : decode cX2_bill 128 = .ok (.invokevirtual 84, 3) := by decide +kernel
theorem dX2_bill_131 : decode cX2_bill 131 = .ok (.aload_n 0, 1) := by decide +kernel
theorem dX2_bill_132 : decode cX2_bill 132 = .ok (.iload_n 1, 1) := by decide +kernel
theorem dX2_bill_133 : decode cX2_bill 133 = .ok (.iconst 2, 1) := by decide +kernel
theorem dX2_bill_134 : decode cX2_bill 134 = .ok (.iload_n 2, 1) := by decide +kernel
theorem dX2_bill_135 : decode cX2_bill 135 = .ok (.bipush 20, 2) := by decide +kernel
theorem dX2_bill_137 : decode cX2_bill 137 = .ok (.if_icmp .ge 12, 3) := by decide +kernel
theorem dX2_bill_140 : decode cX2_bill 140 = .ok (.aload_n 0, 1) := by decide +kernel
theorem dX2_bill_141 : decode cX2_bill 141 = .ok (.iload_n 1, 1) := by decide +kernel
theorem dX2_bill_142 : decode cX2_bill 142 = .ok (.iconst 2, 1) := by decide +kernel
theorem dX2_bill_143 : decode cX2_bill 143 = .ok (.invokevirtual 27, 3) := by decide +kernel
theorem dX2_bill_146 : decode cX2_bill 146 = .ok (.goto 4, 3) := by decide +kernel
theorem dX2_bill_149 : decode cX2_bill 149 = .ok (.iload_n 2, 1) := by decide +kernel
theorem dX2_bill_150 : decode cX2_bill 150 = .ok (.invokevirtual 84, 3) := by decide +kernel
theorem dX2_bill_153 : decode cX2_bill 153 = .ok (.aload_n 0, 1) := by decide +kernel
theorem dX2_bill_154 : decode cX2_bill 154 = .ok (.getfield 7, 3) := by decide +kernel
theorem dX2_bill_157 : decode cX2_bill 157 = .ok (.iconst 3, 1) := by decide +kernel
theorem dX2_bill_158 : decode cX2_bill 158 = .ok (.dup2, 1) := by decide +kernel
theorem dX2_bill_159 : decode cX2_bill 159 = .ok (.iaload, 1) := by decide +kernel
theorem dX2_bill_160 : decode cX2_bill 160 = .ok (.iload_n 2, 1) := by decide +kernel
theorem dX2_bill_161 : decode cX2_bill 161 = .ok (.iadd, 1) := by decide +kernel
theorem dX2_bill_162 : decode cX2_bill 162 = .ok (.iastore, 1) := by decide +kernel
theorem dX2_bill_163 : decode cX2_bill 163 = .ok (.aload_n 0, 1) := by decide +kernel
theorem dX2_bill_164 : decode cX2_bill 164 = .ok (.getfield 7, 3) := by decide +kernel
theorem dX2_bill_167 : decode cX2_bill 167 = .ok (.iconst 4, 1) := by decide +kernel
theorem dX2_bill_168 : decode cX2_bill 168 = .ok (.dup2, 1) := by decide +kernel
theorem dX2_bill_169 : decode cX2_bill 169 = .ok (.iaload, 1) := by decide +kernel
theorem dX2_bill_170 : decode cX2_bill 170 = .ok (.iload_n 2, 1) := by decide +kernel
theorem dX2_bill_171 : decode cX2_bill 171 = .ok (.aload_n 0, 1) := by decide +kernel
theorem dX2_bill_172 : decode cX2_bill 172 = .ok (.getfield 7, 3) := by decide +kernel
theorem dX2_bill_175 : decode cX2_bill 175 = .ok (.iconst 2, 1) := by decide +kernel
theorem dX2_bill_176 : decode cX2_bill 176 = .ok (.iaload, 1) := by decide +kernel
theorem dX2_bill_177 : decode cX2_bill 177 = .ok (.imul, 1) := by decide +kernel
theorem dX2_bill_178 : decode cX2_bill 178 = .ok (.iadd, 1) := by decide +kernel
theorem dX2_bill_179 : decode cX2_bill 179 = .ok (.iastore, 1) := by decide +kernel
theorem dX2_bill_180 : decode cX2_bill 180 = .ok (.iload_n 2, 1) := by decide +kernel
theorem dX2_bill_181 : decode cX2_bill 181 = .ok (.ireturn, 1) := by decide +kernel
set_option maxRecDepth 20000 in
theorem ggX2_complain_X2_isWalker : GoodIn wsX2_complain wsX2_isWalker := goodIn_r _ [9, 4, 28, 29, 30, 31, 32] (by decide +kernel) (by decide +kernel)
set_option maxRecDepth 20000 in
theorem gX2_complain_X2_isWalker : GoodIn wsX2_complain (wsV RX2 81 RX2 yX2_isWalker wsX2_isWalker) := goodIn_app (goodIn_of _ (by decide +kernel)) ggX2_complain_X2_isWalker
set_option maxRecDepth 20000 in
theorem ggX2_complain_X2_isAboard : GoodIn wsX2_complain wsX2_isAboard := goodIn_r _ [13, 2, 14, 15, 16, 8, 17, 4, 28, 29, 30, 31, 32] (by decide +kernel) (by decide +kernel)
set_option maxRecDepth 20000 in
theorem gX2_complain_X2_isAboard : GoodIn wsX2_complain (wsV RX2 40 RX2 yX2_isAboard wsX2_isAboard) := goodIn_app (goodIn_of _ (by decide +kernel)) ggX2_complain_X2_isAboard
set_option maxRecDepth 20000 in
theorem ggX2_complain_X2_ofWalker : GoodIn wsX2_complain wsX2_ofWalker := goodIn_r _ [17, 4, 28, 29, 30, 31, 32] (by decide +kernel) (by decide +kernel)
set_option maxRecDepth 20000 in
theorem gX2_complain_X2_ofWalker : GoodIn wsX2_complain (wsV RX2 27 RX2 yX2_ofWalker wsX2_ofWalker) := goodIn_app (goodIn_of _ (by decide +kernel)) ggX2_complain_X2_ofWalker
set_option maxRecDepth 20000 in
theorem ggX2_complain_X2_acts : GoodIn wsX2_complain wsX2_acts := goodIn_r _ [21, 22, 23, 4, 28, 29, 30, 31, 32] (by decide +kernel) (by decide +kernel)
set_option maxRecDepth 20000 in
theorem gX2_complain_X2_acts : GoodIn wsX2_complain (wsV RX2 67 RX2 yX2_acts wsX2_acts) := goodIn_app (goodIn_of _ (by decide +kernel)) ggX2_complain_X2_acts
set_option maxRecDepth 20000 in
theorem ggX2_complain_X2_puts : GoodIn wsX2_complain wsX2_puts := goodIn_r _ [27, 4, 28, 29, 30, 31, 32] (by decide +kernel) (by decide +kernel)
set_option maxRecDepth 20000 in
theorem gX2_complain_X2_puts : GoodIn wsX2_complain (wsV RX2 84 RX2 yX2_puts wsX2_puts) := goodIn_app (goodIn_of _ (by decide +kernel)) ggX2_complain_X2_puts
theorem dX2_complain_0 : decode cX2_complain 0 = .ok (.aload_n 0, 1) := by decide +kernel
theorem dX2_complain_1 : decode cX2_complain 1 = .ok (.iload_n 1, 1) := by decide +kernel
theorem dX2_complain_2 : decode cX2_complain 2 = .ok (.invokevirtual 81, 3) := by decide +kernel
theorem dX2_complain_5 : decode cX2_complain 5 = .ok (.ifCond .ne 6, 3) := by decide +kernel
theorem dX2_complain_8 : decode cX2_complain 8 = .ok (.ldc 66, 2) := by decide +kernel
theorem dX2_complain_10 : decode cX2_complain 10 = .ok (.ireturn, 1) := by decide +kernel
theorem dX2_complain_11 : decode cX2_complain 11 = .ok (.aload_n 0, 1) := by decide +kernel
theorem dX2_complain_12 : decode cX2_complain 12 = .ok (.iload_n 1, 1) := by decide +kernel
theorem dX2_complain_13 : decode cX2_complain 13 = .ok (.invokevirtual 40, 3) := by decide +kernel
theorem dX2_complain_16 : decode cX2_complain 16 = .ok (.ifCond .ne 25, 3) := by decide +kernel
theorem dX2_complain_19 : decode cX2_complain 19 = .ok (.aload_n 0, 1) := by decide +kernel
theorem dX2_complain_20 : decode cX2_complain 20 = .ok (.iload_n 1, 1) := by decide +kernel
theorem dX2_complain_21 : decode cX2_complain 21 = .ok (.iconst 5, 1) := by decide +kernel
theorem dX2_complain_22 : decode cX2_complain 22 = .ok (.invokevirtual 27, 3) := by decide +kernel
theorem dX2_complain_25 : decode cX2_complain 25 = .ok (.ldc 31, 2) := by decide +kernel
theorem dX2_complain_27 : decode cX2_complain 27 = .ok (.if_icmp .eq 14, 3) := by decide +kernel
theorem dX2_complain_30 : decode cX2_complain 30 = .ok (.aload_n 0, 1) := by decide +kernel
theorem dX2_complain_31 : decode cX2_complain 31 = .ok (.iload_n 1, 1) := by decide +kernel
theorem dX2_complain_32 : decode cX2_complain 32 = .ok (.bipush 9, 2) := by decide +kernel
theorem dX2_complain_34 : decode cX2_complain 34 = .ok (.invokevirtual 27, 3) := by decide +kernel
theorem dX2_complain_37 : decode cX2_complain 37 = .ok (.iconst 1, 1) := by decide +kernel
theorem dX2_complain_38 : decode cX2_complain 38 = .ok (.if_icmp .ne 6, 3) := by decide +kernel
theorem dX2_complain_41 : decode cX2_complain 41 = .ok (.ldc 70, 2) := by decide +kernel
theorem dX2_complain_43 : decode cX2_complain 43 = .ok (.ireturn, 1) := by decide +kernel
theorem dX2_complain_44 : decode cX2_complain 44 = .ok (.aload_n 0, 1) := by decide +kernel
theorem dX2_complain_45 : decode cX2_complain 45 = .ok (.invokevirtual 67, 3) := by decide +kernel
theorem dX2_complain_48 : decode cX2_complain 48 = .ok (.aload_n 0, 1) := by decide +kernel
theorem dX2_complain_49 : decode cX2_complain 49 = .ok (.iload_n 1, 1) := by decide +kernel
theorem dX2_complain_50 : decode cX2_complain 50 = .ok (.iconst 5, 1) := by decide +kernel
theorem dX2_complain_51 : decode cX2_complain 51 = .ok (.invokevirtual 27, 3) := by decide +kernel
theorem dX2_complain_54 : decode cX2_complain 54 = .ok (.aload_n 0, 1) := by decide +kernel
theorem dX2_complain_55 : decode cX2_complain 55 = .ok (.iload_n 1, 1) := by decide +kernel
theorem dX2_complain_56 : decode cX2_complain 56 = .ok (.iconst 0, 1) := by decide +kernel
theorem dX2_complain_57 : decode cX2_complain 57 = .ok (.invokevirtual 27, 3) := by decide +kernel
theorem dX2_complain_60 : decode cX2_complain 60 = .ok (.isub, 1) := by decide +kernel
theorem dX2_complain_61 : decode cX2_complain 61 = .ok (.istore_n 2, 1) := by decide +kernel
theorem dX2_complain_62 : decode cX2_complain 62 = .ok (.iload_n 2, 1) := by decide +kernel
theorem dX2_complain_63 : decode cX2_complain 63 = .ok (.ifCond .ge 7, 3) := by decide +kernel
theorem dX2_complain_66 : decode cX2_complain 66 = .ok (.iconst 0, 1) := by decide +kernel
theorem dX2_complain_67 : decode cX2_complain 67 = .ok (.goto 4, 3) := by decide +kernel
theorem dX2_complain_70 : decode cX2_complain 70 = .ok (.iload_n 2, 1) := by decide +kernel
theorem dX2_complain_71 : decode cX2_complain 71 = .ok (.istore_n 2, 1) := by decide +kernel
theorem dX2_complain_72 : decode cX2_complain 72 = .ok (.aload_n 0, 1) := by decide +kernel
theorem dX2_complain_73 : decode cX2_complain 73 = .ok (.iload_n 1, 1) := by decide +kernel
theorem dX2_complain_74 : decode cX2_complain 74 = .ok (.bipush 9, 2) := by decide +kernel
theorem dX2_complain_76 : decode cX2_complain 76 = .ok (.iconst 1, 1) := by decide +kernel
theorem dX2_complain_77 : decode cX2_complain 77 = .ok (.invokevirtual 84, 3) := by decide +kernel
theorem dX2_complain_80 : decode cX2_complain 80 = .ok (.aload_n 0, 1) := by decide +kernel
theorem dX2_complain_81 : decode cX2_complain 81 = .ok (.iload_n 1, 1) := by decide +kernel
theorem dX2_complain_82 : decode cX2_complain 82 = .ok (.bipush 7, 2) := by decide +kernel
theorem dX2_complain_84 : decode cX2_complain 84 = .ok (.iload_n 2, 1) := by decide +kernel
theorem dX2_complain_85 : decode cX2_complain 85 = .ok (.aload_n 0, 1) := by decide +kernel
theorem dX2_complain_86 : decode cX2_complain 86 = .ok (.iload_n 1, 1) := by decide +kernel
theorem dX2_complain_87 : decode cX2_complain 87 = .ok (.bipush 8, 2) := by decide +kernel
theorem dX2_complain_89 : decode cX2_complain 89 = .ok (.invokevirtual 27, 3) := by decide +kernel
theorem dX2_complain_92 : decode cX2_complain 92 = .ok (.imul, 1) := by decide +kernel
theorem dX2_complain_93 : decode cX2_complain 93 = .ok (.invokevirtual 84, 3) := by decide +kernel
theorem dX2_complain_96 : decode cX2_complain 96 = .ok (.aload_n 0, 1) := by decide +kernel
theorem dX2_complain_97 : decode cX2_complain 97 = .ok (.getfield 7, 3) := by decide +kernel
theorem dX2_complain_100 : decode cX2_complain 100 = .ok (.iconst 3, 1) := by decide +kernel
theorem dX2_complain_101 : decode cX2_complain 101 = .ok (.dup2, 1) := by decide +kernel
theorem dX2_complain_102 : decode cX2_complain 102 = .ok (.iaload, 1) := by decide +kernel
theorem dX2_complain_103 : decode cX2_complain 103 = .ok (.iload_n 2, 1) := by decide +kernel
theorem dX2_complain_104 : decode cX2_complain 104 = .ok (.isub, 1) := by decide +kernel
theorem dX2_complain_105 : decode cX2_complain 105 = .ok (.iastore, 1) := by decide +kernel
theorem dX2_complain_106 : decode cX2_complain 106 = .ok (.aload_n 0, 1) := by decide +kernel
theorem dX2_complain_107 : decode cX2_complain 107 = .ok (.getfield 7, 3) := by decide +kernel
theorem dX2_complain_110 : decode cX2_complain 110 = .ok (.iconst 5, 1) := by decide +kernel
theorem dX2_complain_111 : decode cX2_complain 111 = .ok (.dup2, 1) := by decide +kernel
theorem dX2_complain_112 : decode cX2_complain 112 = .ok (.iaload, 1) := by decide +kernel
theorem dX2_complain_113 : decode cX2_complain 113 = .ok (.aload_n 0, 1) := by decide +kernel
theorem dX2_complain_114 : decode cX2_complain 114 = .ok (.iload_n 1, 1) := by decide +kernel
theorem dX2_complain_115 : decode cX2_complain 115 = .ok (.bipush 7, 2) := by decide +kernel
theorem dX2_complain_117 : decode cX2_complain 117 = .ok (.invokevirtual 27, 3) := by decide +kernel
theorem dX2_complain_120 : decode cX2_complain 120 = .ok (.iadd, 1) := by decide +kernel
theorem dX2_complain_121 : decode cX2_complain 121 = .ok (.iastore, 1) := by decide +kernel
theorem dX2_complain_122 : decode cX2_complain 122 = .ok (.aload_n 0, 1) := by decide +kernel
theorem dX2_complain_123 : decode cX2_complain 123 = .ok (.iload_n 1, 1) := by decide +kernel
theorem dX2_complain_124 : decode cX2_complain 124 = .ok (.bipush 7, 2) := by decide +kernel
theorem dX2_complain_126 : decode cX2_complain 126 = .ok (.invokevirtual 27, 3) := by decide +kernel
theorem dX2_complain_129 : decode cX2_complain 129 = .ok (.ireturn, 1) := by decide +kernel
theorem dX2_undo_0 : decode cX2_undo 0 = .ok (.aload_n 0, 1) := by decide +kernel
theorem dX2_undo_1 : decode cX2_undo 1 = .ok (.getfield 19, 3) := by decide +kernel
theorem dX2_undo_4 : decode cX2_undo 4 = .ok (.ifCond .ne 6, 3) := by decide +kernel
theorem dX2_undo_7 : decode cX2_undo 7 = .ok (.ldc 70, 2) := by decide +kernel
theorem dX2_undo_9 : decode cX2_undo 9 = .ok (.ireturn, 1) := by decide +kernel
theorem dX2_undo_10 : decode cX2_undo 10 = .ok (.aload_n 0, 1) := by decide +kernel
theorem dX2_undo_11 : decode cX2_undo 11 = .ok (.dup, 1) := by decide +kernel
theorem dX2_undo_12 : decode cX2_undo 12 = .ok (.getfield 19, 3) := by decide +kernel
theorem dX2_undo_15 : decode cX2_undo 15 = .ok (.iconst 1, 1) := by decide +kernel
theorem dX2_undo_16 : decode cX2_undo 16 = .ok (.isub, 1) := by decide +kernel
theorem dX2_undo_17 : decode cX2_undo 17 = .ok (.putfield 19, 3) := by decide +kernel
theorem dX2_undo_20 : decode cX2_undo 20 = .ok (.iconst 0, 1) := by decide +kernel
theorem dX2_undo_21 : decode cX2_undo 21 = .ok (.istore_n 1, 1) := by decide +kernel
theorem dX2_undo_22 : decode cX2_undo 22 = .ok (.iload_n 1, 1) := by decide +kernel
theorem dX2_undo_23 : decode cX2_undo 23 = .ok (.sipush 182, 3) := by decide +kernel
theorem dX2_undo_26 : decode cX2_undo 26 = .ok (.if_icmp .ge 30, 3) := by decide +kernel
theorem dX2_undo_29 : decode cX2_undo 29 = .ok (.aload_n 0, 1) := by decide +kernel
theorem dX2_undo_30 : decode cX2_undo 30 = .ok (.getfield 7, 3) := by decide +kernel
theorem dX2_undo_33 : decode cX2_undo 33 = .ok (.iload_n 1, 1) := by decide +kernel
theorem dX2_undo_34 : decode cX2_undo 34 = .ok (.aload_n 0, 1) := by decide +kernel
theorem dX2_undo_35 : decode cX2_undo 35 = .ok (.getfield 13, 3) := by decide +kernel
theorem dX2_undo_38 : decode cX2_undo 38 = .ok (.sipush 182, 3) := by decide +kernel
theorem dX2_undo_41 : decode cX2_undo 41 = .ok (.aload_n 0, 1) := by decide +kernel
theorem dX2_undo_42 : decode cX2_undo 42 = .ok (.getfield 19, 3) := by decide +kernel
theorem dX2_undo_45 : decode cX2_undo 45 = .ok (.imul, 1) := by decide +kernel
theorem dX2_undo_46 : decode cX2_undo 46 = .ok (.iload_n 1, 1) := by decide +kernel
theorem dX2_undo_47 : decode cX2_undo 47 = .ok (.iadd, 1) := by decide +kernel
theorem dX2_undo_48 : decode cX2_undo 48 = .ok (.iaload, 1) := by decide +kernel
theorem dX2_undo_49 : decode cX2_undo 49 = .ok (.iastore, 1) := by decide +kernel
theorem dX2_undo_50 : decode cX2_undo 50 = .ok (.iinc 1 1, 3) := by decide +kernel
theorem dX2_undo_53 : decode cX2_undo 53 = .ok (.goto (-31), 3) := by decide +kernel
theorem dX2_undo_56 : decode cX2_undo 56 = .ok (.aload_n 0, 1) := by decide +kernel
theorem dX2_undo_57 : decode cX2_undo 57 = .ok (.getfield 19, 3) := by decide +kernel
theorem dX2_undo_60 : decode cX2_undo 60 = .ok (.ireturn, 1) := by decide +kernel
set_option maxRecDepth 20000 in
theorem ggX2_many_X2_isAboard : GoodIn wsX2_many wsX2_isAboard := goodIn_r _ [6, 7, 8, 9, 10, 5, 11, 1, 12, 13, 14, 15, 16] (by decide +kernel) (by decide +kernel)
set_option maxRecDepth 20000 in
theorem gX2_many_X2_isAboard : GoodIn wsX2_many (wsV RX2 40 RX2 yX2_isAboard wsX2_isAboard) := goodIn_app (goodIn_of _ (by decide +kernel)) ggX2_many_X2_isAboard
set_option maxRecDepth 20000 in
theorem ggX2_many_X2_ofWalker : GoodIn wsX2_many wsX2_ofWalker := goodIn_r _ [11, 1, 12, 13, 14, 15, 16] (by decide +kernel) (by decide +kernel)
set_option maxRecDepth 20000 in
theorem gX2_many_X2_ofWalker : GoodIn wsX2_many (wsV RX2 27 RX2 yX2_ofWalker wsX2_ofWalker) := goodIn_app (goodIn_of _ (by decide +kernel)) ggX2_many_X2_ofWalker
theorem dX2_many_0 : decode cX2_many 0 = .ok (.iconst 0, 1) := by decide +kernel
theorem dX2_many_1 : decode cX2_many 1 = .ok (.istore_n 2, 1) := by decide +kernel
theorem dX2_many_2 : decode cX2_many 2 = .ok (.iconst 0, 1) := by decide +kernel
theorem dX2_many_3 : decode cX2_many 3 = .ok (.istore_n 3, 1) := by decide +kernel
theorem dX2_many_4 : decode cX2_many 4 = .ok (.iload_n 3, 1) := by decide +kernel
theorem dX2_many_5 : decode cX2_many 5 = .ok (.aload_n 0, 1) := by decide +kernel
theorem dX2_many_6 : decode cX2_many 6 = .ok (.getfield 7, 3) := by decide +kernel
theorem dX2_many_9 : decode cX2_many 9 = .ok (.iconst 1, 1) := by decide +kernel
theorem dX2_many_10 : decode cX2_many 10 = .ok (.iaload, 1) := by decide +kernel
theorem dX2_many_11 : decode cX2_many 11 = .ok (.if_icmp .ge 44, 3) := by decide +kernel
theorem dX2_many_14 : decode cX2_many 14 = .ok (.iload_n 2, 1) := by decide +kernel
theorem dX2_many_15 : decode cX2_many 15 = .ok (.aload_n 0, 1) := by decide +kernel
theorem dX2_many_16 : decode cX2_many 16 = .ok (.iload_n 3, 1) := by decide +kernel
theorem dX2_many_17 : decode cX2_many 17 = .ok (.invokevirtual 40, 3) := by decide +kernel
theorem dX2_many_20 : decode cX2_many 20 = .ok (.ifCond .eq 26, 3) := by decide +kernel
theorem dX2_many_23 : decode cX2_many 23 = .ok (.iload_n 1, 1) := by decide +kernel
theorem dX2_many_24 : decode cX2_many 24 = .ok (.ifCond .eq 18, 3) := by decide +kernel
theorem dX2_many_27 : decode cX2_many 27 = .ok (.aload_n 0, 1) := by decide +kernel
theorem dX2_many_28 : decode cX2_many 28 = .ok (.iload_n 3, 1) := by decide +kernel
theorem dX2_many_29 : decode cX2_many 29 = .ok (.iconst 1, 1) := by decide +kernel
theorem dX2_many_30 : decode cX2_many 30 = .ok (.invokevirtual 27, 3) := by decide +kernel
theorem dX2_many_33 : decode cX2_many 33 = .ok (.aload_n 0, 1) := by decide +kernel
theorem dX2_many_34 : decode cX2_many 34 = .ok (.iload_n 3, 1) := by decide +kernel
theorem dX2_many_35 : decode cX2_many 35 = .ok (.iconst 3, 1) := by decide +kernel
theorem dX2_many_36 : decode cX2_many 36 = .ok (.invokevirtual 27, 3) := by decide +kernel
theorem dX2_many_39 : decode cX2_many 39 = .ok (.if_icmp .eq 7, 3) := by decide +kernel
theorem dX2_many_42 : decode cX2_many 42 = .ok (.iconst 1, 1) := by decide +kernel
theorem dX2_many_43 : decode cX2_many 43 = .ok (.goto 4, 3) := by decide +kernel
theorem dX2_many_46 : decode cX2_many 46 = .ok (.iconst 0, 1) := by decide +kernel
theorem dX2_many_47 : decode cX2_many 47 = .ok (.iadd, 1) := by decide +kernel
theorem dX2_many_48 : decode cX2_many 48 = .ok (.istore_n 2, 1) := by decide +kernel
theorem dX2_many_49 : decode cX2_many 49 = .ok (.iinc 3 1, 3) := by decide +kernel
theorem dX2_many_52 : decode cX2_many 52 = .ok (.goto (-48), 3) := by decide +kernel
theorem dX2_many_55 : decode cX2_many 55 = .ok (.iload_n 2, 1) := by decide +kernel
theorem dX2_many_56 : decode cX2_many 56 = .ok (.ireturn, 1) := by decide +kernel
set_option maxRecDepth 20000 in
theorem ggX2_count_X2_many : GoodIn wsX2_count wsX2_many := goodIn_r _ [8, 1, 9, 10, 11, 7, 12, 13, 14, 15, 16, 17, 55, 56, 57, 58, 59] (by decide +kernel) (by decide +kernel)
set_option maxRecDepth 20000 in
theorem gX2_count_X2_many : GoodIn wsX2_count (wsV RX2 114 RX2 yX2_many wsX2_many) := goodIn_app (goodIn_of _ (by decide +kernel)) ggX2_count_X2_many
set_option maxRecDepth 20000 in
theorem ggX2_count_X2_error : GoodIn wsX2_count wsX2_error := goodIn_r _ [21, 22, 23, 24, 7, 25, 26, 27, 28, 29, 1, 9, 10, 11, 12, 13, 14, 15, 16, 17, 30, 31, 32, 33, 34, 35, 36, 37, 38, 39, 40, 41, 42, 43, 44, 45, 46, 47, 48, 49, 50, 55, 56, 57, 58, 59] (by decide +kernel) (by decide +kernel)
set_option maxRecDepth 20000 in
theorem gX2_count_X2_error : GoodIn wsX2_count (wsV RX2 94 RX2 yX2_error wsX2_error) := goodIn_app (goodIn_of _ (by decide +kernel)) ggX2_count_X2_error
set_option maxRecDepth 20000 in
theorem ggX2_count_X2_sumOf : GoodIn wsX2_count wsX2_sumOf := goodIn_r _ [54, 22, 23, 24, 7, 25, 26, 27, 28, 29, 1, 9, 10, 11, 12, 13, 14, 15, 16, 17, 30, 31, 32, 33, 34, 35, 36, 37, 38, 39, 40, 41, 42, 55, 56, 57, 58, 59] (by decide +kernel) (by decide +kernel)
set_option maxRecDepth 20000 in
theorem gX2_count_X2_sumOf : GoodIn wsX2_count (wsV RX2 110 RX2 yX2_sumOf wsX2_sumOf) := goodIn_app (goodIn_of _ (by decide +kernel)) ggX2_count_X2_sumOf
theorem dX2_count_0 : decode cX2_count 0 = .ok (.iload_n 1, 1) := by decide +kernel
theorem dX2_count_1 : decode cX2_count 1 = .ok (.tableswitch 116 0 11 #[63, 63, 70, 76, 81, 86, 92, 98, 104, 104, 104, 104], 63) := by decide +kernel
theorem dX2_count_64 : decode cX2_count 64 = .ok (.aload_n 0, 1) := by decide +kernel
theorem dX2_count_65 : decode cX2_count 65 = .ok (.getfield 7, 3) := by decide +kernel
theorem dX2_count_68 : decode cX2_count 68 = .ok (.iload_n 1, 1) := by decide +kernel
theorem dX2_count_69 : decode cX2_count 69 = .ok (.iaload, 1) := by decide +kernel
theorem dX2_count_70 : decode cX2_count 70 = .ok (.ireturn, 1) := by decide +kernel
theorem dX2_count_71 : decode cX2_count 71 = .ok (.aload_n 0, 1) := by decide +kernel
theorem dX2_count_72 : decode cX2_count 72 = .ok (.iconst 0, 1) := by decide +kernel
theorem dX2_count_73 : decode cX2_count 73 = .ok (.invokevirtual 114, 3) := by decide +kernel
theorem dX2_count_76 : decode cX2_count 76 = .ok (.ireturn, 1) := by decide +kernel
theorem dX2_count_77 : decode cX2_count 77 = .ok (.aload_n 0, 1) := by decide +kernel
theorem dX2_count_78 : decode cX2_count 78 = .ok (.getfield 19, 3) := by decide +kernel
theorem dX2_count_81 : decode cX2_count 81 = .ok (.ireturn, 1) := by decide +kernel
theorem dX2_count_82 : decode cX2_count 82 = .ok (.aload_n 0, 1) := by decide +kernel
theorem dX2_count_83 : decode cX2_count 83 = .ok (.invokevirtual 94, 3) := by decide +kernel
theorem dX2_count_86 : decode cX2_count 86 = .ok (.ireturn, 1) := by decide +kernel
theorem dX2_count_87 : decode cX2_count 87 = .ok (.aload_n 0, 1) := by decide +kernel
theorem dX2_count_88 : decode cX2_count 88 = .ok (.iconst 1, 1) := by decide +kernel
theorem dX2_count_89 : decode cX2_count 89 = .ok (.invokevirtual 110, 3) := by decide +kernel
theorem dX2_count_92 : decode cX2_count 92 = .ok (.ireturn, 1) := by decide +kernel
theorem dX2_count_93 : decode cX2_count 93 = .ok (.aload_n 0, 1) := by decide +kernel
theorem dX2_count_94 : decode cX2_count 94 = .ok (.iconst 0, 1) := by decide +kernel
theorem dX2_count_95 : decode cX2_count 95 = .ok (.invokevirtual 110, 3) := by decide +kernel
theorem dX2_count_98 : decode cX2_count 98 = .ok (.ireturn, 1) := by decide +kernel
theorem dX2_count_99 : decode cX2_count 99 = .ok (.aload_n 0, 1) := by decide +kernel
theorem dX2_count_100 : decode cX2_count 100 = .ok (.iconst 1, 1) := by decide +kernel
theorem dX2_count_101 : decode cX2_count 101 = .ok (.invokevirtual 114, 3) := by decide +kernel
theorem dX2_count_104 : decode cX2_count 104 = .ok (.ireturn, 1) := by decide +kernel
theorem dX2_count_105 : decode cX2_count 105 = .ok (.aload_n 0, 1) := by decide +kernel
theorem dX2_count_106 : decode cX2_count 106 = .ok (.getfield 7, 3) := by decide +kernel
theorem dX2_count_109 : decode cX2_count 109 = .ok (.iconst 2, 1) := by decide +kernel
theorem dX2_count_110 : decode cX2_count 110 = .ok (.iload_n 1, 1) := by decide +kernel
theorem dX2_count_111 : decode cX2_count 111 = .ok (.iadd, 1) := by decide +kernel
theorem dX2_count_112 : decode cX2_count 112 = .ok (.bipush 8, 2) := by decide +kernel
theorem dX2_count_114 : decode cX2_count 114 = .ok (.isub, 1) := by decide +kernel
theorem dX2_count_115 : decode cX2_count 115 = .ok (.iaload, 1) := by decide +kernel
theorem dX2_count_116 : decode cX2_count 116 = .ok (.ireturn, 1) := by decide +kernel
theorem dX2_count_117 : decode cX2_count 117 = .ok (.ldc 66, 2) := by decide +kernel
theorem dX2_count_119 : decode cX2_count 119 = .ok (.ireturn, 1) := by decide +kernel
set_option maxRecDepth 20000 in
theorem ggX2_cell_X2_isCell : GoodIn wsX2_cell wsX2_isCell := goodIn_r _ [5, 6, 7, 4, 8] (by decide +kernel) (by decide +kernel)
set_option maxRecDepth 20000 in
theorem gX2_cell_X2_isCell : GoodIn wsX2_cell (va_wsS RX2 63 yX2_isCell wsX2_isCell) := goodIn_app (goodIn_of _ (by decide +kernel)) ggX2_cell_X2_isCell
set_option maxRecDepth 20000 in
theorem ggX2_cell_X2_in : GoodIn wsX2_cell wsX2_in := goodIn_r _ [8] (by decide +kernel) (by decide +kernel)
set_option maxRecDepth 20000 in
theorem gX2_cell_X2_in : GoodIn wsX2_cell (va_wsS RX2 23 yX2_in wsX2_in) := goodIn_app (goodIn_of _ (by decide +kernel)) ggX2_cell_X2_in
set_option maxRecDepth 20000 in
theorem ggX2_cell_X2_reading : GoodIn wsX2_cell wsX2_reading := goodIn_r _ [12, 13, 14, 15, 4, 16, 17, 18, 19, 20, 21, 22, 23, 24, 25, 26, 27, 28, 29, 30, 31, 32, 33, 34, 35, 36, 37, 38, 39, 52, 53, 54, 55, 56] (by decide +kernel) (by decide +kernel)
set_option maxRecDepth 20000 in
theorem gX2_cell_X2_reading : GoodIn wsX2_cell (wsV RX2 57 RX2 yX2_reading wsX2_reading) := goodIn_app (goodIn_of _ (by decide +kernel)) ggX2_cell_X2_reading
set_option maxRecDepth 20000 in
theorem ggX2_cell_X2_expected : GoodIn wsX2_cell wsX2_expected := goodIn_r _ [43, 22, 44, 45, 46, 4, 47, 17, 18, 19, 20, 21, 23, 24, 25, 26, 27, 28, 29, 30, 31, 32, 33, 34, 35, 36, 37, 38, 39, 52, 53, 54, 55, 56] (by decide +kernel) (by decide +kernel)
set_option maxRecDepth 20000 in
theorem gX2_cell_X2_expected : GoodIn wsX2_cell (wsV RX2 60 RX2 yX2_expected wsX2_expected) := goodIn_app (goodIn_of _ (by decide +kernel)) ggX2_cell_X2_expected
set_option maxRecDepth 20000 in
theorem ggX2_cell_X2_on : GoodIn wsX2_cell wsX2_on := goodIn_r _ [51, 22, 17, 18, 19, 20, 4, 21, 23, 24, 25, 26, 52, 53, 54, 55, 56] (by decide +kernel) (by decide +kernel)
set_option maxRecDepth 20000 in
theorem gX2_cell_X2_on : GoodIn wsX2_cell (wsV RX2 77 RX2 yX2_on wsX2_on) := goodIn_app (goodIn_of _ (by decide +kernel)) ggX2_cell_X2_on
set_option maxRecDepth 20000 in
theorem ggX2_cell_X2_of : GoodIn wsX2_cell wsX2_of := goodIn_r _ [39, 17, 52, 53, 54, 55, 56] (by decide +kernel) (by decide +kernel)
set_option maxRecDepth 20000 in
theorem gX2_cell_X2_of : GoodIn wsX2_cell (wsV RX2 51 RX2 yX2_of wsX2_of) := goodIn_app (goodIn_of _ (by decide +kernel)) ggX2_cell_X2_of
theorem dX2_cell_0 : decode cX2_cell 0 = .ok (.iload_n 1, 1) := by decide +kernel
theorem dX2_cell_1 : decode cX2_cell 1 = .ok (.invokestatic 63, 3) := by decide +kernel
theorem dX2_cell_4 : decode cX2_cell 4 = .ok (.ifCond .eq 13, 3) := by decide +kernel
theorem dX2_cell_7 : decode cX2_cell 7 = .ok (.iload_n 2, 1) := by decide +kernel
theorem dX2_cell_8 : decode cX2_cell 8 = .ok (.iconst 0, 1) := by decide +kernel
theorem dX2_cell_9 : decode cX2_cell 9 = .ok (.bipush 7, 2) := by decide +kernel
theorem dX2_cell_11 : decode cX2_cell 11 = .ok (.invokestatic 23, 3) := by decide +kernel
theorem dX2_cell_14 : decode cX2_cell 14 = .ok (.ifCond .ne 6, 3) := by decide +kernel
theorem dX2_cell_17 : decode cX2_cell 17 = .ok (.ldc 66, 2) := by decide +kernel
theorem dX2_cell_19 : decode cX2_cell 19 = .ok (.ireturn, 1) := by decide +kernel
theorem dX2_cell_20 : decode cX2_cell 20 = .ok (.iload_n 2, 1) := by decide +kernel
theorem dX2_cell_21 : decode cX2_cell 21 = .ok (.tableswitch 73 0 7 #[47, 73, 73, 73, 73, 53, 59, 66], 47) := by decide +kernel
theorem dX2_cell_68 : decode cX2_cell 68 = .ok (.aload_n 0, 1) := by decide +kernel
theorem dX2_cell_69 : decode cX2_cell 69 = .ok (.iload_n 1, 1) := by decide +kernel
theorem dX2_cell_70 : decode cX2_cell 70 = .ok (.invokevirtual 57, 3) := by decide +kernel
theorem dX2_cell_73 : decode cX2_cell 73 = .ok (.ireturn, 1) := by decide +kernel
theorem dX2_cell_74 : decode cX2_cell 74 = .ok (.aload_n 0, 1) := by decide +kernel
theorem dX2_cell_75 : decode cX2_cell 75 = .ok (.iload_n 1, 1) := by decide +kernel
theorem dX2_cell_76 : decode cX2_cell 76 = .ok (.invokevirtual 60, 3) := by decide +kernel
theorem dX2_cell_79 : decode cX2_cell 79 = .ok (.ireturn, 1) := by decide +kernel
theorem dX2_cell_80 : decode cX2_cell 80 = .ok (.aload_n 0, 1) := by decide +kernel
theorem dX2_cell_81 : decode cX2_cell 81 = .ok (.iload_n 1, 1) := by decide +kernel
theorem dX2_cell_82 : decode cX2_cell 82 = .ok (.iconst 1, 1) := by decide +kernel
theorem dX2_cell_83 : decode cX2_cell 83 = .ok (.invokevirtual 77, 3) := by decide +kernel
theorem dX2_cell_86 : decode cX2_cell 86 = .ok (.ireturn, 1) := by decide +kernel
theorem dX2_cell_87 : decode cX2_cell 87 = .ok (.aload_n 0, 1) := by decide +kernel
theorem dX2_cell_88 : decode cX2_cell 88 = .ok (.iload_n 1, 1) := by decide +kernel
theorem dX2_cell_89 : decode cX2_cell 89 = .ok (.iconst 3, 1) := by decide +kernel
theorem dX2_cell_90 : decode cX2_cell 90 = .ok (.invokevirtual 77, 3) := by decide +kernel
theorem dX2_cell_93 : decode cX2_cell 93 = .ok (.ireturn, 1) := by decide +kernel
theorem dX2_cell_94 : decode cX2_cell 94 = .ok (.aload_n 0, 1) := by decide +kernel
theorem dX2_cell_95 : decode cX2_cell 95 = .ok (.iload_n 1, 1) := by decide +kernel
theorem dX2_cell_96 : decode cX2_cell 96 = .ok (.iload_n 2, 1) := by decide +kernel
theorem dX2_cell_97 : decode cX2_cell 97 = .ok (.iconst 1, 1) := by decide +kernel
theorem dX2_cell_98 : decode cX2_cell 98 = .ok (.isub, 1) := by decide +kernel
theorem dX2_cell_99 : decode cX2_cell 99 = .ok (.invokevirtual 51, 3) := by decide +kernel
theorem dX2_cell_102 : decode cX2_cell 102 = .ok (.ireturn, 1) := by decide +kernel
set_option maxRecDepth 20000 in
theorem ggX2_walker_X2_isWalker : GoodIn wsX2_walker wsX2_isWalker := goodIn_r _ [6, 7, 15, 16, 17, 18, 19] (by decide +kernel) (by decide +kernel)
set_option maxRecDepth 20000 in
theorem gX2_walker_X2_isWalker : GoodIn wsX2_walker (wsV RX2 81 RX2 yX2_isWalker wsX2_isWalker) := goodIn_app (goodIn_of _ (by decide +kernel)) ggX2_walker_X2_isWalker
set_option maxRecDepth 20000 in
theorem ggX2_walker_X2_in : GoodIn wsX2_walker wsX2_in := goodIn_r _ [10] (by decide +kernel) (by decide +kernel)
set_option maxRecDepth 20000 in
theorem gX2_walker_X2_in : GoodIn wsX2_walker (va_wsS RX2 23 yX2_in wsX2_in) := goodIn_app (goodIn_of _ (by decide +kernel)) ggX2_walker_X2_in
set_option maxRecDepth 20000 in
theorem ggX2_walker_X2_ofWalker : GoodIn wsX2_walker wsX2_ofWalker := goodIn_r _ [14, 7, 15, 16, 17, 18, 19] (by decide +kernel) (by decide +kernel)
set_option maxRecDepth 20000 in
theorem gX2_walker_X2_ofWalker : GoodIn wsX2_walker (wsV RX2 27 RX2 yX2_ofWalker wsX2_ofWalker) := goodIn_app (goodIn_of _ (by decide +kernel)) ggX2_walker_X2_ofWalker
theorem dX2_walker_0 : decode cX2_walker 0 = .ok (.aload_n 0, 1) := by decide +kernel
theorem dX2_walker_1 : decode cX2_walker 1 = .ok (.iload_n 1, 1) := by decide +kernel
theorem dX2_walker_2 : decode cX2_walker 2 = .ok (.invokevirtual 81, 3) := by decide +kernel
theorem dX2_walker_5 : decode cX2_walker 5 = .ok (.ifCond .eq 22, 3) := by decide +kernel
theorem dX2_walker_8 : decode cX2_walker 8 = .ok (.iload_n 2, 1) := by decide +kernel
theorem dX2_walker_9 : decode cX2_walker 9 = .ok (.iconst 0, 1) := by decide +kernel
theorem dX2_walker_10 : decode cX2_walker 10 = .ok (.bipush 7, 2) := by decide +kernel
theorem dX2_walker_12 : decode cX2_walker 12 = .ok (.invokestatic 23, 3) := by decide +kernel
theorem dX2_walker_15 : decode cX2_walker 15 = .ok (.ifCond .eq 12, 3) := by decide +kernel
theorem dX2_walker_18 : decode cX2_walker 18 = .ok (.aload_n 0, 1) := by decide +kernel
theorem dX2_walker_19 : decode cX2_walker 19 = .ok (.iload_n 1, 1) := by decide +kernel
theorem dX2_walker_20 : decode cX2_walker 20 = .ok (.iload_n 2, 1) := by decide +kernel
theorem dX2_walker_21 : decode cX2_walker 21 = .ok (.invokevirtual 27, 3) := by decide +kernel
theorem dX2_walker_24 : decode cX2_walker 24 = .ok (.goto 5, 3) := by decide +kernel
theorem dX2_walker_27 : decode cX2_walker 27 = .ok (.ldc 66, 2) := by decide +kernel
theorem dX2_walker_29 : decode cX2_walker 29 = .ok (.ireturn, 1) := by decide +kernel
set_option maxRecDepth 20000 in
theorem ggX2_estimate_X2_isWalker : GoodIn wsX2_estimate wsX2_isWalker := goodIn_r _ [7, 8, 50, 51, 52, 53, 54] (by decide +kernel) (by decide +kernel)
set_option maxRecDepth 20000 in
theorem gX2_estimate_X2_isWalker : GoodIn wsX2_estimate (wsV RX2 81 RX2 yX2_isWalker wsX2_isWalker) := goodIn_app (goodIn_of _ (by decide +kernel)) ggX2_estimate_X2_isWalker
set_option maxRecDepth 20000 in
theorem ggX2_estimate_X2_isAboard : GoodIn wsX2_estimate wsX2_isAboard := goodIn_r _ [12, 13, 14, 15, 16, 6, 17, 8, 50, 51, 52, 53, 54] (by decide +kernel) (by decide +kernel)
set_option maxRecDepth 20000 in
theorem gX2_estimate_X2_isAboard : GoodIn wsX2_estimate (wsV RX2 40 RX2 yX2_isAboard wsX2_isAboard) := goodIn_app (goodIn_of _ (by decide +kernel)) ggX2_estimate_X2_isAboard
set_option maxRecDepth 20000 in
theorem ggX2_estimate_X2_estimateOf : GoodIn wsX2_estimate wsX2_estimateOf := goodIn_r _ [21, 14, 15, 16, 6, 17, 8, 22, 23, 24, 25, 26, 27, 28, 29, 30, 31, 32, 33, 34, 35, 9, 10, 11, 12, 13, 36, 37, 38, 39, 40, 41, 42, 43, 44, 45, 46, 47, 48, 49, 50, 51, 52, 53, 54] (by decide +kernel) (by decide +kernel)
set_option maxRecDepth 20000 in
theorem gX2_estimate_X2_estimateOf : GoodIn wsX2_estimate (wsV RX2 104 RX2 yX2_estimateOf wsX2_estimateOf) := goodIn_app (goodIn_of _ (by decide +kernel)) ggX2_estimate_X2_estimateOf
theorem dX2_estimate_0 : decode cX2_estimate 0 = .ok (.aload_n 0, 1) := by decide +kernel
theorem dX2_estimate_1 : decode cX2_estimate 1 = .ok (.iload_n 1, 1) := by decide +kernel
theorem dX2_estimate_2 : decode cX2_estimate 2 = .ok (.invokevirtual 81, 3) := by decide +kernel
theorem dX2_estimate_5 : decode cX2_estimate 5 = .ok (.ifCond .ne 8, 3) := by decide +kernel
theorem dX2_estimate_8 : decode cX2_estimate 8 = .ok (.ldc 66, 2) := by decide +kernel
theorem dX2_estimate_10 : decode cX2_estimate 10 = .ok (.goto 21, 3) := by decide +kernel
theorem dX2_estimate_13 : decode cX2_estimate 13 = .ok (.aload_n 0, 1) := by decide +kernel
theorem dX2_estimate_14 : decode cX2_estimate 14 = .ok (.iload_n 1, 1) := by decide +kernel
theorem dX2_estimate_15 : decode cX2_estimate 15 = .ok (.invokevirtual 40, 3) := by decide +kernel
theorem dX2_estimate_18 : decode cX2_estimate 18 = .ok (.ifCond .eq 11, 3) := by decide +kernel
theorem dX2_estimate_21 : decode cX2_estimate 21 = .ok (.aload_n 0, 1) := by decide +kernel
theorem dX2_estimate_22 : decode cX2_estimate 22 = .ok (.iload_n 1, 1) := by decide +kernel
theorem dX2_estimate_23 : decode cX2_estimate 23 = .ok (.invokevirtual 104, 3) := by decide +kernel
theorem dX2_estimate_26 : decode cX2_estimate 26 = .ok (.goto 5, 3) := by decide +kernel
theorem dX2_estimate_29 : decode cX2_estimate 29 = .ok (.ldc 70, 2) := by decide +kernel
theorem dX2_estimate_31 : decode cX2_estimate 31 = .ok (.ireturn, 1) := by decide +kernel
set_option maxRecDepth 20000 in
theorem ggX2_certainty_X2_isWalker : GoodIn wsX2_certainty wsX2_isWalker := goodIn_r _ [7, 8, 36, 37, 38, 39, 40] (by decide +kernel) (by decide +kernel)
set_option maxRecDepth 20000 in
theorem gX2_certainty_X2_isWalker : GoodIn wsX2_certainty (wsV RX2 81 RX2 yX2_isWalker wsX2_isWalker) := goodIn_app (goodIn_of _ (by decide +kernel)) ggX2_certainty_X2_isWalker
set_option maxRecDepth 20000 in
theorem ggX2_certainty_X2_isAboard : GoodIn wsX2_certainty wsX2_isAboard := goodIn_r _ [12, 13, 14, 15, 16, 6, 17, 8, 36, 37, 38, 39, 40] (by decide +kernel) (by decide +kernel)
set_option maxRecDepth 20000 in
theorem gX2_certainty_X2_isAboard : GoodIn wsX2_certainty (wsV RX2 40 RX2 yX2_isAboard wsX2_isAboard) := goodIn_app (goodIn_of _ (by decide +kernel)) ggX2_certainty_X2_isAboard
set_option maxRecDepth 20000 in
theorem ggX2_certainty_X2_certaintyIn : GoodIn wsX2_certainty wsX2_certaintyIn := goodIn_r _ [21, 8, 14, 15, 16, 6, 17, 22, 23, 24, 25, 26, 27, 28, 29, 30, 31, 32, 33, 34, 35, 36, 37, 38, 39, 40] (by decide +kernel) (by decide +kernel)
set_option maxRecDepth 20000 in
theorem gX2_certainty_X2_certaintyIn : GoodIn wsX2_certainty (wsV RX2 107 RX2 yX2_certaintyIn wsX2_certaintyIn) := goodIn_app (goodIn_of _ (by decide +kernel)) ggX2_certainty_X2_certaintyIn
theorem dX2_certainty_0 : decode cX2_certainty 0 = .ok (.aload_n 0, 1) := by decide +kernel
theorem dX2_certainty_1 : decode cX2_certainty 1 = .ok (.iload_n 1, 1) := by decide +kernel
theorem dX2_certainty_2 : decode cX2_certainty 2 = .ok (.invokevirtual 81, 3) := by decide +kernel
theorem dX2_certainty_5 : decode cX2_certainty 5 = .ok (.ifCond .ne 8, 3) := by decide +kernel
theorem dX2_certainty_8 : decode cX2_certainty 8 = .ok (.ldc 66, 2) := by decide +kernel
theorem dX2_certainty_10 : decode cX2_certainty 10 = .ok (.goto 22, 3) := by decide +kernel
theorem dX2_certainty_13 : decode cX2_certainty 13 = .ok (.aload_n 0, 1) := by decide +kernel
theorem dX2_certainty_14 : decode cX2_certainty 14 = .ok (.iload_n 1, 1) := by decide +kernel
theorem dX2_certainty_15 : decode cX2_certainty 15 = .ok (.invokevirtual 40, 3) := by decide +kernel
theorem dX2_certainty_18 : decode cX2_certainty 18 = .ok (.ifCond .eq 12, 3) := by decide +kernel
theorem dX2_certainty_21 : decode cX2_certainty 21 = .ok (.aload_n 0, 1) := by decide +kernel
theorem dX2_certainty_22 : decode cX2_certainty 22 = .ok (.iload_n 1, 1) := by decide +kernel
theorem dX2_certainty_23 : decode cX2_certainty 23 = .ok (.iconst 0, 1) := by decide +kernel
theorem dX2_certainty_24 : decode cX2_certainty 24 = .ok (.invokevirtual 107, 3) := by decide +kernel
theorem dX2_certainty_27 : decode cX2_certainty 27 = .ok (.goto 5, 3) := by decide +kernel
theorem dX2_certainty_30 : decode cX2_certainty 30 = .ok (.ldc 70, 2) := by decide +kernel
theorem dX2_certainty_32 : decode cX2_certainty 32 = .ok (.ireturn, 1) := by decide +kernel
set_option maxRecDepth 20000 in
theorem ggX2_bestTwo_X2_error : GoodIn wsX2_bestTwo wsX2_error := goodIn_r _ [8, 9, 10, 11, 7, 12, 13, 14, 15, 16, 3, 17, 18, 19, 20, 1, 21, 22, 23, 24, 25, 26, 27, 28, 29, 30, 31, 32, 33, 34, 35, 36, 37, 38, 39, 40, 41, 42, 43, 44, 45, 54, 55, 56, 57, 58] (by decide +kernel) (by decide +kernel)
set_option maxRecDepth 20000 in
theorem gX2_bestTwo_X2_error : GoodIn wsX2_bestTwo (wsV RX2 94 RX2 yX2_error wsX2_error) := goodIn_app (goodIn_of _ (by decide +kernel)) ggX2_bestTwo_X2_error
set_option maxRecDepth 20000 in
theorem ggX2_bestTwo_X2_isAboard : GoodIn wsX2_bestTwo wsX2_isAboard := goodIn_r _ [20, 1, 21, 22, 23, 7, 24, 3, 54, 55, 56, 57, 58] (by decide +kernel) (by decide +kernel)
set_option maxRecDepth 20000 in
theorem gX2_bestTwo_X2_isAboard : GoodIn wsX2_bestTwo (wsV RX2 40 RX2 yX2_isAboard wsX2_isAboard) := goodIn_app (goodIn_of _ (by decide +kernel)) ggX2_bestTwo_X2_isAboard
set_option maxRecDepth 20000 in
theorem ggX2_bestTwo_X2_exchanges : GoodIn wsX2_bestTwo wsX2_exchanges := goodIn_r _ [49, 21, 22, 23, 7, 24, 3, 50, 51, 52, 53, 54, 55, 56, 57, 58] (by decide +kernel) (by decide +kernel)
set_option maxRecDepth 20000 in
theorem gX2_bestTwo_X2_exchanges : GoodIn wsX2_bestTwo (wsV RX2 91 RX2 yX2_exchanges wsX2_exchanges) := goodIn_app (goodIn_of _ (by decide +kernel)) ggX2_bestTwo_X2_exchanges
theorem dX2_bestTwo_0 : decode cX2_bestTwo 0 = .ok (.ldc 31, 2) := by decide +kernel
theorem dX2_bestTwo_2 : decode cX2_bestTwo 2 = .ok (.istore_n 1, 1) := by decide +kernel
theorem dX2_bestTwo_3 : decode cX2_bestTwo 3 = .ok (.aload_n 0, 1) := by decide +kernel
theorem dX2_bestTwo_4 : decode cX2_bestTwo 4 = .ok (.aload_n 0, 1) := by decide +kernel
theorem dX2_bestTwo_5 : decode cX2_bestTwo 5 = .ok (.invokevirtual 94, 3) := by decide +kernel
theorem dX2_bestTwo_8 : decode cX2_bestTwo 8 = .ok (.putfield 117, 3) := by decide +kernel
theorem dX2_bestTwo_11 : decode cX2_bestTwo 11 = .ok (.iconst 0, 1) := by decide +kernel
theorem dX2_bestTwo_12 : decode cX2_bestTwo 12 = .ok (.istore_n 2, 1) := by decide +kernel
theorem dX2_bestTwo_13 : decode cX2_bestTwo 13 = .ok (.iload_n 2, 1) := by decide +kernel
theorem dX2_bestTwo_14 : decode cX2_bestTwo 14 = .ok (.aload_n 0, 1) := by decide +kernel
theorem dX2_bestTwo_15 : decode cX2_bestTwo 15 = .ok (.getfield 7, 3) := by decide +kernel
theorem dX2_bestTwo_18 : decode cX2_bestTwo 18 = .ok (.iconst 1, 1) := by decide +kernel
theorem dX2_bestTwo_19 : decode cX2_bestTwo 19 = .ok (.iaload, 1) := by decide +kernel
theorem dX2_bestTwo_20 : decode cX2_bestTwo 20 = .ok (.if_icmp .ge 107, 3) := by decide +kernel
theorem dX2_bestTwo_23 : decode cX2_bestTwo 23 = .ok (.iload_n 2, 1) := by decide +kernel
theorem dX2_bestTwo_24 : decode cX2_bestTwo 24 = .ok (.iconst 1, 1) := by decide +kernel
theorem dX2_bestTwo_25 : decode cX2_bestTwo 25 = .ok (.iadd, 1) := by decide +kernel
theorem dX2_bestTwo_26 : decode cX2_bestTwo 26 = .ok (.istore_n 3, 1) := by decide +kernel
theorem dX2_bestTwo_27 : decode cX2_bestTwo 27 = .ok (.iload_n 3, 1) := by decide +kernel
theorem dX2_bestTwo_28 : decode cX2_bestTwo 28 = .ok (.aload_n 0, 1) := by decide +kernel
theorem dX2_bestTwo_29 : decode cX2_bestTwo 29 = .ok (.getfield 7, 3) := by decide +kernel
theorem dX2_bestTwo_32 : decode cX2_bestTwo 32 = .ok (.iconst 1, 1) := by decide +kernel
theorem dX2_bestTwo_33 : decode cX2_bestTwo 33 = .ok (.iaload, 1) := by decide +kernel
theorem dX2_bestTwo_34 : decode cX2_bestTwo 34 = .ok (.if_icmp .ge 87, 3) := by decide +kernel
theorem dX2_bestTwo_37 : decode cX2_bestTwo 37 = .ok (.aload_n 0, 1) := by decide +kernel
theorem dX2_bestTwo_38 : decode cX2_bestTwo 38 = .ok (.iload_n 2, 1) := by decide +kernel
theorem dX2_bestTwo_39 : decode cX2_bestTwo 39 = .ok (.invokevirtual 40, 3) := by decide +kernel
theorem dX2_bestTwo_42 : decode cX2_bestTwo 42 = .ok (.ifCond .eq 73, 3) := by decide +kernel
theorem dX2_bestTwo_45 : decode cX2_bestTwo 45 = .ok (.aload_n 0, 1) := by decide +kernel
theorem dX2_bestTwo_46 : decode cX2_bestTwo 46 = .ok (.iload_n 3, 1) := by decide +kernel
theorem dX2_bestTwo_47 : decode cX2_bestTwo 47 = .ok (.invokevirtual 40, 3) := by decide +kernel
theorem dX2_bestTwo_50 : decode cX2_bestTwo 50 = .ok (.ifCond .eq 65, 3) := by decide +kernel
theorem dX2_bestTwo_53 : decode cX2_bestTwo 53 = .ok (.aload_n 0, 1) := by decide +kernel
theorem dX2_bestTwo_54 : decode cX2_bestTwo 54 = .ok (.iload_n 2, 1) := by decide +kernel
theorem dX2_bestTwo_55 : decode cX2_bestTwo 55 = .ok (.iload_n 3, 1) := by decide +kernel
theorem dX2_bestTwo_56 : decode cX2_bestTwo 56 = .ok (.iconst 3, 1) := by decide +kernel
theorem dX2_bestTwo_57 : decode cX2_bestTwo 57 = .ok (.invokevirtual 91, 3) := by decide +kernel
theorem dX2_bestTwo_60 : decode cX2_bestTwo 60 = .ok (.aload_n 0, 1) := by decide +kernel
theorem dX2_bestTwo_61 : decode cX2_bestTwo 61 = .ok (.invokevirtual 94, 3) := by decide +kernel
theorem dX2_bestTwo_64 : decode cX2_bestTwo 64 = .ok (.istore 4, 2) := by decide +kernel
theorem dX2_bestTwo_66 : decode cX2_bestTwo 66 = .ok (.aload_n 0, 1) := by decide +kernel
theorem dX2_bestTwo_67 : decode cX2_bestTwo 67 = .ok (.iload_n 2, 1) := by decide +kernel
theorem dX2_bestTwo_68 : decode cX2_bestTwo 68 = .ok (.iload_n 3, 1) := by decide +kernel
theorem dX2_bestTwo_69 : decode cX2_bestTwo 69 = .ok (.iconst 3, 1) := by decide +kernel
theorem dX2_bestTwo_70 : decode cX2_bestTwo 70 = .ok (.invokevirtual 91, 3) := by decide +kernel
theorem dX2_bestTwo_73 : decode cX2_bestTwo 73 = .ok (.iload 4, 2) := by decide +kernel
theorem dX2_bestTwo_75 : decode cX2_bestTwo 75 = .ok (.aload_n 0, 1) := by decide +kernel
theorem dX2_bestTwo_76 : decode cX2_bestTwo 76 = .ok (.getfield 117, 3) := by decide +kernel
theorem dX2_bestTwo_79 : decode cX2_bestTwo 79 = .ok (.if_icmp .ge 12, 3) := by decide +kernel
theorem dX2_bestTwo_82 : decode cX2_bestTwo 82 = .ok (.bipush 10, 2) := by decide +kernel
theorem dX2_bestTwo_84 : decode cX2_bestTwo 84 = .ok (.iload_n 2, 1) := by decide +kernel
theorem dX2_bestTwo_85 : decode cX2_bestTwo 85 = .ok (.imul, 1) := by decide +kernel
theorem dX2_bestTwo_86 : decode cX2_bestTwo 86 = .ok (.iload_n 3, 1) := by decide +kernel
theorem dX2_bestTwo_87 : decode cX2_bestTwo 87 = .ok (.iadd, 1) := by decide +kernel
theorem dX2_bestTwo_88 : decode cX2_bestTwo 88 = .ok (.goto 4, 3) := by decide +kernel
theorem dX2_bestTwo_91 : decode cX2_bestTwo 91 = .ok (.iload_n 1, 1) := by decide +kernel
theorem dX2_bestTwo_92 : decode cX2_bestTwo 92 = .ok (.istore_n 1, 1) := by decide +kernel
theorem dX2_bestTwo_93 : decode cX2_bestTwo 93 = .ok (.aload_n 0, 1) := by decide +kernel
theorem dX2_bestTwo_94 : decode cX2_bestTwo 94 = .ok (.iload 4, 2) := by decide +kernel
theorem dX2_bestTwo_96 : decode cX2_bestTwo 96 = .ok (.aload_n 0, 1) := by decide +kernel
theorem dX2_bestTwo_97 : decode cX2_bestTwo 97 = .ok (.getfield 117, 3) := by decide +kernel
theorem dX2_bestTwo_100 : decode cX2_bestTwo 100 = .ok (.if_icmp .ge 8, 3) := by decide +kernel
theorem dX2_bestTwo_103 : decode cX2_bestTwo 103 = .ok (.iload 4, 2) := by decide +kernel
theorem dX2_bestTwo_105 : decode cX2_bestTwo 105 = .ok (.goto 7, 3) := by decide +kernel
theorem dX2_bestTwo_108 : decode cX2_bestTwo 108 = .ok (.aload_n 0, 1) := by decide +kernel
theorem dX2_bestTwo_109 : decode cX2_bestTwo 109 = .ok (.getfield 117, 3) := by decide +kernel
theorem dX2_bestTwo_112 : decode cX2_bestTwo 112 = .ok (.putfield 117, 3) := by decide +kernel
theorem dX2_bestTwo_115 : decode cX2_bestTwo 115 = .ok (.iinc 3 1, 3) := by decide +kernel
theorem dX2_bestTwo_118 : decode cX2_bestTwo 118 = .ok (.goto (-91), 3) := by decide +kernel
theorem dX2_bestTwo_121 : decode cX2_bestTwo 121 = .ok (.iinc 2 1, 3) := by decide +kernel
theorem dX2_bestTwo_124 : decode cX2_bestTwo 124 = .ok (.goto (-111), 3) := by decide +kernel
theorem dX2_bestTwo_127 : decode cX2_bestTwo 127 = .ok (.iload_n 1, 1) := by decide +kernel
theorem dX2_bestTwo_128 : decode cX2_bestTwo 128 = .ok (.ireturn, 1) := by decide +kernel
set_option maxRecDepth 20000 in
theorem ggX2_guess_X2_in : GoodIn wsX2_guess wsX2_in := goodIn_r _ [7] (by decide +kernel) (by decide +kernel)
set_option maxRecDepth 20000 in
theorem gX2_guess_X2_in : GoodIn wsX2_guess (va_wsS RX2 23 yX2_in wsX2_in) := goodIn_app (goodIn_of _ (by decide +kernel)) ggX2_guess_X2_in
set_option maxRecDepth 20000 in
theorem ggX2_guess_X2_bestTwo : GoodIn wsX2_guess wsX2_bestTwo := goodIn_r _ [11, 2, 3, 12, 13, 14, 15, 6, 16, 17, 18, 19, 20, 21, 22, 23, 24, 25, 26, 27, 28, 29, 30, 31, 32, 33, 34, 35, 36, 37, 38, 39, 40, 41, 42, 43, 44, 45, 46, 47, 48, 49, 50, 51, 52, 53, 54, 55, 56, 57, 58, 59, 60, 61, 62, 63, 64, 65, 66] (by decide +kernel) (by decide +kernel)
set_option maxRecDepth 20000 in
theorem gX2_guess_X2_bestTwo : GoodIn wsX2_guess (wsV RX2 120 RX2 yX2_bestTwo wsX2_bestTwo) := goodIn_app (goodIn_of _ (by decide +kernel)) ggX2_guess_X2_bestTwo
theorem dX2_guess_0 : decode cX2_guess 0 = .ok (.iload_n 1, 1) := by decide +kernel
theorem dX2_guess_1 : decode cX2_guess 1 = .ok (.iconst 0, 1) := by decide +kernel
theorem dX2_guess_2 : decode cX2_guess 2 = .ok (.iconst 1, 1) := by decide +kernel
theorem dX2_guess_3 : decode cX2_guess 3 = .ok (.invokestatic 23, 3) := by decide +kernel
theorem dX2_guess_6 : decode cX2_guess 6 = .ok (.ifCond .ne 6, 3) := by decide +kernel
theorem dX2_guess_9 : decode cX2_guess 9 = .ok (.ldc 66, 2) := by decide +kernel
theorem dX2_guess_11 : decode cX2_guess 11 = .ok (.ireturn, 1) := by decide +kernel
theorem dX2_guess_12 : decode cX2_guess 12 = .ok (.aload_n 0, 1) := by decide +kernel
theorem dX2_guess_13 : decode cX2_guess 13 = .ok (.invokevirtual 120, 3) := by decide +kernel
theorem dX2_guess_16 : decode cX2_guess 16 = .ok (.istore_n 2, 1) := by decide +kernel
theorem dX2_guess_17 : decode cX2_guess 17 = .ok (.iload_n 2, 1) := by decide +kernel
theorem dX2_guess_18 : decode cX2_guess 18 = .ok (.ldc 31, 2) := by decide +kernel
theorem dX2_guess_20 : decode cX2_guess 20 = .ok (.if_icmp .eq 7, 3) := by decide +kernel
theorem dX2_guess_23 : decode cX2_guess 23 = .ok (.iload_n 1, 1) := by decide +kernel
theorem dX2_guess_24 : decode cX2_guess 24 = .ok (.ifCond .ne 7, 3) := by decide +kernel
theorem dX2_guess_27 : decode cX2_guess 27 = .ok (.iload_n 2, 1) := by decide +kernel
theorem dX2_guess_28 : decode cX2_guess 28 = .ok (.goto 7, 3) := by decide +kernel
theorem dX2_guess_31 : decode cX2_guess 31 = .ok (.aload_n 0, 1) := by decide +kernel
theorem dX2_guess_32 : decode cX2_guess 32 = .ok (.getfield 117, 3) := by decide +kernel
theorem dX2_guess_35 : decode cX2_guess 35 = .ok (.ireturn, 1) := by decide +kernel
set_option maxRecDepth 20000 in
theorem ggX2_mend_X2_in : GoodIn wsX2_mend wsX2_in := goodIn_r _ [7] (by decide +kernel) (by decide +kernel)
set_option maxRecDepth 20000 in
theorem gX2_mend_X2_in : GoodIn wsX2_mend (va_wsS RX2 23 yX2_in wsX2_in) := goodIn_app (goodIn_of _ (by decide +kernel)) ggX2_mend_X2_in
set_option maxRecDepth 20000 in
theorem ggX2_mend_X2_ofWalker : GoodIn wsX2_mend wsX2_ofWalker := goodIn_r _ [11, 12, 63, 64, 65, 66, 67] (by decide +kernel) (by decide +kernel)
set_option maxRecDepth 20000 in
theorem gX2_mend_X2_ofWalker : GoodIn wsX2_mend (wsV RX2 27 RX2 yX2_ofWalker wsX2_ofWalker) := goodIn_app (goodIn_of _ (by decide +kernel)) ggX2_mend_X2_ofWalker
set_option maxRecDepth 20000 in
theorem ggX2_mend_X2_bestTwo : GoodIn wsX2_mend wsX2_bestTwo := goodIn_r _ [16, 3, 17, 12, 18, 19, 20, 6, 21, 22, 23, 24, 25, 26, 27, 28, 29, 30, 31, 32, 33, 8, 9, 10, 11, 34, 35, 36, 37, 38, 39, 40, 41, 42, 43, 44, 45, 46, 47, 48, 49, 50, 51, 52, 53, 54, 55, 56, 57, 58, 59, 60, 61, 62, 63, 64, 65, 66, 67] (by decide +kernel) (by decide +kernel)
set_option maxRecDepth 20000 in
theorem gX2_mend_X2_bestTwo : GoodIn wsX2_mend (wsV RX2 120 RX2 yX2_bestTwo wsX2_bestTwo) := goodIn_app (goodIn_of _ (by decide +kernel)) ggX2_mend_X2_bestTwo
set_option maxRecDepth 20000 in
theorem ggX2_mend_X2_exchanges : GoodIn wsX2_mend wsX2_exchanges := goodIn_r _ [58, 8, 9, 10, 6, 11, 12, 59, 60, 61, 62, 63, 64, 65, 66, 67] (by decide +kernel) (by decide +kernel)
set_option maxRecDepth 20000 in
theorem gX2_mend_X2_exchanges : GoodIn wsX2_mend (wsV RX2 91 RX2 yX2_exchanges wsX2_exchanges) := goodIn_app (goodIn_of _ (by decide +kernel)) ggX2_mend_X2_exchanges
set_option maxRecDepth 20000 in
theorem ggX2_mend_X2_error : GoodIn wsX2_mend wsX2_error := goodIn_r _ [21, 22, 23, 24, 6, 25, 26, 27, 28, 29, 12, 30, 31, 32, 33, 3, 8, 9, 10, 11, 34, 35, 36, 37, 38, 39, 40, 41, 42, 43, 44, 45, 46, 47, 48, 49, 50, 51, 52, 53, 54, 63, 64, 65, 66, 67] (by decide +kernel) (by decide +kernel)
set_option maxRecDepth 20000 in
theorem gX2_mend_X2_error : GoodIn wsX2_mend (wsV RX2 94 RX2 yX2_error wsX2_error) := goodIn_app (goodIn_of _ (by decide +kernel)) ggX2_mend_X2_error
set_option maxRecDepth 20000 in
theorem ggX2_mend_X2_puts : GoodIn wsX2_mend wsX2_puts := goodIn_r _ [62, 12, 63, 64, 65, 66, 67] (by decide +kernel) (by decide +kernel)
set_option maxRecDepth 20000 in
theorem gX2_mend_X2_puts : GoodIn wsX2_mend (wsV RX2 84 RX2 yX2_puts wsX2_puts) := goodIn_app (goodIn_of _ (by decide +kernel)) ggX2_mend_X2_puts
theorem dX2_mend_0 : decode cX2_mend 0 = .ok (.iload_n 1, 1) := by decide +kernel
theorem dX2_mend_1 : decode cX2_mend 1 = .ok (.iconst 0, 1) := by decide +kernel
theorem dX2_mend_2 : decode cX2_mend 2 = .ok (.iconst 1, 1) := by decide +kernel
theorem dX2_mend_3 : decode cX2_mend 3 = .ok (.invokestatic 23, 3) := by decide +kernel
theorem dX2_mend_6 : decode cX2_mend 6 = .ok (.ifCond .ne 6, 3) := by decide +kernel
theorem dX2_mend_9 : decode cX2_mend 9 = .ok (.ldc 66, 2) := by decide +kernel
theorem dX2_mend_11 : decode cX2_mend 11 = .ok (.ireturn, 1) := by decide +kernel
theorem dX2_mend_12 : decode cX2_mend 12 = .ok (.iconst 0, 1) := by decide +kernel
theorem dX2_mend_13 : decode cX2_mend 13 = .ok (.istore_n 2, 1) := by decide +kernel
theorem dX2_mend_14 : decode cX2_mend 14 = .ok (.iload_n 2, 1) := by decide +kernel
theorem dX2_mend_15 : decode cX2_mend 15 = .ok (.bipush 8, 2) := by decide +kernel
theorem dX2_mend_17 : decode cX2_mend 17 = .ok (.if_icmp .ge 21, 3) := by decide +kernel
theorem dX2_mend_20 : decode cX2_mend 20 = .ok (.aload_n 0, 1) := by decide +kernel
theorem dX2_mend_21 : decode cX2_mend 21 = .ok (.getfield 16, 3) := by decide +kernel
theorem dX2_mend_24 : decode cX2_mend 24 = .ok (.iload_n 2, 1) := by decide +kernel
theorem dX2_mend_25 : decode cX2_mend 25 = .ok (.aload_n 0, 1) := by decide +kernel
theorem dX2_mend_26 : decode cX2_mend 26 = .ok (.iload_n 2, 1) := by decide +kernel
theorem dX2_mend_27 : decode cX2_mend 27 = .ok (.iconst 3, 1) := by decide +kernel
theorem dX2_mend_28 : decode cX2_mend 28 = .ok (.invokevirtual 27, 3) := by decide +kernel
theorem dX2_mend_31 : decode cX2_mend 31 = .ok (.iastore, 1) := by decide +kernel
theorem dX2_mend_32 : decode cX2_mend 32 = .ok (.iinc 2 1, 3) := by decide +kernel
theorem dX2_mend_35 : decode cX2_mend 35 = .ok (.goto (-21), 3) := by decide +kernel
theorem dX2_mend_38 : decode cX2_mend 38 = .ok (.iconst 0, 1) := by decide +kernel
theorem dX2_mend_39 : decode cX2_mend 39 = .ok (.istore_n 2, 1) := by decide +kernel
theorem dX2_mend_40 : decode cX2_mend 40 = .ok (.aload_n 0, 1) := by decide +kernel
theorem dX2_mend_41 : decode cX2_mend 41 = .ok (.invokevirtual 120, 3) := by decide +kernel
theorem dX2_mend_44 : decode cX2_mend 44 = .ok (.istore_n 3, 1) := by decide +kernel
theorem dX2_mend_45 : decode cX2_mend 45 = .ok (.iload_n 3, 1) := by decide +kernel
theorem dX2_mend_46 : decode cX2_mend 46 = .ok (.ldc 31, 2) := by decide +kernel
theorem dX2_mend_48 : decode cX2_mend 48 = .ok (.if_icmp .eq 27, 3) := by decide +kernel
theorem dX2_mend_51 : decode cX2_mend 51 = .ok (.aload_n 0, 1) := by decide +kernel
theorem dX2_mend_52 : decode cX2_mend 52 = .ok (.iload_n 3, 1) := by decide +kernel
theorem dX2_mend_53 : decode cX2_mend 53 = .ok (.bipush 10, 2) := by decide +kernel
theorem dX2_mend_55 : decode cX2_mend 55 = .ok (.idiv, 1) := by decide +kernel
theorem dX2_mend_56 : decode cX2_mend 56 = .ok (.iload_n 3, 1) := by decide +kernel
theorem dX2_mend_57 : decode cX2_mend 57 = .ok (.bipush 10, 2) := by decide +kernel
theorem dX2_mend_59 : decode cX2_mend 59 = .ok (.irem, 1) := by decide +kernel
theorem dX2_mend_60 : decode cX2_mend 60 = .ok (.iconst 3, 1) := by decide +kernel
theorem dX2_mend_61 : decode cX2_mend 61 = .ok (.invokevirtual 91, 3) := by decide +kernel
theorem dX2_mend_64 : decode cX2_mend 64 = .ok (.iinc 2 1, 3) := by decide +kernel
theorem dX2_mend_67 : decode cX2_mend 67 = .ok (.aload_n 0, 1) := by decide +kernel
theorem dX2_mend_68 : decode cX2_mend 68 = .ok (.invokevirtual 120, 3) := by decide +kernel
theorem dX2_mend_71 : decode cX2_mend 71 = .ok (.istore_n 3, 1) := by decide +kernel
theorem dX2_mend_72 : decode cX2_mend 72 = .ok (.goto (-27), 3) := by decide +kernel
theorem dX2_mend_75 : decode cX2_mend 75 = .ok (.aload_n 0, 1) := by decide +kernel
theorem dX2_mend_76 : decode cX2_mend 76 = .ok (.invokevirtual 94, 3) := by decide +kernel
theorem dX2_mend_79 : decode cX2_mend 79 = .ok (.istore 4, 2) := by decide +kernel
theorem dX2_mend_81 : decode cX2_mend 81 = .ok (.iconst 0, 1) := by decide +kernel
theorem dX2_mend_82 : decode cX2_mend 82 = .ok (.istore 5, 2) := by decide +kernel
theorem dX2_mend_84 : decode cX2_mend 84 = .ok (.iload 5, 2) := by decide +kernel
theorem dX2_mend_86 : decode cX2_mend 86 = .ok (.bipush 8, 2) := by decide +kernel
theorem dX2_mend_88 : decode cX2_mend 88 = .ok (.if_icmp .ge 23, 3) := by decide +kernel
theorem dX2_mend_91 : decode cX2_mend 91 = .ok (.aload_n 0, 1) := by decide +kernel
theorem dX2_mend_92 : decode cX2_mend 92 = .ok (.iload 5, 2) := by decide +kernel
theorem dX2_mend_94 : decode cX2_mend 94 = .ok (.iconst 3, 1) := by decide +kernel
theorem dX2_mend_95 : decode cX2_mend 95 = .ok (.aload_n 0, 1) := by decide +kernel
theorem dX2_mend_96 : decode cX2_mend 96 = .ok (.getfield 16, 3) := by decide +kernel
theorem dX2_mend_99 : decode cX2_mend 99 = .ok (.iload 5, 2) := by decide +kernel
theorem dX2_mend_101 : decode cX2_mend 101 = .ok (.iaload, 1) := by decide +kernel
theorem dX2_mend_102 : decode cX2_mend 102 = .ok (.invokevirtual 84, 3) := by decide +kernel
theorem dX2_mend_105 : decode cX2_mend 105 = .ok (.iinc 5 1, 3) := by decide +kernel
theorem dX2_mend_108 : decode cX2_mend 108 = .ok (.goto (-24), 3) := by decide +kernel
theorem dX2_mend_111 : decode cX2_mend 111 = .ok (.iload_n 1, 1) := by decide +kernel
theorem dX2_mend_112 : decode cX2_mend 112 = .ok (.ifCond .ne 7, 3) := by decide +kernel
theorem dX2_mend_115 : decode cX2_mend 115 = .ok (.iload_n 2, 1) := by decide +kernel
theorem dX2_mend_116 : decode cX2_mend 116 = .ok (.goto 5, 3) := by decide +kernel
theorem dX2_mend_119 : decode cX2_mend 119 = .ok (.iload 4, 2) := by decide +kernel
theorem dX2_mend_121 : decode cX2_mend 121 = .ok (.ireturn, 1) := by decide +kernel
set_option maxRecDepth 20000 in
theorem ggX2_bestCell_X2_on : GoodIn wsX2_bestCell wsX2_on := goodIn_r _ [6, 1, 7, 8, 9, 10, 5, 11, 12, 13, 14, 15, 30, 31, 32, 33, 34] (by decide +kernel) (by decide +kernel)
set_option maxRecDepth 20000 in
theorem gX2_bestCell_X2_on : GoodIn wsX2_bestCell (wsV RX2 77 RX2 yX2_on wsX2_on) := goodIn_app (goodIn_of _ (by decide +kernel)) ggX2_bestCell_X2_on
set_option maxRecDepth 20000 in
theorem ggX2_bestCell_X2_earliest : GoodIn wsX2_bestCell wsX2_earliest := goodIn_r _ [19, 20, 21, 5, 22, 23, 24, 25, 26, 27, 28, 29, 7, 30, 31, 32, 33, 34] (by decide +kernel) (by decide +kernel)
set_option maxRecDepth 20000 in
theorem gX2_bestCell_X2_earliest : GoodIn wsX2_bestCell (wsV RX2 101 RX2 yX2_earliest wsX2_earliest) := goodIn_app (goodIn_of _ (by decide +kernel)) ggX2_bestCell_X2_earliest
theorem dX2_bestCell_0 : decode cX2_bestCell 0 = .ok (.ldc 31, 2) := by decide +kernel
theorem dX2_bestCell_2 : decode cX2_bestCell 2 = .ok (.istore_n 1, 1) := by decide +kernel
theorem dX2_bestCell_3 : decode cX2_bestCell 3 = .ok (.iconst (-1), 1) := by decide +kernel
theorem dX2_bestCell_4 : decode cX2_bestCell 4 = .ok (.istore_n 2, 1) := by decide +kernel
theorem dX2_bestCell_5 : decode cX2_bestCell 5 = .ok (.iconst 0, 1) := by decide +kernel
theorem dX2_bestCell_6 : decode cX2_bestCell 6 = .ok (.istore_n 3, 1) := by decide +kernel
theorem dX2_bestCell_7 : decode cX2_bestCell 7 = .ok (.iload_n 3, 1) := by decide +kernel
theorem dX2_bestCell_8 : decode cX2_bestCell 8 = .ok (.bipush 24, 2) := by decide +kernel
theorem dX2_bestCell_10 : decode cX2_bestCell 10 = .ok (.if_icmp .ge 62, 3) := by decide +kernel
theorem dX2_bestCell_13 : decode cX2_bestCell 13 = .ok (.aload_n 0, 1) := by decide +kernel
theorem dX2_bestCell_14 : decode cX2_bestCell 14 = .ok (.iload_n 3, 1) := by decide +kernel
theorem dX2_bestCell_15 : decode cX2_bestCell 15 = .ok (.iconst 1, 1) := by decide +kernel
theorem dX2_bestCell_16 : decode cX2_bestCell 16 = .ok (.invokevirtual 77, 3) := by decide +kernel
theorem dX2_bestCell_19 : decode cX2_bestCell 19 = .ok (.ldc 31, 2) := by decide +kernel
theorem dX2_bestCell_21 : decode cX2_bestCell 21 = .ok (.if_icmp .ne 16, 3) := by decide +kernel
theorem dX2_bestCell_24 : decode cX2_bestCell 24 = .ok (.aload_n 0, 1) := by decide +kernel
theorem dX2_bestCell_25 : decode cX2_bestCell 25 = .ok (.iload_n 3, 1) := by decide +kernel
theorem dX2_bestCell_26 : decode cX2_bestCell 26 = .ok (.invokevirtual 101, 3) := by decide +kernel
theorem dX2_bestCell_29 : decode cX2_bestCell 29 = .ok (.iload_n 2, 1) := by decide +kernel
theorem dX2_bestCell_30 : decode cX2_bestCell 30 = .ok (.if_icmp .le 7, 3) := by decide +kernel
theorem dX2_bestCell_33 : decode cX2_bestCell 33 = .ok (.iconst 1, 1) := by decide +kernel
theorem dX2_bestCell_34 : decode cX2_bestCell 34 = .ok (.goto 4, 3) := by decide +kernel
theorem dX2_bestCell_37 : decode cX2_bestCell 37 = .ok (.iconst 0, 1) := by decide +kernel
theorem dX2_bestCell_38 : decode cX2_bestCell 38 = .ok (.istore 4, 2) := by decide +kernel
theorem dX2_bestCell_40 : decode cX2_bestCell 40 = .ok (.iload 4, 2) := by decide +kernel
theorem dX2_bestCell_42 : decode cX2_bestCell 42 = .ok (.ifCond .eq 7, 3) := by decide +kernel
theorem dX2_bestCell_45 : decode cX2_bestCell 45 = .ok (.iload_n 3, 1) := by decide +kernel
theorem dX2_bestCell_46 : decode cX2_bestCell 46 = .ok (.goto 4, 3) := by decide +kernel
theorem dX2_bestCell_49 : decode cX2_bestCell 49 = .ok (.iload_n 1, 1) := by decide +kernel
theorem dX2_bestCell_50 : decode cX2_bestCell 50 = .ok (.istore_n 1, 1) := by decide +kernel
theorem dX2_bestCell_51 : decode cX2_bestCell 51 = .ok (.iload 4, 2) := by decide +kernel
theorem dX2_bestCell_53 : decode cX2_bestCell 53 = .ok (.ifCond .eq 11, 3) := by decide +kernel
theorem dX2_bestCell_56 : decode cX2_bestCell 56 = .ok (.aload_n 0, 1) := by decide +kernel
theorem dX2_bestCell_57 : decode cX2_bestCell 57 = .ok (.iload_n 3, 1) := by decide +kernel
theorem dX2_bestCell_58 : decode cX2_bestCell 58 = .ok (.invokevirtual 101, 3) := by decide +kernel
theorem dX2_bestCell_61 : decode cX2_bestCell 61 = .ok (.goto 4, 3) := by decide +kernel
theorem dX2_bestCell_64 : decode cX2_bestCell 64 = .ok (.iload_n 2, 1) := by decide +kernel
theorem dX2_bestCell_65 : decode cX2_bestCell 65 = .ok (.istore_n 2, 1) := by decide +kernel
theorem dX2_bestCell_66 : decode cX2_bestCell 66 = .ok (.iinc 3 1, 3) := by decide +kernel
theorem dX2_bestCell_69 : decode cX2_bestCell 69 = .ok (.goto (-62), 3) := by decide +kernel
theorem dX2_bestCell_72 : decode cX2_bestCell 72 = .ok (.iload_n 1, 1) := by decide +kernel
theorem dX2_bestCell_73 : decode cX2_bestCell 73 = .ok (.ireturn, 1) := by decide +kernel
set_option maxRecDepth 20000 in
theorem ggX2_until_X2_isWalker : GoodIn wsX2_until wsX2_isWalker := goodIn_r _ [7, 8, 39, 40, 41, 42, 43] (by decide +kernel) (by decide +kernel)
set_option maxRecDepth 20000 in
theorem gX2_until_X2_isWalker : GoodIn wsX2_until (wsV RX2 81 RX2 yX2_isWalker wsX2_isWalker) := goodIn_app (goodIn_of _ (by decide +kernel)) ggX2_until_X2_isWalker
set_option maxRecDepth 20000 in
theorem ggX2_until_X2_in : GoodIn wsX2_until wsX2_in := goodIn_r _ [11] (by decide +kernel) (by decide +kernel)
set_option maxRecDepth 20000 in
theorem gX2_until_X2_in : GoodIn wsX2_until (va_wsS RX2 23 yX2_in wsX2_in) := goodIn_app (goodIn_of _ (by decide +kernel)) ggX2_until_X2_in
set_option maxRecDepth 20000 in
theorem ggX2_until_X2_isAboard : GoodIn wsX2_until wsX2_isAboard := goodIn_r _ [15, 16, 17, 18, 19, 6, 20, 8, 39, 40, 41, 42, 43] (by decide +kernel) (by decide +kernel)
set_option maxRecDepth 20000 in
theorem gX2_until_X2_isAboard : GoodIn wsX2_until (wsV RX2 40 RX2 yX2_isAboard wsX2_isAboard) := goodIn_app (goodIn_of _ (by decide +kernel)) ggX2_until_X2_isAboard
set_option maxRecDepth 20000 in
theorem ggX2_until_X2_certaintyIn : GoodIn wsX2_until wsX2_certaintyIn := goodIn_r _ [24, 8, 17, 18, 19, 6, 20, 25, 26, 27, 28, 29, 30, 31, 32, 33, 34, 35, 36, 37, 38, 39, 40, 41, 42, 43] (by decide +kernel) (by decide +kernel)
set_option maxRecDepth 20000 in
theorem gX2_until_X2_certaintyIn : GoodIn wsX2_until (wsV RX2 107 RX2 yX2_certaintyIn wsX2_certaintyIn) := goodIn_app (goodIn_of _ (by decide +kernel)) ggX2_until_X2_certaintyIn
theorem dX2_until_0 : decode cX2_until 0 = .ok (.aload_n 0, 1) := by decide +kernel
theorem dX2_until_1 : decode cX2_until 1 = .ok (.iload_n 1, 1) := by decide +kernel
theorem dX2_until_2 : decode cX2_until 2 = .ok (.invokevirtual 81, 3) := by decide +kernel
theorem dX2_until_5 : decode cX2_until 5 = .ok (.ifCond .eq 13, 3) := by decide +kernel
theorem dX2_until_8 : decode cX2_until 8 = .ok (.iload_n 2, 1) := by decide +kernel
theorem dX2_until_9 : decode cX2_until 9 = .ok (.iconst 1, 1) := by decide +kernel
theorem dX2_until_10 : decode cX2_until 10 = .ok (.bipush 100, 2) := by decide +kernel
theorem dX2_until_12 : decode cX2_until 12 = .ok (.invokestatic 23, 3) := by decide +kernel
theorem dX2_until_15 : decode cX2_until 15 = .ok (.ifCond .ne 6, 3) := by decide +kernel
theorem dX2_until_18 : decode cX2_until 18 = .ok (.ldc 66, 2) := by decide +kernel
theorem dX2_until_20 : decode cX2_until 20 = .ok (.ireturn, 1) := by decide +kernel
theorem dX2_until_21 : decode cX2_until 21 = .ok (.aload_n 0, 1) := by decide +kernel
theorem dX2_until_22 : decode cX2_until 22 = .ok (.iload_n 1, 1) := by decide +kernel
theorem dX2_until_23 : decode cX2_until 23 = .ok (.invokevirtual 40, 3) := by decide +kernel
theorem dX2_until_26 : decode cX2_until 26 = .ok (.ifCond .ne 6, 3) := by decide +kernel
theorem dX2_until_29 : decode cX2_until 29 = .ok (.ldc 70, 2) := by decide +kernel
theorem dX2_until_31 : decode cX2_until 31 = .ok (.ireturn, 1) := by decide +kernel
theorem dX2_until_32 : decode cX2_until 32 = .ok (.iconst 0, 1) := by decide +kernel
theorem dX2_until_33 : decode cX2_until 33 = .ok (.istore_n 3, 1) := by decide +kernel
theorem dX2_until_34 : decode cX2_until 34 = .ok (.aload_n 0, 1) := by decide +kernel
theorem dX2_until_35 : decode cX2_until 35 = .ok (.iload_n 1, 1) := by decide +kernel
theorem dX2_until_36 : decode cX2_until 36 = .ok (.iload_n 3, 1) := by decide +kernel
theorem dX2_until_37 : decode cX2_until 37 = .ok (.invokevirtual 107, 3) := by decide +kernel
theorem dX2_until_40 : decode cX2_until 40 = .ok (.iload_n 2, 1) := by decide +kernel
theorem dX2_until_41 : decode cX2_until 41 = .ok (.if_icmp .lt 9, 3) := by decide +kernel
theorem dX2_until_44 : decode cX2_until 44 = .ok (.iinc 3 1, 3) := by decide +kernel
theorem dX2_until_47 : decode cX2_until 47 = .ok (.goto (-13), 3) := by decide +kernel
theorem dX2_until_50 : decode cX2_until 50 = .ok (.iload_n 3, 1) := by decide +kernel
theorem dX2_until_51 : decode cX2_until 51 = .ok (.ireturn, 1) := by decide +kernel
theorem dJ9_floorMod_7cf53_0 : decode cJ9_floorMod_7cf53 0 = .ok (.iload_n 0, 1) := by decide +kernel
theorem dJ9_floorMod_7cf53_1 : decode cJ9_floorMod_7cf53 1 = .ok (.iload_n 1, 1) := by decide +kernel
theorem dJ9_floorMod_7cf53_2 : decode cJ9_floorMod_7cf53 2 = .ok (.irem, 1) := by decide +kernel
theorem dJ9_floorMod_7cf53_3 : decode cJ9_floorMod_7cf53 3 = .ok (.istore_n 2, 1) := by decide +kernel
theorem dJ9_floorMod_7cf53_4 : decode cJ9_floorMod_7cf53 4 = .ok (.iload_n 0, 1) := by decide +kernel
theorem dJ9_floorMod_7cf53_5 : decode cJ9_floorMod_7cf53 5 = .ok (.iload_n 1, 1) := by decide +kernel
theorem dJ9_floorMod_7cf53_6 : decode cJ9_floorMod_7cf53 6 = .ok (.ixor, 1) := by decide +kernel
theorem dJ9_floorMod_7cf53_7 : decode cJ9_floorMod_7cf53 7 = .ok (.ifCond .ge 11, 3) := by decide +kernel
theorem dJ9_floorMod_7cf53_10 : decode cJ9_floorMod_7cf53 10 = .ok (.iload_n 2, 1) := by decide +kernel
theorem dJ9_floorMod_7cf53_11 : decode cJ9_floorMod_7cf53 11 = .ok (.ifCond .eq 7, 3) := by decide +kernel
theorem dJ9_floorMod_7cf53_14 : decode cJ9_floorMod_7cf53 14 = .ok (.iload_n 2, 1) := by decide +kernel
theorem dJ9_floorMod_7cf53_15 : decode cJ9_floorMod_7cf53 15 = .ok (.iload_n 1, 1) := by decide +kernel
theorem dJ9_floorMod_7cf53_16 : decode cJ9_floorMod_7cf53 16 = .ok (.iadd, 1) := by decide +kernel
theorem dJ9_floorMod_7cf53_17 : decode cJ9_floorMod_7cf53 17 = .ok (.ireturn, 1) := by decide +kernel
theorem dJ9_floorMod_7cf53_18 : decode cJ9_floorMod_7cf53 18 = .ok (.iload_n 2, 1) := by decide +kernel
theorem dJ9_floorMod_7cf53_19 : decode cJ9_floorMod_7cf53 19 = .ok (.ireturn, 1) := by decide +kernel
theorem dJ9_abs_0f7a4_0 : decode cJ9_abs_0f7a4 0 = .ok (.iload_n 0, 1) := by decide +kernel
theorem dJ9_abs_0f7a4_1 : decode cJ9_abs_0f7a4 1 = .ok (.ifCond .ge 8, 3) := by decide +kernel
theorem dJ9_abs_0f7a4_4 : decode cJ9_abs_0f7a4 4 = .ok (.iload_n 0, 1) := by decide +kernel
theorem dJ9_abs_0f7a4_5 : decode cJ9_abs_0f7a4 5 = .ok (.ineg, 1) := by decide +kernel
theorem dJ9_abs_0f7a4_6 : decode cJ9_abs_0f7a4 6 = .ok (.goto 4, 3) := by decide +kernel
theorem dJ9_abs_0f7a4_9 : decode cJ9_abs_0f7a4 9 = .ok (.iload_n 0, 1) := by decide +kernel
theorem dJ9_abs_0f7a4_10 : decode cJ9_abs_0f7a4 10 = .ok (.ireturn, 1) := by decide +kernel
theorem dJ9_max_7cf53_0 : decode cJ9_max_7cf53 0 = .ok (.iload_n 0, 1) := by decide +kernel
theorem dJ9_max_7cf53_1 : decode cJ9_max_7cf53 1 = .ok (.iload_n 1, 1) := by decide +kernel
theorem dJ9_max_7cf53_2 : decode cJ9_max_7cf53 2 = .ok (.if_icmp .lt 7, 3) := by decide +kernel
theorem dJ9_max_7cf53_5 : decode cJ9_max_7cf53 5 = .ok (.iload_n 0, 1) := by decide +kernel
theorem dJ9_max_7cf53_6 : decode cJ9_max_7cf53 6 = .ok (.goto 4, 3) := by decide +kernel
theorem dJ9_max_7cf53_9 : decode cJ9_max_7cf53 9 = .ok (.iload_n 1, 1) := by decide +kernel
theorem dJ9_max_7cf53_10 : decode cJ9_max_7cf53 10 = .ok (.ireturn, 1) := by decide +kernel
theorem dJ9_min_7cf53_0 : decode cJ9_min_7cf53 0 = .ok (.iload_n 0, 1) := by decide +kernel
theorem dJ9_min_7cf53_1 : decode cJ9_min_7cf53 1 = .ok (.iload_n 1, 1) := by decide +kernel
theorem dJ9_min_7cf53_2 : decode cJ9_min_7cf53 2 = .ok (.if_icmp .gt 7, 3) := by decide +kernel
theorem dJ9_min_7cf53_5 : decode cJ9_min_7cf53 5 = .ok (.iload_n 0, 1) := by decide +kernel
theorem dJ9_min_7cf53_6 : decode cJ9_min_7cf53 6 = .ok (.goto 4, 3) := by decide +kernel
theorem dJ9_min_7cf53_9 : decode cJ9_min_7cf53 9 = .ok (.iload_n 1, 1) := by decide +kernel
theorem dJ9_min_7cf53_10 : decode cJ9_min_7cf53 10 = .ok (.ireturn, 1) := by decide +kernel
set_option maxRecDepth 20000 in
theorem ggL_law_X1_init : GoodIn wsL_law wsX1_init := goodIn_r _ [8, 9, 10, 11, 12, 13, 14, 15, 16, 17, 18, 19, 20, 21, 22, 23, 24, 25, 26, 27, 28, 29, 30, 31, 32, 33, 34, 35, 36, 37, 38, 39, 40, 41, 42, 43, 2, 44, 506, 507, 508, 509, 510, 511, 512, 513, 514, 515, 516, 517, 518, 519, 520, 494, 495, 496, 497, 498, 499, 500] (by decide +kernel) (by decide +kernel)
set_option maxRecDepth 20000 in
theorem gL_law_X1_init : GoodIn wsL_law (wsX1_init) := ggL_law_X1_init
set_option maxRecDepth 20000 in
theorem ggL_law_X2_init : GoodIn wsL_law wsX2_init := goodIn_r _ [47, 48, 10, 11, 19, 49, 50, 51, 501, 502, 503, 504, 505] (by decide +kernel) (by decide +kernel)
set_option maxRecDepth 20000 in
theorem gL_law_X2_init : GoodIn wsL_law (wsX2_init) := ggL_law_X2_init
set_option maxRecDepth 20000 in
theorem ggL_law_X1_setDrift : GoodIn wsL_law wsX1_setDrift := goodIn_r _ [55, 56, 15, 57, 58, 59, 2, 60, 61, 62, 63, 64, 65, 66, 67, 18, 17, 16, 68, 69, 70, 71, 72, 73, 74, 75, 76, 77, 78, 14, 79, 27, 28, 29, 30, 31, 32, 33, 34, 35, 36, 37, 38, 39, 40, 41, 80, 81, 82, 83, 84, 85, 86, 87, 88, 89, 494, 495, 496, 497, 498, 499, 500, 506, 507, 508, 509, 510, 511, 512, 513, 514, 515, 516, 517, 518, 519, 520] (by decide +kernel) (by decide +kernel)
set_option maxRecDepth 20000 in
theorem gL_law_X1_setDrift : GoodIn wsL_law (wsV RL 13 RX1 yX1_setDrift wsX1_setDrift) := goodIn_app (goodIn_of _ (by decide +kernel)) ggL_law_X1_setDrift
set_option maxRecDepth 20000 in
theorem ggL_law_X2_setDrift : GoodIn wsL_law wsX2_setDrift := goodIn_r _ [93, 94, 49, 95, 96, 5, 97, 98, 99, 100, 101, 102, 103, 104, 105, 50, 106, 107, 108, 109, 501, 502, 503, 504, 505] (by decide +kernel) (by decide +kernel)
set_option maxRecDepth 20000 in
theorem gL_law_X2_setDrift : GoodIn wsL_law (wsV RL 17 RX2 yX2_setDrift wsX2_setDrift) := goodIn_app (goodIn_of _ (by decide +kernel)) ggL_law_X2_setDrift
set_option maxRecDepth 20000 in
theorem ggL_law_X1_pass : GoodIn wsL_law wsX1_pass := goodIn_r _ [113, 56, 15, 114, 115, 116, 57, 61, 62, 2, 63, 64, 65, 66, 67, 18, 17, 16, 68, 69, 70, 71, 72, 73, 74, 75, 76, 77, 78, 14, 79, 27, 28, 29, 30, 31, 32, 33, 34, 35, 36, 37, 38, 39, 40, 41, 80, 81, 82, 83, 84, 85, 86, 87, 88, 89, 494, 495, 496, 497, 498, 499, 500, 506, 507, 508, 509, 510, 511, 512, 513, 514, 515, 516, 517, 518, 519, 520] (by decide +kernel) (by decide +kernel)
set_option maxRecDepth 20000 in
theorem gL_law_X1_pass : GoodIn wsL_law (wsV RL 18 RX1 yX1_pass wsX1_pass) := goodIn_app (goodIn_of _ (by decide +kernel)) ggL_law_X1_pass
set_option maxRecDepth 20000 in
theorem ggL_law_X2_pass : GoodIn wsL_law wsX2_pass := goodIn_r _ [120, 94, 49, 121, 98, 99, 5, 100, 101, 102, 103, 104, 105, 50, 106, 107, 108, 109, 501, 502, 503, 504, 505] (by decide +kernel) (by decide +kernel)
set_option maxRecDepth 20000 in
theorem gL_law_X2_pass : GoodIn wsL_law (wsV RL 22 RX2 yX2_pass wsX2_pass) := goodIn_app (goodIn_of _ (by decide +kernel)) ggL_law_X2_pass
set_option maxRecDepth 20000 in
theorem ggL_law_X1_tare : GoodIn wsL_law wsX1_tare := goodIn_r _ [125, 56, 20, 15, 116, 115, 126, 127, 114, 58, 59, 2, 60, 128, 129, 130, 131, 132, 133, 134, 80, 81, 82, 83, 84, 85, 86, 87, 88, 89, 135, 136, 137, 138, 139, 140, 141, 142, 143, 144, 64, 65, 66, 67, 18, 17, 16, 68, 69, 70, 71, 72, 73, 74, 75, 76, 77, 78, 14, 79, 27, 28, 29, 30, 31, 32, 33, 34, 35, 36, 37, 38, 39, 40, 41, 494, 495, 496, 497, 498, 499, 500, 506, 507, 508, 509, 510, 511, 512, 513, 514, 515, 516, 517, 518, 519, 520] (by decide +kernel) (by decide +kernel)
set_option maxRecDepth 20000 in
theorem gL_law_X1_tare : GoodIn wsL_law (wsV RL 23 RX1 yX1_tare wsX1_tare) := goodIn_app (goodIn_of _ (by decide +kernel)) ggL_law_X1_tare
set_option maxRecDepth 20000 in
theorem ggL_law_X2_tare : GoodIn wsL_law wsX2_tare := goodIn_r _ [148, 94, 121, 49, 95, 96, 5, 97, 98, 99, 100, 149, 150, 151, 152, 153, 154, 155, 156, 157, 158, 159, 160, 161, 162, 163, 164, 165, 166, 167, 168, 169, 170, 101, 102, 103, 104, 105, 50, 171, 172, 173, 174, 175, 176, 177, 178, 106, 107, 108, 109, 501, 502, 503, 504, 505] (by decide +kernel) (by decide +kernel)
set_option maxRecDepth 20000 in
theorem gL_law_X2_tare : GoodIn wsL_law (wsV RL 26 RX2 yX2_tare wsX2_tare) := goodIn_app (goodIn_of _ (by decide +kernel)) ggL_law_X2_tare
set_option maxRecDepth 20000 in
theorem ggL_law_X1_board : GoodIn wsL_law wsX1_board := goodIn_r _ [182, 56, 15, 133, 144, 115, 183, 184, 132, 185, 186, 187, 188, 2, 189, 61, 62, 63, 58, 59, 60, 190, 191, 192, 64, 65, 66, 67, 18, 17, 16, 68, 69, 70, 71, 72, 73, 74, 75, 76, 77, 78, 14, 79, 27, 28, 29, 30, 31, 32, 33, 34, 35, 36, 37, 38, 39, 40, 41, 80, 81, 82, 83, 84, 85, 86, 87, 88, 89, 494, 495, 496, 497, 498, 499, 500, 506, 507, 508, 509, 510, 511, 512, 513, 514, 515, 516, 517, 518, 519, 520] (by decide +kernel) (by decide +kernel)
set_option maxRecDepth 20000 in
theorem gL_law_X1_board : GoodIn wsL_law (wsV RL 27 RX1 yX1_board wsX1_board) := goodIn_app (goodIn_of _ (by decide +kernel)) ggL_law_X1_board
set_option maxRecDepth 20000 in
theorem ggL_law_X2_board : GoodIn wsL_law wsX2_board := goodIn_r _ [196, 94, 157, 121, 49, 197, 198, 199, 5, 200, 98, 99, 100, 95, 96, 97, 201, 202, 203, 204, 153, 154, 155, 156, 158, 159, 160, 161, 101, 102, 103, 104, 105, 50, 501, 502, 503, 504, 505] (by decide +kernel) (by decide +kernel)
set_option maxRecDepth 20000 in
theorem gL_law_X2_board : GoodIn wsL_law (wsV RL 31 RX2 yX2_board wsX2_board) := goodIn_app (goodIn_of _ (by decide +kernel)) ggL_law_X2_board
set_option maxRecDepth 20000 in
theorem ggL_law_X1_walk : GoodIn wsL_law wsX1_walk := goodIn_r _ [208, 56, 15, 133, 144, 115, 186, 209, 210, 211, 2, 212, 183, 58, 59, 60, 213, 214, 215, 216, 190, 191, 192, 64, 65, 66, 67, 18, 17, 16, 68, 69, 70, 71, 72, 73, 74, 75, 76, 77, 78, 14, 79, 27, 28, 29, 30, 31, 32, 33, 34, 35, 36, 37, 38, 39, 40, 41, 80, 81, 82, 83, 84, 85, 86, 87, 88, 89, 494, 495, 496, 497, 498, 499, 500, 506, 507, 508, 509, 510, 511, 512, 513, 514, 515, 516, 517, 518, 519, 520] (by decide +kernel) (by decide +kernel)
set_option maxRecDepth 20000 in
theorem gL_law_X1_walk : GoodIn wsL_law (wsV RL 32 RX1 yX1_walk wsX1_walk) := goodIn_app (goodIn_of _ (by decide +kernel)) ggL_law_X1_walk
set_option maxRecDepth 20000 in
theorem ggL_law_X2_walk : GoodIn wsL_law wsX2_walk := goodIn_r _ [220, 94, 157, 121, 221, 222, 223, 5, 224, 49, 95, 96, 97, 98, 99, 100, 153, 154, 155, 156, 158, 159, 160, 161, 201, 202, 203, 204, 101, 102, 103, 104, 105, 50, 225, 226, 227, 228, 501, 502, 503, 504, 505] (by decide +kernel) (by decide +kernel)
set_option maxRecDepth 20000 in
theorem gL_law_X2_walk : GoodIn wsL_law (wsV RL 35 RX2 yX2_walk wsX2_walk) := goodIn_app (goodIn_of _ (by decide +kernel)) ggL_law_X2_walk
set_option maxRecDepth 20000 in
theorem ggL_law_X1_swap : GoodIn wsL_law wsX1_swap := goodIn_r _ [232, 56, 115, 15, 133, 186, 233, 234, 235, 2, 236, 209, 210, 211, 212, 183, 213, 214, 215, 216, 144, 64, 65, 66, 67, 18, 17, 16, 68, 69, 70, 71, 72, 73, 74, 75, 76, 77, 78, 14, 79, 27, 28, 29, 30, 31, 32, 33, 34, 35, 36, 37, 38, 39, 40, 41, 80, 81, 82, 83, 84, 85, 86, 87, 88, 89, 237, 238, 239, 240, 241, 242, 243, 20, 21, 244, 245, 246, 128, 129, 130, 131, 116, 132, 134, 135, 136, 137, 138, 139, 140, 58, 59, 60, 141, 142, 143, 247, 248, 249, 250, 126, 185, 494, 495, 496, 497, 498, 499, 500, 506, 507, 508, 509, 510, 511, 512, 513, 514, 515, 516, 517, 518, 519, 520] (by decide +kernel) (by decide +kernel)
set_option maxRecDepth 20000 in
theorem gL_law_X1_swap : GoodIn wsL_law (wsV RL 36 RX1 yX1_swap wsX1_swap) := goodIn_app (goodIn_of _ (by decide +kernel)) ggL_law_X1_swap
set_option maxRecDepth 20000 in
theorem ggL_law_X2_swap : GoodIn wsL_law wsX2_swap := goodIn_r _ [254, 255, 256, 257, 5, 258, 94, 121, 221, 222, 223, 224, 49, 153, 154, 155, 156, 157, 158, 159, 160, 161, 101, 102, 103, 104, 105, 50, 259, 260, 261, 262, 225, 226, 227, 228, 263, 264, 265, 266, 171, 172, 173, 174, 175, 176, 177, 178, 162, 163, 164, 165, 166, 167, 168, 169, 170, 106, 107, 108, 109, 267, 268, 269, 270, 271, 272, 273, 274, 501, 502, 503, 504, 505] (by decide +kernel) (by decide +kernel)
set_option maxRecDepth 20000 in
theorem gL_law_X2_swap : GoodIn wsL_law (wsV RL 39 RX2 yX2_swap wsX2_swap) := goodIn_app (goodIn_of _ (by decide +kernel)) ggL_law_X2_swap
set_option maxRecDepth 20000 in
theorem ggL_law_X1_leave : GoodIn wsL_law wsX1_leave := goodIn_r _ [278, 56, 115, 15, 133, 186, 144, 209, 210, 211, 2, 212, 183, 213, 214, 215, 216, 64, 65, 66, 67, 18, 17, 16, 68, 69, 70, 71, 72, 73, 74, 75, 76, 77, 78, 14, 79, 27, 28, 29, 30, 31, 32, 33, 34, 35, 36, 37, 38, 39, 40, 41, 80, 81, 82, 83, 84, 85, 86, 87, 88, 89, 190, 191, 192, 494, 495, 496, 497, 498, 499, 500, 506, 507, 508, 509, 510, 511, 512, 513, 514, 515, 516, 517, 518, 519, 520] (by decide +kernel) (by decide +kernel)
set_option maxRecDepth 20000 in
theorem gL_law_X1_leave : GoodIn wsL_law (wsV RL 40 RX1 yX1_leave wsX1_leave) := goodIn_app (goodIn_of _ (by decide +kernel)) ggL_law_X1_leave
set_option maxRecDepth 20000 in
theorem ggL_law_X2_leave : GoodIn wsL_law wsX2_leave := goodIn_r _ [282, 94, 121, 157, 221, 222, 223, 5, 224, 49, 153, 154, 155, 156, 158, 159, 160, 161, 101, 102, 103, 104, 105, 50, 201, 202, 203, 204, 225, 226, 227, 228, 501, 502, 503, 504, 505] (by decide +kernel) (by decide +kernel)
set_option maxRecDepth 20000 in
theorem gL_law_X2_leave : GoodIn wsL_law (wsV RL 43 RX2 yX2_leave wsX2_leave) := goodIn_app (goodIn_of _ (by decide +kernel)) ggL_law_X2_leave
set_option maxRecDepth 20000 in
theorem ggL_law_X1_setPrice : GoodIn wsL_law wsX1_setPrice := goodIn_r _ [286, 56, 15, 287, 61, 62, 2, 63, 64, 65, 66, 67, 18, 17, 16, 68, 69, 70, 71, 72, 73, 74, 75, 76, 77, 78, 14, 79, 27, 28, 29, 30, 31, 32, 33, 34, 35, 36, 37, 38, 39, 40, 41, 80, 81, 82, 83, 84, 85, 86, 87, 88, 89, 494, 495, 496, 497, 498, 499, 500, 506, 507, 508, 509, 510, 511, 512, 513, 514, 515, 516, 517, 518, 519, 520] (by decide +kernel) (by decide +kernel)
set_option maxRecDepth 20000 in
theorem gL_law_X1_setPrice : GoodIn wsL_law (wsV RL 44 RX1 yX1_setPrice wsX1_setPrice) := goodIn_app (goodIn_of _ (by decide +kernel)) ggL_law_X1_setPrice
set_option maxRecDepth 20000 in
theorem ggL_law_X2_setPrice : GoodIn wsL_law wsX2_setPrice := goodIn_r _ [291, 94, 49, 98, 99, 5, 100, 101, 102, 103, 104, 105, 50, 501, 502, 503, 504, 505] (by decide +kernel) (by decide +kernel)
set_option maxRecDepth 20000 in
theorem gL_law_X2_setPrice : GoodIn wsL_law (wsV RL 47 RX2 yX2_setPrice wsX2_setPrice) := goodIn_app (goodIn_of _ (by decide +kernel)) ggL_law_X2_setPrice
set_option maxRecDepth 20000 in
theorem ggL_law_X1_accuse : GoodIn wsL_law wsX1_accuse := goodIn_r _ [295, 56, 115, 15, 186, 296, 233, 234, 235, 2, 236, 209, 210, 211, 212, 183, 213, 214, 215, 216, 133, 144, 64, 65, 66, 67, 18, 17, 16, 68, 69, 70, 71, 72, 73, 74, 75, 76, 77, 78, 14, 79, 27, 28, 29, 30, 31, 32, 33, 34, 35, 36, 37, 38, 39, 40, 41, 80, 81, 82, 83, 84, 85, 86, 87, 88, 89, 237, 238, 239, 240, 241, 242, 243, 20, 21, 244, 245, 246, 128, 129, 130, 131, 116, 132, 134, 135, 136, 137, 138, 139, 140, 58, 59, 60, 141, 142, 143, 247, 248, 249, 250, 126, 185, 494, 495, 496, 497, 498, 499, 500, 506, 507, 508, 509, 510, 511, 512, 513, 514, 515, 516, 517, 518, 519, 520] (by decide +kernel) (by decide +kernel)
set_option maxRecDepth 20000 in
theorem gL_law_X1_accuse : GoodIn wsL_law (wsV RL 48 RX1 yX1_accuse wsX1_accuse) := goodIn_app (goodIn_of _ (by decide +kernel)) ggL_law_X1_accuse
set_option maxRecDepth 20000 in
theorem ggL_law_X2_accuse : GoodIn wsL_law wsX2_accuse := goodIn_r _ [300, 49, 255, 256, 257, 5, 258, 94, 121, 221, 222, 223, 224, 153, 154, 155, 156, 157, 158, 159, 160, 161, 101, 102, 103, 104, 105, 50, 259, 260, 261, 262, 225, 226, 227, 228, 263, 264, 265, 266, 171, 172, 173, 174, 175, 176, 177, 178, 162, 163, 164, 165, 166, 167, 168, 169, 170, 106, 107, 108, 109, 267, 268, 269, 270, 271, 272, 273, 274, 501, 502, 503, 504, 505] (by decide +kernel) (by decide +kernel)
set_option maxRecDepth 20000 in
theorem gL_law_X2_accuse : GoodIn wsL_law (wsV RL 51 RX2 yX2_accuse wsX2_accuse) := goodIn_app (goodIn_of _ (by decide +kernel)) ggL_law_X2_accuse
set_option maxRecDepth 20000 in
theorem ggL_law_X1_bill : GoodIn wsL_law wsX1_bill := goodIn_r _ [304, 56, 15, 305, 144, 115, 306, 287, 185, 209, 210, 211, 2, 212, 183, 213, 214, 215, 216, 133, 64, 65, 66, 67, 18, 17, 16, 68, 69, 70, 71, 72, 73, 74, 75, 76, 77, 78, 14, 79, 27, 28, 29, 30, 31, 32, 33, 34, 35, 36, 37, 38, 39, 40, 41, 80, 81, 82, 83, 84, 85, 86, 87, 88, 89, 307, 308, 309, 310, 126, 311, 312, 313, 314, 315, 316, 317, 186, 20, 21, 128, 129, 130, 131, 116, 132, 134, 135, 136, 137, 138, 139, 140, 58, 59, 60, 141, 142, 143, 247, 248, 249, 250, 318, 319, 320, 321, 114, 296, 322, 323, 324, 325, 127, 326, 327, 328, 329, 330, 331, 332, 333, 334, 335, 336, 337, 338, 339, 340, 494, 495, 496, 497, 498, 499, 500, 506, 507, 508, 509, 510, 511, 512, 513, 514, 515, 516, 517, 518, 519, 520] (by decide +kernel) (by decide +kernel)
set_option maxRecDepth 20000 in
theorem gL_law_X1_bill : GoodIn wsL_law (wsV RL 52 RX1 yX1_bill wsX1_bill) := goodIn_app (goodIn_of _ (by decide +kernel)) ggL_law_X1_bill
set_option maxRecDepth 20000 in
theorem ggL_law_X2_bill : GoodIn wsL_law wsX2_bill := goodIn_r _ [344, 94, 157, 121, 49, 221, 222, 223, 5, 224, 153, 154, 155, 156, 158, 159, 160, 161, 101, 102, 103, 104, 105, 50, 345, 346, 347, 348, 349, 350, 351, 168, 169, 170, 171, 172, 173, 174, 175, 176, 177, 178, 162, 163, 164, 165, 166, 167, 106, 107, 108, 109, 271, 272, 273, 274, 352, 353, 354, 355, 356, 357, 358, 359, 360, 361, 362, 363, 225, 226, 227, 228, 501, 502, 503, 504, 505] (by decide +kernel) (by decide +kernel)
set_option maxRecDepth 20000 in
theorem gL_law_X2_bill : GoodIn wsL_law (wsV RL 55 RX2 yX2_bill wsX2_bill) := goodIn_app (goodIn_of _ (by decide +kernel)) ggL_law_X2_bill
set_option maxRecDepth 20000 in
theorem ggL_law_X1_complain : GoodIn wsL_law wsX1_complain := goodIn_r _ [367, 56, 15, 305, 144, 337, 115, 132, 311, 312, 84, 313, 209, 210, 211, 2, 212, 183, 213, 214, 215, 216, 133, 64, 65, 66, 67, 18, 17, 16, 68, 69, 70, 71, 72, 73, 74, 75, 76, 77, 78, 14, 79, 27, 28, 29, 30, 31, 32, 33, 34, 35, 36, 37, 38, 39, 40, 41, 80, 81, 82, 83, 85, 86, 87, 88, 89, 368, 369, 370, 371, 306, 338, 339, 340, 494, 495, 496, 497, 498, 499, 500, 506, 507, 508, 509, 510, 511, 512, 513, 514, 515, 516, 517, 518, 519, 520] (by decide +kernel) (by decide +kernel)
set_option maxRecDepth 20000 in
theorem gL_law_X1_complain : GoodIn wsL_law (wsV RL 56 RX1 yX1_complain wsX1_complain) := goodIn_app (goodIn_of _ (by decide +kernel)) ggL_law_X1_complain
set_option maxRecDepth 20000 in
theorem ggL_law_X2_complain : GoodIn wsL_law wsX2_complain := goodIn_r _ [375, 94, 157, 121, 49, 221, 222, 223, 5, 224, 153, 154, 155, 156, 158, 159, 160, 161, 101, 102, 103, 104, 105, 50, 225, 226, 227, 228, 501, 502, 503, 504, 505] (by decide +kernel) (by decide +kernel)
set_option maxRecDepth 20000 in
theorem gL_law_X2_complain : GoodIn wsL_law (wsV RL 59 RX2 yX2_complain wsX2_complain) := goodIn_app (goodIn_of _ (by decide +kernel)) ggL_law_X2_complain
set_option maxRecDepth 20000 in
theorem ggL_law_X1_undo : GoodIn wsL_law wsX1_undo := goodIn_r _ [379, 18, 115, 16, 15, 68, 69, 70, 2, 71, 17, 72, 73, 74, 75, 76, 77, 78, 14, 79, 27, 28, 29, 30, 31, 32, 33, 34, 35, 36, 37, 38, 39, 40, 41, 80, 81, 82, 83, 84, 85, 86, 87, 88, 89, 494, 495, 496, 497, 498, 499, 500, 506, 507, 508, 509, 510, 511, 512, 513, 514, 515, 516, 517, 518, 519, 520] (by decide +kernel) (by decide +kernel)
set_option maxRecDepth 20000 in
theorem gL_law_X1_undo : GoodIn wsL_law (wsV RL 60 RX1 yX1_undo wsX1_undo) := goodIn_app (goodIn_of _ (by decide +kernel)) ggL_law_X1_undo
set_option maxRecDepth 20000 in
theorem ggL_law_X2_undo : GoodIn wsL_law wsX2_undo := goodIn_r _ [383, 105, 121, 49, 50, 501, 502, 503, 504, 505] (by decide +kernel) (by decide +kernel)
set_option maxRecDepth 20000 in
theorem gL_law_X2_undo : GoodIn wsL_law (wsV RL 64 RX2 yX2_undo wsX2_undo) := goodIn_app (goodIn_of _ (by decide +kernel)) ggL_law_X2_undo
set_option maxRecDepth 20000 in
theorem ggL_law_X1_count : GoodIn wsL_law wsX1_count := goodIn_r _ [387, 15, 114, 183, 18, 186, 126, 287, 56, 388, 389, 390, 2, 391, 213, 214, 215, 216, 133, 144, 209, 210, 211, 212, 240, 241, 242, 243, 20, 21, 244, 245, 84, 246, 128, 129, 130, 131, 116, 132, 134, 80, 81, 82, 83, 85, 86, 87, 88, 89, 135, 136, 137, 138, 139, 140, 58, 59, 60, 141, 142, 143, 247, 248, 249, 250, 185, 326, 327, 328, 329, 330, 331, 332, 392, 393, 394, 395, 333, 334, 335, 336, 305, 337, 338, 339, 340, 396, 397, 398, 399, 400, 401, 402, 403, 306, 404, 405, 406, 407, 368, 369, 370, 371, 494, 495, 496, 497, 498, 499, 500, 506, 507, 508, 509, 510, 511, 512, 513, 514, 515, 516, 517, 518, 519, 520] (by decide +kernel) (by decide +kernel)
set_option maxRecDepth 20000 in
theorem gL_law_X1_count : GoodIn wsL_law (wsV RL 65 RX1 yX1_count wsX1_count) := goodIn_app (goodIn_of _ (by decide +kernel)) ggL_law_X1_count
set_option maxRecDepth 20000 in
theorem ggL_law_X2_count : GoodIn wsL_law wsX2_count := goodIn_r _ [411, 49, 105, 94, 412, 413, 414, 5, 415, 153, 154, 155, 156, 157, 158, 159, 160, 161, 263, 264, 265, 266, 171, 172, 173, 174, 175, 176, 177, 178, 162, 163, 164, 165, 166, 167, 168, 169, 170, 106, 107, 108, 109, 267, 268, 269, 270, 271, 272, 273, 274, 360, 361, 362, 363, 501, 502, 503, 504, 505] (by decide +kernel) (by decide +kernel)
set_option maxRecDepth 20000 in
theorem gL_law_X2_count : GoodIn wsL_law (wsV RL 68 RX2 yX2_count wsX2_count) := goodIn_app (goodIn_of _ (by decide +kernel)) ggL_law_X2_count
set_option maxRecDepth 20000 in
theorem ggL_law_X1_cell : GoodIn wsL_law wsX1_cell := goodIn_r _ [419, 56, 20, 15, 116, 57, 126, 127, 186, 21, 133, 58, 59, 2, 60, 128, 129, 130, 131, 132, 134, 80, 81, 82, 83, 84, 85, 86, 87, 88, 89, 135, 136, 137, 138, 139, 140, 141, 142, 143, 144, 247, 248, 249, 250, 185, 190, 191, 192, 494, 495, 496, 497, 498, 499, 500, 506, 507, 508, 509, 510, 511, 512, 513, 514, 515, 516, 517, 518, 519, 520] (by decide +kernel) (by decide +kernel)
set_option maxRecDepth 20000 in
theorem gL_law_X1_cell : GoodIn wsL_law (wsV RL 69 RX1 yX1_cell wsX1_cell) := goodIn_app (goodIn_of _ (by decide +kernel)) ggL_law_X1_cell
set_option maxRecDepth 20000 in
theorem ggL_law_X2_cell : GoodIn wsL_law wsX2_cell := goodIn_r _ [423, 94, 95, 96, 5, 97, 98, 99, 100, 171, 172, 173, 174, 175, 176, 177, 178, 49, 153, 154, 155, 156, 157, 158, 159, 160, 161, 162, 163, 164, 165, 166, 167, 168, 169, 170, 106, 107, 108, 109, 267, 268, 269, 270, 271, 272, 273, 274, 201, 202, 203, 204, 501, 502, 503, 504, 505] (by decide +kernel) (by decide +kernel)
set_option maxRecDepth 20000 in
theorem gL_law_X2_cell : GoodIn wsL_law (wsV RL 72 RX2 yX2_cell wsX2_cell) := goodIn_app (goodIn_of _ (by decide +kernel)) ggL_law_X2_cell
set_option maxRecDepth 20000 in
theorem ggL_law_X1_walker : GoodIn wsL_law wsX1_walker := goodIn_r _ [427, 56, 15, 132, 133, 185, 144, 186, 296, 305, 209, 210, 211, 2, 212, 183, 213, 214, 215, 216, 400, 401, 402, 403, 306, 338, 339, 340, 368, 369, 370, 371, 337, 494, 495, 496, 497, 498, 499, 500, 506, 507, 508, 509, 510, 511, 512, 513, 514, 515, 516, 517, 518, 519, 520] (by decide +kernel) (by decide +kernel)
set_option maxRecDepth 20000 in
theorem gL_law_X1_walker : GoodIn wsL_law (wsV RL 73 RX1 yX1_walker wsX1_walker) := goodIn_app (goodIn_of _ (by decide +kernel)) ggL_law_X1_walker
set_option maxRecDepth 20000 in
theorem ggL_law_X2_walker : GoodIn wsL_law wsX2_walker := goodIn_r _ [431, 94, 221, 222, 223, 5, 224, 49, 98, 99, 100, 158, 159, 160, 161, 501, 502, 503, 504, 505] (by decide +kernel) (by decide +kernel)
set_option maxRecDepth 20000 in
theorem gL_law_X2_walker : GoodIn wsL_law (wsV RL 76 RX2 yX2_walker wsX2_walker) := goodIn_app (goodIn_of _ (by decide +kernel)) ggL_law_X2_walker
set_option maxRecDepth 20000 in
theorem ggL_law_X1_estimate : GoodIn wsL_law wsX1_estimate := goodIn_r _ [435, 56, 115, 209, 210, 211, 2, 212, 15, 183, 213, 214, 215, 216, 133, 144, 314, 315, 316, 317, 186, 185, 20, 21, 311, 312, 84, 313, 128, 129, 130, 131, 116, 132, 134, 80, 81, 82, 83, 85, 86, 87, 88, 89, 135, 136, 137, 138, 139, 140, 58, 59, 60, 141, 142, 143, 247, 248, 249, 250, 126, 494, 495, 496, 497, 498, 499, 500, 506, 507, 508, 509, 510, 511, 512, 513, 514, 515, 516, 517, 518, 519, 520] (by decide +kernel) (by decide +kernel)
set_option maxRecDepth 20000 in
theorem gL_law_X1_estimate : GoodIn wsL_law (wsV RL 77 RX1 yX1_estimate wsX1_estimate) := goodIn_app (goodIn_of _ (by decide +kernel)) ggL_law_X1_estimate
set_option maxRecDepth 20000 in
theorem ggL_law_X2_estimate : GoodIn wsL_law wsX2_estimate := goodIn_r _ [439, 94, 121, 221, 222, 223, 5, 224, 49, 153, 154, 155, 156, 157, 158, 159, 160, 161, 345, 346, 347, 348, 349, 350, 351, 168, 169, 170, 171, 172, 173, 174, 175, 176, 177, 178, 162, 163, 164, 165, 166, 167, 106, 107, 108, 109, 271, 272, 273, 274, 501, 502, 503, 504, 505] (by decide +kernel) (by decide +kernel)
set_option maxRecDepth 20000 in
theorem gL_law_X2_estimate : GoodIn wsL_law (wsV RL 80 RX2 yX2_estimate wsX2_estimate) := goodIn_app (goodIn_of _ (by decide +kernel)) ggL_law_X2_estimate
set_option maxRecDepth 20000 in
theorem ggL_law_X1_certainty : GoodIn wsL_law wsX1_certainty := goodIn_r _ [443, 56, 115, 209, 210, 211, 2, 212, 15, 183, 213, 214, 215, 216, 133, 144, 318, 319, 320, 321, 114, 186, 296, 311, 312, 84, 313, 322, 323, 324, 325, 127, 82, 83, 85, 141, 142, 143, 58, 59, 60, 494, 495, 496, 497, 498, 499, 500, 506, 507, 508, 509, 510, 511, 512, 513, 514, 515, 516, 517, 518, 519, 520] (by decide +kernel) (by decide +kernel)
set_option maxRecDepth 20000 in
theorem gL_law_X1_certainty : GoodIn wsL_law (wsV RL 81 RX1 yX1_certainty wsX1_certainty) := goodIn_app (goodIn_of _ (by decide +kernel)) ggL_law_X1_certainty
set_option maxRecDepth 20000 in
theorem ggL_law_X2_certainty : GoodIn wsL_law wsX2_certainty := goodIn_r _ [447, 94, 121, 221, 222, 223, 5, 224, 49, 153, 154, 155, 156, 157, 158, 159, 160, 161, 352, 353, 354, 355, 356, 357, 358, 359, 349, 350, 351, 168, 169, 170, 106, 107, 108, 109, 501, 502, 503, 504, 505] (by decide +kernel) (by decide +kernel)
set_option maxRecDepth 20000 in
theorem gL_law_X2_certainty : GoodIn wsL_law (wsV RL 84 RX2 yX2_certainty wsX2_certainty) := goodIn_app (goodIn_of _ (by decide +kernel)) ggL_law_X2_certainty
set_option maxRecDepth 20000 in
theorem ggL_law_X1_guess : GoodIn wsL_law wsX1_guess := goodIn_r _ [451, 56, 15, 186, 22, 144, 61, 62, 2, 63, 134, 80, 81, 82, 83, 84, 85, 86, 87, 88, 89, 452, 453, 454, 455, 240, 241, 242, 243, 20, 21, 244, 245, 246, 128, 129, 130, 131, 116, 132, 133, 135, 136, 137, 138, 139, 140, 58, 59, 60, 141, 142, 143, 247, 248, 249, 250, 126, 185, 213, 214, 215, 216, 209, 210, 211, 212, 183, 237, 238, 239, 456, 457, 458, 459, 233, 234, 235, 236, 494, 495, 496, 497, 498, 499, 500, 506, 507, 508, 509, 510, 511, 512, 513, 514, 515, 516, 517, 518, 519, 520] (by decide +kernel) (by decide +kernel)
set_option maxRecDepth 20000 in
theorem gL_law_X1_guess : GoodIn wsL_law (wsV RL 85 RX1 yX1_guess wsX1_guess) := goodIn_app (goodIn_of _ (by decide +kernel)) ggL_law_X1_guess
set_option maxRecDepth 20000 in
theorem ggL_law_X2_guess : GoodIn wsL_law wsX2_guess := goodIn_r _ [463, 94, 157, 464, 98, 99, 5, 100, 465, 466, 467, 468, 49, 263, 264, 265, 266, 171, 172, 173, 174, 175, 176, 177, 178, 153, 154, 155, 156, 158, 159, 160, 161, 162, 163, 164, 165, 166, 167, 168, 169, 170, 106, 107, 108, 109, 267, 268, 269, 270, 271, 272, 273, 274, 259, 260, 261, 262, 225, 226, 227, 228, 501, 502, 503, 504, 505] (by decide +kernel) (by decide +kernel)
set_option maxRecDepth 20000 in
theorem gL_law_X2_guess : GoodIn wsL_law (wsV RL 88 RX2 yX2_guess wsX2_guess) := goodIn_app (goodIn_of _ (by decide +kernel)) ggL_law_X2_guess
set_option maxRecDepth 20000 in
theorem ggL_law_X1_mend : GoodIn wsL_law wsX1_mend := goodIn_r _ [472, 56, 15, 186, 22, 144, 473, 61, 62, 2, 63, 134, 80, 81, 82, 83, 84, 85, 86, 87, 88, 89, 452, 453, 454, 455, 240, 241, 242, 243, 20, 21, 244, 245, 246, 128, 129, 130, 131, 116, 132, 133, 135, 136, 137, 138, 139, 140, 58, 59, 60, 141, 142, 143, 247, 248, 249, 250, 126, 185, 213, 214, 215, 216, 209, 210, 211, 212, 183, 237, 238, 239, 456, 457, 458, 459, 233, 234, 235, 236, 494, 495, 496, 497, 498, 499, 500, 506, 507, 508, 509, 510, 511, 512, 513, 514, 515, 516, 517, 518, 519, 520] (by decide +kernel) (by decide +kernel)
set_option maxRecDepth 20000 in
theorem gL_law_X1_mend : GoodIn wsL_law (wsV RL 89 RX1 yX1_mend wsX1_mend) := goodIn_app (goodIn_of _ (by decide +kernel)) ggL_law_X1_mend
set_option maxRecDepth 20000 in
theorem ggL_law_X2_mend : GoodIn wsL_law wsX2_mend := goodIn_r _ [477, 94, 51, 157, 98, 99, 5, 100, 158, 159, 160, 161, 49, 465, 466, 467, 468, 464, 263, 264, 265, 266, 171, 172, 173, 174, 175, 176, 177, 178, 153, 154, 155, 156, 162, 163, 164, 165, 166, 167, 168, 169, 170, 106, 107, 108, 109, 267, 268, 269, 270, 271, 272, 273, 274, 259, 260, 261, 262, 225, 226, 227, 228, 501, 502, 503, 504, 505] (by decide +kernel) (by decide +kernel)
set_option maxRecDepth 20000 in
theorem gL_law_X2_mend : GoodIn wsL_law (wsV RL 92 RX2 yX2_mend wsX2_mend) := goodIn_app (goodIn_of _ (by decide +kernel)) ggL_law_X2_mend
set_option maxRecDepth 20000 in
theorem ggL_law_X1_bestCell : GoodIn wsL_law wsX1_bestCell := goodIn_r _ [481, 144, 15, 133, 190, 191, 2, 192, 322, 323, 324, 325, 114, 127, 82, 83, 84, 85, 141, 142, 143, 58, 59, 60, 494, 495, 496, 497, 498, 499, 500, 506, 507, 508, 509, 510, 511, 512, 513, 514, 515, 516, 517, 518, 519, 520] (by decide +kernel) (by decide +kernel)
set_option maxRecDepth 20000 in
theorem gL_law_X1_bestCell : GoodIn wsL_law (wsV RL 93 RX1 yX1_bestCell wsX1_bestCell) := goodIn_app (goodIn_of _ (by decide +kernel)) ggL_law_X1_bestCell
set_option maxRecDepth 20000 in
theorem ggL_law_X2_bestCell : GoodIn wsL_law wsX2_bestCell := goodIn_r _ [485, 157, 201, 202, 203, 5, 204, 49, 153, 154, 155, 156, 158, 159, 160, 161, 356, 357, 358, 359, 349, 350, 351, 168, 169, 170, 106, 107, 108, 109, 501, 502, 503, 504, 505] (by decide +kernel) (by decide +kernel)
set_option maxRecDepth 20000 in
theorem gL_law_X2_bestCell : GoodIn wsL_law (wsV RL 96 RX2 yX2_bestCell wsX2_bestCell) := goodIn_app (goodIn_of _ (by decide +kernel)) ggL_law_X2_bestCell
set_option maxRecDepth 20000 in
theorem ggL_law_X1_until : GoodIn wsL_law wsX1_until := goodIn_r _ [489, 56, 115, 209, 210, 211, 2, 212, 15, 183, 61, 62, 63, 213, 214, 215, 216, 133, 144, 318, 319, 320, 321, 114, 186, 296, 311, 312, 84, 313, 322, 323, 324, 325, 127, 82, 83, 85, 141, 142, 143, 58, 59, 60, 494, 495, 496, 497, 498, 499, 500, 506, 507, 508, 509, 510, 511, 512, 513, 514, 515, 516, 517, 518, 519, 520] (by decide +kernel) (by decide +kernel)
set_option maxRecDepth 20000 in
theorem gL_law_X1_until : GoodIn wsL_law (wsV RL 97 RX1 yX1_until wsX1_until) := goodIn_app (goodIn_of _ (by decide +kernel)) ggL_law_X1_until
set_option maxRecDepth 20000 in
theorem ggL_law_X2_until : GoodIn wsL_law wsX2_until := goodIn_r _ [493, 94, 121, 221, 222, 223, 5, 224, 49, 98, 99, 100, 153, 154, 155, 156, 157, 158, 159, 160, 161, 352, 353, 354, 355, 356, 357, 358, 359, 349, 350, 351, 168, 169, 170, 106, 107, 108, 109, 501, 502, 503, 504, 505] (by decide +kernel) (by decide +kernel)
set_option maxRecDepth 20000 in
theorem gL_law_X2_until : GoodIn wsL_law (wsV RL 100 RX2 yX2_until wsX2_until) := goodIn_app (goodIn_of _ (by decide +kernel)) ggL_law_X2_until
theorem dL_law_0 : decode cL_law 0 = .ok (.new 7, 3) := by decide +kernel
theorem dL_law_3 : decode cL_law 3 = .ok (.dup, 1) := by decide +kernel
theorem dL_law_4 : decode cL_law 4 = .ok (.invokespecial 9, 3) := by decide +kernel
theorem dL_law_7 : decode cL_law 7 = .ok (.astore_n 1, 1) := by decide +kernel
theorem dL_law_8 : decode cL_law 8 = .ok (.new 10, 3) := by decide +kernel
theorem dL_law_11 : decode cL_law 11 = .ok (.dup, 1) := by decide +kernel
theorem dL_law_12 : decode cL_law 12 = .ok (.invokespecial 12, 3) := by decide +kernel
theorem dL_law_15 : decode cL_law 15 = .ok (.astore_n 2, 1) := by decide +kernel
theorem dL_law_16 : decode cL_law 16 = .ok (.iconst 0, 1) := by decide +kernel
theorem dL_law_17 : decode cL_law 17 = .ok (.istore_n 3, 1) := by decide +kernel
theorem dL_law_18 : decode cL_law 18 = .ok (.iload_n 3, 1) := by decide +kernel
theorem dL_law_19 : decode cL_law 19 = .ok (.aload_n 0, 1) := by decide +kernel
theorem dL_law_20 : decode cL_law 20 = .ok (.arraylength, 1) := by decide +kernel
theorem dL_law_21 : decode cL_law 21 = .ok (.iconst 4, 1) := by decide +kernel
theorem dL_law_22 : decode cL_law 22 = .ok (.isub, 1) := by decide +kernel
theorem dL_law_23 : decode cL_law 23 = .ok (.if_icmp .gt 668, 3) := by decide +kernel
theorem dL_law_26 : decode cL_law 26 = .ok (.aload_n 0, 1) := by decide +kernel
theorem dL_law_27 : decode cL_law 27 = .ok (.iload_n 3, 1) := by decide +kernel
theorem dL_law_28 : decode cL_law 28 = .ok (.iaload, 1) := by decide +kernel
theorem dL_law_29 : decode cL_law 29 = .ok (.bipush 31, 2) := by decide +kernel
theorem dL_law_31 : decode cL_law 31 = .ok (.iand, 1) := by decide +kernel
theorem dL_law_32 : decode cL_law 32 = .ok (.tableswitch 653 0 20 #[100, 133, 156, 179, 222, 255, 288, 311, 334, 367, 390, 413, 426, 449, 482, 515, 538, 561, 584, 607, 620], 100) := by decide +kernel
theorem dL_law_132 : decode cL_law 132 = .ok (.aload_n 1, 1) := by decide +kernel
theorem dL_law_133 : decode cL_law 133 = .ok (.aload_n 0, 1) := by decide +kernel
theorem dL_law_134 : decode cL_law 134 = .ok (.iload_n 3, 1) := by decide +kernel
theorem dL_law_135 : decode cL_law 135 = .ok (.iconst 1, 1) := by decide +kernel
theorem dL_law_136 : decode cL_law 136 = .ok (.iadd, 1) := by decide +kernel
theorem dL_law_137 : decode cL_law 137 = .ok (.iaload, 1) := by decide +kernel
theorem dL_law_138 : decode cL_law 138 = .ok (.aload_n 0, 1) := by decide +kernel
theorem dL_law_139 : decode cL_law 139 = .ok (.iload_n 3, 1) := by decide +kernel
theorem dL_law_140 : decode cL_law 140 = .ok (.iconst 2, 1) := by decide +kernel
theorem dL_law_141 : decode cL_law 141 = .ok (.iadd, 1) := by decide +kernel
theorem dL_law_142 : decode cL_law 142 = .ok (.iaload, 1) := by decide +kernel
theorem dL_law_143 : decode cL_law 143 = .ok (.invokevirtual 13, 3) := by decide +kernel
theorem dL_law_146 : decode cL_law 146 = .ok (.aload_n 2, 1) := by decide +kernel
theorem dL_law_147 : decode cL_law 147 = .ok (.aload_n 0, 1) := by decide +kernel
theorem dL_law_148 : decode cL_law 148 = .ok (.iload_n 3, 1) := by decide +kernel
theorem dL_law_149 : decode cL_law 149 = .ok (.iconst 1, 1) := by decide +kernel
theorem dL_law_150 : decode cL_law 150 = .ok (.iadd, 1) := by decide +kernel
theorem dL_law_151 : decode cL_law 151 = .ok (.iaload, 1) := by decide +kernel
theorem dL_law_152 : decode cL_law 152 = .ok (.aload_n 0, 1) := by decide +kernel
theorem dL_law_153 : decode cL_law 153 = .ok (.iload_n 3, 1) := by decide +kernel
theorem dL_law_154 : decode cL_law 154 = .ok (.iconst 2, 1) := by decide +kernel
theorem dL_law_155 : decode cL_law 155 = .ok (.iadd, 1) := by decide +kernel
theorem dL_law_156 : decode cL_law 156 = .ok (.iaload, 1) := by decide +kernel
theorem dL_law_157 : decode cL_law 157 = .ok (.invokevirtual 17, 3) := by decide +kernel
theorem dL_law_160 : decode cL_law 160 = .ok (.if_icmp .eq 525, 3) := by decide +kernel
theorem dL_law_163 : decode cL_law 163 = .ok (.iconst 0, 1) := by decide +kernel
theorem dL_law_164 : decode cL_law 164 = .ok (.ireturn, 1) := by decide +kernel
theorem dL_law_165 : decode cL_law 165 = .ok (.aload_n 1, 1) := by decide +kernel
theorem dL_law_166 : decode cL_law 166 = .ok (.aload_n 0, 1) := by decide +kernel
theorem dL_law_167 : decode cL_law 167 = .ok (.iload_n 3, 1) := by decide +kernel
theorem dL_law_168 : decode cL_law 168 = .ok (.iconst 1, 1) := by decide +kernel
theorem dL_law_169 : decode cL_law 169 = .ok (.iadd, 1) := by decide +kernel
theorem dL_law_170 : decode cL_law 170 = .ok (.iaload, 1) := by decide +kernel
theorem dL_law_171 : decode cL_law 171 = .ok (.invokevirtual 18, 3) := by decide +kernel
theorem dL_law_174 : decode cL_law 174 = .ok (.aload_n 2, 1) := by decide +kernel
theorem dL_law_175 : decode cL_law 175 = .ok (.aload_n 0, 1) := by decide +kernel
theorem dL_law_176 : decode cL_law 176 = .ok (.iload_n 3, 1) := by decide +kernel
theorem dL_law_177 : decode cL_law 177 = .ok (.iconst 1, 1) := by decide +kernel
theorem dL_law_178 : decode cL_law 178 = .ok (.iadd, 1) := by decide +kernel
theorem dL_law_179 : decode cL_law 179 = .ok (.iaload, 1) := by decide +kernel
theorem dL_law_180 : decode cL_law 180 = .ok (.invokevirtual 22, 3) := by decide +kernel
theorem dL_law_183 : decode cL_law 183 = .ok (.if_icmp .eq 502, 3) := by decide +kernel
theorem dL_law_186 : decode cL_law 186 = .ok (.iconst 0, 1) := by decide +kernel
theorem dL_law_187 : decode cL_law 187 = .ok (.ireturn, 1) := by decide +kernel
theorem dL_law_188 : decode cL_law 188 = .ok (.aload_n 1, 1) := by decide +kernel
theorem dL_law_189 : decode cL_law 189 = .ok (.aload_n 0, 1) := by decide +kernel
theorem dL_law_190 : decode cL_law 190 = .ok (.iload_n 3, 1) := by decide +kernel
theorem dL_law_191 : decode cL_law 191 = .ok (.iconst 1, 1) := by decide +kernel
theorem dL_law_192 : decode cL_law 192 = .ok (.iadd, 1) := by decide +kernel
theorem dL_law_193 : decode cL_law 193 = .ok (.iaload, 1) := by decide +kernel
theorem dL_law_194 : decode cL_law 194 = .ok (.invokevirtual 23, 3) := by decide +kernel
theorem dL_law_197 : decode cL_law 197 = .ok (.aload_n 2, 1) := by decide +kernel
theorem dL_law_198 : decode cL_law 198 = .ok (.aload_n 0, 1) := by decide +kernel
theorem dL_law_199 : decode cL_law 199 = .ok (.iload_n 3, 1) := by decide +kernel
theorem dL_law_200 : decode cL_law 200 = .ok (.iconst 1, 1) := by decide +kernel
theorem dL_law_201 : decode cL_law 201 = .ok (.iadd, 1) := by decide +kernel
theorem dL_law_202 : decode cL_law 202 = .ok (.iaload, 1) := by decide +kernel
theorem dL_law_203 : decode cL_law 203 = .ok (.invokevirtual 26, 3) := by decide +kernel
theorem dL_law_206 : decode cL_law 206 = .ok (.if_icmp .eq 479, 3) := by decide +kernel
theorem dL_law_209 : decode cL_law 209 = .ok (.iconst 0, 1) := by decide +kernel
theorem dL_law_210 : decode cL_law 210 = .ok (.ireturn, 1) := by decide +kernel
theorem dL_law_211 : decode cL_law 211 = .ok (.aload_n 1, 1) := by decide +kernel
theorem dL_law_212 : decode cL_law 212 = .ok (.aload_n 0, 1) := by decide +kernel
theorem dL_law_213 : decode cL_law 213 = .ok (.iload_n 3, 1) := by decide +kernel
theorem dL_law_214 : decode cL_law 214 = .ok (.iconst 1, 1) := by decide +kernel
theorem dL_law_215 : decode cL_law 215 = .ok (.iadd, 1) := by decide +kernel
theorem dL_law_216 : decode cL_law 216 = .ok (.iaload, 1) := by decide +kernel
theorem dL_law_217 : decode cL_law 217 = .ok (.aload_n 0, 1) := by decide +kernel
theorem dL_law_218 : decode cL_law 218 = .ok (.iload_n 3, 1) := by decide +kernel
theorem dL_law_219 : decode cL_law 219 = .ok (.iconst 2, 1) := by decide +kernel
theorem dL_law_220 : decode cL_law 220 = .ok (.iadd, 1) := by decide +kernel
theorem dL_law_221 : decode cL_law 221 = .ok (.iaload, 1) := by decide +kernel
theorem dL_law_222 : decode cL_law 222 = .ok (.aload_n 0, 1) := by decide +kernel
theorem dL_law_223 : decode cL_law 223 = .ok (.iload_n 3, 1) := by decide +kernel
theorem dL_law_224 : decode cL_law 224 = .ok (.iconst 3, 1) := by decide +kernel
theorem dL_law_225 : decode cL_law 225 = .ok (.iadd, 1) := by decide +kernel
theorem dL_law_226 : decode cL_law 226 = .ok (.iaload, 1) := by decide +kernel
theorem dL_law_227 : decode cL_law 227 = .ok (.invokevirtual 27, 3) := by decide +kernel
theorem dL_law_230 : decode cL_law 230 = .ok (.aload_n 2, 1) := by decide +kernel
theorem dL_law_231 : decode cL_law 231 = .ok (.aload_n 0, 1) := by decide +kernel
theorem dL_law_232 : decode cL_law 232 = .ok (.iload_n 3, 1) := by decide +kernel
theorem dL_law_233 : decode cL_law 233 = .ok (.iconst 1, 1) := by decide +kernel
theorem dL_law_234 : decode cL_law 234 = .ok (.iadd, 1) := by decide +kernel
theorem dL_law_235 : decode cL_law 235 = .ok (.iaload, 1) := by decide +kernel
theorem dL_law_236 : decode cL_law 236 = .ok (.aload_n 0, 1) := by decide +kernel
theorem dL_law_237 : decode cL_law 237 = .ok (.iload_n 3, 1) := by decide +kernel
theorem dL_law_238 : decode cL_law 238 = .ok (.iconst 2, 1) := by decide +kernel
theorem dL_law_239 : decode cL_law 239 = .ok (.iadd, 1) := by decide +kernel
theorem dL_law_240 : decode cL_law 240 = .ok (.iaload, 1) := by decide +kernel
theorem dL_law_241 : decode cL_law 241 = .ok (.aload_n 0, 1) := by decide +kernel
theorem dL_law_242 : decode cL_law 242 = .ok (.iload_n 3, 1) := by decide +kernel
theorem dL_law_243 : decode cL_law 243 = .ok (.iconst 3, 1) := by decide +kernel
theorem dL_law_244 : decode cL_law 244 = .ok (.iadd, 1) := by decide +kernel
theorem dL_law_245 : decode cL_law 245 = .ok (.iaload, 1) := by decide +kernel
theorem dL_law_246 : decode cL_law 246 = .ok (.invokevirtual 31, 3) := by decide +kernel
theorem dL_law_249 : decode cL_law 249 = .ok (.if_icmp .eq 436, 3) := by decide +kernel
theorem dL_law_252 : decode cL_law 252 = .ok (.iconst 0, 1) := by decide +kernel
theorem dL_law_253 : decode cL_law 253 = .ok (.ireturn, 1) := by decide +kernel
theorem dL_law_254 : decode cL_law 254 = .ok (.aload_n 1, 1) := by decide +kernel
theorem dL_law_255 : decode cL_law 255 = .ok (.aload_n 0, 1) := by decide +kernel
theorem dL_law_256 : decode cL_law 256 = .ok (.iload_n 3, 1) := by decide +kernel
theorem dL_law_257 : decode cL_law 257 = .ok (.iconst 1, 1) := by decide +kernel
theorem dL_law_258 : decode cL_law 258 = .ok (.iadd, 1) := by decide +kernel
theorem dL_law_259 : decode cL_law 259 = .ok (.iaload, 1) := by decide +kernel
theorem dL_law_260 : decode cL_law 260 = .ok (.aload_n 0, 1) := by decide +kernel
theorem dL_law_261 : decode cL_law 261 = .ok (.iload_n 3, 1) := by decide +kernel
theorem dL_law_262 : decode cL_law 262 = .ok (.iconst 2, 1) := by decide +kernel
theorem dL_law_263 : decode cL_law 263 = .ok (.iadd, 1) := by decide +kernel
theorem dL_law_264 : decode cL_law 264 = .ok (.iaload, 1) := by decide +kernel
theorem dL_law_265 : decode cL_law 265 = .ok (.invokevirtual 32, 3) := by decide +kernel
theorem dL_law_268 : decode cL_law 268 = .ok (.aload_n 2, 1) := by decide +kernel
theorem dL_law_269 : decode cL_law 269 = .ok (.aload_n 0, 1) := by decide +kernel
theorem dL_law_270 : decode cL_law 270 = .ok (.iload_n 3, 1) := by decide +kernel
theorem dL_law_271 : decode cL_law 271 = .ok (.iconst 1, 1) := by decide +kernel
theorem dL_law_272 : decode cL_law 272 = .ok (.iadd, 1) := by decide +kernel
theorem dL_law_273 : decode cL_law 273 = .ok (.iaload, 1) := by decide +kernel
theorem dL_law_274 : decode cL_law 274 = .ok (.aload_n 0, 1) := by decide +kernel
theorem dL_law_275 : decode cL_law 275 = .ok (.iload_n 3, 1) := by decide +kernel
theorem dL_law_276 : decode cL_law 276 = .ok (.iconst 2, 1) := by decide +kernel
theorem dL_law_277 : decode cL_law 277 = .ok (.iadd, 1) := by decide +kernel
theorem dL_law_278 : decode cL_law 278 = .ok (.iaload, 1) := by decide +kernel
theorem dL_law_279 : decode cL_law 279 = .ok (.invokevirtual 35, 3) := by decide +kernel
theorem dL_law_282 : decode cL_law 282 = .ok (.if_icmp .eq 403, 3) := by decide +kernel
theorem dL_law_285 : decode cL_law 285 = .ok (.iconst 0, 1) := by decide +kernel
theorem dL_law_286 : decode cL_law 286 = .ok (.ireturn, 1) := by decide +kernel
theorem dL_law_287 : decode cL_law 287 = .ok (.aload_n 1, 1) := by decide +kernel
theorem dL_law_288 : decode cL_law 288 = .ok (.aload_n 0, 1) := by decide +kernel
theorem dL_law_289 : decode cL_law 289 = .ok (.iload_n 3, 1) := by decide +kernel
theorem dL_law_290 : decode cL_law 290 = .ok (.iconst 1, 1) := by decide +kernel
theorem dL_law_291 : decode cL_law 291 = .ok (.iadd, 1) := by decide +kernel
theorem dL_law_292 : decode cL_law 292 = .ok (.iaload, 1) := by decide +kernel
theorem dL_law_293 : decode cL_law 293 = .ok (.aload_n 0, 1) := by decide +kernel
theorem dL_law_294 : decode cL_law 294 = .ok (.iload_n 3, 1) := by decide +kernel
theorem dL_law_295 : decode cL_law 295 = .ok (.iconst 2, 1) := by decide +kernel
theorem dL_law_296 : decode cL_law 296 = .ok (.iadd, 1) := by decide +kernel
theorem dL_law_297 : decode cL_law 297 = .ok (.iaload, 1) := by decide +kernel
theorem dL_law_298 : decode cL_law 298 = .ok (.invokevirtual 36, 3) := by decide +kernel
theorem dL_law_301 : decode cL_law 301 = .ok (.aload_n 2, 1) := by decide +kernel
theorem dL_law_302 : decode cL_law 302 = .ok (.aload_n 0, 1) := by decide +kernel
theorem dL_law_303 : decode cL_law 303 = .ok (.iload_n 3, 1) := by decide +kernel
theorem dL_law_304 : decode cL_law 304 = .ok (.iconst 1, 1) := by decide +kernel
theorem dL_law_305 : decode cL_law 305 = .ok (.iadd, 1) := by decide +kernel
theorem dL_law_306 : decode cL_law 306 = .ok (.iaload, 1) := by decide +kernel
theorem dL_law_307 : decode cL_law 307 = .ok (.aload_n 0, 1) := by decide +kernel
theorem dL_law_308 : decode cL_law 308 = .ok (.iload_n 3, 1) := by decide +kernel
theorem dL_law_309 : decode cL_law 309 = .ok (.iconst 2, 1) := by decide +kernel
theorem dL_law_310 : decode cL_law 310 = .ok (.iadd, 1) := by decide +kernel
theorem dL_law_311 : decode cL_law 311 = .ok (.iaload, 1) := by decide +kernel
theorem dL_law_312 : decode cL_law 312 = .ok (.invokevirtual 39, 3) := by decide +kernel
theorem dL_law_315 : decode cL_law 315 = .ok (.if_icmp .eq 370, 3) := by decide +kernel
theorem dL_law_318 : decode cL_law 318 = .ok (.iconst 0, 1) := by decide +kernel
theorem dL_law_319 : decode cL_law 319 = .ok (.ireturn, 1) := by decide +kernel
theorem dL_law_320 : decode cL_law 320 = .ok (.aload_n 1, 1) := by decide +kernel
theorem dL_law_321 : decode cL_law 321 = .ok (.aload_n 0, 1) := by decide +kernel
theorem dL_law_322 : decode cL_law 322 = .ok (.iload_n 3, 1) := by decide +kernel
theorem dL_law_323 : decode cL_law 323 = .ok (.iconst 1, 1) := by decide +kernel
theorem dL_law_324 : decode cL_law 324 = .ok (.iadd, 1) := by decide +kernel
theorem dL_law_325 : decode cL_law 325 = .ok (.iaload, 1) := by decide +kernel
theorem dL_law_326 : decode cL_law 326 = .ok (.invokevirtual 40, 3) := by decide +kernel
theorem dL_law_329 : decode cL_law 329 = .ok (.aload_n 2, 1) := by decide +kernel
theorem dL_law_330 : decode cL_law 330 = .ok (.aload_n 0, 1) := by decide +kernel
theorem dL_law_331 : decode cL_law 331 = .ok (.iload_n 3, 1) := by decide +kernel
theorem dL_law_332 : decode cL_law 332 = .ok (.iconst 1, 1) := by decide +kernel
theorem dL_law_333 : decode cL_law 333 = .ok (.iadd, 1) := by decide +kernel
theorem dL_law_334 : decode cL_law 334 = .ok (.iaload, 1) := by decide +kernel
theorem dL_law_335 : decode cL_law 335 = .ok (.invokevirtual 43, 3) := by decide +kernel
theorem dL_law_338 : decode cL_law 338 = .ok (.if_icmp .eq 347, 3) := by decide +kernel
theorem dL_law_341 : decode cL_law 341 = .ok (.iconst 0, 1) := by decide +kernel
theorem dL_law_342 : decode cL_law 342 = .ok (.ireturn, 1) := by decide +kernel
theorem dL_law_343 : decode cL_law 343 = .ok (.aload_n 1, 1) := by decide +kernel
theorem dL_law_344 : decode cL_law 344 = .ok (.aload_n 0, 1) := by decide +kernel
theorem dL_law_345 : decode cL_law 345 = .ok (.iload_n 3, 1) := by decide +kernel
theorem dL_law_346 : decode cL_law 346 = .ok (.iconst 1, 1) := by decide +kernel
theorem dL_law_347 : decode cL_law 347 = .ok (.iadd, 1) := by decide +kernel
theorem dL_law_348 : decode cL_law 348 = .ok (.iaload, 1) := by decide +kernel
theorem dL_law_349 : decode cL_law 349 = .ok (.invokevirtual 44, 3) := by decide +kernel
theorem dL_law_352 : decode cL_law 352 = .ok (.aload_n 2, 1) := by decide +kernel
theorem dL_law_353 : decode cL_law 353 = .ok (.aload_n 0, 1) := by decide +kernel
theorem dL_law_354 : decode cL_law 354 = .ok (.iload_n 3, 1) := by decide +kernel
theorem dL_law_355 : decode cL_law 355 = .ok (.iconst 1, 1) := by decide +kernel
theorem dL_law_356 : decode cL_law 356 = .ok (.iadd, 1) := by decide +kernel
theorem dL_law_357 : decode cL_law 357 = .ok (.iaload, 1) := by decide +kernel
theorem dL_law_358 : decode cL_law 358 = .ok (.invokevirtual 47, 3) := by decide +kernel
theorem dL_law_361 : decode cL_law 361 = .ok (.if_icmp .eq 324, 3) := by decide +kernel
theorem dL_law_364 : decode cL_law 364 = .ok (.iconst 0, 1) := by decide +kernel
theorem dL_law_365 : decode cL_law 365 = .ok (.ireturn, 1) := by decide +kernel
theorem dL_law_366 : decode cL_law 366 = .ok (.aload_n 1, 1) := by decide +kernel
theorem dL_law_367 : decode cL_law 367 = .ok (.aload_n 0, 1) := by decide +kernel
theorem dL_law_368 : decode cL_law 368 = .ok (.iload_n 3, 1) := by decide +kernel
theorem dL_law_369 : decode cL_law 369 = .ok (.iconst 1, 1) := by decide +kernel
theorem dL_law_370 : decode cL_law 370 = .ok (.iadd, 1) := by decide +kernel
theorem dL_law_371 : decode cL_law 371 = .ok (.iaload, 1) := by decide +kernel
theorem dL_law_372 : decode cL_law 372 = .ok (.aload_n 0, 1) := by decide +kernel
theorem dL_law_373 : decode cL_law 373 = .ok (.iload_n 3, 1) := by decide +kernel
theorem dL_law_374 : decode cL_law 374 = .ok (.iconst 2, 1) := by decide +kernel
theorem dL_law_375 : decode cL_law 375 = .ok (.iadd, 1) := by decide +kernel
theorem dL_law_376 : decode cL_law 376 = .ok (.iaload, 1) := by decide +kernel
theorem dL_law_377 : decode cL_law 377 = .ok (.invokevirtual 48, 3) := by decide +kernel
theorem dL_law_380 : decode cL_law 380 = .ok (.aload_n 2, 1) := by decide +kernel
theorem dL_law_381 : decode cL_law 381 = .ok (.aload_n 0, 1) := by decide +kernel
theorem dL_law_382 : decode cL_law 382 = .ok (.iload_n 3, 1) := by decide +kernel
theorem dL_law_383 : decode cL_law 383 = .ok (.iconst 1, 1) := by decide +kernel
theorem dL_law_384 : decode cL_law 384 = .ok (.iadd, 1) := by decide +kernel
theorem dL_law_385 : decode cL_law 385 = .ok (.iaload, 1) := by decide +kernel
theorem dL_law_386 : decode cL_law 386 = .ok (.aload_n 0, 1) := by decide +kernel
theorem dL_law_387 : decode cL_law 387 = .ok (.iload_n 3, 1) := by decide +kernel
theorem dL_law_388 : decode cL_law 388 = .ok (.iconst 2, 1) := by decide +kernel
theorem dL_law_389 : decode cL_law 389 = .ok (.iadd, 1) := by decide +kernel
theorem dL_law_390 : decode cL_law 390 = .ok (.iaload, 1) := by decide +kernel
theorem dL_law_391 : decode cL_law 391 = .ok (.invokevirtual 51, 3) := by decide +kernel
theorem dL_law_394 : decode cL_law 394 = .ok (.if_icmp .eq 291, 3) := by decide +kernel
theorem dL_law_397 : decode cL_law 397 = .ok (.iconst 0, 1) := by decide +kernel
theorem dL_law_398 : decode cL_law 398 = .ok (.ireturn, 1) := by decide +kernel
theorem dL_law_399 : decode cL_law 399 = .ok (.aload_n 1, 1) := by decide +kernel
theorem dL_law_400 : decode cL_law 400 = .ok (.aload_n 0, 1) := by decide +kernel
theorem dL_law_401 : decode cL_law 401 = .ok (.iload_n 3, 1) := by decide +kernel
theorem dL_law_402 : decode cL_law 402 = .ok (.iconst 1, 1) := by decide +kernel
theorem dL_law_403 : decode cL_law 403 = .ok (.iadd, 1) := by decide +kernel
theorem dL_law_404 : decode cL_law 404 = .ok (.iaload, 1) := by decide +kernel
theorem dL_law_405 : decode cL_law 405 = .ok (.invokevirtual 52, 3) := by decide +kernel
theorem dL_law_408 : decode cL_law 408 = .ok (.aload_n 2, 1) := by decide +kernel
theorem dL_law_409 : decode cL_law 409 = .ok (.aload_n 0, 1) := by decide +kernel
theorem dL_law_410 : decode cL_law 410 = .ok (.iload_n 3, 1) := by decide +kernel
theorem dL_law_411 : decode cL_law 411 = .ok (.iconst 1, 1) := by decide +kernel
theorem dL_law_412 : decode cL_law 412 = .ok (.iadd, 1) := by decide +kernel
theorem dL_law_413 : decode cL_law 413 = .ok (.iaload, 1) := by decide +kernel
theorem dL_law_414 : decode cL_law 414 = .ok (.invokevirtual 55, 3) := by decide +kernel
theorem dL_law_417 : decode cL_law 417 = .ok (.if_icmp .eq 268, 3) := by decide +kernel
theorem dL_law_420 : decode cL_law 420 = .ok (.iconst 0, 1) := by decide +kernel
theorem dL_law_421 : decode cL_law 421 = .ok (.ireturn, 1) := by decide +kernel
theorem dL_law_422 : decode cL_law 422 = .ok (.aload_n 1, 1) := by decide +kernel
theorem dL_law_423 : decode cL_law 423 = .ok (.aload_n 0, 1) := by decide +kernel
theorem dL_law_424 : decode cL_law 424 = .ok (.iload_n 3, 1) := by decide +kernel
theorem dL_law_425 : decode cL_law 425 = .ok (.iconst 1, 1) := by decide +kernel
theorem dL_law_426 : decode cL_law 426 = .ok (.iadd, 1) := by decide +kernel
theorem dL_law_427 : decode cL_law 427 = .ok (.iaload, 1) := by decide +kernel
theorem dL_law_428 : decode cL_law 428 = .ok (.invokevirtual 56, 3) := by decide +kernel
theorem dL_law_431 : decode cL_law 431 = .ok (.aload_n 2, 1) := by decide +kernel
theorem dL_law_432 : decode cL_law 432 = .ok (.aload_n 0, 1) := by decide +kernel
theorem dL_law_433 : decode cL_law 433 = .ok (.iload_n 3, 1) := by decide +kernel
theorem dL_law_434 : decode cL_law 434 = .ok (.iconst 1, 1) := by decide +kernel
theorem dL_law_435 : decode cL_law 435 = .ok (.iadd, 1) := by decide +kernel
theorem dL_law_436 : decode cL_law 436 = .ok (.iaload, 1) := by decide +kernel
theorem dL_law_437 : decode cL_law 437 = .ok (.invokevirtual 59, 3) := by decide +kernel
theorem dL_law_440 : decode cL_law 440 = .ok (.if_icmp .eq 245, 3) := by decide +kernel
theorem dL_law_443 : decode cL_law 443 = .ok (.iconst 0, 1) := by decide +kernel
theorem dL_law_444 : decode cL_law 444 = .ok (.ireturn, 1) := by decide +kernel
theorem dL_law_445 : decode cL_law 445 = .ok (.aload_n 1, 1) := by decide +kernel
theorem dL_law_446 : decode cL_law 446 = .ok (.invokevirtual 60, 3) := by decide +kernel
theorem dL_law_449 : decode cL_law 449 = .ok (.aload_n 2, 1) := by decide +kernel
theorem dL_law_450 : decode cL_law 450 = .ok (.invokevirtual 64, 3) := by decide +kernel
theorem dL_law_453 : decode cL_law 453 = .ok (.if_icmp .eq 232, 3) := by decide +kernel
theorem dL_law_456 : decode cL_law 456 = .ok (.iconst 0, 1) := by decide +kernel
theorem dL_law_457 : decode cL_law 457 = .ok (.ireturn, 1) := by decide +kernel
theorem dL_law_458 : decode cL_law 458 = .ok (.aload_n 1, 1) := by decide +kernel
theorem dL_law_459 : decode cL_law 459 = .ok (.aload_n 0, 1) := by decide +kernel
theorem dL_law_460 : decode cL_law 460 = .ok (.iload_n 3, 1) := by decide +kernel
theorem dL_law_461 : decode cL_law 461 = .ok (.iconst 1, 1) := by decide +kernel
theorem dL_law_462 : decode cL_law 462 = .ok (.iadd, 1) := by decide +kernel
theorem dL_law_463 : decode cL_law 463 = .ok (.iaload, 1) := by decide +kernel
theorem dL_law_464 : decode cL_law 464 = .ok (.invokevirtual 65, 3) := by decide +kernel
theorem dL_law_467 : decode cL_law 467 = .ok (.aload_n 2, 1) := by decide +kernel
theorem dL_law_468 : decode cL_law 468 = .ok (.aload_n 0, 1) := by decide +kernel
theorem dL_law_469 : decode cL_law 469 = .ok (.iload_n 3, 1) := by decide +kernel
theorem dL_law_470 : decode cL_law 470 = .ok (.iconst 1, 1) := by decide +kernel
theorem dL_law_471 : decode cL_law 471 = .ok (.iadd, 1) := by decide +kernel
theorem dL_law_472 : decode cL_law 472 = .ok (.iaload, 1) := by decide +kernel
theorem dL_law_473 : decode cL_law 473 = .ok (.invokevirtual 68, 3) := by decide +kernel
theorem dL_law_476 : decode cL_law 476 = .ok (.if_icmp .eq 209, 3) := by decide +kernel
theorem dL_law_479 : decode cL_law 479 = .ok (.iconst 0, 1) := by decide +kernel
theorem dL_law_480 : decode cL_law 480 = .ok (.ireturn, 1) := by decide +kernel
theorem dL_law_481 : decode cL_law 481 = .ok (.aload_n 1, 1) := by decide +kernel
theorem dL_law_482 : decode cL_law 482 = .ok (.aload_n 0, 1) := by decide +kernel
theorem dL_law_483 : decode cL_law 483 = .ok (.iload_n 3, 1) := by decide +kernel
theorem dL_law_484 : decode cL_law 484 = .ok (.iconst 1, 1) := by decide +kernel
theorem dL_law_485 : decode cL_law 485 = .ok (.iadd, 1) := by decide +kernel
theorem dL_law_486 : decode cL_law 486 = .ok (.iaload, 1) := by decide +kernel
theorem dL_law_487 : decode cL_law 487 = .ok (.aload_n 0, 1) := by decide +kernel
theorem dL_law_488 : decode cL_law 488 = .ok (.iload_n 3, 1) := by decide +kernel
theorem dL_law_489 : decode cL_law 489 = .ok (.iconst 2, 1) := by decide +kernel
theorem dL_law_490 : decode cL_law 490 = .ok (.iadd, 1) := by decide +kernel
theorem dL_law_491 : decode cL_law 491 = .ok (.iaload, 1) := by decide +kernel
theorem dL_law_492 : decode cL_law 492 = .ok (.invokevirtual 69, 3) := by decide +kernel
theorem dL_law_495 : decode cL_law 495 = .ok (.aload_n 2, 1) := by decide +kernel
theorem dL_law_496 : decode cL_law 496 = .ok (.aload_n 0, 1) := by decide +kernel
theorem dL_law_497 : decode cL_law 497 = .ok (.iload_n 3, 1) := by decide +kernel
theorem dL_law_498 : decode cL_law 498 = .ok (.iconst 1, 1) := by decide +kernel
theorem dL_law_499 : decode cL_law 499 = .ok (.iadd, 1) := by decide +kernel
theorem dL_law_500 : decode cL_law 500 = .ok (.iaload, 1) := by decide +kernel
theorem dL_law_501 : decode cL_law 501 = .ok (.aload_n 0, 1) := by decide +kernel
theorem dL_law_502 : decode cL_law 502 = .ok (.iload_n 3, 1) := by decide +kernel
theorem dL_law_503 : decode cL_law 503 = .ok (.iconst 2, 1) := by decide +kernel
theorem dL_law_504 : decode cL_law 504 = .ok (.iadd, 1) := by decide +kernel
theorem dL_law_505 : decode cL_law 505 = .ok (.iaload, 1) := by decide +kernel
theorem dL_law_506 : decode cL_law 506 = .ok (.invokevirtual 72, 3) := by decide +kernel
theorem dL_law_509 : decode cL_law 509 = .ok (.if_icmp .eq 176, 3) := by decide +kernel
theorem dL_law_512 : decode cL_law 512 = .ok (.iconst 0, 1) := by decide +kernel
theorem dL_law_513 : decode cL_law 513 = .ok (.ireturn, 1) := by decide +kernel
theorem dL_law_514 : decode cL_law 514 = .ok (.aload_n 1, 1) := by decide +kernel
theorem dL_law_515 : decode cL_law 515 = .ok (.aload_n 0, 1) := by decide +kernel
theorem dL_law_516 : decode cL_law 516 = .ok (.iload_n 3, 1) := by decide +kernel
theorem dL_law_517 : decode cL_law 517 = .ok (.iconst 1, 1) := by decide +kernel
theorem dL_law_518 : decode cL_law 518 = .ok (.iadd, 1) := by decide +kernel
theorem dL_law_519 : decode cL_law 519 = .ok (.iaload, 1) := by decide +kernel
theorem dL_law_520 : decode cL_law 520 = .ok (.aload_n 0, 1) := by decide +kernel
theorem dL_law_521 : decode cL_law 521 = .ok (.iload_n 3, 1) := by decide +kernel
theorem dL_law_522 : decode cL_law 522 = .ok (.iconst 2, 1) := by decide +kernel
theorem dL_law_523 : decode cL_law 523 = .ok (.iadd, 1) := by decide +kernel
theorem dL_law_524 : decode cL_law 524 = .ok (.iaload, 1) := by decide +kernel
theorem dL_law_525 : decode cL_law 525 = .ok (.invokevirtual 73, 3) := by decide +kernel
theorem dL_law_528 : decode cL_law 528 = .ok (.aload_n 2, 1) := by decide +kernel
theorem dL_law_529 : decode cL_law 529 = .ok (.aload_n 0, 1) := by decide +kernel
theorem dL_law_530 : decode cL_law 530 = .ok (.iload_n 3, 1) := by decide +kernel
theorem dL_law_531 : decode cL_law 531 = .ok (.iconst 1, 1) := by decide +kernel
theorem dL_law_532 : decode cL_law 532 = .ok (.iadd, 1) := by decide +kernel
theorem dL_law_533 : decode cL_law 533 = .ok (.iaload, 1) := by decide +kernel
theorem dL_law_534 : decode cL_law 534 = .ok (.aload_n 0, 1) := by decide +kernel
theorem dL_law_535 : decode cL_law 535 = .ok (.iload_n 3, 1) := by decide +kernel
theorem dL_law_536 : decode cL_law 536 = .ok (.iconst 2, 1) := by decide +kernel
theorem dL_law_537 : decode cL_law 537 = .ok (.iadd, 1) := by decide +kernel
theorem dL_law_538 : decode cL_law 538 = .ok (.iaload, 1) := by decide +kernel
theorem dL_law_539 : decode cL_law 539 = .ok (.invokevirtual 76, 3) := by decide +kernel
theorem dL_law_542 : decode cL_law 542 = .ok (.if_icmp .eq 143, 3) := by decide +kernel
theorem dL_law_545 : decode cL_law 545 = .ok (.iconst 0, 1) := by decide +kernel
theorem dL_law_546 : decode cL_law 546 = .ok (.ireturn, 1) := by decide +kernel
theorem dL_law_547 : decode cL_law 547 = .ok (.aload_n 1, 1) := by decide +kernel
theorem dL_law_548 : decode cL_law 548 = .ok (.aload_n 0, 1) := by decide +kernel
theorem dL_law_549 : decode cL_law 549 = .ok (.iload_n 3, 1) := by decide +kernel
theorem dL_law_550 : decode cL_law 550 = .ok (.iconst 1, 1) := by decide +kernel
theorem dL_law_551 : decode cL_law 551 = .ok (.iadd, 1) := by decide +kernel
theorem dL_law_552 : decode cL_law 552 = .ok (.iaload, 1) := by decide +kernel
theorem dL_law_553 : decode cL_law 553 = .ok (.invokevirtual 77, 3) := by decide +kernel
theorem dL_law_556 : decode cL_law 556 = .ok (.aload_n 2, 1) := by decide +kernel
theorem dL_law_557 : decode cL_law 557 = .ok (.aload_n 0, 1) := by decide +kernel
theorem dL_law_558 : decode cL_law 558 = .ok (.iload_n 3, 1) := by decide +kernel
theorem dL_law_559 : decode cL_law 559 = .ok (.iconst 1, 1) := by decide +kernel
theorem dL_law_560 : decode cL_law 560 = .ok (.iadd, 1) := by decide +kernel
theorem dL_law_561 : decode cL_law 561 = .ok (.iaload, 1) := by decide +kernel
theorem dL_law_562 : decode cL_law 562 = .ok (.invokevirtual 80, 3) := by decide +kernel
theorem dL_law_565 : decode cL_law 565 = .ok (.if_icmp .eq 120, 3) := by decide +kernel
theorem dL_law_568 : decode cL_law 568 = .ok (.iconst 0, 1) := by decide +kernel
theorem dL_law_569 : decode cL_law 569 = .ok (.ireturn, 1) := by decide +kernel
theorem dL_law_570 : decode cL_law 570 = .ok (.aload_n 1, 1) := by decide +kernel
theorem dL_law_571 : decode cL_law 571 = .ok (.aload_n 0, 1) := by decide +kernel
theorem dL_law_572 : decode cL_law 572 = .ok (.iload_n 3, 1) := by decide +kernel
theorem dL_law_573 : decode cL_law 573 = .ok (.iconst 1, 1) := by decide +kernel
theorem dL_law_574 : decode cL_law 574 = .ok (.iadd, 1) := by decide +kernel
theorem dL_law_575 : decode cL_law 575 = .ok (.iaload, 1) := by decide +kernel
theorem dL_law_576 : decode cL_law 576 = .ok (.invokevirtual 81, 3) := by decide +kernel
theorem dL_law_579 : decode cL_law 579 = .ok (.aload_n 2, 1) := by decide +kernel
theorem dL_law_580 : decode cL_law 580 = .ok (.aload_n 0, 1) := by decide +kernel
theorem dL_law_581 : decode cL_law 581 = .ok (.iload_n 3, 1) := by decide +kernel
theorem dL_law_582 : decode cL_law 582 = .ok (.iconst 1, 1) := by decide +kernel
theorem dL_law_583 : decode cL_law 583 = .ok (.iadd, 1) := by decide +kernel
theorem dL_law_584 : decode cL_law 584 = .ok (.iaload, 1) := by decide +kernel
theorem dL_law_585 : decode cL_law 585 = .ok (.invokevirtual 84, 3) := by decide +kernel
theorem dL_law_588 : decode cL_law 588 = .ok (.if_icmp .eq 97, 3) := by decide +kernel
theorem dL_law_591 : decode cL_law 591 = .ok (.iconst 0, 1) := by decide +kernel
theorem dL_law_592 : decode cL_law 592 = .ok (.ireturn, 1) := by decide +kernel
theorem dL_law_593 : decode cL_law 593 = .ok (.aload_n 1, 1) := by decide +kernel
theorem dL_law_594 : decode cL_law 594 = .ok (.aload_n 0, 1) := by decide +kernel
theorem dL_law_595 : decode cL_law 595 = .ok (.iload_n 3, 1) := by decide +kernel
theorem dL_law_596 : decode cL_law 596 = .ok (.iconst 1, 1) := by decide +kernel
theorem dL_law_597 : decode cL_law 597 = .ok (.iadd, 1) := by decide +kernel
theorem dL_law_598 : decode cL_law 598 = .ok (.iaload, 1) := by decide +kernel
theorem dL_law_599 : decode cL_law 599 = .ok (.invokevirtual 85, 3) := by decide +kernel
theorem dL_law_602 : decode cL_law 602 = .ok (.aload_n 2, 1) := by decide +kernel
theorem dL_law_603 : decode cL_law 603 = .ok (.aload_n 0, 1) := by decide +kernel
theorem dL_law_604 : decode cL_law 604 = .ok (.iload_n 3, 1) := by decide +kernel
theorem dL_law_605 : decode cL_law 605 = .ok (.iconst 1, 1) := by decide +kernel
theorem dL_law_606 : decode cL_law 606 = .ok (.iadd, 1) := by decide +kernel
theorem dL_law_607 : decode cL_law 607 = .ok (.iaload, 1) := by decide +kernel
theorem dL_law_608 : decode cL_law 608 = .ok (.invokevirtual 88, 3) := by decide +kernel
theorem dL_law_611 : decode cL_law 611 = .ok (.if_icmp .eq 74, 3) := by decide +kernel
theorem dL_law_614 : decode cL_law 614 = .ok (.iconst 0, 1) := by decide +kernel
theorem dL_law_615 : decode cL_law 615 = .ok (.ireturn, 1) := by decide +kernel
theorem dL_law_616 : decode cL_law 616 = .ok (.aload_n 1, 1) := by decide +kernel
theorem dL_law_617 : decode cL_law 617 = .ok (.aload_n 0, 1) := by decide +kernel
theorem dL_law_618 : decode cL_law 618 = .ok (.iload_n 3, 1) := by decide +kernel
theorem dL_law_619 : decode cL_law 619 = .ok (.iconst 1, 1) := by decide +kernel
theorem dL_law_620 : decode cL_law 620 = .ok (.iadd, 1) := by decide +kernel
theorem dL_law_621 : decode cL_law 621 = .ok (.iaload, 1) := by decide +kernel
theorem dL_law_622 : decode cL_law 622 = .ok (.invokevirtual 89, 3) := by decide +kernel
theorem dL_law_625 : decode cL_law 625 = .ok (.aload_n 2, 1) := by decide +kernel
theorem dL_law_626 : decode cL_law 626 = .ok (.aload_n 0, 1) := by decide +kernel
theorem dL_law_627 : decode cL_law 627 = .ok (.iload_n 3, 1) := by decide +kernel
theorem dL_law_628 : decode cL_law 628 = .ok (.iconst 1, 1) := by decide +kernel
theorem dL_law_629 : decode cL_law 629 = .ok (.iadd, 1) := by decide +kernel
theorem dL_law_630 : decode cL_law 630 = .ok (.iaload, 1) := by decide +kernel
theorem dL_law_631 : decode cL_law 631 = .ok (.invokevirtual 92, 3) := by decide +kernel
theorem dL_law_634 : decode cL_law 634 = .ok (.if_icmp .eq 51, 3) := by decide +kernel
theorem dL_law_637 : decode cL_law 637 = .ok (.iconst 0, 1) := by decide +kernel
theorem dL_law_638 : decode cL_law 638 = .ok (.ireturn, 1) := by decide +kernel
theorem dL_law_639 : decode cL_law 639 = .ok (.aload_n 1, 1) := by decide +kernel
theorem dL_law_640 : decode cL_law 640 = .ok (.invokevirtual 93, 3) := by decide +kernel
theorem dL_law_643 : decode cL_law 643 = .ok (.aload_n 2, 1) := by decide +kernel
theorem dL_law_644 : decode cL_law 644 = .ok (.invokevirtual 96, 3) := by decide +kernel
theorem dL_law_647 : decode cL_law 647 = .ok (.if_icmp .eq 38, 3) := by decide +kernel
theorem dL_law_650 : decode cL_law 650 = .ok (.iconst 0, 1) := by decide +kernel
theorem dL_law_651 : decode cL_law 651 = .ok (.ireturn, 1) := by decide +kernel
theorem dL_law_652 : decode cL_law 652 = .ok (.aload_n 1, 1) := by decide +kernel
theorem dL_law_653 : decode cL_law 653 = .ok (.aload_n 0, 1) := by decide +kernel
theorem dL_law_654 : decode cL_law 654 = .ok (.iload_n 3, 1) := by decide +kernel
theorem dL_law_655 : decode cL_law 655 = .ok (.iconst 1, 1) := by decide +kernel
theorem dL_law_656 : decode cL_law 656 = .ok (.iadd, 1) := by decide +kernel
theorem dL_law_657 : decode cL_law 657 = .ok (.iaload, 1) := by decide +kernel
theorem dL_law_658 : decode cL_law 658 = .ok (.aload_n 0, 1) := by decide +kernel
theorem dL_law_659 : decode cL_law 659 = .ok (.iload_n 3, 1) := by decide +kernel
theorem dL_law_660 : decode cL_law 660 = .ok (.iconst 2, 1) := by decide +kernel
theorem dL_law_661 : decode cL_law 661 = .ok (.iadd, 1) := by decide +kernel
theorem dL_law_662 : decode cL_law 662 = .ok (.iaload, 1) := by decide +kernel
theorem dL_law_663 : decode cL_law 663 = .ok (.invokevirtual 97, 3) := by decide +kernel
theorem dL_law_666 : decode cL_law 666 = .ok (.aload_n 2, 1) := by decide +kernel
theorem dL_law_667 : decode cL_law 667 = .ok (.aload_n 0, 1) := by decide +kernel
theorem dL_law_668 : decode cL_law 668 = .ok (.iload_n 3, 1) := by decide +kernel
theorem dL_law_669 : decode cL_law 669 = .ok (.iconst 1, 1) := by decide +kernel
theorem dL_law_670 : decode cL_law 670 = .ok (.iadd, 1) := by decide +kernel
theorem dL_law_671 : decode cL_law 671 = .ok (.iaload, 1) := by decide +kernel
theorem dL_law_672 : decode cL_law 672 = .ok (.aload_n 0, 1) := by decide +kernel
theorem dL_law_673 : decode cL_law 673 = .ok (.iload_n 3, 1) := by decide +kernel
theorem dL_law_674 : decode cL_law 674 = .ok (.iconst 2, 1) := by decide +kernel
theorem dL_law_675 : decode cL_law 675 = .ok (.iadd, 1) := by decide +kernel
theorem dL_law_676 : decode cL_law 676 = .ok (.iaload, 1) := by decide +kernel
theorem dL_law_677 : decode cL_law 677 = .ok (.invokevirtual 100, 3) := by decide +kernel
theorem dL_law_680 : decode cL_law 680 = .ok (.if_icmp .eq 5, 3) := by decide +kernel
theorem dL_law_683 : decode cL_law 683 = .ok (.iconst 0, 1) := by decide +kernel
theorem dL_law_684 : decode cL_law 684 = .ok (.ireturn, 1) := by decide +kernel
theorem dL_law_685 : decode cL_law 685 = .ok (.iinc 3 4, 3) := by decide +kernel
theorem dL_law_688 : decode cL_law 688 = .ok (.goto (-670), 3) := by decide +kernel
theorem dL_law_691 : decode cL_law 691 = .ok (.iconst 1, 1) := by decide +kernel
theorem dL_law_692 : decode cL_law 692 = .ok (.ireturn, 1) := by decide +kernel
