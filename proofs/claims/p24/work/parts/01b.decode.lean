set_option maxRecDepth 20000 in
theorem ggX0_init_X1_fillRow : GoodIn wsX0_init wsX1_fillRow := goodIn_r _ [23] (by decide +kernel) (by decide +kernel)
set_option maxRecDepth 20000 in
theorem gX0_init_X1_fillRow_n59 : GoodIn wsX0_init (wsX1_fillRow) := ggX0_init_X1_fillRow
theorem dX0_init_0 : decode cX0_init 0 = .ok (.aload_n 0, 1) := by decide +kernel
theorem dX0_init_1 : decode cX0_init 1 = .ok (.invokespecial 3, 3) := by decide +kernel
theorem dX0_init_4 : decode cX0_init 4 = .ok (.aload_n 0, 1) := by decide +kernel
theorem dX0_init_5 : decode cX0_init 5 = .ok (.iconst 0, 1) := by decide +kernel
theorem dX0_init_6 : decode cX0_init 6 = .ok (.putfield 9, 3) := by decide +kernel
theorem dX0_init_9 : decode cX0_init 9 = .ok (.aload_n 0, 1) := by decide +kernel
theorem dX0_init_10 : decode cX0_init 10 = .ok (.bipush 10, 2) := by decide +kernel
theorem dX0_init_12 : decode cX0_init 12 = .ok (.putfield 15, 3) := by decide +kernel
theorem dX0_init_15 : decode cX0_init 15 = .ok (.aload_n 0, 1) := by decide +kernel
theorem dX0_init_16 : decode cX0_init 16 = .ok (.iconst 0, 1) := by decide +kernel
theorem dX0_init_17 : decode cX0_init 17 = .ok (.putfield 18, 3) := by decide +kernel
theorem dX0_init_20 : decode cX0_init 20 = .ok (.aload_n 0, 1) := by decide +kernel
theorem dX0_init_21 : decode cX0_init 21 = .ok (.bipush 24, 2) := by decide +kernel
theorem dX0_init_23 : decode cX0_init 23 = .ok (.newarray .int, 2) := by decide +kernel
theorem dX0_init_25 : decode cX0_init 25 = .ok (.putfield 21, 3) := by decide +kernel
theorem dX0_init_28 : decode cX0_init 28 = .ok (.aload_n 0, 1) := by decide +kernel
theorem dX0_init_29 : decode cX0_init 29 = .ok (.bipush 24, 2) := by decide +kernel
theorem dX0_init_31 : decode cX0_init 31 = .ok (.newarray .int, 2) := by decide +kernel
theorem dX0_init_33 : decode cX0_init 33 = .ok (.putfield 25, 3) := by decide +kernel
theorem dX0_init_36 : decode cX0_init 36 = .ok (.aload_n 0, 1) := by decide +kernel
theorem dX0_init_37 : decode cX0_init 37 = .ok (.bipush 24, 2) := by decide +kernel
theorem dX0_init_39 : decode cX0_init 39 = .ok (.newarray .int, 2) := by decide +kernel
theorem dX0_init_41 : decode cX0_init 41 = .ok (.putfield 28, 3) := by decide +kernel
theorem dX0_init_44 : decode cX0_init 44 = .ok (.aload_n 0, 1) := by decide +kernel
theorem dX0_init_45 : decode cX0_init 45 = .ok (.bipush 24, 2) := by decide +kernel
theorem dX0_init_47 : decode cX0_init 47 = .ok (.newarray .int, 2) := by decide +kernel
theorem dX0_init_49 : decode cX0_init 49 = .ok (.putfield 31, 3) := by decide +kernel
theorem dX0_init_52 : decode cX0_init 52 = .ok (.aload_n 0, 1) := by decide +kernel
theorem dX0_init_53 : decode cX0_init 53 = .ok (.bipush 8, 2) := by decide +kernel
theorem dX0_init_55 : decode cX0_init 55 = .ok (.newarray .int, 2) := by decide +kernel
theorem dX0_init_57 : decode cX0_init 57 = .ok (.putfield 34, 3) := by decide +kernel
theorem dX0_init_60 : decode cX0_init 60 = .ok (.aload_n 0, 1) := by decide +kernel
theorem dX0_init_61 : decode cX0_init 61 = .ok (.bipush 8, 2) := by decide +kernel
theorem dX0_init_63 : decode cX0_init 63 = .ok (.newarray .int, 2) := by decide +kernel
theorem dX0_init_65 : decode cX0_init 65 = .ok (.putfield 37, 3) := by decide +kernel
theorem dX0_init_68 : decode cX0_init 68 = .ok (.aload_n 0, 1) := by decide +kernel
theorem dX0_init_69 : decode cX0_init 69 = .ok (.bipush 8, 2) := by decide +kernel
theorem dX0_init_71 : decode cX0_init 71 = .ok (.newarray .int, 2) := by decide +kernel
theorem dX0_init_73 : decode cX0_init 73 = .ok (.putfield 40, 3) := by decide +kernel
theorem dX0_init_76 : decode cX0_init 76 = .ok (.aload_n 0, 1) := by decide +kernel
theorem dX0_init_77 : decode cX0_init 77 = .ok (.bipush 8, 2) := by decide +kernel
theorem dX0_init_79 : decode cX0_init 79 = .ok (.newarray .int, 2) := by decide +kernel
theorem dX0_init_81 : decode cX0_init 81 = .ok (.putfield 43, 3) := by decide +kernel
theorem dX0_init_84 : decode cX0_init 84 = .ok (.aload_n 0, 1) := by decide +kernel
theorem dX0_init_85 : decode cX0_init 85 = .ok (.bipush 8, 2) := by decide +kernel
theorem dX0_init_87 : decode cX0_init 87 = .ok (.newarray .int, 2) := by decide +kernel
theorem dX0_init_89 : decode cX0_init 89 = .ok (.putfield 46, 3) := by decide +kernel
theorem dX0_init_92 : decode cX0_init 92 = .ok (.aload_n 0, 1) := by decide +kernel
theorem dX0_init_93 : decode cX0_init 93 = .ok (.bipush 8, 2) := by decide +kernel
theorem dX0_init_95 : decode cX0_init 95 = .ok (.newarray .int, 2) := by decide +kernel
theorem dX0_init_97 : decode cX0_init 97 = .ok (.putfield 49, 3) := by decide +kernel
theorem dX0_init_100 : decode cX0_init 100 = .ok (.aload_n 0, 1) := by decide +kernel
theorem dX0_init_101 : decode cX0_init 101 = .ok (.bipush 8, 2) := by decide +kernel
theorem dX0_init_103 : decode cX0_init 103 = .ok (.newarray .int, 2) := by decide +kernel
theorem dX0_init_105 : decode cX0_init 105 = .ok (.putfield 52, 3) := by decide +kernel
theorem dX0_init_108 : decode cX0_init 108 = .ok (.aload_n 0, 1) := by decide +kernel
theorem dX0_init_109 : decode cX0_init 109 = .ok (.bipush 8, 2) := by decide +kernel
theorem dX0_init_111 : decode cX0_init 111 = .ok (.newarray .int, 2) := by decide +kernel
theorem dX0_init_113 : decode cX0_init 113 = .ok (.putfield 55, 3) := by decide +kernel
theorem dX0_init_116 : decode cX0_init 116 = .ok (.aload_n 0, 1) := by decide +kernel
theorem dX0_init_117 : decode cX0_init 117 = .ok (.getfield 37, 3) := by decide +kernel
theorem dX0_init_120 : decode cX0_init 120 = .ok (.ldc 58, 2) := by decide +kernel
theorem dX0_init_122 : decode cX0_init 122 = .ok (.invokestatic 59, 3) := by decide +kernel
theorem dX0_init_125 : decode cX0_init 125 = .ok (.aload_n 0, 1) := by decide +kernel
theorem dX0_init_126 : decode cX0_init 126 = .ok (.getfield 43, 3) := by decide +kernel
theorem dX0_init_129 : decode cX0_init 129 = .ok (.ldc 58, 2) := by decide +kernel
theorem dX0_init_131 : decode cX0_init 131 = .ok (.invokestatic 59, 3) := by decide +kernel
theorem dX0_init_134 : decode cX0_init 134 = .ok (.aload_n 0, 1) := by decide +kernel
theorem dX0_init_135 : decode cX0_init 135 = .ok (.getfield 49, 3) := by decide +kernel
theorem dX0_init_138 : decode cX0_init 138 = .ok (.ldc 58, 2) := by decide +kernel
theorem dX0_init_140 : decode cX0_init 140 = .ok (.invokestatic 59, 3) := by decide +kernel
theorem dX0_init_143 : decode cX0_init 143 = .ok (.aload_n 0, 1) := by decide +kernel
theorem dX0_init_144 : decode cX0_init 144 = .ok (.getfield 55, 3) := by decide +kernel
theorem dX0_init_147 : decode cX0_init 147 = .ok (.ldc 58, 2) := by decide +kernel
theorem dX0_init_149 : decode cX0_init 149 = .ok (.invokestatic 59, 3) := by decide +kernel
theorem dX0_init_152 : decode cX0_init 152 = .ok (.return_, 1) := by decide +kernel
set_option maxRecDepth 20000 in
theorem ggX0_copyFrom_X1_copyRow : GoodIn wsX0_copyFrom wsX1_copyRow := goodIn_r _ [18, 19, 20, 21, 22, 23, 24, 25, 26] (by decide +kernel) (by decide +kernel)
set_option maxRecDepth 20000 in
theorem gX0_copyFrom_X1_copyRow_n63 : GoodIn wsX0_copyFrom (wsX1_copyRow) := ggX0_copyFrom_X1_copyRow
theorem dX0_copyFrom_0 : decode cX0_copyFrom 0 = .ok (.aload_n 0, 1) := by decide +kernel
theorem dX0_copyFrom_1 : decode cX0_copyFrom 1 = .ok (.aload_n 1, 1) := by decide +kernel
theorem dX0_copyFrom_2 : decode cX0_copyFrom 2 = .ok (.getfield 9, 3) := by decide +kernel
theorem dX0_copyFrom_5 : decode cX0_copyFrom 5 = .ok (.putfield 9, 3) := by decide +kernel
theorem dX0_copyFrom_8 : decode cX0_copyFrom 8 = .ok (.aload_n 0, 1) := by decide +kernel
theorem dX0_copyFrom_9 : decode cX0_copyFrom 9 = .ok (.aload_n 1, 1) := by decide +kernel
theorem dX0_copyFrom_10 : decode cX0_copyFrom 10 = .ok (.getfield 15, 3) := by decide +kernel
theorem dX0_copyFrom_13 : decode cX0_copyFrom 13 = .ok (.putfield 15, 3) := by decide +kernel
theorem dX0_copyFrom_16 : decode cX0_copyFrom 16 = .ok (.aload_n 0, 1) := by decide +kernel
theorem dX0_copyFrom_17 : decode cX0_copyFrom 17 = .ok (.aload_n 1, 1) := by decide +kernel
theorem dX0_copyFrom_18 : decode cX0_copyFrom 18 = .ok (.getfield 18, 3) := by decide +kernel
theorem dX0_copyFrom_21 : decode cX0_copyFrom 21 = .ok (.putfield 18, 3) := by decide +kernel
theorem dX0_copyFrom_24 : decode cX0_copyFrom 24 = .ok (.aload_n 1, 1) := by decide +kernel
theorem dX0_copyFrom_25 : decode cX0_copyFrom 25 = .ok (.getfield 21, 3) := by decide +kernel
theorem dX0_copyFrom_28 : decode cX0_copyFrom 28 = .ok (.aload_n 0, 1) := by decide +kernel
theorem dX0_copyFrom_29 : decode cX0_copyFrom 29 = .ok (.getfield 21, 3) := by decide +kernel
theorem dX0_copyFrom_32 : decode cX0_copyFrom 32 = .ok (.invokestatic 63, 3) := by decide +kernel
theorem dX0_copyFrom_35 : decode cX0_copyFrom 35 = .ok (.aload_n 1, 1) := by decide +kernel
theorem dX0_copyFrom_36 : decode cX0_copyFrom 36 = .ok (.getfield 25, 3) := by decide +kernel
theorem dX0_copyFrom_39 : decode cX0_copyFrom 39 = .ok (.aload_n 0, 1) := by decide +kernel
theorem dX0_copyFrom_40 : decode cX0_copyFrom 40 = .ok (.getfield 25, 3) := by decide +kernel
theorem dX0_copyFrom_43 : decode cX0_copyFrom 43 = .ok (.invokestatic 63, 3) := by decide +kernel
theorem dX0_copyFrom_46 : decode cX0_copyFrom 46 = .ok (.aload_n 1, 1) := by decide +kernel
theorem dX0_copyFrom_47 : decode cX0_copyFrom 47 = .ok (.getfield 28, 3) := by decide +kernel
theorem dX0_copyFrom_50 : decode cX0_copyFrom 50 = .ok (.aload_n 0, 1) := by decide +kernel
theorem dX0_copyFrom_51 : decode cX0_copyFrom 51 = .ok (.getfield 28, 3) := by decide +kernel
theorem dX0_copyFrom_54 : decode cX0_copyFrom 54 = .ok (.invokestatic 63, 3) := by decide +kernel
theorem dX0_copyFrom_57 : decode cX0_copyFrom 57 = .ok (.aload_n 1, 1) := by decide +kernel
theorem dX0_copyFrom_58 : decode cX0_copyFrom 58 = .ok (.getfield 31, 3) := by decide +kernel
theorem dX0_copyFrom_61 : decode cX0_copyFrom 61 = .ok (.aload_n 0, 1) := by decide +kernel
theorem dX0_copyFrom_62 : decode cX0_copyFrom 62 = .ok (.getfield 31, 3) := by decide +kernel
theorem dX0_copyFrom_65 : decode cX0_copyFrom 65 = .ok (.invokestatic 63, 3) := by decide +kernel
theorem dX0_copyFrom_68 : decode cX0_copyFrom 68 = .ok (.aload_n 1, 1) := by decide +kernel
theorem dX0_copyFrom_69 : decode cX0_copyFrom 69 = .ok (.getfield 34, 3) := by decide +kernel
theorem dX0_copyFrom_72 : decode cX0_copyFrom 72 = .ok (.aload_n 0, 1) := by decide +kernel
theorem dX0_copyFrom_73 : decode cX0_copyFrom 73 = .ok (.getfield 34, 3) := by decide +kernel
theorem dX0_copyFrom_76 : decode cX0_copyFrom 76 = .ok (.invokestatic 63, 3) := by decide +kernel
theorem dX0_copyFrom_79 : decode cX0_copyFrom 79 = .ok (.aload_n 1, 1) := by decide +kernel
theorem dX0_copyFrom_80 : decode cX0_copyFrom 80 = .ok (.getfield 37, 3) := by decide +kernel
theorem dX0_copyFrom_83 : decode cX0_copyFrom 83 = .ok (.aload_n 0, 1) := by decide +kernel
theorem dX0_copyFrom_84 : decode cX0_copyFrom 84 = .ok (.getfield 37, 3) := by decide +kernel
theorem dX0_copyFrom_87 : decode cX0_copyFrom 87 = .ok (.invokestatic 63, 3) := by decide +kernel
theorem dX0_copyFrom_90 : decode cX0_copyFrom 90 = .ok (.aload_n 1, 1) := by decide +kernel
theorem dX0_copyFrom_91 : decode cX0_copyFrom 91 = .ok (.getfield 40, 3) := by decide +kernel
theorem dX0_copyFrom_94 : decode cX0_copyFrom 94 = .ok (.aload_n 0, 1) := by decide +kernel
theorem dX0_copyFrom_95 : decode cX0_copyFrom 95 = .ok (.getfield 40, 3) := by decide +kernel
theorem dX0_copyFrom_98 : decode cX0_copyFrom 98 = .ok (.invokestatic 63, 3) := by decide +kernel
theorem dX0_copyFrom_101 : decode cX0_copyFrom 101 = .ok (.aload_n 1, 1) := by decide +kernel
theorem dX0_copyFrom_102 : decode cX0_copyFrom 102 = .ok (.getfield 43, 3) := by decide +kernel
theorem dX0_copyFrom_105 : decode cX0_copyFrom 105 = .ok (.aload_n 0, 1) := by decide +kernel
theorem dX0_copyFrom_106 : decode cX0_copyFrom 106 = .ok (.getfield 43, 3) := by decide +kernel
theorem dX0_copyFrom_109 : decode cX0_copyFrom 109 = .ok (.invokestatic 63, 3) := by decide +kernel
theorem dX0_copyFrom_112 : decode cX0_copyFrom 112 = .ok (.aload_n 1, 1) := by decide +kernel
theorem dX0_copyFrom_113 : decode cX0_copyFrom 113 = .ok (.getfield 46, 3) := by decide +kernel
theorem dX0_copyFrom_116 : decode cX0_copyFrom 116 = .ok (.aload_n 0, 1) := by decide +kernel
theorem dX0_copyFrom_117 : decode cX0_copyFrom 117 = .ok (.getfield 46, 3) := by decide +kernel
theorem dX0_copyFrom_120 : decode cX0_copyFrom 120 = .ok (.invokestatic 63, 3) := by decide +kernel
theorem dX0_copyFrom_123 : decode cX0_copyFrom 123 = .ok (.aload_n 1, 1) := by decide +kernel
theorem dX0_copyFrom_124 : decode cX0_copyFrom 124 = .ok (.getfield 49, 3) := by decide +kernel
theorem dX0_copyFrom_127 : decode cX0_copyFrom 127 = .ok (.aload_n 0, 1) := by decide +kernel
theorem dX0_copyFrom_128 : decode cX0_copyFrom 128 = .ok (.getfield 49, 3) := by decide +kernel
theorem dX0_copyFrom_131 : decode cX0_copyFrom 131 = .ok (.invokestatic 63, 3) := by decide +kernel
theorem dX0_copyFrom_134 : decode cX0_copyFrom 134 = .ok (.aload_n 1, 1) := by decide +kernel
theorem dX0_copyFrom_135 : decode cX0_copyFrom 135 = .ok (.getfield 52, 3) := by decide +kernel
theorem dX0_copyFrom_138 : decode cX0_copyFrom 138 = .ok (.aload_n 0, 1) := by decide +kernel
theorem dX0_copyFrom_139 : decode cX0_copyFrom 139 = .ok (.getfield 52, 3) := by decide +kernel
theorem dX0_copyFrom_142 : decode cX0_copyFrom 142 = .ok (.invokestatic 63, 3) := by decide +kernel
theorem dX0_copyFrom_145 : decode cX0_copyFrom 145 = .ok (.aload_n 1, 1) := by decide +kernel
theorem dX0_copyFrom_146 : decode cX0_copyFrom 146 = .ok (.getfield 55, 3) := by decide +kernel
theorem dX0_copyFrom_149 : decode cX0_copyFrom 149 = .ok (.aload_n 0, 1) := by decide +kernel
theorem dX0_copyFrom_150 : decode cX0_copyFrom 150 = .ok (.getfield 55, 3) := by decide +kernel
theorem dX0_copyFrom_153 : decode cX0_copyFrom 153 = .ok (.invokestatic 63, 3) := by decide +kernel
theorem dX0_copyFrom_156 : decode cX0_copyFrom 156 = .ok (.return_, 1) := by decide +kernel
set_option maxRecDepth 20000 in
theorem ggX1_init_X0_init : GoodIn wsX1_init wsX0_init := goodIn_r _ [17, 18, 2, 3, 19, 20, 21, 11, 22, 23, 24, 25, 26, 27, 28, 29, 30, 31, 32, 33, 34, 35, 36, 37, 38, 39, 40, 41, 42, 43, 44, 45, 46, 47, 48, 49, 50, 51, 52] (by decide +kernel) (by decide +kernel)
set_option maxRecDepth 20000 in
theorem gX1_init_X0_init : GoodIn wsX1_init (wsX0_init) := ggX1_init_X0_init
theorem dX1_init_0 : decode cX1_init 0 = .ok (.aload_n 0, 1) := by decide +kernel
theorem dX1_init_1 : decode cX1_init 1 = .ok (.invokespecial 1, 3) := by decide +kernel
theorem dX1_init_4 : decode cX1_init 4 = .ok (.aload_n 0, 1) := by decide +kernel
theorem dX1_init_5 : decode cX1_init 5 = .ok (.new 7, 3) := by decide +kernel
theorem dX1_init_8 : decode cX1_init 8 = .ok (.dup, 1) := by decide +kernel
theorem dX1_init_9 : decode cX1_init 9 = .ok (.invokespecial 9, 3) := by decide +kernel
theorem dX1_init_12 : decode cX1_init 12 = .ok (.putfield 10, 3) := by decide +kernel
theorem dX1_init_15 : decode cX1_init 15 = .ok (.aload_n 0, 1) := by decide +kernel
theorem dX1_init_16 : decode cX1_init 16 = .ok (.iconst 5, 1) := by decide +kernel
theorem dX1_init_17 : decode cX1_init 17 = .ok (.anewarray 7, 3) := by decide +kernel
theorem dX1_init_20 : decode cX1_init 20 = .ok (.putfield 16, 3) := by decide +kernel
theorem dX1_init_23 : decode cX1_init 23 = .ok (.aload_n 0, 1) := by decide +kernel
theorem dX1_init_24 : decode cX1_init 24 = .ok (.iconst 0, 1) := by decide +kernel
theorem dX1_init_25 : decode cX1_init 25 = .ok (.putfield 20, 3) := by decide +kernel
theorem dX1_init_28 : decode cX1_init 28 = .ok (.aload_n 0, 1) := by decide +kernel
theorem dX1_init_29 : decode cX1_init 29 = .ok (.iconst 0, 1) := by decide +kernel
theorem dX1_init_30 : decode cX1_init 30 = .ok (.putfield 24, 3) := by decide +kernel
theorem dX1_init_33 : decode cX1_init 33 = .ok (.aload_n 0, 1) := by decide +kernel
theorem dX1_init_34 : decode cX1_init 34 = .ok (.bipush 24, 2) := by decide +kernel
theorem dX1_init_36 : decode cX1_init 36 = .ok (.newarray .int, 2) := by decide +kernel
theorem dX1_init_38 : decode cX1_init 38 = .ok (.putfield 27, 3) := by decide +kernel
theorem dX1_init_41 : decode cX1_init 41 = .ok (.aload_n 0, 1) := by decide +kernel
theorem dX1_init_42 : decode cX1_init 42 = .ok (.bipush 24, 2) := by decide +kernel
theorem dX1_init_44 : decode cX1_init 44 = .ok (.newarray .int, 2) := by decide +kernel
theorem dX1_init_46 : decode cX1_init 46 = .ok (.putfield 31, 3) := by decide +kernel
theorem dX1_init_49 : decode cX1_init 49 = .ok (.aload_n 0, 1) := by decide +kernel
theorem dX1_init_50 : decode cX1_init 50 = .ok (.bipush 8, 2) := by decide +kernel
theorem dX1_init_52 : decode cX1_init 52 = .ok (.newarray .int, 2) := by decide +kernel
theorem dX1_init_54 : decode cX1_init 54 = .ok (.putfield 34, 3) := by decide +kernel
theorem dX1_init_57 : decode cX1_init 57 = .ok (.iconst 0, 1) := by decide +kernel
theorem dX1_init_58 : decode cX1_init 58 = .ok (.istore_n 1, 1) := by decide +kernel
theorem dX1_init_59 : decode cX1_init 59 = .ok (.iload_n 1, 1) := by decide +kernel
theorem dX1_init_60 : decode cX1_init 60 = .ok (.iconst 5, 1) := by decide +kernel
theorem dX1_init_61 : decode cX1_init 61 = .ok (.if_icmp .ge 22, 3) := by decide +kernel
theorem dX1_init_64 : decode cX1_init 64 = .ok (.aload_n 0, 1) := by decide +kernel
theorem dX1_init_65 : decode cX1_init 65 = .ok (.getfield 16, 3) := by decide +kernel
theorem dX1_init_68 : decode cX1_init 68 = .ok (.iload_n 1, 1) := by decide +kernel
theorem dX1_init_69 : decode cX1_init 69 = .ok (.new 7, 3) := by decide +kernel
theorem dX1_init_72 : decode cX1_init 72 = .ok (.dup, 1) := by decide +kernel
theorem dX1_init_73 : decode cX1_init 73 = .ok (.invokespecial 9, 3) := by decide +kernel
theorem dX1_init_76 : decode cX1_init 76 = .ok (.aastore, 1) := by decide +kernel
theorem dX1_init_77 : decode cX1_init 77 = .ok (.iinc 1 1, 3) := by decide +kernel
theorem dX1_init_80 : decode cX1_init 80 = .ok (.goto (-21), 3) := by decide +kernel
theorem dX1_init_83 : decode cX1_init 83 = .ok (.return_, 1) := by decide +kernel
set_option maxRecDepth 20000 in
theorem ggX1_setDrift_X1_isCell : GoodIn wsX1_setDrift wsX1_isCell := goodIn_r _ [7] (by decide +kernel) (by decide +kernel)
set_option maxRecDepth 20000 in
theorem gX1_setDrift_X1_isCell : GoodIn wsX1_setDrift (va_wsS RX1 37 yX1_isCell wsX1_isCell) := goodIn_app (goodIn_of _ (by decide +kernel)) ggX1_setDrift_X1_isCell
set_option maxRecDepth 20000 in
theorem ggX1_setDrift_X1_isWithin : GoodIn wsX1_setDrift wsX1_isWithin := goodIn_r _ [10] (by decide +kernel) (by decide +kernel)
set_option maxRecDepth 20000 in
theorem gX1_setDrift_X1_isWithin : GoodIn wsX1_setDrift (va_wsS RX1 41 yX1_isWithin wsX1_isWithin) := goodIn_app (goodIn_of _ (by decide +kernel)) ggX1_setDrift_X1_isWithin
set_option maxRecDepth 20000 in
theorem ggX1_setDrift_X1_remember : GoodIn wsX1_setDrift wsX1_remember := goodIn_r _ [14, 15, 16, 17, 2, 18, 19, 20, 6, 21, 22, 23, 24, 25, 26, 27, 28, 29, 30, 31, 32, 33, 34, 35, 36, 37, 38, 39, 40, 41, 42, 43, 44, 45, 46, 47, 48, 49, 50, 51, 52, 53, 54, 55, 56, 57, 58, 59, 60, 61, 62, 63, 64, 65, 66, 67, 68, 69, 70, 71, 72, 73, 74, 75, 76, 77] (by decide +kernel) (by decide +kernel)
set_option maxRecDepth 20000 in
theorem gX1_setDrift_X1_remember : GoodIn wsX1_setDrift (wsV RX1 46 RX1 yX1_remember wsX1_remember) := goodIn_app (goodIn_of _ (by decide +kernel)) ggX1_setDrift_X1_remember
theorem dX1_setDrift_0 : decode cX1_setDrift 0 = .ok (.iload_n 1, 1) := by decide +kernel
theorem dX1_setDrift_1 : decode cX1_setDrift 1 = .ok (.invokestatic 37, 3) := by decide +kernel
theorem dX1_setDrift_4 : decode cX1_setDrift 4 = .ok (.ifCond .eq 13, 3) := by decide +kernel
theorem dX1_setDrift_7 : decode cX1_setDrift 7 = .ok (.iload_n 2, 1) := by decide +kernel
theorem dX1_setDrift_8 : decode cX1_setDrift 8 = .ok (.bipush (-3), 2) := by decide +kernel
theorem dX1_setDrift_10 : decode cX1_setDrift 10 = .ok (.iconst 3, 1) := by decide +kernel
theorem dX1_setDrift_11 : decode cX1_setDrift 11 = .ok (.invokestatic 41, 3) := by decide +kernel
theorem dX1_setDrift_14 : decode cX1_setDrift 14 = .ok (.ifCond .ne 6, 3) := by decide +kernel
theorem dX1_setDrift_17 : decode cX1_setDrift 17 = .ok (.ldc 45, 2) := by decide +kernel
theorem dX1_setDrift_19 : decode cX1_setDrift 19 = .ok (.ireturn, 1) := by decide +kernel
theorem dX1_setDrift_20 : decode cX1_setDrift 20 = .ok (.aload_n 0, 1) := by decide +kernel
theorem dX1_setDrift_21 : decode cX1_setDrift 21 = .ok (.invokevirtual 46, 3) := by decide +kernel
theorem dX1_setDrift_24 : decode cX1_setDrift 24 = .ok (.aload_n 0, 1) := by decide +kernel
theorem dX1_setDrift_25 : decode cX1_setDrift 25 = .ok (.getfield 10, 3) := by decide +kernel
theorem dX1_setDrift_28 : decode cX1_setDrift 28 = .ok (.getfield 49, 3) := by decide +kernel
theorem dX1_setDrift_31 : decode cX1_setDrift 31 = .ok (.iload_n 1, 1) := by decide +kernel
theorem dX1_setDrift_32 : decode cX1_setDrift 32 = .ok (.iaload, 1) := by decide +kernel
theorem dX1_setDrift_33 : decode cX1_setDrift 33 = .ok (.istore_n 3, 1) := by decide +kernel
theorem dX1_setDrift_34 : decode cX1_setDrift 34 = .ok (.aload_n 0, 1) := by decide +kernel
theorem dX1_setDrift_35 : decode cX1_setDrift 35 = .ok (.getfield 10, 3) := by decide +kernel
theorem dX1_setDrift_38 : decode cX1_setDrift 38 = .ok (.getfield 49, 3) := by decide +kernel
theorem dX1_setDrift_41 : decode cX1_setDrift 41 = .ok (.iload_n 1, 1) := by decide +kernel
theorem dX1_setDrift_42 : decode cX1_setDrift 42 = .ok (.iload_n 2, 1) := by decide +kernel
theorem dX1_setDrift_43 : decode cX1_setDrift 43 = .ok (.iastore, 1) := by decide +kernel
theorem dX1_setDrift_44 : decode cX1_setDrift 44 = .ok (.iload_n 3, 1) := by decide +kernel
theorem dX1_setDrift_45 : decode cX1_setDrift 45 = .ok (.ireturn, 1) := by decide +kernel
set_option maxRecDepth 20000 in
theorem ggX1_pass_X1_isWithin : GoodIn wsX1_pass wsX1_isWithin := goodIn_r _ [10] (by decide +kernel) (by decide +kernel)
set_option maxRecDepth 20000 in
theorem gX1_pass_X1_isWithin : GoodIn wsX1_pass (va_wsS RX1 41 yX1_isWithin wsX1_isWithin) := goodIn_app (goodIn_of _ (by decide +kernel)) ggX1_pass_X1_isWithin
set_option maxRecDepth 20000 in
theorem ggX1_pass_X1_remember : GoodIn wsX1_pass wsX1_remember := goodIn_r _ [14, 15, 16, 17, 2, 18, 19, 20, 9, 21, 22, 23, 24, 25, 26, 27, 28, 29, 30, 31, 32, 33, 34, 35, 36, 37, 38, 39, 40, 41, 42, 43, 44, 45, 46, 47, 48, 49, 50, 51, 52, 53, 54, 55, 56, 57, 58, 59, 60, 61, 62, 63, 64, 65, 66, 67, 68, 69, 70, 71, 72, 73, 74, 75, 76, 77] (by decide +kernel) (by decide +kernel)
set_option maxRecDepth 20000 in
theorem gX1_pass_X1_remember : GoodIn wsX1_pass (wsV RX1 46 RX1 yX1_remember wsX1_remember) := goodIn_app (goodIn_of _ (by decide +kernel)) ggX1_pass_X1_remember
theorem dX1_pass_0 : decode cX1_pass 0 = .ok (.iload_n 1, 1) := by decide +kernel
theorem dX1_pass_1 : decode cX1_pass 1 = .ok (.iconst 1, 1) := by decide +kernel
theorem dX1_pass_2 : decode cX1_pass 2 = .ok (.bipush 60, 2) := by decide +kernel
theorem dX1_pass_4 : decode cX1_pass 4 = .ok (.invokestatic 41, 3) := by decide +kernel
theorem dX1_pass_7 : decode cX1_pass 7 = .ok (.ifCond .ne 6, 3) := by decide +kernel
theorem dX1_pass_10 : decode cX1_pass 10 = .ok (.ldc 45, 2) := by decide +kernel
theorem dX1_pass_12 : decode cX1_pass 12 = .ok (.ireturn, 1) := by decide +kernel
theorem dX1_pass_13 : decode cX1_pass 13 = .ok (.aload_n 0, 1) := by decide +kernel
theorem dX1_pass_14 : decode cX1_pass 14 = .ok (.getfield 10, 3) := by decide +kernel
theorem dX1_pass_17 : decode cX1_pass 17 = .ok (.getfield 52, 3) := by decide +kernel
theorem dX1_pass_20 : decode cX1_pass 20 = .ok (.iload_n 1, 1) := by decide +kernel
theorem dX1_pass_21 : decode cX1_pass 21 = .ok (.iadd, 1) := by decide +kernel
theorem dX1_pass_22 : decode cX1_pass 22 = .ok (.sipush 2000, 3) := by decide +kernel
theorem dX1_pass_25 : decode cX1_pass 25 = .ok (.if_icmp .le 6, 3) := by decide +kernel
theorem dX1_pass_28 : decode cX1_pass 28 = .ok (.ldc 55, 2) := by decide +kernel
theorem dX1_pass_30 : decode cX1_pass 30 = .ok (.ireturn, 1) := by decide +kernel
theorem dX1_pass_31 : decode cX1_pass 31 = .ok (.aload_n 0, 1) := by decide +kernel
theorem dX1_pass_32 : decode cX1_pass 32 = .ok (.invokevirtual 46, 3) := by decide +kernel
theorem dX1_pass_35 : decode cX1_pass 35 = .ok (.iconst 0, 1) := by decide +kernel
theorem dX1_pass_36 : decode cX1_pass 36 = .ok (.istore_n 2, 1) := by decide +kernel
theorem dX1_pass_37 : decode cX1_pass 37 = .ok (.iload_n 2, 1) := by decide +kernel
theorem dX1_pass_38 : decode cX1_pass 38 = .ok (.bipush 24, 2) := by decide +kernel
theorem dX1_pass_40 : decode cX1_pass 40 = .ok (.if_icmp .ge 32, 3) := by decide +kernel
theorem dX1_pass_43 : decode cX1_pass 43 = .ok (.aload_n 0, 1) := by decide +kernel
theorem dX1_pass_44 : decode cX1_pass 44 = .ok (.getfield 10, 3) := by decide +kernel
theorem dX1_pass_47 : decode cX1_pass 47 = .ok (.getfield 56, 3) := by decide +kernel
theorem dX1_pass_50 : decode cX1_pass 50 = .ok (.iload_n 2, 1) := by decide +kernel
theorem dX1_pass_51 : decode cX1_pass 51 = .ok (.dup2, 1) := by decide +kernel
theorem dX1_pass_52 : decode cX1_pass 52 = .ok (.iaload, 1) := by decide +kernel
theorem dX1_pass_53 : decode cX1_pass 53 = .ok (.aload_n 0, 1) := by decide +kernel
theorem dX1_pass_54 : decode cX1_pass 54 = .ok (.getfield 10, 3) := by decide +kernel
theorem dX1_pass_57 : decode cX1_pass 57 = .ok (.getfield 49, 3) := by decide +kernel
theorem dX1_pass_60 : decode cX1_pass 60 = .ok (.iload_n 2, 1) := by decide +kernel
theorem dX1_pass_61 : decode cX1_pass 61 = .ok (.iaload, 1) := by decide +kernel
theorem dX1_pass_62 : decode cX1_pass 62 = .ok (.iload_n 1, 1) := by decide +kernel
theorem dX1_pass_63 : decode cX1_pass 63 = .ok (.imul, 1) := by decide +kernel
theorem dX1_pass_64 : decode cX1_pass 64 = .ok (.iadd, 1) := by decide +kernel
theorem dX1_pass_65 : decode cX1_pass 65 = .ok (.iastore, 1) := by decide +kernel
theorem dX1_pass_66 : decode cX1_pass 66 = .ok (.iinc 2 1, 3) := by decide +kernel
theorem dX1_pass_69 : decode cX1_pass 69 = .ok (.goto (-32), 3) := by decide +kernel
theorem dX1_pass_72 : decode cX1_pass 72 = .ok (.aload_n 0, 1) := by decide +kernel
theorem dX1_pass_73 : decode cX1_pass 73 = .ok (.getfield 10, 3) := by decide +kernel
theorem dX1_pass_76 : decode cX1_pass 76 = .ok (.dup, 1) := by decide +kernel
theorem dX1_pass_77 : decode cX1_pass 77 = .ok (.getfield 52, 3) := by decide +kernel
theorem dX1_pass_80 : decode cX1_pass 80 = .ok (.iload_n 1, 1) := by decide +kernel
theorem dX1_pass_81 : decode cX1_pass 81 = .ok (.iadd, 1) := by decide +kernel
theorem dX1_pass_82 : decode cX1_pass 82 = .ok (.putfield 52, 3) := by decide +kernel
theorem dX1_pass_85 : decode cX1_pass 85 = .ok (.aload_n 0, 1) := by decide +kernel
theorem dX1_pass_86 : decode cX1_pass 86 = .ok (.getfield 10, 3) := by decide +kernel
theorem dX1_pass_89 : decode cX1_pass 89 = .ok (.getfield 52, 3) := by decide +kernel
theorem dX1_pass_92 : decode cX1_pass 92 = .ok (.ireturn, 1) := by decide +kernel
set_option maxRecDepth 20000 in
theorem ggX1_tare_X1_isCell : GoodIn wsX1_tare wsX1_isCell := goodIn_r _ [12] (by decide +kernel) (by decide +kernel)
set_option maxRecDepth 20000 in
theorem gX1_tare_X1_isCell : GoodIn wsX1_tare (va_wsS RX1 37 yX1_isCell wsX1_isCell) := goodIn_app (goodIn_of _ (by decide +kernel)) ggX1_tare_X1_isCell
set_option maxRecDepth 20000 in
theorem ggX1_tare_X1_weighAll : GoodIn wsX1_tare wsX1_weighAll := goodIn_r _ [16, 3, 4, 2, 17, 18, 19, 20, 11, 21, 22, 23, 24, 25, 26, 27, 28, 29, 30, 31, 32, 33, 34, 35, 9, 10, 12, 36, 37, 38, 39, 75, 76, 77, 78, 79, 80, 81, 82, 83, 84, 85, 86, 87, 88, 89, 90, 91, 92, 93, 94, 95, 96] (by decide +kernel) (by decide +kernel)
set_option maxRecDepth 20000 in
theorem gX1_tare_X1_weighAll : GoodIn wsX1_tare (wsV RX1 59 RX1 yX1_weighAll wsX1_weighAll) := goodIn_app (goodIn_of _ (by decide +kernel)) ggX1_tare_X1_weighAll
set_option maxRecDepth 20000 in
theorem ggX1_tare_X1_remember : GoodIn wsX1_tare wsX1_remember := goodIn_r _ [43, 44, 45, 46, 3, 47, 48, 49, 11, 50, 51, 52, 53, 54, 55, 56, 57, 58, 59, 60, 61, 62, 63, 64, 65, 66, 67, 68, 69, 70, 71, 72, 73, 74, 20, 21, 22, 23, 24, 25, 26, 27, 28, 29, 75, 76, 77, 78, 79, 80, 81, 82, 83, 84, 85, 86, 87, 88, 89, 90, 91, 92, 93, 94, 95, 96] (by decide +kernel) (by decide +kernel)
set_option maxRecDepth 20000 in
theorem gX1_tare_X1_remember : GoodIn wsX1_tare (wsV RX1 46 RX1 yX1_remember wsX1_remember) := goodIn_app (goodIn_of _ (by decide +kernel)) ggX1_tare_X1_remember
theorem dX1_tare_0 : decode cX1_tare 0 = .ok (.iload_n 1, 1) := by decide +kernel
theorem dX1_tare_1 : decode cX1_tare 1 = .ok (.invokestatic 37, 3) := by decide +kernel
theorem dX1_tare_4 : decode cX1_tare 4 = .ok (.ifCond .ne 6, 3) := by decide +kernel
theorem dX1_tare_7 : decode cX1_tare 7 = .ok (.ldc 45, 2) := by decide +kernel
theorem dX1_tare_9 : decode cX1_tare 9 = .ok (.ireturn, 1) := by decide +kernel
theorem dX1_tare_10 : decode cX1_tare 10 = .ok (.aload_n 0, 1) := by decide +kernel
theorem dX1_tare_11 : decode cX1_tare 11 = .ok (.invokevirtual 59, 3) := by decide +kernel
theorem dX1_tare_14 : decode cX1_tare 14 = .ok (.aload_n 0, 1) := by decide +kernel
theorem dX1_tare_15 : decode cX1_tare 15 = .ok (.getfield 27, 3) := by decide +kernel
theorem dX1_tare_18 : decode cX1_tare 18 = .ok (.iload_n 1, 1) := by decide +kernel
theorem dX1_tare_19 : decode cX1_tare 19 = .ok (.iaload, 1) := by decide +kernel
theorem dX1_tare_20 : decode cX1_tare 20 = .ok (.aload_n 0, 1) := by decide +kernel
theorem dX1_tare_21 : decode cX1_tare 21 = .ok (.getfield 10, 3) := by decide +kernel
theorem dX1_tare_24 : decode cX1_tare 24 = .ok (.getfield 56, 3) := by decide +kernel
theorem dX1_tare_27 : decode cX1_tare 27 = .ok (.iload_n 1, 1) := by decide +kernel
theorem dX1_tare_28 : decode cX1_tare 28 = .ok (.iaload, 1) := by decide +kernel
theorem dX1_tare_29 : decode cX1_tare 29 = .ok (.if_icmp .le 6, 3) := by decide +kernel
theorem dX1_tare_32 : decode cX1_tare 32 = .ok (.ldc 55, 2) := by decide +kernel
theorem dX1_tare_34 : decode cX1_tare 34 = .ok (.ireturn, 1) := by decide +kernel
theorem dX1_tare_35 : decode cX1_tare 35 = .ok (.aload_n 0, 1) := by decide +kernel
theorem dX1_tare_36 : decode cX1_tare 36 = .ok (.invokevirtual 46, 3) := by decide +kernel
theorem dX1_tare_39 : decode cX1_tare 39 = .ok (.aload_n 0, 1) := by decide +kernel
theorem dX1_tare_40 : decode cX1_tare 40 = .ok (.getfield 10, 3) := by decide +kernel
theorem dX1_tare_43 : decode cX1_tare 43 = .ok (.getfield 62, 3) := by decide +kernel
theorem dX1_tare_46 : decode cX1_tare 46 = .ok (.iload_n 1, 1) := by decide +kernel
theorem dX1_tare_47 : decode cX1_tare 47 = .ok (.aload_n 0, 1) := by decide +kernel
theorem dX1_tare_48 : decode cX1_tare 48 = .ok (.getfield 27, 3) := by decide +kernel
theorem dX1_tare_51 : decode cX1_tare 51 = .ok (.iload_n 1, 1) := by decide +kernel
theorem dX1_tare_52 : decode cX1_tare 52 = .ok (.iaload, 1) := by decide +kernel
theorem dX1_tare_53 : decode cX1_tare 53 = .ok (.iastore, 1) := by decide +kernel
theorem dX1_tare_54 : decode cX1_tare 54 = .ok (.aload_n 0, 1) := by decide +kernel
theorem dX1_tare_55 : decode cX1_tare 55 = .ok (.getfield 10, 3) := by decide +kernel
theorem dX1_tare_58 : decode cX1_tare 58 = .ok (.getfield 65, 3) := by decide +kernel
theorem dX1_tare_61 : decode cX1_tare 61 = .ok (.iload_n 1, 1) := by decide +kernel
theorem dX1_tare_62 : decode cX1_tare 62 = .ok (.aload_n 0, 1) := by decide +kernel
theorem dX1_tare_63 : decode cX1_tare 63 = .ok (.getfield 10, 3) := by decide +kernel
theorem dX1_tare_66 : decode cX1_tare 66 = .ok (.getfield 52, 3) := by decide +kernel
theorem dX1_tare_69 : decode cX1_tare 69 = .ok (.iastore, 1) := by decide +kernel
theorem dX1_tare_70 : decode cX1_tare 70 = .ok (.aload_n 0, 1) := by decide +kernel
theorem dX1_tare_71 : decode cX1_tare 71 = .ok (.getfield 10, 3) := by decide +kernel
theorem dX1_tare_74 : decode cX1_tare 74 = .ok (.getfield 62, 3) := by decide +kernel
theorem dX1_tare_77 : decode cX1_tare 77 = .ok (.iload_n 1, 1) := by decide +kernel
theorem dX1_tare_78 : decode cX1_tare 78 = .ok (.iaload, 1) := by decide +kernel
theorem dX1_tare_79 : decode cX1_tare 79 = .ok (.ireturn, 1) := by decide +kernel
set_option maxRecDepth 20000 in
theorem ggX1_board_X1_isWeight : GoodIn wsX1_board wsX1_isWeight := goodIn_r _ [14, 15, 16, 13, 17] (by decide +kernel) (by decide +kernel)
set_option maxRecDepth 20000 in
theorem gX1_board_X1_isWeight : GoodIn wsX1_board (va_wsS RX1 68 yX1_isWeight wsX1_isWeight) := goodIn_app (goodIn_of _ (by decide +kernel)) ggX1_board_X1_isWeight
set_option maxRecDepth 20000 in
theorem ggX1_board_X1_isCell : GoodIn wsX1_board wsX1_isCell := goodIn_r _ [20] (by decide +kernel) (by decide +kernel)
set_option maxRecDepth 20000 in
theorem gX1_board_X1_isCell : GoodIn wsX1_board (va_wsS RX1 37 yX1_isCell wsX1_isCell) := goodIn_app (goodIn_of _ (by decide +kernel)) ggX1_board_X1_isCell
set_option maxRecDepth 20000 in
theorem ggX1_board_X1_whoIsOn : GoodIn wsX1_board wsX1_whoIsOn := goodIn_r _ [23, 4] (by decide +kernel) (by decide +kernel)
set_option maxRecDepth 20000 in
theorem gX1_board_X1_whoIsOn : GoodIn wsX1_board (va_wsS RX1 74 yX1_whoIsOn wsX1_whoIsOn) := goodIn_app (goodIn_of _ (by decide +kernel)) ggX1_board_X1_whoIsOn
set_option maxRecDepth 20000 in
theorem ggX1_board_X1_isWithin : GoodIn wsX1_board wsX1_isWithin := goodIn_r _ [17] (by decide +kernel) (by decide +kernel)
set_option maxRecDepth 20000 in
theorem gX1_board_X1_isWithin : GoodIn wsX1_board (va_wsS RX1 41 yX1_isWithin wsX1_isWithin) := goodIn_app (goodIn_of _ (by decide +kernel)) ggX1_board_X1_isWithin
set_option maxRecDepth 20000 in
theorem ggX1_board_X1_remember : GoodIn wsX1_board wsX1_remember := goodIn_r _ [27, 28, 29, 30, 2, 31, 32, 33, 13, 34, 35, 36, 37, 38, 39, 40, 41, 42, 43, 44, 45, 46, 47, 48, 49, 50, 51, 52, 53, 54, 55, 56, 57, 58, 59, 60, 61, 62, 63, 64, 65, 66, 67, 68, 69, 70, 71, 72, 73, 74, 75, 76, 77, 78, 79, 80, 81, 82, 83, 84, 85, 86, 87, 88, 89, 90] (by decide +kernel) (by decide +kernel)
set_option maxRecDepth 20000 in
theorem gX1_board_X1_remember : GoodIn wsX1_board (wsV RX1 46 RX1 yX1_remember wsX1_remember) := goodIn_app (goodIn_of _ (by decide +kernel)) ggX1_board_X1_remember
theorem dX1_board_0 : decode cX1_board 0 = .ok (.iload_n 1, 1) := by decide +kernel
theorem dX1_board_1 : decode cX1_board 1 = .ok (.invokestatic 68, 3) := by decide +kernel
theorem dX1_board_4 : decode cX1_board 4 = .ok (.ifCond .eq 17, 3) := by decide +kernel
theorem dX1_board_7 : decode cX1_board 7 = .ok (.iload_n 2, 1) := by decide +kernel
theorem dX1_board_8 : decode cX1_board 8 = .ok (.invokestatic 68, 3) := by decide +kernel
theorem dX1_board_11 : decode cX1_board 11 = .ok (.ifCond .eq 10, 3) := by decide +kernel
theorem dX1_board_14 : decode cX1_board 14 = .ok (.iload_n 3, 1) := by decide +kernel
theorem dX1_board_15 : decode cX1_board 15 = .ok (.invokestatic 37, 3) := by decide +kernel
theorem dX1_board_18 : decode cX1_board 18 = .ok (.ifCond .ne 6, 3) := by decide +kernel
theorem dX1_board_21 : decode cX1_board 21 = .ok (.ldc 45, 2) := by decide +kernel
theorem dX1_board_23 : decode cX1_board 23 = .ok (.ireturn, 1) := by decide +kernel
theorem dX1_board_24 : decode cX1_board 24 = .ok (.aload_n 0, 1) := by decide +kernel
theorem dX1_board_25 : decode cX1_board 25 = .ok (.getfield 10, 3) := by decide +kernel
theorem dX1_board_28 : decode cX1_board 28 = .ok (.getfield 71, 3) := by decide +kernel
theorem dX1_board_31 : decode cX1_board 31 = .ok (.iload_n 3, 1) := by decide +kernel
theorem dX1_board_32 : decode cX1_board 32 = .ok (.invokestatic 74, 3) := by decide +kernel
theorem dX1_board_35 : decode cX1_board 35 = .ok (.ldc 78, 2) := by decide +kernel
theorem dX1_board_37 : decode cX1_board 37 = .ok (.if_icmp .eq 6, 3) := by decide +kernel
theorem dX1_board_40 : decode cX1_board 40 = .ok (.ldc 55, 2) := by decide +kernel
theorem dX1_board_42 : decode cX1_board 42 = .ok (.ireturn, 1) := by decide +kernel
theorem dX1_board_43 : decode cX1_board 43 = .ok (.aload_n 0, 1) := by decide +kernel
theorem dX1_board_44 : decode cX1_board 44 = .ok (.getfield 10, 3) := by decide +kernel
theorem dX1_board_47 : decode cX1_board 47 = .ok (.getfield 79, 3) := by decide +kernel
theorem dX1_board_50 : decode cX1_board 50 = .ok (.istore 4, 2) := by decide +kernel
theorem dX1_board_52 : decode cX1_board 52 = .ok (.iload 4, 2) := by decide +kernel
theorem dX1_board_54 : decode cX1_board 54 = .ok (.iconst 0, 1) := by decide +kernel
theorem dX1_board_55 : decode cX1_board 55 = .ok (.bipush 7, 2) := by decide +kernel
theorem dX1_board_57 : decode cX1_board 57 = .ok (.invokestatic 41, 3) := by decide +kernel
theorem dX1_board_60 : decode cX1_board 60 = .ok (.ifCond .ne 6, 3) := by decide +kernel
theorem dX1_board_63 : decode cX1_board 63 = .ok (.ldc 82, 2) := by decide +kernel
theorem dX1_board_65 : decode cX1_board 65 = .ok (.ireturn, 1) := by decide +kernel
theorem dX1_board_66 : decode cX1_board 66 = .ok (.aload_n 0, 1) := by decide +kernel
theorem dX1_board_67 : decode cX1_board 67 = .ok (.invokevirtual 46, 3) := by decide +kernel
theorem dX1_board_70 : decode cX1_board 70 = .ok (.aload_n 0, 1) := by decide +kernel
theorem dX1_board_71 : decode cX1_board 71 = .ok (.getfield 10, 3) := by decide +kernel
theorem dX1_board_74 : decode cX1_board 74 = .ok (.getfield 83, 3) := by decide +kernel
theorem dX1_board_77 : decode cX1_board 77 = .ok (.iload 4, 2) := by decide +kernel
theorem dX1_board_79 : decode cX1_board 79 = .ok (.iload_n 1, 1) := by decide +kernel
theorem dX1_board_80 : decode cX1_board 80 = .ok (.iastore, 1) := by decide +kernel
theorem dX1_board_81 : decode cX1_board 81 = .ok (.aload_n 0, 1) := by decide +kernel
theorem dX1_board_82 : decode cX1_board 82 = .ok (.getfield 10, 3) := by decide +kernel
theorem dX1_board_85 : decode cX1_board 85 = .ok (.getfield 71, 3) := by decide +kernel
theorem dX1_board_88 : decode cX1_board 88 = .ok (.iload 4, 2) := by decide +kernel
theorem dX1_board_90 : decode cX1_board 90 = .ok (.iload_n 3, 1) := by decide +kernel
theorem dX1_board_91 : decode cX1_board 91 = .ok (.iastore, 1) := by decide +kernel
theorem dX1_board_92 : decode cX1_board 92 = .ok (.aload_n 0, 1) := by decide +kernel
theorem dX1_board_93 : decode cX1_board 93 = .ok (.getfield 10, 3) := by decide +kernel
theorem dX1_board_96 : decode cX1_board 96 = .ok (.getfield 86, 3) := by decide +kernel
theorem dX1_board_99 : decode cX1_board 99 = .ok (.iload 4, 2) := by decide +kernel
theorem dX1_board_101 : decode cX1_board 101 = .ok (.iload_n 2, 1) := by decide +kernel
theorem dX1_board_102 : decode cX1_board 102 = .ok (.iastore, 1) := by decide +kernel
theorem dX1_board_103 : decode cX1_board 103 = .ok (.aload_n 0, 1) := by decide +kernel
theorem dX1_board_104 : decode cX1_board 104 = .ok (.getfield 10, 3) := by decide +kernel
theorem dX1_board_107 : decode cX1_board 107 = .ok (.getfield 89, 3) := by decide +kernel
theorem dX1_board_110 : decode cX1_board 110 = .ok (.iload 4, 2) := by decide +kernel
theorem dX1_board_112 : decode cX1_board 112 = .ok (.iload_n 3, 1) := by decide +kernel
theorem dX1_board_113 : decode cX1_board 113 = .ok (.iastore, 1) := by decide +kernel
theorem dX1_board_114 : decode cX1_board 114 = .ok (.aload_n 0, 1) := by decide +kernel
theorem dX1_board_115 : decode cX1_board 115 = .ok (.getfield 10, 3) := by decide +kernel
theorem dX1_board_118 : decode cX1_board 118 = .ok (.dup, 1) := by decide +kernel
theorem dX1_board_119 : decode cX1_board 119 = .ok (.getfield 79, 3) := by decide +kernel
theorem dX1_board_122 : decode cX1_board 122 = .ok (.iconst 1, 1) := by decide +kernel
theorem dX1_board_123 : decode cX1_board 123 = .ok (.iadd, 1) := by decide +kernel
theorem dX1_board_124 : decode cX1_board 124 = .ok (.putfield 79, 3) := by decide +kernel
theorem dX1_board_127 : decode cX1_board 127 = .ok (.iload 4, 2) := by decide +kernel
theorem dX1_board_129 : decode cX1_board 129 = .ok (.ireturn, 1) := by decide +kernel
set_option maxRecDepth 20000 in
theorem ggX1_walk_X1_isWalker : GoodIn wsX1_walk wsX1_isWalker := goodIn_r _ [11, 2, 12, 68, 69, 70, 71, 72, 73, 74, 75, 76, 77, 78, 79, 80, 81, 82, 83, 84, 85, 86, 87, 88, 89] (by decide +kernel) (by decide +kernel)
set_option maxRecDepth 20000 in
theorem gX1_walk_X1_isWalker : GoodIn wsX1_walk (wsV RX1 92 RX1 yX1_isWalker wsX1_isWalker) := goodIn_app (goodIn_of _ (by decide +kernel)) ggX1_walk_X1_isWalker
set_option maxRecDepth 20000 in
theorem ggX1_walk_X1_isCell : GoodIn wsX1_walk wsX1_isCell := goodIn_r _ [15] (by decide +kernel) (by decide +kernel)
set_option maxRecDepth 20000 in
theorem gX1_walk_X1_isCell : GoodIn wsX1_walk (va_wsS RX1 37 yX1_isCell wsX1_isCell) := goodIn_app (goodIn_of _ (by decide +kernel)) ggX1_walk_X1_isCell
set_option maxRecDepth 20000 in
theorem ggX1_walk_X1_isAboard : GoodIn wsX1_walk wsX1_isAboard := goodIn_r _ [19, 2, 3, 4, 7, 8, 9, 10, 11, 12, 68, 69, 70, 71, 72, 73, 74, 75, 76, 77, 78, 79, 80, 81, 82, 83, 84, 85, 86, 87, 88, 89] (by decide +kernel) (by decide +kernel)
set_option maxRecDepth 20000 in
theorem gX1_walk_X1_isAboard : GoodIn wsX1_walk (wsV RX1 95 RX1 yX1_isAboard wsX1_isAboard) := goodIn_app (goodIn_of _ (by decide +kernel)) ggX1_walk_X1_isAboard
set_option maxRecDepth 20000 in
theorem ggX1_walk_X1_whoIsOn : GoodIn wsX1_walk wsX1_whoIsOn := goodIn_r _ [22, 4] (by decide +kernel) (by decide +kernel)
set_option maxRecDepth 20000 in
theorem gX1_walk_X1_whoIsOn : GoodIn wsX1_walk (va_wsS RX1 74 yX1_whoIsOn wsX1_whoIsOn) := goodIn_app (goodIn_of _ (by decide +kernel)) ggX1_walk_X1_whoIsOn
set_option maxRecDepth 20000 in
theorem ggX1_walk_X1_remember : GoodIn wsX1_walk wsX1_remember := goodIn_r _ [26, 27, 28, 29, 2, 30, 31, 32, 10, 33, 34, 35, 36, 37, 38, 39, 40, 41, 42, 43, 44, 45, 46, 47, 48, 49, 50, 51, 52, 53, 54, 55, 56, 57, 58, 59, 60, 61, 62, 63, 64, 65, 66, 67, 68, 69, 70, 71, 72, 73, 74, 75, 76, 77, 78, 79, 80, 81, 82, 83, 84, 85, 86, 87, 88, 89] (by decide +kernel) (by decide +kernel)
set_option maxRecDepth 20000 in
theorem gX1_walk_X1_remember : GoodIn wsX1_walk (wsV RX1 46 RX1 yX1_remember wsX1_remember) := goodIn_app (goodIn_of _ (by decide +kernel)) ggX1_walk_X1_remember
theorem dX1_walk_0 : decode cX1_walk 0 = .ok (.aload_n 0, 1) := by decide +kernel
theorem dX1_walk_1 : decode cX1_walk 1 = .ok (.iload_n 1, 1) := by decide +kernel
theorem dX1_walk_2 : decode cX1_walk 2 = .ok (.invokevirtual 92, 3) := by decide +kernel
theorem dX1_walk_5 : decode cX1_walk 5 = .ok (.ifCond .eq 10, 3) := by decide +kernel
theorem dX1_walk_8 : decode cX1_walk 8 = .ok (.iload_n 2, 1) := by decide +kernel
theorem dX1_walk_9 : decode cX1_walk 9 = .ok (.invokestatic 37, 3) := by decide +kernel
theorem dX1_walk_12 : decode cX1_walk 12 = .ok (.ifCond .ne 6, 3) := by decide +kernel
theorem dX1_walk_15 : decode cX1_walk 15 = .ok (.ldc 45, 2) := by decide +kernel
theorem dX1_walk_17 : decode cX1_walk 17 = .ok (.ireturn, 1) := by decide +kernel
theorem dX1_walk_18 : decode cX1_walk 18 = .ok (.aload_n 0, 1) := by decide +kernel
theorem dX1_walk_19 : decode cX1_walk 19 = .ok (.iload_n 1, 1) := by decide +kernel
theorem dX1_walk_20 : decode cX1_walk 20 = .ok (.invokevirtual 95, 3) := by decide +kernel
theorem dX1_walk_23 : decode cX1_walk 23 = .ok (.ifCond .eq 19, 3) := by decide +kernel
theorem dX1_walk_26 : decode cX1_walk 26 = .ok (.aload_n 0, 1) := by decide +kernel
theorem dX1_walk_27 : decode cX1_walk 27 = .ok (.getfield 10, 3) := by decide +kernel
theorem dX1_walk_30 : decode cX1_walk 30 = .ok (.getfield 71, 3) := by decide +kernel
theorem dX1_walk_33 : decode cX1_walk 33 = .ok (.iload_n 2, 1) := by decide +kernel
theorem dX1_walk_34 : decode cX1_walk 34 = .ok (.invokestatic 74, 3) := by decide +kernel
theorem dX1_walk_37 : decode cX1_walk 37 = .ok (.ldc 78, 2) := by decide +kernel
theorem dX1_walk_39 : decode cX1_walk 39 = .ok (.if_icmp .eq 6, 3) := by decide +kernel
theorem dX1_walk_42 : decode cX1_walk 42 = .ok (.ldc 55, 2) := by decide +kernel
theorem dX1_walk_44 : decode cX1_walk 44 = .ok (.ireturn, 1) := by decide +kernel
theorem dX1_walk_45 : decode cX1_walk 45 = .ok (.aload_n 0, 1) := by decide +kernel
theorem dX1_walk_46 : decode cX1_walk 46 = .ok (.invokevirtual 46, 3) := by decide +kernel
theorem dX1_walk_49 : decode cX1_walk 49 = .ok (.aload_n 0, 1) := by decide +kernel
theorem dX1_walk_50 : decode cX1_walk 50 = .ok (.getfield 10, 3) := by decide +kernel
theorem dX1_walk_53 : decode cX1_walk 53 = .ok (.getfield 89, 3) := by decide +kernel
theorem dX1_walk_56 : decode cX1_walk 56 = .ok (.aload_n 0, 1) := by decide +kernel
theorem dX1_walk_57 : decode cX1_walk 57 = .ok (.getfield 10, 3) := by decide +kernel
theorem dX1_walk_60 : decode cX1_walk 60 = .ok (.getfield 71, 3) := by decide +kernel
theorem dX1_walk_63 : decode cX1_walk 63 = .ok (.iload_n 1, 1) := by decide +kernel
theorem dX1_walk_64 : decode cX1_walk 64 = .ok (.iaload, 1) := by decide +kernel
theorem dX1_walk_65 : decode cX1_walk 65 = .ok (.invokestatic 74, 3) := by decide +kernel
theorem dX1_walk_68 : decode cX1_walk 68 = .ok (.istore_n 3, 1) := by decide +kernel
theorem dX1_walk_69 : decode cX1_walk 69 = .ok (.aload_n 0, 1) := by decide +kernel
theorem dX1_walk_70 : decode cX1_walk 70 = .ok (.getfield 10, 3) := by decide +kernel
theorem dX1_walk_73 : decode cX1_walk 73 = .ok (.getfield 71, 3) := by decide +kernel
theorem dX1_walk_76 : decode cX1_walk 76 = .ok (.iload_n 1, 1) := by decide +kernel
theorem dX1_walk_77 : decode cX1_walk 77 = .ok (.iload_n 2, 1) := by decide +kernel
theorem dX1_walk_78 : decode cX1_walk 78 = .ok (.iastore, 1) := by decide +kernel
theorem dX1_walk_79 : decode cX1_walk 79 = .ok (.aload_n 0, 1) := by decide +kernel
theorem dX1_walk_80 : decode cX1_walk 80 = .ok (.iload_n 3, 1) := by decide +kernel
theorem dX1_walk_81 : decode cX1_walk 81 = .ok (.invokevirtual 92, 3) := by decide +kernel
theorem dX1_walk_84 : decode cX1_walk 84 = .ok (.ifCond .eq 13, 3) := by decide +kernel
theorem dX1_walk_87 : decode cX1_walk 87 = .ok (.aload_n 0, 1) := by decide +kernel
theorem dX1_walk_88 : decode cX1_walk 88 = .ok (.getfield 10, 3) := by decide +kernel
theorem dX1_walk_91 : decode cX1_walk 91 = .ok (.getfield 89, 3) := by decide +kernel
theorem dX1_walk_94 : decode cX1_walk 94 = .ok (.iload_n 3, 1) := by decide +kernel
theorem dX1_walk_95 : decode cX1_walk 95 = .ok (.iload_n 2, 1) := by decide +kernel
theorem dX1_walk_96 : decode cX1_walk 96 = .ok (.iastore, 1) := by decide +kernel
theorem dX1_walk_97 : decode cX1_walk 97 = .ok (.iload_n 3, 1) := by decide +kernel
theorem dX1_walk_98 : decode cX1_walk 98 = .ok (.ireturn, 1) := by decide +kernel
set_option maxRecDepth 20000 in
theorem ggX1_swap_X1_isPair : GoodIn wsX1_swap wsX1_isPair := goodIn_r _ [10, 11, 12, 13, 9, 14, 3, 15, 103, 104, 105, 106, 107, 108, 109, 110, 111, 112, 113, 114, 115, 116, 117, 118, 119, 120, 121, 122, 123, 124] (by decide +kernel) (by decide +kernel)
set_option maxRecDepth 20000 in
theorem gX1_swap_X1_isPair : GoodIn wsX1_swap (wsV RX1 98 RX1 yX1_isPair wsX1_isPair) := goodIn_app (goodIn_of _ (by decide +kernel)) ggX1_swap_X1_isPair
set_option maxRecDepth 20000 in
theorem ggX1_swap_X1_isAboard : GoodIn wsX1_swap wsX1_isAboard := goodIn_r _ [19, 3, 4, 20, 11, 12, 13, 9, 14, 15, 103, 104, 105, 106, 107, 108, 109, 110, 111, 112, 113, 114, 115, 116, 117, 118, 119, 120, 121, 122, 123, 124] (by decide +kernel) (by decide +kernel)
set_option maxRecDepth 20000 in
theorem gX1_swap_X1_isAboard : GoodIn wsX1_swap (wsV RX1 95 RX1 yX1_isAboard wsX1_isAboard) := goodIn_app (goodIn_of _ (by decide +kernel)) ggX1_swap_X1_isAboard
set_option maxRecDepth 20000 in
theorem ggX1_swap_X1_remember : GoodIn wsX1_swap wsX1_remember := goodIn_r _ [24, 25, 26, 27, 3, 28, 29, 30, 9, 31, 32, 33, 34, 35, 36, 37, 38, 39, 40, 41, 42, 43, 44, 45, 46, 47, 48, 49, 50, 51, 52, 53, 54, 55, 56, 57, 58, 59, 60, 61, 62, 63, 64, 65, 103, 104, 105, 106, 107, 108, 109, 110, 111, 112, 113, 114, 115, 116, 117, 118, 119, 120, 121, 122, 123, 124] (by decide +kernel) (by decide +kernel)
set_option maxRecDepth 20000 in
theorem gX1_swap_X1_remember : GoodIn wsX1_swap (wsV RX1 46 RX1 yX1_remember wsX1_remember) := goodIn_app (goodIn_of _ (by decide +kernel)) ggX1_swap_X1_remember
set_option maxRecDepth 20000 in
theorem ggX1_swap_X1_exchange : GoodIn wsX1_swap wsX1_exchange := goodIn_r _ [68] (by decide +kernel) (by decide +kernel)
set_option maxRecDepth 20000 in
theorem gX1_swap_X1_exchange : GoodIn wsX1_swap (va_wsS RX1 102 yX1_exchange wsX1_exchange) := goodIn_app (goodIn_of _ (by decide +kernel)) ggX1_swap_X1_exchange
set_option maxRecDepth 20000 in
theorem ggX1_swap_X1_errorWith : GoodIn wsX1_swap wsX1_errorWith := goodIn_r _ [72, 73, 74, 75, 76, 60, 77, 78, 79, 80, 9, 81, 3, 82, 83, 4, 84, 56, 57, 58, 59, 61, 62, 63, 64, 65, 85, 86, 87, 88, 89, 90, 91, 92, 93, 94, 95, 96, 20, 97, 98, 99, 100, 101, 102, 103, 104, 105, 106, 107, 108, 109, 110, 111, 112, 113, 114, 115, 116, 117, 118, 119, 120, 121, 122, 123, 124] (by decide +kernel) (by decide +kernel)
set_option maxRecDepth 20000 in
theorem gX1_swap_X1_errorWith : GoodIn wsX1_swap (wsV RX1 106 RX1 yX1_errorWith wsX1_errorWith) := goodIn_app (goodIn_of _ (by decide +kernel)) ggX1_swap_X1_errorWith
theorem dX1_swap_0 : decode cX1_swap 0 = .ok (.aload_n 0, 1) := by decide +kernel
theorem dX1_swap_1 : decode cX1_swap 1 = .ok (.iload_n 1, 1) := by decide +kernel
theorem dX1_swap_2 : decode cX1_swap 2 = .ok (.iload_n 2, 1) := by decide +kernel
theorem dX1_swap_3 : decode cX1_swap 3 = .ok (.invokevirtual 98, 3) := by decide +kernel
theorem dX1_swap_6 : decode cX1_swap 6 = .ok (.ifCond .ne 6, 3) := by decide +kernel
theorem dX1_swap_9 : decode cX1_swap 9 = .ok (.ldc 45, 2) := by decide +kernel
theorem dX1_swap_11 : decode cX1_swap 11 = .ok (.ireturn, 1) := by decide +kernel
theorem dX1_swap_12 : decode cX1_swap 12 = .ok (.aload_n 0, 1) := by decide +kernel
theorem dX1_swap_13 : decode cX1_swap 13 = .ok (.iload_n 1, 1) := by decide +kernel
theorem dX1_swap_14 : decode cX1_swap 14 = .ok (.invokevirtual 95, 3) := by decide +kernel
theorem dX1_swap_17 : decode cX1_swap 17 = .ok (.ifCond .eq 11, 3) := by decide +kernel
theorem dX1_swap_20 : decode cX1_swap 20 = .ok (.aload_n 0, 1) := by decide +kernel
theorem dX1_swap_21 : decode cX1_swap 21 = .ok (.iload_n 2, 1) := by decide +kernel
theorem dX1_swap_22 : decode cX1_swap 22 = .ok (.invokevirtual 95, 3) := by decide +kernel
theorem dX1_swap_25 : decode cX1_swap 25 = .ok (.ifCond .ne 6, 3) := by decide +kernel
theorem dX1_swap_28 : decode cX1_swap 28 = .ok (.ldc 55, 2) := by decide +kernel
theorem dX1_swap_30 : decode cX1_swap 30 = .ok (.ireturn, 1) := by decide +kernel
theorem dX1_swap_31 : decode cX1_swap 31 = .ok (.aload_n 0, 1) := by decide +kernel
theorem dX1_swap_32 : decode cX1_swap 32 = .ok (.invokevirtual 46, 3) := by decide +kernel
theorem dX1_swap_35 : decode cX1_swap 35 = .ok (.aload_n 0, 1) := by decide +kernel
theorem dX1_swap_36 : decode cX1_swap 36 = .ok (.getfield 10, 3) := by decide +kernel
theorem dX1_swap_39 : decode cX1_swap 39 = .ok (.getfield 71, 3) := by decide +kernel
theorem dX1_swap_42 : decode cX1_swap 42 = .ok (.iload_n 1, 1) := by decide +kernel
theorem dX1_swap_43 : decode cX1_swap 43 = .ok (.iload_n 2, 1) := by decide +kernel
theorem dX1_swap_44 : decode cX1_swap 44 = .ok (.invokestatic 102, 3) := by decide +kernel
theorem dX1_swap_47 : decode cX1_swap 47 = .ok (.aload_n 0, 1) := by decide +kernel
theorem dX1_swap_48 : decode cX1_swap 48 = .ok (.aload_n 0, 1) := by decide +kernel
theorem dX1_swap_49 : decode cX1_swap 49 = .ok (.getfield 10, 3) := by decide +kernel
theorem dX1_swap_52 : decode cX1_swap 52 = .ok (.getfield 89, 3) := by decide +kernel
theorem dX1_swap_55 : decode cX1_swap 55 = .ok (.invokevirtual 106, 3) := by decide +kernel
theorem dX1_swap_58 : decode cX1_swap 58 = .ok (.ireturn, 1) := by decide +kernel
set_option maxRecDepth 20000 in
theorem ggX1_leave_X1_isWalker : GoodIn wsX1_leave wsX1_isWalker := goodIn_r _ [11, 3, 12, 65, 66, 67, 68, 69, 70, 71, 72, 73, 74, 75, 76, 77, 78, 79, 80, 81, 82, 83, 84, 85, 86] (by decide +kernel) (by decide +kernel)
set_option maxRecDepth 20000 in
theorem gX1_leave_X1_isWalker : GoodIn wsX1_leave (wsV RX1 92 RX1 yX1_isWalker wsX1_isWalker) := goodIn_app (goodIn_of _ (by decide +kernel)) ggX1_leave_X1_isWalker
set_option maxRecDepth 20000 in
theorem ggX1_leave_X1_isAboard : GoodIn wsX1_leave wsX1_isAboard := goodIn_r _ [16, 3, 4, 6, 7, 8, 9, 10, 11, 12, 65, 66, 67, 68, 69, 70, 71, 72, 73, 74, 75, 76, 77, 78, 79, 80, 81, 82, 83, 84, 85, 86] (by decide +kernel) (by decide +kernel)
set_option maxRecDepth 20000 in
theorem gX1_leave_X1_isAboard : GoodIn wsX1_leave (wsV RX1 95 RX1 yX1_isAboard wsX1_isAboard) := goodIn_app (goodIn_of _ (by decide +kernel)) ggX1_leave_X1_isAboard
set_option maxRecDepth 20000 in
theorem ggX1_leave_X1_remember : GoodIn wsX1_leave wsX1_remember := goodIn_r _ [20, 21, 22, 23, 3, 24, 25, 26, 10, 27, 28, 29, 30, 31, 32, 33, 34, 35, 36, 37, 38, 39, 40, 41, 42, 43, 44, 45, 46, 47, 48, 49, 50, 51, 52, 53, 54, 55, 56, 57, 58, 59, 60, 61, 65, 66, 67, 68, 69, 70, 71, 72, 73, 74, 75, 76, 77, 78, 79, 80, 81, 82, 83, 84, 85, 86] (by decide +kernel) (by decide +kernel)
set_option maxRecDepth 20000 in
theorem gX1_leave_X1_remember : GoodIn wsX1_leave (wsV RX1 46 RX1 yX1_remember wsX1_remember) := goodIn_app (goodIn_of _ (by decide +kernel)) ggX1_leave_X1_remember
set_option maxRecDepth 20000 in
theorem ggX1_leave_X1_whoIsOn : GoodIn wsX1_leave wsX1_whoIsOn := goodIn_r _ [64, 6] (by decide +kernel) (by decide +kernel)
set_option maxRecDepth 20000 in
theorem gX1_leave_X1_whoIsOn : GoodIn wsX1_leave (va_wsS RX1 74 yX1_whoIsOn wsX1_whoIsOn) := goodIn_app (goodIn_of _ (by decide +kernel)) ggX1_leave_X1_whoIsOn
theorem dX1_leave_0 : decode cX1_leave 0 = .ok (.aload_n 0, 1) := by decide +kernel
theorem dX1_leave_1 : decode cX1_leave 1 = .ok (.iload_n 1, 1) := by decide +kernel
theorem dX1_leave_2 : decode cX1_leave 2 = .ok (.invokevirtual 92, 3) := by decide +kernel
theorem dX1_leave_5 : decode cX1_leave 5 = .ok (.ifCond .ne 6, 3) := by decide +kernel
theorem dX1_leave_8 : decode cX1_leave 8 = .ok (.ldc 45, 2) := by decide +kernel
theorem dX1_leave_10 : decode cX1_leave 10 = .ok (.ireturn, 1) := by decide +kernel
theorem dX1_leave_11 : decode cX1_leave 11 = .ok (.aload_n 0, 1) := by decide +kernel
theorem dX1_leave_12 : decode cX1_leave 12 = .ok (.iload_n 1, 1) := by decide +kernel
theorem dX1_leave_13 : decode cX1_leave 13 = .ok (.invokevirtual 95, 3) := by decide +kernel
theorem dX1_leave_16 : decode cX1_leave 16 = .ok (.ifCond .ne 6, 3) := by decide +kernel
theorem dX1_leave_19 : decode cX1_leave 19 = .ok (.ldc 55, 2) := by decide +kernel
theorem dX1_leave_21 : decode cX1_leave 21 = .ok (.ireturn, 1) := by decide +kernel
theorem dX1_leave_22 : decode cX1_leave 22 = .ok (.aload_n 0, 1) := by decide +kernel
theorem dX1_leave_23 : decode cX1_leave 23 = .ok (.invokevirtual 46, 3) := by decide +kernel
theorem dX1_leave_26 : decode cX1_leave 26 = .ok (.aload_n 0, 1) := by decide +kernel
theorem dX1_leave_27 : decode cX1_leave 27 = .ok (.getfield 10, 3) := by decide +kernel
theorem dX1_leave_30 : decode cX1_leave 30 = .ok (.getfield 71, 3) := by decide +kernel
theorem dX1_leave_33 : decode cX1_leave 33 = .ok (.iload_n 1, 1) := by decide +kernel
theorem dX1_leave_34 : decode cX1_leave 34 = .ok (.iaload, 1) := by decide +kernel
theorem dX1_leave_35 : decode cX1_leave 35 = .ok (.istore_n 2, 1) := by decide +kernel
theorem dX1_leave_36 : decode cX1_leave 36 = .ok (.aload_n 0, 1) := by decide +kernel
theorem dX1_leave_37 : decode cX1_leave 37 = .ok (.getfield 10, 3) := by decide +kernel
theorem dX1_leave_40 : decode cX1_leave 40 = .ok (.getfield 89, 3) := by decide +kernel
theorem dX1_leave_43 : decode cX1_leave 43 = .ok (.iload_n 1, 1) := by decide +kernel
theorem dX1_leave_44 : decode cX1_leave 44 = .ok (.iaload, 1) := by decide +kernel
theorem dX1_leave_45 : decode cX1_leave 45 = .ok (.istore_n 3, 1) := by decide +kernel
theorem dX1_leave_46 : decode cX1_leave 46 = .ok (.aload_n 0, 1) := by decide +kernel
theorem dX1_leave_47 : decode cX1_leave 47 = .ok (.getfield 10, 3) := by decide +kernel
theorem dX1_leave_50 : decode cX1_leave 50 = .ok (.getfield 89, 3) := by decide +kernel
theorem dX1_leave_53 : decode cX1_leave 53 = .ok (.iload_n 2, 1) := by decide +kernel
theorem dX1_leave_54 : decode cX1_leave 54 = .ok (.invokestatic 74, 3) := by decide +kernel
theorem dX1_leave_57 : decode cX1_leave 57 = .ok (.istore 4, 2) := by decide +kernel
theorem dX1_leave_59 : decode cX1_leave 59 = .ok (.aload_n 0, 1) := by decide +kernel
theorem dX1_leave_60 : decode cX1_leave 60 = .ok (.iload 4, 2) := by decide +kernel
theorem dX1_leave_62 : decode cX1_leave 62 = .ok (.invokevirtual 92, 3) := by decide +kernel
theorem dX1_leave_65 : decode cX1_leave 65 = .ok (.ifCond .eq 14, 3) := by decide +kernel
theorem dX1_leave_68 : decode cX1_leave 68 = .ok (.aload_n 0, 1) := by decide +kernel
theorem dX1_leave_69 : decode cX1_leave 69 = .ok (.getfield 10, 3) := by decide +kernel
theorem dX1_leave_72 : decode cX1_leave 72 = .ok (.getfield 89, 3) := by decide +kernel
theorem dX1_leave_75 : decode cX1_leave 75 = .ok (.iload 4, 2) := by decide +kernel
theorem dX1_leave_77 : decode cX1_leave 77 = .ok (.iload_n 3, 1) := by decide +kernel
theorem dX1_leave_78 : decode cX1_leave 78 = .ok (.iastore, 1) := by decide +kernel
theorem dX1_leave_79 : decode cX1_leave 79 = .ok (.aload_n 0, 1) := by decide +kernel
theorem dX1_leave_80 : decode cX1_leave 80 = .ok (.getfield 10, 3) := by decide +kernel
theorem dX1_leave_83 : decode cX1_leave 83 = .ok (.getfield 71, 3) := by decide +kernel
theorem dX1_leave_86 : decode cX1_leave 86 = .ok (.iload_n 1, 1) := by decide +kernel
theorem dX1_leave_87 : decode cX1_leave 87 = .ok (.ldc 78, 2) := by decide +kernel
theorem dX1_leave_89 : decode cX1_leave 89 = .ok (.iastore, 1) := by decide +kernel
theorem dX1_leave_90 : decode cX1_leave 90 = .ok (.aload_n 0, 1) := by decide +kernel
theorem dX1_leave_91 : decode cX1_leave 91 = .ok (.getfield 10, 3) := by decide +kernel
theorem dX1_leave_94 : decode cX1_leave 94 = .ok (.getfield 89, 3) := by decide +kernel
theorem dX1_leave_97 : decode cX1_leave 97 = .ok (.iload_n 1, 1) := by decide +kernel
theorem dX1_leave_98 : decode cX1_leave 98 = .ok (.ldc 78, 2) := by decide +kernel
theorem dX1_leave_100 : decode cX1_leave 100 = .ok (.iastore, 1) := by decide +kernel
theorem dX1_leave_101 : decode cX1_leave 101 = .ok (.iload_n 2, 1) := by decide +kernel
theorem dX1_leave_102 : decode cX1_leave 102 = .ok (.iload_n 3, 1) := by decide +kernel
theorem dX1_leave_103 : decode cX1_leave 103 = .ok (.if_icmp .ne 7, 3) := by decide +kernel
theorem dX1_leave_106 : decode cX1_leave 106 = .ok (.iconst 1, 1) := by decide +kernel
theorem dX1_leave_107 : decode cX1_leave 107 = .ok (.goto 4, 3) := by decide +kernel
theorem dX1_leave_110 : decode cX1_leave 110 = .ok (.iconst 0, 1) := by decide +kernel
theorem dX1_leave_111 : decode cX1_leave 111 = .ok (.ireturn, 1) := by decide +kernel
set_option maxRecDepth 20000 in
theorem ggX1_setPrice_X1_isWithin : GoodIn wsX1_setPrice wsX1_isWithin := goodIn_r _ [7] (by decide +kernel) (by decide +kernel)
set_option maxRecDepth 20000 in
theorem gX1_setPrice_X1_isWithin : GoodIn wsX1_setPrice (va_wsS RX1 41 yX1_isWithin wsX1_isWithin) := goodIn_app (goodIn_of _ (by decide +kernel)) ggX1_setPrice_X1_isWithin
set_option maxRecDepth 20000 in
theorem ggX1_setPrice_X1_remember : GoodIn wsX1_setPrice wsX1_remember := goodIn_r _ [11, 12, 13, 14, 2, 15, 16, 17, 6, 18, 19, 20, 21, 22, 23, 24, 25, 26, 27, 28, 29, 30, 31, 32, 33, 34, 35, 36, 37, 38, 39, 40, 41, 42, 43, 44, 45, 46, 47, 48, 49, 50, 51, 52, 53, 54, 55, 56, 57, 58, 59, 60, 61, 62, 63, 64, 65, 66, 67, 68, 69, 70, 71, 72, 73, 74] (by decide +kernel) (by decide +kernel)
set_option maxRecDepth 20000 in
theorem gX1_setPrice_X1_remember : GoodIn wsX1_setPrice (wsV RX1 46 RX1 yX1_remember wsX1_remember) := goodIn_app (goodIn_of _ (by decide +kernel)) ggX1_setPrice_X1_remember
theorem dX1_setPrice_0 : decode cX1_setPrice 0 = .ok (.iload_n 1, 1) := by decide +kernel
theorem dX1_setPrice_1 : decode cX1_setPrice 1 = .ok (.iconst 0, 1) := by decide +kernel
theorem dX1_setPrice_2 : decode cX1_setPrice 2 = .ok (.bipush 100, 2) := by decide +kernel
theorem dX1_setPrice_4 : decode cX1_setPrice 4 = .ok (.invokestatic 41, 3) := by decide +kernel
theorem dX1_setPrice_7 : decode cX1_setPrice 7 = .ok (.ifCond .ne 6, 3) := by decide +kernel
theorem dX1_setPrice_10 : decode cX1_setPrice 10 = .ok (.ldc 45, 2) := by decide +kernel
theorem dX1_setPrice_12 : decode cX1_setPrice 12 = .ok (.ireturn, 1) := by decide +kernel
theorem dX1_setPrice_13 : decode cX1_setPrice 13 = .ok (.aload_n 0, 1) := by decide +kernel
theorem dX1_setPrice_14 : decode cX1_setPrice 14 = .ok (.invokevirtual 46, 3) := by decide +kernel
theorem dX1_setPrice_17 : decode cX1_setPrice 17 = .ok (.aload_n 0, 1) := by decide +kernel
theorem dX1_setPrice_18 : decode cX1_setPrice 18 = .ok (.getfield 10, 3) := by decide +kernel
theorem dX1_setPrice_21 : decode cX1_setPrice 21 = .ok (.getfield 110, 3) := by decide +kernel
theorem dX1_setPrice_24 : decode cX1_setPrice 24 = .ok (.istore_n 2, 1) := by decide +kernel
theorem dX1_setPrice_25 : decode cX1_setPrice 25 = .ok (.aload_n 0, 1) := by decide +kernel
theorem dX1_setPrice_26 : decode cX1_setPrice 26 = .ok (.getfield 10, 3) := by decide +kernel
theorem dX1_setPrice_29 : decode cX1_setPrice 29 = .ok (.iload_n 1, 1) := by decide +kernel
theorem dX1_setPrice_30 : decode cX1_setPrice 30 = .ok (.putfield 110, 3) := by decide +kernel
theorem dX1_setPrice_33 : decode cX1_setPrice 33 = .ok (.iload_n 2, 1) := by decide +kernel
theorem dX1_setPrice_34 : decode cX1_setPrice 34 = .ok (.ireturn, 1) := by decide +kernel
set_option maxRecDepth 20000 in
theorem ggX1_accuse_X1_isPair : GoodIn wsX1_accuse wsX1_isPair := goodIn_r _ [10, 11, 12, 13, 9, 14, 3, 15, 104, 105, 106, 107, 108, 109, 110, 111, 112, 113, 114, 115, 116, 117, 118, 119, 120, 121, 122, 123, 124, 125] (by decide +kernel) (by decide +kernel)
set_option maxRecDepth 20000 in
theorem gX1_accuse_X1_isPair : GoodIn wsX1_accuse (wsV RX1 98 RX1 yX1_isPair wsX1_isPair) := goodIn_app (goodIn_of _ (by decide +kernel)) ggX1_accuse_X1_isPair
set_option maxRecDepth 20000 in
theorem ggX1_accuse_X1_isAboard : GoodIn wsX1_accuse wsX1_isAboard := goodIn_r _ [19, 3, 20, 21, 11, 12, 13, 9, 14, 15, 104, 105, 106, 107, 108, 109, 110, 111, 112, 113, 114, 115, 116, 117, 118, 119, 120, 121, 122, 123, 124, 125] (by decide +kernel) (by decide +kernel)
set_option maxRecDepth 20000 in
theorem gX1_accuse_X1_isAboard : GoodIn wsX1_accuse (wsV RX1 95 RX1 yX1_isAboard wsX1_isAboard) := goodIn_app (goodIn_of _ (by decide +kernel)) ggX1_accuse_X1_isAboard
set_option maxRecDepth 20000 in
theorem ggX1_accuse_X1_remember : GoodIn wsX1_accuse wsX1_remember := goodIn_r _ [25, 26, 27, 28, 3, 29, 30, 31, 9, 32, 33, 34, 35, 36, 37, 38, 39, 40, 41, 42, 43, 44, 45, 46, 47, 48, 49, 50, 51, 52, 53, 54, 55, 56, 57, 58, 59, 60, 61, 62, 63, 64, 65, 66, 104, 105, 106, 107, 108, 109, 110, 111, 112, 113, 114, 115, 116, 117, 118, 119, 120, 121, 122, 123, 124, 125] (by decide +kernel) (by decide +kernel)
set_option maxRecDepth 20000 in
theorem gX1_accuse_X1_remember : GoodIn wsX1_accuse (wsV RX1 46 RX1 yX1_remember wsX1_remember) := goodIn_app (goodIn_of _ (by decide +kernel)) ggX1_accuse_X1_remember
set_option maxRecDepth 20000 in
theorem ggX1_accuse_X1_exchange : GoodIn wsX1_accuse wsX1_exchange := goodIn_r _ [69] (by decide +kernel) (by decide +kernel)
set_option maxRecDepth 20000 in
theorem gX1_accuse_X1_exchange : GoodIn wsX1_accuse (va_wsS RX1 102 yX1_exchange wsX1_exchange) := goodIn_app (goodIn_of _ (by decide +kernel)) ggX1_accuse_X1_exchange
set_option maxRecDepth 20000 in
theorem ggX1_accuse_X1_errorWith : GoodIn wsX1_accuse wsX1_errorWith := goodIn_r _ [73, 74, 75, 76, 77, 61, 78, 79, 80, 81, 9, 82, 3, 83, 84, 20, 85, 57, 58, 59, 60, 62, 63, 64, 65, 66, 86, 87, 88, 89, 90, 91, 92, 93, 94, 95, 96, 97, 21, 98, 99, 100, 101, 102, 103, 104, 105, 106, 107, 108, 109, 110, 111, 112, 113, 114, 115, 116, 117, 118, 119, 120, 121, 122, 123, 124, 125] (by decide +kernel) (by decide +kernel)
set_option maxRecDepth 20000 in
theorem gX1_accuse_X1_errorWith : GoodIn wsX1_accuse (wsV RX1 106 RX1 yX1_errorWith wsX1_errorWith) := goodIn_app (goodIn_of _ (by decide +kernel)) ggX1_accuse_X1_errorWith
theorem dX1_accuse_0 : decode cX1_accuse 0 = .ok (.aload_n 0, 1) := by decide +kernel
theorem dX1_accuse_1 : decode cX1_accuse 1 = .ok (.iload_n 1, 1) := by decide +kernel
theorem dX1_accuse_2 : decode cX1_accuse 2 = .ok (.iload_n 2, 1) := by decide +kernel
theorem dX1_accuse_3 : decode cX1_accuse 3 = .ok (.invokevirtual 98, 3) := by decide +kernel
theorem dX1_accuse_6 : decode cX1_accuse 6 = .ok (.ifCond .ne 6, 3) := by decide +kernel
theorem dX1_accuse_9 : decode cX1_accuse 9 = .ok (.ldc 45, 2) := by decide +kernel
theorem dX1_accuse_11 : decode cX1_accuse 11 = .ok (.ireturn, 1) := by decide +kernel
theorem dX1_accuse_12 : decode cX1_accuse 12 = .ok (.aload_n 0, 1) := by decide +kernel
theorem dX1_accuse_13 : decode cX1_accuse 13 = .ok (.iload_n 1, 1) := by decide +kernel
theorem dX1_accuse_14 : decode cX1_accuse 14 = .ok (.invokevirtual 95, 3) := by decide +kernel
theorem dX1_accuse_17 : decode cX1_accuse 17 = .ok (.ifCond .eq 11, 3) := by decide +kernel
theorem dX1_accuse_20 : decode cX1_accuse 20 = .ok (.aload_n 0, 1) := by decide +kernel
theorem dX1_accuse_21 : decode cX1_accuse 21 = .ok (.iload_n 2, 1) := by decide +kernel
theorem dX1_accuse_22 : decode cX1_accuse 22 = .ok (.invokevirtual 95, 3) := by decide +kernel
theorem dX1_accuse_25 : decode cX1_accuse 25 = .ok (.ifCond .ne 6, 3) := by decide +kernel
theorem dX1_accuse_28 : decode cX1_accuse 28 = .ok (.ldc 55, 2) := by decide +kernel
theorem dX1_accuse_30 : decode cX1_accuse 30 = .ok (.ireturn, 1) := by decide +kernel
theorem dX1_accuse_31 : decode cX1_accuse 31 = .ok (.aload_n 0, 1) := by decide +kernel
theorem dX1_accuse_32 : decode cX1_accuse 32 = .ok (.invokevirtual 46, 3) := by decide +kernel
theorem dX1_accuse_35 : decode cX1_accuse 35 = .ok (.aload_n 0, 1) := by decide +kernel
theorem dX1_accuse_36 : decode cX1_accuse 36 = .ok (.getfield 10, 3) := by decide +kernel
theorem dX1_accuse_39 : decode cX1_accuse 39 = .ok (.getfield 89, 3) := by decide +kernel
theorem dX1_accuse_42 : decode cX1_accuse 42 = .ok (.iload_n 1, 1) := by decide +kernel
theorem dX1_accuse_43 : decode cX1_accuse 43 = .ok (.iload_n 2, 1) := by decide +kernel
theorem dX1_accuse_44 : decode cX1_accuse 44 = .ok (.invokestatic 102, 3) := by decide +kernel
theorem dX1_accuse_47 : decode cX1_accuse 47 = .ok (.aload_n 0, 1) := by decide +kernel
theorem dX1_accuse_48 : decode cX1_accuse 48 = .ok (.getfield 10, 3) := by decide +kernel
theorem dX1_accuse_51 : decode cX1_accuse 51 = .ok (.getfield 113, 3) := by decide +kernel
theorem dX1_accuse_54 : decode cX1_accuse 54 = .ok (.iload_n 1, 1) := by decide +kernel
theorem dX1_accuse_55 : decode cX1_accuse 55 = .ok (.dup2, 1) := by decide +kernel
theorem dX1_accuse_56 : decode cX1_accuse 56 = .ok (.iaload, 1) := by decide +kernel
theorem dX1_accuse_57 : decode cX1_accuse 57 = .ok (.iconst 1, 1) := by decide +kernel
theorem dX1_accuse_58 : decode cX1_accuse 58 = .ok (.iadd, 1) := by decide +kernel
theorem dX1_accuse_59 : decode cX1_accuse 59 = .ok (.iastore, 1) := by decide +kernel
theorem dX1_accuse_60 : decode cX1_accuse 60 = .ok (.aload_n 0, 1) := by decide +kernel
theorem dX1_accuse_61 : decode cX1_accuse 61 = .ok (.getfield 10, 3) := by decide +kernel
theorem dX1_accuse_64 : decode cX1_accuse 64 = .ok (.getfield 113, 3) := by decide +kernel
theorem dX1_accuse_67 : decode cX1_accuse 67 = .ok (.iload_n 2, 1) := by decide +kernel
theorem dX1_accuse_68 : decode cX1_accuse 68 = .ok (.dup2, 1) := by decide +kernel
theorem dX1_accuse_69 : decode cX1_accuse 69 = .ok (.iaload, 1) := by decide +kernel
theorem dX1_accuse_70 : decode cX1_accuse 70 = .ok (.iconst 1, 1) := by decide +kernel
theorem dX1_accuse_71 : decode cX1_accuse 71 = .ok (.iadd, 1) := by decide +kernel
theorem dX1_accuse_72 : decode cX1_accuse 72 = .ok (.iastore, 1) := by decide +kernel
theorem dX1_accuse_73 : decode cX1_accuse 73 = .ok (.aload_n 0, 1) := by decide +kernel
theorem dX1_accuse_74 : decode cX1_accuse 74 = .ok (.aload_n 0, 1) := by decide +kernel
theorem dX1_accuse_75 : decode cX1_accuse 75 = .ok (.getfield 10, 3) := by decide +kernel
theorem dX1_accuse_78 : decode cX1_accuse 78 = .ok (.getfield 89, 3) := by decide +kernel
theorem dX1_accuse_81 : decode cX1_accuse 81 = .ok (.invokevirtual 106, 3) := by decide +kernel
theorem dX1_accuse_84 : decode cX1_accuse 84 = .ok (.ireturn, 1) := by decide +kernel
set_option maxRecDepth 20000 in
theorem ggX1_bill_X1_isWalker : GoodIn wsX1_bill wsX1_isWalker := goodIn_r _ [13, 2, 14, 129, 130, 131, 132, 133, 134, 135, 136, 137, 138, 139, 140, 141, 142, 143, 144, 145, 146, 147, 148, 149, 150] (by decide +kernel) (by decide +kernel)
set_option maxRecDepth 20000 in
theorem gX1_bill_X1_isWalker : GoodIn wsX1_bill (wsV RX1 92 RX1 yX1_isWalker wsX1_isWalker) := goodIn_app (goodIn_of _ (by decide +kernel)) ggX1_bill_X1_isWalker
set_option maxRecDepth 20000 in
theorem ggX1_bill_X1_isAboard : GoodIn wsX1_bill wsX1_isAboard := goodIn_r _ [18, 2, 19, 4, 9, 10, 11, 12, 13, 14, 129, 130, 131, 132, 133, 134, 135, 136, 137, 138, 139, 140, 141, 142, 143, 144, 145, 146, 147, 148, 149, 150] (by decide +kernel) (by decide +kernel)
set_option maxRecDepth 20000 in
theorem gX1_bill_X1_isAboard : GoodIn wsX1_bill (wsV RX1 95 RX1 yX1_isAboard wsX1_isAboard) := goodIn_app (goodIn_of _ (by decide +kernel)) ggX1_bill_X1_isAboard
set_option maxRecDepth 20000 in
theorem ggX1_bill_X1_remember : GoodIn wsX1_bill wsX1_remember := goodIn_r _ [23, 24, 25, 26, 2, 27, 28, 29, 12, 30, 31, 32, 33, 34, 35, 36, 37, 38, 39, 40, 41, 42, 43, 44, 45, 46, 47, 48, 49, 50, 51, 52, 53, 54, 55, 56, 57, 58, 59, 60, 61, 62, 63, 64, 129, 130, 131, 132, 133, 134, 135, 136, 137, 138, 139, 140, 141, 142, 143, 144, 145, 146, 147, 148, 149, 150] (by decide +kernel) (by decide +kernel)
set_option maxRecDepth 20000 in
theorem gX1_bill_X1_remember : GoodIn wsX1_bill (wsV RX1 46 RX1 yX1_remember wsX1_remember) := goodIn_app (goodIn_of _ (by decide +kernel)) ggX1_bill_X1_remember
set_option maxRecDepth 20000 in
theorem ggX1_bill_X1_kilogramsToBill : GoodIn wsX1_bill wsX1_kilogramsToBill := goodIn_r _ [68, 2, 69, 57, 58, 59, 60, 70, 71, 72, 73, 74, 75, 12, 76, 77, 8, 78, 79, 15, 16, 17, 18, 19, 4, 9, 10, 11, 13, 14, 80, 81, 82, 83, 84, 85, 86, 55, 56, 61, 62, 63, 64, 87, 88, 89, 90, 91, 92, 93, 94, 95, 96, 97, 98, 99, 100, 101, 102, 103, 104, 105, 106, 107, 108, 109, 110, 111, 112, 113, 114, 115, 116, 117, 118, 119, 120, 121, 122, 123, 124, 3, 125, 126, 127, 128, 129, 130, 131, 132, 133, 134, 135, 136, 137, 138, 139, 140, 141, 142, 143, 144, 145, 146, 147, 148, 149, 150] (by decide +kernel) (by decide +kernel)
set_option maxRecDepth 20000 in
theorem gX1_bill_X1_kilogramsToBill : GoodIn wsX1_bill (wsV RX1 119 RX1 yX1_kilogramsToBill wsX1_kilogramsToBill) := goodIn_app (goodIn_of _ (by decide +kernel)) ggX1_bill_X1_kilogramsToBill
theorem dX1_bill_0 : decode cX1_bill 0 = .ok (.aload_n 0, 1) := by decide +kernel
theorem dX1_bill_1 : decode cX1_bill 1 = .ok (.iload_n 1, 1) := by decide +kernel
theorem dX1_bill_2 : decode cX1_bill 2 = .ok (.invokevirtual 92, 3) := by decide +kernel
theorem dX1_bill_5 : decode cX1_bill 5 = .ok (.ifCond .ne 6, 3) := by decide +kernel
theorem dX1_bill_8 : decode cX1_bill 8 = .ok (.ldc 45, 2) := by decide +kernel
theorem dX1_bill_10 : decode cX1_bill 10 = .ok (.ireturn, 1) := by decide +kernel
theorem dX1_bill_11 : decode cX1_bill 11 = .ok (.aload_n 0, 1) := by decide +kernel
theorem dX1_bill_12 : decode cX1_bill 12 = .ok (.iload_n 1, 1) := by decide +kernel
theorem dX1_bill_13 : decode cX1_bill 13 = .ok (.invokevirtual 95, 3) := by decide +kernel
theorem dX1_bill_16 : decode cX1_bill 16 = .ok (.ifCond .eq 17, 3) := by decide +kernel
theorem dX1_bill_19 : decode cX1_bill 19 = .ok (.aload_n 0, 1) := by decide +kernel
theorem dX1_bill_20 : decode cX1_bill 20 = .ok (.getfield 10, 3) := by decide +kernel
theorem dX1_bill_23 : decode cX1_bill 23 = .ok (.getfield 116, 3) := by decide +kernel
theorem dX1_bill_26 : decode cX1_bill 26 = .ok (.iload_n 1, 1) := by decide +kernel
theorem dX1_bill_27 : decode cX1_bill 27 = .ok (.iaload, 1) := by decide +kernel
theorem dX1_bill_28 : decode cX1_bill 28 = .ok (.ldc 78, 2) := by decide +kernel
theorem dX1_bill_30 : decode cX1_bill 30 = .ok (.if_icmp .eq 6, 3) := by decide +kernel
theorem dX1_bill_33 : decode cX1_bill 33 = .ok (.ldc 55, 2) := by decide +kernel
theorem dX1_bill_35 : decode cX1_bill 35 = .ok (.ireturn, 1) := by decide +kernel
theorem dX1_bill_36 : decode cX1_bill 36 = .ok (.aload_n 0, 1) := by decide +kernel
theorem dX1_bill_37 : decode cX1_bill 37 = .ok (.invokevirtual 46, 3) := by decide +kernel
theorem dX1_bill_40 : decode cX1_bill 40 = .ok (.aload_n 0, 1) := by decide +kernel
theorem dX1_bill_41 : decode cX1_bill 41 = .ok (.iload_n 1, 1) := by decide +kernel
theorem dX1_bill_42 : decode cX1_bill 42 = .ok (.invokevirtual 119, 3) := by decide +kernel
theorem dX1_bill_45 : decode cX1_bill 45 = .ok (.istore_n 2, 1) := by decide +kernel
theorem dX1_bill_46 : decode cX1_bill 46 = .ok (.aload_n 0, 1) := by decide +kernel
theorem dX1_bill_47 : decode cX1_bill 47 = .ok (.getfield 10, 3) := by decide +kernel
theorem dX1_bill_50 : decode cX1_bill 50 = .ok (.getfield 116, 3) := by decide +kernel
theorem dX1_bill_53 : decode cX1_bill 53 = .ok (.iload_n 1, 1) := by decide +kernel
theorem dX1_bill_54 : decode cX1_bill 54 = .ok (.iload_n 2, 1) := by decide +kernel
theorem dX1_bill_55 : decode cX1_bill 55 = .ok (.iastore, 1) := by decide +kernel
theorem dX1_bill_56 : decode cX1_bill 56 = .ok (.aload_n 0, 1) := by decide +kernel
theorem dX1_bill_57 : decode cX1_bill 57 = .ok (.getfield 10, 3) := by decide +kernel
theorem dX1_bill_60 : decode cX1_bill 60 = .ok (.getfield 123, 3) := by decide +kernel
theorem dX1_bill_63 : decode cX1_bill 63 = .ok (.iload_n 1, 1) := by decide +kernel
theorem dX1_bill_64 : decode cX1_bill 64 = .ok (.aload_n 0, 1) := by decide +kernel
theorem dX1_bill_65 : decode cX1_bill 65 = .ok (.getfield 10, 3) := by decide +kernel
theorem dX1_bill_68 : decode cX1_bill 68 = .ok (.getfield 110, 3) := by decide +kernel
theorem dX1_bill_71 : decode cX1_bill 71 = .ok (.iastore, 1) := by decide +kernel
theorem dX1_bill_72 : decode cX1_bill 72 = .ok (.iload_n 2, 1) := by decide +kernel
theorem dX1_bill_73 : decode cX1_bill 73 = .ok (.bipush 20, 2) := by decide +kernel
theorem dX1_bill_75 : decode cX1_bill 75 = .ok (.if_icmp .lt 13, 3) := by decide +kernel
theorem dX1_bill_78 : decode cX1_bill 78 = .ok (.aload_n 0, 1) := by decide +kernel
theorem dX1_bill_79 : decode cX1_bill 79 = .ok (.getfield 10, 3) := by decide +kernel
theorem dX1_bill_82 : decode cX1_bill 82 = .ok (.getfield 86, 3) := by decide +kernel
theorem dX1_bill_85 : decode cX1_bill 85 = .ok (.iload_n 1, 1) := by decide +kernel
theorem dX1_bill_86 : decode cX1_bill 86 = .ok (.iload_n 2, 1) := by decide +kernel
theorem dX1_bill_87 : decode cX1_bill 87 = .ok (.iastore, 1) := by decide +kernel
theorem dX1_bill_88 : decode cX1_bill 88 = .ok (.iload_n 2, 1) := by decide +kernel
theorem dX1_bill_89 : decode cX1_bill 89 = .ok (.ireturn, 1) := by decide +kernel
set_option maxRecDepth 20000 in
theorem ggX1_complain_X1_isWalker : GoodIn wsX1_complain wsX1_isWalker := goodIn_r _ [16, 2, 17, 75, 76, 77, 78, 79, 80, 81, 82, 83, 84, 85, 86, 87, 88, 89, 90, 91, 92, 93, 94, 95, 96] (by decide +kernel) (by decide +kernel)
set_option maxRecDepth 20000 in
theorem gX1_complain_X1_isWalker : GoodIn wsX1_complain (wsV RX1 92 RX1 yX1_isWalker wsX1_isWalker) := goodIn_app (goodIn_of _ (by decide +kernel)) ggX1_complain_X1_isWalker
set_option maxRecDepth 20000 in
theorem ggX1_complain_X1_isAboard : GoodIn wsX1_complain wsX1_isAboard := goodIn_r _ [21, 2, 22, 4, 12, 13, 14, 15, 16, 17, 75, 76, 77, 78, 79, 80, 81, 82, 83, 84, 85, 86, 87, 88, 89, 90, 91, 92, 93, 94, 95, 96] (by decide +kernel) (by decide +kernel)
set_option maxRecDepth 20000 in
theorem gX1_complain_X1_isAboard : GoodIn wsX1_complain (wsV RX1 95 RX1 yX1_isAboard wsX1_isAboard) := goodIn_app (goodIn_of _ (by decide +kernel)) ggX1_complain_X1_isAboard
set_option maxRecDepth 20000 in
theorem ggX1_complain_X1_remember : GoodIn wsX1_complain wsX1_remember := goodIn_r _ [26, 27, 28, 29, 2, 30, 31, 32, 15, 33, 34, 35, 36, 37, 38, 39, 40, 41, 42, 43, 44, 45, 46, 47, 48, 49, 50, 51, 52, 53, 54, 55, 56, 57, 58, 59, 60, 61, 10, 62, 63, 64, 65, 66, 75, 76, 77, 78, 79, 80, 81, 82, 83, 84, 85, 86, 87, 88, 89, 90, 91, 92, 93, 94, 95, 96] (by decide +kernel) (by decide +kernel)
set_option maxRecDepth 20000 in
theorem gX1_complain_X1_remember : GoodIn wsX1_complain (wsV RX1 46 RX1 yX1_remember wsX1_remember) := goodIn_app (goodIn_of _ (by decide +kernel)) ggX1_complain_X1_remember
set_option maxRecDepth 20000 in
theorem ggX1_complain_X1_backAmount : GoodIn wsX1_complain wsX1_backAmount := goodIn_r _ [70, 2, 5, 71, 12, 13, 14, 15, 16, 17, 72, 73, 74, 4, 75, 76, 77, 78, 79, 80, 81, 82, 83, 84, 85, 86, 87, 88, 89, 90, 91, 92, 93, 94, 95, 96] (by decide +kernel) (by decide +kernel)
set_option maxRecDepth 20000 in
theorem gX1_complain_X1_backAmount : GoodIn wsX1_complain (wsV RX1 135 RX1 yX1_backAmount wsX1_backAmount) := goodIn_app (goodIn_of _ (by decide +kernel)) ggX1_complain_X1_backAmount
theorem dX1_complain_0 : decode cX1_complain 0 = .ok (.aload_n 0, 1) := by decide +kernel
theorem dX1_complain_1 : decode cX1_complain 1 = .ok (.iload_n 1, 1) := by decide +kernel
theorem dX1_complain_2 : decode cX1_complain 2 = .ok (.invokevirtual 92, 3) := by decide +kernel
theorem dX1_complain_5 : decode cX1_complain 5 = .ok (.ifCond .ne 6, 3) := by decide +kernel
theorem dX1_complain_8 : decode cX1_complain 8 = .ok (.ldc 45, 2) := by decide +kernel
theorem dX1_complain_10 : decode cX1_complain 10 = .ok (.ireturn, 1) := by decide +kernel
theorem dX1_complain_11 : decode cX1_complain 11 = .ok (.aload_n 0, 1) := by decide +kernel
theorem dX1_complain_12 : decode cX1_complain 12 = .ok (.iload_n 1, 1) := by decide +kernel
theorem dX1_complain_13 : decode cX1_complain 13 = .ok (.invokevirtual 95, 3) := by decide +kernel
theorem dX1_complain_16 : decode cX1_complain 16 = .ok (.ifCond .ne 31, 3) := by decide +kernel
theorem dX1_complain_19 : decode cX1_complain 19 = .ok (.aload_n 0, 1) := by decide +kernel
theorem dX1_complain_20 : decode cX1_complain 20 = .ok (.getfield 10, 3) := by decide +kernel
theorem dX1_complain_23 : decode cX1_complain 23 = .ok (.getfield 116, 3) := by decide +kernel
theorem dX1_complain_26 : decode cX1_complain 26 = .ok (.iload_n 1, 1) := by decide +kernel
theorem dX1_complain_27 : decode cX1_complain 27 = .ok (.iaload, 1) := by decide +kernel
theorem dX1_complain_28 : decode cX1_complain 28 = .ok (.ldc 78, 2) := by decide +kernel
theorem dX1_complain_30 : decode cX1_complain 30 = .ok (.if_icmp .eq 17, 3) := by decide +kernel
theorem dX1_complain_33 : decode cX1_complain 33 = .ok (.aload_n 0, 1) := by decide +kernel
theorem dX1_complain_34 : decode cX1_complain 34 = .ok (.getfield 10, 3) := by decide +kernel
theorem dX1_complain_37 : decode cX1_complain 37 = .ok (.getfield 126, 3) := by decide +kernel
theorem dX1_complain_40 : decode cX1_complain 40 = .ok (.iload_n 1, 1) := by decide +kernel
theorem dX1_complain_41 : decode cX1_complain 41 = .ok (.iaload, 1) := by decide +kernel
theorem dX1_complain_42 : decode cX1_complain 42 = .ok (.ldc 78, 2) := by decide +kernel
theorem dX1_complain_44 : decode cX1_complain 44 = .ok (.if_icmp .eq 6, 3) := by decide +kernel
theorem dX1_complain_47 : decode cX1_complain 47 = .ok (.ldc 55, 2) := by decide +kernel
theorem dX1_complain_49 : decode cX1_complain 49 = .ok (.ireturn, 1) := by decide +kernel
theorem dX1_complain_50 : decode cX1_complain 50 = .ok (.aload_n 0, 1) := by decide +kernel
theorem dX1_complain_51 : decode cX1_complain 51 = .ok (.invokevirtual 46, 3) := by decide +kernel
theorem dX1_complain_54 : decode cX1_complain 54 = .ok (.aload_n 0, 1) := by decide +kernel
theorem dX1_complain_55 : decode cX1_complain 55 = .ok (.getfield 10, 3) := by decide +kernel
theorem dX1_complain_58 : decode cX1_complain 58 = .ok (.getfield 126, 3) := by decide +kernel
theorem dX1_complain_61 : decode cX1_complain 61 = .ok (.iload_n 1, 1) := by decide +kernel
theorem dX1_complain_62 : decode cX1_complain 62 = .ok (.iconst 0, 1) := by decide +kernel
theorem dX1_complain_63 : decode cX1_complain 63 = .ok (.aload_n 0, 1) := by decide +kernel
theorem dX1_complain_64 : decode cX1_complain 64 = .ok (.getfield 10, 3) := by decide +kernel
theorem dX1_complain_67 : decode cX1_complain 67 = .ok (.getfield 116, 3) := by decide +kernel
theorem dX1_complain_70 : decode cX1_complain 70 = .ok (.iload_n 1, 1) := by decide +kernel
theorem dX1_complain_71 : decode cX1_complain 71 = .ok (.iaload, 1) := by decide +kernel
theorem dX1_complain_72 : decode cX1_complain 72 = .ok (.aload_n 0, 1) := by decide +kernel
theorem dX1_complain_73 : decode cX1_complain 73 = .ok (.getfield 10, 3) := by decide +kernel
theorem dX1_complain_76 : decode cX1_complain 76 = .ok (.getfield 83, 3) := by decide +kernel
theorem dX1_complain_79 : decode cX1_complain 79 = .ok (.iload_n 1, 1) := by decide +kernel
theorem dX1_complain_80 : decode cX1_complain 80 = .ok (.iaload, 1) := by decide +kernel
theorem dX1_complain_81 : decode cX1_complain 81 = .ok (.isub, 1) := by decide +kernel
theorem dX1_complain_82 : decode cX1_complain 82 = .ok (.invokestatic 129, 3) := by decide +kernel
theorem dX1_complain_85 : decode cX1_complain 85 = .ok (.iastore, 1) := by decide +kernel
theorem dX1_complain_86 : decode cX1_complain 86 = .ok (.aload_n 0, 1) := by decide +kernel
theorem dX1_complain_87 : decode cX1_complain 87 = .ok (.iload_n 1, 1) := by decide +kernel
theorem dX1_complain_88 : decode cX1_complain 88 = .ok (.invokevirtual 135, 3) := by decide +kernel
theorem dX1_complain_91 : decode cX1_complain 91 = .ok (.ireturn, 1) := by decide +kernel
set_option maxRecDepth 20000 in
theorem ggX1_count_X1_walkersAboard : GoodIn wsX1_count wsX1_walkersAboard := goodIn_r _ [13, 14, 15, 16, 12, 17, 1, 18, 19, 20, 21, 22, 23, 3, 104, 105, 106, 107, 108, 109, 110, 111, 112, 113, 114, 115, 116, 117, 118, 119, 120, 121, 122, 123, 124, 125] (by decide +kernel) (by decide +kernel)
set_option maxRecDepth 20000 in
theorem gX1_count_X1_walkersAboard : GoodIn wsX1_count (wsV RX1 145 RX1 yX1_walkersAboard wsX1_walkersAboard) := goodIn_app (goodIn_of _ (by decide +kernel)) ggX1_count_X1_walkersAboard
set_option maxRecDepth 20000 in
theorem ggX1_count_X1_errorWith : GoodIn wsX1_count wsX1_errorWith := goodIn_r _ [27, 28, 29, 30, 31, 32, 33, 34, 35, 36, 12, 37, 1, 38, 39, 18, 40, 41, 42, 43, 44, 45, 46, 47, 48, 49, 50, 51, 52, 53, 54, 55, 56, 57, 58, 59, 60, 61, 19, 62, 63, 64, 65, 6, 66, 104, 105, 106, 107, 108, 109, 110, 111, 112, 113, 114, 115, 116, 117, 118, 119, 120, 121, 122, 123, 124, 125] (by decide +kernel) (by decide +kernel)
set_option maxRecDepth 20000 in
theorem gX1_count_X1_errorWith : GoodIn wsX1_count (wsV RX1 106 RX1 yX1_errorWith wsX1_errorWith) := goodIn_app (goodIn_of _ (by decide +kernel)) ggX1_count_X1_errorWith
set_option maxRecDepth 20000 in
theorem ggX1_count_X1_sumOfReadings : GoodIn wsX1_count wsX1_sumOfReadings := goodIn_r _ [70, 28, 34, 35, 36, 12, 37, 1, 38, 39, 18, 40, 41, 42, 43, 44, 32, 45, 46, 47, 48, 49, 50, 51, 52, 53, 54, 55, 56, 57, 58, 59, 60, 61, 19, 71, 72, 73, 104, 105, 106, 107, 108, 109, 110, 111, 112, 113, 114, 115, 116, 117, 118, 119, 120, 121, 122, 123, 124, 125] (by decide +kernel) (by decide +kernel)
set_option maxRecDepth 20000 in
theorem gX1_count_X1_sumOfReadings : GoodIn wsX1_count (wsV RX1 149 RX1 yX1_sumOfReadings wsX1_sumOfReadings) := goodIn_app (goodIn_of _ (by decide +kernel)) ggX1_count_X1_sumOfReadings
set_option maxRecDepth 20000 in
theorem ggX1_count_X1_sumOf : GoodIn wsX1_count wsX1_sumOf := goodIn_r _ [73] (by decide +kernel) (by decide +kernel)
set_option maxRecDepth 20000 in
theorem gX1_count_X1_sumOf : GoodIn wsX1_count (va_wsS RX1 152 yX1_sumOf wsX1_sumOf) := goodIn_app (goodIn_of _ (by decide +kernel)) ggX1_count_X1_sumOf
set_option maxRecDepth 20000 in
theorem ggX1_count_X1_walkersMisplaced : GoodIn wsX1_count wsX1_walkersMisplaced := goodIn_r _ [77, 1, 18, 5, 104, 105, 106, 107, 108, 109, 110, 111, 112, 113, 114, 115, 116, 117, 118, 119, 120, 121, 122, 123, 124, 125] (by decide +kernel) (by decide +kernel)
set_option maxRecDepth 20000 in
theorem gX1_count_X1_walkersMisplaced : GoodIn wsX1_count (wsV RX1 155 RX1 yX1_walkersMisplaced wsX1_walkersMisplaced) := goodIn_app (goodIn_of _ (by decide +kernel)) ggX1_count_X1_walkersMisplaced
set_option maxRecDepth 20000 in
theorem ggX1_count_X1_kilogramsBilled : GoodIn wsX1_count wsX1_kilogramsBilled := goodIn_r _ [81, 1, 82, 83, 84, 85, 12, 86, 19, 104, 105, 106, 107, 108, 109, 110, 111, 112, 113, 114, 115, 116, 117, 118, 119, 120, 121, 122, 123, 124, 125] (by decide +kernel) (by decide +kernel)
set_option maxRecDepth 20000 in
theorem gX1_count_X1_kilogramsBilled : GoodIn wsX1_count (wsV RX1 158 RX1 yX1_kilogramsBilled wsX1_kilogramsBilled) := goodIn_app (goodIn_of _ (by decide +kernel)) ggX1_count_X1_kilogramsBilled
set_option maxRecDepth 20000 in
theorem ggX1_count_X1_sumOfBillAmounts : GoodIn wsX1_count wsX1_sumOfBillAmounts := goodIn_r _ [90, 91, 92, 93, 12, 94, 1, 82, 95, 20, 21, 22, 23, 3, 84, 85, 86, 19, 104, 105, 106, 107, 108, 109, 110, 111, 112, 113, 114, 115, 116, 117, 118, 119, 120, 121, 122, 123, 124, 125] (by decide +kernel) (by decide +kernel)
set_option maxRecDepth 20000 in
theorem gX1_count_X1_sumOfBillAmounts : GoodIn wsX1_count (wsV RX1 161 RX1 yX1_sumOfBillAmounts wsX1_sumOfBillAmounts) := goodIn_app (goodIn_of _ (by decide +kernel)) ggX1_count_X1_sumOfBillAmounts
set_option maxRecDepth 20000 in
theorem ggX1_count_X1_sumOfBackAmounts : GoodIn wsX1_count wsX1_sumOfBackAmounts := goodIn_r _ [99, 100, 101, 102, 12, 103, 1, 83, 95, 20, 21, 22, 23, 3, 84, 85, 86, 19, 104, 105, 106, 107, 108, 109, 110, 111, 112, 113, 114, 115, 116, 117, 118, 119, 120, 121, 122, 123, 124, 125] (by decide +kernel) (by decide +kernel)
set_option maxRecDepth 20000 in
theorem gX1_count_X1_sumOfBackAmounts : GoodIn wsX1_count (wsV RX1 164 RX1 yX1_sumOfBackAmounts wsX1_sumOfBackAmounts) := goodIn_app (goodIn_of _ (by decide +kernel)) ggX1_count_X1_sumOfBackAmounts
theorem dX1_count_0 : decode cX1_count 0 = .ok (.iload_n 1, 1) := by decide +kernel
theorem dX1_count_1 : decode cX1_count 1 = .ok (.tableswitch 145 0 11 #[63, 71, 79, 84, 89, 101, 106, 117, 122, 130, 135, 140], 63) := by decide +kernel
theorem dX1_count_64 : decode cX1_count 64 = .ok (.aload_n 0, 1) := by decide +kernel
theorem dX1_count_65 : decode cX1_count 65 = .ok (.getfield 10, 3) := by decide +kernel
theorem dX1_count_68 : decode cX1_count 68 = .ok (.getfield 52, 3) := by decide +kernel
theorem dX1_count_71 : decode cX1_count 71 = .ok (.ireturn, 1) := by decide +kernel
theorem dX1_count_72 : decode cX1_count 72 = .ok (.aload_n 0, 1) := by decide +kernel
theorem dX1_count_73 : decode cX1_count 73 = .ok (.getfield 10, 3) := by decide +kernel
theorem dX1_count_76 : decode cX1_count 76 = .ok (.getfield 79, 3) := by decide +kernel
theorem dX1_count_79 : decode cX1_count 79 = .ok (.ireturn, 1) := by decide +kernel
theorem dX1_count_80 : decode cX1_count 80 = .ok (.aload_n 0, 1) := by decide +kernel
theorem dX1_count_81 : decode cX1_count 81 = .ok (.invokevirtual 145, 3) := by decide +kernel
theorem dX1_count_84 : decode cX1_count 84 = .ok (.ireturn, 1) := by decide +kernel
theorem dX1_count_85 : decode cX1_count 85 = .ok (.aload_n 0, 1) := by decide +kernel
theorem dX1_count_86 : decode cX1_count 86 = .ok (.getfield 24, 3) := by decide +kernel
theorem dX1_count_89 : decode cX1_count 89 = .ok (.ireturn, 1) := by decide +kernel
theorem dX1_count_90 : decode cX1_count 90 = .ok (.aload_n 0, 1) := by decide +kernel
theorem dX1_count_91 : decode cX1_count 91 = .ok (.aload_n 0, 1) := by decide +kernel
theorem dX1_count_92 : decode cX1_count 92 = .ok (.getfield 10, 3) := by decide +kernel
theorem dX1_count_95 : decode cX1_count 95 = .ok (.getfield 89, 3) := by decide +kernel
theorem dX1_count_98 : decode cX1_count 98 = .ok (.invokevirtual 106, 3) := by decide +kernel
theorem dX1_count_101 : decode cX1_count 101 = .ok (.ireturn, 1) := by decide +kernel
theorem dX1_count_102 : decode cX1_count 102 = .ok (.aload_n 0, 1) := by decide +kernel
theorem dX1_count_103 : decode cX1_count 103 = .ok (.invokevirtual 149, 3) := by decide +kernel
theorem dX1_count_106 : decode cX1_count 106 = .ok (.ireturn, 1) := by decide +kernel
theorem dX1_count_107 : decode cX1_count 107 = .ok (.aload_n 0, 1) := by decide +kernel
theorem dX1_count_108 : decode cX1_count 108 = .ok (.getfield 10, 3) := by decide +kernel
theorem dX1_count_111 : decode cX1_count 111 = .ok (.getfield 62, 3) := by decide +kernel
theorem dX1_count_114 : decode cX1_count 114 = .ok (.invokestatic 152, 3) := by decide +kernel
theorem dX1_count_117 : decode cX1_count 117 = .ok (.ireturn, 1) := by decide +kernel
theorem dX1_count_118 : decode cX1_count 118 = .ok (.aload_n 0, 1) := by decide +kernel
theorem dX1_count_119 : decode cX1_count 119 = .ok (.invokevirtual 155, 3) := by decide +kernel
theorem dX1_count_122 : decode cX1_count 122 = .ok (.ireturn, 1) := by decide +kernel
theorem dX1_count_123 : decode cX1_count 123 = .ok (.aload_n 0, 1) := by decide +kernel
theorem dX1_count_124 : decode cX1_count 124 = .ok (.getfield 10, 3) := by decide +kernel
theorem dX1_count_127 : decode cX1_count 127 = .ok (.getfield 110, 3) := by decide +kernel
theorem dX1_count_130 : decode cX1_count 130 = .ok (.ireturn, 1) := by decide +kernel
theorem dX1_count_131 : decode cX1_count 131 = .ok (.aload_n 0, 1) := by decide +kernel
theorem dX1_count_132 : decode cX1_count 132 = .ok (.invokevirtual 158, 3) := by decide +kernel
theorem dX1_count_135 : decode cX1_count 135 = .ok (.ireturn, 1) := by decide +kernel
theorem dX1_count_136 : decode cX1_count 136 = .ok (.aload_n 0, 1) := by decide +kernel
theorem dX1_count_137 : decode cX1_count 137 = .ok (.invokevirtual 161, 3) := by decide +kernel
theorem dX1_count_140 : decode cX1_count 140 = .ok (.ireturn, 1) := by decide +kernel
theorem dX1_count_141 : decode cX1_count 141 = .ok (.aload_n 0, 1) := by decide +kernel
theorem dX1_count_142 : decode cX1_count 142 = .ok (.invokevirtual 164, 3) := by decide +kernel
theorem dX1_count_145 : decode cX1_count 145 = .ok (.ireturn, 1) := by decide +kernel
theorem dX1_count_146 : decode cX1_count 146 = .ok (.ldc 45, 2) := by decide +kernel
theorem dX1_count_148 : decode cX1_count 148 = .ok (.ireturn, 1) := by decide +kernel
set_option maxRecDepth 20000 in
theorem ggX1_cell_X1_isCell : GoodIn wsX1_cell wsX1_isCell := goodIn_r _ [14] (by decide +kernel) (by decide +kernel)
set_option maxRecDepth 20000 in
theorem gX1_cell_X1_isCell : GoodIn wsX1_cell (va_wsS RX1 37 yX1_isCell wsX1_isCell) := goodIn_app (goodIn_of _ (by decide +kernel)) ggX1_cell_X1_isCell
set_option maxRecDepth 20000 in
theorem ggX1_cell_X1_weighAll : GoodIn wsX1_cell wsX1_weighAll := goodIn_r _ [18, 3, 4, 2, 19, 10, 20, 21, 13, 22, 23, 24, 25, 26, 27, 28, 29, 30, 31, 32, 33, 34, 35, 36, 11, 12, 14, 37, 38, 39, 40, 49, 50, 51, 52, 53, 54, 55, 56, 57, 58, 59, 60, 61, 62, 63, 64, 65, 66, 67, 68, 69, 70] (by decide +kernel) (by decide +kernel)
set_option maxRecDepth 20000 in
theorem gX1_cell_X1_weighAll : GoodIn wsX1_cell (wsV RX1 59 RX1 yX1_weighAll wsX1_weighAll) := goodIn_app (goodIn_of _ (by decide +kernel)) ggX1_cell_X1_weighAll
set_option maxRecDepth 20000 in
theorem ggX1_cell_X1_expectAll : GoodIn wsX1_cell wsX1_expectAll := goodIn_r _ [44, 3, 6, 9, 45, 20, 21, 13, 22, 23, 24, 25, 26, 27, 28, 29, 30, 31, 32, 33, 34, 35, 36, 11, 12, 14, 37, 38, 39, 40, 49, 50, 51, 52, 53, 54, 55, 56, 57, 58, 59, 60, 61, 62, 63, 64, 65, 66, 67, 68, 69, 70] (by decide +kernel) (by decide +kernel)
set_option maxRecDepth 20000 in
theorem gX1_cell_X1_expectAll : GoodIn wsX1_cell (wsV RX1 167 RX1 yX1_expectAll wsX1_expectAll) := goodIn_app (goodIn_of _ (by decide +kernel)) ggX1_cell_X1_expectAll
set_option maxRecDepth 20000 in
theorem ggX1_cell_X1_whoIsOn : GoodIn wsX1_cell wsX1_whoIsOn := goodIn_r _ [48, 40] (by decide +kernel) (by decide +kernel)
set_option maxRecDepth 20000 in
theorem gX1_cell_X1_whoIsOn : GoodIn wsX1_cell (va_wsS RX1 74 yX1_whoIsOn wsX1_whoIsOn) := goodIn_app (goodIn_of _ (by decide +kernel)) ggX1_cell_X1_whoIsOn
theorem dX1_cell_0 : decode cX1_cell 0 = .ok (.iload_n 1, 1) := by decide +kernel
theorem dX1_cell_1 : decode cX1_cell 1 = .ok (.invokestatic 37, 3) := by decide +kernel
theorem dX1_cell_4 : decode cX1_cell 4 = .ok (.ifCond .ne 6, 3) := by decide +kernel
theorem dX1_cell_7 : decode cX1_cell 7 = .ok (.ldc 45, 2) := by decide +kernel
theorem dX1_cell_9 : decode cX1_cell 9 = .ok (.ireturn, 1) := by decide +kernel
theorem dX1_cell_10 : decode cX1_cell 10 = .ok (.iload_n 2, 1) := by decide +kernel
theorem dX1_cell_11 : decode cX1_cell 11 = .ok (.tableswitch 138 0 7 #[45, 56, 66, 76, 86, 96, 114, 126], 45) := by decide +kernel
theorem dX1_cell_56 : decode cX1_cell 56 = .ok (.aload_n 0, 1) := by decide +kernel
theorem dX1_cell_57 : decode cX1_cell 57 = .ok (.invokevirtual 59, 3) := by decide +kernel
theorem dX1_cell_60 : decode cX1_cell 60 = .ok (.aload_n 0, 1) := by decide +kernel
theorem dX1_cell_61 : decode cX1_cell 61 = .ok (.getfield 27, 3) := by decide +kernel
theorem dX1_cell_64 : decode cX1_cell 64 = .ok (.iload_n 1, 1) := by decide +kernel
theorem dX1_cell_65 : decode cX1_cell 65 = .ok (.iaload, 1) := by decide +kernel
theorem dX1_cell_66 : decode cX1_cell 66 = .ok (.ireturn, 1) := by decide +kernel
theorem dX1_cell_67 : decode cX1_cell 67 = .ok (.aload_n 0, 1) := by decide +kernel
theorem dX1_cell_68 : decode cX1_cell 68 = .ok (.getfield 10, 3) := by decide +kernel
theorem dX1_cell_71 : decode cX1_cell 71 = .ok (.getfield 56, 3) := by decide +kernel
theorem dX1_cell_74 : decode cX1_cell 74 = .ok (.iload_n 1, 1) := by decide +kernel
theorem dX1_cell_75 : decode cX1_cell 75 = .ok (.iaload, 1) := by decide +kernel
theorem dX1_cell_76 : decode cX1_cell 76 = .ok (.ireturn, 1) := by decide +kernel
theorem dX1_cell_77 : decode cX1_cell 77 = .ok (.aload_n 0, 1) := by decide +kernel
theorem dX1_cell_78 : decode cX1_cell 78 = .ok (.getfield 10, 3) := by decide +kernel
theorem dX1_cell_81 : decode cX1_cell 81 = .ok (.getfield 49, 3) := by decide +kernel
theorem dX1_cell_84 : decode cX1_cell 84 = .ok (.iload_n 1, 1) := by decide +kernel
theorem dX1_cell_85 : decode cX1_cell 85 = .ok (.iaload, 1) := by decide +kernel
theorem dX1_cell_86 : decode cX1_cell 86 = .ok (.ireturn, 1) := by decide +kernel
theorem dX1_cell_87 : decode cX1_cell 87 = .ok (.aload_n 0, 1) := by decide +kernel
theorem dX1_cell_88 : decode cX1_cell 88 = .ok (.getfield 10, 3) := by decide +kernel
theorem dX1_cell_91 : decode cX1_cell 91 = .ok (.getfield 62, 3) := by decide +kernel
theorem dX1_cell_94 : decode cX1_cell 94 = .ok (.iload_n 1, 1) := by decide +kernel
theorem dX1_cell_95 : decode cX1_cell 95 = .ok (.iaload, 1) := by decide +kernel
theorem dX1_cell_96 : decode cX1_cell 96 = .ok (.ireturn, 1) := by decide +kernel
theorem dX1_cell_97 : decode cX1_cell 97 = .ok (.aload_n 0, 1) := by decide +kernel
theorem dX1_cell_98 : decode cX1_cell 98 = .ok (.getfield 10, 3) := by decide +kernel
theorem dX1_cell_101 : decode cX1_cell 101 = .ok (.getfield 65, 3) := by decide +kernel
theorem dX1_cell_104 : decode cX1_cell 104 = .ok (.iload_n 1, 1) := by decide +kernel
theorem dX1_cell_105 : decode cX1_cell 105 = .ok (.iaload, 1) := by decide +kernel
theorem dX1_cell_106 : decode cX1_cell 106 = .ok (.ireturn, 1) := by decide +kernel
theorem dX1_cell_107 : decode cX1_cell 107 = .ok (.aload_n 0, 1) := by decide +kernel
theorem dX1_cell_108 : decode cX1_cell 108 = .ok (.aload_n 0, 1) := by decide +kernel
theorem dX1_cell_109 : decode cX1_cell 109 = .ok (.getfield 10, 3) := by decide +kernel
theorem dX1_cell_112 : decode cX1_cell 112 = .ok (.getfield 89, 3) := by decide +kernel
theorem dX1_cell_115 : decode cX1_cell 115 = .ok (.invokevirtual 167, 3) := by decide +kernel
theorem dX1_cell_118 : decode cX1_cell 118 = .ok (.aload_n 0, 1) := by decide +kernel
theorem dX1_cell_119 : decode cX1_cell 119 = .ok (.getfield 31, 3) := by decide +kernel
theorem dX1_cell_122 : decode cX1_cell 122 = .ok (.iload_n 1, 1) := by decide +kernel
theorem dX1_cell_123 : decode cX1_cell 123 = .ok (.iaload, 1) := by decide +kernel
theorem dX1_cell_124 : decode cX1_cell 124 = .ok (.ireturn, 1) := by decide +kernel
theorem dX1_cell_125 : decode cX1_cell 125 = .ok (.aload_n 0, 1) := by decide +kernel
theorem dX1_cell_126 : decode cX1_cell 126 = .ok (.getfield 10, 3) := by decide +kernel
theorem dX1_cell_129 : decode cX1_cell 129 = .ok (.getfield 71, 3) := by decide +kernel
theorem dX1_cell_132 : decode cX1_cell 132 = .ok (.iload_n 1, 1) := by decide +kernel
theorem dX1_cell_133 : decode cX1_cell 133 = .ok (.invokestatic 74, 3) := by decide +kernel
theorem dX1_cell_136 : decode cX1_cell 136 = .ok (.ireturn, 1) := by decide +kernel
theorem dX1_cell_137 : decode cX1_cell 137 = .ok (.aload_n 0, 1) := by decide +kernel
theorem dX1_cell_138 : decode cX1_cell 138 = .ok (.getfield 10, 3) := by decide +kernel
theorem dX1_cell_141 : decode cX1_cell 141 = .ok (.getfield 89, 3) := by decide +kernel
theorem dX1_cell_144 : decode cX1_cell 144 = .ok (.iload_n 1, 1) := by decide +kernel
theorem dX1_cell_145 : decode cX1_cell 145 = .ok (.invokestatic 74, 3) := by decide +kernel
theorem dX1_cell_148 : decode cX1_cell 148 = .ok (.ireturn, 1) := by decide +kernel
theorem dX1_cell_149 : decode cX1_cell 149 = .ok (.ldc 45, 2) := by decide +kernel
theorem dX1_cell_151 : decode cX1_cell 151 = .ok (.ireturn, 1) := by decide +kernel
set_option maxRecDepth 20000 in
theorem ggX1_walker_X1_isWalker : GoodIn wsX1_walker wsX1_isWalker := goodIn_r _ [14, 2, 15, 33, 34, 35, 36, 37, 38, 39, 40, 41, 42, 43, 44, 45, 46, 47, 48, 49, 50, 51, 52, 53, 54] (by decide +kernel) (by decide +kernel)
set_option maxRecDepth 20000 in
theorem gX1_walker_X1_isWalker : GoodIn wsX1_walker (wsV RX1 92 RX1 yX1_isWalker wsX1_isWalker) := goodIn_app (goodIn_of _ (by decide +kernel)) ggX1_walker_X1_isWalker
set_option maxRecDepth 20000 in
theorem ggX1_walker_X1_isAboard : GoodIn wsX1_walker wsX1_isAboard := goodIn_r _ [19, 2, 4, 6, 10, 11, 12, 13, 14, 15, 33, 34, 35, 36, 37, 38, 39, 40, 41, 42, 43, 44, 45, 46, 47, 48, 49, 50, 51, 52, 53, 54] (by decide +kernel) (by decide +kernel)
set_option maxRecDepth 20000 in
theorem gX1_walker_X1_isAboard : GoodIn wsX1_walker (wsV RX1 95 RX1 yX1_isAboard wsX1_isAboard) := goodIn_app (goodIn_of _ (by decide +kernel)) ggX1_walker_X1_isAboard
set_option maxRecDepth 20000 in
theorem ggX1_walker_X1_billAmount : GoodIn wsX1_walker wsX1_billAmount := goodIn_r _ [23, 2, 9, 24, 10, 11, 12, 13, 14, 15, 25, 26, 27, 6, 33, 34, 35, 36, 37, 38, 39, 40, 41, 42, 43, 44, 45, 46, 47, 48, 49, 50, 51, 52, 53, 54] (by decide +kernel) (by decide +kernel)
set_option maxRecDepth 20000 in
theorem gX1_walker_X1_billAmount : GoodIn wsX1_walker (wsV RX1 171 RX1 yX1_billAmount wsX1_billAmount) := goodIn_app (goodIn_of _ (by decide +kernel)) ggX1_walker_X1_billAmount
set_option maxRecDepth 20000 in
theorem ggX1_walker_X1_backAmount : GoodIn wsX1_walker wsX1_backAmount := goodIn_r _ [31, 2, 32, 24, 10, 11, 12, 13, 14, 15, 25, 26, 27, 6, 33, 34, 35, 36, 37, 38, 39, 40, 41, 42, 43, 44, 45, 46, 47, 48, 49, 50, 51, 52, 53, 54] (by decide +kernel) (by decide +kernel)
set_option maxRecDepth 20000 in
theorem gX1_walker_X1_backAmount : GoodIn wsX1_walker (wsV RX1 135 RX1 yX1_backAmount wsX1_backAmount) := goodIn_app (goodIn_of _ (by decide +kernel)) ggX1_walker_X1_backAmount
theorem dX1_walker_0 : decode cX1_walker 0 = .ok (.aload_n 0, 1) := by decide +kernel
theorem dX1_walker_1 : decode cX1_walker 1 = .ok (.iload_n 1, 1) := by decide +kernel
theorem dX1_walker_2 : decode cX1_walker 2 = .ok (.invokevirtual 92, 3) := by decide +kernel
theorem dX1_walker_5 : decode cX1_walker 5 = .ok (.ifCond .ne 6, 3) := by decide +kernel
theorem dX1_walker_8 : decode cX1_walker 8 = .ok (.ldc 45, 2) := by decide +kernel
theorem dX1_walker_10 : decode cX1_walker 10 = .ok (.ireturn, 1) := by decide +kernel
theorem dX1_walker_11 : decode cX1_walker 11 = .ok (.iload_n 2, 1) := by decide +kernel
theorem dX1_walker_12 : decode cX1_walker 12 = .ok (.tableswitch 133 0 7 #[48, 58, 68, 91, 101, 111, 121, 127], 48) := by decide +kernel
theorem dX1_walker_60 : decode cX1_walker 60 = .ok (.aload_n 0, 1) := by decide +kernel
theorem dX1_walker_61 : decode cX1_walker 61 = .ok (.getfield 10, 3) := by decide +kernel
theorem dX1_walker_64 : decode cX1_walker 64 = .ok (.getfield 83, 3) := by decide +kernel
theorem dX1_walker_67 : decode cX1_walker 67 = .ok (.iload_n 1, 1) := by decide +kernel
theorem dX1_walker_68 : decode cX1_walker 68 = .ok (.iaload, 1) := by decide +kernel
theorem dX1_walker_69 : decode cX1_walker 69 = .ok (.ireturn, 1) := by decide +kernel
theorem dX1_walker_70 : decode cX1_walker 70 = .ok (.aload_n 0, 1) := by decide +kernel
theorem dX1_walker_71 : decode cX1_walker 71 = .ok (.getfield 10, 3) := by decide +kernel
theorem dX1_walker_74 : decode cX1_walker 74 = .ok (.getfield 71, 3) := by decide +kernel
theorem dX1_walker_77 : decode cX1_walker 77 = .ok (.iload_n 1, 1) := by decide +kernel
theorem dX1_walker_78 : decode cX1_walker 78 = .ok (.iaload, 1) := by decide +kernel
theorem dX1_walker_79 : decode cX1_walker 79 = .ok (.ireturn, 1) := by decide +kernel
theorem dX1_walker_80 : decode cX1_walker 80 = .ok (.aload_n 0, 1) := by decide +kernel
theorem dX1_walker_81 : decode cX1_walker 81 = .ok (.iload_n 1, 1) := by decide +kernel
theorem dX1_walker_82 : decode cX1_walker 82 = .ok (.invokevirtual 95, 3) := by decide +kernel
theorem dX1_walker_85 : decode cX1_walker 85 = .ok (.ifCond .eq 15, 3) := by decide +kernel
theorem dX1_walker_88 : decode cX1_walker 88 = .ok (.aload_n 0, 1) := by decide +kernel
theorem dX1_walker_89 : decode cX1_walker 89 = .ok (.getfield 10, 3) := by decide +kernel
theorem dX1_walker_92 : decode cX1_walker 92 = .ok (.getfield 86, 3) := by decide +kernel
theorem dX1_walker_95 : decode cX1_walker 95 = .ok (.iload_n 1, 1) := by decide +kernel
theorem dX1_walker_96 : decode cX1_walker 96 = .ok (.iaload, 1) := by decide +kernel
theorem dX1_walker_97 : decode cX1_walker 97 = .ok (.goto 5, 3) := by decide +kernel
theorem dX1_walker_100 : decode cX1_walker 100 = .ok (.ldc 78, 2) := by decide +kernel
theorem dX1_walker_102 : decode cX1_walker 102 = .ok (.ireturn, 1) := by decide +kernel
theorem dX1_walker_103 : decode cX1_walker 103 = .ok (.aload_n 0, 1) := by decide +kernel
theorem dX1_walker_104 : decode cX1_walker 104 = .ok (.getfield 10, 3) := by decide +kernel
theorem dX1_walker_107 : decode cX1_walker 107 = .ok (.getfield 89, 3) := by decide +kernel
theorem dX1_walker_110 : decode cX1_walker 110 = .ok (.iload_n 1, 1) := by decide +kernel
theorem dX1_walker_111 : decode cX1_walker 111 = .ok (.iaload, 1) := by decide +kernel
theorem dX1_walker_112 : decode cX1_walker 112 = .ok (.ireturn, 1) := by decide +kernel
theorem dX1_walker_113 : decode cX1_walker 113 = .ok (.aload_n 0, 1) := by decide +kernel
theorem dX1_walker_114 : decode cX1_walker 114 = .ok (.getfield 10, 3) := by decide +kernel
theorem dX1_walker_117 : decode cX1_walker 117 = .ok (.getfield 113, 3) := by decide +kernel
theorem dX1_walker_120 : decode cX1_walker 120 = .ok (.iload_n 1, 1) := by decide +kernel
theorem dX1_walker_121 : decode cX1_walker 121 = .ok (.iaload, 1) := by decide +kernel
theorem dX1_walker_122 : decode cX1_walker 122 = .ok (.ireturn, 1) := by decide +kernel
theorem dX1_walker_123 : decode cX1_walker 123 = .ok (.aload_n 0, 1) := by decide +kernel
theorem dX1_walker_124 : decode cX1_walker 124 = .ok (.getfield 10, 3) := by decide +kernel
theorem dX1_walker_127 : decode cX1_walker 127 = .ok (.getfield 116, 3) := by decide +kernel
theorem dX1_walker_130 : decode cX1_walker 130 = .ok (.iload_n 1, 1) := by decide +kernel
theorem dX1_walker_131 : decode cX1_walker 131 = .ok (.iaload, 1) := by decide +kernel
theorem dX1_walker_132 : decode cX1_walker 132 = .ok (.ireturn, 1) := by decide +kernel
theorem dX1_walker_133 : decode cX1_walker 133 = .ok (.aload_n 0, 1) := by decide +kernel
theorem dX1_walker_134 : decode cX1_walker 134 = .ok (.iload_n 1, 1) := by decide +kernel
theorem dX1_walker_135 : decode cX1_walker 135 = .ok (.invokevirtual 171, 3) := by decide +kernel
theorem dX1_walker_138 : decode cX1_walker 138 = .ok (.ireturn, 1) := by decide +kernel
theorem dX1_walker_139 : decode cX1_walker 139 = .ok (.aload_n 0, 1) := by decide +kernel
theorem dX1_walker_140 : decode cX1_walker 140 = .ok (.iload_n 1, 1) := by decide +kernel
theorem dX1_walker_141 : decode cX1_walker 141 = .ok (.invokevirtual 135, 3) := by decide +kernel
theorem dX1_walker_144 : decode cX1_walker 144 = .ok (.ireturn, 1) := by decide +kernel
theorem dX1_walker_145 : decode cX1_walker 145 = .ok (.ldc 45, 2) := by decide +kernel
theorem dX1_walker_147 : decode cX1_walker 147 = .ok (.ireturn, 1) := by decide +kernel
set_option maxRecDepth 20000 in
theorem ggX1_estimate_X1_isWalker : GoodIn wsX1_estimate wsX1_isWalker := goodIn_r _ [7, 8, 9, 61, 62, 63, 64, 65, 66, 67, 68, 69, 70, 71, 72, 73, 74, 75, 76, 77, 78, 79, 80, 81, 82] (by decide +kernel) (by decide +kernel)
set_option maxRecDepth 20000 in
theorem gX1_estimate_X1_isWalker : GoodIn wsX1_estimate (wsV RX1 92 RX1 yX1_isWalker wsX1_isWalker) := goodIn_app (goodIn_of _ (by decide +kernel)) ggX1_estimate_X1_isWalker
set_option maxRecDepth 20000 in
theorem ggX1_estimate_X1_isAboard : GoodIn wsX1_estimate wsX1_isAboard := goodIn_r _ [13, 8, 14, 15, 3, 4, 5, 6, 7, 9, 61, 62, 63, 64, 65, 66, 67, 68, 69, 70, 71, 72, 73, 74, 75, 76, 77, 78, 79, 80, 81, 82] (by decide +kernel) (by decide +kernel)
set_option maxRecDepth 20000 in
theorem gX1_estimate_X1_isAboard : GoodIn wsX1_estimate (wsV RX1 95 RX1 yX1_isAboard wsX1_isAboard) := goodIn_app (goodIn_of _ (by decide +kernel)) ggX1_estimate_X1_isAboard
set_option maxRecDepth 20000 in
theorem ggX1_estimate_X1_estimateFor : GoodIn wsX1_estimate wsX1_estimateFor := goodIn_r _ [19, 8, 20, 21, 22, 23, 24, 25, 26, 27, 10, 11, 12, 6, 13, 14, 15, 3, 4, 5, 7, 9, 28, 29, 30, 31, 32, 33, 34, 35, 36, 37, 38, 39, 40, 41, 42, 43, 44, 45, 46, 47, 48, 49, 50, 51, 52, 53, 54, 55, 56, 57, 58, 59, 60, 61, 62, 63, 64, 65, 66, 67, 68, 69, 70, 71, 72, 73, 74, 75, 76, 77, 78, 79, 80, 81, 82] (by decide +kernel) (by decide +kernel)
set_option maxRecDepth 20000 in
theorem gX1_estimate_X1_estimateFor : GoodIn wsX1_estimate (wsV RX1 174 RX1 yX1_estimateFor wsX1_estimateFor) := goodIn_app (goodIn_of _ (by decide +kernel)) ggX1_estimate_X1_estimateFor
theorem dX1_estimate_0 : decode cX1_estimate 0 = .ok (.aload_n 0, 1) := by decide +kernel
theorem dX1_estimate_1 : decode cX1_estimate 1 = .ok (.iload_n 1, 1) := by decide +kernel
theorem dX1_estimate_2 : decode cX1_estimate 2 = .ok (.invokevirtual 92, 3) := by decide +kernel
theorem dX1_estimate_5 : decode cX1_estimate 5 = .ok (.ifCond .ne 6, 3) := by decide +kernel
theorem dX1_estimate_8 : decode cX1_estimate 8 = .ok (.ldc 45, 2) := by decide +kernel
theorem dX1_estimate_10 : decode cX1_estimate 10 = .ok (.ireturn, 1) := by decide +kernel
theorem dX1_estimate_11 : decode cX1_estimate 11 = .ok (.aload_n 0, 1) := by decide +kernel
theorem dX1_estimate_12 : decode cX1_estimate 12 = .ok (.iload_n 1, 1) := by decide +kernel
theorem dX1_estimate_13 : decode cX1_estimate 13 = .ok (.invokevirtual 95, 3) := by decide +kernel
theorem dX1_estimate_16 : decode cX1_estimate 16 = .ok (.ifCond .ne 6, 3) := by decide +kernel
theorem dX1_estimate_19 : decode cX1_estimate 19 = .ok (.ldc 55, 2) := by decide +kernel
theorem dX1_estimate_21 : decode cX1_estimate 21 = .ok (.ireturn, 1) := by decide +kernel
theorem dX1_estimate_22 : decode cX1_estimate 22 = .ok (.aload_n 0, 1) := by decide +kernel
theorem dX1_estimate_23 : decode cX1_estimate 23 = .ok (.iload_n 1, 1) := by decide +kernel
theorem dX1_estimate_24 : decode cX1_estimate 24 = .ok (.invokevirtual 174, 3) := by decide +kernel
theorem dX1_estimate_27 : decode cX1_estimate 27 = .ok (.ireturn, 1) := by decide +kernel
set_option maxRecDepth 20000 in
theorem ggX1_certainty_X1_isWalker : GoodIn wsX1_certainty wsX1_isWalker := goodIn_r _ [7, 8, 9, 41, 42, 43, 44, 45, 46, 47, 48, 49, 50, 51, 52, 53, 54, 55, 56, 57, 58, 59, 60, 61, 62] (by decide +kernel) (by decide +kernel)
set_option maxRecDepth 20000 in
theorem gX1_certainty_X1_isWalker : GoodIn wsX1_certainty (wsV RX1 92 RX1 yX1_isWalker wsX1_isWalker) := goodIn_app (goodIn_of _ (by decide +kernel)) ggX1_certainty_X1_isWalker
set_option maxRecDepth 20000 in
theorem ggX1_certainty_X1_isAboard : GoodIn wsX1_certainty wsX1_isAboard := goodIn_r _ [13, 8, 14, 15, 3, 4, 5, 6, 7, 9, 41, 42, 43, 44, 45, 46, 47, 48, 49, 50, 51, 52, 53, 54, 55, 56, 57, 58, 59, 60, 61, 62] (by decide +kernel) (by decide +kernel)
set_option maxRecDepth 20000 in
theorem gX1_certainty_X1_isAboard : GoodIn wsX1_certainty (wsV RX1 95 RX1 yX1_isAboard wsX1_isAboard) := goodIn_app (goodIn_of _ (by decide +kernel)) ggX1_certainty_X1_isAboard
set_option maxRecDepth 20000 in
theorem ggX1_certainty_X1_certaintyFor : GoodIn wsX1_certainty wsX1_certaintyFor := goodIn_r _ [19, 8, 20, 21, 22, 23, 24, 25, 26, 10, 11, 12, 6, 13, 14, 15, 3, 4, 5, 7, 9, 27, 28, 29, 30, 31, 32, 33, 34, 35, 36, 37, 38, 39, 40, 41, 42, 43, 44, 45, 46, 47, 48, 49, 50, 51, 52, 53, 54, 55, 56, 57, 58, 59, 60, 61, 62] (by decide +kernel) (by decide +kernel)
set_option maxRecDepth 20000 in
theorem gX1_certainty_X1_certaintyFor : GoodIn wsX1_certainty (wsV RX1 177 RX1 yX1_certaintyFor wsX1_certaintyFor) := goodIn_app (goodIn_of _ (by decide +kernel)) ggX1_certainty_X1_certaintyFor
theorem dX1_certainty_0 : decode cX1_certainty 0 = .ok (.aload_n 0, 1) := by decide +kernel
theorem dX1_certainty_1 : decode cX1_certainty 1 = .ok (.iload_n 1, 1) := by decide +kernel
theorem dX1_certainty_2 : decode cX1_certainty 2 = .ok (.invokevirtual 92, 3) := by decide +kernel
theorem dX1_certainty_5 : decode cX1_certainty 5 = .ok (.ifCond .ne 6, 3) := by decide +kernel
theorem dX1_certainty_8 : decode cX1_certainty 8 = .ok (.ldc 45, 2) := by decide +kernel
theorem dX1_certainty_10 : decode cX1_certainty 10 = .ok (.ireturn, 1) := by decide +kernel
theorem dX1_certainty_11 : decode cX1_certainty 11 = .ok (.aload_n 0, 1) := by decide +kernel
theorem dX1_certainty_12 : decode cX1_certainty 12 = .ok (.iload_n 1, 1) := by decide +kernel
theorem dX1_certainty_13 : decode cX1_certainty 13 = .ok (.invokevirtual 95, 3) := by decide +kernel
theorem dX1_certainty_16 : decode cX1_certainty 16 = .ok (.ifCond .ne 6, 3) := by decide +kernel
theorem dX1_certainty_19 : decode cX1_certainty 19 = .ok (.ldc 55, 2) := by decide +kernel
theorem dX1_certainty_21 : decode cX1_certainty 21 = .ok (.ireturn, 1) := by decide +kernel
theorem dX1_certainty_22 : decode cX1_certainty 22 = .ok (.aload_n 0, 1) := by decide +kernel
theorem dX1_certainty_23 : decode cX1_certainty 23 = .ok (.iload_n 1, 1) := by decide +kernel
theorem dX1_certainty_24 : decode cX1_certainty 24 = .ok (.invokevirtual 177, 3) := by decide +kernel
theorem dX1_certainty_27 : decode cX1_certainty 27 = .ok (.ireturn, 1) := by decide +kernel
theorem dX1_isWithin_0 : decode cX1_isWithin 0 = .ok (.iload_n 0, 1) := by decide +kernel
theorem dX1_isWithin_1 : decode cX1_isWithin 1 = .ok (.iload_n 1, 1) := by decide +kernel
theorem dX1_isWithin_2 : decode cX1_isWithin 2 = .ok (.if_icmp .lt 12, 3) := by decide +kernel
theorem dX1_isWithin_5 : decode cX1_isWithin 5 = .ok (.iload_n 0, 1) := by decide +kernel
theorem dX1_isWithin_6 : decode cX1_isWithin 6 = .ok (.iload_n 2, 1) := by decide +kernel
theorem dX1_isWithin_7 : decode cX1_isWithin 7 = .ok (.if_icmp .gt 7, 3) := by decide +kernel
theorem dX1_isWithin_10 : decode cX1_isWithin 10 = .ok (.iconst 1, 1) := by decide +kernel
theorem dX1_isWithin_11 : decode cX1_isWithin 11 = .ok (.goto 4, 3) := by decide +kernel
theorem dX1_isWithin_14 : decode cX1_isWithin 14 = .ok (.iconst 0, 1) := by decide +kernel
theorem dX1_isWithin_15 : decode cX1_isWithin 15 = .ok (.ireturn, 1) := by decide +kernel
theorem dX1_isCell_0 : decode cX1_isCell 0 = .ok (.iload_n 0, 1) := by decide +kernel
theorem dX1_isCell_1 : decode cX1_isCell 1 = .ok (.ifCond .lt 13, 3) := by decide +kernel
theorem dX1_isCell_4 : decode cX1_isCell 4 = .ok (.iload_n 0, 1) := by decide +kernel
theorem dX1_isCell_5 : decode cX1_isCell 5 = .ok (.bipush 24, 2) := by decide +kernel
theorem dX1_isCell_7 : decode cX1_isCell 7 = .ok (.if_icmp .ge 7, 3) := by decide +kernel
theorem dX1_isCell_10 : decode cX1_isCell 10 = .ok (.iconst 1, 1) := by decide +kernel
theorem dX1_isCell_11 : decode cX1_isCell 11 = .ok (.goto 4, 3) := by decide +kernel
theorem dX1_isCell_14 : decode cX1_isCell 14 = .ok (.iconst 0, 1) := by decide +kernel
theorem dX1_isCell_15 : decode cX1_isCell 15 = .ok (.ireturn, 1) := by decide +kernel
set_option maxRecDepth 20000 in
theorem ggX1_isWeight_X1_isWithin : GoodIn wsX1_isWeight wsX1_isWithin := goodIn_r _ [4] (by decide +kernel) (by decide +kernel)
set_option maxRecDepth 20000 in
theorem gX1_isWeight_X1_isWithin : GoodIn wsX1_isWeight (va_wsS RX1 41 yX1_isWithin wsX1_isWithin) := goodIn_app (goodIn_of _ (by decide +kernel)) ggX1_isWeight_X1_isWithin
theorem dX1_isWeight_0 : decode cX1_isWeight 0 = .ok (.iload_n 0, 1) := by decide +kernel
theorem dX1_isWeight_1 : decode cX1_isWeight 1 = .ok (.bipush 20, 2) := by decide +kernel
theorem dX1_isWeight_3 : decode cX1_isWeight 3 = .ok (.sipush 150, 3) := by decide +kernel
theorem dX1_isWeight_6 : decode cX1_isWeight 6 = .ok (.invokestatic 41, 3) := by decide +kernel
theorem dX1_isWeight_9 : decode cX1_isWeight 9 = .ok (.ireturn, 1) := by decide +kernel
theorem dX1_isWalker_0 : decode cX1_isWalker 0 = .ok (.iload_n 1, 1) := by decide +kernel
theorem dX1_isWalker_1 : decode cX1_isWalker 1 = .ok (.ifCond .lt 24, 3) := by decide +kernel
theorem dX1_isWalker_4 : decode cX1_isWalker 4 = .ok (.iload_n 1, 1) := by decide +kernel
theorem dX1_isWalker_5 : decode cX1_isWalker 5 = .ok (.aload_n 0, 1) := by decide +kernel
theorem dX1_isWalker_6 : decode cX1_isWalker 6 = .ok (.getfield 10, 3) := by decide +kernel
theorem dX1_isWalker_9 : decode cX1_isWalker 9 = .ok (.getfield 79, 3) := by decide +kernel
theorem dX1_isWalker_12 : decode cX1_isWalker 12 = .ok (.if_icmp .ge 13, 3) := by decide +kernel
theorem dX1_isWalker_15 : decode cX1_isWalker 15 = .ok (.iload_n 1, 1) := by decide +kernel
theorem dX1_isWalker_16 : decode cX1_isWalker 16 = .ok (.bipush 8, 2) := by decide +kernel
theorem dX1_isWalker_18 : decode cX1_isWalker 18 = .ok (.if_icmp .ge 7, 3) := by decide +kernel
theorem dX1_isWalker_21 : decode cX1_isWalker 21 = .ok (.iconst 1, 1) := by decide +kernel
theorem dX1_isWalker_22 : decode cX1_isWalker 22 = .ok (.goto 4, 3) := by decide +kernel
theorem dX1_isWalker_25 : decode cX1_isWalker 25 = .ok (.iconst 0, 1) := by decide +kernel
theorem dX1_isWalker_26 : decode cX1_isWalker 26 = .ok (.ireturn, 1) := by decide +kernel
set_option maxRecDepth 20000 in
theorem ggX1_isPair_X1_isWalker : GoodIn wsX1_isPair wsX1_isWalker := goodIn_r _ [5, 6, 7, 8, 9, 10, 11, 12, 13, 14, 15, 16, 17, 18, 19, 20, 21, 22, 23, 24, 25, 26, 27, 28, 29] (by decide +kernel) (by decide +kernel)
set_option maxRecDepth 20000 in
theorem gX1_isPair_X1_isWalker : GoodIn wsX1_isPair (wsV RX1 92 RX1 yX1_isWalker wsX1_isWalker) := goodIn_app (goodIn_of _ (by decide +kernel)) ggX1_isPair_X1_isWalker
theorem dX1_isPair_0 : decode cX1_isPair 0 = .ok (.aload_n 0, 1) := by decide +kernel
theorem dX1_isPair_1 : decode cX1_isPair 1 = .ok (.iload_n 1, 1) := by decide +kernel
theorem dX1_isPair_2 : decode cX1_isPair 2 = .ok (.invokevirtual 92, 3) := by decide +kernel
theorem dX1_isPair_5 : decode cX1_isPair 5 = .ok (.ifCond .eq 20, 3) := by decide +kernel
theorem dX1_isPair_8 : decode cX1_isPair 8 = .ok (.aload_n 0, 1) := by decide +kernel
theorem dX1_isPair_9 : decode cX1_isPair 9 = .ok (.iload_n 2, 1) := by decide +kernel
theorem dX1_isPair_10 : decode cX1_isPair 10 = .ok (.invokevirtual 92, 3) := by decide +kernel
theorem dX1_isPair_13 : decode cX1_isPair 13 = .ok (.ifCond .eq 12, 3) := by decide +kernel
theorem dX1_isPair_16 : decode cX1_isPair 16 = .ok (.iload_n 1, 1) := by decide +kernel
theorem dX1_isPair_17 : decode cX1_isPair 17 = .ok (.iload_n 2, 1) := by decide +kernel
theorem dX1_isPair_18 : decode cX1_isPair 18 = .ok (.if_icmp .eq 7, 3) := by decide +kernel
theorem dX1_isPair_21 : decode cX1_isPair 21 = .ok (.iconst 1, 1) := by decide +kernel
theorem dX1_isPair_22 : decode cX1_isPair 22 = .ok (.goto 4, 3) := by decide +kernel
theorem dX1_isPair_25 : decode cX1_isPair 25 = .ok (.iconst 0, 1) := by decide +kernel
theorem dX1_isPair_26 : decode cX1_isPair 26 = .ok (.ireturn, 1) := by decide +kernel
set_option maxRecDepth 20000 in
theorem ggX1_isAboard_X1_isWalker : GoodIn wsX1_isAboard wsX1_isWalker := goodIn_r _ [8, 1, 9, 10, 11, 12, 13, 14, 15, 16, 17, 18, 19, 20, 21, 22, 23, 24, 25, 26, 27, 28, 29, 30, 31] (by decide +kernel) (by decide +kernel)
set_option maxRecDepth 20000 in
theorem gX1_isAboard_X1_isWalker : GoodIn wsX1_isAboard (wsV RX1 92 RX1 yX1_isWalker wsX1_isWalker) := goodIn_app (goodIn_of _ (by decide +kernel)) ggX1_isAboard_X1_isWalker
theorem dX1_isAboard_0 : decode cX1_isAboard 0 = .ok (.aload_n 0, 1) := by decide +kernel
theorem dX1_isAboard_1 : decode cX1_isAboard 1 = .ok (.iload_n 1, 1) := by decide +kernel
theorem dX1_isAboard_2 : decode cX1_isAboard 2 = .ok (.invokevirtual 92, 3) := by decide +kernel
theorem dX1_isAboard_5 : decode cX1_isAboard 5 = .ok (.ifCond .eq 21, 3) := by decide +kernel
theorem dX1_isAboard_8 : decode cX1_isAboard 8 = .ok (.aload_n 0, 1) := by decide +kernel
theorem dX1_isAboard_9 : decode cX1_isAboard 9 = .ok (.getfield 10, 3) := by decide +kernel
theorem dX1_isAboard_12 : decode cX1_isAboard 12 = .ok (.getfield 71, 3) := by decide +kernel
theorem dX1_isAboard_15 : decode cX1_isAboard 15 = .ok (.iload_n 1, 1) := by decide +kernel
theorem dX1_isAboard_16 : decode cX1_isAboard 16 = .ok (.iaload, 1) := by decide +kernel
theorem dX1_isAboard_17 : decode cX1_isAboard 17 = .ok (.ldc 78, 2) := by decide +kernel
theorem dX1_isAboard_19 : decode cX1_isAboard 19 = .ok (.if_icmp .eq 7, 3) := by decide +kernel
theorem dX1_isAboard_22 : decode cX1_isAboard 22 = .ok (.iconst 1, 1) := by decide +kernel
theorem dX1_isAboard_23 : decode cX1_isAboard 23 = .ok (.goto 4, 3) := by decide +kernel
theorem dX1_isAboard_26 : decode cX1_isAboard 26 = .ok (.iconst 0, 1) := by decide +kernel
theorem dX1_isAboard_27 : decode cX1_isAboard 27 = .ok (.ireturn, 1) := by decide +kernel
theorem dX1_nearCell_0 : decode cX1_nearCell 0 = .ok (.iload_n 0, 1) := by decide +kernel
theorem dX1_nearCell_1 : decode cX1_nearCell 1 = .ok (.bipush 6, 2) := by decide +kernel
theorem dX1_nearCell_3 : decode cX1_nearCell 3 = .ok (.irem, 1) := by decide +kernel
theorem dX1_nearCell_4 : decode cX1_nearCell 4 = .ok (.istore_n 2, 1) := by decide +kernel
theorem dX1_nearCell_5 : decode cX1_nearCell 5 = .ok (.iload_n 1, 1) := by decide +kernel
theorem dX1_nearCell_6 : decode cX1_nearCell 6 = .ok (.tableswitch 73 0 4 #[34, 36, 41, 46, 59], 34) := by decide +kernel
theorem dX1_nearCell_40 : decode cX1_nearCell 40 = .ok (.iload_n 0, 1) := by decide +kernel
theorem dX1_nearCell_41 : decode cX1_nearCell 41 = .ok (.ireturn, 1) := by decide +kernel
theorem dX1_nearCell_42 : decode cX1_nearCell 42 = .ok (.iload_n 0, 1) := by decide +kernel
theorem dX1_nearCell_43 : decode cX1_nearCell 43 = .ok (.bipush 6, 2) := by decide +kernel
theorem dX1_nearCell_45 : decode cX1_nearCell 45 = .ok (.isub, 1) := by decide +kernel
theorem dX1_nearCell_46 : decode cX1_nearCell 46 = .ok (.ireturn, 1) := by decide +kernel
theorem dX1_nearCell_47 : decode cX1_nearCell 47 = .ok (.iload_n 0, 1) := by decide +kernel
theorem dX1_nearCell_48 : decode cX1_nearCell 48 = .ok (.bipush 6, 2) := by decide +kernel
theorem dX1_nearCell_50 : decode cX1_nearCell 50 = .ok (.iadd, 1) := by decide +kernel
theorem dX1_nearCell_51 : decode cX1_nearCell 51 = .ok (.ireturn, 1) := by decide +kernel
theorem dX1_nearCell_52 : decode cX1_nearCell 52 = .ok (.iload_n 2, 1) := by decide +kernel
theorem dX1_nearCell_53 : decode cX1_nearCell 53 = .ok (.ifCond .ne 8, 3) := by decide +kernel
theorem dX1_nearCell_56 : decode cX1_nearCell 56 = .ok (.ldc 78, 2) := by decide +kernel
theorem dX1_nearCell_58 : decode cX1_nearCell 58 = .ok (.goto 6, 3) := by decide +kernel
theorem dX1_nearCell_61 : decode cX1_nearCell 61 = .ok (.iload_n 0, 1) := by decide +kernel
theorem dX1_nearCell_62 : decode cX1_nearCell 62 = .ok (.iconst 1, 1) := by decide +kernel
theorem dX1_nearCell_63 : decode cX1_nearCell 63 = .ok (.isub, 1) := by decide +kernel
theorem dX1_nearCell_64 : decode cX1_nearCell 64 = .ok (.ireturn, 1) := by decide +kernel
theorem dX1_nearCell_65 : decode cX1_nearCell 65 = .ok (.iload_n 2, 1) := by decide +kernel
theorem dX1_nearCell_66 : decode cX1_nearCell 66 = .ok (.iconst 5, 1) := by decide +kernel
theorem dX1_nearCell_67 : decode cX1_nearCell 67 = .ok (.if_icmp .ne 8, 3) := by decide +kernel
theorem dX1_nearCell_70 : decode cX1_nearCell 70 = .ok (.ldc 78, 2) := by decide +kernel
theorem dX1_nearCell_72 : decode cX1_nearCell 72 = .ok (.goto 6, 3) := by decide +kernel
theorem dX1_nearCell_75 : decode cX1_nearCell 75 = .ok (.iload_n 0, 1) := by decide +kernel
theorem dX1_nearCell_76 : decode cX1_nearCell 76 = .ok (.iconst 1, 1) := by decide +kernel
theorem dX1_nearCell_77 : decode cX1_nearCell 77 = .ok (.iadd, 1) := by decide +kernel
theorem dX1_nearCell_78 : decode cX1_nearCell 78 = .ok (.ireturn, 1) := by decide +kernel
theorem dX1_nearCell_79 : decode cX1_nearCell 79 = .ok (.ldc 78, 2) := by decide +kernel
theorem dX1_nearCell_81 : decode cX1_nearCell 81 = .ok (.ireturn, 1) := by decide +kernel
set_option maxRecDepth 20000 in
theorem ggX1_addShares_X1_isCell : GoodIn wsX1_addShares wsX1_isCell := goodIn_r _ [4] (by decide +kernel) (by decide +kernel)
set_option maxRecDepth 20000 in
theorem gX1_addShares_X1_isCell : GoodIn wsX1_addShares (va_wsS RX1 37 yX1_isCell wsX1_isCell) := goodIn_app (goodIn_of _ (by decide +kernel)) ggX1_addShares_X1_isCell
set_option maxRecDepth 20000 in
theorem ggX1_addShares_X1_nearCell : GoodIn wsX1_addShares wsX1_nearCell := goodIn_r _ [7, 8] (by decide +kernel) (by decide +kernel)
set_option maxRecDepth 20000 in
theorem gX1_addShares_X1_nearCell : GoodIn wsX1_addShares (va_wsS RX1 195 yX1_nearCell wsX1_nearCell) := goodIn_app (goodIn_of _ (by decide +kernel)) ggX1_addShares_X1_nearCell
theorem dX1_addShares_0 : decode cX1_addShares 0 = .ok (.iload_n 2, 1) := by decide +kernel
theorem dX1_addShares_1 : decode cX1_addShares 1 = .ok (.invokestatic 37, 3) := by decide +kernel
theorem dX1_addShares_4 : decode cX1_addShares 4 = .ok (.ifCond .ne 4, 3) := by decide +kernel
theorem dX1_addShares_7 : decode cX1_addShares 7 = .ok (.return_, 1) := by decide +kernel
theorem dX1_addShares_8 : decode cX1_addShares 8 = .ok (.iload_n 1, 1) := by decide +kernel
theorem dX1_addShares_9 : decode cX1_addShares 9 = .ok (.bipush 8, 2) := by decide +kernel
theorem dX1_addShares_11 : decode cX1_addShares 11 = .ok (.idiv, 1) := by decide +kernel
theorem dX1_addShares_12 : decode cX1_addShares 12 = .ok (.istore_n 3, 1) := by decide +kernel
theorem dX1_addShares_13 : decode cX1_addShares 13 = .ok (.iload_n 1, 1) := by decide +kernel
theorem dX1_addShares_14 : decode cX1_addShares 14 = .ok (.istore 4, 2) := by decide +kernel
theorem dX1_addShares_16 : decode cX1_addShares 16 = .ok (.iconst 1, 1) := by decide +kernel
theorem dX1_addShares_17 : decode cX1_addShares 17 = .ok (.istore 5, 2) := by decide +kernel
theorem dX1_addShares_19 : decode cX1_addShares 19 = .ok (.iload 5, 2) := by decide +kernel
theorem dX1_addShares_21 : decode cX1_addShares 21 = .ok (.iconst 5, 1) := by decide +kernel
theorem dX1_addShares_22 : decode cX1_addShares 22 = .ok (.if_icmp .ge 39, 3) := by decide +kernel
theorem dX1_addShares_25 : decode cX1_addShares 25 = .ok (.iload_n 2, 1) := by decide +kernel
theorem dX1_addShares_26 : decode cX1_addShares 26 = .ok (.iload 5, 2) := by decide +kernel
theorem dX1_addShares_28 : decode cX1_addShares 28 = .ok (.invokestatic 195, 3) := by decide +kernel
theorem dX1_addShares_31 : decode cX1_addShares 31 = .ok (.istore 6, 2) := by decide +kernel
theorem dX1_addShares_33 : decode cX1_addShares 33 = .ok (.iload 6, 2) := by decide +kernel
theorem dX1_addShares_35 : decode cX1_addShares 35 = .ok (.invokestatic 37, 3) := by decide +kernel
theorem dX1_addShares_38 : decode cX1_addShares 38 = .ok (.ifCond .eq 17, 3) := by decide +kernel
theorem dX1_addShares_41 : decode cX1_addShares 41 = .ok (.aload_n 0, 1) := by decide +kernel
theorem dX1_addShares_42 : decode cX1_addShares 42 = .ok (.iload 6, 2) := by decide +kernel
theorem dX1_addShares_44 : decode cX1_addShares 44 = .ok (.dup2, 1) := by decide +kernel
theorem dX1_addShares_45 : decode cX1_addShares 45 = .ok (.iaload, 1) := by decide +kernel
theorem dX1_addShares_46 : decode cX1_addShares 46 = .ok (.iload_n 3, 1) := by decide +kernel
theorem dX1_addShares_47 : decode cX1_addShares 47 = .ok (.iadd, 1) := by decide +kernel
theorem dX1_addShares_48 : decode cX1_addShares 48 = .ok (.iastore, 1) := by decide +kernel
theorem dX1_addShares_49 : decode cX1_addShares 49 = .ok (.iload 4, 2) := by decide +kernel
theorem dX1_addShares_51 : decode cX1_addShares 51 = .ok (.iload_n 3, 1) := by decide +kernel
theorem dX1_addShares_52 : decode cX1_addShares 52 = .ok (.isub, 1) := by decide +kernel
theorem dX1_addShares_53 : decode cX1_addShares 53 = .ok (.istore 4, 2) := by decide +kernel
theorem dX1_addShares_55 : decode cX1_addShares 55 = .ok (.iinc 5 1, 3) := by decide +kernel
theorem dX1_addShares_58 : decode cX1_addShares 58 = .ok (.goto (-39), 3) := by decide +kernel
theorem dX1_addShares_61 : decode cX1_addShares 61 = .ok (.aload_n 0, 1) := by decide +kernel
theorem dX1_addShares_62 : decode cX1_addShares 62 = .ok (.iload_n 2, 1) := by decide +kernel
theorem dX1_addShares_63 : decode cX1_addShares 63 = .ok (.dup2, 1) := by decide +kernel
theorem dX1_addShares_64 : decode cX1_addShares 64 = .ok (.iaload, 1) := by decide +kernel
theorem dX1_addShares_65 : decode cX1_addShares 65 = .ok (.iload 4, 2) := by decide +kernel
theorem dX1_addShares_67 : decode cX1_addShares 67 = .ok (.iadd, 1) := by decide +kernel
theorem dX1_addShares_68 : decode cX1_addShares 68 = .ok (.iastore, 1) := by decide +kernel
theorem dX1_addShares_69 : decode cX1_addShares 69 = .ok (.return_, 1) := by decide +kernel
set_option maxRecDepth 20000 in
theorem ggX1_addAllShares_X1_addShares : GoodIn wsX1_addAllShares wsX1_addShares := goodIn_r _ [4, 5, 6, 3, 7, 8, 9, 10, 11] (by decide +kernel) (by decide +kernel)
set_option maxRecDepth 20000 in
theorem gX1_addAllShares_X1_addShares : GoodIn wsX1_addAllShares (va_wsS RX1 198 yX1_addShares wsX1_addShares) := goodIn_app (goodIn_of _ (by decide +kernel)) ggX1_addAllShares_X1_addShares
theorem dX1_addAllShares_0 : decode cX1_addAllShares 0 = .ok (.iconst 0, 1) := by decide +kernel
theorem dX1_addAllShares_1 : decode cX1_addAllShares 1 = .ok (.istore_n 3, 1) := by decide +kernel
theorem dX1_addAllShares_2 : decode cX1_addAllShares 2 = .ok (.iload_n 3, 1) := by decide +kernel
theorem dX1_addAllShares_3 : decode cX1_addAllShares 3 = .ok (.bipush 8, 2) := by decide +kernel
theorem dX1_addAllShares_5 : decode cX1_addAllShares 5 = .ok (.if_icmp .ge 19, 3) := by decide +kernel
theorem dX1_addAllShares_8 : decode cX1_addAllShares 8 = .ok (.aload_n 0, 1) := by decide +kernel
theorem dX1_addAllShares_9 : decode cX1_addAllShares 9 = .ok (.aload_n 1, 1) := by decide +kernel
theorem dX1_addAllShares_10 : decode cX1_addAllShares 10 = .ok (.iload_n 3, 1) := by decide +kernel
theorem dX1_addAllShares_11 : decode cX1_addAllShares 11 = .ok (.iaload, 1) := by decide +kernel
theorem dX1_addAllShares_12 : decode cX1_addAllShares 12 = .ok (.aload_n 2, 1) := by decide +kernel
theorem dX1_addAllShares_13 : decode cX1_addAllShares 13 = .ok (.iload_n 3, 1) := by decide +kernel
theorem dX1_addAllShares_14 : decode cX1_addAllShares 14 = .ok (.iaload, 1) := by decide +kernel
theorem dX1_addAllShares_15 : decode cX1_addAllShares 15 = .ok (.invokestatic 198, 3) := by decide +kernel
theorem dX1_addAllShares_18 : decode cX1_addAllShares 18 = .ok (.iinc 3 1, 3) := by decide +kernel
theorem dX1_addAllShares_21 : decode cX1_addAllShares 21 = .ok (.goto (-19), 3) := by decide +kernel
theorem dX1_addAllShares_24 : decode cX1_addAllShares 24 = .ok (.return_, 1) := by decide +kernel
set_option maxRecDepth 20000 in
theorem ggX1_weighAll_X1_copyRow : GoodIn wsX1_weighAll wsX1_copyRow := goodIn_r _ [9, 10, 11, 12, 13, 14, 15, 16, 17] (by decide +kernel) (by decide +kernel)
set_option maxRecDepth 20000 in
theorem gX1_weighAll_X1_copyRow : GoodIn wsX1_weighAll (va_wsS RX1 180 yX1_copyRow wsX1_copyRow) := goodIn_app (goodIn_of _ (by decide +kernel)) ggX1_weighAll_X1_copyRow
set_option maxRecDepth 20000 in
theorem ggX1_weighAll_X1_addAllShares : GoodIn wsX1_weighAll wsX1_addAllShares := goodIn_r _ [20, 21, 22, 8, 23, 24, 25, 26, 27, 28, 29, 30] (by decide +kernel) (by decide +kernel)
set_option maxRecDepth 20000 in
theorem gX1_weighAll_X1_addAllShares : GoodIn wsX1_weighAll (va_wsS RX1 201 yX1_addAllShares wsX1_addAllShares) := goodIn_app (goodIn_of _ (by decide +kernel)) ggX1_weighAll_X1_addAllShares
theorem dX1_weighAll_0 : decode cX1_weighAll 0 = .ok (.aload_n 0, 1) := by decide +kernel
theorem dX1_weighAll_1 : decode cX1_weighAll 1 = .ok (.getfield 10, 3) := by decide +kernel
theorem dX1_weighAll_4 : decode cX1_weighAll 4 = .ok (.getfield 56, 3) := by decide +kernel
theorem dX1_weighAll_7 : decode cX1_weighAll 7 = .ok (.aload_n 0, 1) := by decide +kernel
theorem dX1_weighAll_8 : decode cX1_weighAll 8 = .ok (.getfield 27, 3) := by decide +kernel
theorem dX1_weighAll_11 : decode cX1_weighAll 11 = .ok (.invokestatic 180, 3) := by decide +kernel
theorem dX1_weighAll_14 : decode cX1_weighAll 14 = .ok (.aload_n 0, 1) := by decide +kernel
theorem dX1_weighAll_15 : decode cX1_weighAll 15 = .ok (.getfield 27, 3) := by decide +kernel
theorem dX1_weighAll_18 : decode cX1_weighAll 18 = .ok (.aload_n 0, 1) := by decide +kernel
theorem dX1_weighAll_19 : decode cX1_weighAll 19 = .ok (.getfield 10, 3) := by decide +kernel
theorem dX1_weighAll_22 : decode cX1_weighAll 22 = .ok (.getfield 83, 3) := by decide +kernel
theorem dX1_weighAll_25 : decode cX1_weighAll 25 = .ok (.aload_n 0, 1) := by decide +kernel
theorem dX1_weighAll_26 : decode cX1_weighAll 26 = .ok (.getfield 10, 3) := by decide +kernel
theorem dX1_weighAll_29 : decode cX1_weighAll 29 = .ok (.getfield 71, 3) := by decide +kernel
theorem dX1_weighAll_32 : decode cX1_weighAll 32 = .ok (.invokestatic 201, 3) := by decide +kernel
theorem dX1_weighAll_35 : decode cX1_weighAll 35 = .ok (.return_, 1) := by decide +kernel
set_option maxRecDepth 20000 in
theorem ggX1_expectAll_X1_copyRow : GoodIn wsX1_expectAll wsX1_copyRow := goodIn_r _ [8, 9, 10, 11, 12, 13, 14, 15, 16] (by decide +kernel) (by decide +kernel)
set_option maxRecDepth 20000 in
theorem gX1_expectAll_X1_copyRow : GoodIn wsX1_expectAll (va_wsS RX1 180 yX1_copyRow wsX1_copyRow) := goodIn_app (goodIn_of _ (by decide +kernel)) ggX1_expectAll_X1_copyRow
set_option maxRecDepth 20000 in
theorem ggX1_expectAll_X1_addAllShares : GoodIn wsX1_expectAll wsX1_addAllShares := goodIn_r _ [19, 20, 21, 7, 22, 23, 24, 25, 26, 27, 28, 29] (by decide +kernel) (by decide +kernel)
set_option maxRecDepth 20000 in
theorem gX1_expectAll_X1_addAllShares : GoodIn wsX1_expectAll (va_wsS RX1 201 yX1_addAllShares wsX1_addAllShares) := goodIn_app (goodIn_of _ (by decide +kernel)) ggX1_expectAll_X1_addAllShares
theorem dX1_expectAll_0 : decode cX1_expectAll 0 = .ok (.aload_n 0, 1) := by decide +kernel
theorem dX1_expectAll_1 : decode cX1_expectAll 1 = .ok (.getfield 10, 3) := by decide +kernel
theorem dX1_expectAll_4 : decode cX1_expectAll 4 = .ok (.getfield 62, 3) := by decide +kernel
theorem dX1_expectAll_7 : decode cX1_expectAll 7 = .ok (.aload_n 0, 1) := by decide +kernel
theorem dX1_expectAll_8 : decode cX1_expectAll 8 = .ok (.getfield 31, 3) := by decide +kernel
theorem dX1_expectAll_11 : decode cX1_expectAll 11 = .ok (.invokestatic 180, 3) := by decide +kernel
theorem dX1_expectAll_14 : decode cX1_expectAll 14 = .ok (.aload_n 0, 1) := by decide +kernel
theorem dX1_expectAll_15 : decode cX1_expectAll 15 = .ok (.getfield 31, 3) := by decide +kernel
theorem dX1_expectAll_18 : decode cX1_expectAll 18 = .ok (.aload_n 0, 1) := by decide +kernel
theorem dX1_expectAll_19 : decode cX1_expectAll 19 = .ok (.getfield 10, 3) := by decide +kernel
theorem dX1_expectAll_22 : decode cX1_expectAll 22 = .ok (.getfield 86, 3) := by decide +kernel
theorem dX1_expectAll_25 : decode cX1_expectAll 25 = .ok (.aload_n 1, 1) := by decide +kernel
theorem dX1_expectAll_26 : decode cX1_expectAll 26 = .ok (.invokestatic 201, 3) := by decide +kernel
theorem dX1_expectAll_29 : decode cX1_expectAll 29 = .ok (.return_, 1) := by decide +kernel
set_option maxRecDepth 20000 in
theorem ggX1_earliestTare_X1_nearCell : GoodIn wsX1_earliestTare wsX1_nearCell := goodIn_r _ [11, 12] (by decide +kernel) (by decide +kernel)
set_option maxRecDepth 20000 in
theorem gX1_earliestTare_X1_nearCell : GoodIn wsX1_earliestTare (va_wsS RX1 195 yX1_nearCell wsX1_nearCell) := goodIn_app (goodIn_of _ (by decide +kernel)) ggX1_earliestTare_X1_nearCell
set_option maxRecDepth 20000 in
theorem ggX1_earliestTare_X1_isCell : GoodIn wsX1_earliestTare wsX1_isCell := goodIn_r _ [15] (by decide +kernel) (by decide +kernel)
set_option maxRecDepth 20000 in
theorem gX1_earliestTare_X1_isCell : GoodIn wsX1_earliestTare (va_wsS RX1 37 yX1_isCell wsX1_isCell) := goodIn_app (goodIn_of _ (by decide +kernel)) ggX1_earliestTare_X1_isCell
theorem dX1_earliestTare_0 : decode cX1_earliestTare 0 = .ok (.aload_n 0, 1) := by decide +kernel
theorem dX1_earliestTare_1 : decode cX1_earliestTare 1 = .ok (.getfield 10, 3) := by decide +kernel
theorem dX1_earliestTare_4 : decode cX1_earliestTare 4 = .ok (.getfield 52, 3) := by decide +kernel
theorem dX1_earliestTare_7 : decode cX1_earliestTare 7 = .ok (.istore_n 2, 1) := by decide +kernel
theorem dX1_earliestTare_8 : decode cX1_earliestTare 8 = .ok (.iconst 0, 1) := by decide +kernel
theorem dX1_earliestTare_9 : decode cX1_earliestTare 9 = .ok (.istore_n 3, 1) := by decide +kernel
theorem dX1_earliestTare_10 : decode cX1_earliestTare 10 = .ok (.iload_n 3, 1) := by decide +kernel
theorem dX1_earliestTare_11 : decode cX1_earliestTare 11 = .ok (.iconst 5, 1) := by decide +kernel
theorem dX1_earliestTare_12 : decode cX1_earliestTare 12 = .ok (.if_icmp .ge 39, 3) := by decide +kernel
theorem dX1_earliestTare_15 : decode cX1_earliestTare 15 = .ok (.iload_n 1, 1) := by decide +kernel
theorem dX1_earliestTare_16 : decode cX1_earliestTare 16 = .ok (.iload_n 3, 1) := by decide +kernel
theorem dX1_earliestTare_17 : decode cX1_earliestTare 17 = .ok (.invokestatic 195, 3) := by decide +kernel
theorem dX1_earliestTare_20 : decode cX1_earliestTare 20 = .ok (.istore 4, 2) := by decide +kernel
theorem dX1_earliestTare_22 : decode cX1_earliestTare 22 = .ok (.iload 4, 2) := by decide +kernel
theorem dX1_earliestTare_24 : decode cX1_earliestTare 24 = .ok (.invokestatic 37, 3) := by decide +kernel
theorem dX1_earliestTare_27 : decode cX1_earliestTare 27 = .ok (.ifCond .eq 18, 3) := by decide +kernel
theorem dX1_earliestTare_30 : decode cX1_earliestTare 30 = .ok (.iload_n 2, 1) := by decide +kernel
theorem dX1_earliestTare_31 : decode cX1_earliestTare 31 = .ok (.aload_n 0, 1) := by decide +kernel
theorem dX1_earliestTare_32 : decode cX1_earliestTare 32 = .ok (.getfield 10, 3) := by decide +kernel
theorem dX1_earliestTare_35 : decode cX1_earliestTare 35 = .ok (.getfield 65, 3) := by decide +kernel
theorem dX1_earliestTare_38 : decode cX1_earliestTare 38 = .ok (.iload 4, 2) := by decide +kernel
theorem dX1_earliestTare_40 : decode cX1_earliestTare 40 = .ok (.iaload, 1) := by decide +kernel
theorem dX1_earliestTare_41 : decode cX1_earliestTare 41 = .ok (.invokestatic 205, 3) := by decide +kernel
theorem dX1_earliestTare_44 : decode cX1_earliestTare 44 = .ok (.istore_n 2, 1) := by decide +kernel
theorem dX1_earliestTare_45 : decode cX1_earliestTare 45 = .ok (.iinc 3 1, 3) := by decide +kernel
theorem dX1_earliestTare_48 : decode cX1_earliestTare 48 = .ok (.goto (-38), 3) := by decide +kernel
theorem dX1_earliestTare_51 : decode cX1_earliestTare 51 = .ok (.iload_n 2, 1) := by decide +kernel
theorem dX1_earliestTare_52 : decode cX1_earliestTare 52 = .ok (.ireturn, 1) := by decide +kernel
set_option maxRecDepth 20000 in
theorem ggX1_sumOfReadings_X1_weighAll : GoodIn wsX1_sumOfReadings wsX1_weighAll := goodIn_r _ [6, 7, 8, 1, 9, 10, 11, 12, 5, 13, 14, 15, 16, 17, 18, 19, 20, 21, 22, 23, 24, 25, 26, 27, 28, 29, 30, 31, 32, 33, 34, 38, 39, 40, 41, 42, 43, 44, 45, 46, 47, 48, 49, 50, 51, 52, 53, 54, 55, 56, 57, 58, 59] (by decide +kernel) (by decide +kernel)
set_option maxRecDepth 20000 in
theorem gX1_sumOfReadings_X1_weighAll : GoodIn wsX1_sumOfReadings (wsV RX1 59 RX1 yX1_weighAll wsX1_weighAll) := goodIn_app (goodIn_of _ (by decide +kernel)) ggX1_sumOfReadings_X1_weighAll
set_option maxRecDepth 20000 in
theorem ggX1_sumOfReadings_X1_sumOf : GoodIn wsX1_sumOfReadings wsX1_sumOf := goodIn_r _ [37] (by decide +kernel) (by decide +kernel)
set_option maxRecDepth 20000 in
theorem gX1_sumOfReadings_X1_sumOf : GoodIn wsX1_sumOfReadings (va_wsS RX1 152 yX1_sumOf wsX1_sumOf) := goodIn_app (goodIn_of _ (by decide +kernel)) ggX1_sumOfReadings_X1_sumOf
theorem dX1_sumOfReadings_0 : decode cX1_sumOfReadings 0 = .ok (.aload_n 0, 1) := by decide +kernel
theorem dX1_sumOfReadings_1 : decode cX1_sumOfReadings 1 = .ok (.invokevirtual 59, 3) := by decide +kernel
theorem dX1_sumOfReadings_4 : decode cX1_sumOfReadings 4 = .ok (.aload_n 0, 1) := by decide +kernel
theorem dX1_sumOfReadings_5 : decode cX1_sumOfReadings 5 = .ok (.getfield 27, 3) := by decide +kernel
theorem dX1_sumOfReadings_8 : decode cX1_sumOfReadings 8 = .ok (.invokestatic 152, 3) := by decide +kernel
theorem dX1_sumOfReadings_11 : decode cX1_sumOfReadings 11 = .ok (.ireturn, 1) := by decide +kernel
theorem dX1_whoIsOn_0 : decode cX1_whoIsOn 0 = .ok (.iconst 0, 1) := by decide +kernel
theorem dX1_whoIsOn_1 : decode cX1_whoIsOn 1 = .ok (.istore_n 2, 1) := by decide +kernel
theorem dX1_whoIsOn_2 : decode cX1_whoIsOn 2 = .ok (.iload_n 2, 1) := by decide +kernel
theorem dX1_whoIsOn_3 : decode cX1_whoIsOn 3 = .ok (.bipush 8, 2) := by decide +kernel
theorem dX1_whoIsOn_5 : decode cX1_whoIsOn 5 = .ok (.if_icmp .ge 18, 3) := by decide +kernel
theorem dX1_whoIsOn_8 : decode cX1_whoIsOn 8 = .ok (.aload_n 0, 1) := by decide +kernel
theorem dX1_whoIsOn_9 : decode cX1_whoIsOn 9 = .ok (.iload_n 2, 1) := by decide +kernel
theorem dX1_whoIsOn_10 : decode cX1_whoIsOn 10 = .ok (.iaload, 1) := by decide +kernel
theorem dX1_whoIsOn_11 : decode cX1_whoIsOn 11 = .ok (.iload_n 1, 1) := by decide +kernel
theorem dX1_whoIsOn_12 : decode cX1_whoIsOn 12 = .ok (.if_icmp .ne 5, 3) := by decide +kernel
theorem dX1_whoIsOn_15 : decode cX1_whoIsOn 15 = .ok (.iload_n 2, 1) := by decide +kernel
theorem dX1_whoIsOn_16 : decode cX1_whoIsOn 16 = .ok (.ireturn, 1) := by decide +kernel
theorem dX1_whoIsOn_17 : decode cX1_whoIsOn 17 = .ok (.iinc 2 1, 3) := by decide +kernel
theorem dX1_whoIsOn_20 : decode cX1_whoIsOn 20 = .ok (.goto (-18), 3) := by decide +kernel
theorem dX1_whoIsOn_23 : decode cX1_whoIsOn 23 = .ok (.ldc 78, 2) := by decide +kernel
theorem dX1_whoIsOn_25 : decode cX1_whoIsOn 25 = .ok (.ireturn, 1) := by decide +kernel
theorem dX1_exchange_0 : decode cX1_exchange 0 = .ok (.aload_n 0, 1) := by decide +kernel
theorem dX1_exchange_1 : decode cX1_exchange 1 = .ok (.iload_n 1, 1) := by decide +kernel
theorem dX1_exchange_2 : decode cX1_exchange 2 = .ok (.iaload, 1) := by decide +kernel
theorem dX1_exchange_3 : decode cX1_exchange 3 = .ok (.istore_n 3, 1) := by decide +kernel
theorem dX1_exchange_4 : decode cX1_exchange 4 = .ok (.aload_n 0, 1) := by decide +kernel
theorem dX1_exchange_5 : decode cX1_exchange 5 = .ok (.iload_n 1, 1) := by decide +kernel
theorem dX1_exchange_6 : decode cX1_exchange 6 = .ok (.aload_n 0, 1) := by decide +kernel
theorem dX1_exchange_7 : decode cX1_exchange 7 = .ok (.iload_n 2, 1) := by decide +kernel
theorem dX1_exchange_8 : decode cX1_exchange 8 = .ok (.iaload, 1) := by decide +kernel
theorem dX1_exchange_9 : decode cX1_exchange 9 = .ok (.iastore, 1) := by decide +kernel
theorem dX1_exchange_10 : decode cX1_exchange 10 = .ok (.aload_n 0, 1) := by decide +kernel
theorem dX1_exchange_11 : decode cX1_exchange 11 = .ok (.iload_n 2, 1) := by decide +kernel
theorem dX1_exchange_12 : decode cX1_exchange 12 = .ok (.iload_n 3, 1) := by decide +kernel
theorem dX1_exchange_13 : decode cX1_exchange 13 = .ok (.iastore, 1) := by decide +kernel
theorem dX1_exchange_14 : decode cX1_exchange 14 = .ok (.return_, 1) := by decide +kernel
set_option maxRecDepth 20000 in
theorem ggX1_errorWith_X1_weighAll : GoodIn wsX1_errorWith wsX1_weighAll := goodIn_r _ [11, 12, 13, 1, 14, 15, 16, 17, 10, 18, 19, 20, 5, 21, 22, 23, 24, 25, 26, 27, 28, 29, 30, 31, 32, 33, 34, 35, 36, 37, 38, 45, 46, 47, 48, 49, 50, 51, 52, 53, 54, 55, 56, 57, 58, 59, 60, 61, 62, 63, 64, 65, 66] (by decide +kernel) (by decide +kernel)
set_option maxRecDepth 20000 in
theorem gX1_errorWith_X1_weighAll : GoodIn wsX1_errorWith (wsV RX1 59 RX1 yX1_weighAll wsX1_weighAll) := goodIn_app (goodIn_of _ (by decide +kernel)) ggX1_errorWith_X1_weighAll
set_option maxRecDepth 20000 in
theorem ggX1_errorWith_X1_expectAll : GoodIn wsX1_errorWith wsX1_expectAll := goodIn_r _ [42, 12, 43, 2, 44, 16, 17, 10, 18, 19, 20, 5, 21, 22, 23, 24, 25, 26, 27, 28, 29, 30, 31, 32, 33, 34, 35, 36, 37, 38, 45, 46, 47, 48, 49, 50, 51, 52, 53, 54, 55, 56, 57, 58, 59, 60, 61, 62, 63, 64, 65, 66] (by decide +kernel) (by decide +kernel)
set_option maxRecDepth 20000 in
theorem gX1_errorWith_X1_expectAll : GoodIn wsX1_errorWith (wsV RX1 167 RX1 yX1_expectAll wsX1_expectAll) := goodIn_app (goodIn_of _ (by decide +kernel)) ggX1_errorWith_X1_expectAll
theorem dX1_errorWith_0 : decode cX1_errorWith 0 = .ok (.aload_n 0, 1) := by decide +kernel
theorem dX1_errorWith_1 : decode cX1_errorWith 1 = .ok (.invokevirtual 59, 3) := by decide +kernel
theorem dX1_errorWith_4 : decode cX1_errorWith 4 = .ok (.aload_n 0, 1) := by decide +kernel
theorem dX1_errorWith_5 : decode cX1_errorWith 5 = .ok (.aload_n 1, 1) := by decide +kernel
theorem dX1_errorWith_6 : decode cX1_errorWith 6 = .ok (.invokevirtual 167, 3) := by decide +kernel
theorem dX1_errorWith_9 : decode cX1_errorWith 9 = .ok (.iconst 0, 1) := by decide +kernel
theorem dX1_errorWith_10 : decode cX1_errorWith 10 = .ok (.istore_n 2, 1) := by decide +kernel
theorem dX1_errorWith_11 : decode cX1_errorWith 11 = .ok (.iconst 0, 1) := by decide +kernel
theorem dX1_errorWith_12 : decode cX1_errorWith 12 = .ok (.istore_n 3, 1) := by decide +kernel
theorem dX1_errorWith_13 : decode cX1_errorWith 13 = .ok (.iload_n 3, 1) := by decide +kernel
theorem dX1_errorWith_14 : decode cX1_errorWith 14 = .ok (.bipush 24, 2) := by decide +kernel
theorem dX1_errorWith_16 : decode cX1_errorWith 16 = .ok (.if_icmp .ge 28, 3) := by decide +kernel
theorem dX1_errorWith_19 : decode cX1_errorWith 19 = .ok (.iload_n 2, 1) := by decide +kernel
theorem dX1_errorWith_20 : decode cX1_errorWith 20 = .ok (.aload_n 0, 1) := by decide +kernel
theorem dX1_errorWith_21 : decode cX1_errorWith 21 = .ok (.getfield 27, 3) := by decide +kernel
theorem dX1_errorWith_24 : decode cX1_errorWith 24 = .ok (.iload_n 3, 1) := by decide +kernel
theorem dX1_errorWith_25 : decode cX1_errorWith 25 = .ok (.iaload, 1) := by decide +kernel
theorem dX1_errorWith_26 : decode cX1_errorWith 26 = .ok (.aload_n 0, 1) := by decide +kernel
theorem dX1_errorWith_27 : decode cX1_errorWith 27 = .ok (.getfield 31, 3) := by decide +kernel
theorem dX1_errorWith_30 : decode cX1_errorWith 30 = .ok (.iload_n 3, 1) := by decide +kernel
theorem dX1_errorWith_31 : decode cX1_errorWith 31 = .ok (.iaload, 1) := by decide +kernel
theorem dX1_errorWith_32 : decode cX1_errorWith 32 = .ok (.isub, 1) := by decide +kernel
theorem dX1_errorWith_33 : decode cX1_errorWith 33 = .ok (.invokestatic 208, 3) := by decide +kernel
theorem dX1_errorWith_36 : decode cX1_errorWith 36 = .ok (.iadd, 1) := by decide +kernel
theorem dX1_errorWith_37 : decode cX1_errorWith 37 = .ok (.istore_n 2, 1) := by decide +kernel
theorem dX1_errorWith_38 : decode cX1_errorWith 38 = .ok (.iinc 3 1, 3) := by decide +kernel
theorem dX1_errorWith_41 : decode cX1_errorWith 41 = .ok (.goto (-28), 3) := by decide +kernel
theorem dX1_errorWith_44 : decode cX1_errorWith 44 = .ok (.iload_n 2, 1) := by decide +kernel
theorem dX1_errorWith_45 : decode cX1_errorWith 45 = .ok (.ireturn, 1) := by decide +kernel
set_option maxRecDepth 20000 in
theorem ggX1_walkersAboard_X1_isAboard : GoodIn wsX1_walkersAboard wsX1_isAboard := goodIn_r _ [5, 6, 7, 8, 9, 10, 11, 4, 12, 13, 14, 15, 16, 17, 18, 19, 20, 21, 22, 23, 24, 25, 26, 27, 28, 29, 30, 31, 32, 33, 34, 35] (by decide +kernel) (by decide +kernel)
set_option maxRecDepth 20000 in
theorem gX1_walkersAboard_X1_isAboard : GoodIn wsX1_walkersAboard (wsV RX1 95 RX1 yX1_isAboard wsX1_isAboard) := goodIn_app (goodIn_of _ (by decide +kernel)) ggX1_walkersAboard_X1_isAboard
theorem dX1_walkersAboard_0 : decode cX1_walkersAboard 0 = .ok (.iconst 0, 1) := by decide +kernel
theorem dX1_walkersAboard_1 : decode cX1_walkersAboard 1 = .ok (.istore_n 1, 1) := by decide +kernel
theorem dX1_walkersAboard_2 : decode cX1_walkersAboard 2 = .ok (.iconst 0, 1) := by decide +kernel
theorem dX1_walkersAboard_3 : decode cX1_walkersAboard 3 = .ok (.istore_n 2, 1) := by decide +kernel
theorem dX1_walkersAboard_4 : decode cX1_walkersAboard 4 = .ok (.iload_n 2, 1) := by decide +kernel
theorem dX1_walkersAboard_5 : decode cX1_walkersAboard 5 = .ok (.bipush 8, 2) := by decide +kernel
theorem dX1_walkersAboard_7 : decode cX1_walkersAboard 7 = .ok (.if_icmp .ge 20, 3) := by decide +kernel
theorem dX1_walkersAboard_10 : decode cX1_walkersAboard 10 = .ok (.aload_n 0, 1) := by decide +kernel
theorem dX1_walkersAboard_11 : decode cX1_walkersAboard 11 = .ok (.iload_n 2, 1) := by decide +kernel
theorem dX1_walkersAboard_12 : decode cX1_walkersAboard 12 = .ok (.invokevirtual 95, 3) := by decide +kernel
theorem dX1_walkersAboard_15 : decode cX1_walkersAboard 15 = .ok (.ifCond .eq 6, 3) := by decide +kernel
theorem dX1_walkersAboard_18 : decode cX1_walkersAboard 18 = .ok (.iinc 1 1, 3) := by decide +kernel
theorem dX1_walkersAboard_21 : decode cX1_walkersAboard 21 = .ok (.iinc 2 1, 3) := by decide +kernel
theorem dX1_walkersAboard_24 : decode cX1_walkersAboard 24 = .ok (.goto (-20), 3) := by decide +kernel
theorem dX1_walkersAboard_27 : decode cX1_walkersAboard 27 = .ok (.iload_n 1, 1) := by decide +kernel
theorem dX1_walkersAboard_28 : decode cX1_walkersAboard 28 = .ok (.ireturn, 1) := by decide +kernel
theorem dX1_walkersMisplaced_0 : decode cX1_walkersMisplaced 0 = .ok (.iconst 0, 1) := by decide +kernel
theorem dX1_walkersMisplaced_1 : decode cX1_walkersMisplaced 1 = .ok (.istore_n 1, 1) := by decide +kernel
theorem dX1_walkersMisplaced_2 : decode cX1_walkersMisplaced 2 = .ok (.iconst 0, 1) := by decide +kernel
theorem dX1_walkersMisplaced_3 : decode cX1_walkersMisplaced 3 = .ok (.istore_n 2, 1) := by decide +kernel
theorem dX1_walkersMisplaced_4 : decode cX1_walkersMisplaced 4 = .ok (.iload_n 2, 1) := by decide +kernel
theorem dX1_walkersMisplaced_5 : decode cX1_walkersMisplaced 5 = .ok (.bipush 8, 2) := by decide +kernel
theorem dX1_walkersMisplaced_7 : decode cX1_walkersMisplaced 7 = .ok (.if_icmp .ge 33, 3) := by decide +kernel
theorem dX1_walkersMisplaced_10 : decode cX1_walkersMisplaced 10 = .ok (.aload_n 0, 1) := by decide +kernel
theorem dX1_walkersMisplaced_11 : decode cX1_walkersMisplaced 11 = .ok (.getfield 10, 3) := by decide +kernel
theorem dX1_walkersMisplaced_14 : decode cX1_walkersMisplaced 14 = .ok (.getfield 71, 3) := by decide +kernel
theorem dX1_walkersMisplaced_17 : decode cX1_walkersMisplaced 17 = .ok (.iload_n 2, 1) := by decide +kernel
theorem dX1_walkersMisplaced_18 : decode cX1_walkersMisplaced 18 = .ok (.iaload, 1) := by decide +kernel
theorem dX1_walkersMisplaced_19 : decode cX1_walkersMisplaced 19 = .ok (.aload_n 0, 1) := by decide +kernel
theorem dX1_walkersMisplaced_20 : decode cX1_walkersMisplaced 20 = .ok (.getfield 10, 3) := by decide +kernel
theorem dX1_walkersMisplaced_23 : decode cX1_walkersMisplaced 23 = .ok (.getfield 89, 3) := by decide +kernel
theorem dX1_walkersMisplaced_26 : decode cX1_walkersMisplaced 26 = .ok (.iload_n 2, 1) := by decide +kernel
theorem dX1_walkersMisplaced_27 : decode cX1_walkersMisplaced 27 = .ok (.iaload, 1) := by decide +kernel
theorem dX1_walkersMisplaced_28 : decode cX1_walkersMisplaced 28 = .ok (.if_icmp .eq 6, 3) := by decide +kernel
theorem dX1_walkersMisplaced_31 : decode cX1_walkersMisplaced 31 = .ok (.iinc 1 1, 3) := by decide +kernel
theorem dX1_walkersMisplaced_34 : decode cX1_walkersMisplaced 34 = .ok (.iinc 2 1, 3) := by decide +kernel
theorem dX1_walkersMisplaced_37 : decode cX1_walkersMisplaced 37 = .ok (.goto (-33), 3) := by decide +kernel
theorem dX1_walkersMisplaced_40 : decode cX1_walkersMisplaced 40 = .ok (.iload_n 1, 1) := by decide +kernel
theorem dX1_walkersMisplaced_41 : decode cX1_walkersMisplaced 41 = .ok (.ireturn, 1) := by decide +kernel
set_option maxRecDepth 20000 in
theorem ggX1_estimateFor_X1_isAboard : GoodIn wsX1_estimateFor wsX1_isAboard := goodIn_r _ [14, 1, 15, 16, 17, 18, 19, 13, 20, 21, 55, 56, 57, 58, 59, 60, 61, 62, 63, 64, 65, 66, 67, 68, 69, 70, 71, 72, 73, 74, 75, 76] (by decide +kernel) (by decide +kernel)
set_option maxRecDepth 20000 in
theorem gX1_estimateFor_X1_isAboard : GoodIn wsX1_estimateFor (wsV RX1 95 RX1 yX1_isAboard wsX1_isAboard) := goodIn_app (goodIn_of _ (by decide +kernel)) ggX1_estimateFor_X1_isAboard
set_option maxRecDepth 20000 in
theorem ggX1_estimateFor_X1_weighAll : GoodIn wsX1_estimateFor wsX1_weighAll := goodIn_r _ [25, 1, 26, 4, 27, 15, 28, 29, 13, 30, 31, 32, 8, 33, 34, 35, 36, 37, 38, 39, 40, 41, 42, 43, 44, 45, 46, 47, 48, 49, 16, 55, 56, 57, 58, 59, 60, 61, 62, 63, 64, 65, 66, 67, 68, 69, 70, 71, 72, 73, 74, 75, 76] (by decide +kernel) (by decide +kernel)
set_option maxRecDepth 20000 in
theorem gX1_estimateFor_X1_weighAll : GoodIn wsX1_estimateFor (wsV RX1 59 RX1 yX1_weighAll wsX1_weighAll) := goodIn_app (goodIn_of _ (by decide +kernel)) ggX1_estimateFor_X1_weighAll
set_option maxRecDepth 20000 in
theorem ggX1_estimateFor_X1_expectAll : GoodIn wsX1_estimateFor wsX1_expectAll := goodIn_r _ [53, 1, 54, 5, 3, 28, 29, 13, 30, 31, 32, 8, 33, 34, 35, 36, 37, 38, 39, 40, 41, 42, 43, 44, 45, 46, 47, 48, 49, 16, 55, 56, 57, 58, 59, 60, 61, 62, 63, 64, 65, 66, 67, 68, 69, 70, 71, 72, 73, 74, 75, 76] (by decide +kernel) (by decide +kernel)
set_option maxRecDepth 20000 in
theorem gX1_estimateFor_X1_expectAll : GoodIn wsX1_estimateFor (wsV RX1 167 RX1 yX1_expectAll wsX1_expectAll) := goodIn_app (goodIn_of _ (by decide +kernel)) ggX1_estimateFor_X1_expectAll
set_option maxRecDepth 20000 in
theorem ggX1_estimateFor_X1_nearCell : GoodIn wsX1_estimateFor wsX1_nearCell := goodIn_r _ [49, 16] (by decide +kernel) (by decide +kernel)
set_option maxRecDepth 20000 in
theorem gX1_estimateFor_X1_nearCell : GoodIn wsX1_estimateFor (va_wsS RX1 195 yX1_nearCell wsX1_nearCell) := goodIn_app (goodIn_of _ (by decide +kernel)) ggX1_estimateFor_X1_nearCell
set_option maxRecDepth 20000 in
theorem ggX1_estimateFor_X1_isCell : GoodIn wsX1_estimateFor wsX1_isCell := goodIn_r _ [46] (by decide +kernel) (by decide +kernel)
set_option maxRecDepth 20000 in
theorem gX1_estimateFor_X1_isCell : GoodIn wsX1_estimateFor (va_wsS RX1 37 yX1_isCell wsX1_isCell) := goodIn_app (goodIn_of _ (by decide +kernel)) ggX1_estimateFor_X1_isCell
theorem dX1_estimateFor_0 : decode cX1_estimateFor 0 = .ok (.aload_n 0, 1) := by decide +kernel
theorem dX1_estimateFor_1 : decode cX1_estimateFor 1 = .ok (.iload_n 1, 1) := by decide +kernel
theorem dX1_estimateFor_2 : decode cX1_estimateFor 2 = .ok (.invokevirtual 95, 3) := by decide +kernel
theorem dX1_estimateFor_5 : decode cX1_estimateFor 5 = .ok (.ifCond .ne 5, 3) := by decide +kernel
theorem dX1_estimateFor_8 : decode cX1_estimateFor 8 = .ok (.iconst 0, 1) := by decide +kernel
theorem dX1_estimateFor_9 : decode cX1_estimateFor 9 = .ok (.ireturn, 1) := by decide +kernel
theorem dX1_estimateFor_10 : decode cX1_estimateFor 10 = .ok (.aload_n 0, 1) := by decide +kernel
theorem dX1_estimateFor_11 : decode cX1_estimateFor 11 = .ok (.invokevirtual 59, 3) := by decide +kernel
theorem dX1_estimateFor_14 : decode cX1_estimateFor 14 = .ok (.aload_n 0, 1) := by decide +kernel
theorem dX1_estimateFor_15 : decode cX1_estimateFor 15 = .ok (.aload_n 0, 1) := by decide +kernel
theorem dX1_estimateFor_16 : decode cX1_estimateFor 16 = .ok (.getfield 10, 3) := by decide +kernel
theorem dX1_estimateFor_19 : decode cX1_estimateFor 19 = .ok (.getfield 89, 3) := by decide +kernel
theorem dX1_estimateFor_22 : decode cX1_estimateFor 22 = .ok (.invokevirtual 167, 3) := by decide +kernel
theorem dX1_estimateFor_25 : decode cX1_estimateFor 25 = .ok (.aload_n 0, 1) := by decide +kernel
theorem dX1_estimateFor_26 : decode cX1_estimateFor 26 = .ok (.getfield 10, 3) := by decide +kernel
theorem dX1_estimateFor_29 : decode cX1_estimateFor 29 = .ok (.getfield 89, 3) := by decide +kernel
theorem dX1_estimateFor_32 : decode cX1_estimateFor 32 = .ok (.iload_n 1, 1) := by decide +kernel
theorem dX1_estimateFor_33 : decode cX1_estimateFor 33 = .ok (.iaload, 1) := by decide +kernel
theorem dX1_estimateFor_34 : decode cX1_estimateFor 34 = .ok (.istore_n 2, 1) := by decide +kernel
theorem dX1_estimateFor_35 : decode cX1_estimateFor 35 = .ok (.aload_n 0, 1) := by decide +kernel
theorem dX1_estimateFor_36 : decode cX1_estimateFor 36 = .ok (.getfield 10, 3) := by decide +kernel
theorem dX1_estimateFor_39 : decode cX1_estimateFor 39 = .ok (.getfield 86, 3) := by decide +kernel
theorem dX1_estimateFor_42 : decode cX1_estimateFor 42 = .ok (.iload_n 1, 1) := by decide +kernel
theorem dX1_estimateFor_43 : decode cX1_estimateFor 43 = .ok (.iaload, 1) := by decide +kernel
theorem dX1_estimateFor_44 : decode cX1_estimateFor 44 = .ok (.istore_n 3, 1) := by decide +kernel
theorem dX1_estimateFor_45 : decode cX1_estimateFor 45 = .ok (.iconst 0, 1) := by decide +kernel
theorem dX1_estimateFor_46 : decode cX1_estimateFor 46 = .ok (.istore 4, 2) := by decide +kernel
theorem dX1_estimateFor_48 : decode cX1_estimateFor 48 = .ok (.iload 4, 2) := by decide +kernel
theorem dX1_estimateFor_50 : decode cX1_estimateFor 50 = .ok (.iconst 5, 1) := by decide +kernel
theorem dX1_estimateFor_51 : decode cX1_estimateFor 51 = .ok (.if_icmp .ge 43, 3) := by decide +kernel
theorem dX1_estimateFor_54 : decode cX1_estimateFor 54 = .ok (.iload_n 2, 1) := by decide +kernel
theorem dX1_estimateFor_55 : decode cX1_estimateFor 55 = .ok (.iload 4, 2) := by decide +kernel
theorem dX1_estimateFor_57 : decode cX1_estimateFor 57 = .ok (.invokestatic 195, 3) := by decide +kernel
theorem dX1_estimateFor_60 : decode cX1_estimateFor 60 = .ok (.istore 5, 2) := by decide +kernel
theorem dX1_estimateFor_62 : decode cX1_estimateFor 62 = .ok (.iload 5, 2) := by decide +kernel
theorem dX1_estimateFor_64 : decode cX1_estimateFor 64 = .ok (.invokestatic 37, 3) := by decide +kernel
theorem dX1_estimateFor_67 : decode cX1_estimateFor 67 = .ok (.ifCond .eq 21, 3) := by decide +kernel
theorem dX1_estimateFor_70 : decode cX1_estimateFor 70 = .ok (.iload_n 3, 1) := by decide +kernel
theorem dX1_estimateFor_71 : decode cX1_estimateFor 71 = .ok (.aload_n 0, 1) := by decide +kernel
theorem dX1_estimateFor_72 : decode cX1_estimateFor 72 = .ok (.getfield 27, 3) := by decide +kernel
theorem dX1_estimateFor_75 : decode cX1_estimateFor 75 = .ok (.iload 5, 2) := by decide +kernel
theorem dX1_estimateFor_77 : decode cX1_estimateFor 77 = .ok (.iaload, 1) := by decide +kernel
theorem dX1_estimateFor_78 : decode cX1_estimateFor 78 = .ok (.aload_n 0, 1) := by decide +kernel
theorem dX1_estimateFor_79 : decode cX1_estimateFor 79 = .ok (.getfield 31, 3) := by decide +kernel
theorem dX1_estimateFor_82 : decode cX1_estimateFor 82 = .ok (.iload 5, 2) := by decide +kernel
theorem dX1_estimateFor_84 : decode cX1_estimateFor 84 = .ok (.iaload, 1) := by decide +kernel
theorem dX1_estimateFor_85 : decode cX1_estimateFor 85 = .ok (.isub, 1) := by decide +kernel
theorem dX1_estimateFor_86 : decode cX1_estimateFor 86 = .ok (.iadd, 1) := by decide +kernel
theorem dX1_estimateFor_87 : decode cX1_estimateFor 87 = .ok (.istore_n 3, 1) := by decide +kernel
theorem dX1_estimateFor_88 : decode cX1_estimateFor 88 = .ok (.iinc 4 1, 3) := by decide +kernel
theorem dX1_estimateFor_91 : decode cX1_estimateFor 91 = .ok (.goto (-43), 3) := by decide +kernel
theorem dX1_estimateFor_94 : decode cX1_estimateFor 94 = .ok (.iconst 0, 1) := by decide +kernel
theorem dX1_estimateFor_95 : decode cX1_estimateFor 95 = .ok (.iload_n 3, 1) := by decide +kernel
theorem dX1_estimateFor_96 : decode cX1_estimateFor 96 = .ok (.invokestatic 129, 3) := by decide +kernel
theorem dX1_estimateFor_99 : decode cX1_estimateFor 99 = .ok (.ireturn, 1) := by decide +kernel
set_option maxRecDepth 20000 in
theorem ggX1_certaintyFor_X1_isAboard : GoodIn wsX1_certaintyFor wsX1_isAboard := goodIn_r _ [13, 1, 14, 15, 16, 17, 18, 12, 19, 20, 35, 36, 37, 38, 39, 40, 41, 42, 43, 44, 45, 46, 47, 48, 49, 50, 51, 52, 53, 54, 55, 56] (by decide +kernel) (by decide +kernel)
set_option maxRecDepth 20000 in
theorem gX1_certaintyFor_X1_isAboard : GoodIn wsX1_certaintyFor (wsV RX1 95 RX1 yX1_isAboard wsX1_isAboard) := goodIn_app (goodIn_of _ (by decide +kernel)) ggX1_certaintyFor_X1_isAboard
set_option maxRecDepth 20000 in
theorem ggX1_certaintyFor_X1_earliestTare : GoodIn wsX1_certaintyFor wsX1_earliestTare := goodIn_r _ [24, 1, 2, 25, 26, 27, 7, 28, 29, 30, 12, 31, 15, 32, 33, 34, 35, 36, 37, 38, 39, 40, 41, 42, 43, 44, 45, 46, 47, 48, 49, 50, 51, 52, 53, 54, 55, 56] (by decide +kernel) (by decide +kernel)
set_option maxRecDepth 20000 in
theorem gX1_certaintyFor_X1_earliestTare : GoodIn wsX1_certaintyFor (wsV RX1 192 RX1 yX1_earliestTare wsX1_earliestTare) := goodIn_app (goodIn_of _ (by decide +kernel)) ggX1_certaintyFor_X1_earliestTare
theorem dX1_certaintyFor_0 : decode cX1_certaintyFor 0 = .ok (.aload_n 0, 1) := by decide +kernel
theorem dX1_certaintyFor_1 : decode cX1_certaintyFor 1 = .ok (.iload_n 1, 1) := by decide +kernel
theorem dX1_certaintyFor_2 : decode cX1_certaintyFor 2 = .ok (.invokevirtual 95, 3) := by decide +kernel
theorem dX1_certaintyFor_5 : decode cX1_certaintyFor 5 = .ok (.ifCond .ne 5, 3) := by decide +kernel
theorem dX1_certaintyFor_8 : decode cX1_certaintyFor 8 = .ok (.iconst 0, 1) := by decide +kernel
theorem dX1_certaintyFor_9 : decode cX1_certaintyFor 9 = .ok (.ireturn, 1) := by decide +kernel
theorem dX1_certaintyFor_10 : decode cX1_certaintyFor 10 = .ok (.aload_n 0, 1) := by decide +kernel
theorem dX1_certaintyFor_11 : decode cX1_certaintyFor 11 = .ok (.getfield 10, 3) := by decide +kernel
theorem dX1_certaintyFor_14 : decode cX1_certaintyFor 14 = .ok (.getfield 52, 3) := by decide +kernel
theorem dX1_certaintyFor_17 : decode cX1_certaintyFor 17 = .ok (.aload_n 0, 1) := by decide +kernel
theorem dX1_certaintyFor_18 : decode cX1_certaintyFor 18 = .ok (.aload_n 0, 1) := by decide +kernel
theorem dX1_certaintyFor_19 : decode cX1_certaintyFor 19 = .ok (.getfield 10, 3) := by decide +kernel
theorem dX1_certaintyFor_22 : decode cX1_certaintyFor 22 = .ok (.getfield 89, 3) := by decide +kernel
theorem dX1_certaintyFor_25 : decode cX1_certaintyFor 25 = .ok (.iload_n 1, 1) := by decide +kernel
theorem dX1_certaintyFor_26 : decode cX1_certaintyFor 26 = .ok (.iaload, 1) := by decide +kernel
theorem dX1_certaintyFor_27 : decode cX1_certaintyFor 27 = .ok (.invokevirtual 192, 3) := by decide +kernel
theorem dX1_certaintyFor_30 : decode cX1_certaintyFor 30 = .ok (.isub, 1) := by decide +kernel
theorem dX1_certaintyFor_31 : decode cX1_certaintyFor 31 = .ok (.istore_n 2, 1) := by decide +kernel
theorem dX1_certaintyFor_32 : decode cX1_certaintyFor 32 = .ok (.iconst 5, 1) := by decide +kernel
theorem dX1_certaintyFor_33 : decode cX1_certaintyFor 33 = .ok (.iload_n 2, 1) := by decide +kernel
theorem dX1_certaintyFor_34 : decode cX1_certaintyFor 34 = .ok (.imul, 1) := by decide +kernel
theorem dX1_certaintyFor_35 : decode cX1_certaintyFor 35 = .ok (.bipush 10, 2) := by decide +kernel
theorem dX1_certaintyFor_37 : decode cX1_certaintyFor 37 = .ok (.aload_n 0, 1) := by decide +kernel
theorem dX1_certaintyFor_38 : decode cX1_certaintyFor 38 = .ok (.getfield 10, 3) := by decide +kernel
theorem dX1_certaintyFor_41 : decode cX1_certaintyFor 41 = .ok (.getfield 113, 3) := by decide +kernel
theorem dX1_certaintyFor_44 : decode cX1_certaintyFor 44 = .ok (.iload_n 1, 1) := by decide +kernel
theorem dX1_certaintyFor_45 : decode cX1_certaintyFor 45 = .ok (.iaload, 1) := by decide +kernel
theorem dX1_certaintyFor_46 : decode cX1_certaintyFor 46 = .ok (.imul, 1) := by decide +kernel
theorem dX1_certaintyFor_47 : decode cX1_certaintyFor 47 = .ok (.iadd, 1) := by decide +kernel
theorem dX1_certaintyFor_48 : decode cX1_certaintyFor 48 = .ok (.istore_n 3, 1) := by decide +kernel
theorem dX1_certaintyFor_49 : decode cX1_certaintyFor 49 = .ok (.iconst 0, 1) := by decide +kernel
theorem dX1_certaintyFor_50 : decode cX1_certaintyFor 50 = .ok (.bipush 100, 2) := by decide +kernel
theorem dX1_certaintyFor_52 : decode cX1_certaintyFor 52 = .ok (.iload_n 3, 1) := by decide +kernel
theorem dX1_certaintyFor_53 : decode cX1_certaintyFor 53 = .ok (.isub, 1) := by decide +kernel
theorem dX1_certaintyFor_54 : decode cX1_certaintyFor 54 = .ok (.invokestatic 129, 3) := by decide +kernel
theorem dX1_certaintyFor_57 : decode cX1_certaintyFor 57 = .ok (.ireturn, 1) := by decide +kernel
set_option maxRecDepth 20000 in
theorem ggX1_kilogramsToBill_X1_estimateFor : GoodIn wsX1_kilogramsToBill wsX1_estimateFor := goodIn_r _ [14, 1, 15, 16, 17, 18, 7, 8, 5, 9, 19, 20, 21, 13, 22, 23, 24, 25, 26, 27, 28, 29, 30, 31, 32, 33, 34, 35, 36, 37, 38, 3, 4, 6, 39, 40, 41, 42, 43, 44, 45, 46, 47, 48, 49, 50, 51, 52, 53, 54, 55, 56, 57, 58, 2, 86, 87, 88, 89, 90, 91, 92, 93, 94, 95, 96, 97, 98, 99, 100, 101, 102, 103, 104, 105, 106, 107] (by decide +kernel) (by decide +kernel)
set_option maxRecDepth 20000 in
theorem gX1_kilogramsToBill_X1_estimateFor : GoodIn wsX1_kilogramsToBill (wsV RX1 174 RX1 yX1_estimateFor wsX1_estimateFor) := goodIn_app (goodIn_of _ (by decide +kernel)) ggX1_kilogramsToBill_X1_estimateFor
set_option maxRecDepth 20000 in
theorem ggX1_kilogramsToBill_X1_certaintyFor : GoodIn wsX1_kilogramsToBill wsX1_certaintyFor := goodIn_r _ [62, 1, 63, 15, 64, 7, 8, 5, 9, 19, 20, 21, 13, 22, 23, 24, 25, 26, 27, 28, 29, 65, 66, 67, 68, 69, 3, 4, 6, 52, 53, 54, 49, 50, 51, 86, 87, 88, 89, 90, 91, 92, 93, 94, 95, 96, 97, 98, 99, 100, 101, 102, 103, 104, 105, 106, 107] (by decide +kernel) (by decide +kernel)
set_option maxRecDepth 20000 in
theorem gX1_kilogramsToBill_X1_certaintyFor : GoodIn wsX1_kilogramsToBill (wsV RX1 177 RX1 yX1_certaintyFor wsX1_certaintyFor) := goodIn_app (goodIn_of _ (by decide +kernel)) ggX1_kilogramsToBill_X1_certaintyFor
set_option maxRecDepth 20000 in
theorem ggX1_kilogramsToBill_X1_sumOfReadings : GoodIn wsX1_kilogramsToBill wsX1_sumOfReadings := goodIn_r _ [73, 17, 30, 31, 32, 13, 33, 1, 34, 35, 23, 36, 37, 38, 3, 4, 5, 6, 39, 40, 41, 42, 43, 44, 45, 46, 47, 48, 49, 50, 51, 52, 53, 54, 24, 74, 75, 76, 86, 87, 88, 89, 90, 91, 92, 93, 94, 95, 96, 97, 98, 99, 100, 101, 102, 103, 104, 105, 106, 107] (by decide +kernel) (by decide +kernel)
set_option maxRecDepth 20000 in
theorem gX1_kilogramsToBill_X1_sumOfReadings : GoodIn wsX1_kilogramsToBill (wsV RX1 149 RX1 yX1_sumOfReadings wsX1_sumOfReadings) := goodIn_app (goodIn_of _ (by decide +kernel)) ggX1_kilogramsToBill_X1_sumOfReadings
set_option maxRecDepth 20000 in
theorem ggX1_kilogramsToBill_X1_sumOf : GoodIn wsX1_kilogramsToBill wsX1_sumOf := goodIn_r _ [76] (by decide +kernel) (by decide +kernel)
set_option maxRecDepth 20000 in
theorem gX1_kilogramsToBill_X1_sumOf : GoodIn wsX1_kilogramsToBill (va_wsS RX1 152 yX1_sumOf wsX1_sumOf) := goodIn_app (goodIn_of _ (by decide +kernel)) ggX1_kilogramsToBill_X1_sumOf
set_option maxRecDepth 20000 in
theorem ggX1_kilogramsToBill_X1_kilogramsBilled : GoodIn wsX1_kilogramsToBill wsX1_kilogramsBilled := goodIn_r _ [80, 1, 81, 82, 83, 84, 13, 85, 24, 86, 87, 88, 89, 90, 91, 92, 93, 94, 95, 96, 97, 98, 99, 100, 101, 102, 103, 104, 105, 106, 107] (by decide +kernel) (by decide +kernel)
set_option maxRecDepth 20000 in
theorem gX1_kilogramsToBill_X1_kilogramsBilled : GoodIn wsX1_kilogramsToBill (wsV RX1 158 RX1 yX1_kilogramsBilled wsX1_kilogramsBilled) := goodIn_app (goodIn_of _ (by decide +kernel)) ggX1_kilogramsToBill_X1_kilogramsBilled
theorem dX1_kilogramsToBill_0 : decode cX1_kilogramsToBill 0 = .ok (.aload_n 0, 1) := by decide +kernel
theorem dX1_kilogramsToBill_1 : decode cX1_kilogramsToBill 1 = .ok (.iload_n 1, 1) := by decide +kernel
theorem dX1_kilogramsToBill_2 : decode cX1_kilogramsToBill 2 = .ok (.invokevirtual 174, 3) := by decide +kernel
theorem dX1_kilogramsToBill_5 : decode cX1_kilogramsToBill 5 = .ok (.aload_n 0, 1) := by decide +kernel
theorem dX1_kilogramsToBill_6 : decode cX1_kilogramsToBill 6 = .ok (.iload_n 1, 1) := by decide +kernel
theorem dX1_kilogramsToBill_7 : decode cX1_kilogramsToBill 7 = .ok (.invokevirtual 177, 3) := by decide +kernel
theorem dX1_kilogramsToBill_10 : decode cX1_kilogramsToBill 10 = .ok (.imul, 1) := by decide +kernel
