theorem dX9_goesOff_23 : decode cX9_goesOff 23 = .ok (.iload 5, 2) := by decide +kernel
theorem dX9_goesOff_25 : decode cX9_goesOff 25 = .ok (.ifCond .ne 7, 3) := by decide +kernel
theorem dX9_goesOff_28 : decode cX9_goesOff 28 = .ok (.iload_n 2, 1) := by decide +kernel
theorem dX9_goesOff_29 : decode cX9_goesOff 29 = .ok (.goto 6, 3) := by decide +kernel
theorem dX9_goesOff_32 : decode cX9_goesOff 32 = .ok (.iload_n 3, 1) := by decide +kernel
theorem dX9_goesOff_33 : decode cX9_goesOff 33 = .ok (.iconst 1, 1) := by decide +kernel
theorem dX9_goesOff_34 : decode cX9_goesOff 34 = .ok (.isub, 1) := by decide +kernel
theorem dX9_goesOff_35 : decode cX9_goesOff 35 = .ok (.istore 6, 2) := by decide +kernel
theorem dX9_goesOff_37 : decode cX9_goesOff 37 = .ok (.iload 4, 2) := by decide +kernel
theorem dX9_goesOff_39 : decode cX9_goesOff 39 = .ok (.istore 7, 2) := by decide +kernel
theorem dX9_goesOff_41 : decode cX9_goesOff 41 = .ok (.aload_n 0, 1) := by decide +kernel
theorem dX9_goesOff_42 : decode cX9_goesOff 42 = .ok (.getfield 29, 3) := by decide +kernel
theorem dX9_goesOff_45 : decode cX9_goesOff 45 = .ok (.iload 6, 2) := by decide +kernel
theorem dX9_goesOff_47 : decode cX9_goesOff 47 = .ok (.iaload, 1) := by decide +kernel
theorem dX9_goesOff_48 : decode cX9_goesOff 48 = .ok (.iload 7, 2) := by decide +kernel
theorem dX9_goesOff_50 : decode cX9_goesOff 50 = .ok (.ishr, 1) := by decide +kernel
theorem dX9_goesOff_51 : decode cX9_goesOff 51 = .ok (.iconst 1, 1) := by decide +kernel
theorem dX9_goesOff_52 : decode cX9_goesOff 52 = .ok (.iand, 1) := by decide +kernel
theorem dX9_goesOff_53 : decode cX9_goesOff 53 = .ok (.ifCond .ne 83, 3) := by decide +kernel
theorem dX9_goesOff_56 : decode cX9_goesOff 56 = .ok (.aload_n 0, 1) := by decide +kernel
theorem dX9_goesOff_57 : decode cX9_goesOff 57 = .ok (.getfield 29, 3) := by decide +kernel
theorem dX9_goesOff_60 : decode cX9_goesOff 60 = .ok (.iload 6, 2) := by decide +kernel
theorem dX9_goesOff_62 : decode cX9_goesOff 62 = .ok (.dup2, 1) := by decide +kernel
theorem dX9_goesOff_63 : decode cX9_goesOff 63 = .ok (.iaload, 1) := by decide +kernel
theorem dX9_goesOff_64 : decode cX9_goesOff 64 = .ok (.iconst 1, 1) := by decide +kernel
theorem dX9_goesOff_65 : decode cX9_goesOff 65 = .ok (.iload 7, 2) := by decide +kernel
theorem dX9_goesOff_67 : decode cX9_goesOff 67 = .ok (.ishl, 1) := by decide +kernel
theorem dX9_goesOff_68 : decode cX9_goesOff 68 = .ok (.ior, 1) := by decide +kernel
theorem dX9_goesOff_69 : decode cX9_goesOff 69 = .ok (.iastore, 1) := by decide +kernel
theorem dX9_goesOff_70 : decode cX9_goesOff 70 = .ok (.aload_n 0, 1) := by decide +kernel
theorem dX9_goesOff_71 : decode cX9_goesOff 71 = .ok (.iload_n 1, 1) := by decide +kernel
theorem dX9_goesOff_72 : decode cX9_goesOff 72 = .ok (.iload 7, 2) := by decide +kernel
theorem dX9_goesOff_74 : decode cX9_goesOff 74 = .ok (.aload_n 0, 1) := by decide +kernel
theorem dX9_goesOff_75 : decode cX9_goesOff 75 = .ok (.getfield 26, 3) := by decide +kernel
theorem dX9_goesOff_78 : decode cX9_goesOff 78 = .ok (.iload 6, 2) := by decide +kernel
theorem dX9_goesOff_80 : decode cX9_goesOff 80 = .ok (.iaload, 1) := by decide +kernel
theorem dX9_goesOff_81 : decode cX9_goesOff 81 = .ok (.invokevirtual 157, 3) := by decide +kernel
theorem dX9_goesOff_84 : decode cX9_goesOff 84 = .ok (.istore 8, 2) := by decide +kernel
theorem dX9_goesOff_86 : decode cX9_goesOff 86 = .ok (.iload 8, 2) := by decide +kernel
theorem dX9_goesOff_88 : decode cX9_goesOff 88 = .ok (.iconst (-1), 1) := by decide +kernel
theorem dX9_goesOff_89 : decode cX9_goesOff 89 = .ok (.if_icmp .ne 5, 3) := by decide +kernel
theorem dX9_goesOff_92 : decode cX9_goesOff 92 = .ok (.iconst (-1), 1) := by decide +kernel
theorem dX9_goesOff_93 : decode cX9_goesOff 93 = .ok (.ireturn, 1) := by decide +kernel
theorem dX9_goesOff_94 : decode cX9_goesOff 94 = .ok (.iload 6, 2) := by decide +kernel
theorem dX9_goesOff_96 : decode cX9_goesOff 96 = .ok (.iload 8, 2) := by decide +kernel
theorem dX9_goesOff_98 : decode cX9_goesOff 98 = .ok (.iconst 2, 1) := by decide +kernel
theorem dX9_goesOff_99 : decode cX9_goesOff 99 = .ok (.irem, 1) := by decide +kernel
theorem dX9_goesOff_100 : decode cX9_goesOff 100 = .ok (.iconst 1, 1) := by decide +kernel
theorem dX9_goesOff_101 : decode cX9_goesOff 101 = .ok (.if_icmp .ne 7, 3) := by decide +kernel
theorem dX9_goesOff_104 : decode cX9_goesOff 104 = .ok (.iconst 1, 1) := by decide +kernel
theorem dX9_goesOff_105 : decode cX9_goesOff 105 = .ok (.goto 4, 3) := by decide +kernel
theorem dX9_goesOff_108 : decode cX9_goesOff 108 = .ok (.iconst (-1), 1) := by decide +kernel
theorem dX9_goesOff_109 : decode cX9_goesOff 109 = .ok (.iadd, 1) := by decide +kernel
theorem dX9_goesOff_110 : decode cX9_goesOff 110 = .ok (.istore 6, 2) := by decide +kernel
theorem dX9_goesOff_112 : decode cX9_goesOff 112 = .ok (.iload 8, 2) := by decide +kernel
theorem dX9_goesOff_114 : decode cX9_goesOff 114 = .ok (.iconst 2, 1) := by decide +kernel
theorem dX9_goesOff_115 : decode cX9_goesOff 115 = .ok (.idiv, 1) := by decide +kernel
theorem dX9_goesOff_116 : decode cX9_goesOff 116 = .ok (.istore 7, 2) := by decide +kernel
theorem dX9_goesOff_118 : decode cX9_goesOff 118 = .ok (.iload 6, 2) := by decide +kernel
theorem dX9_goesOff_120 : decode cX9_goesOff 120 = .ok (.iload_n 2, 1) := by decide +kernel
theorem dX9_goesOff_121 : decode cX9_goesOff 121 = .ok (.if_icmp .lt 9, 3) := by decide +kernel
theorem dX9_goesOff_124 : decode cX9_goesOff 124 = .ok (.iload 6, 2) := by decide +kernel
theorem dX9_goesOff_126 : decode cX9_goesOff 126 = .ok (.iload_n 3, 1) := by decide +kernel
theorem dX9_goesOff_127 : decode cX9_goesOff 127 = .ok (.if_icmp .lt 6, 3) := by decide +kernel
theorem dX9_goesOff_130 : decode cX9_goesOff 130 = .ok (.iload 8, 2) := by decide +kernel
theorem dX9_goesOff_132 : decode cX9_goesOff 132 = .ok (.ireturn, 1) := by decide +kernel
theorem dX9_goesOff_133 : decode cX9_goesOff 133 = .ok (.goto (-92), 3) := by decide +kernel
theorem dX9_goesOff_136 : decode cX9_goesOff 136 = .ok (.iconst (-1), 1) := by decide +kernel
theorem dX9_goesOff_137 : decode cX9_goesOff 137 = .ok (.ireturn, 1) := by decide +kernel
set_option maxRecDepth 20000 in
theorem ggX9_isPiece_X9_in : GoodIn wsX9_isPiece wsX9_in := goodIn_r _ [5] (by decide +kernel) (by decide +kernel)
set_option maxRecDepth 20000 in
theorem gX9_isPiece_X9_in : GoodIn wsX9_isPiece (va_wsS RX9 87 yX9_in wsX9_in) := goodIn_app (goodIn_of _ (by decide +kernel)) ggX9_isPiece_X9_in
theorem dX9_isPiece_0 : decode cX9_isPiece 0 = .ok (.iload_n 1, 1) := by decide +kernel
theorem dX9_isPiece_1 : decode cX9_isPiece 1 = .ok (.i2l, 1) := by decide +kernel
theorem dX9_isPiece_2 : decode cX9_isPiece 2 = .ok (.lconst 0, 1) := by decide +kernel
theorem dX9_isPiece_3 : decode cX9_isPiece 3 = .ok (.aload_n 0, 1) := by decide +kernel
theorem dX9_isPiece_4 : decode cX9_isPiece 4 = .ok (.getfield 184, 3) := by decide +kernel
theorem dX9_isPiece_7 : decode cX9_isPiece 7 = .ok (.i2l, 1) := by decide +kernel
theorem dX9_isPiece_8 : decode cX9_isPiece 8 = .ok (.invokestatic 87, 3) := by decide +kernel
theorem dX9_isPiece_11 : decode cX9_isPiece 11 = .ok (.ifCond .eq 24, 3) := by decide +kernel
theorem dX9_isPiece_14 : decode cX9_isPiece 14 = .ok (.iload_n 2, 1) := by decide +kernel
theorem dX9_isPiece_15 : decode cX9_isPiece 15 = .ok (.i2l, 1) := by decide +kernel
theorem dX9_isPiece_16 : decode cX9_isPiece 16 = .ok (.iload_n 1, 1) := by decide +kernel
theorem dX9_isPiece_17 : decode cX9_isPiece 17 = .ok (.iconst 1, 1) := by decide +kernel
theorem dX9_isPiece_18 : decode cX9_isPiece 18 = .ok (.iadd, 1) := by decide +kernel
theorem dX9_isPiece_19 : decode cX9_isPiece 19 = .ok (.i2l, 1) := by decide +kernel
theorem dX9_isPiece_20 : decode cX9_isPiece 20 = .ok (.aload_n 0, 1) := by decide +kernel
theorem dX9_isPiece_21 : decode cX9_isPiece 21 = .ok (.getfield 184, 3) := by decide +kernel
theorem dX9_isPiece_24 : decode cX9_isPiece 24 = .ok (.i2l, 1) := by decide +kernel
theorem dX9_isPiece_25 : decode cX9_isPiece 25 = .ok (.invokestatic 87, 3) := by decide +kernel
theorem dX9_isPiece_28 : decode cX9_isPiece 28 = .ok (.ifCond .eq 7, 3) := by decide +kernel
theorem dX9_isPiece_31 : decode cX9_isPiece 31 = .ok (.iconst 1, 1) := by decide +kernel
theorem dX9_isPiece_32 : decode cX9_isPiece 32 = .ok (.goto 4, 3) := by decide +kernel
theorem dX9_isPiece_35 : decode cX9_isPiece 35 = .ok (.iconst 0, 1) := by decide +kernel
theorem dX9_isPiece_36 : decode cX9_isPiece 36 = .ok (.ireturn, 1) := by decide +kernel
set_option maxRecDepth 20000 in
theorem ggX9_table_X9_isMachine : GoodIn wsX9_table wsX9_isMachine := goodIn_r _ [6, 7, 8, 5, 9] (by decide +kernel) (by decide +kernel)
set_option maxRecDepth 20000 in
theorem gX9_table_X9_isMachine : GoodIn wsX9_table (va_wsS RX9 135 yX9_isMachine wsX9_isMachine) := goodIn_app (goodIn_of _ (by decide +kernel)) ggX9_table_X9_isMachine
set_option maxRecDepth 20000 in
theorem ggX9_table_X9_isState : GoodIn wsX9_table wsX9_isState := goodIn_r _ [13, 14, 15, 16, 5, 17, 18, 7, 8, 9, 34, 35, 36, 37, 38, 39, 40, 41, 42, 43, 44, 45, 46, 47, 48, 49, 50, 51, 52, 53, 54, 55, 56, 57, 58, 59, 60, 61, 62, 63, 64, 65, 66, 67, 68, 69] (by decide +kernel) (by decide +kernel)
set_option maxRecDepth 20000 in
theorem gX9_table_X9_isState : GoodIn wsX9_table (wsV RX9 148 RX9 yX9_isState wsX9_isState) := goodIn_app (goodIn_of _ (by decide +kernel)) ggX9_table_X9_isState
set_option maxRecDepth 20000 in
theorem ggX9_table_X9_in : GoodIn wsX9_table wsX9_in := goodIn_r _ [9] (by decide +kernel) (by decide +kernel)
set_option maxRecDepth 20000 in
theorem gX9_table_X9_in : GoodIn wsX9_table (va_wsS RX9 87 yX9_in wsX9_in) := goodIn_app (goodIn_of _ (by decide +kernel)) ggX9_table_X9_in
set_option maxRecDepth 20000 in
theorem ggX9_table_X9_isPiece : GoodIn wsX9_table wsX9_isPiece := goodIn_r _ [22, 23, 7, 8, 5, 9, 34, 35, 36, 37, 38, 39, 40, 41, 42, 43, 44, 45, 46, 47, 48, 49, 50, 51, 52, 53, 54, 55, 56, 57, 58, 59, 60, 61, 62, 63, 64, 65, 66, 67, 68, 69] (by decide +kernel) (by decide +kernel)
set_option maxRecDepth 20000 in
theorem gX9_table_X9_isPiece : GoodIn wsX9_table (wsV RX9 222 RX9 yX9_isPiece wsX9_isPiece) := goodIn_app (goodIn_of _ (by decide +kernel)) ggX9_table_X9_isPiece
set_option maxRecDepth 20000 in
theorem ggX9_table_X9_goesOff : GoodIn wsX9_table wsX9_goesOff := goodIn_r _ [27, 28, 29, 30, 31, 32, 5, 33, 18, 34, 35, 36, 37, 38, 39, 40, 41, 42, 43, 44, 45, 46, 47, 48, 49, 50, 51, 52, 53, 54, 55, 56, 57, 58, 59, 60, 61, 62, 63, 64, 65, 66, 67, 68, 69] (by decide +kernel) (by decide +kernel)
set_option maxRecDepth 20000 in
theorem gX9_table_X9_goesOff : GoodIn wsX9_table (wsV RX9 225 RX9 yX9_goesOff wsX9_goesOff) := goodIn_app (goodIn_of _ (by decide +kernel)) ggX9_table_X9_goesOff
theorem dX9_table_0 : decode cX9_table 0 = .ok (.iload_n 1, 1) := by decide +kernel
theorem dX9_table_1 : decode cX9_table 1 = .ok (.invokestatic 135, 3) := by decide +kernel
theorem dX9_table_4 : decode cX9_table 4 = .ok (.ifCond .eq 13, 3) := by decide +kernel
theorem dX9_table_7 : decode cX9_table 7 = .ok (.aload_n 0, 1) := by decide +kernel
theorem dX9_table_8 : decode cX9_table 8 = .ok (.iload_n 1, 1) := by decide +kernel
theorem dX9_table_9 : decode cX9_table 9 = .ok (.iload 4, 2) := by decide +kernel
theorem dX9_table_11 : decode cX9_table 11 = .ok (.invokevirtual 148, 3) := by decide +kernel
theorem dX9_table_14 : decode cX9_table 14 = .ok (.ifCond .ne 6, 3) := by decide +kernel
theorem dX9_table_17 : decode cX9_table 17 = .ok (.ldc 138, 2) := by decide +kernel
theorem dX9_table_19 : decode cX9_table 19 = .ok (.ireturn, 1) := by decide +kernel
theorem dX9_table_20 : decode cX9_table 20 = .ok (.iload 5, 2) := by decide +kernel
theorem dX9_table_22 : decode cX9_table 22 = .ok (.i2l, 1) := by decide +kernel
theorem dX9_table_23 : decode cX9_table 23 = .ok (.lconst 0, 1) := by decide +kernel
theorem dX9_table_24 : decode cX9_table 24 = .ok (.lconst 1, 1) := by decide +kernel
theorem dX9_table_25 : decode cX9_table 25 = .ok (.invokestatic 87, 3) := by decide +kernel
theorem dX9_table_28 : decode cX9_table 28 = .ok (.ifCond .eq 12, 3) := by decide +kernel
theorem dX9_table_31 : decode cX9_table 31 = .ok (.aload_n 0, 1) := by decide +kernel
theorem dX9_table_32 : decode cX9_table 32 = .ok (.iload_n 2, 1) := by decide +kernel
theorem dX9_table_33 : decode cX9_table 33 = .ok (.iload_n 3, 1) := by decide +kernel
theorem dX9_table_34 : decode cX9_table 34 = .ok (.invokevirtual 222, 3) := by decide +kernel
theorem dX9_table_37 : decode cX9_table 37 = .ok (.ifCond .ne 6, 3) := by decide +kernel
theorem dX9_table_40 : decode cX9_table 40 = .ok (.ldc 97, 2) := by decide +kernel
theorem dX9_table_42 : decode cX9_table 42 = .ok (.ireturn, 1) := by decide +kernel
theorem dX9_table_43 : decode cX9_table 43 = .ok (.aload_n 0, 1) := by decide +kernel
theorem dX9_table_44 : decode cX9_table 44 = .ok (.iload_n 1, 1) := by decide +kernel
theorem dX9_table_45 : decode cX9_table 45 = .ok (.iload_n 2, 1) := by decide +kernel
theorem dX9_table_46 : decode cX9_table 46 = .ok (.iload_n 3, 1) := by decide +kernel
theorem dX9_table_47 : decode cX9_table 47 = .ok (.iload 4, 2) := by decide +kernel
theorem dX9_table_49 : decode cX9_table 49 = .ok (.iload 5, 2) := by decide +kernel
theorem dX9_table_51 : decode cX9_table 51 = .ok (.invokevirtual 225, 3) := by decide +kernel
theorem dX9_table_54 : decode cX9_table 54 = .ok (.ireturn, 1) := by decide +kernel
set_option maxRecDepth 20000 in
theorem ggX9_alike_X9_isMachine : GoodIn wsX9_alike wsX9_isMachine := goodIn_r _ [6, 7, 8, 5, 9] (by decide +kernel) (by decide +kernel)
set_option maxRecDepth 20000 in
theorem gX9_alike_X9_isMachine : GoodIn wsX9_alike (va_wsS RX9 135 yX9_isMachine wsX9_isMachine) := goodIn_app (goodIn_of _ (by decide +kernel)) ggX9_alike_X9_isMachine
set_option maxRecDepth 20000 in
theorem ggX9_alike_X9_isPiece : GoodIn wsX9_alike wsX9_isPiece := goodIn_r _ [13, 14, 7, 8, 5, 9, 30, 31, 32, 33, 34, 35, 36, 37, 38, 39, 40, 41, 42, 43, 44, 45, 46, 47, 48, 49, 50, 51, 52, 53, 54, 55, 56, 57, 58, 59, 60, 61, 62, 63, 64, 65] (by decide +kernel) (by decide +kernel)
set_option maxRecDepth 20000 in
theorem gX9_alike_X9_isPiece : GoodIn wsX9_alike (wsV RX9 222 RX9 yX9_isPiece wsX9_isPiece) := goodIn_app (goodIn_of _ (by decide +kernel)) ggX9_alike_X9_isPiece
set_option maxRecDepth 20000 in
theorem ggX9_alike_X9_states0 : GoodIn wsX9_alike wsX9_states0 := goodIn_r _ [18, 19, 30, 31, 32, 33, 34, 35, 36, 37, 38, 39, 40, 41, 42, 43, 44, 45, 46, 47, 48, 49, 50, 51, 52, 53, 54, 55, 56, 57, 58, 59, 60, 61, 62, 63, 64, 65] (by decide +kernel) (by decide +kernel)
set_option maxRecDepth 20000 in
theorem gX9_alike_X9_states0 : GoodIn wsX9_alike (wsV RX9 91 RX9 yX9_states0 wsX9_states0) := goodIn_app (goodIn_of _ (by decide +kernel)) ggX9_alike_X9_states0
set_option maxRecDepth 20000 in
theorem ggX9_alike_X9_goesOff : GoodIn wsX9_alike wsX9_goesOff := goodIn_r _ [23, 24, 25, 26, 27, 28, 5, 29, 19, 30, 31, 32, 33, 34, 35, 36, 37, 38, 39, 40, 41, 42, 43, 44, 45, 46, 47, 48, 49, 50, 51, 52, 53, 54, 55, 56, 57, 58, 59, 60, 61, 62, 63, 64, 65] (by decide +kernel) (by decide +kernel)
set_option maxRecDepth 20000 in
theorem gX9_alike_X9_goesOff : GoodIn wsX9_alike (wsV RX9 225 RX9 yX9_goesOff wsX9_goesOff) := goodIn_app (goodIn_of _ (by decide +kernel)) ggX9_alike_X9_goesOff
theorem dX9_alike_0 : decode cX9_alike 0 = .ok (.iload_n 1, 1) := by decide +kernel
theorem dX9_alike_1 : decode cX9_alike 1 = .ok (.invokestatic 135, 3) := by decide +kernel
theorem dX9_alike_4 : decode cX9_alike 4 = .ok (.ifCond .ne 6, 3) := by decide +kernel
theorem dX9_alike_7 : decode cX9_alike 7 = .ok (.ldc 138, 2) := by decide +kernel
theorem dX9_alike_9 : decode cX9_alike 9 = .ok (.ireturn, 1) := by decide +kernel
theorem dX9_alike_10 : decode cX9_alike 10 = .ok (.aload_n 0, 1) := by decide +kernel
theorem dX9_alike_11 : decode cX9_alike 11 = .ok (.iload_n 2, 1) := by decide +kernel
theorem dX9_alike_12 : decode cX9_alike 12 = .ok (.iload_n 3, 1) := by decide +kernel
theorem dX9_alike_13 : decode cX9_alike 13 = .ok (.invokevirtual 222, 3) := by decide +kernel
theorem dX9_alike_16 : decode cX9_alike 16 = .ok (.ifCond .eq 14, 3) := by decide +kernel
theorem dX9_alike_19 : decode cX9_alike 19 = .ok (.aload_n 0, 1) := by decide +kernel
theorem dX9_alike_20 : decode cX9_alike 20 = .ok (.iload 4, 2) := by decide +kernel
theorem dX9_alike_22 : decode cX9_alike 22 = .ok (.iload 5, 2) := by decide +kernel
theorem dX9_alike_24 : decode cX9_alike 24 = .ok (.invokevirtual 222, 3) := by decide +kernel
theorem dX9_alike_27 : decode cX9_alike 27 = .ok (.ifCond .ne 6, 3) := by decide +kernel
theorem dX9_alike_30 : decode cX9_alike 30 = .ok (.ldc 97, 2) := by decide +kernel
theorem dX9_alike_32 : decode cX9_alike 32 = .ok (.ireturn, 1) := by decide +kernel
theorem dX9_alike_33 : decode cX9_alike 33 = .ok (.iconst 1, 1) := by decide +kernel
theorem dX9_alike_34 : decode cX9_alike 34 = .ok (.istore 6, 2) := by decide +kernel
theorem dX9_alike_36 : decode cX9_alike 36 = .ok (.iconst 0, 1) := by decide +kernel
theorem dX9_alike_37 : decode cX9_alike 37 = .ok (.istore 7, 2) := by decide +kernel
theorem dX9_alike_39 : decode cX9_alike 39 = .ok (.iload 7, 2) := by decide +kernel
theorem dX9_alike_41 : decode cX9_alike 41 = .ok (.iconst 2, 1) := by decide +kernel
theorem dX9_alike_42 : decode cX9_alike 42 = .ok (.aload_n 0, 1) := by decide +kernel
theorem dX9_alike_43 : decode cX9_alike 43 = .ok (.iload_n 1, 1) := by decide +kernel
theorem dX9_alike_44 : decode cX9_alike 44 = .ok (.invokevirtual 91, 3) := by decide +kernel
theorem dX9_alike_47 : decode cX9_alike 47 = .ok (.imul, 1) := by decide +kernel
theorem dX9_alike_48 : decode cX9_alike 48 = .ok (.if_icmp .ge 56, 3) := by decide +kernel
theorem dX9_alike_51 : decode cX9_alike 51 = .ok (.iload 6, 2) := by decide +kernel
theorem dX9_alike_53 : decode cX9_alike 53 = .ok (.ifCond .eq 42, 3) := by decide +kernel
theorem dX9_alike_56 : decode cX9_alike 56 = .ok (.aload_n 0, 1) := by decide +kernel
theorem dX9_alike_57 : decode cX9_alike 57 = .ok (.iload_n 1, 1) := by decide +kernel
theorem dX9_alike_58 : decode cX9_alike 58 = .ok (.iload_n 2, 1) := by decide +kernel
theorem dX9_alike_59 : decode cX9_alike 59 = .ok (.iload_n 3, 1) := by decide +kernel
theorem dX9_alike_60 : decode cX9_alike 60 = .ok (.iload 7, 2) := by decide +kernel
theorem dX9_alike_62 : decode cX9_alike 62 = .ok (.iconst 2, 1) := by decide +kernel
theorem dX9_alike_63 : decode cX9_alike 63 = .ok (.idiv, 1) := by decide +kernel
theorem dX9_alike_64 : decode cX9_alike 64 = .ok (.iload 7, 2) := by decide +kernel
theorem dX9_alike_66 : decode cX9_alike 66 = .ok (.iconst 2, 1) := by decide +kernel
theorem dX9_alike_67 : decode cX9_alike 67 = .ok (.irem, 1) := by decide +kernel
theorem dX9_alike_68 : decode cX9_alike 68 = .ok (.invokevirtual 225, 3) := by decide +kernel
theorem dX9_alike_71 : decode cX9_alike 71 = .ok (.aload_n 0, 1) := by decide +kernel
theorem dX9_alike_72 : decode cX9_alike 72 = .ok (.iload_n 1, 1) := by decide +kernel
theorem dX9_alike_73 : decode cX9_alike 73 = .ok (.iload 4, 2) := by decide +kernel
theorem dX9_alike_75 : decode cX9_alike 75 = .ok (.iload 5, 2) := by decide +kernel
theorem dX9_alike_77 : decode cX9_alike 77 = .ok (.iload 7, 2) := by decide +kernel
theorem dX9_alike_79 : decode cX9_alike 79 = .ok (.iconst 2, 1) := by decide +kernel
theorem dX9_alike_80 : decode cX9_alike 80 = .ok (.idiv, 1) := by decide +kernel
theorem dX9_alike_81 : decode cX9_alike 81 = .ok (.iload 7, 2) := by decide +kernel
theorem dX9_alike_83 : decode cX9_alike 83 = .ok (.iconst 2, 1) := by decide +kernel
theorem dX9_alike_84 : decode cX9_alike 84 = .ok (.irem, 1) := by decide +kernel
theorem dX9_alike_85 : decode cX9_alike 85 = .ok (.invokevirtual 225, 3) := by decide +kernel
theorem dX9_alike_88 : decode cX9_alike 88 = .ok (.if_icmp .ne 7, 3) := by decide +kernel
theorem dX9_alike_91 : decode cX9_alike 91 = .ok (.iconst 1, 1) := by decide +kernel
theorem dX9_alike_92 : decode cX9_alike 92 = .ok (.goto 4, 3) := by decide +kernel
theorem dX9_alike_95 : decode cX9_alike 95 = .ok (.iconst 0, 1) := by decide +kernel
theorem dX9_alike_96 : decode cX9_alike 96 = .ok (.istore 6, 2) := by decide +kernel
theorem dX9_alike_98 : decode cX9_alike 98 = .ok (.iinc 7 1, 3) := by decide +kernel
theorem dX9_alike_101 : decode cX9_alike 101 = .ok (.goto (-62), 3) := by decide +kernel
theorem dX9_alike_104 : decode cX9_alike 104 = .ok (.iload 6, 2) := by decide +kernel
theorem dX9_alike_106 : decode cX9_alike 106 = .ok (.ifCond .eq 7, 3) := by decide +kernel
theorem dX9_alike_109 : decode cX9_alike 109 = .ok (.iconst 1, 1) := by decide +kernel
theorem dX9_alike_110 : decode cX9_alike 110 = .ok (.goto 4, 3) := by decide +kernel
theorem dX9_alike_113 : decode cX9_alike 113 = .ok (.iconst 0, 1) := by decide +kernel
theorem dX9_alike_114 : decode cX9_alike 114 = .ok (.ireturn, 1) := by decide +kernel
theorem dX9_at_0 : decode cX9_at 0 = .ok (.sipush 151, 3) := by decide +kernel
theorem dX9_at_3 : decode cX9_at 3 = .ok (.iload_n 1, 1) := by decide +kernel
theorem dX9_at_4 : decode cX9_at 4 = .ok (.imul, 1) := by decide +kernel
theorem dX9_at_5 : decode cX9_at 5 = .ok (.iload_n 2, 1) := by decide +kernel
theorem dX9_at_6 : decode cX9_at 6 = .ok (.iadd, 1) := by decide +kernel
theorem dX9_at_7 : decode cX9_at 7 = .ok (.ireturn, 1) := by decide +kernel
set_option maxRecDepth 20000 in
theorem ggX9_offRight_X9_moveAt : GoodIn wsX9_offRight wsX9_moveAt := goodIn_r _ [6, 7, 8, 9, 10, 11, 12, 13, 14, 15, 16, 17, 18, 19, 20, 21, 22, 23, 24, 25, 26, 27, 28, 29, 30, 31, 32, 33, 34, 35, 36, 37, 38, 39, 40, 41, 42, 43] (by decide +kernel) (by decide +kernel)
set_option maxRecDepth 20000 in
theorem gX9_offRight_X9_moveAt : GoodIn wsX9_offRight (wsV RX9 157 RX9 yX9_moveAt wsX9_moveAt) := goodIn_app (goodIn_of _ (by decide +kernel)) ggX9_offRight_X9_moveAt
theorem dX9_offRight_0 : decode cX9_offRight 0 = .ok (.iload_n 3, 1) := by decide +kernel
theorem dX9_offRight_1 : decode cX9_offRight 1 = .ok (.istore 5, 2) := by decide +kernel
theorem dX9_offRight_3 : decode cX9_offRight 3 = .ok (.iconst 0, 1) := by decide +kernel
theorem dX9_offRight_4 : decode cX9_offRight 4 = .ok (.istore 6, 2) := by decide +kernel
theorem dX9_offRight_6 : decode cX9_offRight 6 = .ok (.iload 5, 2) := by decide +kernel
theorem dX9_offRight_8 : decode cX9_offRight 8 = .ok (.iconst (-1), 1) := by decide +kernel
theorem dX9_offRight_9 : decode cX9_offRight 9 = .ok (.if_icmp .eq 84, 3) := by decide +kernel
theorem dX9_offRight_12 : decode cX9_offRight 12 = .ok (.iload 6, 2) := by decide +kernel
theorem dX9_offRight_14 : decode cX9_offRight 14 = .ok (.iload 5, 2) := by decide +kernel
theorem dX9_offRight_16 : decode cX9_offRight 16 = .ok (.ishr, 1) := by decide +kernel
theorem dX9_offRight_17 : decode cX9_offRight 17 = .ok (.iconst 1, 1) := by decide +kernel
theorem dX9_offRight_18 : decode cX9_offRight 18 = .ok (.iand, 1) := by decide +kernel
theorem dX9_offRight_19 : decode cX9_offRight 19 = .ok (.ifCond .ne 74, 3) := by decide +kernel
theorem dX9_offRight_22 : decode cX9_offRight 22 = .ok (.iload 6, 2) := by decide +kernel
theorem dX9_offRight_24 : decode cX9_offRight 24 = .ok (.iconst 1, 1) := by decide +kernel
theorem dX9_offRight_25 : decode cX9_offRight 25 = .ok (.iload 5, 2) := by decide +kernel
theorem dX9_offRight_27 : decode cX9_offRight 27 = .ok (.ishl, 1) := by decide +kernel
theorem dX9_offRight_28 : decode cX9_offRight 28 = .ok (.ior, 1) := by decide +kernel
theorem dX9_offRight_29 : decode cX9_offRight 29 = .ok (.istore 6, 2) := by decide +kernel
theorem dX9_offRight_31 : decode cX9_offRight 31 = .ok (.aload_n 0, 1) := by decide +kernel
theorem dX9_offRight_32 : decode cX9_offRight 32 = .ok (.iload_n 1, 1) := by decide +kernel
theorem dX9_offRight_33 : decode cX9_offRight 33 = .ok (.iload 5, 2) := by decide +kernel
theorem dX9_offRight_35 : decode cX9_offRight 35 = .ok (.iload_n 2, 1) := by decide +kernel
theorem dX9_offRight_36 : decode cX9_offRight 36 = .ok (.invokevirtual 157, 3) := by decide +kernel
theorem dX9_offRight_39 : decode cX9_offRight 39 = .ok (.istore 7, 2) := by decide +kernel
theorem dX9_offRight_41 : decode cX9_offRight 41 = .ok (.iload 7, 2) := by decide +kernel
theorem dX9_offRight_43 : decode cX9_offRight 43 = .ok (.iconst (-1), 1) := by decide +kernel
theorem dX9_offRight_44 : decode cX9_offRight 44 = .ok (.if_icmp .ne 5, 3) := by decide +kernel
theorem dX9_offRight_47 : decode cX9_offRight 47 = .ok (.iconst (-1), 1) := by decide +kernel
theorem dX9_offRight_48 : decode cX9_offRight 48 = .ok (.ireturn, 1) := by decide +kernel
theorem dX9_offRight_49 : decode cX9_offRight 49 = .ok (.iload 7, 2) := by decide +kernel
theorem dX9_offRight_51 : decode cX9_offRight 51 = .ok (.iconst 2, 1) := by decide +kernel
theorem dX9_offRight_52 : decode cX9_offRight 52 = .ok (.irem, 1) := by decide +kernel
theorem dX9_offRight_53 : decode cX9_offRight 53 = .ok (.iconst 1, 1) := by decide +kernel
theorem dX9_offRight_54 : decode cX9_offRight 54 = .ok (.if_icmp .ne 8, 3) := by decide +kernel
theorem dX9_offRight_57 : decode cX9_offRight 57 = .ok (.iload 7, 2) := by decide +kernel
theorem dX9_offRight_59 : decode cX9_offRight 59 = .ok (.iconst 2, 1) := by decide +kernel
theorem dX9_offRight_60 : decode cX9_offRight 60 = .ok (.idiv, 1) := by decide +kernel
theorem dX9_offRight_61 : decode cX9_offRight 61 = .ok (.ireturn, 1) := by decide +kernel
theorem dX9_offRight_62 : decode cX9_offRight 62 = .ok (.iload 4, 2) := by decide +kernel
theorem dX9_offRight_64 : decode cX9_offRight 64 = .ok (.iconst (-1), 1) := by decide +kernel
theorem dX9_offRight_65 : decode cX9_offRight 65 = .ok (.if_icmp .ne 7, 3) := by decide +kernel
theorem dX9_offRight_68 : decode cX9_offRight 68 = .ok (.iconst (-1), 1) := by decide +kernel
theorem dX9_offRight_69 : decode cX9_offRight 69 = .ok (.goto 19, 3) := by decide +kernel
theorem dX9_offRight_72 : decode cX9_offRight 72 = .ok (.aload_n 0, 1) := by decide +kernel
theorem dX9_offRight_73 : decode cX9_offRight 73 = .ok (.getfield 41, 3) := by decide +kernel
theorem dX9_offRight_76 : decode cX9_offRight 76 = .ok (.iconst 5, 1) := by decide +kernel
theorem dX9_offRight_77 : decode cX9_offRight 77 = .ok (.iload 4, 2) := by decide +kernel
theorem dX9_offRight_79 : decode cX9_offRight 79 = .ok (.imul, 1) := by decide +kernel
theorem dX9_offRight_80 : decode cX9_offRight 80 = .ok (.iconst 1, 1) := by decide +kernel
theorem dX9_offRight_81 : decode cX9_offRight 81 = .ok (.iadd, 1) := by decide +kernel
theorem dX9_offRight_82 : decode cX9_offRight 82 = .ok (.iload 7, 2) := by decide +kernel
theorem dX9_offRight_84 : decode cX9_offRight 84 = .ok (.iconst 2, 1) := by decide +kernel
theorem dX9_offRight_85 : decode cX9_offRight 85 = .ok (.idiv, 1) := by decide +kernel
theorem dX9_offRight_86 : decode cX9_offRight 86 = .ok (.iadd, 1) := by decide +kernel
theorem dX9_offRight_87 : decode cX9_offRight 87 = .ok (.iaload, 1) := by decide +kernel
theorem dX9_offRight_88 : decode cX9_offRight 88 = .ok (.istore 5, 2) := by decide +kernel
theorem dX9_offRight_90 : decode cX9_offRight 90 = .ok (.goto (-84), 3) := by decide +kernel
theorem dX9_offRight_93 : decode cX9_offRight 93 = .ok (.iconst (-1), 1) := by decide +kernel
theorem dX9_offRight_94 : decode cX9_offRight 94 = .ok (.ireturn, 1) := by decide +kernel
set_option maxRecDepth 20000 in
theorem ggX9_findsTried_X9_at : GoodIn wsX9_findsTried wsX9_at := goodIn_r _ [8] (by decide +kernel) (by decide +kernel)
set_option maxRecDepth 20000 in
theorem gX9_findsTried_X9_at : GoodIn wsX9_findsTried (wsV RX9 229 RX9 yX9_at wsX9_at) := goodIn_app (goodIn_of _ (by decide +kernel)) ggX9_findsTried_X9_at
theorem dX9_findsTried_0 : decode cX9_findsTried 0 = .ok (.iconst (-1), 1) := by decide +kernel
theorem dX9_findsTried_1 : decode cX9_findsTried 1 = .ok (.istore_n 2, 1) := by decide +kernel
theorem dX9_findsTried_2 : decode cX9_findsTried 2 = .ok (.aload_n 0, 1) := by decide +kernel
theorem dX9_findsTried_3 : decode cX9_findsTried 3 = .ok (.getfield 38, 3) := by decide +kernel
theorem dX9_findsTried_6 : decode cX9_findsTried 6 = .ok (.iload_n 1, 1) := by decide +kernel
theorem dX9_findsTried_7 : decode cX9_findsTried 7 = .ok (.iaload, 1) := by decide +kernel
theorem dX9_findsTried_8 : decode cX9_findsTried 8 = .ok (.iconst 1, 1) := by decide +kernel
theorem dX9_findsTried_9 : decode cX9_findsTried 9 = .ok (.isub, 1) := by decide +kernel
theorem dX9_findsTried_10 : decode cX9_findsTried 10 = .ok (.istore_n 3, 1) := by decide +kernel
theorem dX9_findsTried_11 : decode cX9_findsTried 11 = .ok (.iload_n 3, 1) := by decide +kernel
theorem dX9_findsTried_12 : decode cX9_findsTried 12 = .ok (.ifCond .lt 76, 3) := by decide +kernel
theorem dX9_findsTried_15 : decode cX9_findsTried 15 = .ok (.iconst 1, 1) := by decide +kernel
theorem dX9_findsTried_16 : decode cX9_findsTried 16 = .ok (.istore 4, 2) := by decide +kernel
theorem dX9_findsTried_18 : decode cX9_findsTried 18 = .ok (.iconst 0, 1) := by decide +kernel
theorem dX9_findsTried_19 : decode cX9_findsTried 19 = .ok (.istore 5, 2) := by decide +kernel
theorem dX9_findsTried_21 : decode cX9_findsTried 21 = .ok (.iload 5, 2) := by decide +kernel
theorem dX9_findsTried_23 : decode cX9_findsTried 23 = .ok (.iconst 5, 1) := by decide +kernel
theorem dX9_findsTried_24 : decode cX9_findsTried 24 = .ok (.if_icmp .ge 47, 3) := by decide +kernel
theorem dX9_findsTried_27 : decode cX9_findsTried 27 = .ok (.iload 4, 2) := by decide +kernel
theorem dX9_findsTried_29 : decode cX9_findsTried 29 = .ok (.ifCond .eq 33, 3) := by decide +kernel
theorem dX9_findsTried_32 : decode cX9_findsTried 32 = .ok (.aload_n 0, 1) := by decide +kernel
theorem dX9_findsTried_33 : decode cX9_findsTried 33 = .ok (.getfield 41, 3) := by decide +kernel
theorem dX9_findsTried_36 : decode cX9_findsTried 36 = .ok (.iconst 5, 1) := by decide +kernel
theorem dX9_findsTried_37 : decode cX9_findsTried 37 = .ok (.aload_n 0, 1) := by decide +kernel
theorem dX9_findsTried_38 : decode cX9_findsTried 38 = .ok (.iload_n 1, 1) := by decide +kernel
theorem dX9_findsTried_39 : decode cX9_findsTried 39 = .ok (.iload_n 3, 1) := by decide +kernel
theorem dX9_findsTried_40 : decode cX9_findsTried 40 = .ok (.invokevirtual 229, 3) := by decide +kernel
theorem dX9_findsTried_43 : decode cX9_findsTried 43 = .ok (.imul, 1) := by decide +kernel
theorem dX9_findsTried_44 : decode cX9_findsTried 44 = .ok (.iload 5, 2) := by decide +kernel
theorem dX9_findsTried_46 : decode cX9_findsTried 46 = .ok (.iadd, 1) := by decide +kernel
theorem dX9_findsTried_47 : decode cX9_findsTried 47 = .ok (.iaload, 1) := by decide +kernel
theorem dX9_findsTried_48 : decode cX9_findsTried 48 = .ok (.aload_n 0, 1) := by decide +kernel
theorem dX9_findsTried_49 : decode cX9_findsTried 49 = .ok (.getfield 53, 3) := by decide +kernel
theorem dX9_findsTried_52 : decode cX9_findsTried 52 = .ok (.iload 5, 2) := by decide +kernel
theorem dX9_findsTried_54 : decode cX9_findsTried 54 = .ok (.iaload, 1) := by decide +kernel
theorem dX9_findsTried_55 : decode cX9_findsTried 55 = .ok (.if_icmp .ne 7, 3) := by decide +kernel
theorem dX9_findsTried_58 : decode cX9_findsTried 58 = .ok (.iconst 1, 1) := by decide +kernel
theorem dX9_findsTried_59 : decode cX9_findsTried 59 = .ok (.goto 4, 3) := by decide +kernel
theorem dX9_findsTried_62 : decode cX9_findsTried 62 = .ok (.iconst 0, 1) := by decide +kernel
theorem dX9_findsTried_63 : decode cX9_findsTried 63 = .ok (.istore 4, 2) := by decide +kernel
theorem dX9_findsTried_65 : decode cX9_findsTried 65 = .ok (.iinc 5 1, 3) := by decide +kernel
theorem dX9_findsTried_68 : decode cX9_findsTried 68 = .ok (.goto (-47), 3) := by decide +kernel
theorem dX9_findsTried_71 : decode cX9_findsTried 71 = .ok (.iload 4, 2) := by decide +kernel
theorem dX9_findsTried_73 : decode cX9_findsTried 73 = .ok (.ifCond .eq 7, 3) := by decide +kernel
theorem dX9_findsTried_76 : decode cX9_findsTried 76 = .ok (.iload_n 3, 1) := by decide +kernel
theorem dX9_findsTried_77 : decode cX9_findsTried 77 = .ok (.goto 4, 3) := by decide +kernel
theorem dX9_findsTried_80 : decode cX9_findsTried 80 = .ok (.iload_n 2, 1) := by decide +kernel
theorem dX9_findsTried_81 : decode cX9_findsTried 81 = .ok (.istore_n 2, 1) := by decide +kernel
theorem dX9_findsTried_82 : decode cX9_findsTried 82 = .ok (.iinc 3 (-1), 3) := by decide +kernel
theorem dX9_findsTried_85 : decode cX9_findsTried 85 = .ok (.goto (-74), 3) := by decide +kernel
theorem dX9_findsTried_88 : decode cX9_findsTried 88 = .ok (.iload_n 2, 1) := by decide +kernel
theorem dX9_findsTried_89 : decode cX9_findsTried 89 = .ok (.iconst (-1), 1) := by decide +kernel
theorem dX9_findsTried_90 : decode cX9_findsTried 90 = .ok (.if_icmp .ne 54, 3) := by decide +kernel
theorem dX9_findsTried_93 : decode cX9_findsTried 93 = .ok (.aload_n 0, 1) := by decide +kernel
theorem dX9_findsTried_94 : decode cX9_findsTried 94 = .ok (.getfield 38, 3) := by decide +kernel
theorem dX9_findsTried_97 : decode cX9_findsTried 97 = .ok (.iload_n 1, 1) := by decide +kernel
theorem dX9_findsTried_98 : decode cX9_findsTried 98 = .ok (.iaload, 1) := by decide +kernel
theorem dX9_findsTried_99 : decode cX9_findsTried 99 = .ok (.istore_n 2, 1) := by decide +kernel
theorem dX9_findsTried_100 : decode cX9_findsTried 100 = .ok (.aload_n 0, 1) := by decide +kernel
theorem dX9_findsTried_101 : decode cX9_findsTried 101 = .ok (.getfield 38, 3) := by decide +kernel
theorem dX9_findsTried_104 : decode cX9_findsTried 104 = .ok (.iload_n 1, 1) := by decide +kernel
theorem dX9_findsTried_105 : decode cX9_findsTried 105 = .ok (.dup2, 1) := by decide +kernel
theorem dX9_findsTried_106 : decode cX9_findsTried 106 = .ok (.iaload, 1) := by decide +kernel
theorem dX9_findsTried_107 : decode cX9_findsTried 107 = .ok (.iconst 1, 1) := by decide +kernel
theorem dX9_findsTried_108 : decode cX9_findsTried 108 = .ok (.iadd, 1) := by decide +kernel
theorem dX9_findsTried_109 : decode cX9_findsTried 109 = .ok (.iastore, 1) := by decide +kernel
theorem dX9_findsTried_110 : decode cX9_findsTried 110 = .ok (.iconst 0, 1) := by decide +kernel
theorem dX9_findsTried_111 : decode cX9_findsTried 111 = .ok (.istore_n 3, 1) := by decide +kernel
theorem dX9_findsTried_112 : decode cX9_findsTried 112 = .ok (.iload_n 3, 1) := by decide +kernel
theorem dX9_findsTried_113 : decode cX9_findsTried 113 = .ok (.iconst 5, 1) := by decide +kernel
theorem dX9_findsTried_114 : decode cX9_findsTried 114 = .ok (.if_icmp .ge 30, 3) := by decide +kernel
theorem dX9_findsTried_117 : decode cX9_findsTried 117 = .ok (.aload_n 0, 1) := by decide +kernel
theorem dX9_findsTried_118 : decode cX9_findsTried 118 = .ok (.getfield 41, 3) := by decide +kernel
theorem dX9_findsTried_121 : decode cX9_findsTried 121 = .ok (.iconst 5, 1) := by decide +kernel
theorem dX9_findsTried_122 : decode cX9_findsTried 122 = .ok (.aload_n 0, 1) := by decide +kernel
theorem dX9_findsTried_123 : decode cX9_findsTried 123 = .ok (.iload_n 1, 1) := by decide +kernel
theorem dX9_findsTried_124 : decode cX9_findsTried 124 = .ok (.iload_n 2, 1) := by decide +kernel
theorem dX9_findsTried_125 : decode cX9_findsTried 125 = .ok (.invokevirtual 229, 3) := by decide +kernel
theorem dX9_findsTried_128 : decode cX9_findsTried 128 = .ok (.imul, 1) := by decide +kernel
theorem dX9_findsTried_129 : decode cX9_findsTried 129 = .ok (.iload_n 3, 1) := by decide +kernel
theorem dX9_findsTried_130 : decode cX9_findsTried 130 = .ok (.iadd, 1) := by decide +kernel
theorem dX9_findsTried_131 : decode cX9_findsTried 131 = .ok (.aload_n 0, 1) := by decide +kernel
theorem dX9_findsTried_132 : decode cX9_findsTried 132 = .ok (.getfield 53, 3) := by decide +kernel
theorem dX9_findsTried_135 : decode cX9_findsTried 135 = .ok (.iload_n 3, 1) := by decide +kernel
theorem dX9_findsTried_136 : decode cX9_findsTried 136 = .ok (.iaload, 1) := by decide +kernel
theorem dX9_findsTried_137 : decode cX9_findsTried 137 = .ok (.iastore, 1) := by decide +kernel
theorem dX9_findsTried_138 : decode cX9_findsTried 138 = .ok (.iinc 3 1, 3) := by decide +kernel
theorem dX9_findsTried_141 : decode cX9_findsTried 141 = .ok (.goto (-29), 3) := by decide +kernel
theorem dX9_findsTried_144 : decode cX9_findsTried 144 = .ok (.iload_n 2, 1) := by decide +kernel
theorem dX9_findsTried_145 : decode cX9_findsTried 145 = .ok (.ireturn, 1) := by decide +kernel
set_option maxRecDepth 20000 in
theorem ggX9_tries_X9_offRight : GoodIn wsX9_tries wsX9_offRight := goodIn_r _ [6, 7, 8, 9, 10, 5, 11, 12, 24, 25, 26, 27, 28, 29, 30, 31, 32, 33, 34, 35, 36, 37, 38, 39, 40, 41, 42, 43, 44, 45, 46, 47, 48, 49, 50, 51, 52, 53, 54, 55, 56, 57, 58, 59] (by decide +kernel) (by decide +kernel)
set_option maxRecDepth 20000 in
theorem gX9_tries_X9_offRight : GoodIn wsX9_tries (wsV RX9 233 RX9 yX9_offRight wsX9_offRight) := goodIn_app (goodIn_of _ (by decide +kernel)) ggX9_tries_X9_offRight
set_option maxRecDepth 20000 in
theorem ggX9_tries_X9_isState : GoodIn wsX9_tries wsX9_isState := goodIn_r _ [16, 17, 18, 19, 5, 20, 12, 21, 22, 23, 24, 25, 26, 27, 28, 29, 30, 31, 32, 33, 34, 35, 36, 37, 38, 39, 40, 41, 42, 43, 44, 45, 46, 47, 48, 49, 50, 51, 52, 53, 54, 55, 56, 57, 58, 59] (by decide +kernel) (by decide +kernel)
set_option maxRecDepth 20000 in
theorem gX9_tries_X9_isState : GoodIn wsX9_tries (wsV RX9 148 RX9 yX9_isState wsX9_isState) := goodIn_app (goodIn_of _ (by decide +kernel)) ggX9_tries_X9_isState
theorem dX9_tries_0 : decode cX9_tries 0 = .ok (.aload_n 0, 1) := by decide +kernel
theorem dX9_tries_1 : decode cX9_tries 1 = .ok (.getfield 53, 3) := by decide +kernel
theorem dX9_tries_4 : decode cX9_tries 4 = .ok (.iconst 0, 1) := by decide +kernel
theorem dX9_tries_5 : decode cX9_tries 5 = .ok (.iload_n 3, 1) := by decide +kernel
theorem dX9_tries_6 : decode cX9_tries 6 = .ok (.iconst (-1), 1) := by decide +kernel
theorem dX9_tries_7 : decode cX9_tries 7 = .ok (.if_icmp .ne 7, 3) := by decide +kernel
theorem dX9_tries_10 : decode cX9_tries 10 = .ok (.iconst (-1), 1) := by decide +kernel
theorem dX9_tries_11 : decode cX9_tries 11 = .ok (.goto 12, 3) := by decide +kernel
theorem dX9_tries_14 : decode cX9_tries 14 = .ok (.aload_n 0, 1) := by decide +kernel
theorem dX9_tries_15 : decode cX9_tries 15 = .ok (.iload_n 1, 1) := by decide +kernel
theorem dX9_tries_16 : decode cX9_tries 16 = .ok (.iload_n 2, 1) := by decide +kernel
theorem dX9_tries_17 : decode cX9_tries 17 = .ok (.iload_n 3, 1) := by decide +kernel
theorem dX9_tries_18 : decode cX9_tries 18 = .ok (.iload 4, 2) := by decide +kernel
theorem dX9_tries_20 : decode cX9_tries 20 = .ok (.invokevirtual 233, 3) := by decide +kernel
theorem dX9_tries_23 : decode cX9_tries 23 = .ok (.iastore, 1) := by decide +kernel
theorem dX9_tries_24 : decode cX9_tries 24 = .ok (.iconst 0, 1) := by decide +kernel
theorem dX9_tries_25 : decode cX9_tries 25 = .ok (.istore 5, 2) := by decide +kernel
theorem dX9_tries_27 : decode cX9_tries 27 = .ok (.iload 5, 2) := by decide +kernel
theorem dX9_tries_29 : decode cX9_tries 29 = .ok (.iconst 4, 1) := by decide +kernel
theorem dX9_tries_30 : decode cX9_tries 30 = .ok (.if_icmp .ge 42, 3) := by decide +kernel
theorem dX9_tries_33 : decode cX9_tries 33 = .ok (.aload_n 0, 1) := by decide +kernel
theorem dX9_tries_34 : decode cX9_tries 34 = .ok (.getfield 53, 3) := by decide +kernel
theorem dX9_tries_37 : decode cX9_tries 37 = .ok (.iconst 1, 1) := by decide +kernel
theorem dX9_tries_38 : decode cX9_tries 38 = .ok (.iload 5, 2) := by decide +kernel
theorem dX9_tries_40 : decode cX9_tries 40 = .ok (.iadd, 1) := by decide +kernel
theorem dX9_tries_41 : decode cX9_tries 41 = .ok (.aload_n 0, 1) := by decide +kernel
theorem dX9_tries_42 : decode cX9_tries 42 = .ok (.iload_n 1, 1) := by decide +kernel
theorem dX9_tries_43 : decode cX9_tries 43 = .ok (.iload 5, 2) := by decide +kernel
theorem dX9_tries_45 : decode cX9_tries 45 = .ok (.invokevirtual 148, 3) := by decide +kernel
theorem dX9_tries_48 : decode cX9_tries 48 = .ok (.ifCond .eq 16, 3) := by decide +kernel
theorem dX9_tries_51 : decode cX9_tries 51 = .ok (.aload_n 0, 1) := by decide +kernel
theorem dX9_tries_52 : decode cX9_tries 52 = .ok (.iload_n 1, 1) := by decide +kernel
theorem dX9_tries_53 : decode cX9_tries 53 = .ok (.iload_n 2, 1) := by decide +kernel
theorem dX9_tries_54 : decode cX9_tries 54 = .ok (.iload 5, 2) := by decide +kernel
theorem dX9_tries_56 : decode cX9_tries 56 = .ok (.iload 4, 2) := by decide +kernel
theorem dX9_tries_58 : decode cX9_tries 58 = .ok (.invokevirtual 233, 3) := by decide +kernel
theorem dX9_tries_61 : decode cX9_tries 61 = .ok (.goto 4, 3) := by decide +kernel
theorem dX9_tries_64 : decode cX9_tries 64 = .ok (.iconst (-1), 1) := by decide +kernel
theorem dX9_tries_65 : decode cX9_tries 65 = .ok (.iastore, 1) := by decide +kernel
theorem dX9_tries_66 : decode cX9_tries 66 = .ok (.iinc 5 1, 3) := by decide +kernel
theorem dX9_tries_69 : decode cX9_tries 69 = .ok (.goto (-42), 3) := by decide +kernel
theorem dX9_tries_72 : decode cX9_tries 72 = .ok (.return_, 1) := by decide +kernel
set_option maxRecDepth 20000 in
theorem ggX9_isGood_X9_at : GoodIn wsX9_isGood wsX9_at := goodIn_r _ [6] (by decide +kernel) (by decide +kernel)
set_option maxRecDepth 20000 in
theorem gX9_isGood_X9_at : GoodIn wsX9_isGood (wsV RX9 229 RX9 yX9_at wsX9_at) := goodIn_app (goodIn_of _ (by decide +kernel)) ggX9_isGood_X9_at
set_option maxRecDepth 20000 in
theorem ggX9_isGood_X9_moveAt : GoodIn wsX9_isGood wsX9_moveAt := goodIn_r _ [10, 11, 12, 13, 14, 15, 16, 17, 18, 19, 20, 21, 22, 23, 24, 25, 26, 27, 28, 29, 30, 31, 32, 33, 34, 35, 36, 37, 38, 39, 40, 41, 42, 43, 44, 45, 46, 47] (by decide +kernel) (by decide +kernel)
set_option maxRecDepth 20000 in
theorem gX9_isGood_X9_moveAt : GoodIn wsX9_isGood (wsV RX9 157 RX9 yX9_moveAt wsX9_moveAt) := goodIn_app (goodIn_of _ (by decide +kernel)) ggX9_isGood_X9_moveAt
theorem dX9_isGood_0 : decode cX9_isGood 0 = .ok (.aload_n 0, 1) := by decide +kernel
theorem dX9_isGood_1 : decode cX9_isGood 1 = .ok (.getfield 41, 3) := by decide +kernel
theorem dX9_isGood_4 : decode cX9_isGood 4 = .ok (.iconst 5, 1) := by decide +kernel
theorem dX9_isGood_5 : decode cX9_isGood 5 = .ok (.aload_n 0, 1) := by decide +kernel
theorem dX9_isGood_6 : decode cX9_isGood 6 = .ok (.iload_n 1, 1) := by decide +kernel
theorem dX9_isGood_7 : decode cX9_isGood 7 = .ok (.iload_n 2, 1) := by decide +kernel
theorem dX9_isGood_8 : decode cX9_isGood 8 = .ok (.invokevirtual 229, 3) := by decide +kernel
theorem dX9_isGood_11 : decode cX9_isGood 11 = .ok (.imul, 1) := by decide +kernel
theorem dX9_isGood_12 : decode cX9_isGood 12 = .ok (.iaload, 1) := by decide +kernel
theorem dX9_isGood_13 : decode cX9_isGood 13 = .ok (.istore_n 3, 1) := by decide +kernel
theorem dX9_isGood_14 : decode cX9_isGood 14 = .ok (.iconst 0, 1) := by decide +kernel
theorem dX9_isGood_15 : decode cX9_isGood 15 = .ok (.istore 4, 2) := by decide +kernel
theorem dX9_isGood_17 : decode cX9_isGood 17 = .ok (.iload_n 3, 1) := by decide +kernel
theorem dX9_isGood_18 : decode cX9_isGood 18 = .ok (.iconst (-1), 1) := by decide +kernel
theorem dX9_isGood_19 : decode cX9_isGood 19 = .ok (.if_icmp .eq 79, 3) := by decide +kernel
theorem dX9_isGood_22 : decode cX9_isGood 22 = .ok (.iload 4, 2) := by decide +kernel
theorem dX9_isGood_24 : decode cX9_isGood 24 = .ok (.iload_n 3, 1) := by decide +kernel
theorem dX9_isGood_25 : decode cX9_isGood 25 = .ok (.ishr, 1) := by decide +kernel
theorem dX9_isGood_26 : decode cX9_isGood 26 = .ok (.iconst 1, 1) := by decide +kernel
theorem dX9_isGood_27 : decode cX9_isGood 27 = .ok (.iand, 1) := by decide +kernel
theorem dX9_isGood_28 : decode cX9_isGood 28 = .ok (.ifCond .ne 70, 3) := by decide +kernel
theorem dX9_isGood_31 : decode cX9_isGood 31 = .ok (.iload 4, 2) := by decide +kernel
theorem dX9_isGood_33 : decode cX9_isGood 33 = .ok (.iconst 1, 1) := by decide +kernel
theorem dX9_isGood_34 : decode cX9_isGood 34 = .ok (.iload_n 3, 1) := by decide +kernel
theorem dX9_isGood_35 : decode cX9_isGood 35 = .ok (.ishl, 1) := by decide +kernel
theorem dX9_isGood_36 : decode cX9_isGood 36 = .ok (.ior, 1) := by decide +kernel
theorem dX9_isGood_37 : decode cX9_isGood 37 = .ok (.istore 4, 2) := by decide +kernel
theorem dX9_isGood_39 : decode cX9_isGood 39 = .ok (.aload_n 0, 1) := by decide +kernel
theorem dX9_isGood_40 : decode cX9_isGood 40 = .ok (.iload_n 1, 1) := by decide +kernel
theorem dX9_isGood_41 : decode cX9_isGood 41 = .ok (.iload_n 3, 1) := by decide +kernel
theorem dX9_isGood_42 : decode cX9_isGood 42 = .ok (.iconst 3, 1) := by decide +kernel
theorem dX9_isGood_43 : decode cX9_isGood 43 = .ok (.invokevirtual 157, 3) := by decide +kernel
theorem dX9_isGood_46 : decode cX9_isGood 46 = .ok (.istore 5, 2) := by decide +kernel
theorem dX9_isGood_48 : decode cX9_isGood 48 = .ok (.iload 5, 2) := by decide +kernel
theorem dX9_isGood_50 : decode cX9_isGood 50 = .ok (.iconst (-1), 1) := by decide +kernel
theorem dX9_isGood_51 : decode cX9_isGood 51 = .ok (.if_icmp .eq 13, 3) := by decide +kernel
theorem dX9_isGood_54 : decode cX9_isGood 54 = .ok (.iload 5, 2) := by decide +kernel
theorem dX9_isGood_56 : decode cX9_isGood 56 = .ok (.iconst 2, 1) := by decide +kernel
theorem dX9_isGood_57 : decode cX9_isGood 57 = .ok (.irem, 1) := by decide +kernel
theorem dX9_isGood_58 : decode cX9_isGood 58 = .ok (.iconst 1, 1) := by decide +kernel
theorem dX9_isGood_59 : decode cX9_isGood 59 = .ok (.if_icmp .ne 5, 3) := by decide +kernel
theorem dX9_isGood_62 : decode cX9_isGood 62 = .ok (.iconst 1, 1) := by decide +kernel
theorem dX9_isGood_63 : decode cX9_isGood 63 = .ok (.ireturn, 1) := by decide +kernel
theorem dX9_isGood_64 : decode cX9_isGood 64 = .ok (.iload 5, 2) := by decide +kernel
theorem dX9_isGood_66 : decode cX9_isGood 66 = .ok (.iconst (-1), 1) := by decide +kernel
theorem dX9_isGood_67 : decode cX9_isGood 67 = .ok (.if_icmp .ne 7, 3) := by decide +kernel
theorem dX9_isGood_70 : decode cX9_isGood 70 = .ok (.iconst (-1), 1) := by decide +kernel
theorem dX9_isGood_71 : decode cX9_isGood 71 = .ok (.goto 23, 3) := by decide +kernel
theorem dX9_isGood_74 : decode cX9_isGood 74 = .ok (.aload_n 0, 1) := by decide +kernel
theorem dX9_isGood_75 : decode cX9_isGood 75 = .ok (.getfield 41, 3) := by decide +kernel
theorem dX9_isGood_78 : decode cX9_isGood 78 = .ok (.iconst 5, 1) := by decide +kernel
theorem dX9_isGood_79 : decode cX9_isGood 79 = .ok (.aload_n 0, 1) := by decide +kernel
theorem dX9_isGood_80 : decode cX9_isGood 80 = .ok (.iload_n 1, 1) := by decide +kernel
theorem dX9_isGood_81 : decode cX9_isGood 81 = .ok (.iload_n 2, 1) := by decide +kernel
theorem dX9_isGood_82 : decode cX9_isGood 82 = .ok (.invokevirtual 229, 3) := by decide +kernel
theorem dX9_isGood_85 : decode cX9_isGood 85 = .ok (.imul, 1) := by decide +kernel
theorem dX9_isGood_86 : decode cX9_isGood 86 = .ok (.iconst 1, 1) := by decide +kernel
theorem dX9_isGood_87 : decode cX9_isGood 87 = .ok (.iadd, 1) := by decide +kernel
theorem dX9_isGood_88 : decode cX9_isGood 88 = .ok (.iload 5, 2) := by decide +kernel
theorem dX9_isGood_90 : decode cX9_isGood 90 = .ok (.iconst 2, 1) := by decide +kernel
theorem dX9_isGood_91 : decode cX9_isGood 91 = .ok (.idiv, 1) := by decide +kernel
theorem dX9_isGood_92 : decode cX9_isGood 92 = .ok (.iadd, 1) := by decide +kernel
theorem dX9_isGood_93 : decode cX9_isGood 93 = .ok (.iaload, 1) := by decide +kernel
theorem dX9_isGood_94 : decode cX9_isGood 94 = .ok (.istore_n 3, 1) := by decide +kernel
theorem dX9_isGood_95 : decode cX9_isGood 95 = .ok (.goto (-78), 3) := by decide +kernel
theorem dX9_isGood_98 : decode cX9_isGood 98 = .ok (.iconst 0, 1) := by decide +kernel
theorem dX9_isGood_99 : decode cX9_isGood 99 = .ok (.ireturn, 1) := by decide +kernel
set_option maxRecDepth 20000 in
theorem ggX9_lays_X9_tries : GoodIn wsX9_lays wsX9_tries := goodIn_r _ [10, 11, 12, 13, 14, 9, 15, 3, 16, 17, 18, 19, 20, 21, 22, 23, 24, 25, 26, 27, 28, 29, 30, 31, 44, 45, 46, 47, 48, 49, 50, 51, 52, 53, 54, 55, 56, 57, 58, 59, 60, 61, 62, 63, 64, 65, 66, 67, 68, 69, 70, 71, 72, 73, 74, 75, 76, 77, 78, 79] (by decide +kernel) (by decide +kernel)
set_option maxRecDepth 20000 in
theorem gX9_lays_X9_tries : GoodIn wsX9_lays (wsV RX9 237 RX9 yX9_tries wsX9_tries) := goodIn_app (goodIn_of _ (by decide +kernel)) ggX9_lays_X9_tries
set_option maxRecDepth 20000 in
theorem ggX9_lays_X9_findsTried : GoodIn wsX9_lays wsX9_findsTried := goodIn_r _ [35, 1, 3, 11, 36, 37, 38, 9, 39, 44, 45, 46, 47, 48, 49, 50, 51, 52, 53, 54, 55, 56, 57, 58, 59, 60, 61, 62, 63, 64, 65, 66, 67, 68, 69, 70, 71, 72, 73, 74, 75, 76, 77, 78, 79] (by decide +kernel) (by decide +kernel)
set_option maxRecDepth 20000 in
theorem gX9_lays_X9_findsTried : GoodIn wsX9_lays (wsV RX9 241 RX9 yX9_findsTried wsX9_findsTried) := goodIn_app (goodIn_of _ (by decide +kernel)) ggX9_lays_X9_findsTried
set_option maxRecDepth 20000 in
theorem ggX9_lays_X9_at : GoodIn wsX9_lays wsX9_at := goodIn_r _ [39] (by decide +kernel) (by decide +kernel)
set_option maxRecDepth 20000 in
theorem gX9_lays_X9_at : GoodIn wsX9_lays (wsV RX9 229 RX9 yX9_at wsX9_at) := goodIn_app (goodIn_of _ (by decide +kernel)) ggX9_lays_X9_at
set_option maxRecDepth 20000 in
theorem ggX9_lays_X9_isGood : GoodIn wsX9_lays wsX9_isGood := goodIn_r _ [43, 3, 36, 37, 38, 9, 39, 16, 17, 18, 19, 20, 44, 45, 46, 47, 48, 49, 50, 51, 52, 53, 54, 55, 56, 57, 58, 59, 60, 61, 62, 63, 64, 65, 66, 67, 68, 69, 70, 71, 72, 73, 74, 75, 76, 77, 78, 79] (by decide +kernel) (by decide +kernel)
set_option maxRecDepth 20000 in
theorem gX9_lays_X9_isGood : GoodIn wsX9_lays (wsV RX9 244 RX9 yX9_isGood wsX9_isGood) := goodIn_app (goodIn_of _ (by decide +kernel)) ggX9_lays_X9_isGood
theorem dX9_lays_0 : decode cX9_lays 0 = .ok (.aload_n 0, 1) := by decide +kernel
theorem dX9_lays_1 : decode cX9_lays 1 = .ok (.getfield 38, 3) := by decide +kernel
theorem dX9_lays_4 : decode cX9_lays 4 = .ok (.iload_n 1, 1) := by decide +kernel
theorem dX9_lays_5 : decode cX9_lays 5 = .ok (.iconst 0, 1) := by decide +kernel
theorem dX9_lays_6 : decode cX9_lays 6 = .ok (.iastore, 1) := by decide +kernel
theorem dX9_lays_7 : decode cX9_lays 7 = .ok (.aload_n 0, 1) := by decide +kernel
theorem dX9_lays_8 : decode cX9_lays 8 = .ok (.iload_n 1, 1) := by decide +kernel
theorem dX9_lays_9 : decode cX9_lays 9 = .ok (.iconst 2, 1) := by decide +kernel
theorem dX9_lays_10 : decode cX9_lays 10 = .ok (.iconst 0, 1) := by decide +kernel
theorem dX9_lays_11 : decode cX9_lays 11 = .ok (.iconst (-1), 1) := by decide +kernel
theorem dX9_lays_12 : decode cX9_lays 12 = .ok (.invokevirtual 237, 3) := by decide +kernel
theorem dX9_lays_15 : decode cX9_lays 15 = .ok (.aload_n 0, 1) := by decide +kernel
theorem dX9_lays_16 : decode cX9_lays 16 = .ok (.getfield 50, 3) := by decide +kernel
theorem dX9_lays_19 : decode cX9_lays 19 = .ok (.aload_n 0, 1) := by decide +kernel
theorem dX9_lays_20 : decode cX9_lays 20 = .ok (.iload_n 1, 1) := by decide +kernel
theorem dX9_lays_21 : decode cX9_lays 21 = .ok (.aload_n 0, 1) := by decide +kernel
theorem dX9_lays_22 : decode cX9_lays 22 = .ok (.iload_n 1, 1) := by decide +kernel
theorem dX9_lays_23 : decode cX9_lays 23 = .ok (.invokevirtual 241, 3) := by decide +kernel
theorem dX9_lays_26 : decode cX9_lays 26 = .ok (.invokevirtual 229, 3) := by decide +kernel
theorem dX9_lays_29 : decode cX9_lays 29 = .ok (.iconst (-1), 1) := by decide +kernel
theorem dX9_lays_30 : decode cX9_lays 30 = .ok (.iastore, 1) := by decide +kernel
theorem dX9_lays_31 : decode cX9_lays 31 = .ok (.iconst 0, 1) := by decide +kernel
theorem dX9_lays_32 : decode cX9_lays 32 = .ok (.istore_n 2, 1) := by decide +kernel
theorem dX9_lays_33 : decode cX9_lays 33 = .ok (.iload_n 2, 1) := by decide +kernel
theorem dX9_lays_34 : decode cX9_lays 34 = .ok (.aload_n 0, 1) := by decide +kernel
theorem dX9_lays_35 : decode cX9_lays 35 = .ok (.getfield 38, 3) := by decide +kernel
theorem dX9_lays_38 : decode cX9_lays 38 = .ok (.iload_n 1, 1) := by decide +kernel
theorem dX9_lays_39 : decode cX9_lays 39 = .ok (.iaload, 1) := by decide +kernel
theorem dX9_lays_40 : decode cX9_lays 40 = .ok (.if_icmp .ge 146, 3) := by decide +kernel
theorem dX9_lays_43 : decode cX9_lays 43 = .ok (.iconst 0, 1) := by decide +kernel
theorem dX9_lays_44 : decode cX9_lays 44 = .ok (.istore_n 3, 1) := by decide +kernel
theorem dX9_lays_45 : decode cX9_lays 45 = .ok (.iload_n 3, 1) := by decide +kernel
theorem dX9_lays_46 : decode cX9_lays 46 = .ok (.iconst 2, 1) := by decide +kernel
theorem dX9_lays_47 : decode cX9_lays 47 = .ok (.if_icmp .ge 108, 3) := by decide +kernel
theorem dX9_lays_50 : decode cX9_lays 50 = .ok (.aload_n 0, 1) := by decide +kernel
theorem dX9_lays_51 : decode cX9_lays 51 = .ok (.getfield 38, 3) := by decide +kernel
theorem dX9_lays_54 : decode cX9_lays 54 = .ok (.iload_n 1, 1) := by decide +kernel
theorem dX9_lays_55 : decode cX9_lays 55 = .ok (.iaload, 1) := by decide +kernel
theorem dX9_lays_56 : decode cX9_lays 56 = .ok (.istore 4, 2) := by decide +kernel
theorem dX9_lays_58 : decode cX9_lays 58 = .ok (.aload_n 0, 1) := by decide +kernel
theorem dX9_lays_59 : decode cX9_lays 59 = .ok (.iload_n 1, 1) := by decide +kernel
theorem dX9_lays_60 : decode cX9_lays 60 = .ok (.iload_n 3, 1) := by decide +kernel
theorem dX9_lays_61 : decode cX9_lays 61 = .ok (.aload_n 0, 1) := by decide +kernel
theorem dX9_lays_62 : decode cX9_lays 62 = .ok (.getfield 41, 3) := by decide +kernel
theorem dX9_lays_65 : decode cX9_lays 65 = .ok (.iconst 5, 1) := by decide +kernel
theorem dX9_lays_66 : decode cX9_lays 66 = .ok (.aload_n 0, 1) := by decide +kernel
theorem dX9_lays_67 : decode cX9_lays 67 = .ok (.iload_n 1, 1) := by decide +kernel
theorem dX9_lays_68 : decode cX9_lays 68 = .ok (.iload_n 2, 1) := by decide +kernel
theorem dX9_lays_69 : decode cX9_lays 69 = .ok (.invokevirtual 229, 3) := by decide +kernel
theorem dX9_lays_72 : decode cX9_lays 72 = .ok (.imul, 1) := by decide +kernel
theorem dX9_lays_73 : decode cX9_lays 73 = .ok (.iaload, 1) := by decide +kernel
theorem dX9_lays_74 : decode cX9_lays 74 = .ok (.aload_n 0, 1) := by decide +kernel
theorem dX9_lays_75 : decode cX9_lays 75 = .ok (.iload_n 1, 1) := by decide +kernel
theorem dX9_lays_76 : decode cX9_lays 76 = .ok (.iload_n 2, 1) := by decide +kernel
theorem dX9_lays_77 : decode cX9_lays 77 = .ok (.invokevirtual 229, 3) := by decide +kernel
theorem dX9_lays_80 : decode cX9_lays 80 = .ok (.invokevirtual 237, 3) := by decide +kernel
theorem dX9_lays_83 : decode cX9_lays 83 = .ok (.aload_n 0, 1) := by decide +kernel
theorem dX9_lays_84 : decode cX9_lays 84 = .ok (.iload_n 1, 1) := by decide +kernel
theorem dX9_lays_85 : decode cX9_lays 85 = .ok (.invokevirtual 241, 3) := by decide +kernel
theorem dX9_lays_88 : decode cX9_lays 88 = .ok (.istore 5, 2) := by decide +kernel
theorem dX9_lays_90 : decode cX9_lays 90 = .ok (.aload_n 0, 1) := by decide +kernel
theorem dX9_lays_91 : decode cX9_lays 91 = .ok (.getfield 38, 3) := by decide +kernel
theorem dX9_lays_94 : decode cX9_lays 94 = .ok (.iload_n 1, 1) := by decide +kernel
theorem dX9_lays_95 : decode cX9_lays 95 = .ok (.iaload, 1) := by decide +kernel
theorem dX9_lays_96 : decode cX9_lays 96 = .ok (.sipush 150, 3) := by decide +kernel
theorem dX9_lays_99 : decode cX9_lays 99 = .ok (.if_icmp .le 5, 3) := by decide +kernel
theorem dX9_lays_102 : decode cX9_lays 102 = .ok (.iconst 0, 1) := by decide +kernel
theorem dX9_lays_103 : decode cX9_lays 103 = .ok (.ireturn, 1) := by decide +kernel
theorem dX9_lays_104 : decode cX9_lays 104 = .ok (.aload_n 0, 1) := by decide +kernel
theorem dX9_lays_105 : decode cX9_lays 105 = .ok (.getfield 44, 3) := by decide +kernel
theorem dX9_lays_108 : decode cX9_lays 108 = .ok (.iconst 2, 1) := by decide +kernel
theorem dX9_lays_109 : decode cX9_lays 109 = .ok (.aload_n 0, 1) := by decide +kernel
theorem dX9_lays_110 : decode cX9_lays 110 = .ok (.iload_n 1, 1) := by decide +kernel
theorem dX9_lays_111 : decode cX9_lays 111 = .ok (.iload_n 2, 1) := by decide +kernel
theorem dX9_lays_112 : decode cX9_lays 112 = .ok (.invokevirtual 229, 3) := by decide +kernel
theorem dX9_lays_115 : decode cX9_lays 115 = .ok (.imul, 1) := by decide +kernel
theorem dX9_lays_116 : decode cX9_lays 116 = .ok (.iload_n 3, 1) := by decide +kernel
theorem dX9_lays_117 : decode cX9_lays 117 = .ok (.iadd, 1) := by decide +kernel
theorem dX9_lays_118 : decode cX9_lays 118 = .ok (.iload 5, 2) := by decide +kernel
theorem dX9_lays_120 : decode cX9_lays 120 = .ok (.iastore, 1) := by decide +kernel
theorem dX9_lays_121 : decode cX9_lays 121 = .ok (.aload_n 0, 1) := by decide +kernel
theorem dX9_lays_122 : decode cX9_lays 122 = .ok (.getfield 38, 3) := by decide +kernel
theorem dX9_lays_125 : decode cX9_lays 125 = .ok (.iload_n 1, 1) := by decide +kernel
theorem dX9_lays_126 : decode cX9_lays 126 = .ok (.iaload, 1) := by decide +kernel
theorem dX9_lays_127 : decode cX9_lays 127 = .ok (.iload 4, 2) := by decide +kernel
theorem dX9_lays_129 : decode cX9_lays 129 = .ok (.if_icmp .le 20, 3) := by decide +kernel
theorem dX9_lays_132 : decode cX9_lays 132 = .ok (.aload_n 0, 1) := by decide +kernel
theorem dX9_lays_133 : decode cX9_lays 133 = .ok (.getfield 50, 3) := by decide +kernel
theorem dX9_lays_136 : decode cX9_lays 136 = .ok (.aload_n 0, 1) := by decide +kernel
theorem dX9_lays_137 : decode cX9_lays 137 = .ok (.iload_n 1, 1) := by decide +kernel
theorem dX9_lays_138 : decode cX9_lays 138 = .ok (.iload 5, 2) := by decide +kernel
theorem dX9_lays_140 : decode cX9_lays 140 = .ok (.invokevirtual 229, 3) := by decide +kernel
theorem dX9_lays_143 : decode cX9_lays 143 = .ok (.iconst 2, 1) := by decide +kernel
theorem dX9_lays_144 : decode cX9_lays 144 = .ok (.iload_n 2, 1) := by decide +kernel
theorem dX9_lays_145 : decode cX9_lays 145 = .ok (.imul, 1) := by decide +kernel
theorem dX9_lays_146 : decode cX9_lays 146 = .ok (.iload_n 3, 1) := by decide +kernel
theorem dX9_lays_147 : decode cX9_lays 147 = .ok (.iadd, 1) := by decide +kernel
theorem dX9_lays_148 : decode cX9_lays 148 = .ok (.iastore, 1) := by decide +kernel
theorem dX9_lays_149 : decode cX9_lays 149 = .ok (.iinc 3 1, 3) := by decide +kernel
theorem dX9_lays_152 : decode cX9_lays 152 = .ok (.goto (-107), 3) := by decide +kernel
theorem dX9_lays_155 : decode cX9_lays 155 = .ok (.aload_n 0, 1) := by decide +kernel
theorem dX9_lays_156 : decode cX9_lays 156 = .ok (.getfield 47, 3) := by decide +kernel
theorem dX9_lays_159 : decode cX9_lays 159 = .ok (.aload_n 0, 1) := by decide +kernel
theorem dX9_lays_160 : decode cX9_lays 160 = .ok (.iload_n 1, 1) := by decide +kernel
theorem dX9_lays_161 : decode cX9_lays 161 = .ok (.iload_n 2, 1) := by decide +kernel
theorem dX9_lays_162 : decode cX9_lays 162 = .ok (.invokevirtual 229, 3) := by decide +kernel
theorem dX9_lays_165 : decode cX9_lays 165 = .ok (.aload_n 0, 1) := by decide +kernel
theorem dX9_lays_166 : decode cX9_lays 166 = .ok (.iload_n 1, 1) := by decide +kernel
theorem dX9_lays_167 : decode cX9_lays 167 = .ok (.iload_n 2, 1) := by decide +kernel
theorem dX9_lays_168 : decode cX9_lays 168 = .ok (.invokevirtual 244, 3) := by decide +kernel
theorem dX9_lays_171 : decode cX9_lays 171 = .ok (.ifCond .eq 7, 3) := by decide +kernel
theorem dX9_lays_174 : decode cX9_lays 174 = .ok (.iconst 1, 1) := by decide +kernel
theorem dX9_lays_175 : decode cX9_lays 175 = .ok (.goto 4, 3) := by decide +kernel
theorem dX9_lays_178 : decode cX9_lays 178 = .ok (.iconst 0, 1) := by decide +kernel
theorem dX9_lays_179 : decode cX9_lays 179 = .ok (.iastore, 1) := by decide +kernel
theorem dX9_lays_180 : decode cX9_lays 180 = .ok (.iinc 2 1, 3) := by decide +kernel
theorem dX9_lays_183 : decode cX9_lays 183 = .ok (.goto (-150), 3) := by decide +kernel
theorem dX9_lays_186 : decode cX9_lays 186 = .ok (.iconst 1, 1) := by decide +kernel
theorem dX9_lays_187 : decode cX9_lays 187 = .ok (.ireturn, 1) := by decide +kernel
set_option maxRecDepth 20000 in
theorem ggX9_laysBoth_X9_lays : GoodIn wsX9_laysBoth wsX9_lays := goodIn_r _ [5, 6, 7, 8, 9, 10, 11, 12, 13, 4, 14, 15, 16, 17, 18, 19, 20, 21, 22, 23, 24, 25, 26, 27, 28, 29, 30, 31, 32, 33, 34, 35, 36, 37, 38, 39, 40, 41, 42, 43, 44, 45, 46, 47, 48, 49, 50, 51, 52, 53, 54, 55, 56, 57, 58, 59, 60, 61, 62, 63, 64, 65, 66, 67, 68, 69, 70, 71, 72, 73, 74, 75, 76, 77, 78, 79, 80, 81, 82, 83] (by decide +kernel) (by decide +kernel)
set_option maxRecDepth 20000 in
theorem gX9_laysBoth_X9_lays : GoodIn wsX9_laysBoth (wsV RX9 247 RX9 yX9_lays wsX9_lays) := goodIn_app (goodIn_of _ (by decide +kernel)) ggX9_laysBoth_X9_lays
theorem dX9_laysBoth_0 : decode cX9_laysBoth 0 = .ok (.aload_n 0, 1) := by decide +kernel
theorem dX9_laysBoth_1 : decode cX9_laysBoth 1 = .ok (.iconst 0, 1) := by decide +kernel
theorem dX9_laysBoth_2 : decode cX9_laysBoth 2 = .ok (.invokevirtual 247, 3) := by decide +kernel
theorem dX9_laysBoth_5 : decode cX9_laysBoth 5 = .ok (.istore_n 1, 1) := by decide +kernel
theorem dX9_laysBoth_6 : decode cX9_laysBoth 6 = .ok (.aload_n 0, 1) := by decide +kernel
theorem dX9_laysBoth_7 : decode cX9_laysBoth 7 = .ok (.iconst 1, 1) := by decide +kernel
theorem dX9_laysBoth_8 : decode cX9_laysBoth 8 = .ok (.invokevirtual 247, 3) := by decide +kernel
theorem dX9_laysBoth_11 : decode cX9_laysBoth 11 = .ok (.ifCond .eq 11, 3) := by decide +kernel
theorem dX9_laysBoth_14 : decode cX9_laysBoth 14 = .ok (.iload_n 1, 1) := by decide +kernel
theorem dX9_laysBoth_15 : decode cX9_laysBoth 15 = .ok (.ifCond .eq 7, 3) := by decide +kernel
theorem dX9_laysBoth_18 : decode cX9_laysBoth 18 = .ok (.iconst 1, 1) := by decide +kernel
theorem dX9_laysBoth_19 : decode cX9_laysBoth 19 = .ok (.goto 4, 3) := by decide +kernel
theorem dX9_laysBoth_22 : decode cX9_laysBoth 22 = .ok (.iconst 0, 1) := by decide +kernel
theorem dX9_laysBoth_23 : decode cX9_laysBoth 23 = .ok (.ireturn, 1) := by decide +kernel
set_option maxRecDepth 20000 in
theorem ggX9_isLike_X9_at : GoodIn wsX9_isLike wsX9_at := goodIn_r _ [7] (by decide +kernel) (by decide +kernel)
set_option maxRecDepth 20000 in
theorem gX9_isLike_X9_at : GoodIn wsX9_isLike (wsV RX9 229 RX9 yX9_at wsX9_at) := goodIn_app (goodIn_of _ (by decide +kernel)) ggX9_isLike_X9_at
theorem dX9_isLike_0 : decode cX9_isLike 0 = .ok (.aload_n 0, 1) := by decide +kernel
theorem dX9_isLike_1 : decode cX9_isLike 1 = .ok (.getfield 56, 3) := by decide +kernel
theorem dX9_isLike_4 : decode cX9_isLike 4 = .ok (.iload_n 2, 1) := by decide +kernel
theorem dX9_isLike_5 : decode cX9_isLike 5 = .ok (.iaload, 1) := by decide +kernel
theorem dX9_isLike_6 : decode cX9_isLike 6 = .ok (.aload_n 0, 1) := by decide +kernel
theorem dX9_isLike_7 : decode cX9_isLike 7 = .ok (.getfield 56, 3) := by decide +kernel
theorem dX9_isLike_10 : decode cX9_isLike 10 = .ok (.iload_n 3, 1) := by decide +kernel
theorem dX9_isLike_11 : decode cX9_isLike 11 = .ok (.iaload, 1) := by decide +kernel
theorem dX9_isLike_12 : decode cX9_isLike 12 = .ok (.if_icmp .ne 7, 3) := by decide +kernel
theorem dX9_isLike_15 : decode cX9_isLike 15 = .ok (.iconst 1, 1) := by decide +kernel
theorem dX9_isLike_16 : decode cX9_isLike 16 = .ok (.goto 4, 3) := by decide +kernel
theorem dX9_isLike_19 : decode cX9_isLike 19 = .ok (.iconst 0, 1) := by decide +kernel
theorem dX9_isLike_20 : decode cX9_isLike 20 = .ok (.istore 4, 2) := by decide +kernel
theorem dX9_isLike_22 : decode cX9_isLike 22 = .ok (.iconst 0, 1) := by decide +kernel
theorem dX9_isLike_23 : decode cX9_isLike 23 = .ok (.istore 5, 2) := by decide +kernel
theorem dX9_isLike_25 : decode cX9_isLike 25 = .ok (.iload 5, 2) := by decide +kernel
theorem dX9_isLike_27 : decode cX9_isLike 27 = .ok (.iconst 2, 1) := by decide +kernel
theorem dX9_isLike_28 : decode cX9_isLike 28 = .ok (.if_icmp .ge 66, 3) := by decide +kernel
theorem dX9_isLike_31 : decode cX9_isLike 31 = .ok (.iload 4, 2) := by decide +kernel
theorem dX9_isLike_33 : decode cX9_isLike 33 = .ok (.ifCond .eq 52, 3) := by decide +kernel
theorem dX9_isLike_36 : decode cX9_isLike 36 = .ok (.aload_n 0, 1) := by decide +kernel
theorem dX9_isLike_37 : decode cX9_isLike 37 = .ok (.getfield 56, 3) := by decide +kernel
theorem dX9_isLike_40 : decode cX9_isLike 40 = .ok (.aload_n 0, 1) := by decide +kernel
theorem dX9_isLike_41 : decode cX9_isLike 41 = .ok (.getfield 44, 3) := by decide +kernel
theorem dX9_isLike_44 : decode cX9_isLike 44 = .ok (.iconst 2, 1) := by decide +kernel
theorem dX9_isLike_45 : decode cX9_isLike 45 = .ok (.aload_n 0, 1) := by decide +kernel
theorem dX9_isLike_46 : decode cX9_isLike 46 = .ok (.iload_n 1, 1) := by decide +kernel
theorem dX9_isLike_47 : decode cX9_isLike 47 = .ok (.iload_n 2, 1) := by decide +kernel
theorem dX9_isLike_48 : decode cX9_isLike 48 = .ok (.invokevirtual 229, 3) := by decide +kernel
theorem dX9_isLike_51 : decode cX9_isLike 51 = .ok (.imul, 1) := by decide +kernel
theorem dX9_isLike_52 : decode cX9_isLike 52 = .ok (.iload 5, 2) := by decide +kernel
theorem dX9_isLike_54 : decode cX9_isLike 54 = .ok (.iadd, 1) := by decide +kernel
theorem dX9_isLike_55 : decode cX9_isLike 55 = .ok (.iaload, 1) := by decide +kernel
theorem dX9_isLike_56 : decode cX9_isLike 56 = .ok (.iaload, 1) := by decide +kernel
theorem dX9_isLike_57 : decode cX9_isLike 57 = .ok (.aload_n 0, 1) := by decide +kernel
theorem dX9_isLike_58 : decode cX9_isLike 58 = .ok (.getfield 56, 3) := by decide +kernel
theorem dX9_isLike_61 : decode cX9_isLike 61 = .ok (.aload_n 0, 1) := by decide +kernel
theorem dX9_isLike_62 : decode cX9_isLike 62 = .ok (.getfield 44, 3) := by decide +kernel
theorem dX9_isLike_65 : decode cX9_isLike 65 = .ok (.iconst 2, 1) := by decide +kernel
theorem dX9_isLike_66 : decode cX9_isLike 66 = .ok (.aload_n 0, 1) := by decide +kernel
theorem dX9_isLike_67 : decode cX9_isLike 67 = .ok (.iload_n 1, 1) := by decide +kernel
theorem dX9_isLike_68 : decode cX9_isLike 68 = .ok (.iload_n 3, 1) := by decide +kernel
theorem dX9_isLike_69 : decode cX9_isLike 69 = .ok (.invokevirtual 229, 3) := by decide +kernel
theorem dX9_isLike_72 : decode cX9_isLike 72 = .ok (.imul, 1) := by decide +kernel
theorem dX9_isLike_73 : decode cX9_isLike 73 = .ok (.iload 5, 2) := by decide +kernel
theorem dX9_isLike_75 : decode cX9_isLike 75 = .ok (.iadd, 1) := by decide +kernel
theorem dX9_isLike_76 : decode cX9_isLike 76 = .ok (.iaload, 1) := by decide +kernel
theorem dX9_isLike_77 : decode cX9_isLike 77 = .ok (.iaload, 1) := by decide +kernel
theorem dX9_isLike_78 : decode cX9_isLike 78 = .ok (.if_icmp .ne 7, 3) := by decide +kernel
theorem dX9_isLike_81 : decode cX9_isLike 81 = .ok (.iconst 1, 1) := by decide +kernel
theorem dX9_isLike_82 : decode cX9_isLike 82 = .ok (.goto 4, 3) := by decide +kernel
theorem dX9_isLike_85 : decode cX9_isLike 85 = .ok (.iconst 0, 1) := by decide +kernel
theorem dX9_isLike_86 : decode cX9_isLike 86 = .ok (.istore 4, 2) := by decide +kernel
theorem dX9_isLike_88 : decode cX9_isLike 88 = .ok (.iinc 5 1, 3) := by decide +kernel
theorem dX9_isLike_91 : decode cX9_isLike 91 = .ok (.goto (-66), 3) := by decide +kernel
theorem dX9_isLike_94 : decode cX9_isLike 94 = .ok (.iload 4, 2) := by decide +kernel
theorem dX9_isLike_96 : decode cX9_isLike 96 = .ok (.ireturn, 1) := by decide +kernel
set_option maxRecDepth 20000 in
theorem ggX9_least_X9_at : GoodIn wsX9_least wsX9_at := goodIn_r _ [9] (by decide +kernel) (by decide +kernel)
set_option maxRecDepth 20000 in
theorem gX9_least_X9_at : GoodIn wsX9_least (wsV RX9 229 RX9 yX9_at wsX9_at) := goodIn_app (goodIn_of _ (by decide +kernel)) ggX9_least_X9_at
set_option maxRecDepth 20000 in
theorem ggX9_least_X9_isLike : GoodIn wsX9_least wsX9_isLike := goodIn_r _ [13, 2, 14, 5, 6, 7, 8, 9, 15, 16, 17, 18, 19, 20, 21, 22, 23, 24, 25, 26, 27, 28, 29, 30, 31, 32, 33, 34, 35, 36, 37, 38, 39, 40, 41, 42, 43, 44, 45, 46, 47, 48, 49, 50] (by decide +kernel) (by decide +kernel)
set_option maxRecDepth 20000 in
theorem gX9_least_X9_isLike : GoodIn wsX9_least (wsV RX9 250 RX9 yX9_isLike wsX9_isLike) := goodIn_app (goodIn_of _ (by decide +kernel)) ggX9_least_X9_isLike
theorem dX9_least_0 : decode cX9_least 0 = .ok (.iconst 0, 1) := by decide +kernel
theorem dX9_least_1 : decode cX9_least 1 = .ok (.istore_n 2, 1) := by decide +kernel
theorem dX9_least_2 : decode cX9_least 2 = .ok (.iconst 1, 1) := by decide +kernel
theorem dX9_least_3 : decode cX9_least 3 = .ok (.istore_n 3, 1) := by decide +kernel
theorem dX9_least_4 : decode cX9_least 4 = .ok (.iconst 0, 1) := by decide +kernel
theorem dX9_least_5 : decode cX9_least 5 = .ok (.istore 4, 2) := by decide +kernel
theorem dX9_least_7 : decode cX9_least 7 = .ok (.iload 4, 2) := by decide +kernel
theorem dX9_least_9 : decode cX9_least 9 = .ok (.aload_n 0, 1) := by decide +kernel
theorem dX9_least_10 : decode cX9_least 10 = .ok (.getfield 38, 3) := by decide +kernel
theorem dX9_least_13 : decode cX9_least 13 = .ok (.iload_n 1, 1) := by decide +kernel
theorem dX9_least_14 : decode cX9_least 14 = .ok (.iaload, 1) := by decide +kernel
theorem dX9_least_15 : decode cX9_least 15 = .ok (.if_icmp .ge 28, 3) := by decide +kernel
theorem dX9_least_18 : decode cX9_least 18 = .ok (.aload_n 0, 1) := by decide +kernel
theorem dX9_least_19 : decode cX9_least 19 = .ok (.getfield 56, 3) := by decide +kernel
theorem dX9_least_22 : decode cX9_least 22 = .ok (.iload 4, 2) := by decide +kernel
theorem dX9_least_24 : decode cX9_least 24 = .ok (.aload_n 0, 1) := by decide +kernel
theorem dX9_least_25 : decode cX9_least 25 = .ok (.getfield 47, 3) := by decide +kernel
theorem dX9_least_28 : decode cX9_least 28 = .ok (.aload_n 0, 1) := by decide +kernel
theorem dX9_least_29 : decode cX9_least 29 = .ok (.iload_n 1, 1) := by decide +kernel
theorem dX9_least_30 : decode cX9_least 30 = .ok (.iload 4, 2) := by decide +kernel
theorem dX9_least_32 : decode cX9_least 32 = .ok (.invokevirtual 229, 3) := by decide +kernel
theorem dX9_least_35 : decode cX9_least 35 = .ok (.iaload, 1) := by decide +kernel
theorem dX9_least_36 : decode cX9_least 36 = .ok (.iastore, 1) := by decide +kernel
theorem dX9_least_37 : decode cX9_least 37 = .ok (.iinc 4 1, 3) := by decide +kernel
theorem dX9_least_40 : decode cX9_least 40 = .ok (.goto (-33), 3) := by decide +kernel
theorem dX9_least_43 : decode cX9_least 43 = .ok (.iload_n 3, 1) := by decide +kernel
theorem dX9_least_44 : decode cX9_least 44 = .ok (.iload_n 2, 1) := by decide +kernel
theorem dX9_least_45 : decode cX9_least 45 = .ok (.if_icmp .le 130, 3) := by decide +kernel
theorem dX9_least_48 : decode cX9_least 48 = .ok (.iload_n 3, 1) := by decide +kernel
theorem dX9_least_49 : decode cX9_least 49 = .ok (.istore_n 2, 1) := by decide +kernel
theorem dX9_least_50 : decode cX9_least 50 = .ok (.iconst 0, 1) := by decide +kernel
theorem dX9_least_51 : decode cX9_least 51 = .ok (.istore_n 3, 1) := by decide +kernel
theorem dX9_least_52 : decode cX9_least 52 = .ok (.iconst 0, 1) := by decide +kernel
theorem dX9_least_53 : decode cX9_least 53 = .ok (.istore 4, 2) := by decide +kernel
theorem dX9_least_55 : decode cX9_least 55 = .ok (.iload 4, 2) := by decide +kernel
theorem dX9_least_57 : decode cX9_least 57 = .ok (.aload_n 0, 1) := by decide +kernel
theorem dX9_least_58 : decode cX9_least 58 = .ok (.getfield 38, 3) := by decide +kernel
theorem dX9_least_61 : decode cX9_least 61 = .ok (.iload_n 1, 1) := by decide +kernel
theorem dX9_least_62 : decode cX9_least 62 = .ok (.iaload, 1) := by decide +kernel
theorem dX9_least_63 : decode cX9_least 63 = .ok (.if_icmp .ge 75, 3) := by decide +kernel
theorem dX9_least_66 : decode cX9_least 66 = .ok (.iload 4, 2) := by decide +kernel
theorem dX9_least_68 : decode cX9_least 68 = .ok (.istore 5, 2) := by decide +kernel
theorem dX9_least_70 : decode cX9_least 70 = .ok (.iload 4, 2) := by decide +kernel
theorem dX9_least_72 : decode cX9_least 72 = .ok (.iconst 1, 1) := by decide +kernel
theorem dX9_least_73 : decode cX9_least 73 = .ok (.isub, 1) := by decide +kernel
theorem dX9_least_74 : decode cX9_least 74 = .ok (.istore 6, 2) := by decide +kernel
theorem dX9_least_76 : decode cX9_least 76 = .ok (.iload 6, 2) := by decide +kernel
theorem dX9_least_78 : decode cX9_least 78 = .ok (.ifCond .lt 30, 3) := by decide +kernel
theorem dX9_least_81 : decode cX9_least 81 = .ok (.aload_n 0, 1) := by decide +kernel
theorem dX9_least_82 : decode cX9_least 82 = .ok (.iload_n 1, 1) := by decide +kernel
theorem dX9_least_83 : decode cX9_least 83 = .ok (.iload 6, 2) := by decide +kernel
theorem dX9_least_85 : decode cX9_least 85 = .ok (.iload 4, 2) := by decide +kernel
theorem dX9_least_87 : decode cX9_least 87 = .ok (.invokevirtual 250, 3) := by decide +kernel
theorem dX9_least_90 : decode cX9_least 90 = .ok (.ifCond .eq 8, 3) := by decide +kernel
theorem dX9_least_93 : decode cX9_least 93 = .ok (.iload 6, 2) := by decide +kernel
theorem dX9_least_95 : decode cX9_least 95 = .ok (.goto 5, 3) := by decide +kernel
theorem dX9_least_98 : decode cX9_least 98 = .ok (.iload 5, 2) := by decide +kernel
theorem dX9_least_100 : decode cX9_least 100 = .ok (.istore 5, 2) := by decide +kernel
theorem dX9_least_102 : decode cX9_least 102 = .ok (.iinc 6 (-1), 3) := by decide +kernel
theorem dX9_least_105 : decode cX9_least 105 = .ok (.goto (-29), 3) := by decide +kernel
theorem dX9_least_108 : decode cX9_least 108 = .ok (.aload_n 0, 1) := by decide +kernel
theorem dX9_least_109 : decode cX9_least 109 = .ok (.getfield 59, 3) := by decide +kernel
theorem dX9_least_112 : decode cX9_least 112 = .ok (.iload 4, 2) := by decide +kernel
theorem dX9_least_114 : decode cX9_least 114 = .ok (.iload 5, 2) := by decide +kernel
theorem dX9_least_116 : decode cX9_least 116 = .ok (.iastore, 1) := by decide +kernel
theorem dX9_least_117 : decode cX9_least 117 = .ok (.iload_n 3, 1) := by decide +kernel
theorem dX9_least_118 : decode cX9_least 118 = .ok (.iload 5, 2) := by decide +kernel
theorem dX9_least_120 : decode cX9_least 120 = .ok (.iload 4, 2) := by decide +kernel
theorem dX9_least_122 : decode cX9_least 122 = .ok (.if_icmp .ne 7, 3) := by decide +kernel
theorem dX9_least_125 : decode cX9_least 125 = .ok (.iconst 1, 1) := by decide +kernel
theorem dX9_least_126 : decode cX9_least 126 = .ok (.goto 4, 3) := by decide +kernel
theorem dX9_least_129 : decode cX9_least 129 = .ok (.iconst 0, 1) := by decide +kernel
theorem dX9_least_130 : decode cX9_least 130 = .ok (.iadd, 1) := by decide +kernel
theorem dX9_least_131 : decode cX9_least 131 = .ok (.istore_n 3, 1) := by decide +kernel
theorem dX9_least_132 : decode cX9_least 132 = .ok (.iinc 4 1, 3) := by decide +kernel
theorem dX9_least_135 : decode cX9_least 135 = .ok (.goto (-80), 3) := by decide +kernel
theorem dX9_least_138 : decode cX9_least 138 = .ok (.iconst 0, 1) := by decide +kernel
theorem dX9_least_139 : decode cX9_least 139 = .ok (.istore 4, 2) := by decide +kernel
theorem dX9_least_141 : decode cX9_least 141 = .ok (.iload 4, 2) := by decide +kernel
theorem dX9_least_143 : decode cX9_least 143 = .ok (.aload_n 0, 1) := by decide +kernel
theorem dX9_least_144 : decode cX9_least 144 = .ok (.getfield 38, 3) := by decide +kernel
theorem dX9_least_147 : decode cX9_least 147 = .ok (.iload_n 1, 1) := by decide +kernel
theorem dX9_least_148 : decode cX9_least 148 = .ok (.iaload, 1) := by decide +kernel
theorem dX9_least_149 : decode cX9_least 149 = .ok (.if_icmp .ge 23, 3) := by decide +kernel
theorem dX9_least_152 : decode cX9_least 152 = .ok (.aload_n 0, 1) := by decide +kernel
theorem dX9_least_153 : decode cX9_least 153 = .ok (.getfield 56, 3) := by decide +kernel
theorem dX9_least_156 : decode cX9_least 156 = .ok (.iload 4, 2) := by decide +kernel
theorem dX9_least_158 : decode cX9_least 158 = .ok (.aload_n 0, 1) := by decide +kernel
theorem dX9_least_159 : decode cX9_least 159 = .ok (.getfield 59, 3) := by decide +kernel
theorem dX9_least_162 : decode cX9_least 162 = .ok (.iload 4, 2) := by decide +kernel
theorem dX9_least_164 : decode cX9_least 164 = .ok (.iaload, 1) := by decide +kernel
theorem dX9_least_165 : decode cX9_least 165 = .ok (.iastore, 1) := by decide +kernel
theorem dX9_least_166 : decode cX9_least 166 = .ok (.iinc 4 1, 3) := by decide +kernel
theorem dX9_least_169 : decode cX9_least 169 = .ok (.goto (-28), 3) := by decide +kernel
theorem dX9_least_172 : decode cX9_least 172 = .ok (.goto (-129), 3) := by decide +kernel
theorem dX9_least_175 : decode cX9_least 175 = .ok (.iload_n 3, 1) := by decide +kernel
theorem dX9_least_176 : decode cX9_least 176 = .ok (.ireturn, 1) := by decide +kernel
set_option maxRecDepth 20000 in
theorem ggX9_firstOf_X9_at : GoodIn wsX9_firstOf wsX9_at := goodIn_r _ [9] (by decide +kernel) (by decide +kernel)
set_option maxRecDepth 20000 in
theorem gX9_firstOf_X9_at : GoodIn wsX9_firstOf (wsV RX9 229 RX9 yX9_at wsX9_at) := goodIn_app (goodIn_of _ (by decide +kernel)) ggX9_firstOf_X9_at
theorem dX9_firstOf_0 : decode cX9_firstOf 0 = .ok (.iconst (-1), 1) := by decide +kernel
theorem dX9_firstOf_1 : decode cX9_firstOf 1 = .ok (.istore_n 3, 1) := by decide +kernel
theorem dX9_firstOf_2 : decode cX9_firstOf 2 = .ok (.aload_n 0, 1) := by decide +kernel
theorem dX9_firstOf_3 : decode cX9_firstOf 3 = .ok (.getfield 38, 3) := by decide +kernel
theorem dX9_firstOf_6 : decode cX9_firstOf 6 = .ok (.iload_n 1, 1) := by decide +kernel
theorem dX9_firstOf_7 : decode cX9_firstOf 7 = .ok (.iaload, 1) := by decide +kernel
theorem dX9_firstOf_8 : decode cX9_firstOf 8 = .ok (.iconst 1, 1) := by decide +kernel
theorem dX9_firstOf_9 : decode cX9_firstOf 9 = .ok (.isub, 1) := by decide +kernel
theorem dX9_firstOf_10 : decode cX9_firstOf 10 = .ok (.istore 4, 2) := by decide +kernel
theorem dX9_firstOf_12 : decode cX9_firstOf 12 = .ok (.iload 4, 2) := by decide +kernel
theorem dX9_firstOf_14 : decode cX9_firstOf 14 = .ok (.ifCond .lt 32, 3) := by decide +kernel
theorem dX9_firstOf_17 : decode cX9_firstOf 17 = .ok (.aload_n 0, 1) := by decide +kernel
theorem dX9_firstOf_18 : decode cX9_firstOf 18 = .ok (.getfield 47, 3) := by decide +kernel
theorem dX9_firstOf_21 : decode cX9_firstOf 21 = .ok (.aload_n 0, 1) := by decide +kernel
theorem dX9_firstOf_22 : decode cX9_firstOf 22 = .ok (.iload_n 1, 1) := by decide +kernel
theorem dX9_firstOf_23 : decode cX9_firstOf 23 = .ok (.iload 4, 2) := by decide +kernel
theorem dX9_firstOf_25 : decode cX9_firstOf 25 = .ok (.invokevirtual 229, 3) := by decide +kernel
theorem dX9_firstOf_28 : decode cX9_firstOf 28 = .ok (.iaload, 1) := by decide +kernel
theorem dX9_firstOf_29 : decode cX9_firstOf 29 = .ok (.iload_n 2, 1) := by decide +kernel
theorem dX9_firstOf_30 : decode cX9_firstOf 30 = .ok (.if_icmp .ne 8, 3) := by decide +kernel
theorem dX9_firstOf_33 : decode cX9_firstOf 33 = .ok (.iload 4, 2) := by decide +kernel
theorem dX9_firstOf_35 : decode cX9_firstOf 35 = .ok (.goto 4, 3) := by decide +kernel
theorem dX9_firstOf_38 : decode cX9_firstOf 38 = .ok (.iload_n 3, 1) := by decide +kernel
theorem dX9_firstOf_39 : decode cX9_firstOf 39 = .ok (.istore_n 3, 1) := by decide +kernel
theorem dX9_firstOf_40 : decode cX9_firstOf 40 = .ok (.iinc 4 (-1), 3) := by decide +kernel
theorem dX9_firstOf_43 : decode cX9_firstOf 43 = .ok (.goto (-31), 3) := by decide +kernel
theorem dX9_firstOf_46 : decode cX9_firstOf 46 = .ok (.iload_n 3, 1) := by decide +kernel
theorem dX9_firstOf_47 : decode cX9_firstOf 47 = .ok (.iconst (-1), 1) := by decide +kernel
theorem dX9_firstOf_48 : decode cX9_firstOf 48 = .ok (.if_icmp .ne 5, 3) := by decide +kernel
theorem dX9_firstOf_51 : decode cX9_firstOf 51 = .ok (.iconst (-1), 1) := by decide +kernel
theorem dX9_firstOf_52 : decode cX9_firstOf 52 = .ok (.ireturn, 1) := by decide +kernel
theorem dX9_firstOf_53 : decode cX9_firstOf 53 = .ok (.lconst 0, 1) := by decide +kernel
theorem dX9_firstOf_54 : decode cX9_firstOf 54 = .ok (.lstore 4, 2) := by decide +kernel
theorem dX9_firstOf_56 : decode cX9_firstOf 56 = .ok (.lconst 1, 1) := by decide +kernel
theorem dX9_firstOf_57 : decode cX9_firstOf 57 = .ok (.lstore 6, 2) := by decide +kernel
theorem dX9_firstOf_59 : decode cX9_firstOf 59 = .ok (.iconst 0, 1) := by decide +kernel
theorem dX9_firstOf_60 : decode cX9_firstOf 60 = .ok (.istore 8, 2) := by decide +kernel
theorem dX9_firstOf_62 : decode cX9_firstOf 62 = .ok (.aload_n 0, 1) := by decide +kernel
theorem dX9_firstOf_63 : decode cX9_firstOf 63 = .ok (.getfield 50, 3) := by decide +kernel
theorem dX9_firstOf_66 : decode cX9_firstOf 66 = .ok (.aload_n 0, 1) := by decide +kernel
theorem dX9_firstOf_67 : decode cX9_firstOf 67 = .ok (.iload_n 1, 1) := by decide +kernel
theorem dX9_firstOf_68 : decode cX9_firstOf 68 = .ok (.iload_n 3, 1) := by decide +kernel
theorem dX9_firstOf_69 : decode cX9_firstOf 69 = .ok (.invokevirtual 229, 3) := by decide +kernel
theorem dX9_firstOf_72 : decode cX9_firstOf 72 = .ok (.iaload, 1) := by decide +kernel
theorem dX9_firstOf_73 : decode cX9_firstOf 73 = .ok (.iconst (-1), 1) := by decide +kernel
theorem dX9_firstOf_74 : decode cX9_firstOf 74 = .ok (.if_icmp .eq 70, 3) := by decide +kernel
theorem dX9_firstOf_77 : decode cX9_firstOf 77 = .ok (.aload_n 0, 1) := by decide +kernel
theorem dX9_firstOf_78 : decode cX9_firstOf 78 = .ok (.getfield 50, 3) := by decide +kernel
theorem dX9_firstOf_81 : decode cX9_firstOf 81 = .ok (.aload_n 0, 1) := by decide +kernel
theorem dX9_firstOf_82 : decode cX9_firstOf 82 = .ok (.iload_n 1, 1) := by decide +kernel
theorem dX9_firstOf_83 : decode cX9_firstOf 83 = .ok (.iload_n 3, 1) := by decide +kernel
theorem dX9_firstOf_84 : decode cX9_firstOf 84 = .ok (.invokevirtual 229, 3) := by decide +kernel
theorem dX9_firstOf_87 : decode cX9_firstOf 87 = .ok (.iaload, 1) := by decide +kernel
theorem dX9_firstOf_88 : decode cX9_firstOf 88 = .ok (.istore 9, 2) := by decide +kernel
theorem dX9_firstOf_90 : decode cX9_firstOf 90 = .ok (.lload 4, 2) := by decide +kernel
theorem dX9_firstOf_92 : decode cX9_firstOf 92 = .ok (.iload 8, 2) := by decide +kernel
theorem dX9_firstOf_94 : decode cX9_firstOf 94 = .ok (.bipush 25, 2) := by decide +kernel
theorem dX9_firstOf_96 : decode cX9_firstOf 96 = .ok (.if_icmp .ge 14, 3) := by decide +kernel
theorem dX9_firstOf_99 : decode cX9_firstOf 99 = .ok (.lload 6, 2) := by decide +kernel
theorem dX9_firstOf_101 : decode cX9_firstOf 101 = .ok (.iload 9, 2) := by decide +kernel
theorem dX9_firstOf_103 : decode cX9_firstOf 103 = .ok (.iconst 2, 1) := by decide +kernel
theorem dX9_firstOf_104 : decode cX9_firstOf 104 = .ok (.irem, 1) := by decide +kernel
theorem dX9_firstOf_105 : decode cX9_firstOf 105 = .ok (.i2l, 1) := by decide +kernel
theorem dX9_firstOf_106 : decode cX9_firstOf 106 = .ok (.lmul, 1) := by decide +kernel
theorem dX9_firstOf_107 : decode cX9_firstOf 107 = .ok (.goto 4, 3) := by decide +kernel
theorem dX9_firstOf_110 : decode cX9_firstOf 110 = .ok (.lconst 0, 1) := by decide +kernel
theorem dX9_firstOf_111 : decode cX9_firstOf 111 = .ok (.ladd, 1) := by decide +kernel
theorem dX9_firstOf_112 : decode cX9_firstOf 112 = .ok (.lstore 4, 2) := by decide +kernel
theorem dX9_firstOf_114 : decode cX9_firstOf 114 = .ok (.lload 6, 2) := by decide +kernel
theorem dX9_firstOf_116 : decode cX9_firstOf 116 = .ok (.iload 8, 2) := by decide +kernel
theorem dX9_firstOf_118 : decode cX9_firstOf 118 = .ok (.bipush 25, 2) := by decide +kernel
theorem dX9_firstOf_120 : decode cX9_firstOf 120 = .ok (.if_icmp .ge 9, 3) := by decide +kernel
theorem dX9_firstOf_123 : decode cX9_firstOf 123 = .ok (.ldc2_w 253, 3) := by decide +kernel
theorem dX9_firstOf_126 : decode cX9_firstOf 126 = .ok (.goto 4, 3) := by decide +kernel
theorem dX9_firstOf_129 : decode cX9_firstOf 129 = .ok (.lconst 1, 1) := by decide +kernel
theorem dX9_firstOf_130 : decode cX9_firstOf 130 = .ok (.lmul, 1) := by decide +kernel
theorem dX9_firstOf_131 : decode cX9_firstOf 131 = .ok (.lstore 6, 2) := by decide +kernel
theorem dX9_firstOf_133 : decode cX9_firstOf 133 = .ok (.iinc 8 1, 3) := by decide +kernel
theorem dX9_firstOf_136 : decode cX9_firstOf 136 = .ok (.iload 9, 2) := by decide +kernel
theorem dX9_firstOf_138 : decode cX9_firstOf 138 = .ok (.iconst 2, 1) := by decide +kernel
theorem dX9_firstOf_139 : decode cX9_firstOf 139 = .ok (.idiv, 1) := by decide +kernel
theorem dX9_firstOf_140 : decode cX9_firstOf 140 = .ok (.istore_n 3, 1) := by decide +kernel
theorem dX9_firstOf_141 : decode cX9_firstOf 141 = .ok (.goto (-79), 3) := by decide +kernel
theorem dX9_firstOf_144 : decode cX9_firstOf 144 = .ok (.iload 8, 2) := by decide +kernel
theorem dX9_firstOf_146 : decode cX9_firstOf 146 = .ok (.bipush 24, 2) := by decide +kernel
theorem dX9_firstOf_148 : decode cX9_firstOf 148 = .ok (.if_icmp .le 7, 3) := by decide +kernel
theorem dX9_firstOf_151 : decode cX9_firstOf 151 = .ok (.iconst 0, 1) := by decide +kernel
theorem dX9_firstOf_152 : decode cX9_firstOf 152 = .ok (.goto 9, 3) := by decide +kernel
theorem dX9_firstOf_155 : decode cX9_firstOf 155 = .ok (.lload 4, 2) := by decide +kernel
theorem dX9_firstOf_157 : decode cX9_firstOf 157 = .ok (.lload 6, 2) := by decide +kernel
theorem dX9_firstOf_159 : decode cX9_firstOf 159 = .ok (.ladd, 1) := by decide +kernel
theorem dX9_firstOf_160 : decode cX9_firstOf 160 = .ok (.l2i, 1) := by decide +kernel
theorem dX9_firstOf_161 : decode cX9_firstOf 161 = .ok (.ireturn, 1) := by decide +kernel
set_option maxRecDepth 20000 in
theorem ggX9_ofMachine_X9_isMachine : GoodIn wsX9_ofMachine wsX9_isMachine := goodIn_r _ [9, 10, 11, 8, 12] (by decide +kernel) (by decide +kernel)
set_option maxRecDepth 20000 in
theorem gX9_ofMachine_X9_isMachine : GoodIn wsX9_ofMachine (va_wsS RX9 135 yX9_isMachine wsX9_isMachine) := goodIn_app (goodIn_of _ (by decide +kernel)) ggX9_ofMachine_X9_isMachine
set_option maxRecDepth 20000 in
theorem ggX9_ofMachine_X9_in : GoodIn wsX9_ofMachine wsX9_in := goodIn_r _ [12] (by decide +kernel) (by decide +kernel)
set_option maxRecDepth 20000 in
theorem gX9_ofMachine_X9_in : GoodIn wsX9_ofMachine (va_wsS RX9 87 yX9_in wsX9_in) := goodIn_app (goodIn_of _ (by decide +kernel)) ggX9_ofMachine_X9_in
set_option maxRecDepth 20000 in
theorem ggX9_ofMachine_X9_states0 : GoodIn wsX9_ofMachine wsX9_states0 := goodIn_r _ [16, 17, 74, 75, 76, 77, 78, 79, 80, 81, 82, 83, 84, 85, 86, 87, 88, 89, 90, 91, 92, 93, 94, 95, 96, 97, 98, 99, 100, 101, 102, 103, 104, 105, 106, 107, 108, 109] (by decide +kernel) (by decide +kernel)
set_option maxRecDepth 20000 in
theorem gX9_ofMachine_X9_states0 : GoodIn wsX9_ofMachine (wsV RX9 91 RX9 yX9_states0 wsX9_states0) := goodIn_app (goodIn_of _ (by decide +kernel)) ggX9_ofMachine_X9_states0
set_option maxRecDepth 20000 in
theorem ggX9_ofMachine_X9_movesOf : GoodIn wsX9_ofMachine wsX9_movesOf := goodIn_r _ [21, 17, 74, 75, 76, 77, 78, 79, 80, 81, 82, 83, 84, 85, 86, 87, 88, 89, 90, 91, 92, 93, 94, 95, 96, 97, 98, 99, 100, 101, 102, 103, 104, 105, 106, 107, 108, 109] (by decide +kernel) (by decide +kernel)
set_option maxRecDepth 20000 in
theorem gX9_ofMachine_X9_movesOf : GoodIn wsX9_ofMachine (wsV RX9 177 RX9 yX9_movesOf wsX9_movesOf) := goodIn_app (goodIn_of _ (by decide +kernel)) ggX9_ofMachine_X9_movesOf
set_option maxRecDepth 20000 in
theorem ggX9_ofMachine_X9_lays : GoodIn wsX9_ofMachine wsX9_lays := goodIn_r _ [25, 5, 26, 27, 28, 29, 30, 31, 32, 8, 33, 34, 35, 36, 37, 38, 39, 40, 41, 42, 17, 43, 44, 45, 46, 13, 14, 15, 16, 10, 11, 12, 47, 48, 49, 50, 51, 52, 53, 54, 55, 56, 57, 58, 74, 75, 76, 77, 78, 79, 80, 81, 82, 83, 84, 85, 86, 87, 88, 89, 90, 91, 92, 93, 94, 95, 96, 97, 98, 99, 100, 101, 102, 103, 104, 105, 106, 107, 108, 109] (by decide +kernel) (by decide +kernel)
set_option maxRecDepth 20000 in
theorem gX9_ofMachine_X9_lays : GoodIn wsX9_ofMachine (wsV RX9 247 RX9 yX9_lays wsX9_lays) := goodIn_app (goodIn_of _ (by decide +kernel)) ggX9_ofMachine_X9_lays
set_option maxRecDepth 20000 in
theorem ggX9_ofMachine_X9_least : GoodIn wsX9_ofMachine wsX9_least := goodIn_r _ [62, 5, 63, 29, 64, 51, 52, 53, 8, 54, 65, 66, 67, 68, 28, 74, 75, 76, 77, 78, 79, 80, 81, 82, 83, 84, 85, 86, 87, 88, 89, 90, 91, 92, 93, 94, 95, 96, 97, 98, 99, 100, 101, 102, 103, 104, 105, 106, 107, 108, 109] (by decide +kernel) (by decide +kernel)
set_option maxRecDepth 20000 in
theorem gX9_ofMachine_X9_least : GoodIn wsX9_ofMachine (wsV RX9 255 RX9 yX9_least wsX9_least) := goodIn_app (goodIn_of _ (by decide +kernel)) ggX9_ofMachine_X9_least
set_option maxRecDepth 20000 in
theorem ggX9_ofMachine_X9_firstOf : GoodIn wsX9_ofMachine wsX9_firstOf := goodIn_r _ [72, 5, 29, 26, 73, 51, 52, 53, 8, 54, 74, 75, 76, 77, 78, 79, 80, 81, 82, 83, 84, 85, 86, 87, 88, 89, 90, 91, 92, 93, 94, 95, 96, 97, 98, 99, 100, 101, 102, 103, 104, 105, 106, 107, 108, 109] (by decide +kernel) (by decide +kernel)
set_option maxRecDepth 20000 in
theorem gX9_ofMachine_X9_firstOf : GoodIn wsX9_ofMachine (wsV RX9 258 RX9 yX9_firstOf wsX9_firstOf) := goodIn_app (goodIn_of _ (by decide +kernel)) ggX9_ofMachine_X9_firstOf
theorem dX9_ofMachine_0 : decode cX9_ofMachine 0 = .ok (.iload_n 1, 1) := by decide +kernel
theorem dX9_ofMachine_1 : decode cX9_ofMachine 1 = .ok (.invokestatic 135, 3) := by decide +kernel
theorem dX9_ofMachine_4 : decode cX9_ofMachine 4 = .ok (.ifCond .ne 6, 3) := by decide +kernel
theorem dX9_ofMachine_7 : decode cX9_ofMachine 7 = .ok (.ldc 138, 2) := by decide +kernel
theorem dX9_ofMachine_9 : decode cX9_ofMachine 9 = .ok (.ireturn, 1) := by decide +kernel
theorem dX9_ofMachine_10 : decode cX9_ofMachine 10 = .ok (.iload_n 2, 1) := by decide +kernel
theorem dX9_ofMachine_11 : decode cX9_ofMachine 11 = .ok (.i2l, 1) := by decide +kernel
theorem dX9_ofMachine_12 : decode cX9_ofMachine 12 = .ok (.lconst 0, 1) := by decide +kernel
theorem dX9_ofMachine_13 : decode cX9_ofMachine 13 = .ok (.ldc2_w 213, 3) := by decide +kernel
theorem dX9_ofMachine_16 : decode cX9_ofMachine 16 = .ok (.invokestatic 87, 3) := by decide +kernel
theorem dX9_ofMachine_19 : decode cX9_ofMachine 19 = .ok (.ifCond .ne 6, 3) := by decide +kernel
theorem dX9_ofMachine_22 : decode cX9_ofMachine 22 = .ok (.ldc 97, 2) := by decide +kernel
theorem dX9_ofMachine_24 : decode cX9_ofMachine 24 = .ok (.ireturn, 1) := by decide +kernel
theorem dX9_ofMachine_25 : decode cX9_ofMachine 25 = .ok (.iload_n 2, 1) := by decide +kernel
theorem dX9_ofMachine_26 : decode cX9_ofMachine 26 = .ok (.iconst 2, 1) := by decide +kernel
theorem dX9_ofMachine_27 : decode cX9_ofMachine 27 = .ok (.if_icmp .ge 21, 3) := by decide +kernel
theorem dX9_ofMachine_30 : decode cX9_ofMachine 30 = .ok (.iload_n 2, 1) := by decide +kernel
theorem dX9_ofMachine_31 : decode cX9_ofMachine 31 = .ok (.ifCond .ne 11, 3) := by decide +kernel
theorem dX9_ofMachine_34 : decode cX9_ofMachine 34 = .ok (.aload_n 0, 1) := by decide +kernel
theorem dX9_ofMachine_35 : decode cX9_ofMachine 35 = .ok (.iload_n 1, 1) := by decide +kernel
theorem dX9_ofMachine_36 : decode cX9_ofMachine 36 = .ok (.invokevirtual 91, 3) := by decide +kernel
theorem dX9_ofMachine_39 : decode cX9_ofMachine 39 = .ok (.goto 8, 3) := by decide +kernel
theorem dX9_ofMachine_42 : decode cX9_ofMachine 42 = .ok (.aload_n 0, 1) := by decide +kernel
theorem dX9_ofMachine_43 : decode cX9_ofMachine 43 = .ok (.iload_n 1, 1) := by decide +kernel
theorem dX9_ofMachine_44 : decode cX9_ofMachine 44 = .ok (.invokevirtual 177, 3) := by decide +kernel
theorem dX9_ofMachine_47 : decode cX9_ofMachine 47 = .ok (.ireturn, 1) := by decide +kernel
theorem dX9_ofMachine_48 : decode cX9_ofMachine 48 = .ok (.aload_n 0, 1) := by decide +kernel
theorem dX9_ofMachine_49 : decode cX9_ofMachine 49 = .ok (.iload_n 1, 1) := by decide +kernel
theorem dX9_ofMachine_50 : decode cX9_ofMachine 50 = .ok (.invokevirtual 247, 3) := by decide +kernel
theorem dX9_ofMachine_53 : decode cX9_ofMachine 53 = .ok (.ifCond .ne 6, 3) := by decide +kernel
theorem dX9_ofMachine_56 : decode cX9_ofMachine 56 = .ok (.ldc 101, 2) := by decide +kernel
theorem dX9_ofMachine_58 : decode cX9_ofMachine 58 = .ok (.ireturn, 1) := by decide +kernel
theorem dX9_ofMachine_59 : decode cX9_ofMachine 59 = .ok (.iload_n 2, 1) := by decide +kernel
theorem dX9_ofMachine_60 : decode cX9_ofMachine 60 = .ok (.iconst 2, 1) := by decide +kernel
theorem dX9_ofMachine_61 : decode cX9_ofMachine 61 = .ok (.if_icmp .ne 12, 3) := by decide +kernel
theorem dX9_ofMachine_64 : decode cX9_ofMachine 64 = .ok (.aload_n 0, 1) := by decide +kernel
theorem dX9_ofMachine_65 : decode cX9_ofMachine 65 = .ok (.getfield 38, 3) := by decide +kernel
theorem dX9_ofMachine_68 : decode cX9_ofMachine 68 = .ok (.iload_n 1, 1) := by decide +kernel
theorem dX9_ofMachine_69 : decode cX9_ofMachine 69 = .ok (.iaload, 1) := by decide +kernel
theorem dX9_ofMachine_70 : decode cX9_ofMachine 70 = .ok (.goto 24, 3) := by decide +kernel
theorem dX9_ofMachine_73 : decode cX9_ofMachine 73 = .ok (.iload_n 2, 1) := by decide +kernel
theorem dX9_ofMachine_74 : decode cX9_ofMachine 74 = .ok (.iconst 3, 1) := by decide +kernel
theorem dX9_ofMachine_75 : decode cX9_ofMachine 75 = .ok (.if_icmp .ne 11, 3) := by decide +kernel
theorem dX9_ofMachine_78 : decode cX9_ofMachine 78 = .ok (.aload_n 0, 1) := by decide +kernel
theorem dX9_ofMachine_79 : decode cX9_ofMachine 79 = .ok (.iload_n 1, 1) := by decide +kernel
theorem dX9_ofMachine_80 : decode cX9_ofMachine 80 = .ok (.invokevirtual 255, 3) := by decide +kernel
theorem dX9_ofMachine_83 : decode cX9_ofMachine 83 = .ok (.goto 11, 3) := by decide +kernel
theorem dX9_ofMachine_86 : decode cX9_ofMachine 86 = .ok (.aload_n 0, 1) := by decide +kernel
theorem dX9_ofMachine_87 : decode cX9_ofMachine 87 = .ok (.iload_n 1, 1) := by decide +kernel
theorem dX9_ofMachine_88 : decode cX9_ofMachine 88 = .ok (.iconst 5, 1) := by decide +kernel
theorem dX9_ofMachine_89 : decode cX9_ofMachine 89 = .ok (.iload_n 2, 1) := by decide +kernel
theorem dX9_ofMachine_90 : decode cX9_ofMachine 90 = .ok (.isub, 1) := by decide +kernel
theorem dX9_ofMachine_91 : decode cX9_ofMachine 91 = .ok (.invokevirtual 258, 3) := by decide +kernel
theorem dX9_ofMachine_94 : decode cX9_ofMachine 94 = .ok (.ireturn, 1) := by decide +kernel
set_option maxRecDepth 20000 in
theorem ggX9_oneWay_X9_isMachine : GoodIn wsX9_oneWay wsX9_isMachine := goodIn_r _ [11, 12, 13, 10, 14] (by decide +kernel) (by decide +kernel)
set_option maxRecDepth 20000 in
theorem gX9_oneWay_X9_isMachine : GoodIn wsX9_oneWay (va_wsS RX9 135 yX9_isMachine wsX9_isMachine) := goodIn_app (goodIn_of _ (by decide +kernel)) ggX9_oneWay_X9_isMachine
set_option maxRecDepth 20000 in
theorem ggX9_oneWay_X9_lays : GoodIn wsX9_oneWay wsX9_lays := goodIn_r _ [18, 3, 19, 7, 5, 6, 20, 21, 22, 10, 23, 24, 25, 26, 27, 28, 29, 30, 31, 32, 33, 34, 35, 36, 37, 38, 39, 40, 41, 12, 13, 14, 42, 43, 44, 45, 46, 47, 48, 49, 50, 51, 52, 53, 54, 55, 56, 57, 58, 59, 60, 61, 62, 63, 64, 65, 66, 67, 68, 69, 70, 71, 72, 73, 74, 75, 76, 77, 78, 79, 80, 81, 82, 83, 84, 85, 86, 87, 88, 89] (by decide +kernel) (by decide +kernel)
set_option maxRecDepth 20000 in
theorem gX9_oneWay_X9_lays : GoodIn wsX9_oneWay (wsV RX9 247 RX9 yX9_lays wsX9_lays) := goodIn_app (goodIn_of _ (by decide +kernel)) ggX9_oneWay_X9_lays
set_option maxRecDepth 20000 in
theorem ggX9_oneWay_X9_in : GoodIn wsX9_oneWay wsX9_in := goodIn_r _ [14] (by decide +kernel) (by decide +kernel)
set_option maxRecDepth 20000 in
theorem gX9_oneWay_X9_in : GoodIn wsX9_oneWay (va_wsS RX9 87 yX9_in wsX9_in) := goodIn_app (goodIn_of _ (by decide +kernel)) ggX9_oneWay_X9_in
set_option maxRecDepth 20000 in
theorem ggX9_oneWay_X9_states0 : GoodIn wsX9_oneWay wsX9_states0 := goodIn_r _ [41, 33, 54, 55, 56, 57, 58, 59, 60, 61, 62, 63, 64, 65, 66, 67, 68, 69, 70, 71, 72, 73, 74, 75, 76, 77, 78, 79, 80, 81, 82, 83, 84, 85, 86, 87, 88, 89] (by decide +kernel) (by decide +kernel)
set_option maxRecDepth 20000 in
theorem gX9_oneWay_X9_states0 : GoodIn wsX9_oneWay (wsV RX9 91 RX9 yX9_states0 wsX9_states0) := goodIn_app (goodIn_of _ (by decide +kernel)) ggX9_oneWay_X9_states0
set_option maxRecDepth 20000 in
theorem ggX9_oneWay_X9_at : GoodIn wsX9_oneWay wsX9_at := goodIn_r _ [49] (by decide +kernel) (by decide +kernel)
set_option maxRecDepth 20000 in
theorem gX9_oneWay_X9_at : GoodIn wsX9_oneWay (wsV RX9 229 RX9 yX9_at wsX9_at) := goodIn_app (goodIn_of _ (by decide +kernel)) ggX9_oneWay_X9_at
theorem dX9_oneWay_0 : decode cX9_oneWay 0 = .ok (.iload_n 1, 1) := by decide +kernel
theorem dX9_oneWay_1 : decode cX9_oneWay 1 = .ok (.invokestatic 135, 3) := by decide +kernel
theorem dX9_oneWay_4 : decode cX9_oneWay 4 = .ok (.ifCond .ne 6, 3) := by decide +kernel
theorem dX9_oneWay_7 : decode cX9_oneWay 7 = .ok (.ldc 138, 2) := by decide +kernel
theorem dX9_oneWay_9 : decode cX9_oneWay 9 = .ok (.ireturn, 1) := by decide +kernel
theorem dX9_oneWay_10 : decode cX9_oneWay 10 = .ok (.aload_n 0, 1) := by decide +kernel
theorem dX9_oneWay_11 : decode cX9_oneWay 11 = .ok (.iload_n 1, 1) := by decide +kernel
theorem dX9_oneWay_12 : decode cX9_oneWay 12 = .ok (.invokevirtual 247, 3) := by decide +kernel
theorem dX9_oneWay_15 : decode cX9_oneWay 15 = .ok (.ifCond .ne 6, 3) := by decide +kernel
theorem dX9_oneWay_18 : decode cX9_oneWay 18 = .ok (.ldc 101, 2) := by decide +kernel
theorem dX9_oneWay_20 : decode cX9_oneWay 20 = .ok (.ireturn, 1) := by decide +kernel
theorem dX9_oneWay_21 : decode cX9_oneWay 21 = .ok (.iload_n 2, 1) := by decide +kernel
theorem dX9_oneWay_22 : decode cX9_oneWay 22 = .ok (.i2l, 1) := by decide +kernel
theorem dX9_oneWay_23 : decode cX9_oneWay 23 = .ok (.lconst 0, 1) := by decide +kernel
theorem dX9_oneWay_24 : decode cX9_oneWay 24 = .ok (.aload_n 0, 1) := by decide +kernel
theorem dX9_oneWay_25 : decode cX9_oneWay 25 = .ok (.getfield 38, 3) := by decide +kernel
theorem dX9_oneWay_28 : decode cX9_oneWay 28 = .ok (.iload_n 1, 1) := by decide +kernel
theorem dX9_oneWay_29 : decode cX9_oneWay 29 = .ok (.iaload, 1) := by decide +kernel
theorem dX9_oneWay_30 : decode cX9_oneWay 30 = .ok (.iconst 1, 1) := by decide +kernel
theorem dX9_oneWay_31 : decode cX9_oneWay 31 = .ok (.isub, 1) := by decide +kernel
theorem dX9_oneWay_32 : decode cX9_oneWay 32 = .ok (.i2l, 1) := by decide +kernel
theorem dX9_oneWay_33 : decode cX9_oneWay 33 = .ok (.invokestatic 87, 3) := by decide +kernel
theorem dX9_oneWay_36 : decode cX9_oneWay 36 = .ok (.ifCond .ne 6, 3) := by decide +kernel
theorem dX9_oneWay_39 : decode cX9_oneWay 39 = .ok (.ldc 138, 2) := by decide +kernel
theorem dX9_oneWay_41 : decode cX9_oneWay 41 = .ok (.ireturn, 1) := by decide +kernel
theorem dX9_oneWay_42 : decode cX9_oneWay 42 = .ok (.iload_n 3, 1) := by decide +kernel
theorem dX9_oneWay_43 : decode cX9_oneWay 43 = .ok (.i2l, 1) := by decide +kernel
theorem dX9_oneWay_44 : decode cX9_oneWay 44 = .ok (.lconst 0, 1) := by decide +kernel
theorem dX9_oneWay_45 : decode cX9_oneWay 45 = .ok (.iconst 3, 1) := by decide +kernel
theorem dX9_oneWay_46 : decode cX9_oneWay 46 = .ok (.aload_n 0, 1) := by decide +kernel
theorem dX9_oneWay_47 : decode cX9_oneWay 47 = .ok (.iload_n 1, 1) := by decide +kernel
theorem dX9_oneWay_48 : decode cX9_oneWay 48 = .ok (.invokevirtual 91, 3) := by decide +kernel
theorem dX9_oneWay_51 : decode cX9_oneWay 51 = .ok (.iadd, 1) := by decide +kernel
theorem dX9_oneWay_52 : decode cX9_oneWay 52 = .ok (.i2l, 1) := by decide +kernel
theorem dX9_oneWay_53 : decode cX9_oneWay 53 = .ok (.invokestatic 87, 3) := by decide +kernel
theorem dX9_oneWay_56 : decode cX9_oneWay 56 = .ok (.ifCond .ne 6, 3) := by decide +kernel
theorem dX9_oneWay_59 : decode cX9_oneWay 59 = .ok (.ldc 97, 2) := by decide +kernel
theorem dX9_oneWay_61 : decode cX9_oneWay 61 = .ok (.ireturn, 1) := by decide +kernel
theorem dX9_oneWay_62 : decode cX9_oneWay 62 = .ok (.iload_n 3, 1) := by decide +kernel
theorem dX9_oneWay_63 : decode cX9_oneWay 63 = .ok (.iconst 2, 1) := by decide +kernel
theorem dX9_oneWay_64 : decode cX9_oneWay 64 = .ok (.if_icmp .ge 21, 3) := by decide +kernel
theorem dX9_oneWay_67 : decode cX9_oneWay 67 = .ok (.aload_n 0, 1) := by decide +kernel
theorem dX9_oneWay_68 : decode cX9_oneWay 68 = .ok (.getfield 44, 3) := by decide +kernel
theorem dX9_oneWay_71 : decode cX9_oneWay 71 = .ok (.iconst 2, 1) := by decide +kernel
theorem dX9_oneWay_72 : decode cX9_oneWay 72 = .ok (.aload_n 0, 1) := by decide +kernel
theorem dX9_oneWay_73 : decode cX9_oneWay 73 = .ok (.iload_n 1, 1) := by decide +kernel
theorem dX9_oneWay_74 : decode cX9_oneWay 74 = .ok (.iload_n 2, 1) := by decide +kernel
theorem dX9_oneWay_75 : decode cX9_oneWay 75 = .ok (.invokevirtual 229, 3) := by decide +kernel
theorem dX9_oneWay_78 : decode cX9_oneWay 78 = .ok (.imul, 1) := by decide +kernel
theorem dX9_oneWay_79 : decode cX9_oneWay 79 = .ok (.iload_n 3, 1) := by decide +kernel
theorem dX9_oneWay_80 : decode cX9_oneWay 80 = .ok (.iadd, 1) := by decide +kernel
theorem dX9_oneWay_81 : decode cX9_oneWay 81 = .ok (.iaload, 1) := by decide +kernel
theorem dX9_oneWay_82 : decode cX9_oneWay 82 = .ok (.goto 39, 3) := by decide +kernel
theorem dX9_oneWay_85 : decode cX9_oneWay 85 = .ok (.iload_n 3, 1) := by decide +kernel
theorem dX9_oneWay_86 : decode cX9_oneWay 86 = .ok (.iconst 2, 1) := by decide +kernel
theorem dX9_oneWay_87 : decode cX9_oneWay 87 = .ok (.if_icmp .ne 17, 3) := by decide +kernel
theorem dX9_oneWay_90 : decode cX9_oneWay 90 = .ok (.aload_n 0, 1) := by decide +kernel
theorem dX9_oneWay_91 : decode cX9_oneWay 91 = .ok (.getfield 47, 3) := by decide +kernel
theorem dX9_oneWay_94 : decode cX9_oneWay 94 = .ok (.aload_n 0, 1) := by decide +kernel
theorem dX9_oneWay_95 : decode cX9_oneWay 95 = .ok (.iload_n 1, 1) := by decide +kernel
theorem dX9_oneWay_96 : decode cX9_oneWay 96 = .ok (.iload_n 2, 1) := by decide +kernel
theorem dX9_oneWay_97 : decode cX9_oneWay 97 = .ok (.invokevirtual 229, 3) := by decide +kernel
theorem dX9_oneWay_100 : decode cX9_oneWay 100 = .ok (.iaload, 1) := by decide +kernel
theorem dX9_oneWay_101 : decode cX9_oneWay 101 = .ok (.goto 20, 3) := by decide +kernel
theorem dX9_oneWay_104 : decode cX9_oneWay 104 = .ok (.aload_n 0, 1) := by decide +kernel
theorem dX9_oneWay_105 : decode cX9_oneWay 105 = .ok (.getfield 41, 3) := by decide +kernel
theorem dX9_oneWay_108 : decode cX9_oneWay 108 = .ok (.iconst 5, 1) := by decide +kernel
theorem dX9_oneWay_109 : decode cX9_oneWay 109 = .ok (.aload_n 0, 1) := by decide +kernel
theorem dX9_oneWay_110 : decode cX9_oneWay 110 = .ok (.iload_n 1, 1) := by decide +kernel
theorem dX9_oneWay_111 : decode cX9_oneWay 111 = .ok (.iload_n 2, 1) := by decide +kernel
theorem dX9_oneWay_112 : decode cX9_oneWay 112 = .ok (.invokevirtual 229, 3) := by decide +kernel
theorem dX9_oneWay_115 : decode cX9_oneWay 115 = .ok (.imul, 1) := by decide +kernel
theorem dX9_oneWay_116 : decode cX9_oneWay 116 = .ok (.iload_n 3, 1) := by decide +kernel
theorem dX9_oneWay_117 : decode cX9_oneWay 117 = .ok (.iadd, 1) := by decide +kernel
theorem dX9_oneWay_118 : decode cX9_oneWay 118 = .ok (.iconst 3, 1) := by decide +kernel
theorem dX9_oneWay_119 : decode cX9_oneWay 119 = .ok (.isub, 1) := by decide +kernel
theorem dX9_oneWay_120 : decode cX9_oneWay 120 = .ok (.iaload, 1) := by decide +kernel
theorem dX9_oneWay_121 : decode cX9_oneWay 121 = .ok (.ireturn, 1) := by decide +kernel
set_option maxRecDepth 20000 in
theorem ggX9_taken_X9_isMachine : GoodIn wsX9_taken wsX9_isMachine := goodIn_r _ [13, 14, 15, 12, 16] (by decide +kernel) (by decide +kernel)
set_option maxRecDepth 20000 in
theorem gX9_taken_X9_isMachine : GoodIn wsX9_taken (va_wsS RX9 135 yX9_isMachine wsX9_isMachine) := goodIn_app (goodIn_of _ (by decide +kernel)) ggX9_taken_X9_isMachine
set_option maxRecDepth 20000 in
theorem ggX9_taken_X9_in : GoodIn wsX9_taken wsX9_in := goodIn_r _ [16] (by decide +kernel) (by decide +kernel)
set_option maxRecDepth 20000 in
theorem gX9_taken_X9_in : GoodIn wsX9_taken (va_wsS RX9 87 yX9_in wsX9_in) := goodIn_app (goodIn_of _ (by decide +kernel)) ggX9_taken_X9_in
set_option maxRecDepth 20000 in
theorem ggX9_taken_X9_lays : GoodIn wsX9_taken wsX9_lays := goodIn_r _ [20, 5, 21, 22, 8, 9, 23, 24, 25, 12, 26, 27, 28, 29, 30, 31, 32, 33, 34, 35, 36, 37, 38, 39, 40, 41, 42, 43, 44, 14, 15, 16, 45, 46, 47, 48, 49, 50, 51, 52, 53, 54, 55, 56, 57, 58, 59, 60, 61, 62, 63, 64, 65, 66, 67, 68, 69, 70, 71, 72, 73, 74, 75, 76, 77, 78, 79, 80, 81, 82, 83, 84, 85, 86, 87, 88, 89, 90, 91, 92] (by decide +kernel) (by decide +kernel)
set_option maxRecDepth 20000 in
theorem gX9_taken_X9_lays : GoodIn wsX9_taken (wsV RX9 247 RX9 yX9_lays wsX9_lays) := goodIn_app (goodIn_of _ (by decide +kernel)) ggX9_taken_X9_lays
set_option maxRecDepth 20000 in
theorem ggX9_taken_X9_at : GoodIn wsX9_taken wsX9_at := goodIn_r _ [52] (by decide +kernel) (by decide +kernel)
set_option maxRecDepth 20000 in
theorem gX9_taken_X9_at : GoodIn wsX9_taken (wsV RX9 229 RX9 yX9_at wsX9_at) := goodIn_app (goodIn_of _ (by decide +kernel)) ggX9_taken_X9_at
theorem dX9_taken_0 : decode cX9_taken 0 = .ok (.iload_n 1, 1) := by decide +kernel
theorem dX9_taken_1 : decode cX9_taken 1 = .ok (.invokestatic 135, 3) := by decide +kernel
theorem dX9_taken_4 : decode cX9_taken 4 = .ok (.ifCond .ne 6, 3) := by decide +kernel
theorem dX9_taken_7 : decode cX9_taken 7 = .ok (.ldc 138, 2) := by decide +kernel
theorem dX9_taken_9 : decode cX9_taken 9 = .ok (.ireturn, 1) := by decide +kernel
theorem dX9_taken_10 : decode cX9_taken 10 = .ok (.iload_n 2, 1) := by decide +kernel
theorem dX9_taken_11 : decode cX9_taken 11 = .ok (.i2l, 1) := by decide +kernel
theorem dX9_taken_12 : decode cX9_taken 12 = .ok (.lconst 0, 1) := by decide +kernel
theorem dX9_taken_13 : decode cX9_taken 13 = .ok (.ldc2_w 261, 3) := by decide +kernel
theorem dX9_taken_16 : decode cX9_taken 16 = .ok (.invokestatic 87, 3) := by decide +kernel
theorem dX9_taken_19 : decode cX9_taken 19 = .ok (.ifCond .ne 6, 3) := by decide +kernel
theorem dX9_taken_22 : decode cX9_taken 22 = .ok (.ldc 97, 2) := by decide +kernel
theorem dX9_taken_24 : decode cX9_taken 24 = .ok (.ireturn, 1) := by decide +kernel
theorem dX9_taken_25 : decode cX9_taken 25 = .ok (.aload_n 0, 1) := by decide +kernel
theorem dX9_taken_26 : decode cX9_taken 26 = .ok (.iload_n 1, 1) := by decide +kernel
theorem dX9_taken_27 : decode cX9_taken 27 = .ok (.invokevirtual 247, 3) := by decide +kernel
theorem dX9_taken_30 : decode cX9_taken 30 = .ok (.ifCond .ne 6, 3) := by decide +kernel
theorem dX9_taken_33 : decode cX9_taken 33 = .ok (.ldc 101, 2) := by decide +kernel
theorem dX9_taken_35 : decode cX9_taken 35 = .ok (.ireturn, 1) := by decide +kernel
theorem dX9_taken_36 : decode cX9_taken 36 = .ok (.iconst 0, 1) := by decide +kernel
theorem dX9_taken_37 : decode cX9_taken 37 = .ok (.istore_n 3, 1) := by decide +kernel
theorem dX9_taken_38 : decode cX9_taken 38 = .ok (.iload_n 3, 1) := by decide +kernel
theorem dX9_taken_39 : decode cX9_taken 39 = .ok (.aload_n 0, 1) := by decide +kernel
theorem dX9_taken_40 : decode cX9_taken 40 = .ok (.getfield 38, 3) := by decide +kernel
theorem dX9_taken_43 : decode cX9_taken 43 = .ok (.iload_n 1, 1) := by decide +kernel
theorem dX9_taken_44 : decode cX9_taken 44 = .ok (.iaload, 1) := by decide +kernel
theorem dX9_taken_45 : decode cX9_taken 45 = .ok (.if_icmp .ge 24, 3) := by decide +kernel
theorem dX9_taken_48 : decode cX9_taken 48 = .ok (.aload_n 0, 1) := by decide +kernel
theorem dX9_taken_49 : decode cX9_taken 49 = .ok (.getfield 62, 3) := by decide +kernel
theorem dX9_taken_52 : decode cX9_taken 52 = .ok (.iload_n 3, 1) := by decide +kernel
theorem dX9_taken_53 : decode cX9_taken 53 = .ok (.iload_n 3, 1) := by decide +kernel
theorem dX9_taken_54 : decode cX9_taken 54 = .ok (.ifCond .ne 7, 3) := by decide +kernel
theorem dX9_taken_57 : decode cX9_taken 57 = .ok (.iconst 1, 1) := by decide +kernel
theorem dX9_taken_58 : decode cX9_taken 58 = .ok (.goto 4, 3) := by decide +kernel
theorem dX9_taken_61 : decode cX9_taken 61 = .ok (.iconst 0, 1) := by decide +kernel
theorem dX9_taken_62 : decode cX9_taken 62 = .ok (.iastore, 1) := by decide +kernel
theorem dX9_taken_63 : decode cX9_taken 63 = .ok (.iinc 3 1, 3) := by decide +kernel
theorem dX9_taken_66 : decode cX9_taken 66 = .ok (.goto (-28), 3) := by decide +kernel
theorem dX9_taken_69 : decode cX9_taken 69 = .ok (.iconst 0, 1) := by decide +kernel
theorem dX9_taken_70 : decode cX9_taken 70 = .ok (.istore_n 3, 1) := by decide +kernel
theorem dX9_taken_71 : decode cX9_taken 71 = .ok (.iload_n 3, 1) := by decide +kernel
theorem dX9_taken_72 : decode cX9_taken 72 = .ok (.iload_n 2, 1) := by decide +kernel
theorem dX9_taken_73 : decode cX9_taken 73 = .ok (.if_icmp .ge 131, 3) := by decide +kernel
theorem dX9_taken_76 : decode cX9_taken 76 = .ok (.iconst 0, 1) := by decide +kernel
theorem dX9_taken_77 : decode cX9_taken 77 = .ok (.istore 4, 2) := by decide +kernel
theorem dX9_taken_79 : decode cX9_taken 79 = .ok (.iload 4, 2) := by decide +kernel
theorem dX9_taken_81 : decode cX9_taken 81 = .ok (.aload_n 0, 1) := by decide +kernel
theorem dX9_taken_82 : decode cX9_taken 82 = .ok (.getfield 38, 3) := by decide +kernel
theorem dX9_taken_85 : decode cX9_taken 85 = .ok (.iload_n 1, 1) := by decide +kernel
theorem dX9_taken_86 : decode cX9_taken 86 = .ok (.iaload, 1) := by decide +kernel
theorem dX9_taken_87 : decode cX9_taken 87 = .ok (.if_icmp .ge 17, 3) := by decide +kernel
theorem dX9_taken_90 : decode cX9_taken 90 = .ok (.aload_n 0, 1) := by decide +kernel
theorem dX9_taken_91 : decode cX9_taken 91 = .ok (.getfield 65, 3) := by decide +kernel
theorem dX9_taken_94 : decode cX9_taken 94 = .ok (.iload 4, 2) := by decide +kernel
theorem dX9_taken_96 : decode cX9_taken 96 = .ok (.iconst 0, 1) := by decide +kernel
theorem dX9_taken_97 : decode cX9_taken 97 = .ok (.iastore, 1) := by decide +kernel
theorem dX9_taken_98 : decode cX9_taken 98 = .ok (.iinc 4 1, 3) := by decide +kernel
theorem dX9_taken_101 : decode cX9_taken 101 = .ok (.goto (-22), 3) := by decide +kernel
theorem dX9_taken_104 : decode cX9_taken 104 = .ok (.iconst 0, 1) := by decide +kernel
theorem dX9_taken_105 : decode cX9_taken 105 = .ok (.istore 4, 2) := by decide +kernel
theorem dX9_taken_107 : decode cX9_taken 107 = .ok (.iload 4, 2) := by decide +kernel
theorem dX9_taken_109 : decode cX9_taken 109 = .ok (.iconst 2, 1) := by decide +kernel
theorem dX9_taken_110 : decode cX9_taken 110 = .ok (.aload_n 0, 1) := by decide +kernel
theorem dX9_taken_111 : decode cX9_taken 111 = .ok (.getfield 38, 3) := by decide +kernel
theorem dX9_taken_114 : decode cX9_taken 114 = .ok (.iload_n 1, 1) := by decide +kernel
theorem dX9_taken_115 : decode cX9_taken 115 = .ok (.iaload, 1) := by decide +kernel
theorem dX9_taken_116 : decode cX9_taken 116 = .ok (.imul, 1) := by decide +kernel
theorem dX9_taken_117 : decode cX9_taken 117 = .ok (.if_icmp .ge 47, 3) := by decide +kernel
theorem dX9_taken_120 : decode cX9_taken 120 = .ok (.aload_n 0, 1) := by decide +kernel
theorem dX9_taken_121 : decode cX9_taken 121 = .ok (.getfield 65, 3) := by decide +kernel
theorem dX9_taken_124 : decode cX9_taken 124 = .ok (.aload_n 0, 1) := by decide +kernel
theorem dX9_taken_125 : decode cX9_taken 125 = .ok (.getfield 44, 3) := by decide +kernel
theorem dX9_taken_128 : decode cX9_taken 128 = .ok (.iconst 2, 1) := by decide +kernel
theorem dX9_taken_129 : decode cX9_taken 129 = .ok (.aload_n 0, 1) := by decide +kernel
theorem dX9_taken_130 : decode cX9_taken 130 = .ok (.iload_n 1, 1) := by decide +kernel
theorem dX9_taken_131 : decode cX9_taken 131 = .ok (.iload 4, 2) := by decide +kernel
theorem dX9_taken_133 : decode cX9_taken 133 = .ok (.iconst 2, 1) := by decide +kernel
theorem dX9_taken_134 : decode cX9_taken 134 = .ok (.idiv, 1) := by decide +kernel
theorem dX9_taken_135 : decode cX9_taken 135 = .ok (.invokevirtual 229, 3) := by decide +kernel
theorem dX9_taken_138 : decode cX9_taken 138 = .ok (.imul, 1) := by decide +kernel
theorem dX9_taken_139 : decode cX9_taken 139 = .ok (.iload 4, 2) := by decide +kernel
theorem dX9_taken_141 : decode cX9_taken 141 = .ok (.iconst 2, 1) := by decide +kernel
theorem dX9_taken_142 : decode cX9_taken 142 = .ok (.irem, 1) := by decide +kernel
theorem dX9_taken_143 : decode cX9_taken 143 = .ok (.iadd, 1) := by decide +kernel
theorem dX9_taken_144 : decode cX9_taken 144 = .ok (.iaload, 1) := by decide +kernel
theorem dX9_taken_145 : decode cX9_taken 145 = .ok (.dup2, 1) := by decide +kernel
theorem dX9_taken_146 : decode cX9_taken 146 = .ok (.iaload, 1) := by decide +kernel
theorem dX9_taken_147 : decode cX9_taken 147 = .ok (.aload_n 0, 1) := by decide +kernel
theorem dX9_taken_148 : decode cX9_taken 148 = .ok (.getfield 62, 3) := by decide +kernel
theorem dX9_taken_151 : decode cX9_taken 151 = .ok (.iload 4, 2) := by decide +kernel
theorem dX9_taken_153 : decode cX9_taken 153 = .ok (.iconst 2, 1) := by decide +kernel
theorem dX9_taken_154 : decode cX9_taken 154 = .ok (.idiv, 1) := by decide +kernel
theorem dX9_taken_155 : decode cX9_taken 155 = .ok (.iaload, 1) := by decide +kernel
theorem dX9_taken_156 : decode cX9_taken 156 = .ok (.iadd, 1) := by decide +kernel
theorem dX9_taken_157 : decode cX9_taken 157 = .ok (.iastore, 1) := by decide +kernel
theorem dX9_taken_158 : decode cX9_taken 158 = .ok (.iinc 4 1, 3) := by decide +kernel
theorem dX9_taken_161 : decode cX9_taken 161 = .ok (.goto (-54), 3) := by decide +kernel
theorem dX9_taken_164 : decode cX9_taken 164 = .ok (.iconst 0, 1) := by decide +kernel
theorem dX9_taken_165 : decode cX9_taken 165 = .ok (.istore 4, 2) := by decide +kernel
theorem dX9_taken_167 : decode cX9_taken 167 = .ok (.iload 4, 2) := by decide +kernel
theorem dX9_taken_169 : decode cX9_taken 169 = .ok (.aload_n 0, 1) := by decide +kernel
theorem dX9_taken_170 : decode cX9_taken 170 = .ok (.getfield 38, 3) := by decide +kernel
theorem dX9_taken_173 : decode cX9_taken 173 = .ok (.iload_n 1, 1) := by decide +kernel
theorem dX9_taken_174 : decode cX9_taken 174 = .ok (.iaload, 1) := by decide +kernel
theorem dX9_taken_175 : decode cX9_taken 175 = .ok (.if_icmp .ge 23, 3) := by decide +kernel
theorem dX9_taken_178 : decode cX9_taken 178 = .ok (.aload_n 0, 1) := by decide +kernel
theorem dX9_taken_179 : decode cX9_taken 179 = .ok (.getfield 62, 3) := by decide +kernel
theorem dX9_taken_182 : decode cX9_taken 182 = .ok (.iload 4, 2) := by decide +kernel
theorem dX9_taken_184 : decode cX9_taken 184 = .ok (.aload_n 0, 1) := by decide +kernel
theorem dX9_taken_185 : decode cX9_taken 185 = .ok (.getfield 65, 3) := by decide +kernel
theorem dX9_taken_188 : decode cX9_taken 188 = .ok (.iload 4, 2) := by decide +kernel
theorem dX9_taken_190 : decode cX9_taken 190 = .ok (.iaload, 1) := by decide +kernel
theorem dX9_taken_191 : decode cX9_taken 191 = .ok (.iastore, 1) := by decide +kernel
theorem dX9_taken_192 : decode cX9_taken 192 = .ok (.iinc 4 1, 3) := by decide +kernel
theorem dX9_taken_195 : decode cX9_taken 195 = .ok (.goto (-28), 3) := by decide +kernel
theorem dX9_taken_198 : decode cX9_taken 198 = .ok (.iinc 3 1, 3) := by decide +kernel
theorem dX9_taken_201 : decode cX9_taken 201 = .ok (.goto (-130), 3) := by decide +kernel
theorem dX9_taken_204 : decode cX9_taken 204 = .ok (.iconst 0, 1) := by decide +kernel
theorem dX9_taken_205 : decode cX9_taken 205 = .ok (.istore_n 3, 1) := by decide +kernel
theorem dX9_taken_206 : decode cX9_taken 206 = .ok (.iconst 0, 1) := by decide +kernel
theorem dX9_taken_207 : decode cX9_taken 207 = .ok (.istore 4, 2) := by decide +kernel
theorem dX9_taken_209 : decode cX9_taken 209 = .ok (.iload 4, 2) := by decide +kernel
theorem dX9_taken_211 : decode cX9_taken 211 = .ok (.aload_n 0, 1) := by decide +kernel
theorem dX9_taken_212 : decode cX9_taken 212 = .ok (.getfield 38, 3) := by decide +kernel
theorem dX9_taken_215 : decode cX9_taken 215 = .ok (.iload_n 1, 1) := by decide +kernel
theorem dX9_taken_216 : decode cX9_taken 216 = .ok (.iaload, 1) := by decide +kernel
theorem dX9_taken_217 : decode cX9_taken 217 = .ok (.if_icmp .ge 39, 3) := by decide +kernel
theorem dX9_taken_220 : decode cX9_taken 220 = .ok (.iload_n 3, 1) := by decide +kernel
theorem dX9_taken_221 : decode cX9_taken 221 = .ok (.aload_n 0, 1) := by decide +kernel
theorem dX9_taken_222 : decode cX9_taken 222 = .ok (.getfield 47, 3) := by decide +kernel
theorem dX9_taken_225 : decode cX9_taken 225 = .ok (.aload_n 0, 1) := by decide +kernel
theorem dX9_taken_226 : decode cX9_taken 226 = .ok (.iload_n 1, 1) := by decide +kernel
theorem dX9_taken_227 : decode cX9_taken 227 = .ok (.iload 4, 2) := by decide +kernel
theorem dX9_taken_229 : decode cX9_taken 229 = .ok (.invokevirtual 229, 3) := by decide +kernel
theorem dX9_taken_232 : decode cX9_taken 232 = .ok (.iaload, 1) := by decide +kernel
theorem dX9_taken_233 : decode cX9_taken 233 = .ok (.iconst 1, 1) := by decide +kernel
theorem dX9_taken_234 : decode cX9_taken 234 = .ok (.if_icmp .ne 13, 3) := by decide +kernel
theorem dX9_taken_237 : decode cX9_taken 237 = .ok (.aload_n 0, 1) := by decide +kernel
theorem dX9_taken_238 : decode cX9_taken 238 = .ok (.getfield 62, 3) := by decide +kernel
theorem dX9_taken_241 : decode cX9_taken 241 = .ok (.iload 4, 2) := by decide +kernel
theorem dX9_taken_243 : decode cX9_taken 243 = .ok (.iaload, 1) := by decide +kernel
theorem dX9_taken_244 : decode cX9_taken 244 = .ok (.goto 4, 3) := by decide +kernel
theorem dX9_taken_247 : decode cX9_taken 247 = .ok (.iconst 0, 1) := by decide +kernel
theorem dX9_taken_248 : decode cX9_taken 248 = .ok (.iadd, 1) := by decide +kernel
theorem dX9_taken_249 : decode cX9_taken 249 = .ok (.istore_n 3, 1) := by decide +kernel
theorem dX9_taken_250 : decode cX9_taken 250 = .ok (.iinc 4 1, 3) := by decide +kernel
theorem dX9_taken_253 : decode cX9_taken 253 = .ok (.goto (-44), 3) := by decide +kernel
theorem dX9_taken_256 : decode cX9_taken 256 = .ok (.iload_n 3, 1) := by decide +kernel
theorem dX9_taken_257 : decode cX9_taken 257 = .ok (.ireturn, 1) := by decide +kernel
theorem dX9_isBy_0 : decode cX9_isBy 0 = .ok (.iload_n 0, 1) := by decide +kernel
theorem dX9_isBy_1 : decode cX9_isBy 1 = .ok (.ifCond .ne 18, 3) := by decide +kernel
theorem dX9_isBy_4 : decode cX9_isBy 4 = .ok (.iload_n 1, 1) := by decide +kernel
theorem dX9_isBy_5 : decode cX9_isBy 5 = .ok (.iload_n 2, 1) := by decide +kernel
theorem dX9_isBy_6 : decode cX9_isBy 6 = .ok (.iadd, 1) := by decide +kernel
theorem dX9_isBy_7 : decode cX9_isBy 7 = .ok (.iconst 2, 1) := by decide +kernel
theorem dX9_isBy_8 : decode cX9_isBy 8 = .ok (.if_icmp .ne 7, 3) := by decide +kernel
theorem dX9_isBy_11 : decode cX9_isBy 11 = .ok (.iconst 1, 1) := by decide +kernel
theorem dX9_isBy_12 : decode cX9_isBy 12 = .ok (.goto 58, 3) := by decide +kernel
theorem dX9_isBy_15 : decode cX9_isBy 15 = .ok (.iconst 0, 1) := by decide +kernel
theorem dX9_isBy_16 : decode cX9_isBy 16 = .ok (.goto 54, 3) := by decide +kernel
theorem dX9_isBy_19 : decode cX9_isBy 19 = .ok (.iload_n 0, 1) := by decide +kernel
theorem dX9_isBy_20 : decode cX9_isBy 20 = .ok (.iconst 1, 1) := by decide +kernel
theorem dX9_isBy_21 : decode cX9_isBy 21 = .ok (.if_icmp .ne 17, 3) := by decide +kernel
theorem dX9_isBy_24 : decode cX9_isBy 24 = .ok (.iload_n 1, 1) := by decide +kernel
theorem dX9_isBy_25 : decode cX9_isBy 25 = .ok (.iload_n 2, 1) := by decide +kernel
theorem dX9_isBy_26 : decode cX9_isBy 26 = .ok (.iadd, 1) := by decide +kernel
theorem dX9_isBy_27 : decode cX9_isBy 27 = .ok (.ifCond .le 7, 3) := by decide +kernel
theorem dX9_isBy_30 : decode cX9_isBy 30 = .ok (.iconst 1, 1) := by decide +kernel
theorem dX9_isBy_31 : decode cX9_isBy 31 = .ok (.goto 39, 3) := by decide +kernel
theorem dX9_isBy_34 : decode cX9_isBy 34 = .ok (.iconst 0, 1) := by decide +kernel
theorem dX9_isBy_35 : decode cX9_isBy 35 = .ok (.goto 35, 3) := by decide +kernel
theorem dX9_isBy_38 : decode cX9_isBy 38 = .ok (.iload_n 0, 1) := by decide +kernel
theorem dX9_isBy_39 : decode cX9_isBy 39 = .ok (.iconst 2, 1) := by decide +kernel
theorem dX9_isBy_40 : decode cX9_isBy 40 = .ok (.if_icmp .ne 20, 3) := by decide +kernel
theorem dX9_isBy_43 : decode cX9_isBy 43 = .ok (.iload_n 1, 1) := by decide +kernel
theorem dX9_isBy_44 : decode cX9_isBy 44 = .ok (.iconst 1, 1) := by decide +kernel
theorem dX9_isBy_45 : decode cX9_isBy 45 = .ok (.if_icmp .ne 11, 3) := by decide +kernel
theorem dX9_isBy_48 : decode cX9_isBy 48 = .ok (.iload_n 2, 1) := by decide +kernel
theorem dX9_isBy_49 : decode cX9_isBy 49 = .ok (.ifCond .ne 7, 3) := by decide +kernel
theorem dX9_isBy_52 : decode cX9_isBy 52 = .ok (.iconst 1, 1) := by decide +kernel
theorem dX9_isBy_53 : decode cX9_isBy 53 = .ok (.goto 17, 3) := by decide +kernel
theorem dX9_isBy_56 : decode cX9_isBy 56 = .ok (.iconst 0, 1) := by decide +kernel
theorem dX9_isBy_57 : decode cX9_isBy 57 = .ok (.goto 13, 3) := by decide +kernel
theorem dX9_isBy_60 : decode cX9_isBy 60 = .ok (.iload_n 1, 1) := by decide +kernel
theorem dX9_isBy_61 : decode cX9_isBy 61 = .ok (.iload_n 2, 1) := by decide +kernel
theorem dX9_isBy_62 : decode cX9_isBy 62 = .ok (.if_icmp .eq 7, 3) := by decide +kernel
theorem dX9_isBy_65 : decode cX9_isBy 65 = .ok (.iconst 1, 1) := by decide +kernel
theorem dX9_isBy_66 : decode cX9_isBy 66 = .ok (.goto 4, 3) := by decide +kernel
theorem dX9_isBy_69 : decode cX9_isBy 69 = .ok (.iconst 0, 1) := by decide +kernel
theorem dX9_isBy_70 : decode cX9_isBy 70 = .ok (.ireturn, 1) := by decide +kernel
theorem dX9_wordTo_0 : decode cX9_wordTo 0 = .ok (.iload_n 1, 1) := by decide +kernel
theorem dX9_wordTo_1 : decode cX9_wordTo 1 = .ok (.istore_n 2, 1) := by decide +kernel
theorem dX9_wordTo_2 : decode cX9_wordTo 2 = .ok (.lconst 0, 1) := by decide +kernel
theorem dX9_wordTo_3 : decode cX9_wordTo 3 = .ok (.lstore_n 3, 1) := by decide +kernel
theorem dX9_wordTo_4 : decode cX9_wordTo 4 = .ok (.lconst 1, 1) := by decide +kernel
theorem dX9_wordTo_5 : decode cX9_wordTo 5 = .ok (.lstore 5, 2) := by decide +kernel
theorem dX9_wordTo_7 : decode cX9_wordTo 7 = .ok (.iconst 0, 1) := by decide +kernel
theorem dX9_wordTo_8 : decode cX9_wordTo 8 = .ok (.istore 7, 2) := by decide +kernel
theorem dX9_wordTo_10 : decode cX9_wordTo 10 = .ok (.aload_n 0, 1) := by decide +kernel
theorem dX9_wordTo_11 : decode cX9_wordTo 11 = .ok (.getfield 71, 3) := by decide +kernel
theorem dX9_wordTo_14 : decode cX9_wordTo 14 = .ok (.iload_n 2, 1) := by decide +kernel
theorem dX9_wordTo_15 : decode cX9_wordTo 15 = .ok (.iaload, 1) := by decide +kernel
theorem dX9_wordTo_16 : decode cX9_wordTo 16 = .ok (.iconst (-1), 1) := by decide +kernel
theorem dX9_wordTo_17 : decode cX9_wordTo 17 = .ok (.if_icmp .eq 63, 3) := by decide +kernel
theorem dX9_wordTo_20 : decode cX9_wordTo 20 = .ok (.lload_n 3, 1) := by decide +kernel
theorem dX9_wordTo_21 : decode cX9_wordTo 21 = .ok (.iload 7, 2) := by decide +kernel
theorem dX9_wordTo_23 : decode cX9_wordTo 23 = .ok (.bipush 25, 2) := by decide +kernel
theorem dX9_wordTo_25 : decode cX9_wordTo 25 = .ok (.if_icmp .ge 18, 3) := by decide +kernel
theorem dX9_wordTo_28 : decode cX9_wordTo 28 = .ok (.lload 5, 2) := by decide +kernel
theorem dX9_wordTo_30 : decode cX9_wordTo 30 = .ok (.aload_n 0, 1) := by decide +kernel
theorem dX9_wordTo_31 : decode cX9_wordTo 31 = .ok (.getfield 71, 3) := by decide +kernel
theorem dX9_wordTo_34 : decode cX9_wordTo 34 = .ok (.iload_n 2, 1) := by decide +kernel
theorem dX9_wordTo_35 : decode cX9_wordTo 35 = .ok (.iaload, 1) := by decide +kernel
theorem dX9_wordTo_36 : decode cX9_wordTo 36 = .ok (.iconst 2, 1) := by decide +kernel
theorem dX9_wordTo_37 : decode cX9_wordTo 37 = .ok (.irem, 1) := by decide +kernel
theorem dX9_wordTo_38 : decode cX9_wordTo 38 = .ok (.i2l, 1) := by decide +kernel
theorem dX9_wordTo_39 : decode cX9_wordTo 39 = .ok (.lmul, 1) := by decide +kernel
theorem dX9_wordTo_40 : decode cX9_wordTo 40 = .ok (.goto 4, 3) := by decide +kernel
theorem dX9_wordTo_43 : decode cX9_wordTo 43 = .ok (.lconst 0, 1) := by decide +kernel
theorem dX9_wordTo_44 : decode cX9_wordTo 44 = .ok (.ladd, 1) := by decide +kernel
theorem dX9_wordTo_45 : decode cX9_wordTo 45 = .ok (.lstore_n 3, 1) := by decide +kernel
theorem dX9_wordTo_46 : decode cX9_wordTo 46 = .ok (.lload 5, 2) := by decide +kernel
theorem dX9_wordTo_48 : decode cX9_wordTo 48 = .ok (.iload 7, 2) := by decide +kernel
theorem dX9_wordTo_50 : decode cX9_wordTo 50 = .ok (.bipush 25, 2) := by decide +kernel
theorem dX9_wordTo_52 : decode cX9_wordTo 52 = .ok (.if_icmp .ge 9, 3) := by decide +kernel
theorem dX9_wordTo_55 : decode cX9_wordTo 55 = .ok (.ldc2_w 253, 3) := by decide +kernel
theorem dX9_wordTo_58 : decode cX9_wordTo 58 = .ok (.goto 4, 3) := by decide +kernel
theorem dX9_wordTo_61 : decode cX9_wordTo 61 = .ok (.lconst 1, 1) := by decide +kernel
theorem dX9_wordTo_62 : decode cX9_wordTo 62 = .ok (.lmul, 1) := by decide +kernel
theorem dX9_wordTo_63 : decode cX9_wordTo 63 = .ok (.lstore 5, 2) := by decide +kernel
theorem dX9_wordTo_65 : decode cX9_wordTo 65 = .ok (.iinc 7 1, 3) := by decide +kernel
theorem dX9_wordTo_68 : decode cX9_wordTo 68 = .ok (.aload_n 0, 1) := by decide +kernel
theorem dX9_wordTo_69 : decode cX9_wordTo 69 = .ok (.getfield 71, 3) := by decide +kernel
theorem dX9_wordTo_72 : decode cX9_wordTo 72 = .ok (.iload_n 2, 1) := by decide +kernel
theorem dX9_wordTo_73 : decode cX9_wordTo 73 = .ok (.iaload, 1) := by decide +kernel
theorem dX9_wordTo_74 : decode cX9_wordTo 74 = .ok (.iconst 2, 1) := by decide +kernel
theorem dX9_wordTo_75 : decode cX9_wordTo 75 = .ok (.idiv, 1) := by decide +kernel
theorem dX9_wordTo_76 : decode cX9_wordTo 76 = .ok (.istore_n 2, 1) := by decide +kernel
theorem dX9_wordTo_77 : decode cX9_wordTo 77 = .ok (.goto (-67), 3) := by decide +kernel
theorem dX9_wordTo_80 : decode cX9_wordTo 80 = .ok (.iload 7, 2) := by decide +kernel
theorem dX9_wordTo_82 : decode cX9_wordTo 82 = .ok (.bipush 24, 2) := by decide +kernel
theorem dX9_wordTo_84 : decode cX9_wordTo 84 = .ok (.if_icmp .le 7, 3) := by decide +kernel
theorem dX9_wordTo_87 : decode cX9_wordTo 87 = .ok (.iconst 0, 1) := by decide +kernel
theorem dX9_wordTo_88 : decode cX9_wordTo 88 = .ok (.goto 8, 3) := by decide +kernel
theorem dX9_wordTo_91 : decode cX9_wordTo 91 = .ok (.lload_n 3, 1) := by decide +kernel
theorem dX9_wordTo_92 : decode cX9_wordTo 92 = .ok (.lload 5, 2) := by decide +kernel
theorem dX9_wordTo_94 : decode cX9_wordTo 94 = .ok (.ladd, 1) := by decide +kernel
theorem dX9_wordTo_95 : decode cX9_wordTo 95 = .ok (.l2i, 1) := by decide +kernel
theorem dX9_wordTo_96 : decode cX9_wordTo 96 = .ok (.ireturn, 1) := by decide +kernel
set_option maxRecDepth 20000 in
theorem ggX9_firstBy_X9_at : GoodIn wsX9_firstBy wsX9_at := goodIn_r _ [10] (by decide +kernel) (by decide +kernel)
set_option maxRecDepth 20000 in
theorem gX9_firstBy_X9_at : GoodIn wsX9_firstBy (wsV RX9 229 RX9 yX9_at wsX9_at) := goodIn_app (goodIn_of _ (by decide +kernel)) ggX9_firstBy_X9_at
set_option maxRecDepth 20000 in
theorem ggX9_firstBy_X9_isBy : GoodIn wsX9_firstBy wsX9_isBy := goodIn_r _ [13] (by decide +kernel) (by decide +kernel)
set_option maxRecDepth 20000 in
theorem gX9_firstBy_X9_isBy : GoodIn wsX9_firstBy (va_wsS RX9 263 yX9_isBy wsX9_isBy) := goodIn_app (goodIn_of _ (by decide +kernel)) ggX9_firstBy_X9_isBy
set_option maxRecDepth 20000 in
theorem ggX9_firstBy_X9_wordTo : GoodIn wsX9_firstBy wsX9_wordTo := goodIn_r _ [17, 3, 18, 19, 20, 21, 22, 23, 24, 25, 26, 27, 28, 29, 30, 31, 32, 33, 34, 35, 36, 37, 38, 39, 40, 41, 42, 43, 44, 45, 46, 47, 48, 49, 50, 51, 52, 53, 54] (by decide +kernel) (by decide +kernel)
set_option maxRecDepth 20000 in
theorem gX9_firstBy_X9_wordTo : GoodIn wsX9_firstBy (wsV RX9 266 RX9 yX9_wordTo wsX9_wordTo) := goodIn_app (goodIn_of _ (by decide +kernel)) ggX9_firstBy_X9_wordTo
theorem dX9_firstBy_0 : decode cX9_firstBy 0 = .ok (.iconst 0, 1) := by decide +kernel
theorem dX9_firstBy_1 : decode cX9_firstBy 1 = .ok (.istore_n 2, 1) := by decide +kernel
theorem dX9_firstBy_2 : decode cX9_firstBy 2 = .ok (.iload_n 2, 1) := by decide +kernel
theorem dX9_firstBy_3 : decode cX9_firstBy 3 = .ok (.sipush 22500, 3) := by decide +kernel
theorem dX9_firstBy_6 : decode cX9_firstBy 6 = .ok (.if_icmp .ge 16, 3) := by decide +kernel
theorem dX9_firstBy_9 : decode cX9_firstBy 9 = .ok (.aload_n 0, 1) := by decide +kernel
theorem dX9_firstBy_10 : decode cX9_firstBy 10 = .ok (.getfield 74, 3) := by decide +kernel
theorem dX9_firstBy_13 : decode cX9_firstBy 13 = .ok (.iload_n 2, 1) := by decide +kernel
theorem dX9_firstBy_14 : decode cX9_firstBy 14 = .ok (.iconst 0, 1) := by decide +kernel
theorem dX9_firstBy_15 : decode cX9_firstBy 15 = .ok (.iastore, 1) := by decide +kernel
theorem dX9_firstBy_16 : decode cX9_firstBy 16 = .ok (.iinc 2 1, 3) := by decide +kernel
theorem dX9_firstBy_19 : decode cX9_firstBy 19 = .ok (.goto (-17), 3) := by decide +kernel
theorem dX9_firstBy_22 : decode cX9_firstBy 22 = .ok (.iconst 1, 1) := by decide +kernel
theorem dX9_firstBy_23 : decode cX9_firstBy 23 = .ok (.istore_n 2, 1) := by decide +kernel
theorem dX9_firstBy_24 : decode cX9_firstBy 24 = .ok (.aload_n 0, 1) := by decide +kernel
theorem dX9_firstBy_25 : decode cX9_firstBy 25 = .ok (.getfield 68, 3) := by decide +kernel
theorem dX9_firstBy_28 : decode cX9_firstBy 28 = .ok (.iconst 0, 1) := by decide +kernel
theorem dX9_firstBy_29 : decode cX9_firstBy 29 = .ok (.iconst 0, 1) := by decide +kernel
theorem dX9_firstBy_30 : decode cX9_firstBy 30 = .ok (.iastore, 1) := by decide +kernel
theorem dX9_firstBy_31 : decode cX9_firstBy 31 = .ok (.aload_n 0, 1) := by decide +kernel
theorem dX9_firstBy_32 : decode cX9_firstBy 32 = .ok (.getfield 71, 3) := by decide +kernel
theorem dX9_firstBy_35 : decode cX9_firstBy 35 = .ok (.iconst 0, 1) := by decide +kernel
theorem dX9_firstBy_36 : decode cX9_firstBy 36 = .ok (.iconst (-1), 1) := by decide +kernel
theorem dX9_firstBy_37 : decode cX9_firstBy 37 = .ok (.iastore, 1) := by decide +kernel
theorem dX9_firstBy_38 : decode cX9_firstBy 38 = .ok (.aload_n 0, 1) := by decide +kernel
theorem dX9_firstBy_39 : decode cX9_firstBy 39 = .ok (.getfield 74, 3) := by decide +kernel
theorem dX9_firstBy_42 : decode cX9_firstBy 42 = .ok (.iconst 0, 1) := by decide +kernel
theorem dX9_firstBy_43 : decode cX9_firstBy 43 = .ok (.iconst 1, 1) := by decide +kernel
theorem dX9_firstBy_44 : decode cX9_firstBy 44 = .ok (.iastore, 1) := by decide +kernel
theorem dX9_firstBy_45 : decode cX9_firstBy 45 = .ok (.iconst 0, 1) := by decide +kernel
theorem dX9_firstBy_46 : decode cX9_firstBy 46 = .ok (.istore_n 3, 1) := by decide +kernel
theorem dX9_firstBy_47 : decode cX9_firstBy 47 = .ok (.iload_n 3, 1) := by decide +kernel
theorem dX9_firstBy_48 : decode cX9_firstBy 48 = .ok (.iload_n 2, 1) := by decide +kernel
theorem dX9_firstBy_49 : decode cX9_firstBy 49 = .ok (.if_icmp .ge 167, 3) := by decide +kernel
theorem dX9_firstBy_52 : decode cX9_firstBy 52 = .ok (.aload_n 0, 1) := by decide +kernel
theorem dX9_firstBy_53 : decode cX9_firstBy 53 = .ok (.getfield 68, 3) := by decide +kernel
theorem dX9_firstBy_56 : decode cX9_firstBy 56 = .ok (.iload_n 3, 1) := by decide +kernel
theorem dX9_firstBy_57 : decode cX9_firstBy 57 = .ok (.iaload, 1) := by decide +kernel
theorem dX9_firstBy_58 : decode cX9_firstBy 58 = .ok (.sipush 150, 3) := by decide +kernel
theorem dX9_firstBy_61 : decode cX9_firstBy 61 = .ok (.idiv, 1) := by decide +kernel
theorem dX9_firstBy_62 : decode cX9_firstBy 62 = .ok (.istore 4, 2) := by decide +kernel
theorem dX9_firstBy_64 : decode cX9_firstBy 64 = .ok (.aload_n 0, 1) := by decide +kernel
theorem dX9_firstBy_65 : decode cX9_firstBy 65 = .ok (.getfield 68, 3) := by decide +kernel
theorem dX9_firstBy_68 : decode cX9_firstBy 68 = .ok (.iload_n 3, 1) := by decide +kernel
theorem dX9_firstBy_69 : decode cX9_firstBy 69 = .ok (.iaload, 1) := by decide +kernel
theorem dX9_firstBy_70 : decode cX9_firstBy 70 = .ok (.sipush 150, 3) := by decide +kernel
theorem dX9_firstBy_73 : decode cX9_firstBy 73 = .ok (.irem, 1) := by decide +kernel
theorem dX9_firstBy_74 : decode cX9_firstBy 74 = .ok (.istore 5, 2) := by decide +kernel
theorem dX9_firstBy_76 : decode cX9_firstBy 76 = .ok (.iload_n 1, 1) := by decide +kernel
theorem dX9_firstBy_77 : decode cX9_firstBy 77 = .ok (.aload_n 0, 1) := by decide +kernel
theorem dX9_firstBy_78 : decode cX9_firstBy 78 = .ok (.getfield 47, 3) := by decide +kernel
theorem dX9_firstBy_81 : decode cX9_firstBy 81 = .ok (.aload_n 0, 1) := by decide +kernel
theorem dX9_firstBy_82 : decode cX9_firstBy 82 = .ok (.iconst 0, 1) := by decide +kernel
theorem dX9_firstBy_83 : decode cX9_firstBy 83 = .ok (.iload 4, 2) := by decide +kernel
theorem dX9_firstBy_85 : decode cX9_firstBy 85 = .ok (.invokevirtual 229, 3) := by decide +kernel
theorem dX9_firstBy_88 : decode cX9_firstBy 88 = .ok (.iaload, 1) := by decide +kernel
theorem dX9_firstBy_89 : decode cX9_firstBy 89 = .ok (.aload_n 0, 1) := by decide +kernel
theorem dX9_firstBy_90 : decode cX9_firstBy 90 = .ok (.getfield 47, 3) := by decide +kernel
theorem dX9_firstBy_93 : decode cX9_firstBy 93 = .ok (.aload_n 0, 1) := by decide +kernel
theorem dX9_firstBy_94 : decode cX9_firstBy 94 = .ok (.iconst 1, 1) := by decide +kernel
theorem dX9_firstBy_95 : decode cX9_firstBy 95 = .ok (.iload 5, 2) := by decide +kernel
theorem dX9_firstBy_97 : decode cX9_firstBy 97 = .ok (.invokevirtual 229, 3) := by decide +kernel
theorem dX9_firstBy_100 : decode cX9_firstBy 100 = .ok (.iaload, 1) := by decide +kernel
theorem dX9_firstBy_101 : decode cX9_firstBy 101 = .ok (.invokestatic 263, 3) := by decide +kernel
theorem dX9_firstBy_104 : decode cX9_firstBy 104 = .ok (.ifCond .eq 9, 3) := by decide +kernel
theorem dX9_firstBy_107 : decode cX9_firstBy 107 = .ok (.aload_n 0, 1) := by decide +kernel
theorem dX9_firstBy_108 : decode cX9_firstBy 108 = .ok (.iload_n 3, 1) := by decide +kernel
theorem dX9_firstBy_109 : decode cX9_firstBy 109 = .ok (.invokevirtual 266, 3) := by decide +kernel
theorem dX9_firstBy_112 : decode cX9_firstBy 112 = .ok (.ireturn, 1) := by decide +kernel
theorem dX9_firstBy_113 : decode cX9_firstBy 113 = .ok (.iconst 0, 1) := by decide +kernel
theorem dX9_firstBy_114 : decode cX9_firstBy 114 = .ok (.istore 6, 2) := by decide +kernel
theorem dX9_firstBy_116 : decode cX9_firstBy 116 = .ok (.iload 6, 2) := by decide +kernel
theorem dX9_firstBy_118 : decode cX9_firstBy 118 = .ok (.iconst 2, 1) := by decide +kernel
theorem dX9_firstBy_119 : decode cX9_firstBy 119 = .ok (.if_icmp .ge 91, 3) := by decide +kernel
theorem dX9_firstBy_122 : decode cX9_firstBy 122 = .ok (.sipush 150, 3) := by decide +kernel
theorem dX9_firstBy_125 : decode cX9_firstBy 125 = .ok (.aload_n 0, 1) := by decide +kernel
theorem dX9_firstBy_126 : decode cX9_firstBy 126 = .ok (.getfield 44, 3) := by decide +kernel
theorem dX9_firstBy_129 : decode cX9_firstBy 129 = .ok (.iconst 2, 1) := by decide +kernel
theorem dX9_firstBy_130 : decode cX9_firstBy 130 = .ok (.aload_n 0, 1) := by decide +kernel
theorem dX9_firstBy_131 : decode cX9_firstBy 131 = .ok (.iconst 0, 1) := by decide +kernel
theorem dX9_firstBy_132 : decode cX9_firstBy 132 = .ok (.iload 4, 2) := by decide +kernel
theorem dX9_firstBy_134 : decode cX9_firstBy 134 = .ok (.invokevirtual 229, 3) := by decide +kernel
theorem dX9_firstBy_137 : decode cX9_firstBy 137 = .ok (.imul, 1) := by decide +kernel
theorem dX9_firstBy_138 : decode cX9_firstBy 138 = .ok (.iload 6, 2) := by decide +kernel
theorem dX9_firstBy_140 : decode cX9_firstBy 140 = .ok (.iadd, 1) := by decide +kernel
theorem dX9_firstBy_141 : decode cX9_firstBy 141 = .ok (.iaload, 1) := by decide +kernel
theorem dX9_firstBy_142 : decode cX9_firstBy 142 = .ok (.imul, 1) := by decide +kernel
theorem dX9_firstBy_143 : decode cX9_firstBy 143 = .ok (.aload_n 0, 1) := by decide +kernel
theorem dX9_firstBy_144 : decode cX9_firstBy 144 = .ok (.getfield 44, 3) := by decide +kernel
theorem dX9_firstBy_147 : decode cX9_firstBy 147 = .ok (.iconst 2, 1) := by decide +kernel
theorem dX9_firstBy_148 : decode cX9_firstBy 148 = .ok (.aload_n 0, 1) := by decide +kernel
theorem dX9_firstBy_149 : decode cX9_firstBy 149 = .ok (.iconst 1, 1) := by decide +kernel
theorem dX9_firstBy_150 : decode cX9_firstBy 150 = .ok (.iload 5, 2) := by decide +kernel
theorem dX9_firstBy_152 : decode cX9_firstBy 152 = .ok (.invokevirtual 229, 3) := by decide +kernel
theorem dX9_firstBy_155 : decode cX9_firstBy 155 = .ok (.imul, 1) := by decide +kernel
theorem dX9_firstBy_156 : decode cX9_firstBy 156 = .ok (.iload 6, 2) := by decide +kernel
theorem dX9_firstBy_158 : decode cX9_firstBy 158 = .ok (.iadd, 1) := by decide +kernel
theorem dX9_firstBy_159 : decode cX9_firstBy 159 = .ok (.iaload, 1) := by decide +kernel
theorem dX9_firstBy_160 : decode cX9_firstBy 160 = .ok (.iadd, 1) := by decide +kernel
theorem dX9_firstBy_161 : decode cX9_firstBy 161 = .ok (.istore 7, 2) := by decide +kernel
theorem dX9_firstBy_163 : decode cX9_firstBy 163 = .ok (.aload_n 0, 1) := by decide +kernel
theorem dX9_firstBy_164 : decode cX9_firstBy 164 = .ok (.getfield 74, 3) := by decide +kernel
theorem dX9_firstBy_167 : decode cX9_firstBy 167 = .ok (.iload 7, 2) := by decide +kernel
theorem dX9_firstBy_169 : decode cX9_firstBy 169 = .ok (.iaload, 1) := by decide +kernel
theorem dX9_firstBy_170 : decode cX9_firstBy 170 = .ok (.ifCond .ne 34, 3) := by decide +kernel
theorem dX9_firstBy_173 : decode cX9_firstBy 173 = .ok (.aload_n 0, 1) := by decide +kernel
theorem dX9_firstBy_174 : decode cX9_firstBy 174 = .ok (.getfield 74, 3) := by decide +kernel
theorem dX9_firstBy_177 : decode cX9_firstBy 177 = .ok (.iload 7, 2) := by decide +kernel
theorem dX9_firstBy_179 : decode cX9_firstBy 179 = .ok (.iconst 1, 1) := by decide +kernel
theorem dX9_firstBy_180 : decode cX9_firstBy 180 = .ok (.iastore, 1) := by decide +kernel
theorem dX9_firstBy_181 : decode cX9_firstBy 181 = .ok (.aload_n 0, 1) := by decide +kernel
theorem dX9_firstBy_182 : decode cX9_firstBy 182 = .ok (.getfield 68, 3) := by decide +kernel
theorem dX9_firstBy_185 : decode cX9_firstBy 185 = .ok (.iload_n 2, 1) := by decide +kernel
theorem dX9_firstBy_186 : decode cX9_firstBy 186 = .ok (.iload 7, 2) := by decide +kernel
theorem dX9_firstBy_188 : decode cX9_firstBy 188 = .ok (.iastore, 1) := by decide +kernel
theorem dX9_firstBy_189 : decode cX9_firstBy 189 = .ok (.aload_n 0, 1) := by decide +kernel
theorem dX9_firstBy_190 : decode cX9_firstBy 190 = .ok (.getfield 71, 3) := by decide +kernel
theorem dX9_firstBy_193 : decode cX9_firstBy 193 = .ok (.iload_n 2, 1) := by decide +kernel
theorem dX9_firstBy_194 : decode cX9_firstBy 194 = .ok (.iconst 2, 1) := by decide +kernel
theorem dX9_firstBy_195 : decode cX9_firstBy 195 = .ok (.iload_n 3, 1) := by decide +kernel
theorem dX9_firstBy_196 : decode cX9_firstBy 196 = .ok (.imul, 1) := by decide +kernel
theorem dX9_firstBy_197 : decode cX9_firstBy 197 = .ok (.iload 6, 2) := by decide +kernel
theorem dX9_firstBy_199 : decode cX9_firstBy 199 = .ok (.iadd, 1) := by decide +kernel
theorem dX9_firstBy_200 : decode cX9_firstBy 200 = .ok (.iastore, 1) := by decide +kernel
theorem dX9_firstBy_201 : decode cX9_firstBy 201 = .ok (.iinc 2 1, 3) := by decide +kernel
theorem dX9_firstBy_204 : decode cX9_firstBy 204 = .ok (.iinc 6 1, 3) := by decide +kernel
theorem dX9_firstBy_207 : decode cX9_firstBy 207 = .ok (.goto (-91), 3) := by decide +kernel
theorem dX9_firstBy_210 : decode cX9_firstBy 210 = .ok (.iinc 3 1, 3) := by decide +kernel
theorem dX9_firstBy_213 : decode cX9_firstBy 213 = .ok (.goto (-166), 3) := by decide +kernel
theorem dX9_firstBy_216 : decode cX9_firstBy 216 = .ok (.iconst (-1), 1) := by decide +kernel
theorem dX9_firstBy_217 : decode cX9_firstBy 217 = .ok (.ireturn, 1) := by decide +kernel
set_option maxRecDepth 20000 in
theorem ggX9_first_X9_in : GoodIn wsX9_first wsX9_in := goodIn_r _ [7] (by decide +kernel) (by decide +kernel)
set_option maxRecDepth 20000 in
theorem gX9_first_X9_in : GoodIn wsX9_first (va_wsS RX9 87 yX9_in wsX9_in) := goodIn_app (goodIn_of _ (by decide +kernel)) ggX9_first_X9_in
set_option maxRecDepth 20000 in
theorem ggX9_first_X9_laysBoth : GoodIn wsX9_first wsX9_laysBoth := goodIn_r _ [11, 12, 13, 14, 6, 15, 16, 17, 18, 19, 20, 21, 22, 23, 24, 25, 26, 27, 28, 29, 30, 31, 32, 33, 34, 35, 36, 37, 38, 39, 40, 41, 42, 4, 5, 7, 43, 44, 45, 46, 47, 48, 49, 50, 51, 52, 53, 54, 70, 71, 72, 73, 74, 75, 76, 77, 78, 79, 80, 81, 82, 83, 84, 85, 86, 87, 88, 89, 90, 91, 92, 93, 94, 95, 96, 97, 98, 99, 100, 101, 102, 103, 104, 105] (by decide +kernel) (by decide +kernel)
set_option maxRecDepth 20000 in
theorem gX9_first_X9_laysBoth : GoodIn wsX9_first (wsV RX9 192 RX9 yX9_laysBoth wsX9_laysBoth) := goodIn_app (goodIn_of _ (by decide +kernel)) ggX9_first_X9_laysBoth
set_option maxRecDepth 20000 in
theorem ggX9_first_X9_firstBy : GoodIn wsX9_first wsX9_firstBy := goodIn_r _ [58, 59, 60, 61, 20, 19, 47, 48, 49, 6, 50, 62, 63, 64, 65, 66, 67, 68, 69, 70, 71, 72, 73, 74, 75, 76, 77, 78, 79, 80, 81, 82, 83, 84, 85, 86, 87, 88, 89, 90, 91, 92, 93, 94, 95, 96, 97, 98, 99, 100, 101, 102, 103, 104, 105] (by decide +kernel) (by decide +kernel)
set_option maxRecDepth 20000 in
theorem gX9_first_X9_firstBy : GoodIn wsX9_first (wsV RX9 195 RX9 yX9_firstBy wsX9_firstBy) := goodIn_app (goodIn_of _ (by decide +kernel)) ggX9_first_X9_firstBy
theorem dX9_first_0 : decode cX9_first 0 = .ok (.iload_n 1, 1) := by decide +kernel
theorem dX9_first_1 : decode cX9_first 1 = .ok (.i2l, 1) := by decide +kernel
theorem dX9_first_2 : decode cX9_first 2 = .ok (.lconst 0, 1) := by decide +kernel
theorem dX9_first_3 : decode cX9_first 3 = .ok (.ldc2_w 151, 3) := by decide +kernel
theorem dX9_first_6 : decode cX9_first 6 = .ok (.invokestatic 87, 3) := by decide +kernel
theorem dX9_first_9 : decode cX9_first 9 = .ok (.ifCond .ne 6, 3) := by decide +kernel
theorem dX9_first_12 : decode cX9_first 12 = .ok (.ldc 138, 2) := by decide +kernel
theorem dX9_first_14 : decode cX9_first 14 = .ok (.ireturn, 1) := by decide +kernel
theorem dX9_first_15 : decode cX9_first 15 = .ok (.aload_n 0, 1) := by decide +kernel
theorem dX9_first_16 : decode cX9_first 16 = .ok (.invokevirtual 192, 3) := by decide +kernel
theorem dX9_first_19 : decode cX9_first 19 = .ok (.ifCond .eq 11, 3) := by decide +kernel
theorem dX9_first_22 : decode cX9_first 22 = .ok (.aload_n 0, 1) := by decide +kernel
theorem dX9_first_23 : decode cX9_first 23 = .ok (.iload_n 1, 1) := by decide +kernel
theorem dX9_first_24 : decode cX9_first 24 = .ok (.invokevirtual 195, 3) := by decide +kernel
theorem dX9_first_27 : decode cX9_first 27 = .ok (.goto 5, 3) := by decide +kernel
theorem dX9_first_30 : decode cX9_first 30 = .ok (.ldc 101, 2) := by decide +kernel
theorem dX9_first_32 : decode cX9_first 32 = .ok (.ireturn, 1) := by decide +kernel
set_option maxRecDepth 20000 in
theorem ggX9_turned_X9_isMachine : GoodIn wsX9_turned wsX9_isMachine := goodIn_r _ [11, 12, 13, 10, 14] (by decide +kernel) (by decide +kernel)
set_option maxRecDepth 20000 in
theorem gX9_turned_X9_isMachine : GoodIn wsX9_turned (va_wsS RX9 135 yX9_isMachine wsX9_isMachine) := goodIn_app (goodIn_of _ (by decide +kernel)) ggX9_turned_X9_isMachine
set_option maxRecDepth 20000 in
theorem ggX9_turned_X9_in : GoodIn wsX9_turned wsX9_in := goodIn_r _ [14] (by decide +kernel) (by decide +kernel)
set_option maxRecDepth 20000 in
theorem gX9_turned_X9_in : GoodIn wsX9_turned (va_wsS RX9 87 yX9_in wsX9_in) := goodIn_app (goodIn_of _ (by decide +kernel)) ggX9_turned_X9_in
set_option maxRecDepth 20000 in
theorem ggX9_turned_X9_runs : GoodIn wsX9_turned wsX9_runs := goodIn_r _ [18, 19, 20, 21, 22, 7, 4, 23, 24, 25, 26, 27, 10, 28, 6, 29, 30, 31, 32, 33, 34, 35, 36, 37, 38, 39, 40, 41, 42, 43, 44, 45, 46, 47, 48, 49, 50, 51, 52, 53, 54, 55, 56, 57, 58, 59, 60, 61, 62, 63, 64, 65, 66, 67, 68, 69] (by decide +kernel) (by decide +kernel)
set_option maxRecDepth 20000 in
theorem gX9_turned_X9_runs : GoodIn wsX9_turned (wsV RX9 215 RX9 yX9_runs wsX9_runs) := goodIn_app (goodIn_of _ (by decide +kernel)) ggX9_turned_X9_runs
theorem dX9_turned_0 : decode cX9_turned 0 = .ok (.iload_n 1, 1) := by decide +kernel
theorem dX9_turned_1 : decode cX9_turned 1 = .ok (.invokestatic 135, 3) := by decide +kernel
theorem dX9_turned_4 : decode cX9_turned 4 = .ok (.ifCond .ne 6, 3) := by decide +kernel
theorem dX9_turned_7 : decode cX9_turned 7 = .ok (.ldc 138, 2) := by decide +kernel
theorem dX9_turned_9 : decode cX9_turned 9 = .ok (.ireturn, 1) := by decide +kernel
theorem dX9_turned_10 : decode cX9_turned 10 = .ok (.iload_n 2, 1) := by decide +kernel
theorem dX9_turned_11 : decode cX9_turned 11 = .ok (.i2l, 1) := by decide +kernel
theorem dX9_turned_12 : decode cX9_turned 12 = .ok (.lconst 0, 1) := by decide +kernel
theorem dX9_turned_13 : decode cX9_turned 13 = .ok (.ldc2_w 269, 3) := by decide +kernel
theorem dX9_turned_16 : decode cX9_turned 16 = .ok (.invokestatic 87, 3) := by decide +kernel
theorem dX9_turned_19 : decode cX9_turned 19 = .ok (.ifCond .ne 6, 3) := by decide +kernel
theorem dX9_turned_22 : decode cX9_turned 22 = .ok (.ldc 97, 2) := by decide +kernel
theorem dX9_turned_24 : decode cX9_turned 24 = .ok (.ireturn, 1) := by decide +kernel
theorem dX9_turned_25 : decode cX9_turned 25 = .ok (.aload_n 0, 1) := by decide +kernel
theorem dX9_turned_26 : decode cX9_turned 26 = .ok (.getfield 184, 3) := by decide +kernel
theorem dX9_turned_29 : decode cX9_turned 29 = .ok (.istore_n 3, 1) := by decide +kernel
theorem dX9_turned_30 : decode cX9_turned 30 = .ok (.iconst 0, 1) := by decide +kernel
theorem dX9_turned_31 : decode cX9_turned 31 = .ok (.istore 4, 2) := by decide +kernel
theorem dX9_turned_33 : decode cX9_turned 33 = .ok (.iload 4, 2) := by decide +kernel
theorem dX9_turned_35 : decode cX9_turned 35 = .ok (.iload_n 3, 1) := by decide +kernel
theorem dX9_turned_36 : decode cX9_turned 36 = .ok (.if_icmp .ge 23, 3) := by decide +kernel
theorem dX9_turned_39 : decode cX9_turned 39 = .ok (.aload_n 0, 1) := by decide +kernel
theorem dX9_turned_40 : decode cX9_turned 40 = .ok (.getfield 77, 3) := by decide +kernel
theorem dX9_turned_43 : decode cX9_turned 43 = .ok (.iload 4, 2) := by decide +kernel
theorem dX9_turned_45 : decode cX9_turned 45 = .ok (.aload_n 0, 1) := by decide +kernel
theorem dX9_turned_46 : decode cX9_turned 46 = .ok (.getfield 26, 3) := by decide +kernel
theorem dX9_turned_49 : decode cX9_turned 49 = .ok (.iload 4, 2) := by decide +kernel
theorem dX9_turned_51 : decode cX9_turned 51 = .ok (.iaload, 1) := by decide +kernel
theorem dX9_turned_52 : decode cX9_turned 52 = .ok (.iastore, 1) := by decide +kernel
theorem dX9_turned_53 : decode cX9_turned 53 = .ok (.iinc 4 1, 3) := by decide +kernel
theorem dX9_turned_56 : decode cX9_turned 56 = .ok (.goto (-23), 3) := by decide +kernel
theorem dX9_turned_59 : decode cX9_turned 59 = .ok (.aload_n 0, 1) := by decide +kernel
theorem dX9_turned_60 : decode cX9_turned 60 = .ok (.iload_n 2, 1) := by decide +kernel
theorem dX9_turned_61 : decode cX9_turned 61 = .ok (.putfield 184, 3) := by decide +kernel
theorem dX9_turned_64 : decode cX9_turned 64 = .ok (.iconst 0, 1) := by decide +kernel
theorem dX9_turned_65 : decode cX9_turned 65 = .ok (.istore 4, 2) := by decide +kernel
theorem dX9_turned_67 : decode cX9_turned 67 = .ok (.iconst 0, 1) := by decide +kernel
theorem dX9_turned_68 : decode cX9_turned 68 = .ok (.istore 5, 2) := by decide +kernel
theorem dX9_turned_70 : decode cX9_turned 70 = .ok (.iload 5, 2) := by decide +kernel
theorem dX9_turned_72 : decode cX9_turned 72 = .ok (.iconst 1, 1) := by decide +kernel
theorem dX9_turned_73 : decode cX9_turned 73 = .ok (.iload_n 2, 1) := by decide +kernel
theorem dX9_turned_74 : decode cX9_turned 74 = .ok (.ishl, 1) := by decide +kernel
theorem dX9_turned_75 : decode cX9_turned 75 = .ok (.if_icmp .ge 117, 3) := by decide +kernel
theorem dX9_turned_78 : decode cX9_turned 78 = .ok (.iconst 0, 1) := by decide +kernel
theorem dX9_turned_79 : decode cX9_turned 79 = .ok (.istore 6, 2) := by decide +kernel
theorem dX9_turned_81 : decode cX9_turned 81 = .ok (.iload 6, 2) := by decide +kernel
theorem dX9_turned_83 : decode cX9_turned 83 = .ok (.iload_n 2, 1) := by decide +kernel
theorem dX9_turned_84 : decode cX9_turned 84 = .ok (.if_icmp .ge 23, 3) := by decide +kernel
theorem dX9_turned_87 : decode cX9_turned 87 = .ok (.aload_n 0, 1) := by decide +kernel
theorem dX9_turned_88 : decode cX9_turned 88 = .ok (.getfield 26, 3) := by decide +kernel
theorem dX9_turned_91 : decode cX9_turned 91 = .ok (.iload 6, 2) := by decide +kernel
theorem dX9_turned_93 : decode cX9_turned 93 = .ok (.iload 5, 2) := by decide +kernel
theorem dX9_turned_95 : decode cX9_turned 95 = .ok (.iload 6, 2) := by decide +kernel
theorem dX9_turned_97 : decode cX9_turned 97 = .ok (.ishr, 1) := by decide +kernel
theorem dX9_turned_98 : decode cX9_turned 98 = .ok (.iconst 1, 1) := by decide +kernel
theorem dX9_turned_99 : decode cX9_turned 99 = .ok (.iand, 1) := by decide +kernel
theorem dX9_turned_100 : decode cX9_turned 100 = .ok (.iastore, 1) := by decide +kernel
theorem dX9_turned_101 : decode cX9_turned 101 = .ok (.iinc 6 1, 3) := by decide +kernel
theorem dX9_turned_104 : decode cX9_turned 104 = .ok (.goto (-23), 3) := by decide +kernel
theorem dX9_turned_107 : decode cX9_turned 107 = .ok (.aload_n 0, 1) := by decide +kernel
theorem dX9_turned_108 : decode cX9_turned 108 = .ok (.iload_n 1, 1) := by decide +kernel
theorem dX9_turned_109 : decode cX9_turned 109 = .ok (.invokevirtual 215, 3) := by decide +kernel
theorem dX9_turned_112 : decode cX9_turned 112 = .ok (.aload_n 0, 1) := by decide +kernel
theorem dX9_turned_113 : decode cX9_turned 113 = .ok (.getfield 207, 3) := by decide +kernel
theorem dX9_turned_116 : decode cX9_turned 116 = .ok (.ifCond .ne 7, 3) := by decide +kernel
theorem dX9_turned_119 : decode cX9_turned 119 = .ok (.iconst 1, 1) := by decide +kernel
theorem dX9_turned_120 : decode cX9_turned 120 = .ok (.goto 4, 3) := by decide +kernel
theorem dX9_turned_123 : decode cX9_turned 123 = .ok (.iconst 0, 1) := by decide +kernel
theorem dX9_turned_124 : decode cX9_turned 124 = .ok (.istore 6, 2) := by decide +kernel
theorem dX9_turned_126 : decode cX9_turned 126 = .ok (.iconst 0, 1) := by decide +kernel
theorem dX9_turned_127 : decode cX9_turned 127 = .ok (.istore 7, 2) := by decide +kernel
theorem dX9_turned_129 : decode cX9_turned 129 = .ok (.iload 7, 2) := by decide +kernel
theorem dX9_turned_131 : decode cX9_turned 131 = .ok (.iload_n 2, 1) := by decide +kernel
theorem dX9_turned_132 : decode cX9_turned 132 = .ok (.if_icmp .ge 27, 3) := by decide +kernel
theorem dX9_turned_135 : decode cX9_turned 135 = .ok (.aload_n 0, 1) := by decide +kernel
theorem dX9_turned_136 : decode cX9_turned 136 = .ok (.getfield 26, 3) := by decide +kernel
theorem dX9_turned_139 : decode cX9_turned 139 = .ok (.iload 7, 2) := by decide +kernel
theorem dX9_turned_141 : decode cX9_turned 141 = .ok (.iload 5, 2) := by decide +kernel
theorem dX9_turned_143 : decode cX9_turned 143 = .ok (.iload_n 2, 1) := by decide +kernel
theorem dX9_turned_144 : decode cX9_turned 144 = .ok (.iconst 1, 1) := by decide +kernel
theorem dX9_turned_145 : decode cX9_turned 145 = .ok (.isub, 1) := by decide +kernel
theorem dX9_turned_146 : decode cX9_turned 146 = .ok (.iload 7, 2) := by decide +kernel
theorem dX9_turned_148 : decode cX9_turned 148 = .ok (.isub, 1) := by decide +kernel
theorem dX9_turned_149 : decode cX9_turned 149 = .ok (.ishr, 1) := by decide +kernel
theorem dX9_turned_150 : decode cX9_turned 150 = .ok (.iconst 1, 1) := by decide +kernel
theorem dX9_turned_151 : decode cX9_turned 151 = .ok (.iand, 1) := by decide +kernel
theorem dX9_turned_152 : decode cX9_turned 152 = .ok (.iastore, 1) := by decide +kernel
theorem dX9_turned_153 : decode cX9_turned 153 = .ok (.iinc 7 1, 3) := by decide +kernel
theorem dX9_turned_156 : decode cX9_turned 156 = .ok (.goto (-27), 3) := by decide +kernel
theorem dX9_turned_159 : decode cX9_turned 159 = .ok (.aload_n 0, 1) := by decide +kernel
theorem dX9_turned_160 : decode cX9_turned 160 = .ok (.iload_n 1, 1) := by decide +kernel
theorem dX9_turned_161 : decode cX9_turned 161 = .ok (.invokevirtual 215, 3) := by decide +kernel
theorem dX9_turned_164 : decode cX9_turned 164 = .ok (.iload 4, 2) := by decide +kernel
theorem dX9_turned_166 : decode cX9_turned 166 = .ok (.iload 6, 2) := by decide +kernel
theorem dX9_turned_168 : decode cX9_turned 168 = .ok (.ifCond .eq 14, 3) := by decide +kernel
theorem dX9_turned_171 : decode cX9_turned 171 = .ok (.aload_n 0, 1) := by decide +kernel
theorem dX9_turned_172 : decode cX9_turned 172 = .ok (.getfield 207, 3) := by decide +kernel
theorem dX9_turned_175 : decode cX9_turned 175 = .ok (.ifCond .ne 7, 3) := by decide +kernel
theorem dX9_turned_178 : decode cX9_turned 178 = .ok (.iconst 1, 1) := by decide +kernel
theorem dX9_turned_179 : decode cX9_turned 179 = .ok (.goto 4, 3) := by decide +kernel
theorem dX9_turned_182 : decode cX9_turned 182 = .ok (.iconst 0, 1) := by decide +kernel
theorem dX9_turned_183 : decode cX9_turned 183 = .ok (.iadd, 1) := by decide +kernel
theorem dX9_turned_184 : decode cX9_turned 184 = .ok (.istore 4, 2) := by decide +kernel
theorem dX9_turned_186 : decode cX9_turned 186 = .ok (.iinc 5 1, 3) := by decide +kernel
theorem dX9_turned_189 : decode cX9_turned 189 = .ok (.goto (-119), 3) := by decide +kernel
theorem dX9_turned_192 : decode cX9_turned 192 = .ok (.aload_n 0, 1) := by decide +kernel
theorem dX9_turned_193 : decode cX9_turned 193 = .ok (.iload_n 3, 1) := by decide +kernel
theorem dX9_turned_194 : decode cX9_turned 194 = .ok (.putfield 184, 3) := by decide +kernel
theorem dX9_turned_197 : decode cX9_turned 197 = .ok (.iconst 0, 1) := by decide +kernel
theorem dX9_turned_198 : decode cX9_turned 198 = .ok (.istore 5, 2) := by decide +kernel
theorem dX9_turned_200 : decode cX9_turned 200 = .ok (.iload 5, 2) := by decide +kernel
theorem dX9_turned_202 : decode cX9_turned 202 = .ok (.iload_n 3, 1) := by decide +kernel
theorem dX9_turned_203 : decode cX9_turned 203 = .ok (.if_icmp .ge 23, 3) := by decide +kernel
theorem dX9_turned_206 : decode cX9_turned 206 = .ok (.aload_n 0, 1) := by decide +kernel
theorem dX9_turned_207 : decode cX9_turned 207 = .ok (.getfield 26, 3) := by decide +kernel
theorem dX9_turned_210 : decode cX9_turned 210 = .ok (.iload 5, 2) := by decide +kernel
theorem dX9_turned_212 : decode cX9_turned 212 = .ok (.aload_n 0, 1) := by decide +kernel
theorem dX9_turned_213 : decode cX9_turned 213 = .ok (.getfield 77, 3) := by decide +kernel
theorem dX9_turned_216 : decode cX9_turned 216 = .ok (.iload 5, 2) := by decide +kernel
theorem dX9_turned_218 : decode cX9_turned 218 = .ok (.iaload, 1) := by decide +kernel
theorem dX9_turned_219 : decode cX9_turned 219 = .ok (.iastore, 1) := by decide +kernel
theorem dX9_turned_220 : decode cX9_turned 220 = .ok (.iinc 5 1, 3) := by decide +kernel
theorem dX9_turned_223 : decode cX9_turned 223 = .ok (.goto (-23), 3) := by decide +kernel
theorem dX9_turned_226 : decode cX9_turned 226 = .ok (.iload 4, 2) := by decide +kernel
theorem dX9_turned_228 : decode cX9_turned 228 = .ok (.ireturn, 1) := by decide +kernel
set_option maxRecDepth 20000 in
theorem ggX9_keep_X9_in : GoodIn wsX9_keep wsX9_in := goodIn_r _ [9] (by decide +kernel) (by decide +kernel)
set_option maxRecDepth 20000 in
theorem gX9_keep_X9_in : GoodIn wsX9_keep (va_wsS RX9 87 yX9_in wsX9_in) := goodIn_app (goodIn_of _ (by decide +kernel)) ggX9_keep_X9_in
theorem dX9_keep_0 : decode cX9_keep 0 = .ok (.iload_n 1, 1) := by decide +kernel
theorem dX9_keep_1 : decode cX9_keep 1 = .ok (.i2l, 1) := by decide +kernel
theorem dX9_keep_2 : decode cX9_keep 2 = .ok (.lconst 0, 1) := by decide +kernel
theorem dX9_keep_3 : decode cX9_keep 3 = .ok (.lconst 1, 1) := by decide +kernel
theorem dX9_keep_4 : decode cX9_keep 4 = .ok (.invokestatic 87, 3) := by decide +kernel
theorem dX9_keep_7 : decode cX9_keep 7 = .ok (.ifCond .ne 6, 3) := by decide +kernel
theorem dX9_keep_10 : decode cX9_keep 10 = .ok (.ldc 138, 2) := by decide +kernel
theorem dX9_keep_12 : decode cX9_keep 12 = .ok (.ireturn, 1) := by decide +kernel
theorem dX9_keep_13 : decode cX9_keep 13 = .ok (.iconst 0, 1) := by decide +kernel
theorem dX9_keep_14 : decode cX9_keep 14 = .ok (.istore_n 2, 1) := by decide +kernel
theorem dX9_keep_15 : decode cX9_keep 15 = .ok (.iload_n 2, 1) := by decide +kernel
theorem dX9_keep_16 : decode cX9_keep 16 = .ok (.bipush 34, 2) := by decide +kernel
theorem dX9_keep_18 : decode cX9_keep 18 = .ok (.if_icmp .ge 26, 3) := by decide +kernel
theorem dX9_keep_21 : decode cX9_keep 21 = .ok (.aload_n 0, 1) := by decide +kernel
theorem dX9_keep_22 : decode cX9_keep 22 = .ok (.getfield 80, 3) := by decide +kernel
theorem dX9_keep_25 : decode cX9_keep 25 = .ok (.bipush 34, 2) := by decide +kernel
theorem dX9_keep_27 : decode cX9_keep 27 = .ok (.iload_n 1, 1) := by decide +kernel
theorem dX9_keep_28 : decode cX9_keep 28 = .ok (.imul, 1) := by decide +kernel
theorem dX9_keep_29 : decode cX9_keep 29 = .ok (.iload_n 2, 1) := by decide +kernel
theorem dX9_keep_30 : decode cX9_keep 30 = .ok (.iadd, 1) := by decide +kernel
theorem dX9_keep_31 : decode cX9_keep 31 = .ok (.aload_n 0, 1) := by decide +kernel
theorem dX9_keep_32 : decode cX9_keep 32 = .ok (.getfield 7, 3) := by decide +kernel
theorem dX9_keep_35 : decode cX9_keep 35 = .ok (.iload_n 2, 1) := by decide +kernel
theorem dX9_keep_36 : decode cX9_keep 36 = .ok (.iaload, 1) := by decide +kernel
theorem dX9_keep_37 : decode cX9_keep 37 = .ok (.iastore, 1) := by decide +kernel
theorem dX9_keep_38 : decode cX9_keep 38 = .ok (.iinc 2 1, 3) := by decide +kernel
theorem dX9_keep_41 : decode cX9_keep 41 = .ok (.goto (-26), 3) := by decide +kernel
theorem dX9_keep_44 : decode cX9_keep 44 = .ok (.aload_n 0, 1) := by decide +kernel
theorem dX9_keep_45 : decode cX9_keep 45 = .ok (.dup, 1) := by decide +kernel
theorem dX9_keep_46 : decode cX9_keep 46 = .ok (.getfield 271, 3) := by decide +kernel
theorem dX9_keep_49 : decode cX9_keep 49 = .ok (.iconst 1, 1) := by decide +kernel
theorem dX9_keep_50 : decode cX9_keep 50 = .ok (.iload_n 1, 1) := by decide +kernel
theorem dX9_keep_51 : decode cX9_keep 51 = .ok (.ishl, 1) := by decide +kernel
theorem dX9_keep_52 : decode cX9_keep 52 = .ok (.ior, 1) := by decide +kernel
theorem dX9_keep_53 : decode cX9_keep 53 = .ok (.putfield 271, 3) := by decide +kernel
theorem dX9_keep_56 : decode cX9_keep 56 = .ok (.aload_n 0, 1) := by decide +kernel
theorem dX9_keep_57 : decode cX9_keep 57 = .ok (.iconst 0, 1) := by decide +kernel
theorem dX9_keep_58 : decode cX9_keep 58 = .ok (.putfield 145, 3) := by decide +kernel
theorem dX9_keep_61 : decode cX9_keep 61 = .ok (.iconst 1, 1) := by decide +kernel
theorem dX9_keep_62 : decode cX9_keep 62 = .ok (.ireturn, 1) := by decide +kernel
set_option maxRecDepth 20000 in
theorem ggX9_goBack_X9_in : GoodIn wsX9_goBack wsX9_in := goodIn_r _ [10] (by decide +kernel) (by decide +kernel)
set_option maxRecDepth 20000 in
theorem gX9_goBack_X9_in : GoodIn wsX9_goBack (va_wsS RX9 87 yX9_in wsX9_in) := goodIn_app (goodIn_of _ (by decide +kernel)) ggX9_goBack_X9_in
theorem dX9_goBack_0 : decode cX9_goBack 0 = .ok (.iload_n 1, 1) := by decide +kernel
theorem dX9_goBack_1 : decode cX9_goBack 1 = .ok (.i2l, 1) := by decide +kernel
theorem dX9_goBack_2 : decode cX9_goBack 2 = .ok (.lconst 0, 1) := by decide +kernel
theorem dX9_goBack_3 : decode cX9_goBack 3 = .ok (.lconst 1, 1) := by decide +kernel
theorem dX9_goBack_4 : decode cX9_goBack 4 = .ok (.invokestatic 87, 3) := by decide +kernel
theorem dX9_goBack_7 : decode cX9_goBack 7 = .ok (.ifCond .ne 6, 3) := by decide +kernel
theorem dX9_goBack_10 : decode cX9_goBack 10 = .ok (.ldc 138, 2) := by decide +kernel
theorem dX9_goBack_12 : decode cX9_goBack 12 = .ok (.ireturn, 1) := by decide +kernel
theorem dX9_goBack_13 : decode cX9_goBack 13 = .ok (.aload_n 0, 1) := by decide +kernel
theorem dX9_goBack_14 : decode cX9_goBack 14 = .ok (.getfield 271, 3) := by decide +kernel
theorem dX9_goBack_17 : decode cX9_goBack 17 = .ok (.iload_n 1, 1) := by decide +kernel
theorem dX9_goBack_18 : decode cX9_goBack 18 = .ok (.ishr, 1) := by decide +kernel
theorem dX9_goBack_19 : decode cX9_goBack 19 = .ok (.iconst 1, 1) := by decide +kernel
theorem dX9_goBack_20 : decode cX9_goBack 20 = .ok (.iand, 1) := by decide +kernel
theorem dX9_goBack_21 : decode cX9_goBack 21 = .ok (.ifCond .ne 6, 3) := by decide +kernel
theorem dX9_goBack_24 : decode cX9_goBack 24 = .ok (.ldc 161, 2) := by decide +kernel
theorem dX9_goBack_26 : decode cX9_goBack 26 = .ok (.ireturn, 1) := by decide +kernel
theorem dX9_goBack_27 : decode cX9_goBack 27 = .ok (.iconst 0, 1) := by decide +kernel
theorem dX9_goBack_28 : decode cX9_goBack 28 = .ok (.istore_n 2, 1) := by decide +kernel
theorem dX9_goBack_29 : decode cX9_goBack 29 = .ok (.iload_n 2, 1) := by decide +kernel
theorem dX9_goBack_30 : decode cX9_goBack 30 = .ok (.bipush 34, 2) := by decide +kernel
theorem dX9_goBack_32 : decode cX9_goBack 32 = .ok (.if_icmp .ge 26, 3) := by decide +kernel
theorem dX9_goBack_35 : decode cX9_goBack 35 = .ok (.aload_n 0, 1) := by decide +kernel
theorem dX9_goBack_36 : decode cX9_goBack 36 = .ok (.getfield 7, 3) := by decide +kernel
theorem dX9_goBack_39 : decode cX9_goBack 39 = .ok (.iload_n 2, 1) := by decide +kernel
theorem dX9_goBack_40 : decode cX9_goBack 40 = .ok (.aload_n 0, 1) := by decide +kernel
theorem dX9_goBack_41 : decode cX9_goBack 41 = .ok (.getfield 80, 3) := by decide +kernel
theorem dX9_goBack_44 : decode cX9_goBack 44 = .ok (.bipush 34, 2) := by decide +kernel
theorem dX9_goBack_46 : decode cX9_goBack 46 = .ok (.iload_n 1, 1) := by decide +kernel
theorem dX9_goBack_47 : decode cX9_goBack 47 = .ok (.imul, 1) := by decide +kernel
theorem dX9_goBack_48 : decode cX9_goBack 48 = .ok (.iload_n 2, 1) := by decide +kernel
theorem dX9_goBack_49 : decode cX9_goBack 49 = .ok (.iadd, 1) := by decide +kernel
theorem dX9_goBack_50 : decode cX9_goBack 50 = .ok (.iaload, 1) := by decide +kernel
theorem dX9_goBack_51 : decode cX9_goBack 51 = .ok (.iastore, 1) := by decide +kernel
theorem dX9_goBack_52 : decode cX9_goBack 52 = .ok (.iinc 2 1, 3) := by decide +kernel
theorem dX9_goBack_55 : decode cX9_goBack 55 = .ok (.goto (-26), 3) := by decide +kernel
theorem dX9_goBack_58 : decode cX9_goBack 58 = .ok (.aload_n 0, 1) := by decide +kernel
theorem dX9_goBack_59 : decode cX9_goBack 59 = .ok (.iconst 0, 1) := by decide +kernel
theorem dX9_goBack_60 : decode cX9_goBack 60 = .ok (.putfield 145, 3) := by decide +kernel
theorem dX9_goBack_63 : decode cX9_goBack 63 = .ok (.iconst 1, 1) := by decide +kernel
theorem dX9_goBack_64 : decode cX9_goBack 64 = .ok (.ireturn, 1) := by decide +kernel
theorem dJ9_max_7cf53_0 : decode cJ9_max_7cf53 0 = .ok (.iload_n 0, 1) := by decide +kernel
theorem dJ9_max_7cf53_1 : decode cJ9_max_7cf53 1 = .ok (.iload_n 1, 1) := by decide +kernel
theorem dJ9_max_7cf53_2 : decode cJ9_max_7cf53 2 = .ok (.if_icmp .lt 7, 3) := by decide +kernel
theorem dJ9_max_7cf53_5 : decode cJ9_max_7cf53 5 = .ok (.iload_n 0, 1) := by decide +kernel
theorem dJ9_max_7cf53_6 : decode cJ9_max_7cf53 6 = .ok (.goto 4, 3) := by decide +kernel
theorem dJ9_max_7cf53_9 : decode cJ9_max_7cf53 9 = .ok (.iload_n 1, 1) := by decide +kernel
theorem dJ9_max_7cf53_10 : decode cJ9_max_7cf53 10 = .ok (.ireturn, 1) := by decide +kernel
theorem dJ9_min_7cf53_0 : decode cJ9_min_7cf53 0 = .ok (.iload_n 0, 1) := by decide +kernel
theorem dJ9_min_7cf53_1 : decode cJ9_min_7cf53 1 = .ok (.iload_n 1, 1) := by decide +kernel
theorem dJ9_min_7cf53_2 : decode cJ9_min_7cf53 2 = .ok (.if_icmp .gt 7, 3) := by decide +kernel
theorem dJ9_min_7cf53_5 : decode cJ9_min_7cf53 5 = .ok (.iload_n 0, 1) := by decide +kernel
theorem dJ9_min_7cf53_6 : decode cJ9_min_7cf53 6 = .ok (.goto 4, 3) := by decide +kernel
theorem dJ9_min_7cf53_9 : decode cJ9_min_7cf53 9 = .ok (.iload_n 1, 1) := by decide +kernel
theorem dJ9_min_7cf53_10 : decode cJ9_min_7cf53 10 = .ok (.ireturn, 1) := by decide +kernel
theorem dJ7_fill_53178_0 : decode cJ7_fill_53178 0 = .ok (.iconst 0, 1) := by decide +kernel
theorem dJ7_fill_53178_1 : decode cJ7_fill_53178 1 = .ok (.istore_n 2, 1) := by decide +kernel
theorem dJ7_fill_53178_2 : decode cJ7_fill_53178 2 = .ok (.aload_n 0, 1) := by decide +kernel
theorem dJ7_fill_53178_3 : decode cJ7_fill_53178 3 = .ok (.arraylength, 1) := by decide +kernel
theorem dJ7_fill_53178_4 : decode cJ7_fill_53178 4 = .ok (.istore_n 3, 1) := by decide +kernel
theorem dJ7_fill_53178_5 : decode cJ7_fill_53178 5 = .ok (.iload_n 2, 1) := by decide +kernel
theorem dJ7_fill_53178_6 : decode cJ7_fill_53178 6 = .ok (.iload_n 3, 1) := by decide +kernel
theorem dJ7_fill_53178_7 : decode cJ7_fill_53178 7 = .ok (.if_icmp .ge 13, 3) := by decide +kernel
theorem dJ7_fill_53178_10 : decode cJ7_fill_53178 10 = .ok (.aload_n 0, 1) := by decide +kernel
theorem dJ7_fill_53178_11 : decode cJ7_fill_53178 11 = .ok (.iload_n 2, 1) := by decide +kernel
theorem dJ7_fill_53178_12 : decode cJ7_fill_53178 12 = .ok (.iload_n 1, 1) := by decide +kernel
theorem dJ7_fill_53178_13 : decode cJ7_fill_53178 13 = .ok (.iastore, 1) := by decide +kernel
theorem dJ7_fill_53178_14 : decode cJ7_fill_53178 14 = .ok (.iinc 2 1, 3) := by decide +kernel
theorem dJ7_fill_53178_17 : decode cJ7_fill_53178 17 = .ok (.goto (-12), 3) := by decide +kernel
theorem dJ7_fill_53178_20 : decode cJ7_fill_53178 20 = .ok (.return_, 1) := by decide +kernel
