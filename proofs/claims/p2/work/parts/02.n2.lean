set_option maxRecDepth 20000 in
theorem ggX8_init_X0_init : GoodIn wsX8_init wsX0_init := goodIn_r _ [43, 44, 2, 3, 45, 20, 21, 46, 47, 48, 49, 50, 51, 52, 53, 54, 55, 56, 57, 58, 125, 126, 127, 103, 104] (by decide +kernel) (by decide +kernel)
set_option maxRecDepth 20000 in
theorem gX8_init_X0_init_n11 : GoodIn wsX8_init (wsX0_init) := ggX8_init_X0_init
set_option maxRecDepth 20000 in
theorem ggX8_init_X2_init : GoodIn wsX8_init wsX2_init := goodIn_r _ [61, 62, 2, 3, 63, 64, 5, 6, 42, 43, 44, 45, 20, 21, 46, 47, 48, 49, 50, 51, 52, 53, 54, 55, 56, 57, 58, 118, 119, 120, 103, 104, 125, 126, 127] (by decide +kernel) (by decide +kernel)
set_option maxRecDepth 20000 in
theorem gX8_init_X2_init : GoodIn wsX8_init (wsX2_init) := ggX8_init_X2_init
set_option maxRecDepth 20000 in
theorem ggX8_init_X6_init : GoodIn wsX8_init wsX6_init := goodIn_r _ [66, 67, 2, 3, 52, 68, 121, 122, 123, 124] (by decide +kernel) (by decide +kernel)
set_option maxRecDepth 20000 in
theorem gX8_init_X6_init_n33 : GoodIn wsX8_init (wsX6_init) := ggX8_init_X6_init
set_option maxRecDepth 20000 in
theorem ggX8_init_X3_init : GoodIn wsX8_init wsX3_init := goodIn_r _ [50, 51, 2, 3, 52, 53, 54, 55, 56, 57, 58, 125, 126, 127] (by decide +kernel) (by decide +kernel)
set_option maxRecDepth 20000 in
theorem gX8_init_X3_init : GoodIn wsX8_init (wsX3_init) := ggX8_init_X3_init
set_option maxRecDepth 20000 in
theorem ggX8_init_X7_init : GoodIn wsX8_init wsX7_init := goodIn_r _ [71, 72, 2, 3, 52, 73, 128, 129] (by decide +kernel) (by decide +kernel)
set_option maxRecDepth 20000 in
theorem gX8_init_X7_init_n47 : GoodIn wsX8_init (wsX7_init) := ggX8_init_X7_init
set_option maxRecDepth 20000 in
theorem ggX8_init_X1_init : GoodIn wsX8_init wsX1_init := goodIn_r _ [75, 76, 2, 3, 52, 77, 78, 79, 130, 131, 132, 133, 134, 135, 136] (by decide +kernel) (by decide +kernel)
set_option maxRecDepth 20000 in
theorem gX8_init_X1_init_n57 : GoodIn wsX8_init (wsX1_init) := ggX8_init_X1_init
set_option maxRecDepth 20000 in
theorem ggX8_init_X5_init : GoodIn wsX8_init wsX5_init := goodIn_r _ [81, 82, 2, 3, 83, 20, 21, 84, 52, 85, 86, 87, 88, 13, 89, 90, 91, 92, 93, 94, 95, 96, 49, 50, 51, 53, 54, 55, 56, 57, 58, 125, 126, 127, 137, 138, 139, 140, 141, 142, 143, 144, 145, 146, 147, 148, 149, 150, 151, 152] (by decide +kernel) (by decide +kernel)
set_option maxRecDepth 20000 in
theorem gX8_init_X5_init_n64 : GoodIn wsX8_init (wsX5_init) := ggX8_init_X5_init
set_option maxRecDepth 20000 in
theorem ggX8_init_X4_init : GoodIn wsX8_init wsX4_init := goodIn_r _ [98, 99, 2, 3, 100, 101, 52, 102, 153, 154, 155] (by decide +kernel) (by decide +kernel)
set_option maxRecDepth 20000 in
theorem gX8_init_X4_init_n74 : GoodIn wsX8_init (wsX4_init) := ggX8_init_X4_init
theorem dX8_init_0 : decode cX8_init 0 = .ok (.aload_n 0, 1) := by decide +kernel
theorem dX8_init_1 : decode cX8_init 1 = .ok (.invokespecial 3, 3) := by decide +kernel
theorem dX8_init_4 : decode cX8_init 4 = .ok (.aload_n 0, 1) := by decide +kernel
theorem dX8_init_5 : decode cX8_init 5 = .ok (.new 9, 3) := by decide +kernel
theorem dX8_init_8 : decode cX8_init 8 = .ok (.dup, 1) := by decide +kernel
theorem dX8_init_9 : decode cX8_init 9 = .ok (.invokespecial 11, 3) := by decide +kernel
theorem dX8_init_12 : decode cX8_init 12 = .ok (.putfield 12, 3) := by decide +kernel
theorem dX8_init_15 : decode cX8_init 15 = .ok (.aload_n 0, 1) := by decide +kernel
theorem dX8_init_16 : decode cX8_init 16 = .ok (.new 16, 3) := by decide +kernel
theorem dX8_init_19 : decode cX8_init 19 = .ok (.dup, 1) := by decide +kernel
theorem dX8_init_20 : decode cX8_init 20 = .ok (.invokespecial 18, 3) := by decide +kernel
theorem dX8_init_23 : decode cX8_init 23 = .ok (.putfield 19, 3) := by decide +kernel
theorem dX8_init_26 : decode cX8_init 26 = .ok (.aload_n 0, 1) := by decide +kernel
theorem dX8_init_27 : decode cX8_init 27 = .ok (.iconst 2, 1) := by decide +kernel
theorem dX8_init_28 : decode cX8_init 28 = .ok (.anewarray 9, 3) := by decide +kernel
theorem dX8_init_31 : decode cX8_init 31 = .ok (.putfield 23, 3) := by decide +kernel
theorem dX8_init_34 : decode cX8_init 34 = .ok (.aload_n 0, 1) := by decide +kernel
theorem dX8_init_35 : decode cX8_init 35 = .ok (.iconst 2, 1) := by decide +kernel
theorem dX8_init_36 : decode cX8_init 36 = .ok (.newarray .boolean, 2) := by decide +kernel
theorem dX8_init_38 : decode cX8_init 38 = .ok (.putfield 27, 3) := by decide +kernel
theorem dX8_init_41 : decode cX8_init 41 = .ok (.aload_n 0, 1) := by decide +kernel
theorem dX8_init_42 : decode cX8_init 42 = .ok (.new 31, 3) := by decide +kernel
theorem dX8_init_45 : decode cX8_init 45 = .ok (.dup, 1) := by decide +kernel
theorem dX8_init_46 : decode cX8_init 46 = .ok (.invokespecial 33, 3) := by decide +kernel
theorem dX8_init_49 : decode cX8_init 49 = .ok (.putfield 34, 3) := by decide +kernel
theorem dX8_init_52 : decode cX8_init 52 = .ok (.aload_n 0, 1) := by decide +kernel
theorem dX8_init_53 : decode cX8_init 53 = .ok (.new 38, 3) := by decide +kernel
theorem dX8_init_56 : decode cX8_init 56 = .ok (.dup, 1) := by decide +kernel
theorem dX8_init_57 : decode cX8_init 57 = .ok (.invokespecial 40, 3) := by decide +kernel
theorem dX8_init_60 : decode cX8_init 60 = .ok (.putfield 41, 3) := by decide +kernel
theorem dX8_init_63 : decode cX8_init 63 = .ok (.aload_n 0, 1) := by decide +kernel
theorem dX8_init_64 : decode cX8_init 64 = .ok (.new 45, 3) := by decide +kernel
theorem dX8_init_67 : decode cX8_init 67 = .ok (.dup, 1) := by decide +kernel
theorem dX8_init_68 : decode cX8_init 68 = .ok (.invokespecial 47, 3) := by decide +kernel
theorem dX8_init_71 : decode cX8_init 71 = .ok (.putfield 48, 3) := by decide +kernel
theorem dX8_init_74 : decode cX8_init 74 = .ok (.aload_n 0, 1) := by decide +kernel
theorem dX8_init_75 : decode cX8_init 75 = .ok (.new 45, 3) := by decide +kernel
theorem dX8_init_78 : decode cX8_init 78 = .ok (.dup, 1) := by decide +kernel
theorem dX8_init_79 : decode cX8_init 79 = .ok (.invokespecial 47, 3) := by decide +kernel
theorem dX8_init_82 : decode cX8_init 82 = .ok (.putfield 52, 3) := by decide +kernel
theorem dX8_init_85 : decode cX8_init 85 = .ok (.aload_n 0, 1) := by decide +kernel
theorem dX8_init_86 : decode cX8_init 86 = .ok (.new 55, 3) := by decide +kernel
theorem dX8_init_89 : decode cX8_init 89 = .ok (.dup, 1) := by decide +kernel
theorem dX8_init_90 : decode cX8_init 90 = .ok (.invokespecial 57, 3) := by decide +kernel
theorem dX8_init_93 : decode cX8_init 93 = .ok (.putfield 58, 3) := by decide +kernel
theorem dX8_init_96 : decode cX8_init 96 = .ok (.aload_n 0, 1) := by decide +kernel
theorem dX8_init_97 : decode cX8_init 97 = .ok (.new 62, 3) := by decide +kernel
theorem dX8_init_100 : decode cX8_init 100 = .ok (.dup, 1) := by decide +kernel
theorem dX8_init_101 : decode cX8_init 101 = .ok (.invokespecial 64, 3) := by decide +kernel
theorem dX8_init_104 : decode cX8_init 104 = .ok (.putfield 65, 3) := by decide +kernel
theorem dX8_init_107 : decode cX8_init 107 = .ok (.aload_n 0, 1) := by decide +kernel
theorem dX8_init_108 : decode cX8_init 108 = .ok (.new 62, 3) := by decide +kernel
theorem dX8_init_111 : decode cX8_init 111 = .ok (.dup, 1) := by decide +kernel
theorem dX8_init_112 : decode cX8_init 112 = .ok (.invokespecial 64, 3) := by decide +kernel
theorem dX8_init_115 : decode cX8_init 115 = .ok (.putfield 69, 3) := by decide +kernel
theorem dX8_init_118 : decode cX8_init 118 = .ok (.aload_n 0, 1) := by decide +kernel
theorem dX8_init_119 : decode cX8_init 119 = .ok (.new 72, 3) := by decide +kernel
theorem dX8_init_122 : decode cX8_init 122 = .ok (.dup, 1) := by decide +kernel
theorem dX8_init_123 : decode cX8_init 123 = .ok (.invokespecial 74, 3) := by decide +kernel
theorem dX8_init_126 : decode cX8_init 126 = .ok (.putfield 75, 3) := by decide +kernel
theorem dX8_init_129 : decode cX8_init 129 = .ok (.aload_n 0, 1) := by decide +kernel
theorem dX8_init_130 : decode cX8_init 130 = .ok (.iconst (-1), 1) := by decide +kernel
theorem dX8_init_131 : decode cX8_init 131 = .ok (.putfield 79, 3) := by decide +kernel
theorem dX8_init_134 : decode cX8_init 134 = .ok (.iconst 0, 1) := by decide +kernel
theorem dX8_init_135 : decode cX8_init 135 = .ok (.istore_n 1, 1) := by decide +kernel
theorem dX8_init_136 : decode cX8_init 136 = .ok (.iload_n 1, 1) := by decide +kernel
theorem dX8_init_137 : decode cX8_init 137 = .ok (.iconst 2, 1) := by decide +kernel
theorem dX8_init_138 : decode cX8_init 138 = .ok (.if_icmp .ge 22, 3) := by decide +kernel
theorem dX8_init_141 : decode cX8_init 141 = .ok (.aload_n 0, 1) := by decide +kernel
theorem dX8_init_142 : decode cX8_init 142 = .ok (.getfield 23, 3) := by decide +kernel
theorem dX8_init_145 : decode cX8_init 145 = .ok (.iload_n 1, 1) := by decide +kernel
theorem dX8_init_146 : decode cX8_init 146 = .ok (.new 9, 3) := by decide +kernel
theorem dX8_init_149 : decode cX8_init 149 = .ok (.dup, 1) := by decide +kernel
theorem dX8_init_150 : decode cX8_init 150 = .ok (.invokespecial 11, 3) := by decide +kernel
theorem dX8_init_153 : decode cX8_init 153 = .ok (.aastore, 1) := by decide +kernel
theorem dX8_init_154 : decode cX8_init 154 = .ok (.iinc 1 1, 3) := by decide +kernel
theorem dX8_init_157 : decode cX8_init 157 = .ok (.goto (-21), 3) := by decide +kernel
theorem dX8_init_160 : decode cX8_init 160 = .ok (.return_, 1) := by decide +kernel
set_option maxRecDepth 20000 in
theorem ggX8_feed_X6_add : GoodIn wsX8_feed wsX6_add := goodIn_r _ [8, 9, 10, 28, 29, 30, 31] (by decide +kernel) (by decide +kernel)
set_option maxRecDepth 20000 in
theorem gX8_feed_X6_add : GoodIn wsX8_feed (wsV RX8 84 RX6 yX6_add wsX6_add) := goodIn_app (goodIn_of _ (by decide +kernel)) ggX8_feed_X6_add
set_option maxRecDepth 20000 in
theorem ggX8_feed_X6_length : GoodIn wsX8_feed wsX6_length := goodIn_r _ [14, 9, 28, 29, 30, 31] (by decide +kernel) (by decide +kernel)
set_option maxRecDepth 20000 in
theorem gX8_feed_X6_length : GoodIn wsX8_feed (wsV RX8 88 RX6 yX6_length wsX6_length) := goodIn_app (goodIn_of _ (by decide +kernel)) ggX8_feed_X6_length
theorem dX8_feed_0 : decode cX8_feed 0 = .ok (.iload_n 1, 1) := by decide +kernel
theorem dX8_feed_1 : decode cX8_feed 1 = .ok (.ifCond .lt 10, 3) := by decide +kernel
theorem dX8_feed_4 : decode cX8_feed 4 = .ok (.iload_n 1, 1) := by decide +kernel
theorem dX8_feed_5 : decode cX8_feed 5 = .ok (.sipush 255, 3) := by decide +kernel
theorem dX8_feed_8 : decode cX8_feed 8 = .ok (.if_icmp .le 6, 3) := by decide +kernel
theorem dX8_feed_11 : decode cX8_feed 11 = .ok (.ldc 83, 2) := by decide +kernel
theorem dX8_feed_13 : decode cX8_feed 13 = .ok (.ireturn, 1) := by decide +kernel
theorem dX8_feed_14 : decode cX8_feed 14 = .ok (.aload_n 0, 1) := by decide +kernel
theorem dX8_feed_15 : decode cX8_feed 15 = .ok (.getfield 34, 3) := by decide +kernel
theorem dX8_feed_18 : decode cX8_feed 18 = .ok (.iload_n 1, 1) := by decide +kernel
theorem dX8_feed_19 : decode cX8_feed 19 = .ok (.invokevirtual 84, 3) := by decide +kernel
theorem dX8_feed_22 : decode cX8_feed 22 = .ok (.ifCond .eq 13, 3) := by decide +kernel
theorem dX8_feed_25 : decode cX8_feed 25 = .ok (.aload_n 0, 1) := by decide +kernel
theorem dX8_feed_26 : decode cX8_feed 26 = .ok (.getfield 34, 3) := by decide +kernel
theorem dX8_feed_29 : decode cX8_feed 29 = .ok (.invokevirtual 88, 3) := by decide +kernel
theorem dX8_feed_32 : decode cX8_feed 32 = .ok (.goto 5, 3) := by decide +kernel
theorem dX8_feed_35 : decode cX8_feed 35 = .ok (.ldc 92, 2) := by decide +kernel
theorem dX8_feed_37 : decode cX8_feed 37 = .ok (.ireturn, 1) := by decide +kernel
set_option maxRecDepth 20000 in
theorem ggX8_machine_X8_isMachine : GoodIn wsX8_machine wsX8_isMachine := goodIn_r _ [10] (by decide +kernel) (by decide +kernel)
set_option maxRecDepth 20000 in
theorem gX8_machine_X8_isMachine : GoodIn wsX8_machine (va_wsS RX8 93 yX8_isMachine wsX8_isMachine) := goodIn_app (goodIn_of _ (by decide +kernel)) ggX8_machine_X8_isMachine
set_option maxRecDepth 20000 in
theorem ggX8_machine_X6_readInto : GoodIn wsX8_machine wsX6_readInto := goodIn_r _ [15, 16, 17, 18, 19, 20, 21, 22, 23, 24, 25, 26, 27, 28, 29, 30, 31, 32, 33, 34, 35, 36, 37, 38, 14, 39, 40, 41, 42, 43, 44, 45, 46, 47, 48, 49, 50, 51, 52, 53, 54, 55, 56, 57, 58, 59, 60, 61, 62, 63, 64, 65, 66, 67, 68, 69, 70, 71, 72, 73, 74, 75, 76, 77, 78, 79, 80, 81, 9, 82, 83, 84, 85, 86, 87, 88, 89, 90, 91, 92, 93, 94, 150, 151, 152, 153, 154, 155, 156] (by decide +kernel) (by decide +kernel)
set_option maxRecDepth 20000 in
theorem gX8_machine_X6_readInto : GoodIn wsX8_machine (wsV RX8 97 RX6 yX6_readInto wsX6_readInto) := goodIn_app (goodIn_of _ (by decide +kernel)) ggX8_machine_X6_readInto
set_option maxRecDepth 20000 in
theorem ggX8_machine_X6_place : GoodIn wsX8_machine wsX6_place := goodIn_r _ [98, 16, 150, 151, 152, 153] (by decide +kernel) (by decide +kernel)
set_option maxRecDepth 20000 in
theorem gX8_machine_X6_place : GoodIn wsX8_machine (wsV RX8 101 RX6 yX6_place wsX6_place) := goodIn_app (goodIn_of _ (by decide +kernel)) ggX8_machine_X6_place
set_option maxRecDepth 20000 in
theorem ggX8_machine_X6_clear : GoodIn wsX8_machine wsX6_clear := goodIn_r _ [102, 40, 150, 151, 152, 153] (by decide +kernel) (by decide +kernel)
set_option maxRecDepth 20000 in
theorem gX8_machine_X6_clear : GoodIn wsX8_machine (wsV RX8 104 RX6 yX6_clear wsX6_clear) := goodIn_app (goodIn_of _ (by decide +kernel)) ggX8_machine_X6_clear
set_option maxRecDepth 20000 in
theorem ggX8_machine_X2_remember : GoodIn wsX8_machine wsX2_remember := goodIn_r _ [107, 108, 109, 110, 28, 25, 29, 111, 112, 113, 106, 114, 115, 116, 117, 118, 119, 120, 121, 122, 123, 124, 125, 21, 126, 30, 31, 127, 128, 129, 130, 157, 158, 159, 160, 161, 154, 155, 156] (by decide +kernel) (by decide +kernel)
set_option maxRecDepth 20000 in
theorem gX8_machine_X2_remember : GoodIn wsX8_machine (wsV RX8 107 RX2 yX2_remember wsX2_remember) := goodIn_app (goodIn_of _ (by decide +kernel)) ggX8_machine_X2_remember
set_option maxRecDepth 20000 in
theorem ggX8_machine_X0_at : GoodIn wsX8_machine wsX0_at := goodIn_r _ [134, 121, 122, 160, 161] (by decide +kernel) (by decide +kernel)
set_option maxRecDepth 20000 in
theorem gX8_machine_X0_at : GoodIn wsX8_machine (wsV RX8 111 RX0 yX0_at wsX0_at) := goodIn_app (goodIn_of _ (by decide +kernel)) ggX8_machine_X0_at
set_option maxRecDepth 20000 in
theorem ggX8_machine_X3_become : GoodIn wsX8_machine wsX3_become := goodIn_r _ [126, 30, 31, 127, 128, 129, 130, 154, 155, 156] (by decide +kernel) (by decide +kernel)
set_option maxRecDepth 20000 in
theorem gX8_machine_X3_become : GoodIn wsX8_machine (wsV RX8 115 RX3 yX3_become wsX3_become) := goodIn_app (goodIn_of _ (by decide +kernel)) ggX8_machine_X3_become
set_option maxRecDepth 20000 in
theorem ggX8_machine_X3_size : GoodIn wsX8_machine wsX3_size := goodIn_r _ [69, 30, 154, 155, 156] (by decide +kernel) (by decide +kernel)
set_option maxRecDepth 20000 in
theorem gX8_machine_X3_size : GoodIn wsX8_machine (wsV RX8 119 RX3 yX3_size wsX3_size) := goodIn_app (goodIn_of _ (by decide +kernel)) ggX8_machine_X3_size
theorem dX8_machine_0 : decode cX8_machine 0 = .ok (.iload_n 1, 1) := by decide +kernel
theorem dX8_machine_1 : decode cX8_machine 1 = .ok (.invokestatic 93, 3) := by decide +kernel
theorem dX8_machine_4 : decode cX8_machine 4 = .ok (.ifCond .ne 6, 3) := by decide +kernel
theorem dX8_machine_7 : decode cX8_machine 7 = .ok (.ldc 96, 2) := by decide +kernel
theorem dX8_machine_9 : decode cX8_machine 9 = .ok (.ireturn, 1) := by decide +kernel
theorem dX8_machine_10 : decode cX8_machine 10 = .ok (.aload_n 0, 1) := by decide +kernel
theorem dX8_machine_11 : decode cX8_machine 11 = .ok (.getfield 34, 3) := by decide +kernel
theorem dX8_machine_14 : decode cX8_machine 14 = .ok (.aload_n 0, 1) := by decide +kernel
theorem dX8_machine_15 : decode cX8_machine 15 = .ok (.getfield 41, 3) := by decide +kernel
theorem dX8_machine_18 : decode cX8_machine 18 = .ok (.invokevirtual 97, 3) := by decide +kernel
theorem dX8_machine_21 : decode cX8_machine 21 = .ok (.istore_n 2, 1) := by decide +kernel
theorem dX8_machine_22 : decode cX8_machine 22 = .ok (.aload_n 0, 1) := by decide +kernel
theorem dX8_machine_23 : decode cX8_machine 23 = .ok (.iload_n 2, 1) := by decide +kernel
theorem dX8_machine_24 : decode cX8_machine 24 = .ok (.ifCond .ne 7, 3) := by decide +kernel
theorem dX8_machine_27 : decode cX8_machine 27 = .ok (.iconst (-1), 1) := by decide +kernel
theorem dX8_machine_28 : decode cX8_machine 28 = .ok (.goto 10, 3) := by decide +kernel
theorem dX8_machine_31 : decode cX8_machine 31 = .ok (.aload_n 0, 1) := by decide +kernel
theorem dX8_machine_32 : decode cX8_machine 32 = .ok (.getfield 34, 3) := by decide +kernel
theorem dX8_machine_35 : decode cX8_machine 35 = .ok (.invokevirtual 101, 3) := by decide +kernel
theorem dX8_machine_38 : decode cX8_machine 38 = .ok (.putfield 79, 3) := by decide +kernel
theorem dX8_machine_41 : decode cX8_machine 41 = .ok (.aload_n 0, 1) := by decide +kernel
theorem dX8_machine_42 : decode cX8_machine 42 = .ok (.getfield 34, 3) := by decide +kernel
theorem dX8_machine_45 : decode cX8_machine 45 = .ok (.invokevirtual 104, 3) := by decide +kernel
theorem dX8_machine_48 : decode cX8_machine 48 = .ok (.aload_n 0, 1) := by decide +kernel
theorem dX8_machine_49 : decode cX8_machine 49 = .ok (.getfield 19, 3) := by decide +kernel
theorem dX8_machine_52 : decode cX8_machine 52 = .ok (.aload_n 0, 1) := by decide +kernel
theorem dX8_machine_53 : decode cX8_machine 53 = .ok (.getfield 12, 3) := by decide +kernel
theorem dX8_machine_56 : decode cX8_machine 56 = .ok (.invokevirtual 107, 3) := by decide +kernel
theorem dX8_machine_59 : decode cX8_machine 59 = .ok (.iload_n 2, 1) := by decide +kernel
theorem dX8_machine_60 : decode cX8_machine 60 = .ok (.ifCond .eq 8, 3) := by decide +kernel
theorem dX8_machine_63 : decode cX8_machine 63 = .ok (.bipush (-10), 2) := by decide +kernel
theorem dX8_machine_65 : decode cX8_machine 65 = .ok (.iload_n 2, 1) := by decide +kernel
theorem dX8_machine_66 : decode cX8_machine 66 = .ok (.isub, 1) := by decide +kernel
theorem dX8_machine_67 : decode cX8_machine 67 = .ok (.ireturn, 1) := by decide +kernel
theorem dX8_machine_68 : decode cX8_machine 68 = .ok (.aload_n 0, 1) := by decide +kernel
theorem dX8_machine_69 : decode cX8_machine 69 = .ok (.getfield 12, 3) := by decide +kernel
theorem dX8_machine_72 : decode cX8_machine 72 = .ok (.iload_n 1, 1) := by decide +kernel
theorem dX8_machine_73 : decode cX8_machine 73 = .ok (.invokevirtual 111, 3) := by decide +kernel
theorem dX8_machine_76 : decode cX8_machine 76 = .ok (.aload_n 0, 1) := by decide +kernel
theorem dX8_machine_77 : decode cX8_machine 77 = .ok (.getfield 41, 3) := by decide +kernel
theorem dX8_machine_80 : decode cX8_machine 80 = .ok (.invokevirtual 115, 3) := by decide +kernel
theorem dX8_machine_83 : decode cX8_machine 83 = .ok (.aload_n 0, 1) := by decide +kernel
theorem dX8_machine_84 : decode cX8_machine 84 = .ok (.getfield 41, 3) := by decide +kernel
theorem dX8_machine_87 : decode cX8_machine 87 = .ok (.invokevirtual 119, 3) := by decide +kernel
theorem dX8_machine_90 : decode cX8_machine 90 = .ok (.ireturn, 1) := by decide +kernel
theorem dX8_fault_0 : decode cX8_fault 0 = .ok (.aload_n 0, 1) := by decide +kernel
theorem dX8_fault_1 : decode cX8_fault 1 = .ok (.getfield 79, 3) := by decide +kernel
theorem dX8_fault_4 : decode cX8_fault 4 = .ok (.ireturn, 1) := by decide +kernel
set_option maxRecDepth 20000 in
theorem ggX8_move_X8_hasMoveOf : GoodIn wsX8_move wsX8_hasMoveOf := goodIn_r _ [8, 1, 9, 10, 7, 11, 12, 13, 14, 15, 16, 17, 18, 19, 20, 21, 22, 23, 24, 25, 26, 27, 74, 75, 76, 77, 78, 79, 80, 81, 82, 83, 84, 85, 86, 87, 88, 89, 90, 91] (by decide +kernel) (by decide +kernel)
set_option maxRecDepth 20000 in
theorem gX8_move_X8_hasMoveOf : GoodIn wsX8_move (wsV RX8 122 RX8 yX8_hasMoveOf wsX8_hasMoveOf) := goodIn_app (goodIn_of _ (by decide +kernel)) ggX8_move_X8_hasMoveOf
set_option maxRecDepth 20000 in
theorem ggX8_move_X0_at : GoodIn wsX8_move wsX0_at := goodIn_r _ [16, 17, 18, 87, 88] (by decide +kernel) (by decide +kernel)
set_option maxRecDepth 20000 in
theorem gX8_move_X0_at : GoodIn wsX8_move (wsV RX8 111 RX0 yX0_at wsX0_at) := goodIn_app (goodIn_of _ (by decide +kernel)) ggX8_move_X0_at
set_option maxRecDepth 20000 in
theorem ggX8_move_X3_hasState : GoodIn wsX8_move wsX3_hasState := goodIn_r _ [23, 24, 89, 90, 91] (by decide +kernel) (by decide +kernel)
set_option maxRecDepth 20000 in
theorem gX8_move_X3_hasState : GoodIn wsX8_move (wsV RX8 126 RX3 yX3_hasState wsX3_hasState) := goodIn_app (goodIn_of _ (by decide +kernel)) ggX8_move_X3_hasState
set_option maxRecDepth 20000 in
theorem ggX8_move_X8_isSide : GoodIn wsX8_move wsX8_isSide := goodIn_r _ [30] (by decide +kernel) (by decide +kernel)
set_option maxRecDepth 20000 in
theorem gX8_move_X8_isSide : GoodIn wsX8_move (va_wsS RX8 129 yX8_isSide wsX8_isSide) := goodIn_app (goodIn_of _ (by decide +kernel)) ggX8_move_X8_isSide
set_option maxRecDepth 20000 in
theorem ggX8_move_X8_change : GoodIn wsX8_move wsX8_change := goodIn_r _ [34, 35, 1, 36, 37, 38, 39, 40, 41, 42, 43, 44, 45, 46, 47, 48, 49, 50, 51, 52, 53, 54, 15, 55, 17, 18, 56, 57, 58, 22, 59, 24, 60, 61, 62, 63, 64, 65, 66, 67, 68, 26, 7, 27, 69, 70, 71, 72, 73, 20, 21, 23, 74, 75, 76, 77, 78, 79, 80, 81, 82, 83, 84, 85, 86, 92, 93, 94, 87, 88, 89, 90, 91] (by decide +kernel) (by decide +kernel)
set_option maxRecDepth 20000 in
theorem gX8_move_X8_change : GoodIn wsX8_move (wsV RX8 132 RX8 yX8_change wsX8_change) := goodIn_app (goodIn_of _ (by decide +kernel)) ggX8_move_X8_change
theorem dX8_move_0 : decode cX8_move 0 = .ok (.aload_n 0, 1) := by decide +kernel
theorem dX8_move_1 : decode cX8_move 1 = .ok (.iload_n 1, 1) := by decide +kernel
theorem dX8_move_2 : decode cX8_move 2 = .ok (.iload_n 2, 1) := by decide +kernel
theorem dX8_move_3 : decode cX8_move 3 = .ok (.iload_n 3, 1) := by decide +kernel
theorem dX8_move_4 : decode cX8_move 4 = .ok (.invokevirtual 122, 3) := by decide +kernel
theorem dX8_move_7 : decode cX8_move 7 = .ok (.ifCond .eq 19, 3) := by decide +kernel
theorem dX8_move_10 : decode cX8_move 10 = .ok (.aload_n 0, 1) := by decide +kernel
theorem dX8_move_11 : decode cX8_move 11 = .ok (.getfield 12, 3) := by decide +kernel
theorem dX8_move_14 : decode cX8_move 14 = .ok (.iload_n 1, 1) := by decide +kernel
theorem dX8_move_15 : decode cX8_move 15 = .ok (.invokevirtual 111, 3) := by decide +kernel
theorem dX8_move_18 : decode cX8_move 18 = .ok (.iload 4, 2) := by decide +kernel
theorem dX8_move_20 : decode cX8_move 20 = .ok (.invokevirtual 126, 3) := by decide +kernel
theorem dX8_move_23 : decode cX8_move 23 = .ok (.ifCond .ne 6, 3) := by decide +kernel
theorem dX8_move_26 : decode cX8_move 26 = .ok (.ldc 96, 2) := by decide +kernel
theorem dX8_move_28 : decode cX8_move 28 = .ok (.ireturn, 1) := by decide +kernel
theorem dX8_move_29 : decode cX8_move 29 = .ok (.iload 5, 2) := by decide +kernel
theorem dX8_move_31 : decode cX8_move 31 = .ok (.invokestatic 129, 3) := by decide +kernel
theorem dX8_move_34 : decode cX8_move 34 = .ok (.ifCond .ne 6, 3) := by decide +kernel
theorem dX8_move_37 : decode cX8_move 37 = .ok (.ldc 83, 2) := by decide +kernel
theorem dX8_move_39 : decode cX8_move 39 = .ok (.ireturn, 1) := by decide +kernel
theorem dX8_move_40 : decode cX8_move 40 = .ok (.aload_n 0, 1) := by decide +kernel
theorem dX8_move_41 : decode cX8_move 41 = .ok (.aload_n 0, 1) := by decide +kernel
theorem dX8_move_42 : decode cX8_move 42 = .ok (.getfield 12, 3) := by decide +kernel
theorem dX8_move_45 : decode cX8_move 45 = .ok (.iload_n 1, 1) := by decide +kernel
theorem dX8_move_46 : decode cX8_move 46 = .ok (.invokevirtual 111, 3) := by decide +kernel
theorem dX8_move_49 : decode cX8_move 49 = .ok (.iload_n 2, 1) := by decide +kernel
theorem dX8_move_50 : decode cX8_move 50 = .ok (.iload_n 3, 1) := by decide +kernel
theorem dX8_move_51 : decode cX8_move 51 = .ok (.iconst 2, 1) := by decide +kernel
theorem dX8_move_52 : decode cX8_move 52 = .ok (.iload 4, 2) := by decide +kernel
theorem dX8_move_54 : decode cX8_move 54 = .ok (.imul, 1) := by decide +kernel
theorem dX8_move_55 : decode cX8_move 55 = .ok (.iload 5, 2) := by decide +kernel
theorem dX8_move_57 : decode cX8_move 57 = .ok (.iadd, 1) := by decide +kernel
theorem dX8_move_58 : decode cX8_move 58 = .ok (.invokevirtual 132, 3) := by decide +kernel
theorem dX8_move_61 : decode cX8_move 61 = .ok (.ireturn, 1) := by decide +kernel
set_option maxRecDepth 20000 in
theorem ggX8_none_X8_hasMoveOf : GoodIn wsX8_none wsX8_hasMoveOf := goodIn_r _ [8, 2, 9, 10, 7, 11, 12, 13, 14, 15, 16, 17, 18, 19, 20, 21, 22, 23, 24, 25, 26, 27, 71, 72, 73, 74, 75, 76, 77, 78, 79, 80, 81, 82, 83, 84, 85, 86, 87, 88] (by decide +kernel) (by decide +kernel)
set_option maxRecDepth 20000 in
theorem gX8_none_X8_hasMoveOf : GoodIn wsX8_none (wsV RX8 122 RX8 yX8_hasMoveOf wsX8_hasMoveOf) := goodIn_app (goodIn_of _ (by decide +kernel)) ggX8_none_X8_hasMoveOf
set_option maxRecDepth 20000 in
theorem ggX8_none_X0_at : GoodIn wsX8_none wsX0_at := goodIn_r _ [16, 17, 18, 84, 85] (by decide +kernel) (by decide +kernel)
set_option maxRecDepth 20000 in
theorem gX8_none_X0_at : GoodIn wsX8_none (wsV RX8 111 RX0 yX0_at wsX0_at) := goodIn_app (goodIn_of _ (by decide +kernel)) ggX8_none_X0_at
set_option maxRecDepth 20000 in
theorem ggX8_none_X3_at : GoodIn wsX8_none wsX3_at := goodIn_r _ [31, 24, 32, 26, 7, 27, 86, 87, 88] (by decide +kernel) (by decide +kernel)
set_option maxRecDepth 20000 in
theorem gX8_none_X3_at : GoodIn wsX8_none (wsV RX8 136 RX3 yX3_at wsX3_at) := goodIn_app (goodIn_of _ (by decide +kernel)) ggX8_none_X3_at
set_option maxRecDepth 20000 in
theorem ggX8_none_X8_change : GoodIn wsX8_none wsX8_change := goodIn_r _ [36, 37, 2, 38, 39, 40, 41, 42, 43, 44, 45, 46, 47, 48, 49, 50, 51, 52, 53, 54, 55, 56, 15, 57, 17, 18, 58, 59, 60, 22, 61, 24, 32, 62, 63, 64, 65, 28, 29, 30, 31, 26, 7, 27, 66, 67, 68, 69, 70, 20, 21, 23, 71, 72, 73, 74, 75, 76, 77, 78, 79, 80, 81, 82, 83, 89, 90, 91, 84, 85, 86, 87, 88] (by decide +kernel) (by decide +kernel)
set_option maxRecDepth 20000 in
theorem gX8_none_X8_change : GoodIn wsX8_none (wsV RX8 132 RX8 yX8_change wsX8_change) := goodIn_app (goodIn_of _ (by decide +kernel)) ggX8_none_X8_change
theorem dX8_none_0 : decode cX8_none 0 = .ok (.aload_n 0, 1) := by decide +kernel
theorem dX8_none_1 : decode cX8_none 1 = .ok (.iload_n 1, 1) := by decide +kernel
theorem dX8_none_2 : decode cX8_none 2 = .ok (.iload_n 2, 1) := by decide +kernel
theorem dX8_none_3 : decode cX8_none 3 = .ok (.iload_n 3, 1) := by decide +kernel
theorem dX8_none_4 : decode cX8_none 4 = .ok (.invokevirtual 122, 3) := by decide +kernel
theorem dX8_none_7 : decode cX8_none 7 = .ok (.ifCond .ne 6, 3) := by decide +kernel
theorem dX8_none_10 : decode cX8_none 10 = .ok (.ldc 96, 2) := by decide +kernel
theorem dX8_none_12 : decode cX8_none 12 = .ok (.ireturn, 1) := by decide +kernel
theorem dX8_none_13 : decode cX8_none 13 = .ok (.aload_n 0, 1) := by decide +kernel
theorem dX8_none_14 : decode cX8_none 14 = .ok (.getfield 12, 3) := by decide +kernel
theorem dX8_none_17 : decode cX8_none 17 = .ok (.iload_n 1, 1) := by decide +kernel
theorem dX8_none_18 : decode cX8_none 18 = .ok (.invokevirtual 111, 3) := by decide +kernel
theorem dX8_none_21 : decode cX8_none 21 = .ok (.iload_n 2, 1) := by decide +kernel
theorem dX8_none_22 : decode cX8_none 22 = .ok (.iload_n 3, 1) := by decide +kernel
theorem dX8_none_23 : decode cX8_none 23 = .ok (.invokevirtual 136, 3) := by decide +kernel
theorem dX8_none_26 : decode cX8_none 26 = .ok (.iconst (-1), 1) := by decide +kernel
theorem dX8_none_27 : decode cX8_none 27 = .ok (.if_icmp .ne 6, 3) := by decide +kernel
theorem dX8_none_30 : decode cX8_none 30 = .ok (.ldc 139, 2) := by decide +kernel
theorem dX8_none_32 : decode cX8_none 32 = .ok (.ireturn, 1) := by decide +kernel
theorem dX8_none_33 : decode cX8_none 33 = .ok (.aload_n 0, 1) := by decide +kernel
theorem dX8_none_34 : decode cX8_none 34 = .ok (.aload_n 0, 1) := by decide +kernel
theorem dX8_none_35 : decode cX8_none 35 = .ok (.getfield 12, 3) := by decide +kernel
theorem dX8_none_38 : decode cX8_none 38 = .ok (.iload_n 1, 1) := by decide +kernel
theorem dX8_none_39 : decode cX8_none 39 = .ok (.invokevirtual 111, 3) := by decide +kernel
theorem dX8_none_42 : decode cX8_none 42 = .ok (.iload_n 2, 1) := by decide +kernel
theorem dX8_none_43 : decode cX8_none 43 = .ok (.iload_n 3, 1) := by decide +kernel
theorem dX8_none_44 : decode cX8_none 44 = .ok (.iconst (-1), 1) := by decide +kernel
theorem dX8_none_45 : decode cX8_none 45 = .ok (.invokevirtual 132, 3) := by decide +kernel
theorem dX8_none_48 : decode cX8_none 48 = .ok (.ireturn, 1) := by decide +kernel
set_option maxRecDepth 20000 in
theorem ggX8_states_X8_isMachine : GoodIn wsX8_states wsX8_isMachine := goodIn_r _ [8] (by decide +kernel) (by decide +kernel)
set_option maxRecDepth 20000 in
theorem gX8_states_X8_isMachine : GoodIn wsX8_states (va_wsS RX8 93 yX8_isMachine wsX8_isMachine) := goodIn_app (goodIn_of _ (by decide +kernel)) ggX8_states_X8_isMachine
set_option maxRecDepth 20000 in
theorem ggX8_states_X2_remember : GoodIn wsX8_states wsX2_remember := goodIn_r _ [13, 14, 15, 16, 17, 18, 19, 20, 21, 22, 12, 23, 24, 25, 26, 27, 28, 29, 30, 31, 32, 33, 34, 35, 36, 37, 38, 39, 40, 41, 42, 76, 77, 78, 79, 80, 81, 82, 83] (by decide +kernel) (by decide +kernel)
set_option maxRecDepth 20000 in
theorem gX8_states_X2_remember : GoodIn wsX8_states (wsV RX8 107 RX2 yX2_remember wsX2_remember) := goodIn_app (goodIn_of _ (by decide +kernel)) ggX8_states_X2_remember
set_option maxRecDepth 20000 in
theorem ggX8_states_X0_at : GoodIn wsX8_states wsX0_at := goodIn_r _ [46, 30, 31, 79, 80] (by decide +kernel) (by decide +kernel)
set_option maxRecDepth 20000 in
theorem gX8_states_X0_at : GoodIn wsX8_states (wsV RX8 111 RX0 yX0_at wsX0_at) := goodIn_app (goodIn_of _ (by decide +kernel)) ggX8_states_X0_at
set_option maxRecDepth 20000 in
theorem ggX8_states_X3_size : GoodIn wsX8_states wsX3_size := goodIn_r _ [50, 37, 81, 82, 83] (by decide +kernel) (by decide +kernel)
set_option maxRecDepth 20000 in
theorem gX8_states_X3_size : GoodIn wsX8_states (wsV RX8 119 RX3 yX3_size wsX3_size) := goodIn_app (goodIn_of _ (by decide +kernel)) ggX8_states_X3_size
set_option maxRecDepth 20000 in
theorem ggX8_states_X3_empty : GoodIn wsX8_states wsX3_empty := goodIn_r _ [54, 55, 56, 18, 57, 58, 17, 19, 37, 38, 59, 60, 61, 62, 81, 82, 83] (by decide +kernel) (by decide +kernel)
set_option maxRecDepth 20000 in
theorem gX8_states_X3_empty : GoodIn wsX8_states (wsV RX8 140 RX3 yX3_empty wsX3_empty) := goodIn_app (goodIn_of _ (by decide +kernel)) ggX8_states_X3_empty
theorem dX8_states_0 : decode cX8_states 0 = .ok (.iload_n 1, 1) := by decide +kernel
theorem dX8_states_1 : decode cX8_states 1 = .ok (.invokestatic 93, 3) := by decide +kernel
theorem dX8_states_4 : decode cX8_states 4 = .ok (.ifCond .ne 6, 3) := by decide +kernel
theorem dX8_states_7 : decode cX8_states 7 = .ok (.ldc 96, 2) := by decide +kernel
theorem dX8_states_9 : decode cX8_states 9 = .ok (.ireturn, 1) := by decide +kernel
theorem dX8_states_10 : decode cX8_states 10 = .ok (.iload_n 2, 1) := by decide +kernel
theorem dX8_states_11 : decode cX8_states 11 = .ok (.iconst 1, 1) := by decide +kernel
theorem dX8_states_12 : decode cX8_states 12 = .ok (.if_icmp .lt 8, 3) := by decide +kernel
theorem dX8_states_15 : decode cX8_states 15 = .ok (.iload_n 2, 1) := by decide +kernel
theorem dX8_states_16 : decode cX8_states 16 = .ok (.iconst 4, 1) := by decide +kernel
theorem dX8_states_17 : decode cX8_states 17 = .ok (.if_icmp .le 6, 3) := by decide +kernel
theorem dX8_states_20 : decode cX8_states 20 = .ok (.ldc 83, 2) := by decide +kernel
theorem dX8_states_22 : decode cX8_states 22 = .ok (.ireturn, 1) := by decide +kernel
theorem dX8_states_23 : decode cX8_states 23 = .ok (.aload_n 0, 1) := by decide +kernel
theorem dX8_states_24 : decode cX8_states 24 = .ok (.getfield 19, 3) := by decide +kernel
theorem dX8_states_27 : decode cX8_states 27 = .ok (.aload_n 0, 1) := by decide +kernel
theorem dX8_states_28 : decode cX8_states 28 = .ok (.getfield 12, 3) := by decide +kernel
theorem dX8_states_31 : decode cX8_states 31 = .ok (.invokevirtual 107, 3) := by decide +kernel
theorem dX8_states_34 : decode cX8_states 34 = .ok (.aload_n 0, 1) := by decide +kernel
theorem dX8_states_35 : decode cX8_states 35 = .ok (.getfield 12, 3) := by decide +kernel
theorem dX8_states_38 : decode cX8_states 38 = .ok (.iload_n 1, 1) := by decide +kernel
theorem dX8_states_39 : decode cX8_states 39 = .ok (.invokevirtual 111, 3) := by decide +kernel
theorem dX8_states_42 : decode cX8_states 42 = .ok (.invokevirtual 119, 3) := by decide +kernel
theorem dX8_states_45 : decode cX8_states 45 = .ok (.istore_n 3, 1) := by decide +kernel
theorem dX8_states_46 : decode cX8_states 46 = .ok (.aload_n 0, 1) := by decide +kernel
theorem dX8_states_47 : decode cX8_states 47 = .ok (.getfield 12, 3) := by decide +kernel
theorem dX8_states_50 : decode cX8_states 50 = .ok (.iload_n 1, 1) := by decide +kernel
theorem dX8_states_51 : decode cX8_states 51 = .ok (.invokevirtual 111, 3) := by decide +kernel
theorem dX8_states_54 : decode cX8_states 54 = .ok (.iload_n 2, 1) := by decide +kernel
theorem dX8_states_55 : decode cX8_states 55 = .ok (.invokevirtual 140, 3) := by decide +kernel
theorem dX8_states_58 : decode cX8_states 58 = .ok (.iload_n 3, 1) := by decide +kernel
theorem dX8_states_59 : decode cX8_states 59 = .ok (.ireturn, 1) := by decide +kernel
set_option maxRecDepth 20000 in
theorem ggX8_drift_X8_isMachine : GoodIn wsX8_drift wsX8_isMachine := goodIn_r _ [9] (by decide +kernel) (by decide +kernel)
set_option maxRecDepth 20000 in
theorem gX8_drift_X8_isMachine : GoodIn wsX8_drift (va_wsS RX8 93 yX8_isMachine wsX8_isMachine) := goodIn_app (goodIn_of _ (by decide +kernel)) ggX8_drift_X8_isMachine
set_option maxRecDepth 20000 in
theorem ggX8_drift_X2_remember : GoodIn wsX8_drift wsX2_remember := goodIn_r _ [14, 15, 16, 17, 18, 19, 20, 21, 22, 23, 13, 24, 25, 26, 27, 28, 29, 30, 31, 32, 33, 34, 35, 36, 37, 38, 39, 40, 41, 42, 43, 90, 91, 92, 93, 94, 95, 96, 97] (by decide +kernel) (by decide +kernel)
set_option maxRecDepth 20000 in
theorem gX8_drift_X2_remember : GoodIn wsX8_drift (wsV RX8 107 RX2 yX2_remember wsX2_remember) := goodIn_app (goodIn_of _ (by decide +kernel)) ggX8_drift_X2_remember
set_option maxRecDepth 20000 in
theorem ggX8_drift_X0_at : GoodIn wsX8_drift wsX0_at := goodIn_r _ [47, 31, 32, 93, 94] (by decide +kernel) (by decide +kernel)
set_option maxRecDepth 20000 in
theorem gX8_drift_X0_at : GoodIn wsX8_drift (wsV RX8 111 RX0 yX0_at wsX0_at) := goodIn_app (goodIn_of _ (by decide +kernel)) ggX8_drift_X0_at
set_option maxRecDepth 20000 in
theorem ggX8_drift_X3_drawLots : GoodIn wsX8_drift wsX3_drawLots := goodIn_r _ [51, 52, 38, 53, 54, 55, 36, 56, 57, 58, 59, 60, 61, 62, 63, 64, 65, 66, 39, 67, 68, 69, 70, 71, 8, 72, 95, 96, 97] (by decide +kernel) (by decide +kernel)
set_option maxRecDepth 20000 in
theorem gX8_drift_X3_drawLots : GoodIn wsX8_drift (wsV RX8 145 RX3 yX3_drawLots wsX3_drawLots) := goodIn_app (goodIn_of _ (by decide +kernel)) ggX8_drift_X3_drawLots
set_option maxRecDepth 20000 in
theorem ggX8_drift_X3_countMoves : GoodIn wsX8_drift wsX3_countMoves := goodIn_r _ [76, 39, 95, 96, 97] (by decide +kernel) (by decide +kernel)
set_option maxRecDepth 20000 in
theorem gX8_drift_X3_countMoves : GoodIn wsX8_drift (wsV RX8 148 RX3 yX3_countMoves wsX3_countMoves) := goodIn_app (goodIn_of _ (by decide +kernel)) ggX8_drift_X3_countMoves
theorem dX8_drift_0 : decode cX8_drift 0 = .ok (.iload_n 1, 1) := by decide +kernel
theorem dX8_drift_1 : decode cX8_drift 1 = .ok (.invokestatic 93, 3) := by decide +kernel
theorem dX8_drift_4 : decode cX8_drift 4 = .ok (.ifCond .ne 6, 3) := by decide +kernel
theorem dX8_drift_7 : decode cX8_drift 7 = .ok (.ldc 96, 2) := by decide +kernel
theorem dX8_drift_9 : decode cX8_drift 9 = .ok (.ireturn, 1) := by decide +kernel
theorem dX8_drift_10 : decode cX8_drift 10 = .ok (.iload_n 2, 1) := by decide +kernel
theorem dX8_drift_11 : decode cX8_drift 11 = .ok (.iconst 1, 1) := by decide +kernel
theorem dX8_drift_12 : decode cX8_drift 12 = .ok (.if_icmp .lt 9, 3) := by decide +kernel
theorem dX8_drift_15 : decode cX8_drift 15 = .ok (.iload_n 2, 1) := by decide +kernel
theorem dX8_drift_16 : decode cX8_drift 16 = .ok (.ldc 144, 2) := by decide +kernel
theorem dX8_drift_18 : decode cX8_drift 18 = .ok (.if_icmp .le 6, 3) := by decide +kernel
theorem dX8_drift_21 : decode cX8_drift 21 = .ok (.ldc 83, 2) := by decide +kernel
theorem dX8_drift_23 : decode cX8_drift 23 = .ok (.ireturn, 1) := by decide +kernel
theorem dX8_drift_24 : decode cX8_drift 24 = .ok (.aload_n 0, 1) := by decide +kernel
theorem dX8_drift_25 : decode cX8_drift 25 = .ok (.getfield 19, 3) := by decide +kernel
theorem dX8_drift_28 : decode cX8_drift 28 = .ok (.aload_n 0, 1) := by decide +kernel
theorem dX8_drift_29 : decode cX8_drift 29 = .ok (.getfield 12, 3) := by decide +kernel
theorem dX8_drift_32 : decode cX8_drift 32 = .ok (.invokevirtual 107, 3) := by decide +kernel
theorem dX8_drift_35 : decode cX8_drift 35 = .ok (.aload_n 0, 1) := by decide +kernel
theorem dX8_drift_36 : decode cX8_drift 36 = .ok (.getfield 12, 3) := by decide +kernel
theorem dX8_drift_39 : decode cX8_drift 39 = .ok (.iload_n 1, 1) := by decide +kernel
theorem dX8_drift_40 : decode cX8_drift 40 = .ok (.invokevirtual 111, 3) := by decide +kernel
theorem dX8_drift_43 : decode cX8_drift 43 = .ok (.iload_n 2, 1) := by decide +kernel
theorem dX8_drift_44 : decode cX8_drift 44 = .ok (.invokevirtual 145, 3) := by decide +kernel
theorem dX8_drift_47 : decode cX8_drift 47 = .ok (.aload_n 0, 1) := by decide +kernel
theorem dX8_drift_48 : decode cX8_drift 48 = .ok (.getfield 12, 3) := by decide +kernel
theorem dX8_drift_51 : decode cX8_drift 51 = .ok (.iload_n 1, 1) := by decide +kernel
theorem dX8_drift_52 : decode cX8_drift 52 = .ok (.invokevirtual 111, 3) := by decide +kernel
theorem dX8_drift_55 : decode cX8_drift 55 = .ok (.invokevirtual 148, 3) := by decide +kernel
theorem dX8_drift_58 : decode cX8_drift 58 = .ok (.ireturn, 1) := by decide +kernel
set_option maxRecDepth 20000 in
theorem ggX8_swap_X2_remember : GoodIn wsX8_swap wsX2_remember := goodIn_r _ [8, 9, 10, 11, 12, 13, 14, 15, 16, 17, 7, 18, 19, 20, 21, 22, 23, 24, 25, 26, 27, 28, 29, 30, 31, 32, 33, 34, 35, 36, 37, 63, 64, 65, 66, 67, 68, 69, 70] (by decide +kernel) (by decide +kernel)
set_option maxRecDepth 20000 in
theorem gX8_swap_X2_remember : GoodIn wsX8_swap (wsV RX8 107 RX2 yX2_remember wsX2_remember) := goodIn_app (goodIn_of _ (by decide +kernel)) ggX8_swap_X2_remember
set_option maxRecDepth 20000 in
theorem ggX8_swap_X0_at : GoodIn wsX8_swap wsX0_at := goodIn_r _ [41, 25, 26, 66, 67] (by decide +kernel) (by decide +kernel)
set_option maxRecDepth 20000 in
theorem gX8_swap_X0_at : GoodIn wsX8_swap (wsV RX8 111 RX0 yX0_at wsX0_at) := goodIn_app (goodIn_of _ (by decide +kernel)) ggX8_swap_X0_at
set_option maxRecDepth 20000 in
theorem ggX8_swap_X3_isLike : GoodIn wsX8_swap wsX3_isLike := goodIn_r _ [45, 33, 32, 68, 69, 70] (by decide +kernel) (by decide +kernel)
set_option maxRecDepth 20000 in
theorem gX8_swap_X3_isLike : GoodIn wsX8_swap (wsV RX8 151 RX3 yX3_isLike wsX3_isLike) := goodIn_app (goodIn_of _ (by decide +kernel)) ggX8_swap_X3_isLike
set_option maxRecDepth 20000 in
theorem ggX8_swap_X0_changePlaces : GoodIn wsX8_swap wsX0_changePlaces := goodIn_r _ [49, 25, 26, 27, 28, 29, 30, 31, 32, 33, 34, 35, 36, 37, 66, 67, 68, 69, 70] (by decide +kernel) (by decide +kernel)
set_option maxRecDepth 20000 in
theorem gX8_swap_X0_changePlaces : GoodIn wsX8_swap (wsV RX8 155 RX0 yX0_changePlaces wsX0_changePlaces) := goodIn_app (goodIn_of _ (by decide +kernel)) ggX8_swap_X0_changePlaces
theorem dX8_swap_0 : decode cX8_swap 0 = .ok (.aload_n 0, 1) := by decide +kernel
theorem dX8_swap_1 : decode cX8_swap 1 = .ok (.getfield 19, 3) := by decide +kernel
theorem dX8_swap_4 : decode cX8_swap 4 = .ok (.aload_n 0, 1) := by decide +kernel
theorem dX8_swap_5 : decode cX8_swap 5 = .ok (.getfield 12, 3) := by decide +kernel
theorem dX8_swap_8 : decode cX8_swap 8 = .ok (.invokevirtual 107, 3) := by decide +kernel
theorem dX8_swap_11 : decode cX8_swap 11 = .ok (.aload_n 0, 1) := by decide +kernel
theorem dX8_swap_12 : decode cX8_swap 12 = .ok (.getfield 12, 3) := by decide +kernel
theorem dX8_swap_15 : decode cX8_swap 15 = .ok (.iconst 0, 1) := by decide +kernel
theorem dX8_swap_16 : decode cX8_swap 16 = .ok (.invokevirtual 111, 3) := by decide +kernel
theorem dX8_swap_19 : decode cX8_swap 19 = .ok (.aload_n 0, 1) := by decide +kernel
theorem dX8_swap_20 : decode cX8_swap 20 = .ok (.getfield 12, 3) := by decide +kernel
theorem dX8_swap_23 : decode cX8_swap 23 = .ok (.iconst 1, 1) := by decide +kernel
theorem dX8_swap_24 : decode cX8_swap 24 = .ok (.invokevirtual 111, 3) := by decide +kernel
theorem dX8_swap_27 : decode cX8_swap 27 = .ok (.invokevirtual 151, 3) := by decide +kernel
theorem dX8_swap_30 : decode cX8_swap 30 = .ok (.istore_n 1, 1) := by decide +kernel
theorem dX8_swap_31 : decode cX8_swap 31 = .ok (.aload_n 0, 1) := by decide +kernel
theorem dX8_swap_32 : decode cX8_swap 32 = .ok (.getfield 12, 3) := by decide +kernel
theorem dX8_swap_35 : decode cX8_swap 35 = .ok (.aload_n 0, 1) := by decide +kernel
theorem dX8_swap_36 : decode cX8_swap 36 = .ok (.getfield 41, 3) := by decide +kernel
theorem dX8_swap_39 : decode cX8_swap 39 = .ok (.invokevirtual 155, 3) := by decide +kernel
theorem dX8_swap_42 : decode cX8_swap 42 = .ok (.iload_n 1, 1) := by decide +kernel
theorem dX8_swap_43 : decode cX8_swap 43 = .ok (.ifCond .eq 7, 3) := by decide +kernel
theorem dX8_swap_46 : decode cX8_swap 46 = .ok (.iconst 0, 1) := by decide +kernel
theorem dX8_swap_47 : decode cX8_swap 47 = .ok (.goto 4, 3) := by decide +kernel
theorem dX8_swap_50 : decode cX8_swap 50 = .ok (.iconst 1, 1) := by decide +kernel
theorem dX8_swap_51 : decode cX8_swap 51 = .ok (.ireturn, 1) := by decide +kernel
set_option maxRecDepth 20000 in
theorem ggX8_undo_X2_stepBack : GoodIn wsX8_undo wsX2_stepBack := goodIn_r _ [8, 9, 10, 11, 12, 13, 7, 14, 15, 16, 17, 18, 19, 20, 21, 22, 23, 24, 25, 26, 27, 28, 29, 30, 31, 32, 33, 51, 52, 53, 54, 55, 56, 57, 58] (by decide +kernel) (by decide +kernel)
set_option maxRecDepth 20000 in
theorem gX8_undo_X2_stepBack : GoodIn wsX8_undo (wsV RX8 158 RX2 yX2_stepBack wsX2_stepBack) := goodIn_app (goodIn_of _ (by decide +kernel)) ggX8_undo_X2_stepBack
set_option maxRecDepth 20000 in
theorem ggX8_undo_X2_size : GoodIn wsX8_undo wsX2_size := goodIn_r _ [37, 9, 51, 52, 53] (by decide +kernel) (by decide +kernel)
set_option maxRecDepth 20000 in
theorem gX8_undo_X2_size : GoodIn wsX8_undo (wsV RX8 162 RX2 yX2_size wsX2_size) := goodIn_app (goodIn_of _ (by decide +kernel)) ggX8_undo_X2_size
theorem dX8_undo_0 : decode cX8_undo 0 = .ok (.aload_n 0, 1) := by decide +kernel
theorem dX8_undo_1 : decode cX8_undo 1 = .ok (.getfield 19, 3) := by decide +kernel
theorem dX8_undo_4 : decode cX8_undo 4 = .ok (.aload_n 0, 1) := by decide +kernel
theorem dX8_undo_5 : decode cX8_undo 5 = .ok (.getfield 12, 3) := by decide +kernel
theorem dX8_undo_8 : decode cX8_undo 8 = .ok (.invokevirtual 158, 3) := by decide +kernel
theorem dX8_undo_11 : decode cX8_undo 11 = .ok (.ifCond .eq 13, 3) := by decide +kernel
theorem dX8_undo_14 : decode cX8_undo 14 = .ok (.aload_n 0, 1) := by decide +kernel
theorem dX8_undo_15 : decode cX8_undo 15 = .ok (.getfield 19, 3) := by decide +kernel
theorem dX8_undo_18 : decode cX8_undo 18 = .ok (.invokevirtual 162, 3) := by decide +kernel
theorem dX8_undo_21 : decode cX8_undo 21 = .ok (.goto 5, 3) := by decide +kernel
theorem dX8_undo_24 : decode cX8_undo 24 = .ok (.ldc 139, 2) := by decide +kernel
theorem dX8_undo_26 : decode cX8_undo 26 = .ok (.ireturn, 1) := by decide +kernel
set_option maxRecDepth 20000 in
theorem ggX8_moveOf_X8_hasMoveOf : GoodIn wsX8_moveOf wsX8_hasMoveOf := goodIn_r _ [7, 1, 8, 9, 6, 10, 11, 12, 13, 14, 15, 16, 17, 18, 19, 20, 21, 22, 23, 24, 25, 26, 32, 33, 34, 35, 36, 37, 38, 39, 40, 41, 42, 43, 44, 45, 46, 47, 48, 49] (by decide +kernel) (by decide +kernel)
set_option maxRecDepth 20000 in
theorem gX8_moveOf_X8_hasMoveOf : GoodIn wsX8_moveOf (wsV RX8 122 RX8 yX8_hasMoveOf wsX8_hasMoveOf) := goodIn_app (goodIn_of _ (by decide +kernel)) ggX8_moveOf_X8_hasMoveOf
set_option maxRecDepth 20000 in
theorem ggX8_moveOf_X0_at : GoodIn wsX8_moveOf wsX0_at := goodIn_r _ [15, 16, 17, 45, 46] (by decide +kernel) (by decide +kernel)
set_option maxRecDepth 20000 in
theorem gX8_moveOf_X0_at : GoodIn wsX8_moveOf (wsV RX8 111 RX0 yX0_at wsX0_at) := goodIn_app (goodIn_of _ (by decide +kernel)) ggX8_moveOf_X0_at
set_option maxRecDepth 20000 in
theorem ggX8_moveOf_X3_at : GoodIn wsX8_moveOf wsX3_at := goodIn_r _ [30, 23, 31, 25, 6, 26, 47, 48, 49] (by decide +kernel) (by decide +kernel)
set_option maxRecDepth 20000 in
theorem gX8_moveOf_X3_at : GoodIn wsX8_moveOf (wsV RX8 136 RX3 yX3_at wsX3_at) := goodIn_app (goodIn_of _ (by decide +kernel)) ggX8_moveOf_X3_at
theorem dX8_moveOf_0 : decode cX8_moveOf 0 = .ok (.aload_n 0, 1) := by decide +kernel
theorem dX8_moveOf_1 : decode cX8_moveOf 1 = .ok (.iload_n 1, 1) := by decide +kernel
theorem dX8_moveOf_2 : decode cX8_moveOf 2 = .ok (.iload_n 2, 1) := by decide +kernel
theorem dX8_moveOf_3 : decode cX8_moveOf 3 = .ok (.iload_n 3, 1) := by decide +kernel
theorem dX8_moveOf_4 : decode cX8_moveOf 4 = .ok (.invokevirtual 122, 3) := by decide +kernel
theorem dX8_moveOf_7 : decode cX8_moveOf 7 = .ok (.ifCond .eq 19, 3) := by decide +kernel
theorem dX8_moveOf_10 : decode cX8_moveOf 10 = .ok (.aload_n 0, 1) := by decide +kernel
theorem dX8_moveOf_11 : decode cX8_moveOf 11 = .ok (.getfield 12, 3) := by decide +kernel
theorem dX8_moveOf_14 : decode cX8_moveOf 14 = .ok (.iload_n 1, 1) := by decide +kernel
theorem dX8_moveOf_15 : decode cX8_moveOf 15 = .ok (.invokevirtual 111, 3) := by decide +kernel
theorem dX8_moveOf_18 : decode cX8_moveOf 18 = .ok (.iload_n 2, 1) := by decide +kernel
theorem dX8_moveOf_19 : decode cX8_moveOf 19 = .ok (.iload_n 3, 1) := by decide +kernel
theorem dX8_moveOf_20 : decode cX8_moveOf 20 = .ok (.invokevirtual 136, 3) := by decide +kernel
theorem dX8_moveOf_23 : decode cX8_moveOf 23 = .ok (.goto 5, 3) := by decide +kernel
theorem dX8_moveOf_26 : decode cX8_moveOf 26 = .ok (.ldc 96, 2) := by decide +kernel
theorem dX8_moveOf_28 : decode cX8_moveOf 28 = .ok (.ireturn, 1) := by decide +kernel
set_option maxRecDepth 20000 in
theorem ggX8_letter_X7_add : GoodIn wsX8_letter wsX7_add := goodIn_r _ [8, 9, 10, 28, 29] (by decide +kernel) (by decide +kernel)
set_option maxRecDepth 20000 in
theorem gX8_letter_X7_add : GoodIn wsX8_letter (wsV RX8 163 RX7 yX7_add wsX7_add) := goodIn_app (goodIn_of _ (by decide +kernel)) ggX8_letter_X7_add
set_option maxRecDepth 20000 in
theorem ggX8_letter_X7_length : GoodIn wsX8_letter wsX7_length := goodIn_r _ [14, 9, 28, 29] (by decide +kernel) (by decide +kernel)
set_option maxRecDepth 20000 in
theorem gX8_letter_X7_length : GoodIn wsX8_letter (wsV RX8 164 RX7 yX7_length wsX7_length) := goodIn_app (goodIn_of _ (by decide +kernel)) ggX8_letter_X7_length
theorem dX8_letter_0 : decode cX8_letter 0 = .ok (.iload_n 1, 1) := by decide +kernel
theorem dX8_letter_1 : decode cX8_letter 1 = .ok (.bipush 97, 2) := by decide +kernel
theorem dX8_letter_3 : decode cX8_letter 3 = .ok (.if_icmp .eq 12, 3) := by decide +kernel
theorem dX8_letter_6 : decode cX8_letter 6 = .ok (.iload_n 1, 1) := by decide +kernel
theorem dX8_letter_7 : decode cX8_letter 7 = .ok (.bipush 98, 2) := by decide +kernel
theorem dX8_letter_9 : decode cX8_letter 9 = .ok (.if_icmp .eq 6, 3) := by decide +kernel
theorem dX8_letter_12 : decode cX8_letter 12 = .ok (.ldc 83, 2) := by decide +kernel
theorem dX8_letter_14 : decode cX8_letter 14 = .ok (.ireturn, 1) := by decide +kernel
theorem dX8_letter_15 : decode cX8_letter 15 = .ok (.aload_n 0, 1) := by decide +kernel
theorem dX8_letter_16 : decode cX8_letter 16 = .ok (.getfield 48, 3) := by decide +kernel
theorem dX8_letter_19 : decode cX8_letter 19 = .ok (.iload_n 1, 1) := by decide +kernel
theorem dX8_letter_20 : decode cX8_letter 20 = .ok (.bipush 97, 2) := by decide +kernel
theorem dX8_letter_22 : decode cX8_letter 22 = .ok (.isub, 1) := by decide +kernel
theorem dX8_letter_23 : decode cX8_letter 23 = .ok (.invokevirtual 163, 3) := by decide +kernel
theorem dX8_letter_26 : decode cX8_letter 26 = .ok (.ifCond .eq 13, 3) := by decide +kernel
theorem dX8_letter_29 : decode cX8_letter 29 = .ok (.aload_n 0, 1) := by decide +kernel
theorem dX8_letter_30 : decode cX8_letter 30 = .ok (.getfield 48, 3) := by decide +kernel
theorem dX8_letter_33 : decode cX8_letter 33 = .ok (.invokevirtual 164, 3) := by decide +kernel
theorem dX8_letter_36 : decode cX8_letter 36 = .ok (.goto 5, 3) := by decide +kernel
theorem dX8_letter_39 : decode cX8_letter 39 = .ok (.ldc 92, 2) := by decide +kernel
theorem dX8_letter_41 : decode cX8_letter 41 = .ok (.ireturn, 1) := by decide +kernel
set_option maxRecDepth 20000 in
theorem ggX8_word_X7_become : GoodIn wsX8_word wsX7_become := goodIn_r _ [8, 9, 10, 11, 12, 7, 13, 14, 32, 33] (by decide +kernel) (by decide +kernel)
set_option maxRecDepth 20000 in
theorem gX8_word_X7_become : GoodIn wsX8_word (wsV RX8 166 RX7 yX7_become wsX7_become) := goodIn_app (goodIn_of _ (by decide +kernel)) ggX8_word_X7_become
set_option maxRecDepth 20000 in
theorem ggX8_word_X7_length : GoodIn wsX8_word wsX7_length := goodIn_r _ [18, 9, 32, 33] (by decide +kernel) (by decide +kernel)
set_option maxRecDepth 20000 in
theorem gX8_word_X7_length : GoodIn wsX8_word (wsV RX8 164 RX7 yX7_length wsX7_length) := goodIn_app (goodIn_of _ (by decide +kernel)) ggX8_word_X7_length
theorem dX8_word_0 : decode cX8_word 0 = .ok (.iload_n 1, 1) := by decide +kernel
theorem dX8_word_1 : decode cX8_word 1 = .ok (.iconst 1, 1) := by decide +kernel
theorem dX8_word_2 : decode cX8_word 2 = .ok (.if_icmp .lt 9, 3) := by decide +kernel
theorem dX8_word_5 : decode cX8_word 5 = .ok (.iload_n 1, 1) := by decide +kernel
theorem dX8_word_6 : decode cX8_word 6 = .ok (.ldc 165, 2) := by decide +kernel
theorem dX8_word_8 : decode cX8_word 8 = .ok (.if_icmp .lt 6, 3) := by decide +kernel
theorem dX8_word_11 : decode cX8_word 11 = .ok (.ldc 83, 2) := by decide +kernel
theorem dX8_word_13 : decode cX8_word 13 = .ok (.ireturn, 1) := by decide +kernel
theorem dX8_word_14 : decode cX8_word 14 = .ok (.aload_n 0, 1) := by decide +kernel
theorem dX8_word_15 : decode cX8_word 15 = .ok (.getfield 48, 3) := by decide +kernel
theorem dX8_word_18 : decode cX8_word 18 = .ok (.iload_n 1, 1) := by decide +kernel
theorem dX8_word_19 : decode cX8_word 19 = .ok (.invokevirtual 166, 3) := by decide +kernel
theorem dX8_word_22 : decode cX8_word 22 = .ok (.aload_n 0, 1) := by decide +kernel
theorem dX8_word_23 : decode cX8_word 23 = .ok (.getfield 48, 3) := by decide +kernel
theorem dX8_word_26 : decode cX8_word 26 = .ok (.invokevirtual 164, 3) := by decide +kernel
theorem dX8_word_29 : decode cX8_word 29 = .ok (.ireturn, 1) := by decide +kernel
set_option maxRecDepth 20000 in
theorem ggX8_wipe_X7_length : GoodIn wsX8_wipe wsX7_length := goodIn_r _ [6, 7, 30, 31] (by decide +kernel) (by decide +kernel)
set_option maxRecDepth 20000 in
theorem gX8_wipe_X7_length : GoodIn wsX8_wipe (wsV RX8 164 RX7 yX7_length wsX7_length) := goodIn_app (goodIn_of _ (by decide +kernel)) ggX8_wipe_X7_length
set_option maxRecDepth 20000 in
theorem ggX8_wipe_X7_become : GoodIn wsX8_wipe wsX7_become := goodIn_r _ [11, 7, 12, 13, 14, 5, 15, 16, 30, 31] (by decide +kernel) (by decide +kernel)
set_option maxRecDepth 20000 in
theorem gX8_wipe_X7_become : GoodIn wsX8_wipe (wsV RX8 166 RX7 yX7_become wsX7_become) := goodIn_app (goodIn_of _ (by decide +kernel)) ggX8_wipe_X7_become
theorem dX8_wipe_0 : decode cX8_wipe 0 = .ok (.aload_n 0, 1) := by decide +kernel
theorem dX8_wipe_1 : decode cX8_wipe 1 = .ok (.getfield 48, 3) := by decide +kernel
theorem dX8_wipe_4 : decode cX8_wipe 4 = .ok (.invokevirtual 164, 3) := by decide +kernel
theorem dX8_wipe_7 : decode cX8_wipe 7 = .ok (.istore_n 1, 1) := by decide +kernel
theorem dX8_wipe_8 : decode cX8_wipe 8 = .ok (.aload_n 0, 1) := by decide +kernel
theorem dX8_wipe_9 : decode cX8_wipe 9 = .ok (.getfield 48, 3) := by decide +kernel
theorem dX8_wipe_12 : decode cX8_wipe 12 = .ok (.iconst 1, 1) := by decide +kernel
theorem dX8_wipe_13 : decode cX8_wipe 13 = .ok (.invokevirtual 166, 3) := by decide +kernel
theorem dX8_wipe_16 : decode cX8_wipe 16 = .ok (.iload_n 1, 1) := by decide +kernel
theorem dX8_wipe_17 : decode cX8_wipe 17 = .ok (.ireturn, 1) := by decide +kernel
set_option maxRecDepth 20000 in
theorem ggX8_told_X7_length : GoodIn wsX8_told wsX7_length := goodIn_r _ [9, 10, 183, 184] (by decide +kernel) (by decide +kernel)
set_option maxRecDepth 20000 in
theorem gX8_told_X7_length : GoodIn wsX8_told (wsV RX8 164 RX7 yX7_length wsX7_length) := goodIn_app (goodIn_of _ (by decide +kernel)) ggX8_told_X7_length
set_option maxRecDepth 20000 in
theorem ggX8_told_X7_number : GoodIn wsX8_told wsX7_number := goodIn_r _ [14, 10, 15, 16, 17, 8, 18, 19, 183, 184] (by decide +kernel) (by decide +kernel)
set_option maxRecDepth 20000 in
theorem gX8_told_X7_number : GoodIn wsX8_told (wsV RX8 168 RX7 yX7_number wsX7_number) := goodIn_app (goodIn_of _ (by decide +kernel)) ggX8_told_X7_number
set_option maxRecDepth 20000 in
theorem ggX8_told_X6_length : GoodIn wsX8_told wsX6_length := goodIn_r _ [24, 25, 185, 186, 187, 188] (by decide +kernel) (by decide +kernel)
set_option maxRecDepth 20000 in
theorem gX8_told_X6_length : GoodIn wsX8_told (wsV RX8 88 RX6 yX6_length wsX6_length) := goodIn_app (goodIn_of _ (by decide +kernel)) ggX8_told_X6_length
set_option maxRecDepth 20000 in
theorem ggX8_told_X2_size : GoodIn wsX8_told wsX2_size := goodIn_r _ [30, 31, 189, 190, 191] (by decide +kernel) (by decide +kernel)
set_option maxRecDepth 20000 in
theorem gX8_told_X2_size : GoodIn wsX8_told (wsV RX8 162 RX2 yX2_size wsX2_size) := goodIn_app (goodIn_of _ (by decide +kernel)) ggX8_told_X2_size
set_option maxRecDepth 20000 in
theorem ggX8_told_X8_firstByRule : GoodIn wsX8_told wsX8_firstByRule := goodIn_r _ [36, 37, 38, 39, 40, 41, 42, 43, 44, 45, 46, 47, 48, 49, 50, 51, 52, 53, 54, 55, 56, 57, 58, 59, 60, 61, 62, 63, 64, 65, 66, 67, 68, 69, 70, 71, 72, 73, 74, 75, 76, 77, 78, 79, 80, 81, 82, 83, 84, 85, 86, 87, 88, 89, 90, 91, 92, 93, 94, 95, 96, 97, 98, 99, 100, 101, 102, 103, 35, 104, 105, 106, 107, 108, 109, 110, 111, 112, 113, 114, 115, 116, 117, 118, 119, 120, 121, 122, 123, 124, 125, 126, 127, 128, 129, 130, 131, 132, 133, 134, 135, 136, 137, 138, 139, 140, 141, 142, 143, 144, 145, 146, 147, 148, 149, 150, 151, 152, 153, 154, 155, 156, 157, 158, 159, 160, 161, 162, 163, 164, 165, 166, 170, 171, 172, 173, 174, 175, 176, 177, 178, 179, 180, 181, 182, 192, 193, 194, 195, 196, 197, 198, 199, 200, 201, 202, 203, 204, 205, 206, 207, 208, 209, 210, 211, 212, 213, 214, 215] (by decide +kernel) (by decide +kernel)
set_option maxRecDepth 20000 in
theorem gX8_told_X8_firstByRule : GoodIn wsX8_told (wsV RX8 171 RX8 yX8_firstByRule wsX8_firstByRule) := goodIn_app (goodIn_of _ (by decide +kernel)) ggX8_told_X8_firstByRule
set_option maxRecDepth 20000 in
theorem ggX8_told_X8_tellWhetherNone : GoodIn wsX8_told wsX8_tellWhetherNone := goodIn_r _ [169, 40] (by decide +kernel) (by decide +kernel)
set_option maxRecDepth 20000 in
theorem gX8_told_X8_tellWhetherNone : GoodIn wsX8_told (va_wsS RX8 175 yX8_tellWhetherNone wsX8_tellWhetherNone) := goodIn_app (goodIn_of _ (by decide +kernel)) ggX8_told_X8_tellWhetherNone
theorem dX8_told_0 : decode cX8_told 0 = .ok (.iload_n 1, 1) := by decide +kernel
theorem dX8_told_1 : decode cX8_told 1 = .ok (.tableswitch 76 0 4 #[35, 43, 51, 59, 67], 35) := by decide +kernel
theorem dX8_told_36 : decode cX8_told 36 = .ok (.aload_n 0, 1) := by decide +kernel
theorem dX8_told_37 : decode cX8_told 37 = .ok (.getfield 48, 3) := by decide +kernel
theorem dX8_told_40 : decode cX8_told 40 = .ok (.invokevirtual 164, 3) := by decide +kernel
theorem dX8_told_43 : decode cX8_told 43 = .ok (.ireturn, 1) := by decide +kernel
theorem dX8_told_44 : decode cX8_told 44 = .ok (.aload_n 0, 1) := by decide +kernel
theorem dX8_told_45 : decode cX8_told 45 = .ok (.getfield 48, 3) := by decide +kernel
theorem dX8_told_48 : decode cX8_told 48 = .ok (.invokevirtual 168, 3) := by decide +kernel
theorem dX8_told_51 : decode cX8_told 51 = .ok (.ireturn, 1) := by decide +kernel
theorem dX8_told_52 : decode cX8_told 52 = .ok (.aload_n 0, 1) := by decide +kernel
theorem dX8_told_53 : decode cX8_told 53 = .ok (.getfield 34, 3) := by decide +kernel
theorem dX8_told_56 : decode cX8_told 56 = .ok (.invokevirtual 88, 3) := by decide +kernel
theorem dX8_told_59 : decode cX8_told 59 = .ok (.ireturn, 1) := by decide +kernel
theorem dX8_told_60 : decode cX8_told 60 = .ok (.aload_n 0, 1) := by decide +kernel
theorem dX8_told_61 : decode cX8_told 61 = .ok (.getfield 19, 3) := by decide +kernel
theorem dX8_told_64 : decode cX8_told 64 = .ok (.invokevirtual 162, 3) := by decide +kernel
theorem dX8_told_67 : decode cX8_told 67 = .ok (.ireturn, 1) := by decide +kernel
theorem dX8_told_68 : decode cX8_told 68 = .ok (.aload_n 0, 1) := by decide +kernel
theorem dX8_told_69 : decode cX8_told 69 = .ok (.iconst 3, 1) := by decide +kernel
theorem dX8_told_70 : decode cX8_told 70 = .ok (.invokevirtual 171, 3) := by decide +kernel
theorem dX8_told_73 : decode cX8_told 73 = .ok (.invokestatic 175, 3) := by decide +kernel
theorem dX8_told_76 : decode cX8_told 76 = .ok (.ireturn, 1) := by decide +kernel
theorem dX8_told_77 : decode cX8_told 77 = .ok (.ldc 83, 2) := by decide +kernel
theorem dX8_told_79 : decode cX8_told 79 = .ok (.ireturn, 1) := by decide +kernel
set_option maxRecDepth 20000 in
theorem ggX8_run_X8_isMachine : GoodIn wsX8_run wsX8_isMachine := goodIn_r _ [9] (by decide +kernel) (by decide +kernel)
set_option maxRecDepth 20000 in
theorem gX8_run_X8_isMachine : GoodIn wsX8_run (va_wsS RX8 93 yX8_isMachine wsX8_isMachine) := goodIn_app (goodIn_of _ (by decide +kernel)) ggX8_run_X8_isMachine
set_option maxRecDepth 20000 in
theorem ggX8_run_X0_at : GoodIn wsX8_run wsX0_at := goodIn_r _ [14, 15, 16, 122, 123] (by decide +kernel) (by decide +kernel)
set_option maxRecDepth 20000 in
theorem gX8_run_X0_at : GoodIn wsX8_run (wsV RX8 111 RX0 yX0_at wsX0_at) := goodIn_app (goodIn_of _ (by decide +kernel)) ggX8_run_X0_at
set_option maxRecDepth 20000 in
theorem ggX8_run_X1_follow : GoodIn wsX8_run wsX1_follow := goodIn_r _ [21, 22, 23, 24, 25, 26, 27, 28, 29, 30, 31, 32, 33, 20, 34, 35, 36, 37, 38, 39, 40, 41, 42, 43, 44, 45, 46, 47, 48, 49, 50, 51, 52, 53, 54, 55, 56, 57, 58, 59, 60, 61, 62, 63, 64, 65, 8, 66, 67, 68, 69, 70, 71, 72, 73, 74, 75, 76, 77, 78, 79, 124, 125, 126, 127, 128, 129, 130, 131, 132, 133, 134, 135] (by decide +kernel) (by decide +kernel)
set_option maxRecDepth 20000 in
theorem gX8_run_X1_follow : GoodIn wsX8_run (wsV RX8 178 RX1 yX1_follow wsX1_follow) := goodIn_app (goodIn_of _ (by decide +kernel)) ggX8_run_X1_follow
set_option maxRecDepth 20000 in
theorem ggX8_run_X1_isTaken : GoodIn wsX8_run wsX1_isTaken := goodIn_r _ [83, 26, 124, 125, 126, 127, 128, 129, 130] (by decide +kernel) (by decide +kernel)
set_option maxRecDepth 20000 in
theorem gX8_run_X1_isTaken : GoodIn wsX8_run (wsV RX8 182 RX1 yX1_isTaken wsX1_isTaken) := goodIn_app (goodIn_of _ (by decide +kernel)) ggX8_run_X1_isTaken
set_option maxRecDepth 20000 in
theorem ggX8_run_X1_ending : GoodIn wsX8_run wsX1_ending := goodIn_r _ [87, 26, 124, 125, 126, 127, 128, 129, 130] (by decide +kernel) (by decide +kernel)
set_option maxRecDepth 20000 in
theorem gX8_run_X1_ending : GoodIn wsX8_run (wsV RX8 186 RX1 yX1_ending wsX1_ending) := goodIn_app (goodIn_of _ (by decide +kernel)) ggX8_run_X1_ending
set_option maxRecDepth 20000 in
theorem ggX8_run_X1_steps : GoodIn wsX8_run wsX1_steps := goodIn_r _ [91, 23, 124, 125, 126, 127, 128, 129, 130] (by decide +kernel) (by decide +kernel)
set_option maxRecDepth 20000 in
theorem gX8_run_X1_steps : GoodIn wsX8_run (wsV RX8 189 RX1 yX1_steps wsX1_steps) := goodIn_app (goodIn_of _ (by decide +kernel)) ggX8_run_X1_steps
set_option maxRecDepth 20000 in
theorem ggX8_run_X1_lastState : GoodIn wsX8_run wsX1_lastState := goodIn_r _ [95, 24, 124, 125, 126, 127, 128, 129, 130] (by decide +kernel) (by decide +kernel)
set_option maxRecDepth 20000 in
theorem gX8_run_X1_lastState : GoodIn wsX8_run (wsV RX8 192 RX1 yX1_lastState wsX1_lastState) := goodIn_app (goodIn_of _ (by decide +kernel)) ggX8_run_X1_lastState
set_option maxRecDepth 20000 in
theorem ggX8_run_X7_length : GoodIn wsX8_run wsX7_length := goodIn_r _ [39, 40, 131, 132] (by decide +kernel) (by decide +kernel)
set_option maxRecDepth 20000 in
theorem gX8_run_X7_length : GoodIn wsX8_run (wsV RX8 164 RX7 yX7_length wsX7_length) := goodIn_app (goodIn_of _ (by decide +kernel)) ggX8_run_X7_length
set_option maxRecDepth 20000 in
theorem ggX8_run_X1_countGaps : GoodIn wsX8_run wsX1_countGaps := goodIn_r _ [100, 101, 102, 103, 20, 104, 23, 78, 124, 125, 126, 127, 128, 129, 130] (by decide +kernel) (by decide +kernel)
set_option maxRecDepth 20000 in
theorem gX8_run_X1_countGaps : GoodIn wsX8_run (wsV RX8 195 RX1 yX1_countGaps wsX1_countGaps) := goodIn_app (goodIn_of _ (by decide +kernel)) ggX8_run_X1_countGaps
set_option maxRecDepth 20000 in
theorem ggX8_run_X1_busiestGap : GoodIn wsX8_run wsX1_busiestGap := goodIn_r _ [108, 101, 102, 103, 20, 104, 23, 78, 124, 125, 126, 127, 128, 129, 130] (by decide +kernel) (by decide +kernel)
set_option maxRecDepth 20000 in
theorem gX8_run_X1_busiestGap : GoodIn wsX8_run (wsV RX8 198 RX1 yX1_busiestGap wsX1_busiestGap) := goodIn_app (goodIn_of _ (by decide +kernel)) ggX8_run_X1_busiestGap
theorem dX8_run_0 : decode cX8_run 0 = .ok (.iload_n 1, 1) := by decide +kernel
theorem dX8_run_1 : decode cX8_run 1 = .ok (.invokestatic 93, 3) := by decide +kernel
theorem dX8_run_4 : decode cX8_run 4 = .ok (.ifCond .ne 6, 3) := by decide +kernel
theorem dX8_run_7 : decode cX8_run 7 = .ok (.ldc 96, 2) := by decide +kernel
theorem dX8_run_9 : decode cX8_run 9 = .ok (.ireturn, 1) := by decide +kernel
theorem dX8_run_10 : decode cX8_run 10 = .ok (.iload_n 2, 1) := by decide +kernel
theorem dX8_run_11 : decode cX8_run 11 = .ok (.ifCond .lt 8, 3) := by decide +kernel
theorem dX8_run_14 : decode cX8_run 14 = .ok (.iload_n 2, 1) := by decide +kernel
theorem dX8_run_15 : decode cX8_run 15 = .ok (.iconst 5, 1) := by decide +kernel
theorem dX8_run_16 : decode cX8_run 16 = .ok (.if_icmp .le 6, 3) := by decide +kernel
theorem dX8_run_19 : decode cX8_run 19 = .ok (.ldc 83, 2) := by decide +kernel
theorem dX8_run_21 : decode cX8_run 21 = .ok (.ireturn, 1) := by decide +kernel
theorem dX8_run_22 : decode cX8_run 22 = .ok (.aload_n 0, 1) := by decide +kernel
theorem dX8_run_23 : decode cX8_run 23 = .ok (.getfield 58, 3) := by decide +kernel
theorem dX8_run_26 : decode cX8_run 26 = .ok (.aload_n 0, 1) := by decide +kernel
theorem dX8_run_27 : decode cX8_run 27 = .ok (.getfield 12, 3) := by decide +kernel
theorem dX8_run_30 : decode cX8_run 30 = .ok (.iload_n 1, 1) := by decide +kernel
theorem dX8_run_31 : decode cX8_run 31 = .ok (.invokevirtual 111, 3) := by decide +kernel
theorem dX8_run_34 : decode cX8_run 34 = .ok (.aload_n 0, 1) := by decide +kernel
theorem dX8_run_35 : decode cX8_run 35 = .ok (.getfield 48, 3) := by decide +kernel
theorem dX8_run_38 : decode cX8_run 38 = .ok (.invokevirtual 178, 3) := by decide +kernel
theorem dX8_run_41 : decode cX8_run 41 = .ok (.iload_n 2, 1) := by decide +kernel
theorem dX8_run_42 : decode cX8_run 42 = .ok (.tableswitch 89 0 4 #[34, 50, 58, 66, 74], 34) := by decide +kernel
theorem dX8_run_76 : decode cX8_run 76 = .ok (.aload_n 0, 1) := by decide +kernel
theorem dX8_run_77 : decode cX8_run 77 = .ok (.getfield 58, 3) := by decide +kernel
theorem dX8_run_80 : decode cX8_run 80 = .ok (.invokevirtual 182, 3) := by decide +kernel
theorem dX8_run_83 : decode cX8_run 83 = .ok (.ifCond .eq 7, 3) := by decide +kernel
theorem dX8_run_86 : decode cX8_run 86 = .ok (.iconst 1, 1) := by decide +kernel
theorem dX8_run_87 : decode cX8_run 87 = .ok (.goto 4, 3) := by decide +kernel
theorem dX8_run_90 : decode cX8_run 90 = .ok (.iconst 0, 1) := by decide +kernel
theorem dX8_run_91 : decode cX8_run 91 = .ok (.ireturn, 1) := by decide +kernel
theorem dX8_run_92 : decode cX8_run 92 = .ok (.aload_n 0, 1) := by decide +kernel
theorem dX8_run_93 : decode cX8_run 93 = .ok (.getfield 58, 3) := by decide +kernel
theorem dX8_run_96 : decode cX8_run 96 = .ok (.invokevirtual 186, 3) := by decide +kernel
theorem dX8_run_99 : decode cX8_run 99 = .ok (.ireturn, 1) := by decide +kernel
theorem dX8_run_100 : decode cX8_run 100 = .ok (.aload_n 0, 1) := by decide +kernel
theorem dX8_run_101 : decode cX8_run 101 = .ok (.getfield 58, 3) := by decide +kernel
theorem dX8_run_104 : decode cX8_run 104 = .ok (.invokevirtual 189, 3) := by decide +kernel
theorem dX8_run_107 : decode cX8_run 107 = .ok (.ireturn, 1) := by decide +kernel
theorem dX8_run_108 : decode cX8_run 108 = .ok (.aload_n 0, 1) := by decide +kernel
theorem dX8_run_109 : decode cX8_run 109 = .ok (.getfield 58, 3) := by decide +kernel
theorem dX8_run_112 : decode cX8_run 112 = .ok (.invokevirtual 192, 3) := by decide +kernel
theorem dX8_run_115 : decode cX8_run 115 = .ok (.ireturn, 1) := by decide +kernel
theorem dX8_run_116 : decode cX8_run 116 = .ok (.aload_n 0, 1) := by decide +kernel
theorem dX8_run_117 : decode cX8_run 117 = .ok (.getfield 58, 3) := by decide +kernel
theorem dX8_run_120 : decode cX8_run 120 = .ok (.aload_n 0, 1) := by decide +kernel
theorem dX8_run_121 : decode cX8_run 121 = .ok (.getfield 48, 3) := by decide +kernel
theorem dX8_run_124 : decode cX8_run 124 = .ok (.invokevirtual 164, 3) := by decide +kernel
theorem dX8_run_127 : decode cX8_run 127 = .ok (.invokevirtual 195, 3) := by decide +kernel
theorem dX8_run_130 : decode cX8_run 130 = .ok (.ireturn, 1) := by decide +kernel
theorem dX8_run_131 : decode cX8_run 131 = .ok (.aload_n 0, 1) := by decide +kernel
theorem dX8_run_132 : decode cX8_run 132 = .ok (.getfield 58, 3) := by decide +kernel
theorem dX8_run_135 : decode cX8_run 135 = .ok (.aload_n 0, 1) := by decide +kernel
theorem dX8_run_136 : decode cX8_run 136 = .ok (.getfield 48, 3) := by decide +kernel
theorem dX8_run_139 : decode cX8_run 139 = .ok (.invokevirtual 164, 3) := by decide +kernel
theorem dX8_run_142 : decode cX8_run 142 = .ok (.invokevirtual 198, 3) := by decide +kernel
theorem dX8_run_145 : decode cX8_run 145 = .ok (.ireturn, 1) := by decide +kernel
set_option maxRecDepth 20000 in
theorem ggX8_crossed_X8_isMachine : GoodIn wsX8_crossed wsX8_isMachine := goodIn_r _ [9] (by decide +kernel) (by decide +kernel)
set_option maxRecDepth 20000 in
theorem gX8_crossed_X8_isMachine : GoodIn wsX8_crossed (va_wsS RX8 93 yX8_isMachine wsX8_isMachine) := goodIn_app (goodIn_of _ (by decide +kernel)) ggX8_crossed_X8_isMachine
set_option maxRecDepth 20000 in
theorem ggX8_crossed_X7_length : GoodIn wsX8_crossed wsX7_length := goodIn_r _ [14, 15, 102, 103] (by decide +kernel) (by decide +kernel)
set_option maxRecDepth 20000 in
theorem gX8_crossed_X7_length : GoodIn wsX8_crossed (wsV RX8 164 RX7 yX7_length wsX7_length) := goodIn_app (goodIn_of _ (by decide +kernel)) ggX8_crossed_X7_length
set_option maxRecDepth 20000 in
theorem ggX8_crossed_X0_at : GoodIn wsX8_crossed wsX0_at := goodIn_r _ [20, 21, 22, 104, 105] (by decide +kernel) (by decide +kernel)
set_option maxRecDepth 20000 in
theorem gX8_crossed_X0_at : GoodIn wsX8_crossed (wsV RX8 111 RX0 yX0_at wsX0_at) := goodIn_app (goodIn_of _ (by decide +kernel)) ggX8_crossed_X0_at
set_option maxRecDepth 20000 in
theorem ggX8_crossed_X1_follow : GoodIn wsX8_crossed wsX1_follow := goodIn_r _ [27, 28, 29, 30, 31, 32, 33, 34, 35, 36, 37, 38, 39, 26, 40, 41, 11, 12, 13, 14, 15, 42, 43, 44, 45, 46, 47, 48, 49, 50, 51, 52, 53, 54, 55, 56, 57, 58, 59, 60, 61, 62, 63, 64, 65, 66, 8, 67, 68, 69, 70, 71, 72, 73, 74, 75, 76, 77, 78, 79, 80, 106, 107, 108, 109, 110, 111, 112, 102, 103, 113, 114, 115] (by decide +kernel) (by decide +kernel)
set_option maxRecDepth 20000 in
theorem gX8_crossed_X1_follow : GoodIn wsX8_crossed (wsV RX8 178 RX1 yX1_follow wsX1_follow) := goodIn_app (goodIn_of _ (by decide +kernel)) ggX8_crossed_X1_follow
set_option maxRecDepth 20000 in
theorem ggX8_crossed_X1_howOften : GoodIn wsX8_crossed wsX1_howOften := goodIn_r _ [84, 29, 79, 106, 107, 108, 109, 110, 111, 112] (by decide +kernel) (by decide +kernel)
set_option maxRecDepth 20000 in
theorem gX8_crossed_X1_howOften : GoodIn wsX8_crossed (wsV RX8 201 RX1 yX1_howOften wsX1_howOften) := goodIn_app (goodIn_of _ (by decide +kernel)) ggX8_crossed_X1_howOften
set_option maxRecDepth 20000 in
theorem ggX8_crossed_X1_stateAt : GoodIn wsX8_crossed wsX1_stateAt := goodIn_r _ [88, 29, 79, 80, 106, 107, 108, 109, 110, 111, 112] (by decide +kernel) (by decide +kernel)
set_option maxRecDepth 20000 in
theorem gX8_crossed_X1_stateAt : GoodIn wsX8_crossed (wsV RX8 204 RX1 yX1_stateAt wsX1_stateAt) := goodIn_app (goodIn_of _ (by decide +kernel)) ggX8_crossed_X1_stateAt
theorem dX8_crossed_0 : decode cX8_crossed 0 = .ok (.iload_n 1, 1) := by decide +kernel
theorem dX8_crossed_1 : decode cX8_crossed 1 = .ok (.invokestatic 93, 3) := by decide +kernel
theorem dX8_crossed_4 : decode cX8_crossed 4 = .ok (.ifCond .ne 6, 3) := by decide +kernel
theorem dX8_crossed_7 : decode cX8_crossed 7 = .ok (.ldc 96, 2) := by decide +kernel
theorem dX8_crossed_9 : decode cX8_crossed 9 = .ok (.ireturn, 1) := by decide +kernel
theorem dX8_crossed_10 : decode cX8_crossed 10 = .ok (.iload_n 2, 1) := by decide +kernel
theorem dX8_crossed_11 : decode cX8_crossed 11 = .ok (.ifCond .lt 19, 3) := by decide +kernel
theorem dX8_crossed_14 : decode cX8_crossed 14 = .ok (.iload_n 2, 1) := by decide +kernel
theorem dX8_crossed_15 : decode cX8_crossed 15 = .ok (.aload_n 0, 1) := by decide +kernel
theorem dX8_crossed_16 : decode cX8_crossed 16 = .ok (.getfield 48, 3) := by decide +kernel
theorem dX8_crossed_19 : decode cX8_crossed 19 = .ok (.invokevirtual 164, 3) := by decide +kernel
theorem dX8_crossed_22 : decode cX8_crossed 22 = .ok (.if_icmp .gt 8, 3) := by decide +kernel
theorem dX8_crossed_25 : decode cX8_crossed 25 = .ok (.iload_n 3, 1) := by decide +kernel
theorem dX8_crossed_26 : decode cX8_crossed 26 = .ok (.iconst (-1), 1) := by decide +kernel
theorem dX8_crossed_27 : decode cX8_crossed 27 = .ok (.if_icmp .ge 6, 3) := by decide +kernel
theorem dX8_crossed_30 : decode cX8_crossed 30 = .ok (.ldc 83, 2) := by decide +kernel
theorem dX8_crossed_32 : decode cX8_crossed 32 = .ok (.ireturn, 1) := by decide +kernel
theorem dX8_crossed_33 : decode cX8_crossed 33 = .ok (.aload_n 0, 1) := by decide +kernel
theorem dX8_crossed_34 : decode cX8_crossed 34 = .ok (.getfield 58, 3) := by decide +kernel
theorem dX8_crossed_37 : decode cX8_crossed 37 = .ok (.aload_n 0, 1) := by decide +kernel
theorem dX8_crossed_38 : decode cX8_crossed 38 = .ok (.getfield 12, 3) := by decide +kernel
theorem dX8_crossed_41 : decode cX8_crossed 41 = .ok (.iload_n 1, 1) := by decide +kernel
theorem dX8_crossed_42 : decode cX8_crossed 42 = .ok (.invokevirtual 111, 3) := by decide +kernel
theorem dX8_crossed_45 : decode cX8_crossed 45 = .ok (.aload_n 0, 1) := by decide +kernel
theorem dX8_crossed_46 : decode cX8_crossed 46 = .ok (.getfield 48, 3) := by decide +kernel
theorem dX8_crossed_49 : decode cX8_crossed 49 = .ok (.invokevirtual 178, 3) := by decide +kernel
theorem dX8_crossed_52 : decode cX8_crossed 52 = .ok (.iload_n 3, 1) := by decide +kernel
theorem dX8_crossed_53 : decode cX8_crossed 53 = .ok (.iconst (-1), 1) := by decide +kernel
theorem dX8_crossed_54 : decode cX8_crossed 54 = .ok (.if_icmp .ne 14, 3) := by decide +kernel
theorem dX8_crossed_57 : decode cX8_crossed 57 = .ok (.aload_n 0, 1) := by decide +kernel
theorem dX8_crossed_58 : decode cX8_crossed 58 = .ok (.getfield 58, 3) := by decide +kernel
theorem dX8_crossed_61 : decode cX8_crossed 61 = .ok (.iload_n 2, 1) := by decide +kernel
theorem dX8_crossed_62 : decode cX8_crossed 62 = .ok (.invokevirtual 201, 3) := by decide +kernel
theorem dX8_crossed_65 : decode cX8_crossed 65 = .ok (.goto 12, 3) := by decide +kernel
theorem dX8_crossed_68 : decode cX8_crossed 68 = .ok (.aload_n 0, 1) := by decide +kernel
theorem dX8_crossed_69 : decode cX8_crossed 69 = .ok (.getfield 58, 3) := by decide +kernel
theorem dX8_crossed_72 : decode cX8_crossed 72 = .ok (.iload_n 2, 1) := by decide +kernel
theorem dX8_crossed_73 : decode cX8_crossed 73 = .ok (.iload_n 3, 1) := by decide +kernel
theorem dX8_crossed_74 : decode cX8_crossed 74 = .ok (.invokevirtual 204, 3) := by decide +kernel
theorem dX8_crossed_77 : decode cX8_crossed 77 = .ok (.ireturn, 1) := by decide +kernel
set_option maxRecDepth 20000 in
theorem ggX8_table_X8_isMachine : GoodIn wsX8_table wsX8_isMachine := goodIn_r _ [7] (by decide +kernel) (by decide +kernel)
set_option maxRecDepth 20000 in
theorem gX8_table_X8_isMachine : GoodIn wsX8_table (va_wsS RX8 93 yX8_isMachine wsX8_isMachine) := goodIn_app (goodIn_of _ (by decide +kernel)) ggX8_table_X8_isMachine
set_option maxRecDepth 20000 in
theorem ggX8_table_X0_at : GoodIn wsX8_table wsX0_at := goodIn_r _ [12, 13, 14, 73, 74] (by decide +kernel) (by decide +kernel)
set_option maxRecDepth 20000 in
theorem gX8_table_X0_at : GoodIn wsX8_table (wsV RX8 111 RX0 yX0_at wsX0_at) := goodIn_app (goodIn_of _ (by decide +kernel)) ggX8_table_X0_at
set_option maxRecDepth 20000 in
theorem ggX8_table_X3_hasState : GoodIn wsX8_table wsX3_hasState := goodIn_r _ [19, 20, 75, 76, 77] (by decide +kernel) (by decide +kernel)
set_option maxRecDepth 20000 in
theorem gX8_table_X3_hasState : GoodIn wsX8_table (wsV RX8 126 RX3 yX3_hasState wsX3_hasState) := goodIn_app (goodIn_of _ (by decide +kernel)) ggX8_table_X3_hasState
set_option maxRecDepth 20000 in
theorem ggX8_table_X8_isSide : GoodIn wsX8_table wsX8_isSide := goodIn_r _ [23] (by decide +kernel) (by decide +kernel)
set_option maxRecDepth 20000 in
theorem gX8_table_X8_isSide : GoodIn wsX8_table (va_wsS RX8 129 yX8_isSide wsX8_isSide) := goodIn_app (goodIn_of _ (by decide +kernel)) ggX8_table_X8_isSide
set_option maxRecDepth 20000 in
theorem ggX8_table_X8_isPiece : GoodIn wsX8_table wsX8_isPiece := goodIn_r _ [27, 28, 29, 30, 31, 32, 33, 34, 60, 61, 62, 63, 64, 65, 66, 67, 68, 69, 70, 71, 72, 78, 79] (by decide +kernel) (by decide +kernel)
set_option maxRecDepth 20000 in
theorem gX8_table_X8_isPiece : GoodIn wsX8_table (wsV RX8 207 RX8 yX8_isPiece wsX8_isPiece) := goodIn_app (goodIn_of _ (by decide +kernel)) ggX8_table_X8_isPiece
set_option maxRecDepth 20000 in
theorem ggX8_table_X8_goOffPiece : GoodIn wsX8_table wsX8_goOffPiece := goodIn_r _ [38, 28, 39, 40, 41, 32, 42, 34, 43, 44, 45, 46, 18, 47, 20, 48, 49, 6, 50, 51, 52, 53, 54, 55, 56, 57, 58, 59, 60, 61, 62, 63, 64, 65, 66, 67, 68, 69, 70, 71, 72, 78, 79, 75, 76, 77] (by decide +kernel) (by decide +kernel)
set_option maxRecDepth 20000 in
theorem gX8_table_X8_goOffPiece : GoodIn wsX8_table (wsV RX8 211 RX8 yX8_goOffPiece wsX8_goOffPiece) := goodIn_app (goodIn_of _ (by decide +kernel)) ggX8_table_X8_goOffPiece
theorem dX8_table_0 : decode cX8_table 0 = .ok (.iload_n 1, 1) := by decide +kernel
theorem dX8_table_1 : decode cX8_table 1 = .ok (.invokestatic 93, 3) := by decide +kernel
theorem dX8_table_4 : decode cX8_table 4 = .ok (.ifCond .eq 19, 3) := by decide +kernel
theorem dX8_table_7 : decode cX8_table 7 = .ok (.aload_n 0, 1) := by decide +kernel
theorem dX8_table_8 : decode cX8_table 8 = .ok (.getfield 12, 3) := by decide +kernel
theorem dX8_table_11 : decode cX8_table 11 = .ok (.iload_n 1, 1) := by decide +kernel
theorem dX8_table_12 : decode cX8_table 12 = .ok (.invokevirtual 111, 3) := by decide +kernel
theorem dX8_table_15 : decode cX8_table 15 = .ok (.iload 4, 2) := by decide +kernel
theorem dX8_table_17 : decode cX8_table 17 = .ok (.invokevirtual 126, 3) := by decide +kernel
theorem dX8_table_20 : decode cX8_table 20 = .ok (.ifCond .ne 6, 3) := by decide +kernel
theorem dX8_table_23 : decode cX8_table 23 = .ok (.ldc 96, 2) := by decide +kernel
theorem dX8_table_25 : decode cX8_table 25 = .ok (.ireturn, 1) := by decide +kernel
theorem dX8_table_26 : decode cX8_table 26 = .ok (.iload 5, 2) := by decide +kernel
theorem dX8_table_28 : decode cX8_table 28 = .ok (.invokestatic 129, 3) := by decide +kernel
theorem dX8_table_31 : decode cX8_table 31 = .ok (.ifCond .eq 12, 3) := by decide +kernel
theorem dX8_table_34 : decode cX8_table 34 = .ok (.aload_n 0, 1) := by decide +kernel
theorem dX8_table_35 : decode cX8_table 35 = .ok (.iload_n 2, 1) := by decide +kernel
theorem dX8_table_36 : decode cX8_table 36 = .ok (.iload_n 3, 1) := by decide +kernel
theorem dX8_table_37 : decode cX8_table 37 = .ok (.invokevirtual 207, 3) := by decide +kernel
theorem dX8_table_40 : decode cX8_table 40 = .ok (.ifCond .ne 6, 3) := by decide +kernel
theorem dX8_table_43 : decode cX8_table 43 = .ok (.ldc 83, 2) := by decide +kernel
theorem dX8_table_45 : decode cX8_table 45 = .ok (.ireturn, 1) := by decide +kernel
theorem dX8_table_46 : decode cX8_table 46 = .ok (.aload_n 0, 1) := by decide +kernel
theorem dX8_table_47 : decode cX8_table 47 = .ok (.aload_n 0, 1) := by decide +kernel
theorem dX8_table_48 : decode cX8_table 48 = .ok (.getfield 12, 3) := by decide +kernel
theorem dX8_table_51 : decode cX8_table 51 = .ok (.iload_n 1, 1) := by decide +kernel
theorem dX8_table_52 : decode cX8_table 52 = .ok (.invokevirtual 111, 3) := by decide +kernel
theorem dX8_table_55 : decode cX8_table 55 = .ok (.iload_n 2, 1) := by decide +kernel
theorem dX8_table_56 : decode cX8_table 56 = .ok (.iload_n 3, 1) := by decide +kernel
theorem dX8_table_57 : decode cX8_table 57 = .ok (.iload 4, 2) := by decide +kernel
theorem dX8_table_59 : decode cX8_table 59 = .ok (.iload 5, 2) := by decide +kernel
theorem dX8_table_61 : decode cX8_table 61 = .ok (.invokevirtual 211, 3) := by decide +kernel
theorem dX8_table_64 : decode cX8_table 64 = .ok (.ireturn, 1) := by decide +kernel
set_option maxRecDepth 20000 in
theorem ggX8_alike_X8_isMachine : GoodIn wsX8_alike wsX8_isMachine := goodIn_r _ [7] (by decide +kernel) (by decide +kernel)
set_option maxRecDepth 20000 in
theorem gX8_alike_X8_isMachine : GoodIn wsX8_alike (va_wsS RX8 93 yX8_isMachine wsX8_isMachine) := goodIn_app (goodIn_of _ (by decide +kernel)) ggX8_alike_X8_isMachine
set_option maxRecDepth 20000 in
theorem ggX8_alike_X8_isPiece : GoodIn wsX8_alike wsX8_isPiece := goodIn_r _ [11, 12, 13, 14, 15, 16, 17, 18, 57, 58, 59, 60, 61, 62, 63, 64, 65, 66, 67, 68, 69, 70, 71] (by decide +kernel) (by decide +kernel)
set_option maxRecDepth 20000 in
theorem gX8_alike_X8_isPiece : GoodIn wsX8_alike (wsV RX8 207 RX8 yX8_isPiece wsX8_isPiece) := goodIn_app (goodIn_of _ (by decide +kernel)) ggX8_alike_X8_isPiece
set_option maxRecDepth 20000 in
theorem ggX8_alike_X0_at : GoodIn wsX8_alike wsX0_at := goodIn_r _ [23, 24, 25, 72, 73] (by decide +kernel) (by decide +kernel)
set_option maxRecDepth 20000 in
theorem gX8_alike_X0_at : GoodIn wsX8_alike (wsV RX8 111 RX0 yX0_at wsX0_at) := goodIn_app (goodIn_of _ (by decide +kernel)) ggX8_alike_X0_at
set_option maxRecDepth 20000 in
theorem ggX8_alike_X3_size : GoodIn wsX8_alike wsX3_size := goodIn_r _ [30, 31, 74, 75, 76] (by decide +kernel) (by decide +kernel)
set_option maxRecDepth 20000 in
theorem gX8_alike_X3_size : GoodIn wsX8_alike (wsV RX8 119 RX3 yX3_size wsX3_size) := goodIn_app (goodIn_of _ (by decide +kernel)) ggX8_alike_X3_size
set_option maxRecDepth 20000 in
theorem ggX8_alike_X8_goOffPiece : GoodIn wsX8_alike wsX8_goOffPiece := goodIn_r _ [35, 12, 36, 37, 38, 16, 39, 18, 40, 41, 42, 43, 29, 44, 31, 45, 46, 6, 47, 48, 49, 50, 51, 52, 53, 54, 55, 56, 57, 58, 59, 60, 61, 62, 63, 64, 65, 66, 67, 68, 69, 70, 71, 74, 75, 76] (by decide +kernel) (by decide +kernel)
set_option maxRecDepth 20000 in
theorem gX8_alike_X8_goOffPiece : GoodIn wsX8_alike (wsV RX8 211 RX8 yX8_goOffPiece wsX8_goOffPiece) := goodIn_app (goodIn_of _ (by decide +kernel)) ggX8_alike_X8_goOffPiece
theorem dX8_alike_0 : decode cX8_alike 0 = .ok (.iload_n 1, 1) := by decide +kernel
theorem dX8_alike_1 : decode cX8_alike 1 = .ok (.invokestatic 93, 3) := by decide +kernel
theorem dX8_alike_4 : decode cX8_alike 4 = .ok (.ifCond .ne 6, 3) := by decide +kernel
theorem dX8_alike_7 : decode cX8_alike 7 = .ok (.ldc 96, 2) := by decide +kernel
theorem dX8_alike_9 : decode cX8_alike 9 = .ok (.ireturn, 1) := by decide +kernel
theorem dX8_alike_10 : decode cX8_alike 10 = .ok (.aload_n 0, 1) := by decide +kernel
theorem dX8_alike_11 : decode cX8_alike 11 = .ok (.iload_n 2, 1) := by decide +kernel
theorem dX8_alike_12 : decode cX8_alike 12 = .ok (.iload_n 3, 1) := by decide +kernel
theorem dX8_alike_13 : decode cX8_alike 13 = .ok (.invokevirtual 207, 3) := by decide +kernel
theorem dX8_alike_16 : decode cX8_alike 16 = .ok (.ifCond .eq 14, 3) := by decide +kernel
theorem dX8_alike_19 : decode cX8_alike 19 = .ok (.aload_n 0, 1) := by decide +kernel
theorem dX8_alike_20 : decode cX8_alike 20 = .ok (.iload 4, 2) := by decide +kernel
theorem dX8_alike_22 : decode cX8_alike 22 = .ok (.iload 5, 2) := by decide +kernel
theorem dX8_alike_24 : decode cX8_alike 24 = .ok (.invokevirtual 207, 3) := by decide +kernel
theorem dX8_alike_27 : decode cX8_alike 27 = .ok (.ifCond .ne 6, 3) := by decide +kernel
theorem dX8_alike_30 : decode cX8_alike 30 = .ok (.ldc 83, 2) := by decide +kernel
theorem dX8_alike_32 : decode cX8_alike 32 = .ok (.ireturn, 1) := by decide +kernel
theorem dX8_alike_33 : decode cX8_alike 33 = .ok (.aload_n 0, 1) := by decide +kernel
theorem dX8_alike_34 : decode cX8_alike 34 = .ok (.getfield 12, 3) := by decide +kernel
theorem dX8_alike_37 : decode cX8_alike 37 = .ok (.iload_n 1, 1) := by decide +kernel
theorem dX8_alike_38 : decode cX8_alike 38 = .ok (.invokevirtual 111, 3) := by decide +kernel
theorem dX8_alike_41 : decode cX8_alike 41 = .ok (.astore 6, 2) := by decide +kernel
theorem dX8_alike_43 : decode cX8_alike 43 = .ok (.iconst 0, 1) := by decide +kernel
theorem dX8_alike_44 : decode cX8_alike 44 = .ok (.istore 7, 2) := by decide +kernel
theorem dX8_alike_46 : decode cX8_alike 46 = .ok (.iload 7, 2) := by decide +kernel
theorem dX8_alike_48 : decode cX8_alike 48 = .ok (.aload 6, 2) := by decide +kernel
theorem dX8_alike_50 : decode cX8_alike 50 = .ok (.invokevirtual 119, 3) := by decide +kernel
theorem dX8_alike_53 : decode cX8_alike 53 = .ok (.if_icmp .ge 55, 3) := by decide +kernel
theorem dX8_alike_56 : decode cX8_alike 56 = .ok (.iconst 0, 1) := by decide +kernel
theorem dX8_alike_57 : decode cX8_alike 57 = .ok (.istore 8, 2) := by decide +kernel
theorem dX8_alike_59 : decode cX8_alike 59 = .ok (.iload 8, 2) := by decide +kernel
theorem dX8_alike_61 : decode cX8_alike 61 = .ok (.iconst 1, 1) := by decide +kernel
theorem dX8_alike_62 : decode cX8_alike 62 = .ok (.if_icmp .gt 40, 3) := by decide +kernel
theorem dX8_alike_65 : decode cX8_alike 65 = .ok (.aload_n 0, 1) := by decide +kernel
theorem dX8_alike_66 : decode cX8_alike 66 = .ok (.aload 6, 2) := by decide +kernel
theorem dX8_alike_68 : decode cX8_alike 68 = .ok (.iload_n 2, 1) := by decide +kernel
theorem dX8_alike_69 : decode cX8_alike 69 = .ok (.iload_n 3, 1) := by decide +kernel
theorem dX8_alike_70 : decode cX8_alike 70 = .ok (.iload 7, 2) := by decide +kernel
theorem dX8_alike_72 : decode cX8_alike 72 = .ok (.iload 8, 2) := by decide +kernel
theorem dX8_alike_74 : decode cX8_alike 74 = .ok (.invokevirtual 211, 3) := by decide +kernel
theorem dX8_alike_77 : decode cX8_alike 77 = .ok (.aload_n 0, 1) := by decide +kernel
theorem dX8_alike_78 : decode cX8_alike 78 = .ok (.aload 6, 2) := by decide +kernel
theorem dX8_alike_80 : decode cX8_alike 80 = .ok (.iload 4, 2) := by decide +kernel
theorem dX8_alike_82 : decode cX8_alike 82 = .ok (.iload 5, 2) := by decide +kernel
theorem dX8_alike_84 : decode cX8_alike 84 = .ok (.iload 7, 2) := by decide +kernel
theorem dX8_alike_86 : decode cX8_alike 86 = .ok (.iload 8, 2) := by decide +kernel
theorem dX8_alike_88 : decode cX8_alike 88 = .ok (.invokevirtual 211, 3) := by decide +kernel
theorem dX8_alike_91 : decode cX8_alike 91 = .ok (.if_icmp .eq 5, 3) := by decide +kernel
theorem dX8_alike_94 : decode cX8_alike 94 = .ok (.iconst 0, 1) := by decide +kernel
theorem dX8_alike_95 : decode cX8_alike 95 = .ok (.ireturn, 1) := by decide +kernel
theorem dX8_alike_96 : decode cX8_alike 96 = .ok (.iinc 8 1, 3) := by decide +kernel
theorem dX8_alike_99 : decode cX8_alike 99 = .ok (.goto (-40), 3) := by decide +kernel
theorem dX8_alike_102 : decode cX8_alike 102 = .ok (.iinc 7 1, 3) := by decide +kernel
theorem dX8_alike_105 : decode cX8_alike 105 = .ok (.goto (-59), 3) := by decide +kernel
theorem dX8_alike_108 : decode cX8_alike 108 = .ok (.iconst 1, 1) := by decide +kernel
theorem dX8_alike_109 : decode cX8_alike 109 = .ok (.ireturn, 1) := by decide +kernel
set_option maxRecDepth 20000 in
theorem ggX8_ofMachine_X8_isMachine : GoodIn wsX8_ofMachine wsX8_isMachine := goodIn_r _ [8] (by decide +kernel) (by decide +kernel)
set_option maxRecDepth 20000 in
theorem gX8_ofMachine_X8_isMachine : GoodIn wsX8_ofMachine (va_wsS RX8 93 yX8_isMachine wsX8_isMachine) := goodIn_app (goodIn_of _ (by decide +kernel)) ggX8_ofMachine_X8_isMachine
set_option maxRecDepth 20000 in
theorem ggX8_ofMachine_X0_at : GoodIn wsX8_ofMachine wsX0_at := goodIn_r _ [13, 14, 15, 171, 172] (by decide +kernel) (by decide +kernel)
set_option maxRecDepth 20000 in
theorem gX8_ofMachine_X0_at : GoodIn wsX8_ofMachine (wsV RX8 111 RX0 yX0_at wsX0_at) := goodIn_app (goodIn_of _ (by decide +kernel)) ggX8_ofMachine_X0_at
set_option maxRecDepth 20000 in
theorem ggX8_ofMachine_X3_size : GoodIn wsX8_ofMachine wsX3_size := goodIn_r _ [20, 21, 173, 174, 175] (by decide +kernel) (by decide +kernel)
set_option maxRecDepth 20000 in
theorem gX8_ofMachine_X3_size : GoodIn wsX8_ofMachine (wsV RX8 119 RX3 yX3_size wsX3_size) := goodIn_app (goodIn_of _ (by decide +kernel)) ggX8_ofMachine_X3_size
set_option maxRecDepth 20000 in
theorem ggX8_ofMachine_X3_countMoves : GoodIn wsX8_ofMachine wsX3_countMoves := goodIn_r _ [25, 26, 173, 174, 175] (by decide +kernel) (by decide +kernel)
set_option maxRecDepth 20000 in
theorem gX8_ofMachine_X3_countMoves : GoodIn wsX8_ofMachine (wsV RX8 148 RX3 yX3_countMoves wsX3_countMoves) := goodIn_app (goodIn_of _ (by decide +kernel)) ggX8_ofMachine_X3_countMoves
set_option maxRecDepth 20000 in
theorem ggX8_ofMachine_X8_oneWayFor : GoodIn wsX8_ofMachine wsX8_oneWayFor := goodIn_r _ [30, 31, 32, 3, 9, 10, 11, 12, 13, 14, 15, 33, 34, 35, 36, 37, 38, 39, 40, 41, 42, 43, 44, 45, 46, 47, 48, 19, 49, 26, 21, 50, 51, 52, 53, 54, 55, 56, 57, 58, 59, 60, 61, 62, 63, 64, 65, 66, 67, 68, 69, 70, 71, 72, 73, 74, 75, 76, 77, 78, 79, 80, 81, 82, 83, 84, 7, 85, 86, 87, 88, 89, 90, 91, 92, 93, 94, 95, 96, 97, 98, 99, 100, 101, 102, 103, 104, 105, 106, 107, 108, 109, 110, 111, 112, 113, 114, 158, 159, 160, 161, 162, 163, 164, 165, 166, 167, 168, 169, 170, 171, 172, 176, 177, 178, 179, 180, 181, 182, 183, 184, 185, 186, 187, 188, 189, 190, 191, 173, 174, 175] (by decide +kernel) (by decide +kernel)
set_option maxRecDepth 20000 in
theorem gX8_ofMachine_X8_oneWayFor : GoodIn wsX8_ofMachine (wsV RX8 215 RX8 yX8_oneWayFor wsX8_oneWayFor) := goodIn_app (goodIn_of _ (by decide +kernel)) ggX8_ofMachine_X8_oneWayFor
set_option maxRecDepth 20000 in
theorem ggX8_ofMachine_X5_isTooMany : GoodIn wsX8_ofMachine wsX5_isTooMany := goodIn_r _ [118, 40, 176, 177, 178, 179, 180, 181, 182, 183, 184, 185, 186, 187, 188, 189, 190, 191] (by decide +kernel) (by decide +kernel)
set_option maxRecDepth 20000 in
theorem gX8_ofMachine_X5_isTooMany : GoodIn wsX8_ofMachine (wsV RX8 219 RX5 yX5_isTooMany wsX5_isTooMany) := goodIn_app (goodIn_of _ (by decide +kernel)) ggX8_ofMachine_X5_isTooMany
set_option maxRecDepth 20000 in
theorem ggX8_ofMachine_X5_size : GoodIn wsX8_ofMachine wsX5_size := goodIn_r _ [122, 41, 176, 177, 178, 179, 180, 181, 182, 183, 184, 185, 186, 187, 188, 189, 190, 191] (by decide +kernel) (by decide +kernel)
set_option maxRecDepth 20000 in
theorem gX8_ofMachine_X5_size : GoodIn wsX8_ofMachine (wsV RX8 222 RX5 yX5_size wsX5_size) := goodIn_app (goodIn_of _ (by decide +kernel)) ggX8_ofMachine_X5_size
set_option maxRecDepth 20000 in
theorem ggX8_ofMachine_X5_leastSize : GoodIn wsX8_ofMachine wsX5_leastSize := goodIn_r _ [126, 42, 127, 128, 129, 36, 130, 41, 131, 114, 132, 133, 134, 135, 136, 137, 106, 55, 56, 57, 138, 139, 140, 141, 142, 143, 144, 145, 146, 147, 148, 149, 72, 73, 74, 75, 150, 151, 152, 153, 44, 176, 177, 178, 179, 180, 181, 182, 183, 184, 185, 186, 187, 188, 189, 190, 191] (by decide +kernel) (by decide +kernel)
set_option maxRecDepth 20000 in
theorem gX8_ofMachine_X5_leastSize : GoodIn wsX8_ofMachine (wsV RX8 223 RX5 yX5_leastSize wsX5_leastSize) := goodIn_app (goodIn_of _ (by decide +kernel)) ggX8_ofMachine_X5_leastSize
set_option maxRecDepth 20000 in
theorem ggX8_ofMachine_X5_firstWord : GoodIn wsX8_ofMachine wsX5_firstWord := goodIn_r _ [157, 41, 114, 45, 176, 177, 178, 179, 180, 181, 182, 183, 184, 185, 186, 187, 188, 189, 190, 191] (by decide +kernel) (by decide +kernel)
set_option maxRecDepth 20000 in
theorem gX8_ofMachine_X5_firstWord : GoodIn wsX8_ofMachine (wsV RX8 226 RX5 yX5_firstWord wsX5_firstWord) := goodIn_app (goodIn_of _ (by decide +kernel)) ggX8_ofMachine_X5_firstWord
theorem dX8_ofMachine_0 : decode cX8_ofMachine 0 = .ok (.iload_n 1, 1) := by decide +kernel
theorem dX8_ofMachine_1 : decode cX8_ofMachine 1 = .ok (.invokestatic 93, 3) := by decide +kernel
theorem dX8_ofMachine_4 : decode cX8_ofMachine 4 = .ok (.ifCond .ne 6, 3) := by decide +kernel
theorem dX8_ofMachine_7 : decode cX8_ofMachine 7 = .ok (.ldc 96, 2) := by decide +kernel
theorem dX8_ofMachine_9 : decode cX8_ofMachine 9 = .ok (.ireturn, 1) := by decide +kernel
theorem dX8_ofMachine_10 : decode cX8_ofMachine 10 = .ok (.iload_n 2, 1) := by decide +kernel
theorem dX8_ofMachine_11 : decode cX8_ofMachine 11 = .ok (.ifCond .lt 8, 3) := by decide +kernel
theorem dX8_ofMachine_14 : decode cX8_ofMachine 14 = .ok (.iload_n 2, 1) := by decide +kernel
theorem dX8_ofMachine_15 : decode cX8_ofMachine 15 = .ok (.iconst 5, 1) := by decide +kernel
theorem dX8_ofMachine_16 : decode cX8_ofMachine 16 = .ok (.if_icmp .le 6, 3) := by decide +kernel
theorem dX8_ofMachine_19 : decode cX8_ofMachine 19 = .ok (.ldc 83, 2) := by decide +kernel
theorem dX8_ofMachine_21 : decode cX8_ofMachine 21 = .ok (.ireturn, 1) := by decide +kernel
theorem dX8_ofMachine_22 : decode cX8_ofMachine 22 = .ok (.aload_n 0, 1) := by decide +kernel
theorem dX8_ofMachine_23 : decode cX8_ofMachine 23 = .ok (.getfield 12, 3) := by decide +kernel
theorem dX8_ofMachine_26 : decode cX8_ofMachine 26 = .ok (.iload_n 1, 1) := by decide +kernel
theorem dX8_ofMachine_27 : decode cX8_ofMachine 27 = .ok (.invokevirtual 111, 3) := by decide +kernel
theorem dX8_ofMachine_30 : decode cX8_ofMachine 30 = .ok (.astore_n 3, 1) := by decide +kernel
theorem dX8_ofMachine_31 : decode cX8_ofMachine 31 = .ok (.iload_n 2, 1) := by decide +kernel
theorem dX8_ofMachine_32 : decode cX8_ofMachine 32 = .ok (.iconst 2, 1) := by decide +kernel
theorem dX8_ofMachine_33 : decode cX8_ofMachine 33 = .ok (.if_icmp .ge 19, 3) := by decide +kernel
theorem dX8_ofMachine_36 : decode cX8_ofMachine 36 = .ok (.iload_n 2, 1) := by decide +kernel
theorem dX8_ofMachine_37 : decode cX8_ofMachine 37 = .ok (.ifCond .ne 10, 3) := by decide +kernel
theorem dX8_ofMachine_40 : decode cX8_ofMachine 40 = .ok (.aload_n 3, 1) := by decide +kernel
theorem dX8_ofMachine_41 : decode cX8_ofMachine 41 = .ok (.invokevirtual 119, 3) := by decide +kernel
theorem dX8_ofMachine_44 : decode cX8_ofMachine 44 = .ok (.goto 7, 3) := by decide +kernel
theorem dX8_ofMachine_47 : decode cX8_ofMachine 47 = .ok (.aload_n 3, 1) := by decide +kernel
theorem dX8_ofMachine_48 : decode cX8_ofMachine 48 = .ok (.invokevirtual 148, 3) := by decide +kernel
theorem dX8_ofMachine_51 : decode cX8_ofMachine 51 = .ok (.ireturn, 1) := by decide +kernel
theorem dX8_ofMachine_52 : decode cX8_ofMachine 52 = .ok (.aload_n 0, 1) := by decide +kernel
theorem dX8_ofMachine_53 : decode cX8_ofMachine 53 = .ok (.iload_n 1, 1) := by decide +kernel
theorem dX8_ofMachine_54 : decode cX8_ofMachine 54 = .ok (.invokevirtual 215, 3) := by decide +kernel
theorem dX8_ofMachine_57 : decode cX8_ofMachine 57 = .ok (.astore 4, 2) := by decide +kernel
theorem dX8_ofMachine_59 : decode cX8_ofMachine 59 = .ok (.aload 4, 2) := by decide +kernel
theorem dX8_ofMachine_61 : decode cX8_ofMachine 61 = .ok (.invokevirtual 219, 3) := by decide +kernel
theorem dX8_ofMachine_64 : decode cX8_ofMachine 64 = .ok (.ifCond .eq 6, 3) := by decide +kernel
theorem dX8_ofMachine_67 : decode cX8_ofMachine 67 = .ok (.ldc 92, 2) := by decide +kernel
theorem dX8_ofMachine_69 : decode cX8_ofMachine 69 = .ok (.ireturn, 1) := by decide +kernel
theorem dX8_ofMachine_70 : decode cX8_ofMachine 70 = .ok (.iload_n 2, 1) := by decide +kernel
theorem dX8_ofMachine_71 : decode cX8_ofMachine 71 = .ok (.tableswitch 44 2 4 #[25, 31, 37], 25) := by decide +kernel
theorem dX8_ofMachine_96 : decode cX8_ofMachine 96 = .ok (.aload 4, 2) := by decide +kernel
theorem dX8_ofMachine_98 : decode cX8_ofMachine 98 = .ok (.invokevirtual 222, 3) := by decide +kernel
theorem dX8_ofMachine_101 : decode cX8_ofMachine 101 = .ok (.ireturn, 1) := by decide +kernel
theorem dX8_ofMachine_102 : decode cX8_ofMachine 102 = .ok (.aload 4, 2) := by decide +kernel
theorem dX8_ofMachine_104 : decode cX8_ofMachine 104 = .ok (.invokevirtual 223, 3) := by decide +kernel
theorem dX8_ofMachine_107 : decode cX8_ofMachine 107 = .ok (.ireturn, 1) := by decide +kernel
theorem dX8_ofMachine_108 : decode cX8_ofMachine 108 = .ok (.aload 4, 2) := by decide +kernel
theorem dX8_ofMachine_110 : decode cX8_ofMachine 110 = .ok (.iconst 1, 1) := by decide +kernel
theorem dX8_ofMachine_111 : decode cX8_ofMachine 111 = .ok (.invokevirtual 226, 3) := by decide +kernel
theorem dX8_ofMachine_114 : decode cX8_ofMachine 114 = .ok (.ireturn, 1) := by decide +kernel
theorem dX8_ofMachine_115 : decode cX8_ofMachine 115 = .ok (.aload 4, 2) := by decide +kernel
theorem dX8_ofMachine_117 : decode cX8_ofMachine 117 = .ok (.iconst 0, 1) := by decide +kernel
theorem dX8_ofMachine_118 : decode cX8_ofMachine 118 = .ok (.invokevirtual 226, 3) := by decide +kernel
theorem dX8_ofMachine_121 : decode cX8_ofMachine 121 = .ok (.ireturn, 1) := by decide +kernel
set_option maxRecDepth 20000 in
theorem ggX8_oneWay_X8_isMachine : GoodIn wsX8_oneWay wsX8_isMachine := goodIn_r _ [8] (by decide +kernel) (by decide +kernel)
set_option maxRecDepth 20000 in
theorem gX8_oneWay_X8_isMachine : GoodIn wsX8_oneWay (va_wsS RX8 93 yX8_isMachine wsX8_isMachine) := goodIn_app (goodIn_of _ (by decide +kernel)) ggX8_oneWay_X8_isMachine
set_option maxRecDepth 20000 in
theorem ggX8_oneWay_X8_oneWayFor : GoodIn wsX8_oneWay wsX8_oneWayFor := goodIn_r _ [12, 13, 14, 3, 15, 16, 17, 18, 19, 20, 21, 22, 23, 24, 25, 26, 27, 28, 29, 30, 31, 32, 33, 34, 35, 36, 37, 38, 39, 40, 41, 42, 43, 44, 45, 46, 47, 48, 49, 50, 51, 52, 53, 54, 55, 56, 57, 58, 59, 60, 61, 62, 63, 64, 65, 66, 67, 68, 69, 70, 71, 72, 73, 74, 75, 76, 7, 77, 78, 79, 80, 81, 82, 83, 84, 85, 86, 87, 88, 89, 90, 91, 92, 93, 94, 95, 96, 97, 98, 99, 100, 101, 102, 103, 104, 105, 106, 126, 127, 128, 129, 130, 131, 132, 133, 134, 135, 136, 137, 138, 139, 140, 141, 142, 143, 144, 145, 146, 147, 148, 149, 150, 151, 152, 153, 154, 155, 156, 157, 158, 159] (by decide +kernel) (by decide +kernel)
set_option maxRecDepth 20000 in
theorem gX8_oneWay_X8_oneWayFor : GoodIn wsX8_oneWay (wsV RX8 215 RX8 yX8_oneWayFor wsX8_oneWayFor) := goodIn_app (goodIn_of _ (by decide +kernel)) ggX8_oneWay_X8_oneWayFor
set_option maxRecDepth 20000 in
theorem ggX8_oneWay_X5_isTooMany : GoodIn wsX8_oneWay wsX5_isTooMany := goodIn_r _ [110, 29, 141, 142, 143, 144, 145, 146, 147, 148, 149, 150, 151, 152, 153, 154, 155, 156] (by decide +kernel) (by decide +kernel)
set_option maxRecDepth 20000 in
theorem gX8_oneWay_X5_isTooMany : GoodIn wsX8_oneWay (wsV RX8 219 RX5 yX5_isTooMany wsX5_isTooMany) := goodIn_app (goodIn_of _ (by decide +kernel)) ggX8_oneWay_X5_isTooMany
set_option maxRecDepth 20000 in
theorem ggX8_oneWay_X5_hasState : GoodIn wsX8_oneWay wsX5_hasState := goodIn_r _ [67, 30, 141, 142, 143, 144, 145, 146, 147, 148, 149, 150, 151, 152, 153, 154, 155, 156] (by decide +kernel) (by decide +kernel)
set_option maxRecDepth 20000 in
theorem gX8_oneWay_X5_hasState : GoodIn wsX8_oneWay (wsV RX8 230 RX5 yX5_hasState wsX5_hasState) := goodIn_app (goodIn_of _ (by decide +kernel)) ggX8_oneWay_X5_hasState
set_option maxRecDepth 20000 in
theorem ggX8_oneWay_X0_at : GoodIn wsX8_oneWay wsX0_at := goodIn_r _ [19, 20, 21, 139, 140] (by decide +kernel) (by decide +kernel)
set_option maxRecDepth 20000 in
theorem gX8_oneWay_X0_at : GoodIn wsX8_oneWay (wsV RX8 111 RX0 yX0_at wsX0_at) := goodIn_app (goodIn_of _ (by decide +kernel)) ggX8_oneWay_X0_at
set_option maxRecDepth 20000 in
theorem ggX8_oneWay_X3_size : GoodIn wsX8_oneWay wsX3_size := goodIn_r _ [115, 41, 157, 158, 159] (by decide +kernel) (by decide +kernel)
set_option maxRecDepth 20000 in
theorem gX8_oneWay_X3_size : GoodIn wsX8_oneWay (wsV RX8 119 RX3 yX3_size wsX3_size) := goodIn_app (goodIn_of _ (by decide +kernel)) ggX8_oneWay_X3_size
set_option maxRecDepth 20000 in
theorem ggX8_oneWay_X5_next : GoodIn wsX8_oneWay wsX5_next := goodIn_r _ [119, 33, 64, 65, 66, 25, 67, 30, 141, 142, 143, 144, 145, 146, 147, 148, 149, 150, 151, 152, 153, 154, 155, 156] (by decide +kernel) (by decide +kernel)
set_option maxRecDepth 20000 in
theorem gX8_oneWay_X5_next : GoodIn wsX8_oneWay (wsV RX8 231 RX5 yX5_next wsX5_next) := goodIn_app (goodIn_of _ (by decide +kernel)) ggX8_oneWay_X5_next
set_option maxRecDepth 20000 in
theorem ggX8_oneWay_X5_isGood : GoodIn wsX8_oneWay wsX5_isGood := goodIn_r _ [123, 106, 64, 65, 66, 25, 67, 30, 141, 142, 143, 144, 145, 146, 147, 148, 149, 150, 151, 152, 153, 154, 155, 156] (by decide +kernel) (by decide +kernel)
set_option maxRecDepth 20000 in
theorem gX8_oneWay_X5_isGood : GoodIn wsX8_oneWay (wsV RX8 234 RX5 yX5_isGood wsX5_isGood) := goodIn_app (goodIn_of _ (by decide +kernel)) ggX8_oneWay_X5_isGood
set_option maxRecDepth 20000 in
theorem ggX8_oneWay_X5_firstOff : GoodIn wsX8_oneWay wsX5_firstOff := goodIn_r _ [62, 63, 64, 65, 66, 25, 67, 30, 141, 142, 143, 144, 145, 146, 147, 148, 149, 150, 151, 152, 153, 154, 155, 156] (by decide +kernel) (by decide +kernel)
set_option maxRecDepth 20000 in
theorem gX8_oneWay_X5_firstOff : GoodIn wsX8_oneWay (wsV RX8 237 RX5 yX5_firstOff wsX5_firstOff) := goodIn_app (goodIn_of _ (by decide +kernel)) ggX8_oneWay_X5_firstOff
set_option maxRecDepth 20000 in
theorem ggX8_oneWay_X5_comesBack : GoodIn wsX8_oneWay wsX5_comesBack := goodIn_r _ [85, 63, 64, 65, 66, 25, 67, 30, 141, 142, 143, 144, 145, 146, 147, 148, 149, 150, 151, 152, 153, 154, 155, 156] (by decide +kernel) (by decide +kernel)
set_option maxRecDepth 20000 in
theorem gX8_oneWay_X5_comesBack : GoodIn wsX8_oneWay (wsV RX8 240 RX5 yX5_comesBack wsX5_comesBack) := goodIn_app (goodIn_of _ (by decide +kernel)) ggX8_oneWay_X5_comesBack
theorem dX8_oneWay_0 : decode cX8_oneWay 0 = .ok (.iload_n 1, 1) := by decide +kernel
theorem dX8_oneWay_1 : decode cX8_oneWay 1 = .ok (.invokestatic 93, 3) := by decide +kernel
theorem dX8_oneWay_4 : decode cX8_oneWay 4 = .ok (.ifCond .ne 6, 3) := by decide +kernel
theorem dX8_oneWay_7 : decode cX8_oneWay 7 = .ok (.ldc 96, 2) := by decide +kernel
theorem dX8_oneWay_9 : decode cX8_oneWay 9 = .ok (.ireturn, 1) := by decide +kernel
theorem dX8_oneWay_10 : decode cX8_oneWay 10 = .ok (.aload_n 0, 1) := by decide +kernel
theorem dX8_oneWay_11 : decode cX8_oneWay 11 = .ok (.iload_n 1, 1) := by decide +kernel
theorem dX8_oneWay_12 : decode cX8_oneWay 12 = .ok (.invokevirtual 215, 3) := by decide +kernel
theorem dX8_oneWay_15 : decode cX8_oneWay 15 = .ok (.astore 4, 2) := by decide +kernel
theorem dX8_oneWay_17 : decode cX8_oneWay 17 = .ok (.aload 4, 2) := by decide +kernel
theorem dX8_oneWay_19 : decode cX8_oneWay 19 = .ok (.invokevirtual 219, 3) := by decide +kernel
theorem dX8_oneWay_22 : decode cX8_oneWay 22 = .ok (.ifCond .eq 6, 3) := by decide +kernel
theorem dX8_oneWay_25 : decode cX8_oneWay 25 = .ok (.ldc 92, 2) := by decide +kernel
theorem dX8_oneWay_27 : decode cX8_oneWay 27 = .ok (.ireturn, 1) := by decide +kernel
theorem dX8_oneWay_28 : decode cX8_oneWay 28 = .ok (.aload 4, 2) := by decide +kernel
theorem dX8_oneWay_30 : decode cX8_oneWay 30 = .ok (.iload_n 2, 1) := by decide +kernel
theorem dX8_oneWay_31 : decode cX8_oneWay 31 = .ok (.invokevirtual 230, 3) := by decide +kernel
theorem dX8_oneWay_34 : decode cX8_oneWay 34 = .ok (.ifCond .ne 6, 3) := by decide +kernel
theorem dX8_oneWay_37 : decode cX8_oneWay 37 = .ok (.ldc 96, 2) := by decide +kernel
theorem dX8_oneWay_39 : decode cX8_oneWay 39 = .ok (.ireturn, 1) := by decide +kernel
theorem dX8_oneWay_40 : decode cX8_oneWay 40 = .ok (.iload_n 3, 1) := by decide +kernel
theorem dX8_oneWay_41 : decode cX8_oneWay 41 = .ok (.ifCond .lt 20, 3) := by decide +kernel
theorem dX8_oneWay_44 : decode cX8_oneWay 44 = .ok (.iload_n 3, 1) := by decide +kernel
theorem dX8_oneWay_45 : decode cX8_oneWay 45 = .ok (.iconst 4, 1) := by decide +kernel
theorem dX8_oneWay_46 : decode cX8_oneWay 46 = .ok (.aload_n 0, 1) := by decide +kernel
theorem dX8_oneWay_47 : decode cX8_oneWay 47 = .ok (.getfield 12, 3) := by decide +kernel
theorem dX8_oneWay_50 : decode cX8_oneWay 50 = .ok (.iload_n 1, 1) := by decide +kernel
theorem dX8_oneWay_51 : decode cX8_oneWay 51 = .ok (.invokevirtual 111, 3) := by decide +kernel
theorem dX8_oneWay_54 : decode cX8_oneWay 54 = .ok (.invokevirtual 119, 3) := by decide +kernel
theorem dX8_oneWay_57 : decode cX8_oneWay 57 = .ok (.iadd, 1) := by decide +kernel
theorem dX8_oneWay_58 : decode cX8_oneWay 58 = .ok (.if_icmp .lt 6, 3) := by decide +kernel
theorem dX8_oneWay_61 : decode cX8_oneWay 61 = .ok (.ldc 83, 2) := by decide +kernel
theorem dX8_oneWay_63 : decode cX8_oneWay 63 = .ok (.ireturn, 1) := by decide +kernel
theorem dX8_oneWay_64 : decode cX8_oneWay 64 = .ok (.iload_n 3, 1) := by decide +kernel
theorem dX8_oneWay_65 : decode cX8_oneWay 65 = .ok (.iconst 2, 1) := by decide +kernel
theorem dX8_oneWay_66 : decode cX8_oneWay 66 = .ok (.if_icmp .ge 11, 3) := by decide +kernel
theorem dX8_oneWay_69 : decode cX8_oneWay 69 = .ok (.aload 4, 2) := by decide +kernel
theorem dX8_oneWay_71 : decode cX8_oneWay 71 = .ok (.iload_n 2, 1) := by decide +kernel
theorem dX8_oneWay_72 : decode cX8_oneWay 72 = .ok (.iload_n 3, 1) := by decide +kernel
theorem dX8_oneWay_73 : decode cX8_oneWay 73 = .ok (.invokevirtual 231, 3) := by decide +kernel
theorem dX8_oneWay_76 : decode cX8_oneWay 76 = .ok (.ireturn, 1) := by decide +kernel
theorem dX8_oneWay_77 : decode cX8_oneWay 77 = .ok (.iload_n 3, 1) := by decide +kernel
theorem dX8_oneWay_78 : decode cX8_oneWay 78 = .ok (.iconst 2, 1) := by decide +kernel
theorem dX8_oneWay_79 : decode cX8_oneWay 79 = .ok (.if_icmp .ne 18, 3) := by decide +kernel
theorem dX8_oneWay_82 : decode cX8_oneWay 82 = .ok (.aload 4, 2) := by decide +kernel
theorem dX8_oneWay_84 : decode cX8_oneWay 84 = .ok (.iload_n 2, 1) := by decide +kernel
theorem dX8_oneWay_85 : decode cX8_oneWay 85 = .ok (.invokevirtual 234, 3) := by decide +kernel
theorem dX8_oneWay_88 : decode cX8_oneWay 88 = .ok (.ifCond .eq 7, 3) := by decide +kernel
theorem dX8_oneWay_91 : decode cX8_oneWay 91 = .ok (.iconst 1, 1) := by decide +kernel
theorem dX8_oneWay_92 : decode cX8_oneWay 92 = .ok (.goto 4, 3) := by decide +kernel
theorem dX8_oneWay_95 : decode cX8_oneWay 95 = .ok (.iconst 0, 1) := by decide +kernel
theorem dX8_oneWay_96 : decode cX8_oneWay 96 = .ok (.ireturn, 1) := by decide +kernel
theorem dX8_oneWay_97 : decode cX8_oneWay 97 = .ok (.iload_n 3, 1) := by decide +kernel
theorem dX8_oneWay_98 : decode cX8_oneWay 98 = .ok (.iconst 3, 1) := by decide +kernel
theorem dX8_oneWay_99 : decode cX8_oneWay 99 = .ok (.if_icmp .ne 12, 3) := by decide +kernel
theorem dX8_oneWay_102 : decode cX8_oneWay 102 = .ok (.aload 4, 2) := by decide +kernel
theorem dX8_oneWay_104 : decode cX8_oneWay 104 = .ok (.iload_n 2, 1) := by decide +kernel
theorem dX8_oneWay_105 : decode cX8_oneWay 105 = .ok (.invokevirtual 237, 3) := by decide +kernel
theorem dX8_oneWay_108 : decode cX8_oneWay 108 = .ok (.goto 12, 3) := by decide +kernel
theorem dX8_oneWay_111 : decode cX8_oneWay 111 = .ok (.aload 4, 2) := by decide +kernel
theorem dX8_oneWay_113 : decode cX8_oneWay 113 = .ok (.iload_n 2, 1) := by decide +kernel
theorem dX8_oneWay_114 : decode cX8_oneWay 114 = .ok (.iload_n 3, 1) := by decide +kernel
theorem dX8_oneWay_115 : decode cX8_oneWay 115 = .ok (.iconst 4, 1) := by decide +kernel
theorem dX8_oneWay_116 : decode cX8_oneWay 116 = .ok (.isub, 1) := by decide +kernel
theorem dX8_oneWay_117 : decode cX8_oneWay 117 = .ok (.invokevirtual 240, 3) := by decide +kernel
theorem dX8_oneWay_120 : decode cX8_oneWay 120 = .ok (.ireturn, 1) := by decide +kernel
set_option maxRecDepth 20000 in
theorem ggX8_taken_X8_isMachine : GoodIn wsX8_taken wsX8_isMachine := goodIn_r _ [7] (by decide +kernel) (by decide +kernel)
set_option maxRecDepth 20000 in
theorem gX8_taken_X8_isMachine : GoodIn wsX8_taken (va_wsS RX8 93 yX8_isMachine wsX8_isMachine) := goodIn_app (goodIn_of _ (by decide +kernel)) ggX8_taken_X8_isMachine
set_option maxRecDepth 20000 in
theorem ggX8_taken_X8_oneWayFor : GoodIn wsX8_taken wsX8_oneWayFor := goodIn_r _ [11, 12, 13, 14, 15, 16, 17, 18, 19, 20, 21, 22, 23, 24, 25, 26, 27, 28, 29, 30, 31, 32, 33, 34, 35, 36, 37, 38, 39, 40, 41, 42, 43, 44, 45, 46, 47, 48, 49, 50, 51, 52, 53, 54, 55, 56, 57, 58, 59, 60, 61, 62, 63, 64, 65, 66, 67, 68, 69, 70, 71, 72, 73, 74, 75, 76, 6, 77, 78, 79, 80, 81, 82, 83, 84, 85, 86, 87, 88, 89, 90, 91, 92, 93, 94, 95, 96, 97, 98, 99, 100, 101, 102, 103, 104, 105, 106, 125, 126, 127, 128, 129, 130, 131, 132, 133, 134, 135, 136, 137, 138, 139, 140, 141, 142, 143, 144, 145, 146, 147, 148, 149, 150, 151, 152, 153, 154, 155, 156, 157, 158] (by decide +kernel) (by decide +kernel)
set_option maxRecDepth 20000 in
theorem gX8_taken_X8_oneWayFor : GoodIn wsX8_taken (wsV RX8 215 RX8 yX8_oneWayFor wsX8_oneWayFor) := goodIn_app (goodIn_of _ (by decide +kernel)) ggX8_taken_X8_oneWayFor
set_option maxRecDepth 20000 in
theorem ggX8_taken_X5_isTooMany : GoodIn wsX8_taken wsX5_isTooMany := goodIn_r _ [110, 29, 140, 141, 142, 143, 144, 145, 146, 147, 148, 149, 150, 151, 152, 153, 154, 155] (by decide +kernel) (by decide +kernel)
set_option maxRecDepth 20000 in
theorem gX8_taken_X5_isTooMany : GoodIn wsX8_taken (wsV RX8 219 RX5 yX5_isTooMany wsX5_isTooMany) := goodIn_app (goodIn_of _ (by decide +kernel)) ggX8_taken_X5_isTooMany
set_option maxRecDepth 20000 in
theorem ggX8_taken_X5_countWords : GoodIn wsX8_taken wsX5_countWords := goodIn_r _ [114, 115, 30, 106, 50, 51, 52, 53, 116, 117, 118, 25, 119, 120, 98, 47, 48, 49, 121, 122, 123, 124, 33, 64, 65, 66, 67, 140, 141, 142, 143, 144, 145, 146, 147, 148, 149, 150, 151, 152, 153, 154, 155] (by decide +kernel) (by decide +kernel)
set_option maxRecDepth 20000 in
theorem gX8_taken_X5_countWords : GoodIn wsX8_taken (wsV RX8 243 RX5 yX5_countWords wsX5_countWords) := goodIn_app (goodIn_of _ (by decide +kernel)) ggX8_taken_X5_countWords
theorem dX8_taken_0 : decode cX8_taken 0 = .ok (.iload_n 1, 1) := by decide +kernel
theorem dX8_taken_1 : decode cX8_taken 1 = .ok (.invokestatic 93, 3) := by decide +kernel
theorem dX8_taken_4 : decode cX8_taken 4 = .ok (.ifCond .ne 6, 3) := by decide +kernel
theorem dX8_taken_7 : decode cX8_taken 7 = .ok (.ldc 96, 2) := by decide +kernel
theorem dX8_taken_9 : decode cX8_taken 9 = .ok (.ireturn, 1) := by decide +kernel
theorem dX8_taken_10 : decode cX8_taken 10 = .ok (.iload_n 2, 1) := by decide +kernel
theorem dX8_taken_11 : decode cX8_taken 11 = .ok (.ifCond .lt 9, 3) := by decide +kernel
theorem dX8_taken_14 : decode cX8_taken 14 = .ok (.iload_n 2, 1) := by decide +kernel
theorem dX8_taken_15 : decode cX8_taken 15 = .ok (.bipush 24, 2) := by decide +kernel
theorem dX8_taken_17 : decode cX8_taken 17 = .ok (.if_icmp .le 6, 3) := by decide +kernel
theorem dX8_taken_20 : decode cX8_taken 20 = .ok (.ldc 83, 2) := by decide +kernel
theorem dX8_taken_22 : decode cX8_taken 22 = .ok (.ireturn, 1) := by decide +kernel
theorem dX8_taken_23 : decode cX8_taken 23 = .ok (.aload_n 0, 1) := by decide +kernel
theorem dX8_taken_24 : decode cX8_taken 24 = .ok (.iload_n 1, 1) := by decide +kernel
theorem dX8_taken_25 : decode cX8_taken 25 = .ok (.invokevirtual 215, 3) := by decide +kernel
theorem dX8_taken_28 : decode cX8_taken 28 = .ok (.astore_n 3, 1) := by decide +kernel
theorem dX8_taken_29 : decode cX8_taken 29 = .ok (.aload_n 3, 1) := by decide +kernel
theorem dX8_taken_30 : decode cX8_taken 30 = .ok (.invokevirtual 219, 3) := by decide +kernel
theorem dX8_taken_33 : decode cX8_taken 33 = .ok (.ifCond .eq 8, 3) := by decide +kernel
theorem dX8_taken_36 : decode cX8_taken 36 = .ok (.ldc 92, 2) := by decide +kernel
theorem dX8_taken_38 : decode cX8_taken 38 = .ok (.goto 8, 3) := by decide +kernel
theorem dX8_taken_41 : decode cX8_taken 41 = .ok (.aload_n 3, 1) := by decide +kernel
theorem dX8_taken_42 : decode cX8_taken 42 = .ok (.iload_n 2, 1) := by decide +kernel
theorem dX8_taken_43 : decode cX8_taken 43 = .ok (.invokevirtual 243, 3) := by decide +kernel
theorem dX8_taken_46 : decode cX8_taken 46 = .ok (.ireturn, 1) := by decide +kernel
set_option maxRecDepth 20000 in
theorem ggX8_first_X8_firstByRule : GoodIn wsX8_first wsX8_firstByRule := goodIn_r _ [6, 7, 8, 9, 10, 11, 12, 13, 14, 15, 16, 17, 18, 19, 20, 21, 22, 23, 24, 25, 26, 27, 28, 29, 30, 31, 32, 33, 34, 35, 36, 37, 38, 39, 40, 41, 42, 43, 44, 45, 46, 47, 48, 49, 50, 51, 52, 53, 54, 55, 56, 57, 58, 59, 60, 61, 62, 63, 64, 65, 66, 67, 68, 69, 70, 71, 72, 73, 5, 74, 75, 76, 77, 78, 79, 80, 81, 82, 83, 84, 85, 86, 87, 88, 89, 90, 91, 92, 93, 94, 95, 96, 97, 98, 99, 100, 101, 102, 103, 104, 105, 106, 107, 108, 109, 110, 111, 112, 113, 114, 115, 116, 117, 118, 119, 120, 121, 122, 123, 124, 125, 126, 127, 128, 129, 130, 131, 132, 133, 134, 135, 136, 137, 138, 139, 140, 141, 142, 143, 144, 145, 146, 147, 148, 149, 150, 151, 152, 153, 154, 155, 156, 157, 158, 159, 160, 161, 162, 163, 164, 165, 166, 167, 168, 169, 170, 171, 172, 173] (by decide +kernel) (by decide +kernel)
set_option maxRecDepth 20000 in
theorem gX8_first_X8_firstByRule : GoodIn wsX8_first (wsV RX8 171 RX8 yX8_firstByRule wsX8_firstByRule) := goodIn_app (goodIn_of _ (by decide +kernel)) ggX8_first_X8_firstByRule
theorem dX8_first_0 : decode cX8_first 0 = .ok (.iload_n 1, 1) := by decide +kernel
theorem dX8_first_1 : decode cX8_first 1 = .ok (.ifCond .lt 8, 3) := by decide +kernel
theorem dX8_first_4 : decode cX8_first 4 = .ok (.iload_n 1, 1) := by decide +kernel
theorem dX8_first_5 : decode cX8_first 5 = .ok (.iconst 4, 1) := by decide +kernel
theorem dX8_first_6 : decode cX8_first 6 = .ok (.if_icmp .lt 8, 3) := by decide +kernel
theorem dX8_first_9 : decode cX8_first 9 = .ok (.ldc 96, 2) := by decide +kernel
theorem dX8_first_11 : decode cX8_first 11 = .ok (.goto 8, 3) := by decide +kernel
theorem dX8_first_14 : decode cX8_first 14 = .ok (.aload_n 0, 1) := by decide +kernel
theorem dX8_first_15 : decode cX8_first 15 = .ok (.iload_n 1, 1) := by decide +kernel
theorem dX8_first_16 : decode cX8_first 16 = .ok (.invokevirtual 171, 3) := by decide +kernel
theorem dX8_first_19 : decode cX8_first 19 = .ok (.ireturn, 1) := by decide +kernel
set_option maxRecDepth 20000 in
theorem ggX8_turned_X8_isMachine : GoodIn wsX8_turned wsX8_isMachine := goodIn_r _ [7] (by decide +kernel) (by decide +kernel)
set_option maxRecDepth 20000 in
theorem gX8_turned_X8_isMachine : GoodIn wsX8_turned (va_wsS RX8 93 yX8_isMachine wsX8_isMachine) := goodIn_app (goodIn_of _ (by decide +kernel)) ggX8_turned_X8_isMachine
set_option maxRecDepth 20000 in
theorem ggX8_turned_X0_at : GoodIn wsX8_turned wsX0_at := goodIn_r _ [12, 13, 14, 113, 114] (by decide +kernel) (by decide +kernel)
set_option maxRecDepth 20000 in
theorem gX8_turned_X0_at : GoodIn wsX8_turned (wsV RX8 111 RX0 yX0_at wsX0_at) := goodIn_app (goodIn_of _ (by decide +kernel)) ggX8_turned_X0_at
set_option maxRecDepth 20000 in
theorem ggX8_turned_X8_isTakenBothWays : GoodIn wsX8_turned wsX8_isTakenBothWays := goodIn_r _ [18, 19, 20, 21, 22, 23, 24, 25, 26, 27, 28, 29, 30, 31, 32, 33, 34, 35, 36, 37, 38, 39, 40, 41, 42, 43, 44, 45, 46, 47, 48, 49, 50, 51, 52, 53, 54, 55, 56, 57, 58, 59, 60, 61, 62, 63, 64, 65, 66, 67, 68, 69, 70, 71, 72, 73, 74, 75, 76, 77, 6, 78, 79, 80, 81, 82, 83, 84, 85, 86, 87, 88, 89, 90, 91, 92, 93, 94, 95, 96, 97, 98, 99, 100, 101, 102, 103, 104, 105, 106, 107, 108, 109, 110, 111, 112, 115, 116, 117, 118, 119, 120, 121, 122, 123, 124, 125, 126] (by decide +kernel) (by decide +kernel)
set_option maxRecDepth 20000 in
theorem gX8_turned_X8_isTakenBothWays : GoodIn wsX8_turned (wsV RX8 246 RX8 yX8_isTakenBothWays wsX8_isTakenBothWays) := goodIn_app (goodIn_of _ (by decide +kernel)) ggX8_turned_X8_isTakenBothWays
theorem dX8_turned_0 : decode cX8_turned 0 = .ok (.iload_n 1, 1) := by decide +kernel
theorem dX8_turned_1 : decode cX8_turned 1 = .ok (.invokestatic 93, 3) := by decide +kernel
theorem dX8_turned_4 : decode cX8_turned 4 = .ok (.ifCond .ne 6, 3) := by decide +kernel
theorem dX8_turned_7 : decode cX8_turned 7 = .ok (.ldc 96, 2) := by decide +kernel
theorem dX8_turned_9 : decode cX8_turned 9 = .ok (.ireturn, 1) := by decide +kernel
theorem dX8_turned_10 : decode cX8_turned 10 = .ok (.iload_n 2, 1) := by decide +kernel
theorem dX8_turned_11 : decode cX8_turned 11 = .ok (.ifCond .lt 9, 3) := by decide +kernel
theorem dX8_turned_14 : decode cX8_turned 14 = .ok (.iload_n 2, 1) := by decide +kernel
theorem dX8_turned_15 : decode cX8_turned 15 = .ok (.bipush 6, 2) := by decide +kernel
theorem dX8_turned_17 : decode cX8_turned 17 = .ok (.if_icmp .le 6, 3) := by decide +kernel
theorem dX8_turned_20 : decode cX8_turned 20 = .ok (.ldc 83, 2) := by decide +kernel
theorem dX8_turned_22 : decode cX8_turned 22 = .ok (.ireturn, 1) := by decide +kernel
theorem dX8_turned_23 : decode cX8_turned 23 = .ok (.iconst 0, 1) := by decide +kernel
theorem dX8_turned_24 : decode cX8_turned 24 = .ok (.istore_n 3, 1) := by decide +kernel
theorem dX8_turned_25 : decode cX8_turned 25 = .ok (.iconst 1, 1) := by decide +kernel
theorem dX8_turned_26 : decode cX8_turned 26 = .ok (.iload_n 2, 1) := by decide +kernel
theorem dX8_turned_27 : decode cX8_turned 27 = .ok (.ishl, 1) := by decide +kernel
theorem dX8_turned_28 : decode cX8_turned 28 = .ok (.istore 4, 2) := by decide +kernel
theorem dX8_turned_30 : decode cX8_turned 30 = .ok (.iload 4, 2) := by decide +kernel
theorem dX8_turned_32 : decode cX8_turned 32 = .ok (.iconst 2, 1) := by decide +kernel
theorem dX8_turned_33 : decode cX8_turned 33 = .ok (.iload_n 2, 1) := by decide +kernel
theorem dX8_turned_34 : decode cX8_turned 34 = .ok (.ishl, 1) := by decide +kernel
theorem dX8_turned_35 : decode cX8_turned 35 = .ok (.if_icmp .ge 29, 3) := by decide +kernel
theorem dX8_turned_38 : decode cX8_turned 38 = .ok (.aload_n 0, 1) := by decide +kernel
theorem dX8_turned_39 : decode cX8_turned 39 = .ok (.aload_n 0, 1) := by decide +kernel
theorem dX8_turned_40 : decode cX8_turned 40 = .ok (.getfield 12, 3) := by decide +kernel
theorem dX8_turned_43 : decode cX8_turned 43 = .ok (.iload_n 1, 1) := by decide +kernel
theorem dX8_turned_44 : decode cX8_turned 44 = .ok (.invokevirtual 111, 3) := by decide +kernel
theorem dX8_turned_47 : decode cX8_turned 47 = .ok (.iload 4, 2) := by decide +kernel
theorem dX8_turned_49 : decode cX8_turned 49 = .ok (.invokevirtual 246, 3) := by decide +kernel
theorem dX8_turned_52 : decode cX8_turned 52 = .ok (.ifCond .eq 6, 3) := by decide +kernel
theorem dX8_turned_55 : decode cX8_turned 55 = .ok (.iinc 3 1, 3) := by decide +kernel
theorem dX8_turned_58 : decode cX8_turned 58 = .ok (.iinc 4 1, 3) := by decide +kernel
theorem dX8_turned_61 : decode cX8_turned 61 = .ok (.goto (-31), 3) := by decide +kernel
theorem dX8_turned_64 : decode cX8_turned 64 = .ok (.iload_n 3, 1) := by decide +kernel
theorem dX8_turned_65 : decode cX8_turned 65 = .ok (.ireturn, 1) := by decide +kernel
set_option maxRecDepth 20000 in
theorem ggX8_keep_X8_imageAt : GoodIn wsX8_keep wsX8_imageAt := goodIn_r _ [9, 10, 35, 36, 37, 38, 39, 40, 41, 42, 43, 44, 45, 46, 47] (by decide +kernel) (by decide +kernel)
set_option maxRecDepth 20000 in
theorem gX8_keep_X8_imageAt : GoodIn wsX8_keep (wsV RX8 250 RX8 yX8_imageAt wsX8_imageAt) := goodIn_app (goodIn_of _ (by decide +kernel)) ggX8_keep_X8_imageAt
set_option maxRecDepth 20000 in
theorem ggX8_keep_X0_become : GoodIn wsX8_keep wsX0_become := goodIn_r _ [15, 16, 17, 18, 19, 20, 21, 22, 23, 24, 25, 26, 27, 28, 48, 49, 50, 51, 52] (by decide +kernel) (by decide +kernel)
set_option maxRecDepth 20000 in
theorem gX8_keep_X0_become : GoodIn wsX8_keep (wsV RX8 254 RX0 yX0_become wsX0_become) := goodIn_app (goodIn_of _ (by decide +kernel)) ggX8_keep_X0_become
set_option maxRecDepth 20000 in
theorem ggX8_keep_X2_forget : GoodIn wsX8_keep wsX2_forget := goodIn_r _ [33, 34, 53, 54, 55] (by decide +kernel) (by decide +kernel)
set_option maxRecDepth 20000 in
theorem gX8_keep_X2_forget : GoodIn wsX8_keep (wsV RX8 256 RX2 yX2_forget wsX2_forget) := goodIn_app (goodIn_of _ (by decide +kernel)) ggX8_keep_X2_forget
theorem dX8_keep_0 : decode cX8_keep 0 = .ok (.aload_n 0, 1) := by decide +kernel
theorem dX8_keep_1 : decode cX8_keep 1 = .ok (.iload_n 1, 1) := by decide +kernel
theorem dX8_keep_2 : decode cX8_keep 2 = .ok (.invokevirtual 250, 3) := by decide +kernel
theorem dX8_keep_5 : decode cX8_keep 5 = .ok (.astore_n 2, 1) := by decide +kernel
theorem dX8_keep_6 : decode cX8_keep 6 = .ok (.aload_n 2, 1) := by decide +kernel
theorem dX8_keep_7 : decode cX8_keep 7 = .ok (.ifnonnull 6, 3) := by decide +kernel
theorem dX8_keep_10 : decode cX8_keep 10 = .ok (.ldc 96, 2) := by decide +kernel
theorem dX8_keep_12 : decode cX8_keep 12 = .ok (.ireturn, 1) := by decide +kernel
theorem dX8_keep_13 : decode cX8_keep 13 = .ok (.aload_n 2, 1) := by decide +kernel
theorem dX8_keep_14 : decode cX8_keep 14 = .ok (.aload_n 0, 1) := by decide +kernel
theorem dX8_keep_15 : decode cX8_keep 15 = .ok (.getfield 12, 3) := by decide +kernel
theorem dX8_keep_18 : decode cX8_keep 18 = .ok (.invokevirtual 254, 3) := by decide +kernel
theorem dX8_keep_21 : decode cX8_keep 21 = .ok (.aload_n 0, 1) := by decide +kernel
theorem dX8_keep_22 : decode cX8_keep 22 = .ok (.getfield 27, 3) := by decide +kernel
theorem dX8_keep_25 : decode cX8_keep 25 = .ok (.iload_n 1, 1) := by decide +kernel
theorem dX8_keep_26 : decode cX8_keep 26 = .ok (.iconst 1, 1) := by decide +kernel
theorem dX8_keep_27 : decode cX8_keep 27 = .ok (.bastore, 1) := by decide +kernel
theorem dX8_keep_28 : decode cX8_keep 28 = .ok (.aload_n 0, 1) := by decide +kernel
theorem dX8_keep_29 : decode cX8_keep 29 = .ok (.getfield 19, 3) := by decide +kernel
theorem dX8_keep_32 : decode cX8_keep 32 = .ok (.invokevirtual 256, 3) := by decide +kernel
theorem dX8_keep_35 : decode cX8_keep 35 = .ok (.iconst 1, 1) := by decide +kernel
theorem dX8_keep_36 : decode cX8_keep 36 = .ok (.ireturn, 1) := by decide +kernel
set_option maxRecDepth 20000 in
theorem ggX8_goBack_X8_imageAt : GoodIn wsX8_goBack wsX8_imageAt := goodIn_r _ [10, 11, 36, 37, 38, 39, 40, 41, 42, 43, 44, 45, 46, 47, 48] (by decide +kernel) (by decide +kernel)
set_option maxRecDepth 20000 in
theorem gX8_goBack_X8_imageAt : GoodIn wsX8_goBack (wsV RX8 250 RX8 yX8_imageAt wsX8_imageAt) := goodIn_app (goodIn_of _ (by decide +kernel)) ggX8_goBack_X8_imageAt
set_option maxRecDepth 20000 in
theorem ggX8_goBack_X0_become : GoodIn wsX8_goBack wsX0_become := goodIn_r _ [16, 17, 18, 19, 20, 21, 22, 23, 24, 25, 26, 27, 28, 29, 49, 50, 51, 52, 53] (by decide +kernel) (by decide +kernel)
set_option maxRecDepth 20000 in
theorem gX8_goBack_X0_become : GoodIn wsX8_goBack (wsV RX8 254 RX0 yX0_become wsX0_become) := goodIn_app (goodIn_of _ (by decide +kernel)) ggX8_goBack_X0_become
set_option maxRecDepth 20000 in
theorem ggX8_goBack_X2_forget : GoodIn wsX8_goBack wsX2_forget := goodIn_r _ [34, 35, 54, 55, 56] (by decide +kernel) (by decide +kernel)
set_option maxRecDepth 20000 in
theorem gX8_goBack_X2_forget : GoodIn wsX8_goBack (wsV RX8 256 RX2 yX2_forget wsX2_forget) := goodIn_app (goodIn_of _ (by decide +kernel)) ggX8_goBack_X2_forget
theorem dX8_goBack_0 : decode cX8_goBack 0 = .ok (.aload_n 0, 1) := by decide +kernel
theorem dX8_goBack_1 : decode cX8_goBack 1 = .ok (.iload_n 1, 1) := by decide +kernel
theorem dX8_goBack_2 : decode cX8_goBack 2 = .ok (.invokevirtual 250, 3) := by decide +kernel
theorem dX8_goBack_5 : decode cX8_goBack 5 = .ok (.astore_n 2, 1) := by decide +kernel
theorem dX8_goBack_6 : decode cX8_goBack 6 = .ok (.aload_n 2, 1) := by decide +kernel
theorem dX8_goBack_7 : decode cX8_goBack 7 = .ok (.ifnonnull 6, 3) := by decide +kernel
theorem dX8_goBack_10 : decode cX8_goBack 10 = .ok (.ldc 96, 2) := by decide +kernel
theorem dX8_goBack_12 : decode cX8_goBack 12 = .ok (.ireturn, 1) := by decide +kernel
theorem dX8_goBack_13 : decode cX8_goBack 13 = .ok (.aload_n 0, 1) := by decide +kernel
theorem dX8_goBack_14 : decode cX8_goBack 14 = .ok (.getfield 27, 3) := by decide +kernel
theorem dX8_goBack_17 : decode cX8_goBack 17 = .ok (.iload_n 1, 1) := by decide +kernel
theorem dX8_goBack_18 : decode cX8_goBack 18 = .ok (.baload, 1) := by decide +kernel
theorem dX8_goBack_19 : decode cX8_goBack 19 = .ok (.ifCond .ne 6, 3) := by decide +kernel
theorem dX8_goBack_22 : decode cX8_goBack 22 = .ok (.ldc 139, 2) := by decide +kernel
theorem dX8_goBack_24 : decode cX8_goBack 24 = .ok (.ireturn, 1) := by decide +kernel
theorem dX8_goBack_25 : decode cX8_goBack 25 = .ok (.aload_n 0, 1) := by decide +kernel
theorem dX8_goBack_26 : decode cX8_goBack 26 = .ok (.getfield 12, 3) := by decide +kernel
theorem dX8_goBack_29 : decode cX8_goBack 29 = .ok (.aload_n 2, 1) := by decide +kernel
theorem dX8_goBack_30 : decode cX8_goBack 30 = .ok (.invokevirtual 254, 3) := by decide +kernel
theorem dX8_goBack_33 : decode cX8_goBack 33 = .ok (.aload_n 0, 1) := by decide +kernel
theorem dX8_goBack_34 : decode cX8_goBack 34 = .ok (.getfield 19, 3) := by decide +kernel
theorem dX8_goBack_37 : decode cX8_goBack 37 = .ok (.invokevirtual 256, 3) := by decide +kernel
theorem dX8_goBack_40 : decode cX8_goBack 40 = .ok (.iconst 1, 1) := by decide +kernel
theorem dX8_goBack_41 : decode cX8_goBack 41 = .ok (.ireturn, 1) := by decide +kernel
theorem dX8_isMachine_0 : decode cX8_isMachine 0 = .ok (.iload_n 0, 1) := by decide +kernel
theorem dX8_isMachine_1 : decode cX8_isMachine 1 = .ok (.ifCond .lt 12, 3) := by decide +kernel
theorem dX8_isMachine_4 : decode cX8_isMachine 4 = .ok (.iload_n 0, 1) := by decide +kernel
theorem dX8_isMachine_5 : decode cX8_isMachine 5 = .ok (.iconst 2, 1) := by decide +kernel
theorem dX8_isMachine_6 : decode cX8_isMachine 6 = .ok (.if_icmp .ge 7, 3) := by decide +kernel
theorem dX8_isMachine_9 : decode cX8_isMachine 9 = .ok (.iconst 1, 1) := by decide +kernel
theorem dX8_isMachine_10 : decode cX8_isMachine 10 = .ok (.goto 4, 3) := by decide +kernel
theorem dX8_isMachine_13 : decode cX8_isMachine 13 = .ok (.iconst 0, 1) := by decide +kernel
theorem dX8_isMachine_14 : decode cX8_isMachine 14 = .ok (.ireturn, 1) := by decide +kernel
theorem dX8_isSign_0 : decode cX8_isSign 0 = .ok (.iload_n 0, 1) := by decide +kernel
theorem dX8_isSign_1 : decode cX8_isSign 1 = .ok (.ifCond .lt 12, 3) := by decide +kernel
theorem dX8_isSign_4 : decode cX8_isSign 4 = .ok (.iload_n 0, 1) := by decide +kernel
theorem dX8_isSign_5 : decode cX8_isSign 5 = .ok (.iconst 4, 1) := by decide +kernel
theorem dX8_isSign_6 : decode cX8_isSign 6 = .ok (.if_icmp .ge 7, 3) := by decide +kernel
theorem dX8_isSign_9 : decode cX8_isSign 9 = .ok (.iconst 1, 1) := by decide +kernel
theorem dX8_isSign_10 : decode cX8_isSign 10 = .ok (.goto 4, 3) := by decide +kernel
theorem dX8_isSign_13 : decode cX8_isSign 13 = .ok (.iconst 0, 1) := by decide +kernel
theorem dX8_isSign_14 : decode cX8_isSign 14 = .ok (.ireturn, 1) := by decide +kernel
theorem dX8_isSide_0 : decode cX8_isSide 0 = .ok (.iload_n 0, 1) := by decide +kernel
theorem dX8_isSide_1 : decode cX8_isSide 1 = .ok (.ifCond .eq 8, 3) := by decide +kernel
theorem dX8_isSide_4 : decode cX8_isSide 4 = .ok (.iload_n 0, 1) := by decide +kernel
theorem dX8_isSide_5 : decode cX8_isSide 5 = .ok (.iconst 1, 1) := by decide +kernel
theorem dX8_isSide_6 : decode cX8_isSide 6 = .ok (.if_icmp .ne 7, 3) := by decide +kernel
theorem dX8_isSide_9 : decode cX8_isSide 9 = .ok (.iconst 1, 1) := by decide +kernel
theorem dX8_isSide_10 : decode cX8_isSide 10 = .ok (.goto 4, 3) := by decide +kernel
theorem dX8_isSide_13 : decode cX8_isSide 13 = .ok (.iconst 0, 1) := by decide +kernel
theorem dX8_isSide_14 : decode cX8_isSide 14 = .ok (.ireturn, 1) := by decide +kernel
theorem dX8_stateOf_0 : decode cX8_stateOf 0 = .ok (.iload_n 0, 1) := by decide +kernel
theorem dX8_stateOf_1 : decode cX8_stateOf 1 = .ok (.iconst 1, 1) := by decide +kernel
theorem dX8_stateOf_2 : decode cX8_stateOf 2 = .ok (.ishr, 1) := by decide +kernel
theorem dX8_stateOf_3 : decode cX8_stateOf 3 = .ok (.ireturn, 1) := by decide +kernel
theorem dX8_sideOf_0 : decode cX8_sideOf 0 = .ok (.iload_n 0, 1) := by decide +kernel
theorem dX8_sideOf_1 : decode cX8_sideOf 1 = .ok (.iconst 1, 1) := by decide +kernel
theorem dX8_sideOf_2 : decode cX8_sideOf 2 = .ok (.iand, 1) := by decide +kernel
theorem dX8_sideOf_3 : decode cX8_sideOf 3 = .ok (.ireturn, 1) := by decide +kernel
set_option maxRecDepth 20000 in
theorem ggX8_shift_X8_sideOf : GoodIn wsX8_shift wsX8_sideOf := goodIn_r _ [4] (by decide +kernel) (by decide +kernel)
set_option maxRecDepth 20000 in
theorem gX8_shift_X8_sideOf : GoodIn wsX8_shift (va_wsS RX8 259 yX8_sideOf wsX8_sideOf) := goodIn_app (goodIn_of _ (by decide +kernel)) ggX8_shift_X8_sideOf
theorem dX8_shift_0 : decode cX8_shift 0 = .ok (.iload_n 0, 1) := by decide +kernel
theorem dX8_shift_1 : decode cX8_shift 1 = .ok (.invokestatic 259, 3) := by decide +kernel
theorem dX8_shift_4 : decode cX8_shift 4 = .ok (.iconst 1, 1) := by decide +kernel
theorem dX8_shift_5 : decode cX8_shift 5 = .ok (.if_icmp .ne 7, 3) := by decide +kernel
theorem dX8_shift_8 : decode cX8_shift 8 = .ok (.iconst 1, 1) := by decide +kernel
theorem dX8_shift_9 : decode cX8_shift 9 = .ok (.goto 4, 3) := by decide +kernel
theorem dX8_shift_12 : decode cX8_shift 12 = .ok (.iconst (-1), 1) := by decide +kernel
theorem dX8_shift_13 : decode cX8_shift 13 = .ok (.ireturn, 1) := by decide +kernel
theorem dX8_lengthen_0 : decode cX8_lengthen 0 = .ok (.iconst 2, 1) := by decide +kernel
theorem dX8_lengthen_1 : decode cX8_lengthen 1 = .ok (.iload_n 0, 1) := by decide +kernel
theorem dX8_lengthen_2 : decode cX8_lengthen 2 = .ok (.imul, 1) := by decide +kernel
theorem dX8_lengthen_3 : decode cX8_lengthen 3 = .ok (.iload_n 1, 1) := by decide +kernel
theorem dX8_lengthen_4 : decode cX8_lengthen 4 = .ok (.iadd, 1) := by decide +kernel
theorem dX8_lengthen_5 : decode cX8_lengthen 5 = .ok (.istore_n 2, 1) := by decide +kernel
theorem dX8_lengthen_6 : decode cX8_lengthen 6 = .ok (.iload_n 0, 1) := by decide +kernel
theorem dX8_lengthen_7 : decode cX8_lengthen 7 = .ok (.ifCond .eq 9, 3) := by decide +kernel
theorem dX8_lengthen_10 : decode cX8_lengthen 10 = .ok (.iload_n 2, 1) := by decide +kernel
theorem dX8_lengthen_11 : decode cX8_lengthen 11 = .ok (.ldc 165, 2) := by decide +kernel
theorem dX8_lengthen_13 : decode cX8_lengthen 13 = .ok (.if_icmp .lt 7, 3) := by decide +kernel
theorem dX8_lengthen_16 : decode cX8_lengthen 16 = .ok (.iconst 0, 1) := by decide +kernel
theorem dX8_lengthen_17 : decode cX8_lengthen 17 = .ok (.goto 4, 3) := by decide +kernel
theorem dX8_lengthen_20 : decode cX8_lengthen 20 = .ok (.iload_n 2, 1) := by decide +kernel
theorem dX8_lengthen_21 : decode cX8_lengthen 21 = .ok (.ireturn, 1) := by decide +kernel
set_option maxRecDepth 20000 in
theorem ggX8_hasMoveOf_X8_isMachine : GoodIn wsX8_hasMoveOf wsX8_isMachine := goodIn_r _ [5] (by decide +kernel) (by decide +kernel)
set_option maxRecDepth 20000 in
theorem gX8_hasMoveOf_X8_isMachine : GoodIn wsX8_hasMoveOf (va_wsS RX8 93 yX8_isMachine wsX8_isMachine) := goodIn_app (goodIn_of _ (by decide +kernel)) ggX8_hasMoveOf_X8_isMachine
set_option maxRecDepth 20000 in
theorem ggX8_hasMoveOf_X0_at : GoodIn wsX8_hasMoveOf wsX0_at := goodIn_r _ [10, 11, 12, 35, 36] (by decide +kernel) (by decide +kernel)
set_option maxRecDepth 20000 in
theorem gX8_hasMoveOf_X0_at : GoodIn wsX8_hasMoveOf (wsV RX8 111 RX0 yX0_at wsX0_at) := goodIn_app (goodIn_of _ (by decide +kernel)) ggX8_hasMoveOf_X0_at
set_option maxRecDepth 20000 in
theorem ggX8_hasMoveOf_X3_hasState : GoodIn wsX8_hasMoveOf wsX3_hasState := goodIn_r _ [17, 18, 37, 38, 39] (by decide +kernel) (by decide +kernel)
set_option maxRecDepth 20000 in
theorem gX8_hasMoveOf_X3_hasState : GoodIn wsX8_hasMoveOf (wsV RX8 126 RX3 yX3_hasState wsX3_hasState) := goodIn_app (goodIn_of _ (by decide +kernel)) ggX8_hasMoveOf_X3_hasState
set_option maxRecDepth 20000 in
theorem ggX8_hasMoveOf_X8_isSign : GoodIn wsX8_hasMoveOf wsX8_isSign := goodIn_r _ [21] (by decide +kernel) (by decide +kernel)
set_option maxRecDepth 20000 in
theorem gX8_hasMoveOf_X8_isSign : GoodIn wsX8_hasMoveOf (va_wsS RX8 262 yX8_isSign wsX8_isSign) := goodIn_app (goodIn_of _ (by decide +kernel)) ggX8_hasMoveOf_X8_isSign
theorem dX8_hasMoveOf_0 : decode cX8_hasMoveOf 0 = .ok (.iload_n 1, 1) := by decide +kernel
theorem dX8_hasMoveOf_1 : decode cX8_hasMoveOf 1 = .ok (.invokestatic 93, 3) := by decide +kernel
theorem dX8_hasMoveOf_4 : decode cX8_hasMoveOf 4 = .ok (.ifCond .eq 29, 3) := by decide +kernel
theorem dX8_hasMoveOf_7 : decode cX8_hasMoveOf 7 = .ok (.aload_n 0, 1) := by decide +kernel
theorem dX8_hasMoveOf_8 : decode cX8_hasMoveOf 8 = .ok (.getfield 12, 3) := by decide +kernel
theorem dX8_hasMoveOf_11 : decode cX8_hasMoveOf 11 = .ok (.iload_n 1, 1) := by decide +kernel
theorem dX8_hasMoveOf_12 : decode cX8_hasMoveOf 12 = .ok (.invokevirtual 111, 3) := by decide +kernel
theorem dX8_hasMoveOf_15 : decode cX8_hasMoveOf 15 = .ok (.iload_n 2, 1) := by decide +kernel
theorem dX8_hasMoveOf_16 : decode cX8_hasMoveOf 16 = .ok (.invokevirtual 126, 3) := by decide +kernel
theorem dX8_hasMoveOf_19 : decode cX8_hasMoveOf 19 = .ok (.ifCond .eq 14, 3) := by decide +kernel
theorem dX8_hasMoveOf_22 : decode cX8_hasMoveOf 22 = .ok (.iload_n 3, 1) := by decide +kernel
theorem dX8_hasMoveOf_23 : decode cX8_hasMoveOf 23 = .ok (.invokestatic 262, 3) := by decide +kernel
theorem dX8_hasMoveOf_26 : decode cX8_hasMoveOf 26 = .ok (.ifCond .eq 7, 3) := by decide +kernel
theorem dX8_hasMoveOf_29 : decode cX8_hasMoveOf 29 = .ok (.iconst 1, 1) := by decide +kernel
theorem dX8_hasMoveOf_30 : decode cX8_hasMoveOf 30 = .ok (.goto 4, 3) := by decide +kernel
theorem dX8_hasMoveOf_33 : decode cX8_hasMoveOf 33 = .ok (.iconst 0, 1) := by decide +kernel
theorem dX8_hasMoveOf_34 : decode cX8_hasMoveOf 34 = .ok (.ireturn, 1) := by decide +kernel
set_option maxRecDepth 20000 in
theorem ggX8_isPiece_X7_length : GoodIn wsX8_isPiece wsX7_length := goodIn_r _ [6, 7, 21, 22] (by decide +kernel) (by decide +kernel)
set_option maxRecDepth 20000 in
theorem gX8_isPiece_X7_length : GoodIn wsX8_isPiece (wsV RX8 164 RX7 yX7_length wsX7_length) := goodIn_app (goodIn_of _ (by decide +kernel)) ggX8_isPiece_X7_length
theorem dX8_isPiece_0 : decode cX8_isPiece 0 = .ok (.iload_n 1, 1) := by decide +kernel
theorem dX8_isPiece_1 : decode cX8_isPiece 1 = .ok (.ifCond .lt 23, 3) := by decide +kernel
theorem dX8_isPiece_4 : decode cX8_isPiece 4 = .ok (.iload_n 1, 1) := by decide +kernel
theorem dX8_isPiece_5 : decode cX8_isPiece 5 = .ok (.iload_n 2, 1) := by decide +kernel
theorem dX8_isPiece_6 : decode cX8_isPiece 6 = .ok (.if_icmp .ge 18, 3) := by decide +kernel
theorem dX8_isPiece_9 : decode cX8_isPiece 9 = .ok (.iload_n 2, 1) := by decide +kernel
theorem dX8_isPiece_10 : decode cX8_isPiece 10 = .ok (.aload_n 0, 1) := by decide +kernel
theorem dX8_isPiece_11 : decode cX8_isPiece 11 = .ok (.getfield 48, 3) := by decide +kernel
theorem dX8_isPiece_14 : decode cX8_isPiece 14 = .ok (.invokevirtual 164, 3) := by decide +kernel
theorem dX8_isPiece_17 : decode cX8_isPiece 17 = .ok (.if_icmp .gt 7, 3) := by decide +kernel
theorem dX8_isPiece_20 : decode cX8_isPiece 20 = .ok (.iconst 1, 1) := by decide +kernel
theorem dX8_isPiece_21 : decode cX8_isPiece 21 = .ok (.goto 4, 3) := by decide +kernel
theorem dX8_isPiece_24 : decode cX8_isPiece 24 = .ok (.iconst 0, 1) := by decide +kernel
theorem dX8_isPiece_25 : decode cX8_isPiece 25 = .ok (.ireturn, 1) := by decide +kernel
theorem dX8_imageAt_0 : decode cX8_imageAt 0 = .ok (.iload_n 1, 1) := by decide +kernel
theorem dX8_imageAt_1 : decode cX8_imageAt 1 = .ok (.ifCond .lt 17, 3) := by decide +kernel
theorem dX8_imageAt_4 : decode cX8_imageAt 4 = .ok (.iload_n 1, 1) := by decide +kernel
theorem dX8_imageAt_5 : decode cX8_imageAt 5 = .ok (.iconst 2, 1) := by decide +kernel
theorem dX8_imageAt_6 : decode cX8_imageAt 6 = .ok (.if_icmp .ge 12, 3) := by decide +kernel
theorem dX8_imageAt_9 : decode cX8_imageAt 9 = .ok (.aload_n 0, 1) := by decide +kernel
theorem dX8_imageAt_10 : decode cX8_imageAt 10 = .ok (.getfield 23, 3) := by decide +kernel
theorem dX8_imageAt_13 : decode cX8_imageAt 13 = .ok (.iload_n 1, 1) := by decide +kernel
theorem dX8_imageAt_14 : decode cX8_imageAt 14 = .ok (.aaload, 1) := by decide +kernel
theorem dX8_imageAt_15 : decode cX8_imageAt 15 = .ok (.goto 4, 3) := by decide +kernel
theorem dX8_imageAt_18 : decode cX8_imageAt 18 = .ok (.aconst_null, 1) := by decide +kernel
theorem dX8_imageAt_19 : decode cX8_imageAt 19 = .ok (.areturn, 1) := by decide +kernel
set_option maxRecDepth 20000 in
theorem ggX8_change_X2_remember : GoodIn wsX8_change wsX2_remember := goodIn_r _ [7, 8, 9, 10, 11, 12, 13, 14, 15, 16, 6, 17, 18, 19, 20, 21, 22, 23, 24, 25, 26, 27, 28, 29, 30, 31, 32, 33, 34, 35, 36, 65, 66, 67, 68, 69, 70, 71, 72] (by decide +kernel) (by decide +kernel)
set_option maxRecDepth 20000 in
theorem gX8_change_X2_remember : GoodIn wsX8_change (wsV RX8 107 RX2 yX2_remember wsX2_remember) := goodIn_app (goodIn_of _ (by decide +kernel)) ggX8_change_X2_remember
set_option maxRecDepth 20000 in
theorem ggX8_change_X3_at : GoodIn wsX8_change wsX3_at := goodIn_r _ [40, 31, 32, 41, 42, 43, 70, 71, 72] (by decide +kernel) (by decide +kernel)
set_option maxRecDepth 20000 in
theorem gX8_change_X3_at : GoodIn wsX8_change (wsV RX8 136 RX3 yX3_at wsX3_at) := goodIn_app (goodIn_of _ (by decide +kernel)) ggX8_change_X3_at
set_option maxRecDepth 20000 in
theorem ggX8_change_X3_put : GoodIn wsX8_change wsX3_put := goodIn_r _ [47, 32, 48, 49, 50, 29, 51, 31, 41, 42, 43, 70, 71, 72] (by decide +kernel) (by decide +kernel)
set_option maxRecDepth 20000 in
theorem gX8_change_X3_put : GoodIn wsX8_change (wsV RX8 265 RX3 yX3_put wsX3_put) := goodIn_app (goodIn_of _ (by decide +kernel)) ggX8_change_X3_put
theorem dX8_change_0 : decode cX8_change 0 = .ok (.aload_n 0, 1) := by decide +kernel
theorem dX8_change_1 : decode cX8_change 1 = .ok (.getfield 19, 3) := by decide +kernel
theorem dX8_change_4 : decode cX8_change 4 = .ok (.aload_n 0, 1) := by decide +kernel
theorem dX8_change_5 : decode cX8_change 5 = .ok (.getfield 12, 3) := by decide +kernel
theorem dX8_change_8 : decode cX8_change 8 = .ok (.invokevirtual 107, 3) := by decide +kernel
theorem dX8_change_11 : decode cX8_change 11 = .ok (.aload_n 1, 1) := by decide +kernel
theorem dX8_change_12 : decode cX8_change 12 = .ok (.iload_n 2, 1) := by decide +kernel
theorem dX8_change_13 : decode cX8_change 13 = .ok (.iload_n 3, 1) := by decide +kernel
theorem dX8_change_14 : decode cX8_change 14 = .ok (.invokevirtual 136, 3) := by decide +kernel
theorem dX8_change_17 : decode cX8_change 17 = .ok (.istore 5, 2) := by decide +kernel
theorem dX8_change_19 : decode cX8_change 19 = .ok (.aload_n 1, 1) := by decide +kernel
theorem dX8_change_20 : decode cX8_change 20 = .ok (.iload_n 2, 1) := by decide +kernel
theorem dX8_change_21 : decode cX8_change 21 = .ok (.iload_n 3, 1) := by decide +kernel
theorem dX8_change_22 : decode cX8_change 22 = .ok (.iload 4, 2) := by decide +kernel
theorem dX8_change_24 : decode cX8_change 24 = .ok (.invokevirtual 265, 3) := by decide +kernel
theorem dX8_change_27 : decode cX8_change 27 = .ok (.iload 5, 2) := by decide +kernel
theorem dX8_change_29 : decode cX8_change 29 = .ok (.ireturn, 1) := by decide +kernel
set_option maxRecDepth 20000 in
theorem ggX8_oneWayFor_X0_at : GoodIn wsX8_oneWayFor wsX0_at := goodIn_r _ [8, 9, 10, 110, 111] (by decide +kernel) (by decide +kernel)
set_option maxRecDepth 20000 in
theorem gX8_oneWayFor_X0_at : GoodIn wsX8_oneWayFor (wsV RX8 111 RX0 yX0_at wsX0_at) := goodIn_app (goodIn_of _ (by decide +kernel)) ggX8_oneWayFor_X0_at
set_option maxRecDepth 20000 in
theorem ggX8_oneWayFor_X5_make : GoodIn wsX8_oneWayFor wsX5_make := goodIn_r _ [15, 16, 17, 18, 19, 20, 21, 22, 23, 24, 25, 26, 27, 28, 29, 30, 31, 32, 33, 34, 35, 36, 37, 38, 39, 40, 41, 42, 43, 44, 45, 14, 46, 47, 48, 49, 50, 51, 52, 53, 54, 55, 56, 57, 58, 59, 60, 61, 62, 63, 64, 65, 66, 67, 68, 69, 70, 71, 72, 73, 74, 75, 76, 77, 78, 79, 80, 81, 82, 83, 84, 85, 86, 87, 88, 89, 90, 91, 92, 93, 94, 95, 96, 112, 113, 114, 115, 116, 117, 118, 119, 120, 121, 122, 123, 124, 125, 126, 127, 128, 129, 130] (by decide +kernel) (by decide +kernel)
set_option maxRecDepth 20000 in
theorem gX8_oneWayFor_X5_make : GoodIn wsX8_oneWayFor (wsV RX8 269 RX5 yX5_make wsX5_make) := goodIn_app (goodIn_of _ (by decide +kernel)) ggX8_oneWayFor_X5_make
theorem dX8_oneWayFor_0 : decode cX8_oneWayFor 0 = .ok (.iload_n 1, 1) := by decide +kernel
theorem dX8_oneWayFor_1 : decode cX8_oneWayFor 1 = .ok (.ifCond .ne 10, 3) := by decide +kernel
theorem dX8_oneWayFor_4 : decode cX8_oneWayFor 4 = .ok (.aload_n 0, 1) := by decide +kernel
theorem dX8_oneWayFor_5 : decode cX8_oneWayFor 5 = .ok (.getfield 65, 3) := by decide +kernel
theorem dX8_oneWayFor_8 : decode cX8_oneWayFor 8 = .ok (.goto 7, 3) := by decide +kernel
theorem dX8_oneWayFor_11 : decode cX8_oneWayFor 11 = .ok (.aload_n 0, 1) := by decide +kernel
theorem dX8_oneWayFor_12 : decode cX8_oneWayFor 12 = .ok (.getfield 69, 3) := by decide +kernel
theorem dX8_oneWayFor_15 : decode cX8_oneWayFor 15 = .ok (.astore_n 2, 1) := by decide +kernel
theorem dX8_oneWayFor_16 : decode cX8_oneWayFor 16 = .ok (.aload_n 2, 1) := by decide +kernel
theorem dX8_oneWayFor_17 : decode cX8_oneWayFor 17 = .ok (.aload_n 0, 1) := by decide +kernel
theorem dX8_oneWayFor_18 : decode cX8_oneWayFor 18 = .ok (.getfield 12, 3) := by decide +kernel
theorem dX8_oneWayFor_21 : decode cX8_oneWayFor 21 = .ok (.iload_n 1, 1) := by decide +kernel
theorem dX8_oneWayFor_22 : decode cX8_oneWayFor 22 = .ok (.invokevirtual 111, 3) := by decide +kernel
theorem dX8_oneWayFor_25 : decode cX8_oneWayFor 25 = .ok (.invokevirtual 269, 3) := by decide +kernel
theorem dX8_oneWayFor_28 : decode cX8_oneWayFor 28 = .ok (.aload_n 2, 1) := by decide +kernel
theorem dX8_oneWayFor_29 : decode cX8_oneWayFor 29 = .ok (.areturn, 1) := by decide +kernel
set_option maxRecDepth 20000 in
theorem ggX8_firstByRule_X0_at : GoodIn wsX8_firstByRule wsX0_at := goodIn_r _ [10, 11, 12, 145, 146] (by decide +kernel) (by decide +kernel)
set_option maxRecDepth 20000 in
theorem gX8_firstByRule_X0_at : GoodIn wsX8_firstByRule (wsV RX8 111 RX0 yX0_at wsX0_at) := goodIn_app (goodIn_of _ (by decide +kernel)) ggX8_firstByRule_X0_at
set_option maxRecDepth 20000 in
theorem ggX8_firstByRule_X5_make : GoodIn wsX8_firstByRule wsX5_make := goodIn_r _ [17, 18, 19, 20, 21, 22, 23, 24, 25, 26, 27, 28, 29, 30, 31, 32, 33, 34, 35, 36, 37, 38, 39, 40, 41, 42, 43, 44, 45, 46, 47, 16, 48, 49, 50, 51, 52, 53, 54, 55, 56, 57, 58, 59, 60, 61, 62, 63, 64, 65, 66, 67, 68, 69, 70, 71, 72, 73, 74, 75, 76, 77, 78, 79, 80, 81, 82, 83, 84, 85, 86, 87, 88, 89, 90, 91, 92, 93, 94, 95, 96, 97, 98, 147, 148, 149, 150, 151, 152, 153, 154, 155, 156, 157, 158, 159, 160, 161, 162, 163, 164, 165] (by decide +kernel) (by decide +kernel)
set_option maxRecDepth 20000 in
theorem gX8_firstByRule_X5_make : GoodIn wsX8_firstByRule (wsV RX8 269 RX5 yX5_make wsX5_make) := goodIn_app (goodIn_of _ (by decide +kernel)) ggX8_firstByRule_X5_make
set_option maxRecDepth 20000 in
theorem ggX8_firstByRule_X5_isTooMany : GoodIn wsX8_firstByRule wsX5_isTooMany := goodIn_r _ [102, 20, 147, 148, 149, 150, 151, 152, 153, 154, 155, 156, 157, 158, 159, 160, 161, 162] (by decide +kernel) (by decide +kernel)
set_option maxRecDepth 20000 in
theorem gX8_firstByRule_X5_isTooMany : GoodIn wsX8_firstByRule (wsV RX8 219 RX5 yX5_isTooMany wsX5_isTooMany) := goodIn_app (goodIn_of _ (by decide +kernel)) ggX8_firstByRule_X5_isTooMany
set_option maxRecDepth 20000 in
theorem ggX8_firstByRule_X4_firstWord : GoodIn wsX8_firstByRule wsX4_firstWord := goodIn_r _ [107, 108, 109, 110, 111, 112, 42, 43, 44, 113, 114, 115, 106, 116, 117, 118, 119, 120, 121, 122, 123, 16, 124, 98, 55, 56, 57, 58, 21, 125, 126, 127, 128, 129, 130, 131, 24, 91, 68, 92, 93, 166, 167, 168, 147, 148, 149, 150, 151, 152, 153, 154, 155, 156, 157, 158, 159, 160, 161, 162] (by decide +kernel) (by decide +kernel)
set_option maxRecDepth 20000 in
theorem gX8_firstByRule_X4_firstWord : GoodIn wsX8_firstByRule (wsV RX8 272 RX4 yX4_firstWord wsX4_firstWord) := goodIn_app (goodIn_of _ (by decide +kernel)) ggX8_firstByRule_X4_firstWord
theorem dX8_firstByRule_0 : decode cX8_firstByRule 0 = .ok (.aload_n 0, 1) := by decide +kernel
theorem dX8_firstByRule_1 : decode cX8_firstByRule 1 = .ok (.getfield 65, 3) := by decide +kernel
theorem dX8_firstByRule_4 : decode cX8_firstByRule 4 = .ok (.aload_n 0, 1) := by decide +kernel
theorem dX8_firstByRule_5 : decode cX8_firstByRule 5 = .ok (.getfield 12, 3) := by decide +kernel
theorem dX8_firstByRule_8 : decode cX8_firstByRule 8 = .ok (.iconst 0, 1) := by decide +kernel
theorem dX8_firstByRule_9 : decode cX8_firstByRule 9 = .ok (.invokevirtual 111, 3) := by decide +kernel
theorem dX8_firstByRule_12 : decode cX8_firstByRule 12 = .ok (.invokevirtual 269, 3) := by decide +kernel
theorem dX8_firstByRule_15 : decode cX8_firstByRule 15 = .ok (.aload_n 0, 1) := by decide +kernel
theorem dX8_firstByRule_16 : decode cX8_firstByRule 16 = .ok (.getfield 69, 3) := by decide +kernel
theorem dX8_firstByRule_19 : decode cX8_firstByRule 19 = .ok (.aload_n 0, 1) := by decide +kernel
theorem dX8_firstByRule_20 : decode cX8_firstByRule 20 = .ok (.getfield 12, 3) := by decide +kernel
theorem dX8_firstByRule_23 : decode cX8_firstByRule 23 = .ok (.iconst 1, 1) := by decide +kernel
theorem dX8_firstByRule_24 : decode cX8_firstByRule 24 = .ok (.invokevirtual 111, 3) := by decide +kernel
theorem dX8_firstByRule_27 : decode cX8_firstByRule 27 = .ok (.invokevirtual 269, 3) := by decide +kernel
theorem dX8_firstByRule_30 : decode cX8_firstByRule 30 = .ok (.aload_n 0, 1) := by decide +kernel
theorem dX8_firstByRule_31 : decode cX8_firstByRule 31 = .ok (.getfield 65, 3) := by decide +kernel
theorem dX8_firstByRule_34 : decode cX8_firstByRule 34 = .ok (.invokevirtual 219, 3) := by decide +kernel
theorem dX8_firstByRule_37 : decode cX8_firstByRule 37 = .ok (.ifCond .ne 13, 3) := by decide +kernel
theorem dX8_firstByRule_40 : decode cX8_firstByRule 40 = .ok (.aload_n 0, 1) := by decide +kernel
theorem dX8_firstByRule_41 : decode cX8_firstByRule 41 = .ok (.getfield 69, 3) := by decide +kernel
theorem dX8_firstByRule_44 : decode cX8_firstByRule 44 = .ok (.invokevirtual 219, 3) := by decide +kernel
theorem dX8_firstByRule_47 : decode cX8_firstByRule 47 = .ok (.ifCond .eq 7, 3) := by decide +kernel
theorem dX8_firstByRule_50 : decode cX8_firstByRule 50 = .ok (.iconst 1, 1) := by decide +kernel
theorem dX8_firstByRule_51 : decode cX8_firstByRule 51 = .ok (.goto 4, 3) := by decide +kernel
theorem dX8_firstByRule_54 : decode cX8_firstByRule 54 = .ok (.iconst 0, 1) := by decide +kernel
theorem dX8_firstByRule_55 : decode cX8_firstByRule 55 = .ok (.istore_n 2, 1) := by decide +kernel
theorem dX8_firstByRule_56 : decode cX8_firstByRule 56 = .ok (.iload_n 2, 1) := by decide +kernel
theorem dX8_firstByRule_57 : decode cX8_firstByRule 57 = .ok (.ifCond .eq 8, 3) := by decide +kernel
theorem dX8_firstByRule_60 : decode cX8_firstByRule 60 = .ok (.ldc 92, 2) := by decide +kernel
theorem dX8_firstByRule_62 : decode cX8_firstByRule 62 = .ok (.goto 19, 3) := by decide +kernel
theorem dX8_firstByRule_65 : decode cX8_firstByRule 65 = .ok (.aload_n 0, 1) := by decide +kernel
theorem dX8_firstByRule_66 : decode cX8_firstByRule 66 = .ok (.getfield 75, 3) := by decide +kernel
theorem dX8_firstByRule_69 : decode cX8_firstByRule 69 = .ok (.aload_n 0, 1) := by decide +kernel
theorem dX8_firstByRule_70 : decode cX8_firstByRule 70 = .ok (.getfield 65, 3) := by decide +kernel
theorem dX8_firstByRule_73 : decode cX8_firstByRule 73 = .ok (.aload_n 0, 1) := by decide +kernel
theorem dX8_firstByRule_74 : decode cX8_firstByRule 74 = .ok (.getfield 69, 3) := by decide +kernel
theorem dX8_firstByRule_77 : decode cX8_firstByRule 77 = .ok (.iload_n 1, 1) := by decide +kernel
theorem dX8_firstByRule_78 : decode cX8_firstByRule 78 = .ok (.invokevirtual 272, 3) := by decide +kernel
theorem dX8_firstByRule_81 : decode cX8_firstByRule 81 = .ok (.ireturn, 1) := by decide +kernel
theorem dX8_tellWhetherNone_0 : decode cX8_tellWhetherNone 0 = .ok (.iload_n 0, 1) := by decide +kernel
theorem dX8_tellWhetherNone_1 : decode cX8_tellWhetherNone 1 = .ok (.ldc 92, 2) := by decide +kernel
theorem dX8_tellWhetherNone_3 : decode cX8_tellWhetherNone 3 = .ok (.if_icmp .ne 6, 3) := by decide +kernel
theorem dX8_tellWhetherNone_6 : decode cX8_tellWhetherNone 6 = .ok (.ldc 92, 2) := by decide +kernel
theorem dX8_tellWhetherNone_8 : decode cX8_tellWhetherNone 8 = .ok (.ireturn, 1) := by decide +kernel
theorem dX8_tellWhetherNone_9 : decode cX8_tellWhetherNone 9 = .ok (.iload_n 0, 1) := by decide +kernel
theorem dX8_tellWhetherNone_10 : decode cX8_tellWhetherNone 10 = .ok (.iconst (-1), 1) := by decide +kernel
theorem dX8_tellWhetherNone_11 : decode cX8_tellWhetherNone 11 = .ok (.if_icmp .ne 7, 3) := by decide +kernel
theorem dX8_tellWhetherNone_14 : decode cX8_tellWhetherNone 14 = .ok (.iconst 1, 1) := by decide +kernel
theorem dX8_tellWhetherNone_15 : decode cX8_tellWhetherNone 15 = .ok (.goto 4, 3) := by decide +kernel
theorem dX8_tellWhetherNone_18 : decode cX8_tellWhetherNone 18 = .ok (.iconst 0, 1) := by decide +kernel
theorem dX8_tellWhetherNone_19 : decode cX8_tellWhetherNone 19 = .ok (.ireturn, 1) := by decide +kernel
set_option maxRecDepth 20000 in
theorem ggX8_goOffPiece_X7_letterAt : GoodIn wsX8_goOffPiece wsX7_letterAt := goodIn_r _ [6, 7, 8, 41, 42] (by decide +kernel) (by decide +kernel)
set_option maxRecDepth 20000 in
theorem gX8_goOffPiece_X7_letterAt : GoodIn wsX8_goOffPiece (wsV RX8 275 RX7 yX7_letterAt wsX7_letterAt) := goodIn_app (goodIn_of _ (by decide +kernel)) ggX8_goOffPiece_X7_letterAt
set_option maxRecDepth 20000 in
theorem ggX8_goOffPiece_X3_at : GoodIn wsX8_goOffPiece wsX3_at := goodIn_r _ [13, 14, 15, 16, 17, 18, 43, 44, 45] (by decide +kernel) (by decide +kernel)
set_option maxRecDepth 20000 in
theorem gX8_goOffPiece_X3_at : GoodIn wsX8_goOffPiece (wsV RX8 136 RX3 yX3_at wsX3_at) := goodIn_app (goodIn_of _ (by decide +kernel)) ggX8_goOffPiece_X3_at
set_option maxRecDepth 20000 in
theorem ggX8_goOffPiece_X8_stateOf : GoodIn wsX8_goOffPiece wsX8_stateOf := goodIn_r _ [21] (by decide +kernel) (by decide +kernel)
set_option maxRecDepth 20000 in
theorem gX8_goOffPiece_X8_stateOf : GoodIn wsX8_goOffPiece (va_wsS RX8 278 yX8_stateOf wsX8_stateOf) := goodIn_app (goodIn_of _ (by decide +kernel)) ggX8_goOffPiece_X8_stateOf
set_option maxRecDepth 20000 in
theorem ggX8_goOffPiece_X8_shift : GoodIn wsX8_goOffPiece wsX8_shift := goodIn_r _ [24, 25, 26, 17, 27] (by decide +kernel) (by decide +kernel)
set_option maxRecDepth 20000 in
theorem gX8_goOffPiece_X8_shift : GoodIn wsX8_goOffPiece (va_wsS RX8 281 yX8_shift wsX8_shift) := goodIn_app (goodIn_of _ (by decide +kernel)) ggX8_goOffPiece_X8_shift
theorem dX8_goOffPiece_0 : decode cX8_goOffPiece 0 = .ok (.iload 4, 2) := by decide +kernel
theorem dX8_goOffPiece_2 : decode cX8_goOffPiece 2 = .ok (.istore 6, 2) := by decide +kernel
theorem dX8_goOffPiece_4 : decode cX8_goOffPiece 4 = .ok (.iload 5, 2) := by decide +kernel
theorem dX8_goOffPiece_6 : decode cX8_goOffPiece 6 = .ok (.ifCond .ne 7, 3) := by decide +kernel
theorem dX8_goOffPiece_9 : decode cX8_goOffPiece 9 = .ok (.iload_n 2, 1) := by decide +kernel
theorem dX8_goOffPiece_10 : decode cX8_goOffPiece 10 = .ok (.goto 6, 3) := by decide +kernel
theorem dX8_goOffPiece_13 : decode cX8_goOffPiece 13 = .ok (.iload_n 3, 1) := by decide +kernel
theorem dX8_goOffPiece_14 : decode cX8_goOffPiece 14 = .ok (.iconst 1, 1) := by decide +kernel
theorem dX8_goOffPiece_15 : decode cX8_goOffPiece 15 = .ok (.isub, 1) := by decide +kernel
theorem dX8_goOffPiece_16 : decode cX8_goOffPiece 16 = .ok (.istore 7, 2) := by decide +kernel
theorem dX8_goOffPiece_18 : decode cX8_goOffPiece 18 = .ok (.iconst 0, 1) := by decide +kernel
theorem dX8_goOffPiece_19 : decode cX8_goOffPiece 19 = .ok (.istore 8, 2) := by decide +kernel
theorem dX8_goOffPiece_21 : decode cX8_goOffPiece 21 = .ok (.iload 8, 2) := by decide +kernel
theorem dX8_goOffPiece_23 : decode cX8_goOffPiece 23 = .ok (.bipush 96, 2) := by decide +kernel
theorem dX8_goOffPiece_25 : decode cX8_goOffPiece 25 = .ok (.if_icmp .ge 66, 3) := by decide +kernel
theorem dX8_goOffPiece_28 : decode cX8_goOffPiece 28 = .ok (.aload_n 1, 1) := by decide +kernel
theorem dX8_goOffPiece_29 : decode cX8_goOffPiece 29 = .ok (.iload 6, 2) := by decide +kernel
theorem dX8_goOffPiece_31 : decode cX8_goOffPiece 31 = .ok (.aload_n 0, 1) := by decide +kernel
theorem dX8_goOffPiece_32 : decode cX8_goOffPiece 32 = .ok (.getfield 48, 3) := by decide +kernel
theorem dX8_goOffPiece_35 : decode cX8_goOffPiece 35 = .ok (.iload 7, 2) := by decide +kernel
theorem dX8_goOffPiece_37 : decode cX8_goOffPiece 37 = .ok (.invokevirtual 275, 3) := by decide +kernel
theorem dX8_goOffPiece_40 : decode cX8_goOffPiece 40 = .ok (.invokevirtual 136, 3) := by decide +kernel
theorem dX8_goOffPiece_43 : decode cX8_goOffPiece 43 = .ok (.istore 9, 2) := by decide +kernel
theorem dX8_goOffPiece_45 : decode cX8_goOffPiece 45 = .ok (.iload 9, 2) := by decide +kernel
theorem dX8_goOffPiece_47 : decode cX8_goOffPiece 47 = .ok (.iconst (-1), 1) := by decide +kernel
theorem dX8_goOffPiece_48 : decode cX8_goOffPiece 48 = .ok (.if_icmp .ne 5, 3) := by decide +kernel
theorem dX8_goOffPiece_51 : decode cX8_goOffPiece 51 = .ok (.iconst (-1), 1) := by decide +kernel
theorem dX8_goOffPiece_52 : decode cX8_goOffPiece 52 = .ok (.ireturn, 1) := by decide +kernel
theorem dX8_goOffPiece_53 : decode cX8_goOffPiece 53 = .ok (.iload 9, 2) := by decide +kernel
theorem dX8_goOffPiece_55 : decode cX8_goOffPiece 55 = .ok (.invokestatic 278, 3) := by decide +kernel
theorem dX8_goOffPiece_58 : decode cX8_goOffPiece 58 = .ok (.istore 6, 2) := by decide +kernel
theorem dX8_goOffPiece_60 : decode cX8_goOffPiece 60 = .ok (.iload 7, 2) := by decide +kernel
theorem dX8_goOffPiece_62 : decode cX8_goOffPiece 62 = .ok (.iload 9, 2) := by decide +kernel
theorem dX8_goOffPiece_64 : decode cX8_goOffPiece 64 = .ok (.invokestatic 281, 3) := by decide +kernel
theorem dX8_goOffPiece_67 : decode cX8_goOffPiece 67 = .ok (.iadd, 1) := by decide +kernel
theorem dX8_goOffPiece_68 : decode cX8_goOffPiece 68 = .ok (.istore 7, 2) := by decide +kernel
theorem dX8_goOffPiece_70 : decode cX8_goOffPiece 70 = .ok (.iload 7, 2) := by decide +kernel
theorem dX8_goOffPiece_72 : decode cX8_goOffPiece 72 = .ok (.iload_n 2, 1) := by decide +kernel
theorem dX8_goOffPiece_73 : decode cX8_goOffPiece 73 = .ok (.if_icmp .lt 9, 3) := by decide +kernel
theorem dX8_goOffPiece_76 : decode cX8_goOffPiece 76 = .ok (.iload 7, 2) := by decide +kernel
theorem dX8_goOffPiece_78 : decode cX8_goOffPiece 78 = .ok (.iload_n 3, 1) := by decide +kernel
theorem dX8_goOffPiece_79 : decode cX8_goOffPiece 79 = .ok (.if_icmp .lt 6, 3) := by decide +kernel
theorem dX8_goOffPiece_82 : decode cX8_goOffPiece 82 = .ok (.iload 9, 2) := by decide +kernel
theorem dX8_goOffPiece_84 : decode cX8_goOffPiece 84 = .ok (.ireturn, 1) := by decide +kernel
theorem dX8_goOffPiece_85 : decode cX8_goOffPiece 85 = .ok (.iinc 8 1, 3) := by decide +kernel
theorem dX8_goOffPiece_88 : decode cX8_goOffPiece 88 = .ok (.goto (-67), 3) := by decide +kernel
theorem dX8_goOffPiece_91 : decode cX8_goOffPiece 91 = .ok (.iconst (-1), 1) := by decide +kernel
theorem dX8_goOffPiece_92 : decode cX8_goOffPiece 92 = .ok (.ireturn, 1) := by decide +kernel
set_option maxRecDepth 20000 in
theorem ggX8_isTakenBothWays_X7_become : GoodIn wsX8_isTakenBothWays wsX7_become := goodIn_r _ [7, 8, 9, 10, 11, 6, 12, 13, 96, 97] (by decide +kernel) (by decide +kernel)
set_option maxRecDepth 20000 in
theorem gX8_isTakenBothWays_X7_become : GoodIn wsX8_isTakenBothWays (wsV RX8 166 RX7 yX7_become wsX7_become) := goodIn_app (goodIn_of _ (by decide +kernel)) ggX8_isTakenBothWays_X7_become
set_option maxRecDepth 20000 in
theorem ggX8_isTakenBothWays_X1_follow : GoodIn wsX8_isTakenBothWays wsX1_follow := goodIn_r _ [18, 19, 20, 21, 22, 23, 24, 25, 26, 27, 28, 29, 30, 17, 31, 32, 33, 34, 6, 35, 8, 36, 37, 38, 39, 40, 41, 42, 43, 44, 45, 46, 47, 48, 49, 50, 51, 13, 52, 53, 54, 55, 56, 57, 58, 59, 60, 61, 62, 63, 64, 65, 66, 67, 68, 69, 70, 71, 72, 73, 74, 98, 99, 100, 101, 102, 103, 104, 96, 97, 105, 106, 107] (by decide +kernel) (by decide +kernel)
set_option maxRecDepth 20000 in
theorem gX8_isTakenBothWays_X1_follow : GoodIn wsX8_isTakenBothWays (wsV RX8 178 RX1 yX1_follow wsX1_follow) := goodIn_app (goodIn_of _ (by decide +kernel)) ggX8_isTakenBothWays_X1_follow
set_option maxRecDepth 20000 in
theorem ggX8_isTakenBothWays_X1_isTaken : GoodIn wsX8_isTakenBothWays wsX1_isTaken := goodIn_r _ [78, 23, 98, 99, 100, 101, 102, 103, 104] (by decide +kernel) (by decide +kernel)
set_option maxRecDepth 20000 in
theorem gX8_isTakenBothWays_X1_isTaken : GoodIn wsX8_isTakenBothWays (wsV RX8 182 RX1 yX1_isTaken wsX1_isTaken) := goodIn_app (goodIn_of _ (by decide +kernel)) ggX8_isTakenBothWays_X1_isTaken
set_option maxRecDepth 20000 in
theorem ggX8_isTakenBothWays_X7_turn : GoodIn wsX8_isTakenBothWays wsX7_turn := goodIn_r _ [82, 8, 13, 96, 97] (by decide +kernel) (by decide +kernel)
set_option maxRecDepth 20000 in
theorem gX8_isTakenBothWays_X7_turn : GoodIn wsX8_isTakenBothWays (wsV RX8 284 RX7 yX7_turn wsX7_turn) := goodIn_app (goodIn_of _ (by decide +kernel)) ggX8_isTakenBothWays_X7_turn
theorem dX8_isTakenBothWays_0 : decode cX8_isTakenBothWays 0 = .ok (.aload_n 0, 1) := by decide +kernel
theorem dX8_isTakenBothWays_1 : decode cX8_isTakenBothWays 1 = .ok (.getfield 52, 3) := by decide +kernel
theorem dX8_isTakenBothWays_4 : decode cX8_isTakenBothWays 4 = .ok (.iload_n 2, 1) := by decide +kernel
theorem dX8_isTakenBothWays_5 : decode cX8_isTakenBothWays 5 = .ok (.invokevirtual 166, 3) := by decide +kernel
theorem dX8_isTakenBothWays_8 : decode cX8_isTakenBothWays 8 = .ok (.aload_n 0, 1) := by decide +kernel
theorem dX8_isTakenBothWays_9 : decode cX8_isTakenBothWays 9 = .ok (.getfield 58, 3) := by decide +kernel
theorem dX8_isTakenBothWays_12 : decode cX8_isTakenBothWays 12 = .ok (.aload_n 1, 1) := by decide +kernel
theorem dX8_isTakenBothWays_13 : decode cX8_isTakenBothWays 13 = .ok (.aload_n 0, 1) := by decide +kernel
theorem dX8_isTakenBothWays_14 : decode cX8_isTakenBothWays 14 = .ok (.getfield 52, 3) := by decide +kernel
theorem dX8_isTakenBothWays_17 : decode cX8_isTakenBothWays 17 = .ok (.invokevirtual 178, 3) := by decide +kernel
theorem dX8_isTakenBothWays_20 : decode cX8_isTakenBothWays 20 = .ok (.aload_n 0, 1) := by decide +kernel
theorem dX8_isTakenBothWays_21 : decode cX8_isTakenBothWays 21 = .ok (.getfield 58, 3) := by decide +kernel
theorem dX8_isTakenBothWays_24 : decode cX8_isTakenBothWays 24 = .ok (.invokevirtual 182, 3) := by decide +kernel
theorem dX8_isTakenBothWays_27 : decode cX8_isTakenBothWays 27 = .ok (.ifCond .ne 5, 3) := by decide +kernel
theorem dX8_isTakenBothWays_30 : decode cX8_isTakenBothWays 30 = .ok (.iconst 0, 1) := by decide +kernel
theorem dX8_isTakenBothWays_31 : decode cX8_isTakenBothWays 31 = .ok (.ireturn, 1) := by decide +kernel
theorem dX8_isTakenBothWays_32 : decode cX8_isTakenBothWays 32 = .ok (.aload_n 0, 1) := by decide +kernel
theorem dX8_isTakenBothWays_33 : decode cX8_isTakenBothWays 33 = .ok (.getfield 52, 3) := by decide +kernel
theorem dX8_isTakenBothWays_36 : decode cX8_isTakenBothWays 36 = .ok (.invokevirtual 284, 3) := by decide +kernel
theorem dX8_isTakenBothWays_39 : decode cX8_isTakenBothWays 39 = .ok (.aload_n 0, 1) := by decide +kernel
theorem dX8_isTakenBothWays_40 : decode cX8_isTakenBothWays 40 = .ok (.getfield 58, 3) := by decide +kernel
theorem dX8_isTakenBothWays_43 : decode cX8_isTakenBothWays 43 = .ok (.aload_n 1, 1) := by decide +kernel
theorem dX8_isTakenBothWays_44 : decode cX8_isTakenBothWays 44 = .ok (.aload_n 0, 1) := by decide +kernel
theorem dX8_isTakenBothWays_45 : decode cX8_isTakenBothWays 45 = .ok (.getfield 52, 3) := by decide +kernel
theorem dX8_isTakenBothWays_48 : decode cX8_isTakenBothWays 48 = .ok (.invokevirtual 178, 3) := by decide +kernel
theorem dX8_isTakenBothWays_51 : decode cX8_isTakenBothWays 51 = .ok (.aload_n 0, 1) := by decide +kernel
theorem dX8_isTakenBothWays_52 : decode cX8_isTakenBothWays 52 = .ok (.getfield 58, 3) := by decide +kernel
theorem dX8_isTakenBothWays_55 : decode cX8_isTakenBothWays 55 = .ok (.invokevirtual 182, 3) := by decide +kernel
theorem dX8_isTakenBothWays_58 : decode cX8_isTakenBothWays 58 = .ok (.ireturn, 1) := by decide +kernel
