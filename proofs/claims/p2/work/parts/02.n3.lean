theorem dX9_in_0 : decode cX9_in 0 = .ok (.lload_n 0, 1) := by decide +kernel
theorem dX9_in_1 : decode cX9_in 1 = .ok (.lload_n 2, 1) := by decide +kernel
theorem dX9_in_2 : decode cX9_in 2 = .ok (.lcmp, 1) := by decide +kernel
theorem dX9_in_3 : decode cX9_in 3 = .ok (.ifCond .lt 14, 3) := by decide +kernel
theorem dX9_in_6 : decode cX9_in 6 = .ok (.lload_n 0, 1) := by decide +kernel
theorem dX9_in_7 : decode cX9_in 7 = .ok (.lload 4, 2) := by decide +kernel
theorem dX9_in_9 : decode cX9_in 9 = .ok (.lcmp, 1) := by decide +kernel
theorem dX9_in_10 : decode cX9_in 10 = .ok (.ifCond .gt 7, 3) := by decide +kernel
theorem dX9_in_13 : decode cX9_in 13 = .ok (.iconst 1, 1) := by decide +kernel
theorem dX9_in_14 : decode cX9_in 14 = .ok (.goto 4, 3) := by decide +kernel
theorem dX9_in_17 : decode cX9_in 17 = .ok (.iconst 0, 1) := by decide +kernel
theorem dX9_in_18 : decode cX9_in 18 = .ok (.ireturn, 1) := by decide +kernel
set_option maxRecDepth 20000 in
theorem ggX9_init_X9_wipes : GoodIn wsX9_init wsX9_wipes := goodIn_r _ [33, 5, 34, 35, 36, 37, 38, 39, 40, 41, 42, 43, 44, 45, 46, 47, 48, 49, 50, 51, 52, 53, 54, 55, 56, 57, 58, 59, 60, 61, 62, 63, 64, 65, 66, 67, 68, 69] (by decide +kernel) (by decide +kernel)
set_option maxRecDepth 20000 in
theorem gX9_init_X9_wipes : GoodIn wsX9_init (wsV RX9 83 RX9 yX9_wipes wsX9_wipes) := goodIn_app (goodIn_of _ (by decide +kernel)) ggX9_init_X9_wipes
theorem dX9_init_0 : decode cX9_init 0 = .ok (.aload_n 0, 1) := by decide +kernel
theorem dX9_init_1 : decode cX9_init 1 = .ok (.invokespecial 1, 3) := by decide +kernel
theorem dX9_init_4 : decode cX9_init 4 = .ok (.aload_n 0, 1) := by decide +kernel
theorem dX9_init_5 : decode cX9_init 5 = .ok (.bipush 34, 2) := by decide +kernel
theorem dX9_init_7 : decode cX9_init 7 = .ok (.newarray .int, 2) := by decide +kernel
theorem dX9_init_9 : decode cX9_init 9 = .ok (.putfield 7, 3) := by decide +kernel
theorem dX9_init_12 : decode cX9_init 12 = .ok (.aload_n 0, 1) := by decide +kernel
theorem dX9_init_13 : decode cX9_init 13 = .ok (.sipush 240, 3) := by decide +kernel
theorem dX9_init_16 : decode cX9_init 16 = .ok (.newarray .int, 2) := by decide +kernel
theorem dX9_init_18 : decode cX9_init 18 = .ok (.putfield 13, 3) := by decide +kernel
theorem dX9_init_21 : decode cX9_init 21 = .ok (.aload_n 0, 1) := by decide +kernel
theorem dX9_init_22 : decode cX9_init 22 = .ok (.iconst (-1), 1) := by decide +kernel
theorem dX9_init_23 : decode cX9_init 23 = .ok (.putfield 16, 3) := by decide +kernel
theorem dX9_init_26 : decode cX9_init 26 = .ok (.aload_n 0, 1) := by decide +kernel
theorem dX9_init_27 : decode cX9_init 27 = .ok (.bipush 17, 2) := by decide +kernel
theorem dX9_init_29 : decode cX9_init 29 = .ok (.newarray .int, 2) := by decide +kernel
theorem dX9_init_31 : decode cX9_init 31 = .ok (.putfield 20, 3) := by decide +kernel
theorem dX9_init_34 : decode cX9_init 34 = .ok (.aload_n 0, 1) := by decide +kernel
theorem dX9_init_35 : decode cX9_init 35 = .ok (.sipush 272, 3) := by decide +kernel
theorem dX9_init_38 : decode cX9_init 38 = .ok (.newarray .int, 2) := by decide +kernel
theorem dX9_init_40 : decode cX9_init 40 = .ok (.putfield 23, 3) := by decide +kernel
theorem dX9_init_43 : decode cX9_init 43 = .ok (.aload_n 0, 1) := by decide +kernel
theorem dX9_init_44 : decode cX9_init 44 = .ok (.bipush 24, 2) := by decide +kernel
theorem dX9_init_46 : decode cX9_init 46 = .ok (.newarray .int, 2) := by decide +kernel
theorem dX9_init_48 : decode cX9_init 48 = .ok (.putfield 26, 3) := by decide +kernel
theorem dX9_init_51 : decode cX9_init 51 = .ok (.aload_n 0, 1) := by decide +kernel
theorem dX9_init_52 : decode cX9_init 52 = .ok (.bipush 26, 2) := by decide +kernel
theorem dX9_init_54 : decode cX9_init 54 = .ok (.newarray .int, 2) := by decide +kernel
theorem dX9_init_56 : decode cX9_init 56 = .ok (.putfield 29, 3) := by decide +kernel
theorem dX9_init_59 : decode cX9_init 59 = .ok (.aload_n 0, 1) := by decide +kernel
theorem dX9_init_60 : decode cX9_init 60 = .ok (.sipush 128, 3) := by decide +kernel
theorem dX9_init_63 : decode cX9_init 63 = .ok (.newarray .int, 2) := by decide +kernel
theorem dX9_init_65 : decode cX9_init 65 = .ok (.putfield 32, 3) := by decide +kernel
theorem dX9_init_68 : decode cX9_init 68 = .ok (.aload_n 0, 1) := by decide +kernel
theorem dX9_init_69 : decode cX9_init 69 = .ok (.sipush 128, 3) := by decide +kernel
theorem dX9_init_72 : decode cX9_init 72 = .ok (.newarray .int, 2) := by decide +kernel
theorem dX9_init_74 : decode cX9_init 74 = .ok (.putfield 35, 3) := by decide +kernel
theorem dX9_init_77 : decode cX9_init 77 = .ok (.aload_n 0, 1) := by decide +kernel
theorem dX9_init_78 : decode cX9_init 78 = .ok (.iconst 2, 1) := by decide +kernel
theorem dX9_init_79 : decode cX9_init 79 = .ok (.newarray .int, 2) := by decide +kernel
theorem dX9_init_81 : decode cX9_init 81 = .ok (.putfield 38, 3) := by decide +kernel
theorem dX9_init_84 : decode cX9_init 84 = .ok (.aload_n 0, 1) := by decide +kernel
theorem dX9_init_85 : decode cX9_init 85 = .ok (.sipush 1510, 3) := by decide +kernel
theorem dX9_init_88 : decode cX9_init 88 = .ok (.newarray .int, 2) := by decide +kernel
theorem dX9_init_90 : decode cX9_init 90 = .ok (.putfield 41, 3) := by decide +kernel
theorem dX9_init_93 : decode cX9_init 93 = .ok (.aload_n 0, 1) := by decide +kernel
theorem dX9_init_94 : decode cX9_init 94 = .ok (.sipush 604, 3) := by decide +kernel
theorem dX9_init_97 : decode cX9_init 97 = .ok (.newarray .int, 2) := by decide +kernel
theorem dX9_init_99 : decode cX9_init 99 = .ok (.putfield 44, 3) := by decide +kernel
theorem dX9_init_102 : decode cX9_init 102 = .ok (.aload_n 0, 1) := by decide +kernel
theorem dX9_init_103 : decode cX9_init 103 = .ok (.sipush 302, 3) := by decide +kernel
theorem dX9_init_106 : decode cX9_init 106 = .ok (.newarray .int, 2) := by decide +kernel
theorem dX9_init_108 : decode cX9_init 108 = .ok (.putfield 47, 3) := by decide +kernel
theorem dX9_init_111 : decode cX9_init 111 = .ok (.aload_n 0, 1) := by decide +kernel
theorem dX9_init_112 : decode cX9_init 112 = .ok (.sipush 302, 3) := by decide +kernel
theorem dX9_init_115 : decode cX9_init 115 = .ok (.newarray .int, 2) := by decide +kernel
theorem dX9_init_117 : decode cX9_init 117 = .ok (.putfield 50, 3) := by decide +kernel
theorem dX9_init_120 : decode cX9_init 120 = .ok (.aload_n 0, 1) := by decide +kernel
theorem dX9_init_121 : decode cX9_init 121 = .ok (.iconst 5, 1) := by decide +kernel
theorem dX9_init_122 : decode cX9_init 122 = .ok (.newarray .int, 2) := by decide +kernel
theorem dX9_init_124 : decode cX9_init 124 = .ok (.putfield 53, 3) := by decide +kernel
theorem dX9_init_127 : decode cX9_init 127 = .ok (.aload_n 0, 1) := by decide +kernel
theorem dX9_init_128 : decode cX9_init 128 = .ok (.sipush 151, 3) := by decide +kernel
theorem dX9_init_131 : decode cX9_init 131 = .ok (.newarray .int, 2) := by decide +kernel
theorem dX9_init_133 : decode cX9_init 133 = .ok (.putfield 56, 3) := by decide +kernel
theorem dX9_init_136 : decode cX9_init 136 = .ok (.aload_n 0, 1) := by decide +kernel
theorem dX9_init_137 : decode cX9_init 137 = .ok (.sipush 151, 3) := by decide +kernel
theorem dX9_init_140 : decode cX9_init 140 = .ok (.newarray .int, 2) := by decide +kernel
theorem dX9_init_142 : decode cX9_init 142 = .ok (.putfield 59, 3) := by decide +kernel
theorem dX9_init_145 : decode cX9_init 145 = .ok (.aload_n 0, 1) := by decide +kernel
theorem dX9_init_146 : decode cX9_init 146 = .ok (.sipush 151, 3) := by decide +kernel
theorem dX9_init_149 : decode cX9_init 149 = .ok (.newarray .int, 2) := by decide +kernel
theorem dX9_init_151 : decode cX9_init 151 = .ok (.putfield 62, 3) := by decide +kernel
theorem dX9_init_154 : decode cX9_init 154 = .ok (.aload_n 0, 1) := by decide +kernel
theorem dX9_init_155 : decode cX9_init 155 = .ok (.sipush 151, 3) := by decide +kernel
theorem dX9_init_158 : decode cX9_init 158 = .ok (.newarray .int, 2) := by decide +kernel
theorem dX9_init_160 : decode cX9_init 160 = .ok (.putfield 65, 3) := by decide +kernel
theorem dX9_init_163 : decode cX9_init 163 = .ok (.aload_n 0, 1) := by decide +kernel
theorem dX9_init_164 : decode cX9_init 164 = .ok (.sipush 22500, 3) := by decide +kernel
theorem dX9_init_167 : decode cX9_init 167 = .ok (.newarray .int, 2) := by decide +kernel
theorem dX9_init_169 : decode cX9_init 169 = .ok (.putfield 68, 3) := by decide +kernel
theorem dX9_init_172 : decode cX9_init 172 = .ok (.aload_n 0, 1) := by decide +kernel
theorem dX9_init_173 : decode cX9_init 173 = .ok (.sipush 22500, 3) := by decide +kernel
theorem dX9_init_176 : decode cX9_init 176 = .ok (.newarray .int, 2) := by decide +kernel
theorem dX9_init_178 : decode cX9_init 178 = .ok (.putfield 71, 3) := by decide +kernel
theorem dX9_init_181 : decode cX9_init 181 = .ok (.aload_n 0, 1) := by decide +kernel
theorem dX9_init_182 : decode cX9_init 182 = .ok (.sipush 22500, 3) := by decide +kernel
theorem dX9_init_185 : decode cX9_init 185 = .ok (.newarray .int, 2) := by decide +kernel
theorem dX9_init_187 : decode cX9_init 187 = .ok (.putfield 74, 3) := by decide +kernel
theorem dX9_init_190 : decode cX9_init 190 = .ok (.aload_n 0, 1) := by decide +kernel
theorem dX9_init_191 : decode cX9_init 191 = .ok (.bipush 24, 2) := by decide +kernel
theorem dX9_init_193 : decode cX9_init 193 = .ok (.newarray .int, 2) := by decide +kernel
theorem dX9_init_195 : decode cX9_init 195 = .ok (.putfield 77, 3) := by decide +kernel
theorem dX9_init_198 : decode cX9_init 198 = .ok (.aload_n 0, 1) := by decide +kernel
theorem dX9_init_199 : decode cX9_init 199 = .ok (.bipush 68, 2) := by decide +kernel
theorem dX9_init_201 : decode cX9_init 201 = .ok (.newarray .int, 2) := by decide +kernel
theorem dX9_init_203 : decode cX9_init 203 = .ok (.putfield 80, 3) := by decide +kernel
theorem dX9_init_206 : decode cX9_init 206 = .ok (.aload_n 0, 1) := by decide +kernel
theorem dX9_init_207 : decode cX9_init 207 = .ok (.iconst 0, 1) := by decide +kernel
theorem dX9_init_208 : decode cX9_init 208 = .ok (.iconst 1, 1) := by decide +kernel
theorem dX9_init_209 : decode cX9_init 209 = .ok (.invokevirtual 83, 3) := by decide +kernel
theorem dX9_init_212 : decode cX9_init 212 = .ok (.aload_n 0, 1) := by decide +kernel
theorem dX9_init_213 : decode cX9_init 213 = .ok (.iconst 1, 1) := by decide +kernel
theorem dX9_init_214 : decode cX9_init 214 = .ok (.iconst 1, 1) := by decide +kernel
theorem dX9_init_215 : decode cX9_init 215 = .ok (.invokevirtual 83, 3) := by decide +kernel
theorem dX9_init_218 : decode cX9_init 218 = .ok (.return_, 1) := by decide +kernel
theorem dX9_wipes_0 : decode cX9_wipes 0 = .ok (.aload_n 0, 1) := by decide +kernel
theorem dX9_wipes_1 : decode cX9_wipes 1 = .ok (.getfield 7, 3) := by decide +kernel
theorem dX9_wipes_4 : decode cX9_wipes 4 = .ok (.bipush 17, 2) := by decide +kernel
theorem dX9_wipes_6 : decode cX9_wipes 6 = .ok (.iload_n 1, 1) := by decide +kernel
theorem dX9_wipes_7 : decode cX9_wipes 7 = .ok (.imul, 1) := by decide +kernel
theorem dX9_wipes_8 : decode cX9_wipes 8 = .ok (.iload_n 2, 1) := by decide +kernel
theorem dX9_wipes_9 : decode cX9_wipes 9 = .ok (.iastore, 1) := by decide +kernel
theorem dX9_wipes_10 : decode cX9_wipes 10 = .ok (.iconst 0, 1) := by decide +kernel
theorem dX9_wipes_11 : decode cX9_wipes 11 = .ok (.istore_n 3, 1) := by decide +kernel
theorem dX9_wipes_12 : decode cX9_wipes 12 = .ok (.iload_n 3, 1) := by decide +kernel
theorem dX9_wipes_13 : decode cX9_wipes 13 = .ok (.bipush 16, 2) := by decide +kernel
theorem dX9_wipes_15 : decode cX9_wipes 15 = .ok (.if_icmp .ge 23, 3) := by decide +kernel
theorem dX9_wipes_18 : decode cX9_wipes 18 = .ok (.aload_n 0, 1) := by decide +kernel
theorem dX9_wipes_19 : decode cX9_wipes 19 = .ok (.getfield 7, 3) := by decide +kernel
theorem dX9_wipes_22 : decode cX9_wipes 22 = .ok (.bipush 17, 2) := by decide +kernel
theorem dX9_wipes_24 : decode cX9_wipes 24 = .ok (.iload_n 1, 1) := by decide +kernel
theorem dX9_wipes_25 : decode cX9_wipes 25 = .ok (.imul, 1) := by decide +kernel
theorem dX9_wipes_26 : decode cX9_wipes 26 = .ok (.iconst 1, 1) := by decide +kernel
theorem dX9_wipes_27 : decode cX9_wipes 27 = .ok (.iadd, 1) := by decide +kernel
theorem dX9_wipes_28 : decode cX9_wipes 28 = .ok (.iload_n 3, 1) := by decide +kernel
theorem dX9_wipes_29 : decode cX9_wipes 29 = .ok (.iadd, 1) := by decide +kernel
theorem dX9_wipes_30 : decode cX9_wipes 30 = .ok (.iconst (-1), 1) := by decide +kernel
theorem dX9_wipes_31 : decode cX9_wipes 31 = .ok (.iastore, 1) := by decide +kernel
theorem dX9_wipes_32 : decode cX9_wipes 32 = .ok (.iinc 3 1, 3) := by decide +kernel
theorem dX9_wipes_35 : decode cX9_wipes 35 = .ok (.goto (-23), 3) := by decide +kernel
theorem dX9_wipes_38 : decode cX9_wipes 38 = .ok (.return_, 1) := by decide +kernel
set_option maxRecDepth 20000 in
theorem ggX9_isMachine_X9_in : GoodIn wsX9_isMachine wsX9_in := goodIn_r _ [4] (by decide +kernel) (by decide +kernel)
set_option maxRecDepth 20000 in
theorem gX9_isMachine_X9_in : GoodIn wsX9_isMachine (va_wsS RX9 87 yX9_in wsX9_in) := goodIn_app (goodIn_of _ (by decide +kernel)) ggX9_isMachine_X9_in
theorem dX9_isMachine_0 : decode cX9_isMachine 0 = .ok (.iload_n 0, 1) := by decide +kernel
theorem dX9_isMachine_1 : decode cX9_isMachine 1 = .ok (.i2l, 1) := by decide +kernel
theorem dX9_isMachine_2 : decode cX9_isMachine 2 = .ok (.lconst 0, 1) := by decide +kernel
theorem dX9_isMachine_3 : decode cX9_isMachine 3 = .ok (.lconst 1, 1) := by decide +kernel
theorem dX9_isMachine_4 : decode cX9_isMachine 4 = .ok (.invokestatic 87, 3) := by decide +kernel
theorem dX9_isMachine_7 : decode cX9_isMachine 7 = .ok (.ireturn, 1) := by decide +kernel
theorem dX9_states0_0 : decode cX9_states0 0 = .ok (.aload_n 0, 1) := by decide +kernel
theorem dX9_states0_1 : decode cX9_states0 1 = .ok (.getfield 7, 3) := by decide +kernel
theorem dX9_states0_4 : decode cX9_states0 4 = .ok (.bipush 17, 2) := by decide +kernel
theorem dX9_states0_6 : decode cX9_states0 6 = .ok (.iload_n 1, 1) := by decide +kernel
theorem dX9_states0_7 : decode cX9_states0 7 = .ok (.imul, 1) := by decide +kernel
theorem dX9_states0_8 : decode cX9_states0 8 = .ok (.iaload, 1) := by decide +kernel
theorem dX9_states0_9 : decode cX9_states0 9 = .ok (.ireturn, 1) := by decide +kernel
set_option maxRecDepth 20000 in
theorem ggX9_isState_X9_states0 : GoodIn wsX9_isState wsX9_states0 := goodIn_r _ [5, 6, 10, 11, 12, 13, 14, 15, 16, 17, 18, 19, 20, 21, 22, 23, 24, 25, 26, 27, 28, 29, 30, 31, 32, 33, 34, 35, 36, 37, 38, 39, 40, 41, 42, 43, 44, 45] (by decide +kernel) (by decide +kernel)
set_option maxRecDepth 20000 in
theorem gX9_isState_X9_states0 : GoodIn wsX9_isState (wsV RX9 91 RX9 yX9_states0 wsX9_states0) := goodIn_app (goodIn_of _ (by decide +kernel)) ggX9_isState_X9_states0
set_option maxRecDepth 20000 in
theorem ggX9_isState_X9_in : GoodIn wsX9_isState wsX9_in := goodIn_r _ [9] (by decide +kernel) (by decide +kernel)
set_option maxRecDepth 20000 in
theorem gX9_isState_X9_in : GoodIn wsX9_isState (va_wsS RX9 87 yX9_in wsX9_in) := goodIn_app (goodIn_of _ (by decide +kernel)) ggX9_isState_X9_in
theorem dX9_isState_0 : decode cX9_isState 0 = .ok (.iload_n 2, 1) := by decide +kernel
theorem dX9_isState_1 : decode cX9_isState 1 = .ok (.i2l, 1) := by decide +kernel
theorem dX9_isState_2 : decode cX9_isState 2 = .ok (.lconst 0, 1) := by decide +kernel
theorem dX9_isState_3 : decode cX9_isState 3 = .ok (.aload_n 0, 1) := by decide +kernel
theorem dX9_isState_4 : decode cX9_isState 4 = .ok (.iload_n 1, 1) := by decide +kernel
theorem dX9_isState_5 : decode cX9_isState 5 = .ok (.invokevirtual 91, 3) := by decide +kernel
theorem dX9_isState_8 : decode cX9_isState 8 = .ok (.iconst 1, 1) := by decide +kernel
theorem dX9_isState_9 : decode cX9_isState 9 = .ok (.isub, 1) := by decide +kernel
theorem dX9_isState_10 : decode cX9_isState 10 = .ok (.i2l, 1) := by decide +kernel
theorem dX9_isState_11 : decode cX9_isState 11 = .ok (.invokestatic 87, 3) := by decide +kernel
theorem dX9_isState_14 : decode cX9_isState 14 = .ok (.ireturn, 1) := by decide +kernel
theorem dX9_moveAt_0 : decode cX9_moveAt 0 = .ok (.aload_n 0, 1) := by decide +kernel
theorem dX9_moveAt_1 : decode cX9_moveAt 1 = .ok (.getfield 7, 3) := by decide +kernel
theorem dX9_moveAt_4 : decode cX9_moveAt 4 = .ok (.bipush 17, 2) := by decide +kernel
theorem dX9_moveAt_6 : decode cX9_moveAt 6 = .ok (.iload_n 1, 1) := by decide +kernel
theorem dX9_moveAt_7 : decode cX9_moveAt 7 = .ok (.imul, 1) := by decide +kernel
theorem dX9_moveAt_8 : decode cX9_moveAt 8 = .ok (.iconst 1, 1) := by decide +kernel
theorem dX9_moveAt_9 : decode cX9_moveAt 9 = .ok (.iadd, 1) := by decide +kernel
theorem dX9_moveAt_10 : decode cX9_moveAt 10 = .ok (.iconst 4, 1) := by decide +kernel
theorem dX9_moveAt_11 : decode cX9_moveAt 11 = .ok (.iload_n 2, 1) := by decide +kernel
theorem dX9_moveAt_12 : decode cX9_moveAt 12 = .ok (.imul, 1) := by decide +kernel
theorem dX9_moveAt_13 : decode cX9_moveAt 13 = .ok (.iadd, 1) := by decide +kernel
theorem dX9_moveAt_14 : decode cX9_moveAt 14 = .ok (.iload_n 3, 1) := by decide +kernel
theorem dX9_moveAt_15 : decode cX9_moveAt 15 = .ok (.iadd, 1) := by decide +kernel
theorem dX9_moveAt_16 : decode cX9_moveAt 16 = .ok (.iaload, 1) := by decide +kernel
theorem dX9_moveAt_17 : decode cX9_moveAt 17 = .ok (.ireturn, 1) := by decide +kernel
set_option maxRecDepth 20000 in
theorem ggX9_feed_X9_in : GoodIn wsX9_feed wsX9_in := goodIn_r _ [9] (by decide +kernel) (by decide +kernel)
set_option maxRecDepth 20000 in
theorem gX9_feed_X9_in : GoodIn wsX9_feed (va_wsS RX9 87 yX9_in wsX9_in) := goodIn_app (goodIn_of _ (by decide +kernel)) ggX9_feed_X9_in
theorem dX9_feed_0 : decode cX9_feed 0 = .ok (.iload_n 1, 1) := by decide +kernel
theorem dX9_feed_1 : decode cX9_feed 1 = .ok (.i2l, 1) := by decide +kernel
theorem dX9_feed_2 : decode cX9_feed 2 = .ok (.lconst 0, 1) := by decide +kernel
theorem dX9_feed_3 : decode cX9_feed 3 = .ok (.ldc2_w 95, 3) := by decide +kernel
theorem dX9_feed_6 : decode cX9_feed 6 = .ok (.invokestatic 87, 3) := by decide +kernel
theorem dX9_feed_9 : decode cX9_feed 9 = .ok (.ifCond .ne 6, 3) := by decide +kernel
theorem dX9_feed_12 : decode cX9_feed 12 = .ok (.ldc 97, 2) := by decide +kernel
theorem dX9_feed_14 : decode cX9_feed 14 = .ok (.ireturn, 1) := by decide +kernel
theorem dX9_feed_15 : decode cX9_feed 15 = .ok (.aload_n 0, 1) := by decide +kernel
theorem dX9_feed_16 : decode cX9_feed 16 = .ok (.getfield 98, 3) := by decide +kernel
theorem dX9_feed_19 : decode cX9_feed 19 = .ok (.sipush 240, 3) := by decide +kernel
theorem dX9_feed_22 : decode cX9_feed 22 = .ok (.if_icmp .ne 6, 3) := by decide +kernel
theorem dX9_feed_25 : decode cX9_feed 25 = .ok (.ldc 101, 2) := by decide +kernel
theorem dX9_feed_27 : decode cX9_feed 27 = .ok (.ireturn, 1) := by decide +kernel
theorem dX9_feed_28 : decode cX9_feed 28 = .ok (.aload_n 0, 1) := by decide +kernel
theorem dX9_feed_29 : decode cX9_feed 29 = .ok (.getfield 13, 3) := by decide +kernel
theorem dX9_feed_32 : decode cX9_feed 32 = .ok (.aload_n 0, 1) := by decide +kernel
theorem dX9_feed_33 : decode cX9_feed 33 = .ok (.getfield 98, 3) := by decide +kernel
theorem dX9_feed_36 : decode cX9_feed 36 = .ok (.iload_n 1, 1) := by decide +kernel
theorem dX9_feed_37 : decode cX9_feed 37 = .ok (.iastore, 1) := by decide +kernel
theorem dX9_feed_38 : decode cX9_feed 38 = .ok (.aload_n 0, 1) := by decide +kernel
theorem dX9_feed_39 : decode cX9_feed 39 = .ok (.dup, 1) := by decide +kernel
theorem dX9_feed_40 : decode cX9_feed 40 = .ok (.getfield 98, 3) := by decide +kernel
theorem dX9_feed_43 : decode cX9_feed 43 = .ok (.iconst 1, 1) := by decide +kernel
theorem dX9_feed_44 : decode cX9_feed 44 = .ok (.iadd, 1) := by decide +kernel
theorem dX9_feed_45 : decode cX9_feed 45 = .ok (.putfield 98, 3) := by decide +kernel
theorem dX9_feed_48 : decode cX9_feed 48 = .ok (.aload_n 0, 1) := by decide +kernel
theorem dX9_feed_49 : decode cX9_feed 49 = .ok (.getfield 98, 3) := by decide +kernel
theorem dX9_feed_52 : decode cX9_feed 52 = .ok (.ireturn, 1) := by decide +kernel
theorem dX9_here_0 : decode cX9_here 0 = .ok (.aload_n 0, 1) := by decide +kernel
theorem dX9_here_1 : decode cX9_here 1 = .ok (.getfield 102, 3) := by decide +kernel
theorem dX9_here_4 : decode cX9_here 4 = .ok (.aload_n 0, 1) := by decide +kernel
theorem dX9_here_5 : decode cX9_here 5 = .ok (.getfield 98, 3) := by decide +kernel
theorem dX9_here_8 : decode cX9_here 8 = .ok (.if_icmp .ge 30, 3) := by decide +kernel
theorem dX9_here_11 : decode cX9_here 11 = .ok (.aload_n 0, 1) := by decide +kernel
theorem dX9_here_12 : decode cX9_here 12 = .ok (.getfield 13, 3) := by decide +kernel
theorem dX9_here_15 : decode cX9_here 15 = .ok (.aload_n 0, 1) := by decide +kernel
theorem dX9_here_16 : decode cX9_here 16 = .ok (.getfield 102, 3) := by decide +kernel
theorem dX9_here_19 : decode cX9_here 19 = .ok (.iaload, 1) := by decide +kernel
theorem dX9_here_20 : decode cX9_here 20 = .ok (.bipush 32, 2) := by decide +kernel
theorem dX9_here_22 : decode cX9_here 22 = .ok (.if_icmp .ne 16, 3) := by decide +kernel
theorem dX9_here_25 : decode cX9_here 25 = .ok (.aload_n 0, 1) := by decide +kernel
theorem dX9_here_26 : decode cX9_here 26 = .ok (.dup, 1) := by decide +kernel
theorem dX9_here_27 : decode cX9_here 27 = .ok (.getfield 102, 3) := by decide +kernel
theorem dX9_here_30 : decode cX9_here 30 = .ok (.iconst 1, 1) := by decide +kernel
theorem dX9_here_31 : decode cX9_here 31 = .ok (.iadd, 1) := by decide +kernel
theorem dX9_here_32 : decode cX9_here 32 = .ok (.putfield 102, 3) := by decide +kernel
theorem dX9_here_35 : decode cX9_here 35 = .ok (.goto (-35), 3) := by decide +kernel
theorem dX9_here_38 : decode cX9_here 38 = .ok (.aload_n 0, 1) := by decide +kernel
theorem dX9_here_39 : decode cX9_here 39 = .ok (.getfield 102, 3) := by decide +kernel
theorem dX9_here_42 : decode cX9_here 42 = .ok (.aload_n 0, 1) := by decide +kernel
theorem dX9_here_43 : decode cX9_here 43 = .ok (.getfield 98, 3) := by decide +kernel
theorem dX9_here_46 : decode cX9_here 46 = .ok (.if_icmp .ge 15, 3) := by decide +kernel
theorem dX9_here_49 : decode cX9_here 49 = .ok (.aload_n 0, 1) := by decide +kernel
theorem dX9_here_50 : decode cX9_here 50 = .ok (.getfield 13, 3) := by decide +kernel
theorem dX9_here_53 : decode cX9_here 53 = .ok (.aload_n 0, 1) := by decide +kernel
theorem dX9_here_54 : decode cX9_here 54 = .ok (.getfield 102, 3) := by decide +kernel
theorem dX9_here_57 : decode cX9_here 57 = .ok (.iaload, 1) := by decide +kernel
theorem dX9_here_58 : decode cX9_here 58 = .ok (.goto 4, 3) := by decide +kernel
theorem dX9_here_61 : decode cX9_here 61 = .ok (.iconst (-1), 1) := by decide +kernel
theorem dX9_here_62 : decode cX9_here 62 = .ok (.ireturn, 1) := by decide +kernel
theorem dX9_wrong_0 : decode cX9_wrong 0 = .ok (.aload_n 0, 1) := by decide +kernel
theorem dX9_wrong_1 : decode cX9_wrong 1 = .ok (.iload_n 1, 1) := by decide +kernel
theorem dX9_wrong_2 : decode cX9_wrong 2 = .ok (.putfield 105, 3) := by decide +kernel
theorem dX9_wrong_5 : decode cX9_wrong 5 = .ok (.iconst 0, 1) := by decide +kernel
theorem dX9_wrong_6 : decode cX9_wrong 6 = .ok (.ireturn, 1) := by decide +kernel
set_option maxRecDepth 20000 in
theorem ggX9_must_X9_here : GoodIn wsX9_must wsX9_here := goodIn_r _ [6, 1, 7, 8, 14, 15, 16, 17, 18, 19, 20, 21, 22, 23, 24, 25, 26, 27, 28, 29, 30, 31, 32, 33, 34, 35, 36, 37, 38, 39, 40, 41, 42, 43, 44, 45, 46, 47, 48, 49] (by decide +kernel) (by decide +kernel)
set_option maxRecDepth 20000 in
theorem gX9_must_X9_here : GoodIn wsX9_must (wsV RX9 108 RX9 yX9_here wsX9_here) := goodIn_app (goodIn_of _ (by decide +kernel)) ggX9_must_X9_here
set_option maxRecDepth 20000 in
theorem ggX9_must_X9_wrong : GoodIn wsX9_must wsX9_wrong := goodIn_r _ [12, 13, 14, 15, 16, 17, 18, 19, 20, 21, 22, 23, 24, 25, 26, 27, 28, 29, 30, 31, 32, 33, 34, 35, 36, 37, 38, 39, 40, 41, 42, 43, 44, 45, 46, 47, 48, 49] (by decide +kernel) (by decide +kernel)
set_option maxRecDepth 20000 in
theorem gX9_must_X9_wrong : GoodIn wsX9_must (wsV RX9 112 RX9 yX9_wrong wsX9_wrong) := goodIn_app (goodIn_of _ (by decide +kernel)) ggX9_must_X9_wrong
theorem dX9_must_0 : decode cX9_must 0 = .ok (.aload_n 0, 1) := by decide +kernel
theorem dX9_must_1 : decode cX9_must 1 = .ok (.invokevirtual 108, 3) := by decide +kernel
theorem dX9_must_4 : decode cX9_must 4 = .ok (.iload_n 1, 1) := by decide +kernel
theorem dX9_must_5 : decode cX9_must 5 = .ok (.if_icmp .eq 9, 3) := by decide +kernel
theorem dX9_must_8 : decode cX9_must 8 = .ok (.aload_n 0, 1) := by decide +kernel
theorem dX9_must_9 : decode cX9_must 9 = .ok (.iconst 1, 1) := by decide +kernel
theorem dX9_must_10 : decode cX9_must 10 = .ok (.invokevirtual 112, 3) := by decide +kernel
theorem dX9_must_13 : decode cX9_must 13 = .ok (.ireturn, 1) := by decide +kernel
theorem dX9_must_14 : decode cX9_must 14 = .ok (.aload_n 0, 1) := by decide +kernel
theorem dX9_must_15 : decode cX9_must 15 = .ok (.dup, 1) := by decide +kernel
theorem dX9_must_16 : decode cX9_must 16 = .ok (.getfield 102, 3) := by decide +kernel
theorem dX9_must_19 : decode cX9_must 19 = .ok (.iconst 1, 1) := by decide +kernel
theorem dX9_must_20 : decode cX9_must 20 = .ok (.iadd, 1) := by decide +kernel
theorem dX9_must_21 : decode cX9_must 21 = .ok (.putfield 102, 3) := by decide +kernel
theorem dX9_must_24 : decode cX9_must 24 = .ok (.iconst 1, 1) := by decide +kernel
theorem dX9_must_25 : decode cX9_must 25 = .ok (.ireturn, 1) := by decide +kernel
set_option maxRecDepth 20000 in
theorem ggX9_isFigure_X9_here : GoodIn wsX9_isFigure wsX9_here := goodIn_r _ [8, 3, 9, 10, 19, 20, 21, 22, 23, 24, 25, 26, 27, 28, 29, 30, 31, 32, 33, 34, 35, 36, 37, 38, 39, 40, 41, 42, 43, 44, 45, 46, 47, 48, 49, 50, 51, 52, 53, 54] (by decide +kernel) (by decide +kernel)
set_option maxRecDepth 20000 in
theorem gX9_isFigure_X9_here : GoodIn wsX9_isFigure (wsV RX9 108 RX9 yX9_here wsX9_here) := goodIn_app (goodIn_of _ (by decide +kernel)) ggX9_isFigure_X9_here
set_option maxRecDepth 20000 in
theorem ggX9_isFigure_X9_in : GoodIn wsX9_isFigure wsX9_in := goodIn_r _ [13] (by decide +kernel) (by decide +kernel)
set_option maxRecDepth 20000 in
theorem gX9_isFigure_X9_in : GoodIn wsX9_isFigure (va_wsS RX9 87 yX9_in wsX9_in) := goodIn_app (goodIn_of _ (by decide +kernel)) ggX9_isFigure_X9_in
set_option maxRecDepth 20000 in
theorem ggX9_isFigure_X9_wrong : GoodIn wsX9_isFigure wsX9_wrong := goodIn_r _ [17, 18, 19, 20, 21, 22, 23, 24, 25, 26, 27, 28, 29, 30, 31, 32, 33, 34, 35, 36, 37, 38, 39, 40, 41, 42, 43, 44, 45, 46, 47, 48, 49, 50, 51, 52, 53, 54] (by decide +kernel) (by decide +kernel)
set_option maxRecDepth 20000 in
theorem gX9_isFigure_X9_wrong : GoodIn wsX9_isFigure (wsV RX9 112 RX9 yX9_wrong wsX9_wrong) := goodIn_app (goodIn_of _ (by decide +kernel)) ggX9_isFigure_X9_wrong
theorem dX9_isFigure_0 : decode cX9_isFigure 0 = .ok (.aload_n 0, 1) := by decide +kernel
theorem dX9_isFigure_1 : decode cX9_isFigure 1 = .ok (.aload_n 0, 1) := by decide +kernel
theorem dX9_isFigure_2 : decode cX9_isFigure 2 = .ok (.invokevirtual 108, 3) := by decide +kernel
theorem dX9_isFigure_5 : decode cX9_isFigure 5 = .ok (.bipush 48, 2) := by decide +kernel
theorem dX9_isFigure_7 : decode cX9_isFigure 7 = .ok (.isub, 1) := by decide +kernel
theorem dX9_isFigure_8 : decode cX9_isFigure 8 = .ok (.putfield 116, 3) := by decide +kernel
theorem dX9_isFigure_11 : decode cX9_isFigure 11 = .ok (.aload_n 0, 1) := by decide +kernel
theorem dX9_isFigure_12 : decode cX9_isFigure 12 = .ok (.getfield 116, 3) := by decide +kernel
theorem dX9_isFigure_15 : decode cX9_isFigure 15 = .ok (.i2l, 1) := by decide +kernel
theorem dX9_isFigure_16 : decode cX9_isFigure 16 = .ok (.lconst 0, 1) := by decide +kernel
theorem dX9_isFigure_17 : decode cX9_isFigure 17 = .ok (.ldc2_w 119, 3) := by decide +kernel
theorem dX9_isFigure_20 : decode cX9_isFigure 20 = .ok (.invokestatic 87, 3) := by decide +kernel
theorem dX9_isFigure_23 : decode cX9_isFigure 23 = .ok (.ifCond .ne 9, 3) := by decide +kernel
theorem dX9_isFigure_26 : decode cX9_isFigure 26 = .ok (.aload_n 0, 1) := by decide +kernel
theorem dX9_isFigure_27 : decode cX9_isFigure 27 = .ok (.iconst 1, 1) := by decide +kernel
theorem dX9_isFigure_28 : decode cX9_isFigure 28 = .ok (.invokevirtual 112, 3) := by decide +kernel
theorem dX9_isFigure_31 : decode cX9_isFigure 31 = .ok (.ireturn, 1) := by decide +kernel
theorem dX9_isFigure_32 : decode cX9_isFigure 32 = .ok (.aload_n 0, 1) := by decide +kernel
theorem dX9_isFigure_33 : decode cX9_isFigure 33 = .ok (.getfield 116, 3) := by decide +kernel
theorem dX9_isFigure_36 : decode cX9_isFigure 36 = .ok (.i2l, 1) := by decide +kernel
theorem dX9_isFigure_37 : decode cX9_isFigure 37 = .ok (.iload_n 1, 1) := by decide +kernel
theorem dX9_isFigure_38 : decode cX9_isFigure 38 = .ok (.i2l, 1) := by decide +kernel
theorem dX9_isFigure_39 : decode cX9_isFigure 39 = .ok (.iload_n 2, 1) := by decide +kernel
theorem dX9_isFigure_40 : decode cX9_isFigure 40 = .ok (.i2l, 1) := by decide +kernel
theorem dX9_isFigure_41 : decode cX9_isFigure 41 = .ok (.invokestatic 87, 3) := by decide +kernel
theorem dX9_isFigure_44 : decode cX9_isFigure 44 = .ok (.ifCond .ne 9, 3) := by decide +kernel
theorem dX9_isFigure_47 : decode cX9_isFigure 47 = .ok (.aload_n 0, 1) := by decide +kernel
theorem dX9_isFigure_48 : decode cX9_isFigure 48 = .ok (.iconst 2, 1) := by decide +kernel
theorem dX9_isFigure_49 : decode cX9_isFigure 49 = .ok (.invokevirtual 112, 3) := by decide +kernel
theorem dX9_isFigure_52 : decode cX9_isFigure 52 = .ok (.ireturn, 1) := by decide +kernel
theorem dX9_isFigure_53 : decode cX9_isFigure 53 = .ok (.aload_n 0, 1) := by decide +kernel
theorem dX9_isFigure_54 : decode cX9_isFigure 54 = .ok (.dup, 1) := by decide +kernel
theorem dX9_isFigure_55 : decode cX9_isFigure 55 = .ok (.getfield 102, 3) := by decide +kernel
theorem dX9_isFigure_58 : decode cX9_isFigure 58 = .ok (.iconst 1, 1) := by decide +kernel
theorem dX9_isFigure_59 : decode cX9_isFigure 59 = .ok (.iadd, 1) := by decide +kernel
theorem dX9_isFigure_60 : decode cX9_isFigure 60 = .ok (.putfield 102, 3) := by decide +kernel
theorem dX9_isFigure_63 : decode cX9_isFigure 63 = .ok (.iconst 1, 1) := by decide +kernel
theorem dX9_isFigure_64 : decode cX9_isFigure 64 = .ok (.ireturn, 1) := by decide +kernel
theorem dX9_signOf_0 : decode cX9_signOf 0 = .ok (.iload_n 0, 1) := by decide +kernel
theorem dX9_signOf_1 : decode cX9_signOf 1 = .ok (.bipush 97, 2) := by decide +kernel
theorem dX9_signOf_3 : decode cX9_signOf 3 = .ok (.if_icmp .ne 7, 3) := by decide +kernel
theorem dX9_signOf_6 : decode cX9_signOf 6 = .ok (.iconst 0, 1) := by decide +kernel
theorem dX9_signOf_7 : decode cX9_signOf 7 = .ok (.goto 34, 3) := by decide +kernel
theorem dX9_signOf_10 : decode cX9_signOf 10 = .ok (.iload_n 0, 1) := by decide +kernel
theorem dX9_signOf_11 : decode cX9_signOf 11 = .ok (.bipush 98, 2) := by decide +kernel
theorem dX9_signOf_13 : decode cX9_signOf 13 = .ok (.if_icmp .ne 7, 3) := by decide +kernel
theorem dX9_signOf_16 : decode cX9_signOf 16 = .ok (.iconst 1, 1) := by decide +kernel
theorem dX9_signOf_17 : decode cX9_signOf 17 = .ok (.goto 24, 3) := by decide +kernel
theorem dX9_signOf_20 : decode cX9_signOf 20 = .ok (.iload_n 0, 1) := by decide +kernel
theorem dX9_signOf_21 : decode cX9_signOf 21 = .ok (.bipush 40, 2) := by decide +kernel
theorem dX9_signOf_23 : decode cX9_signOf 23 = .ok (.if_icmp .ne 7, 3) := by decide +kernel
theorem dX9_signOf_26 : decode cX9_signOf 26 = .ok (.iconst 2, 1) := by decide +kernel
theorem dX9_signOf_27 : decode cX9_signOf 27 = .ok (.goto 14, 3) := by decide +kernel
theorem dX9_signOf_30 : decode cX9_signOf 30 = .ok (.iload_n 0, 1) := by decide +kernel
theorem dX9_signOf_31 : decode cX9_signOf 31 = .ok (.bipush 41, 2) := by decide +kernel
theorem dX9_signOf_33 : decode cX9_signOf 33 = .ok (.if_icmp .ne 7, 3) := by decide +kernel
theorem dX9_signOf_36 : decode cX9_signOf 36 = .ok (.iconst 3, 1) := by decide +kernel
theorem dX9_signOf_37 : decode cX9_signOf 37 = .ok (.goto 4, 3) := by decide +kernel
theorem dX9_signOf_40 : decode cX9_signOf 40 = .ok (.iconst (-1), 1) := by decide +kernel
theorem dX9_signOf_41 : decode cX9_signOf 41 = .ok (.ireturn, 1) := by decide +kernel
set_option maxRecDepth 20000 in
theorem ggX9_readsMove_X9_isFigure : GoodIn wsX9_readsMove wsX9_isFigure := goodIn_r _ [8, 3, 9, 1, 10, 11, 12, 7, 13, 14, 15, 16, 17, 18, 19, 20, 21, 22, 23, 31, 32, 33, 34, 35, 36, 37, 38, 39, 40, 41, 42, 43, 44, 45, 46, 47, 48, 49, 50, 51, 52, 53, 54, 55, 56, 57, 58, 59, 60, 61, 62, 63, 64, 65, 66] (by decide +kernel) (by decide +kernel)
set_option maxRecDepth 20000 in
theorem gX9_readsMove_X9_isFigure : GoodIn wsX9_readsMove (wsV RX9 121 RX9 yX9_isFigure wsX9_isFigure) := goodIn_app (goodIn_of _ (by decide +kernel)) ggX9_readsMove_X9_isFigure
set_option maxRecDepth 20000 in
theorem ggX9_readsMove_X9_here : GoodIn wsX9_readsMove wsX9_here := goodIn_r _ [13, 1, 14, 15, 31, 32, 33, 34, 35, 36, 37, 38, 39, 40, 41, 42, 43, 44, 45, 46, 47, 48, 49, 50, 51, 52, 53, 54, 55, 56, 57, 58, 59, 60, 61, 62, 63, 64, 65, 66] (by decide +kernel) (by decide +kernel)
set_option maxRecDepth 20000 in
theorem gX9_readsMove_X9_here : GoodIn wsX9_readsMove (wsV RX9 108 RX9 yX9_here wsX9_here) := goodIn_app (goodIn_of _ (by decide +kernel)) ggX9_readsMove_X9_here
set_option maxRecDepth 20000 in
theorem ggX9_readsMove_X9_signOf : GoodIn wsX9_readsMove wsX9_signOf := goodIn_r _ [26] (by decide +kernel) (by decide +kernel)
set_option maxRecDepth 20000 in
theorem gX9_readsMove_X9_signOf : GoodIn wsX9_readsMove (va_wsS RX9 125 yX9_signOf wsX9_signOf) := goodIn_app (goodIn_of _ (by decide +kernel)) ggX9_readsMove_X9_signOf
set_option maxRecDepth 20000 in
theorem ggX9_readsMove_X9_wrong : GoodIn wsX9_readsMove wsX9_wrong := goodIn_r _ [22, 23, 31, 32, 33, 34, 35, 36, 37, 38, 39, 40, 41, 42, 43, 44, 45, 46, 47, 48, 49, 50, 51, 52, 53, 54, 55, 56, 57, 58, 59, 60, 61, 62, 63, 64, 65, 66] (by decide +kernel) (by decide +kernel)
set_option maxRecDepth 20000 in
theorem gX9_readsMove_X9_wrong : GoodIn wsX9_readsMove (wsV RX9 112 RX9 yX9_wrong wsX9_wrong) := goodIn_app (goodIn_of _ (by decide +kernel)) ggX9_readsMove_X9_wrong
set_option maxRecDepth 20000 in
theorem ggX9_readsMove_X9_must : GoodIn wsX9_readsMove wsX9_must := goodIn_r _ [30, 1, 10, 11, 12, 7, 13, 14, 15, 19, 20, 21, 22, 23, 31, 32, 33, 34, 35, 36, 37, 38, 39, 40, 41, 42, 43, 44, 45, 46, 47, 48, 49, 50, 51, 52, 53, 54, 55, 56, 57, 58, 59, 60, 61, 62, 63, 64, 65, 66] (by decide +kernel) (by decide +kernel)
set_option maxRecDepth 20000 in
theorem gX9_readsMove_X9_must : GoodIn wsX9_readsMove (wsV RX9 128 RX9 yX9_must wsX9_must) := goodIn_app (goodIn_of _ (by decide +kernel)) ggX9_readsMove_X9_must
theorem dX9_readsMove_0 : decode cX9_readsMove 0 = .ok (.aload_n 0, 1) := by decide +kernel
theorem dX9_readsMove_1 : decode cX9_readsMove 1 = .ok (.dup, 1) := by decide +kernel
theorem dX9_readsMove_2 : decode cX9_readsMove 2 = .ok (.getfield 102, 3) := by decide +kernel
theorem dX9_readsMove_5 : decode cX9_readsMove 5 = .ok (.iconst 1, 1) := by decide +kernel
theorem dX9_readsMove_6 : decode cX9_readsMove 6 = .ok (.iadd, 1) := by decide +kernel
theorem dX9_readsMove_7 : decode cX9_readsMove 7 = .ok (.putfield 102, 3) := by decide +kernel
theorem dX9_readsMove_10 : decode cX9_readsMove 10 = .ok (.aload_n 0, 1) := by decide +kernel
theorem dX9_readsMove_11 : decode cX9_readsMove 11 = .ok (.iconst 0, 1) := by decide +kernel
theorem dX9_readsMove_12 : decode cX9_readsMove 12 = .ok (.aload_n 0, 1) := by decide +kernel
theorem dX9_readsMove_13 : decode cX9_readsMove 13 = .ok (.getfield 20, 3) := by decide +kernel
theorem dX9_readsMove_16 : decode cX9_readsMove 16 = .ok (.iconst 0, 1) := by decide +kernel
theorem dX9_readsMove_17 : decode cX9_readsMove 17 = .ok (.iaload, 1) := by decide +kernel
theorem dX9_readsMove_18 : decode cX9_readsMove 18 = .ok (.iconst 1, 1) := by decide +kernel
theorem dX9_readsMove_19 : decode cX9_readsMove 19 = .ok (.isub, 1) := by decide +kernel
theorem dX9_readsMove_20 : decode cX9_readsMove 20 = .ok (.invokevirtual 121, 3) := by decide +kernel
theorem dX9_readsMove_23 : decode cX9_readsMove 23 = .ok (.ifCond .ne 5, 3) := by decide +kernel
theorem dX9_readsMove_26 : decode cX9_readsMove 26 = .ok (.iconst 0, 1) := by decide +kernel
theorem dX9_readsMove_27 : decode cX9_readsMove 27 = .ok (.ireturn, 1) := by decide +kernel
theorem dX9_readsMove_28 : decode cX9_readsMove 28 = .ok (.aload_n 0, 1) := by decide +kernel
theorem dX9_readsMove_29 : decode cX9_readsMove 29 = .ok (.getfield 116, 3) := by decide +kernel
theorem dX9_readsMove_32 : decode cX9_readsMove 32 = .ok (.istore_n 1, 1) := by decide +kernel
theorem dX9_readsMove_33 : decode cX9_readsMove 33 = .ok (.aload_n 0, 1) := by decide +kernel
theorem dX9_readsMove_34 : decode cX9_readsMove 34 = .ok (.invokevirtual 108, 3) := by decide +kernel
theorem dX9_readsMove_37 : decode cX9_readsMove 37 = .ok (.invokestatic 125, 3) := by decide +kernel
theorem dX9_readsMove_40 : decode cX9_readsMove 40 = .ok (.istore_n 2, 1) := by decide +kernel
theorem dX9_readsMove_41 : decode cX9_readsMove 41 = .ok (.iload_n 2, 1) := by decide +kernel
theorem dX9_readsMove_42 : decode cX9_readsMove 42 = .ok (.iconst (-1), 1) := by decide +kernel
theorem dX9_readsMove_43 : decode cX9_readsMove 43 = .ok (.if_icmp .ne 9, 3) := by decide +kernel
theorem dX9_readsMove_46 : decode cX9_readsMove 46 = .ok (.aload_n 0, 1) := by decide +kernel
theorem dX9_readsMove_47 : decode cX9_readsMove 47 = .ok (.iconst 1, 1) := by decide +kernel
theorem dX9_readsMove_48 : decode cX9_readsMove 48 = .ok (.invokevirtual 112, 3) := by decide +kernel
theorem dX9_readsMove_51 : decode cX9_readsMove 51 = .ok (.ireturn, 1) := by decide +kernel
theorem dX9_readsMove_52 : decode cX9_readsMove 52 = .ok (.iconst 1, 1) := by decide +kernel
theorem dX9_readsMove_53 : decode cX9_readsMove 53 = .ok (.iconst 4, 1) := by decide +kernel
theorem dX9_readsMove_54 : decode cX9_readsMove 54 = .ok (.iload_n 1, 1) := by decide +kernel
theorem dX9_readsMove_55 : decode cX9_readsMove 55 = .ok (.imul, 1) := by decide +kernel
theorem dX9_readsMove_56 : decode cX9_readsMove 56 = .ok (.iadd, 1) := by decide +kernel
theorem dX9_readsMove_57 : decode cX9_readsMove 57 = .ok (.iload_n 2, 1) := by decide +kernel
theorem dX9_readsMove_58 : decode cX9_readsMove 58 = .ok (.iadd, 1) := by decide +kernel
theorem dX9_readsMove_59 : decode cX9_readsMove 59 = .ok (.istore_n 3, 1) := by decide +kernel
theorem dX9_readsMove_60 : decode cX9_readsMove 60 = .ok (.aload_n 0, 1) := by decide +kernel
theorem dX9_readsMove_61 : decode cX9_readsMove 61 = .ok (.getfield 20, 3) := by decide +kernel
theorem dX9_readsMove_64 : decode cX9_readsMove 64 = .ok (.iload_n 3, 1) := by decide +kernel
theorem dX9_readsMove_65 : decode cX9_readsMove 65 = .ok (.iaload, 1) := by decide +kernel
theorem dX9_readsMove_66 : decode cX9_readsMove 66 = .ok (.iconst (-1), 1) := by decide +kernel
theorem dX9_readsMove_67 : decode cX9_readsMove 67 = .ok (.if_icmp .eq 9, 3) := by decide +kernel
theorem dX9_readsMove_70 : decode cX9_readsMove 70 = .ok (.aload_n 0, 1) := by decide +kernel
theorem dX9_readsMove_71 : decode cX9_readsMove 71 = .ok (.iconst 4, 1) := by decide +kernel
theorem dX9_readsMove_72 : decode cX9_readsMove 72 = .ok (.invokevirtual 112, 3) := by decide +kernel
theorem dX9_readsMove_75 : decode cX9_readsMove 75 = .ok (.ireturn, 1) := by decide +kernel
theorem dX9_readsMove_76 : decode cX9_readsMove 76 = .ok (.aload_n 0, 1) := by decide +kernel
theorem dX9_readsMove_77 : decode cX9_readsMove 77 = .ok (.dup, 1) := by decide +kernel
theorem dX9_readsMove_78 : decode cX9_readsMove 78 = .ok (.getfield 102, 3) := by decide +kernel
theorem dX9_readsMove_81 : decode cX9_readsMove 81 = .ok (.iconst 1, 1) := by decide +kernel
theorem dX9_readsMove_82 : decode cX9_readsMove 82 = .ok (.iadd, 1) := by decide +kernel
theorem dX9_readsMove_83 : decode cX9_readsMove 83 = .ok (.putfield 102, 3) := by decide +kernel
theorem dX9_readsMove_86 : decode cX9_readsMove 86 = .ok (.aload_n 0, 1) := by decide +kernel
theorem dX9_readsMove_87 : decode cX9_readsMove 87 = .ok (.iconst 0, 1) := by decide +kernel
theorem dX9_readsMove_88 : decode cX9_readsMove 88 = .ok (.aload_n 0, 1) := by decide +kernel
theorem dX9_readsMove_89 : decode cX9_readsMove 89 = .ok (.getfield 20, 3) := by decide +kernel
theorem dX9_readsMove_92 : decode cX9_readsMove 92 = .ok (.iconst 0, 1) := by decide +kernel
theorem dX9_readsMove_93 : decode cX9_readsMove 93 = .ok (.iaload, 1) := by decide +kernel
theorem dX9_readsMove_94 : decode cX9_readsMove 94 = .ok (.iconst 1, 1) := by decide +kernel
theorem dX9_readsMove_95 : decode cX9_readsMove 95 = .ok (.isub, 1) := by decide +kernel
theorem dX9_readsMove_96 : decode cX9_readsMove 96 = .ok (.invokevirtual 121, 3) := by decide +kernel
theorem dX9_readsMove_99 : decode cX9_readsMove 99 = .ok (.ifCond .ne 5, 3) := by decide +kernel
theorem dX9_readsMove_102 : decode cX9_readsMove 102 = .ok (.iconst 0, 1) := by decide +kernel
theorem dX9_readsMove_103 : decode cX9_readsMove 103 = .ok (.ireturn, 1) := by decide +kernel
theorem dX9_readsMove_104 : decode cX9_readsMove 104 = .ok (.aload_n 0, 1) := by decide +kernel
theorem dX9_readsMove_105 : decode cX9_readsMove 105 = .ok (.getfield 116, 3) := by decide +kernel
theorem dX9_readsMove_108 : decode cX9_readsMove 108 = .ok (.istore 4, 2) := by decide +kernel
theorem dX9_readsMove_110 : decode cX9_readsMove 110 = .ok (.aload_n 0, 1) := by decide +kernel
theorem dX9_readsMove_111 : decode cX9_readsMove 111 = .ok (.invokevirtual 108, 3) := by decide +kernel
theorem dX9_readsMove_114 : decode cX9_readsMove 114 = .ok (.bipush 114, 2) := by decide +kernel
theorem dX9_readsMove_116 : decode cX9_readsMove 116 = .ok (.if_icmp .ne 7, 3) := by decide +kernel
theorem dX9_readsMove_119 : decode cX9_readsMove 119 = .ok (.iconst 1, 1) := by decide +kernel
theorem dX9_readsMove_120 : decode cX9_readsMove 120 = .ok (.goto 4, 3) := by decide +kernel
theorem dX9_readsMove_123 : decode cX9_readsMove 123 = .ok (.iconst 0, 1) := by decide +kernel
theorem dX9_readsMove_124 : decode cX9_readsMove 124 = .ok (.istore 5, 2) := by decide +kernel
theorem dX9_readsMove_126 : decode cX9_readsMove 126 = .ok (.iload 5, 2) := by decide +kernel
theorem dX9_readsMove_128 : decode cX9_readsMove 128 = .ok (.ifCond .ne 18, 3) := by decide +kernel
theorem dX9_readsMove_131 : decode cX9_readsMove 131 = .ok (.aload_n 0, 1) := by decide +kernel
theorem dX9_readsMove_132 : decode cX9_readsMove 132 = .ok (.invokevirtual 108, 3) := by decide +kernel
theorem dX9_readsMove_135 : decode cX9_readsMove 135 = .ok (.bipush 108, 2) := by decide +kernel
theorem dX9_readsMove_137 : decode cX9_readsMove 137 = .ok (.if_icmp .eq 9, 3) := by decide +kernel
theorem dX9_readsMove_140 : decode cX9_readsMove 140 = .ok (.aload_n 0, 1) := by decide +kernel
theorem dX9_readsMove_141 : decode cX9_readsMove 141 = .ok (.iconst 1, 1) := by decide +kernel
theorem dX9_readsMove_142 : decode cX9_readsMove 142 = .ok (.invokevirtual 112, 3) := by decide +kernel
theorem dX9_readsMove_145 : decode cX9_readsMove 145 = .ok (.ireturn, 1) := by decide +kernel
theorem dX9_readsMove_146 : decode cX9_readsMove 146 = .ok (.aload_n 0, 1) := by decide +kernel
theorem dX9_readsMove_147 : decode cX9_readsMove 147 = .ok (.dup, 1) := by decide +kernel
theorem dX9_readsMove_148 : decode cX9_readsMove 148 = .ok (.getfield 102, 3) := by decide +kernel
theorem dX9_readsMove_151 : decode cX9_readsMove 151 = .ok (.iconst 1, 1) := by decide +kernel
theorem dX9_readsMove_152 : decode cX9_readsMove 152 = .ok (.iadd, 1) := by decide +kernel
theorem dX9_readsMove_153 : decode cX9_readsMove 153 = .ok (.putfield 102, 3) := by decide +kernel
theorem dX9_readsMove_156 : decode cX9_readsMove 156 = .ok (.aload_n 0, 1) := by decide +kernel
theorem dX9_readsMove_157 : decode cX9_readsMove 157 = .ok (.getfield 20, 3) := by decide +kernel
theorem dX9_readsMove_160 : decode cX9_readsMove 160 = .ok (.iload_n 3, 1) := by decide +kernel
theorem dX9_readsMove_161 : decode cX9_readsMove 161 = .ok (.iconst 2, 1) := by decide +kernel
theorem dX9_readsMove_162 : decode cX9_readsMove 162 = .ok (.iload 4, 2) := by decide +kernel
theorem dX9_readsMove_164 : decode cX9_readsMove 164 = .ok (.imul, 1) := by decide +kernel
theorem dX9_readsMove_165 : decode cX9_readsMove 165 = .ok (.iload 5, 2) := by decide +kernel
theorem dX9_readsMove_167 : decode cX9_readsMove 167 = .ok (.ifCond .eq 7, 3) := by decide +kernel
theorem dX9_readsMove_170 : decode cX9_readsMove 170 = .ok (.iconst 1, 1) := by decide +kernel
theorem dX9_readsMove_171 : decode cX9_readsMove 171 = .ok (.goto 4, 3) := by decide +kernel
theorem dX9_readsMove_174 : decode cX9_readsMove 174 = .ok (.iconst 0, 1) := by decide +kernel
theorem dX9_readsMove_175 : decode cX9_readsMove 175 = .ok (.iadd, 1) := by decide +kernel
theorem dX9_readsMove_176 : decode cX9_readsMove 176 = .ok (.iastore, 1) := by decide +kernel
theorem dX9_readsMove_177 : decode cX9_readsMove 177 = .ok (.aload_n 0, 1) := by decide +kernel
theorem dX9_readsMove_178 : decode cX9_readsMove 178 = .ok (.bipush 59, 2) := by decide +kernel
theorem dX9_readsMove_180 : decode cX9_readsMove 180 = .ok (.invokevirtual 128, 3) := by decide +kernel
theorem dX9_readsMove_183 : decode cX9_readsMove 183 = .ok (.ireturn, 1) := by decide +kernel
set_option maxRecDepth 20000 in
theorem ggX9_reads_X9_here : GoodIn wsX9_reads wsX9_here := goodIn_r _ [7, 8, 9, 10, 35, 36, 37, 38, 39, 40, 41, 42, 43, 44, 45, 46, 47, 48, 49, 50, 51, 52, 53, 54, 55, 56, 57, 58, 59, 60, 61, 62, 63, 64, 65, 66, 67, 68, 69, 70] (by decide +kernel) (by decide +kernel)
set_option maxRecDepth 20000 in
theorem gX9_reads_X9_here : GoodIn wsX9_reads (wsV RX9 108 RX9 yX9_here wsX9_here) := goodIn_app (goodIn_of _ (by decide +kernel)) ggX9_reads_X9_here
set_option maxRecDepth 20000 in
theorem ggX9_reads_X9_must : GoodIn wsX9_reads wsX9_must := goodIn_r _ [14, 8, 3, 4, 5, 6, 7, 9, 10, 15, 16, 17, 18, 19, 35, 36, 37, 38, 39, 40, 41, 42, 43, 44, 45, 46, 47, 48, 49, 50, 51, 52, 53, 54, 55, 56, 57, 58, 59, 60, 61, 62, 63, 64, 65, 66, 67, 68, 69, 70] (by decide +kernel) (by decide +kernel)
set_option maxRecDepth 20000 in
theorem gX9_reads_X9_must : GoodIn wsX9_reads (wsV RX9 128 RX9 yX9_must wsX9_must) := goodIn_app (goodIn_of _ (by decide +kernel)) ggX9_reads_X9_must
set_option maxRecDepth 20000 in
theorem ggX9_reads_X9_isFigure : GoodIn wsX9_reads wsX9_isFigure := goodIn_r _ [23, 2, 24, 8, 3, 4, 5, 6, 7, 9, 10, 25, 26, 27, 15, 16, 17, 18, 19, 35, 36, 37, 38, 39, 40, 41, 42, 43, 44, 45, 46, 47, 48, 49, 50, 51, 52, 53, 54, 55, 56, 57, 58, 59, 60, 61, 62, 63, 64, 65, 66, 67, 68, 69, 70] (by decide +kernel) (by decide +kernel)
set_option maxRecDepth 20000 in
theorem gX9_reads_X9_isFigure : GoodIn wsX9_reads (wsV RX9 121 RX9 yX9_isFigure wsX9_isFigure) := goodIn_app (goodIn_of _ (by decide +kernel)) ggX9_reads_X9_isFigure
set_option maxRecDepth 20000 in
theorem ggX9_reads_X9_wrong : GoodIn wsX9_reads wsX9_wrong := goodIn_r _ [18, 19, 35, 36, 37, 38, 39, 40, 41, 42, 43, 44, 45, 46, 47, 48, 49, 50, 51, 52, 53, 54, 55, 56, 57, 58, 59, 60, 61, 62, 63, 64, 65, 66, 67, 68, 69, 70] (by decide +kernel) (by decide +kernel)
set_option maxRecDepth 20000 in
theorem gX9_reads_X9_wrong : GoodIn wsX9_reads (wsV RX9 112 RX9 yX9_wrong wsX9_wrong) := goodIn_app (goodIn_of _ (by decide +kernel)) ggX9_reads_X9_wrong
set_option maxRecDepth 20000 in
theorem ggX9_reads_X9_readsMove : GoodIn wsX9_reads wsX9_readsMove := goodIn_r _ [31, 8, 1, 2, 20, 21, 22, 6, 23, 24, 3, 4, 5, 7, 9, 10, 25, 26, 27, 15, 16, 17, 18, 19, 32, 33, 34, 11, 12, 13, 14, 35, 36, 37, 38, 39, 40, 41, 42, 43, 44, 45, 46, 47, 48, 49, 50, 51, 52, 53, 54, 55, 56, 57, 58, 59, 60, 61, 62, 63, 64, 65, 66, 67, 68, 69, 70] (by decide +kernel) (by decide +kernel)
set_option maxRecDepth 20000 in
theorem gX9_reads_X9_readsMove : GoodIn wsX9_reads (wsV RX9 131 RX9 yX9_readsMove wsX9_readsMove) := goodIn_app (goodIn_of _ (by decide +kernel)) ggX9_reads_X9_readsMove
theorem dX9_reads_0 : decode cX9_reads 0 = .ok (.aload_n 0, 1) := by decide +kernel
theorem dX9_reads_1 : decode cX9_reads 1 = .ok (.getfield 20, 3) := by decide +kernel
theorem dX9_reads_4 : decode cX9_reads 4 = .ok (.iconst 0, 1) := by decide +kernel
theorem dX9_reads_5 : decode cX9_reads 5 = .ok (.iconst 1, 1) := by decide +kernel
theorem dX9_reads_6 : decode cX9_reads 6 = .ok (.iastore, 1) := by decide +kernel
theorem dX9_reads_7 : decode cX9_reads 7 = .ok (.iconst 1, 1) := by decide +kernel
theorem dX9_reads_8 : decode cX9_reads 8 = .ok (.istore_n 1, 1) := by decide +kernel
theorem dX9_reads_9 : decode cX9_reads 9 = .ok (.iload_n 1, 1) := by decide +kernel
theorem dX9_reads_10 : decode cX9_reads 10 = .ok (.bipush 17, 2) := by decide +kernel
theorem dX9_reads_12 : decode cX9_reads 12 = .ok (.if_icmp .ge 16, 3) := by decide +kernel
theorem dX9_reads_15 : decode cX9_reads 15 = .ok (.aload_n 0, 1) := by decide +kernel
theorem dX9_reads_16 : decode cX9_reads 16 = .ok (.getfield 20, 3) := by decide +kernel
theorem dX9_reads_19 : decode cX9_reads 19 = .ok (.iload_n 1, 1) := by decide +kernel
theorem dX9_reads_20 : decode cX9_reads 20 = .ok (.iconst (-1), 1) := by decide +kernel
theorem dX9_reads_21 : decode cX9_reads 21 = .ok (.iastore, 1) := by decide +kernel
theorem dX9_reads_22 : decode cX9_reads 22 = .ok (.iinc 1 1, 3) := by decide +kernel
theorem dX9_reads_25 : decode cX9_reads 25 = .ok (.goto (-16), 3) := by decide +kernel
theorem dX9_reads_28 : decode cX9_reads 28 = .ok (.aload_n 0, 1) := by decide +kernel
theorem dX9_reads_29 : decode cX9_reads 29 = .ok (.invokevirtual 108, 3) := by decide +kernel
theorem dX9_reads_32 : decode cX9_reads 32 = .ok (.iconst (-1), 1) := by decide +kernel
theorem dX9_reads_33 : decode cX9_reads 33 = .ok (.if_icmp .ne 5, 3) := by decide +kernel
theorem dX9_reads_36 : decode cX9_reads 36 = .ok (.iconst 1, 1) := by decide +kernel
theorem dX9_reads_37 : decode cX9_reads 37 = .ok (.ireturn, 1) := by decide +kernel
theorem dX9_reads_38 : decode cX9_reads 38 = .ok (.aload_n 0, 1) := by decide +kernel
theorem dX9_reads_39 : decode cX9_reads 39 = .ok (.bipush 113, 2) := by decide +kernel
theorem dX9_reads_41 : decode cX9_reads 41 = .ok (.invokevirtual 128, 3) := by decide +kernel
theorem dX9_reads_44 : decode cX9_reads 44 = .ok (.ifCond .eq 12, 3) := by decide +kernel
theorem dX9_reads_47 : decode cX9_reads 47 = .ok (.aload_n 0, 1) := by decide +kernel
theorem dX9_reads_48 : decode cX9_reads 48 = .ok (.iconst 1, 1) := by decide +kernel
theorem dX9_reads_49 : decode cX9_reads 49 = .ok (.iconst 4, 1) := by decide +kernel
theorem dX9_reads_50 : decode cX9_reads 50 = .ok (.invokevirtual 121, 3) := by decide +kernel
theorem dX9_reads_53 : decode cX9_reads 53 = .ok (.ifCond .ne 5, 3) := by decide +kernel
theorem dX9_reads_56 : decode cX9_reads 56 = .ok (.iconst 0, 1) := by decide +kernel
theorem dX9_reads_57 : decode cX9_reads 57 = .ok (.ireturn, 1) := by decide +kernel
theorem dX9_reads_58 : decode cX9_reads 58 = .ok (.aload_n 0, 1) := by decide +kernel
theorem dX9_reads_59 : decode cX9_reads 59 = .ok (.getfield 20, 3) := by decide +kernel
theorem dX9_reads_62 : decode cX9_reads 62 = .ok (.iconst 0, 1) := by decide +kernel
theorem dX9_reads_63 : decode cX9_reads 63 = .ok (.aload_n 0, 1) := by decide +kernel
theorem dX9_reads_64 : decode cX9_reads 64 = .ok (.getfield 116, 3) := by decide +kernel
theorem dX9_reads_67 : decode cX9_reads 67 = .ok (.iastore, 1) := by decide +kernel
theorem dX9_reads_68 : decode cX9_reads 68 = .ok (.aload_n 0, 1) := by decide +kernel
theorem dX9_reads_69 : decode cX9_reads 69 = .ok (.bipush 59, 2) := by decide +kernel
theorem dX9_reads_71 : decode cX9_reads 71 = .ok (.invokevirtual 128, 3) := by decide +kernel
theorem dX9_reads_74 : decode cX9_reads 74 = .ok (.ifCond .ne 5, 3) := by decide +kernel
theorem dX9_reads_77 : decode cX9_reads 77 = .ok (.iconst 0, 1) := by decide +kernel
theorem dX9_reads_78 : decode cX9_reads 78 = .ok (.ireturn, 1) := by decide +kernel
theorem dX9_reads_79 : decode cX9_reads 79 = .ok (.aload_n 0, 1) := by decide +kernel
theorem dX9_reads_80 : decode cX9_reads 80 = .ok (.invokevirtual 108, 3) := by decide +kernel
theorem dX9_reads_83 : decode cX9_reads 83 = .ok (.iconst (-1), 1) := by decide +kernel
theorem dX9_reads_84 : decode cX9_reads 84 = .ok (.if_icmp .eq 42, 3) := by decide +kernel
theorem dX9_reads_87 : decode cX9_reads 87 = .ok (.aload_n 0, 1) := by decide +kernel
theorem dX9_reads_88 : decode cX9_reads 88 = .ok (.invokevirtual 108, 3) := by decide +kernel
theorem dX9_reads_91 : decode cX9_reads 91 = .ok (.bipush 113, 2) := by decide +kernel
theorem dX9_reads_93 : decode cX9_reads 93 = .ok (.if_icmp .ne 9, 3) := by decide +kernel
theorem dX9_reads_96 : decode cX9_reads 96 = .ok (.aload_n 0, 1) := by decide +kernel
theorem dX9_reads_97 : decode cX9_reads 97 = .ok (.iconst 3, 1) := by decide +kernel
theorem dX9_reads_98 : decode cX9_reads 98 = .ok (.invokevirtual 112, 3) := by decide +kernel
theorem dX9_reads_101 : decode cX9_reads 101 = .ok (.ireturn, 1) := by decide +kernel
theorem dX9_reads_102 : decode cX9_reads 102 = .ok (.aload_n 0, 1) := by decide +kernel
theorem dX9_reads_103 : decode cX9_reads 103 = .ok (.invokevirtual 108, 3) := by decide +kernel
theorem dX9_reads_106 : decode cX9_reads 106 = .ok (.bipush 109, 2) := by decide +kernel
theorem dX9_reads_108 : decode cX9_reads 108 = .ok (.if_icmp .eq 9, 3) := by decide +kernel
theorem dX9_reads_111 : decode cX9_reads 111 = .ok (.aload_n 0, 1) := by decide +kernel
theorem dX9_reads_112 : decode cX9_reads 112 = .ok (.iconst 1, 1) := by decide +kernel
theorem dX9_reads_113 : decode cX9_reads 113 = .ok (.invokevirtual 112, 3) := by decide +kernel
theorem dX9_reads_116 : decode cX9_reads 116 = .ok (.ireturn, 1) := by decide +kernel
theorem dX9_reads_117 : decode cX9_reads 117 = .ok (.aload_n 0, 1) := by decide +kernel
theorem dX9_reads_118 : decode cX9_reads 118 = .ok (.invokevirtual 131, 3) := by decide +kernel
theorem dX9_reads_121 : decode cX9_reads 121 = .ok (.ifCond .ne (-42), 3) := by decide +kernel
theorem dX9_reads_124 : decode cX9_reads 124 = .ok (.iconst 0, 1) := by decide +kernel
theorem dX9_reads_125 : decode cX9_reads 125 = .ok (.ireturn, 1) := by decide +kernel
theorem dX9_reads_126 : decode cX9_reads 126 = .ok (.iconst 1, 1) := by decide +kernel
theorem dX9_reads_127 : decode cX9_reads 127 = .ok (.ireturn, 1) := by decide +kernel
set_option maxRecDepth 20000 in
theorem ggX9_machine_X9_isMachine : GoodIn wsX9_machine wsX9_isMachine := goodIn_r _ [11, 12, 13, 10, 14] (by decide +kernel) (by decide +kernel)
set_option maxRecDepth 20000 in
theorem gX9_machine_X9_isMachine : GoodIn wsX9_machine (va_wsS RX9 135 yX9_isMachine wsX9_isMachine) := goodIn_app (goodIn_of _ (by decide +kernel)) ggX9_machine_X9_isMachine
set_option maxRecDepth 20000 in
theorem ggX9_machine_X9_reads : GoodIn wsX9_machine wsX9_reads := goodIn_r _ [18, 7, 19, 20, 21, 22, 10, 23, 2, 3, 24, 25, 26, 27, 28, 29, 30, 31, 32, 5, 33, 34, 35, 36, 37, 12, 13, 14, 38, 39, 40, 41, 42, 43, 44, 51, 52, 53, 54, 55, 56, 57, 58, 59, 60, 61, 62, 63, 64, 65, 66, 67, 68, 69, 70, 71, 72, 73, 74, 75, 76, 77, 78, 79, 80, 81, 82, 83, 84, 85, 86] (by decide +kernel) (by decide +kernel)
set_option maxRecDepth 20000 in
theorem gX9_machine_X9_reads : GoodIn wsX9_machine (wsV RX9 139 RX9 yX9_reads wsX9_reads) := goodIn_app (goodIn_of _ (by decide +kernel)) ggX9_machine_X9_reads
set_option maxRecDepth 20000 in
theorem ggX9_machine_X9_here : GoodIn wsX9_machine wsX9_here := goodIn_r _ [23, 2, 3, 24, 51, 52, 53, 54, 55, 56, 57, 58, 59, 60, 61, 62, 63, 64, 65, 66, 67, 68, 69, 70, 71, 72, 73, 74, 75, 76, 77, 78, 79, 80, 81, 82, 83, 84, 85, 86] (by decide +kernel) (by decide +kernel)
set_option maxRecDepth 20000 in
theorem gX9_machine_X9_here : GoodIn wsX9_machine (wsV RX9 108 RX9 yX9_here wsX9_here) := goodIn_app (goodIn_of _ (by decide +kernel)) ggX9_machine_X9_here
set_option maxRecDepth 20000 in
theorem ggX9_machine_X9_notes : GoodIn wsX9_machine wsX9_notes := goodIn_r _ [48, 49, 50, 6, 51, 52, 53, 54, 55, 56, 57, 58, 59, 60, 61, 62, 63, 64, 65, 66, 67, 68, 69, 70, 71, 72, 73, 74, 75, 76, 77, 78, 79, 80, 81, 82, 83, 84, 85, 86] (by decide +kernel) (by decide +kernel)
set_option maxRecDepth 20000 in
theorem gX9_machine_X9_notes : GoodIn wsX9_machine (wsV RX9 142 RX9 yX9_notes wsX9_notes) := goodIn_app (goodIn_of _ (by decide +kernel)) ggX9_machine_X9_notes
theorem dX9_machine_0 : decode cX9_machine 0 = .ok (.iload_n 1, 1) := by decide +kernel
theorem dX9_machine_1 : decode cX9_machine 1 = .ok (.invokestatic 135, 3) := by decide +kernel
theorem dX9_machine_4 : decode cX9_machine 4 = .ok (.ifCond .ne 6, 3) := by decide +kernel
theorem dX9_machine_7 : decode cX9_machine 7 = .ok (.ldc 138, 2) := by decide +kernel
theorem dX9_machine_9 : decode cX9_machine 9 = .ok (.ireturn, 1) := by decide +kernel
theorem dX9_machine_10 : decode cX9_machine 10 = .ok (.aload_n 0, 1) := by decide +kernel
theorem dX9_machine_11 : decode cX9_machine 11 = .ok (.iconst 0, 1) := by decide +kernel
theorem dX9_machine_12 : decode cX9_machine 12 = .ok (.putfield 102, 3) := by decide +kernel
theorem dX9_machine_15 : decode cX9_machine 15 = .ok (.aload_n 0, 1) := by decide +kernel
theorem dX9_machine_16 : decode cX9_machine 16 = .ok (.invokevirtual 139, 3) := by decide +kernel
theorem dX9_machine_19 : decode cX9_machine 19 = .ok (.istore_n 2, 1) := by decide +kernel
theorem dX9_machine_20 : decode cX9_machine 20 = .ok (.aload_n 0, 1) := by decide +kernel
theorem dX9_machine_21 : decode cX9_machine 21 = .ok (.invokevirtual 108, 3) := by decide +kernel
theorem dX9_machine_24 : decode cX9_machine 24 = .ok (.iconst (-1), 1) := by decide +kernel
theorem dX9_machine_25 : decode cX9_machine 25 = .ok (.if_icmp .ne 7, 3) := by decide +kernel
theorem dX9_machine_28 : decode cX9_machine 28 = .ok (.iconst 1, 1) := by decide +kernel
theorem dX9_machine_29 : decode cX9_machine 29 = .ok (.goto 4, 3) := by decide +kernel
theorem dX9_machine_32 : decode cX9_machine 32 = .ok (.iconst 0, 1) := by decide +kernel
theorem dX9_machine_33 : decode cX9_machine 33 = .ok (.istore_n 3, 1) := by decide +kernel
theorem dX9_machine_34 : decode cX9_machine 34 = .ok (.aload_n 0, 1) := by decide +kernel
theorem dX9_machine_35 : decode cX9_machine 35 = .ok (.iload_n 2, 1) := by decide +kernel
theorem dX9_machine_36 : decode cX9_machine 36 = .ok (.ifCond .eq 7, 3) := by decide +kernel
theorem dX9_machine_39 : decode cX9_machine 39 = .ok (.iconst (-1), 1) := by decide +kernel
theorem dX9_machine_40 : decode cX9_machine 40 = .ok (.goto 18, 3) := by decide +kernel
theorem dX9_machine_43 : decode cX9_machine 43 = .ok (.iload_n 3, 1) := by decide +kernel
theorem dX9_machine_44 : decode cX9_machine 44 = .ok (.ifCond .eq 10, 3) := by decide +kernel
theorem dX9_machine_47 : decode cX9_machine 47 = .ok (.aload_n 0, 1) := by decide +kernel
theorem dX9_machine_48 : decode cX9_machine 48 = .ok (.getfield 98, 3) := by decide +kernel
theorem dX9_machine_51 : decode cX9_machine 51 = .ok (.goto 7, 3) := by decide +kernel
theorem dX9_machine_54 : decode cX9_machine 54 = .ok (.aload_n 0, 1) := by decide +kernel
theorem dX9_machine_55 : decode cX9_machine 55 = .ok (.getfield 102, 3) := by decide +kernel
theorem dX9_machine_58 : decode cX9_machine 58 = .ok (.putfield 16, 3) := by decide +kernel
theorem dX9_machine_61 : decode cX9_machine 61 = .ok (.aload_n 0, 1) := by decide +kernel
theorem dX9_machine_62 : decode cX9_machine 62 = .ok (.iconst 0, 1) := by decide +kernel
theorem dX9_machine_63 : decode cX9_machine 63 = .ok (.putfield 98, 3) := by decide +kernel
theorem dX9_machine_66 : decode cX9_machine 66 = .ok (.iload_n 2, 1) := by decide +kernel
theorem dX9_machine_67 : decode cX9_machine 67 = .ok (.ifCond .ne 11, 3) := by decide +kernel
theorem dX9_machine_70 : decode cX9_machine 70 = .ok (.bipush (-10), 2) := by decide +kernel
theorem dX9_machine_72 : decode cX9_machine 72 = .ok (.aload_n 0, 1) := by decide +kernel
theorem dX9_machine_73 : decode cX9_machine 73 = .ok (.getfield 105, 3) := by decide +kernel
theorem dX9_machine_76 : decode cX9_machine 76 = .ok (.isub, 1) := by decide +kernel
theorem dX9_machine_77 : decode cX9_machine 77 = .ok (.ireturn, 1) := by decide +kernel
theorem dX9_machine_78 : decode cX9_machine 78 = .ok (.aload_n 0, 1) := by decide +kernel
theorem dX9_machine_79 : decode cX9_machine 79 = .ok (.invokevirtual 142, 3) := by decide +kernel
theorem dX9_machine_82 : decode cX9_machine 82 = .ok (.iconst 0, 1) := by decide +kernel
theorem dX9_machine_83 : decode cX9_machine 83 = .ok (.istore 4, 2) := by decide +kernel
theorem dX9_machine_85 : decode cX9_machine 85 = .ok (.iload 4, 2) := by decide +kernel
theorem dX9_machine_87 : decode cX9_machine 87 = .ok (.bipush 17, 2) := by decide +kernel
theorem dX9_machine_89 : decode cX9_machine 89 = .ok (.if_icmp .ge 28, 3) := by decide +kernel
theorem dX9_machine_92 : decode cX9_machine 92 = .ok (.aload_n 0, 1) := by decide +kernel
theorem dX9_machine_93 : decode cX9_machine 93 = .ok (.getfield 7, 3) := by decide +kernel
theorem dX9_machine_96 : decode cX9_machine 96 = .ok (.bipush 17, 2) := by decide +kernel
theorem dX9_machine_98 : decode cX9_machine 98 = .ok (.iload_n 1, 1) := by decide +kernel
theorem dX9_machine_99 : decode cX9_machine 99 = .ok (.imul, 1) := by decide +kernel
theorem dX9_machine_100 : decode cX9_machine 100 = .ok (.iload 4, 2) := by decide +kernel
theorem dX9_machine_102 : decode cX9_machine 102 = .ok (.iadd, 1) := by decide +kernel
theorem dX9_machine_103 : decode cX9_machine 103 = .ok (.aload_n 0, 1) := by decide +kernel
theorem dX9_machine_104 : decode cX9_machine 104 = .ok (.getfield 20, 3) := by decide +kernel
theorem dX9_machine_107 : decode cX9_machine 107 = .ok (.iload 4, 2) := by decide +kernel
theorem dX9_machine_109 : decode cX9_machine 109 = .ok (.iaload, 1) := by decide +kernel
theorem dX9_machine_110 : decode cX9_machine 110 = .ok (.iastore, 1) := by decide +kernel
theorem dX9_machine_111 : decode cX9_machine 111 = .ok (.iinc 4 1, 3) := by decide +kernel
theorem dX9_machine_114 : decode cX9_machine 114 = .ok (.goto (-29), 3) := by decide +kernel
theorem dX9_machine_117 : decode cX9_machine 117 = .ok (.aload_n 0, 1) := by decide +kernel
theorem dX9_machine_118 : decode cX9_machine 118 = .ok (.getfield 20, 3) := by decide +kernel
theorem dX9_machine_121 : decode cX9_machine 121 = .ok (.iconst 0, 1) := by decide +kernel
theorem dX9_machine_122 : decode cX9_machine 122 = .ok (.iaload, 1) := by decide +kernel
theorem dX9_machine_123 : decode cX9_machine 123 = .ok (.ireturn, 1) := by decide +kernel
theorem dX9_fault_0 : decode cX9_fault 0 = .ok (.aload_n 0, 1) := by decide +kernel
theorem dX9_fault_1 : decode cX9_fault 1 = .ok (.getfield 16, 3) := by decide +kernel
theorem dX9_fault_4 : decode cX9_fault 4 = .ok (.ireturn, 1) := by decide +kernel
theorem dX9_notes_0 : decode cX9_notes 0 = .ok (.aload_n 0, 1) := by decide +kernel
theorem dX9_notes_1 : decode cX9_notes 1 = .ok (.getfield 145, 3) := by decide +kernel
theorem dX9_notes_4 : decode cX9_notes 4 = .ok (.bipush 8, 2) := by decide +kernel
theorem dX9_notes_6 : decode cX9_notes 6 = .ok (.if_icmp .ne 40, 3) := by decide +kernel
theorem dX9_notes_9 : decode cX9_notes 9 = .ok (.bipush 34, 2) := by decide +kernel
theorem dX9_notes_11 : decode cX9_notes 11 = .ok (.istore_n 1, 1) := by decide +kernel
theorem dX9_notes_12 : decode cX9_notes 12 = .ok (.iload_n 1, 1) := by decide +kernel
theorem dX9_notes_13 : decode cX9_notes 13 = .ok (.sipush 272, 3) := by decide +kernel
theorem dX9_notes_16 : decode cX9_notes 16 = .ok (.if_icmp .ge 24, 3) := by decide +kernel
theorem dX9_notes_19 : decode cX9_notes 19 = .ok (.aload_n 0, 1) := by decide +kernel
theorem dX9_notes_20 : decode cX9_notes 20 = .ok (.getfield 23, 3) := by decide +kernel
theorem dX9_notes_23 : decode cX9_notes 23 = .ok (.iload_n 1, 1) := by decide +kernel
theorem dX9_notes_24 : decode cX9_notes 24 = .ok (.bipush 34, 2) := by decide +kernel
theorem dX9_notes_26 : decode cX9_notes 26 = .ok (.isub, 1) := by decide +kernel
theorem dX9_notes_27 : decode cX9_notes 27 = .ok (.aload_n 0, 1) := by decide +kernel
theorem dX9_notes_28 : decode cX9_notes 28 = .ok (.getfield 23, 3) := by decide +kernel
theorem dX9_notes_31 : decode cX9_notes 31 = .ok (.iload_n 1, 1) := by decide +kernel
theorem dX9_notes_32 : decode cX9_notes 32 = .ok (.iaload, 1) := by decide +kernel
theorem dX9_notes_33 : decode cX9_notes 33 = .ok (.iastore, 1) := by decide +kernel
theorem dX9_notes_34 : decode cX9_notes 34 = .ok (.iinc 1 1, 3) := by decide +kernel
theorem dX9_notes_37 : decode cX9_notes 37 = .ok (.goto (-25), 3) := by decide +kernel
theorem dX9_notes_40 : decode cX9_notes 40 = .ok (.aload_n 0, 1) := by decide +kernel
theorem dX9_notes_41 : decode cX9_notes 41 = .ok (.bipush 7, 2) := by decide +kernel
theorem dX9_notes_43 : decode cX9_notes 43 = .ok (.putfield 145, 3) := by decide +kernel
theorem dX9_notes_46 : decode cX9_notes 46 = .ok (.iconst 0, 1) := by decide +kernel
theorem dX9_notes_47 : decode cX9_notes 47 = .ok (.istore_n 1, 1) := by decide +kernel
theorem dX9_notes_48 : decode cX9_notes 48 = .ok (.iload_n 1, 1) := by decide +kernel
theorem dX9_notes_49 : decode cX9_notes 49 = .ok (.bipush 34, 2) := by decide +kernel
theorem dX9_notes_51 : decode cX9_notes 51 = .ok (.if_icmp .ge 29, 3) := by decide +kernel
theorem dX9_notes_54 : decode cX9_notes 54 = .ok (.aload_n 0, 1) := by decide +kernel
theorem dX9_notes_55 : decode cX9_notes 55 = .ok (.getfield 23, 3) := by decide +kernel
theorem dX9_notes_58 : decode cX9_notes 58 = .ok (.bipush 34, 2) := by decide +kernel
theorem dX9_notes_60 : decode cX9_notes 60 = .ok (.aload_n 0, 1) := by decide +kernel
theorem dX9_notes_61 : decode cX9_notes 61 = .ok (.getfield 145, 3) := by decide +kernel
theorem dX9_notes_64 : decode cX9_notes 64 = .ok (.imul, 1) := by decide +kernel
theorem dX9_notes_65 : decode cX9_notes 65 = .ok (.iload_n 1, 1) := by decide +kernel
theorem dX9_notes_66 : decode cX9_notes 66 = .ok (.iadd, 1) := by decide +kernel
theorem dX9_notes_67 : decode cX9_notes 67 = .ok (.aload_n 0, 1) := by decide +kernel
theorem dX9_notes_68 : decode cX9_notes 68 = .ok (.getfield 7, 3) := by decide +kernel
theorem dX9_notes_71 : decode cX9_notes 71 = .ok (.iload_n 1, 1) := by decide +kernel
theorem dX9_notes_72 : decode cX9_notes 72 = .ok (.iaload, 1) := by decide +kernel
theorem dX9_notes_73 : decode cX9_notes 73 = .ok (.iastore, 1) := by decide +kernel
theorem dX9_notes_74 : decode cX9_notes 74 = .ok (.iinc 1 1, 3) := by decide +kernel
theorem dX9_notes_77 : decode cX9_notes 77 = .ok (.goto (-29), 3) := by decide +kernel
theorem dX9_notes_80 : decode cX9_notes 80 = .ok (.aload_n 0, 1) := by decide +kernel
theorem dX9_notes_81 : decode cX9_notes 81 = .ok (.dup, 1) := by decide +kernel
theorem dX9_notes_82 : decode cX9_notes 82 = .ok (.getfield 145, 3) := by decide +kernel
theorem dX9_notes_85 : decode cX9_notes 85 = .ok (.iconst 1, 1) := by decide +kernel
theorem dX9_notes_86 : decode cX9_notes 86 = .ok (.iadd, 1) := by decide +kernel
theorem dX9_notes_87 : decode cX9_notes 87 = .ok (.putfield 145, 3) := by decide +kernel
theorem dX9_notes_90 : decode cX9_notes 90 = .ok (.return_, 1) := by decide +kernel
set_option maxRecDepth 20000 in
theorem ggX9_isSpot_X9_isMachine : GoodIn wsX9_isSpot wsX9_isMachine := goodIn_r _ [5, 6, 7, 4, 8] (by decide +kernel) (by decide +kernel)
set_option maxRecDepth 20000 in
theorem gX9_isSpot_X9_isMachine : GoodIn wsX9_isSpot (va_wsS RX9 135 yX9_isMachine wsX9_isMachine) := goodIn_app (goodIn_of _ (by decide +kernel)) ggX9_isSpot_X9_isMachine
set_option maxRecDepth 20000 in
theorem ggX9_isSpot_X9_isState : GoodIn wsX9_isSpot wsX9_isState := goodIn_r _ [12, 13, 14, 15, 4, 16, 17, 6, 7, 8, 18, 19, 20, 21, 22, 23, 24, 25, 26, 27, 28, 29, 30, 31, 32, 33, 34, 35, 36, 37, 38, 39, 40, 41, 42, 43, 44, 45, 46, 47, 48, 49, 50, 51, 52, 53] (by decide +kernel) (by decide +kernel)
set_option maxRecDepth 20000 in
theorem gX9_isSpot_X9_isState : GoodIn wsX9_isSpot (wsV RX9 148 RX9 yX9_isState wsX9_isState) := goodIn_app (goodIn_of _ (by decide +kernel)) ggX9_isSpot_X9_isState
set_option maxRecDepth 20000 in
theorem ggX9_isSpot_X9_in : GoodIn wsX9_isSpot wsX9_in := goodIn_r _ [8] (by decide +kernel) (by decide +kernel)
set_option maxRecDepth 20000 in
theorem gX9_isSpot_X9_in : GoodIn wsX9_isSpot (va_wsS RX9 87 yX9_in wsX9_in) := goodIn_app (goodIn_of _ (by decide +kernel)) ggX9_isSpot_X9_in
theorem dX9_isSpot_0 : decode cX9_isSpot 0 = .ok (.iload_n 1, 1) := by decide +kernel
theorem dX9_isSpot_1 : decode cX9_isSpot 1 = .ok (.invokestatic 135, 3) := by decide +kernel
theorem dX9_isSpot_4 : decode cX9_isSpot 4 = .ok (.ifCond .eq 28, 3) := by decide +kernel
theorem dX9_isSpot_7 : decode cX9_isSpot 7 = .ok (.aload_n 0, 1) := by decide +kernel
theorem dX9_isSpot_8 : decode cX9_isSpot 8 = .ok (.iload_n 1, 1) := by decide +kernel
theorem dX9_isSpot_9 : decode cX9_isSpot 9 = .ok (.iload_n 2, 1) := by decide +kernel
theorem dX9_isSpot_10 : decode cX9_isSpot 10 = .ok (.invokevirtual 148, 3) := by decide +kernel
theorem dX9_isSpot_13 : decode cX9_isSpot 13 = .ok (.ifCond .eq 19, 3) := by decide +kernel
theorem dX9_isSpot_16 : decode cX9_isSpot 16 = .ok (.iload_n 3, 1) := by decide +kernel
theorem dX9_isSpot_17 : decode cX9_isSpot 17 = .ok (.i2l, 1) := by decide +kernel
theorem dX9_isSpot_18 : decode cX9_isSpot 18 = .ok (.lconst 0, 1) := by decide +kernel
theorem dX9_isSpot_19 : decode cX9_isSpot 19 = .ok (.ldc2_w 151, 3) := by decide +kernel
theorem dX9_isSpot_22 : decode cX9_isSpot 22 = .ok (.invokestatic 87, 3) := by decide +kernel
theorem dX9_isSpot_25 : decode cX9_isSpot 25 = .ok (.ifCond .eq 7, 3) := by decide +kernel
theorem dX9_isSpot_28 : decode cX9_isSpot 28 = .ok (.iconst 1, 1) := by decide +kernel
theorem dX9_isSpot_29 : decode cX9_isSpot 29 = .ok (.goto 4, 3) := by decide +kernel
theorem dX9_isSpot_32 : decode cX9_isSpot 32 = .ok (.iconst 0, 1) := by decide +kernel
theorem dX9_isSpot_33 : decode cX9_isSpot 33 = .ok (.ireturn, 1) := by decide +kernel
set_option maxRecDepth 20000 in
theorem ggX9_move_X9_isSpot : GoodIn wsX9_move wsX9_isSpot := goodIn_r _ [8, 9, 10, 11, 7, 12, 13, 14, 15, 16, 17, 18, 19, 20, 21, 22, 23, 3, 34, 35, 36, 37, 38, 39, 40, 41, 42, 43, 44, 45, 46, 47, 48, 49, 50, 51, 52, 53, 54, 55, 56, 57, 58, 59, 60, 61, 62, 63, 64, 65, 66, 67, 68, 69] (by decide +kernel) (by decide +kernel)
set_option maxRecDepth 20000 in
theorem gX9_move_X9_isSpot : GoodIn wsX9_move (wsV RX9 153 RX9 yX9_isSpot wsX9_isSpot) := goodIn_app (goodIn_of _ (by decide +kernel)) ggX9_move_X9_isSpot
set_option maxRecDepth 20000 in
theorem ggX9_move_X9_isState : GoodIn wsX9_move wsX9_isState := goodIn_r _ [19, 20, 21, 22, 7, 23, 3, 13, 14, 15, 34, 35, 36, 37, 38, 39, 40, 41, 42, 43, 44, 45, 46, 47, 48, 49, 50, 51, 52, 53, 54, 55, 56, 57, 58, 59, 60, 61, 62, 63, 64, 65, 66, 67, 68, 69] (by decide +kernel) (by decide +kernel)
set_option maxRecDepth 20000 in
theorem gX9_move_X9_isState : GoodIn wsX9_move (wsV RX9 148 RX9 yX9_isState wsX9_isState) := goodIn_app (goodIn_of _ (by decide +kernel)) ggX9_move_X9_isState
set_option maxRecDepth 20000 in
theorem ggX9_move_X9_in : GoodIn wsX9_move wsX9_in := goodIn_r _ [15] (by decide +kernel) (by decide +kernel)
set_option maxRecDepth 20000 in
theorem gX9_move_X9_in : GoodIn wsX9_move (va_wsS RX9 87 yX9_in wsX9_in) := goodIn_app (goodIn_of _ (by decide +kernel)) ggX9_move_X9_in
set_option maxRecDepth 20000 in
theorem ggX9_move_X9_moveAt : GoodIn wsX9_move wsX9_moveAt := goodIn_r _ [27, 3, 34, 35, 36, 37, 38, 39, 40, 41, 42, 43, 44, 45, 46, 47, 48, 49, 50, 51, 52, 53, 54, 55, 56, 57, 58, 59, 60, 61, 62, 63, 64, 65, 66, 67, 68, 69] (by decide +kernel) (by decide +kernel)
set_option maxRecDepth 20000 in
theorem gX9_move_X9_moveAt : GoodIn wsX9_move (wsV RX9 157 RX9 yX9_moveAt wsX9_moveAt) := goodIn_app (goodIn_of _ (by decide +kernel)) ggX9_move_X9_moveAt
set_option maxRecDepth 20000 in
theorem ggX9_move_X9_notes : GoodIn wsX9_move wsX9_notes := goodIn_r _ [31, 32, 33, 3, 34, 35, 36, 37, 38, 39, 40, 41, 42, 43, 44, 45, 46, 47, 48, 49, 50, 51, 52, 53, 54, 55, 56, 57, 58, 59, 60, 61, 62, 63, 64, 65, 66, 67, 68, 69] (by decide +kernel) (by decide +kernel)
set_option maxRecDepth 20000 in
theorem gX9_move_X9_notes : GoodIn wsX9_move (wsV RX9 142 RX9 yX9_notes wsX9_notes) := goodIn_app (goodIn_of _ (by decide +kernel)) ggX9_move_X9_notes
theorem dX9_move_0 : decode cX9_move 0 = .ok (.aload_n 0, 1) := by decide +kernel
theorem dX9_move_1 : decode cX9_move 1 = .ok (.iload_n 1, 1) := by decide +kernel
theorem dX9_move_2 : decode cX9_move 2 = .ok (.iload_n 2, 1) := by decide +kernel
theorem dX9_move_3 : decode cX9_move 3 = .ok (.iload_n 3, 1) := by decide +kernel
theorem dX9_move_4 : decode cX9_move 4 = .ok (.invokevirtual 153, 3) := by decide +kernel
theorem dX9_move_7 : decode cX9_move 7 = .ok (.ifCond .eq 13, 3) := by decide +kernel
theorem dX9_move_10 : decode cX9_move 10 = .ok (.aload_n 0, 1) := by decide +kernel
theorem dX9_move_11 : decode cX9_move 11 = .ok (.iload_n 1, 1) := by decide +kernel
theorem dX9_move_12 : decode cX9_move 12 = .ok (.iload 4, 2) := by decide +kernel
theorem dX9_move_14 : decode cX9_move 14 = .ok (.invokevirtual 148, 3) := by decide +kernel
theorem dX9_move_17 : decode cX9_move 17 = .ok (.ifCond .ne 6, 3) := by decide +kernel
theorem dX9_move_20 : decode cX9_move 20 = .ok (.ldc 138, 2) := by decide +kernel
theorem dX9_move_22 : decode cX9_move 22 = .ok (.ireturn, 1) := by decide +kernel
theorem dX9_move_23 : decode cX9_move 23 = .ok (.iload 5, 2) := by decide +kernel
theorem dX9_move_25 : decode cX9_move 25 = .ok (.i2l, 1) := by decide +kernel
theorem dX9_move_26 : decode cX9_move 26 = .ok (.lconst 0, 1) := by decide +kernel
theorem dX9_move_27 : decode cX9_move 27 = .ok (.lconst 1, 1) := by decide +kernel
theorem dX9_move_28 : decode cX9_move 28 = .ok (.invokestatic 87, 3) := by decide +kernel
theorem dX9_move_31 : decode cX9_move 31 = .ok (.ifCond .ne 6, 3) := by decide +kernel
theorem dX9_move_34 : decode cX9_move 34 = .ok (.ldc 97, 2) := by decide +kernel
theorem dX9_move_36 : decode cX9_move 36 = .ok (.ireturn, 1) := by decide +kernel
theorem dX9_move_37 : decode cX9_move 37 = .ok (.aload_n 0, 1) := by decide +kernel
theorem dX9_move_38 : decode cX9_move 38 = .ok (.iload_n 1, 1) := by decide +kernel
theorem dX9_move_39 : decode cX9_move 39 = .ok (.iload_n 2, 1) := by decide +kernel
theorem dX9_move_40 : decode cX9_move 40 = .ok (.iload_n 3, 1) := by decide +kernel
theorem dX9_move_41 : decode cX9_move 41 = .ok (.invokevirtual 157, 3) := by decide +kernel
theorem dX9_move_44 : decode cX9_move 44 = .ok (.istore 6, 2) := by decide +kernel
theorem dX9_move_46 : decode cX9_move 46 = .ok (.aload_n 0, 1) := by decide +kernel
theorem dX9_move_47 : decode cX9_move 47 = .ok (.invokevirtual 142, 3) := by decide +kernel
theorem dX9_move_50 : decode cX9_move 50 = .ok (.aload_n 0, 1) := by decide +kernel
theorem dX9_move_51 : decode cX9_move 51 = .ok (.getfield 7, 3) := by decide +kernel
theorem dX9_move_54 : decode cX9_move 54 = .ok (.bipush 17, 2) := by decide +kernel
theorem dX9_move_56 : decode cX9_move 56 = .ok (.iload_n 1, 1) := by decide +kernel
theorem dX9_move_57 : decode cX9_move 57 = .ok (.imul, 1) := by decide +kernel
theorem dX9_move_58 : decode cX9_move 58 = .ok (.iconst 1, 1) := by decide +kernel
theorem dX9_move_59 : decode cX9_move 59 = .ok (.iadd, 1) := by decide +kernel
theorem dX9_move_60 : decode cX9_move 60 = .ok (.iconst 4, 1) := by decide +kernel
theorem dX9_move_61 : decode cX9_move 61 = .ok (.iload_n 2, 1) := by decide +kernel
theorem dX9_move_62 : decode cX9_move 62 = .ok (.imul, 1) := by decide +kernel
theorem dX9_move_63 : decode cX9_move 63 = .ok (.iadd, 1) := by decide +kernel
theorem dX9_move_64 : decode cX9_move 64 = .ok (.iload_n 3, 1) := by decide +kernel
theorem dX9_move_65 : decode cX9_move 65 = .ok (.iadd, 1) := by decide +kernel
theorem dX9_move_66 : decode cX9_move 66 = .ok (.iconst 2, 1) := by decide +kernel
theorem dX9_move_67 : decode cX9_move 67 = .ok (.iload 4, 2) := by decide +kernel
theorem dX9_move_69 : decode cX9_move 69 = .ok (.imul, 1) := by decide +kernel
theorem dX9_move_70 : decode cX9_move 70 = .ok (.iload 5, 2) := by decide +kernel
theorem dX9_move_72 : decode cX9_move 72 = .ok (.iadd, 1) := by decide +kernel
theorem dX9_move_73 : decode cX9_move 73 = .ok (.iastore, 1) := by decide +kernel
theorem dX9_move_74 : decode cX9_move 74 = .ok (.iload 6, 2) := by decide +kernel
theorem dX9_move_76 : decode cX9_move 76 = .ok (.ireturn, 1) := by decide +kernel
set_option maxRecDepth 20000 in
theorem ggX9_none_X9_isSpot : GoodIn wsX9_none wsX9_isSpot := goodIn_r _ [8, 9, 10, 11, 7, 12, 13, 14, 15, 16, 17, 18, 19, 20, 21, 22, 23, 3, 34, 35, 36, 37, 38, 39, 40, 41, 42, 43, 44, 45, 46, 47, 48, 49, 50, 51, 52, 53, 54, 55, 56, 57, 58, 59, 60, 61, 62, 63, 64, 65, 66, 67, 68, 69] (by decide +kernel) (by decide +kernel)
set_option maxRecDepth 20000 in
theorem gX9_none_X9_isSpot : GoodIn wsX9_none (wsV RX9 153 RX9 yX9_isSpot wsX9_isSpot) := goodIn_app (goodIn_of _ (by decide +kernel)) ggX9_none_X9_isSpot
set_option maxRecDepth 20000 in
theorem ggX9_none_X9_moveAt : GoodIn wsX9_none wsX9_moveAt := goodIn_r _ [27, 3, 34, 35, 36, 37, 38, 39, 40, 41, 42, 43, 44, 45, 46, 47, 48, 49, 50, 51, 52, 53, 54, 55, 56, 57, 58, 59, 60, 61, 62, 63, 64, 65, 66, 67, 68, 69] (by decide +kernel) (by decide +kernel)
set_option maxRecDepth 20000 in
theorem gX9_none_X9_moveAt : GoodIn wsX9_none (wsV RX9 157 RX9 yX9_moveAt wsX9_moveAt) := goodIn_app (goodIn_of _ (by decide +kernel)) ggX9_none_X9_moveAt
set_option maxRecDepth 20000 in
theorem ggX9_none_X9_notes : GoodIn wsX9_none wsX9_notes := goodIn_r _ [31, 32, 33, 3, 34, 35, 36, 37, 38, 39, 40, 41, 42, 43, 44, 45, 46, 47, 48, 49, 50, 51, 52, 53, 54, 55, 56, 57, 58, 59, 60, 61, 62, 63, 64, 65, 66, 67, 68, 69] (by decide +kernel) (by decide +kernel)
set_option maxRecDepth 20000 in
theorem gX9_none_X9_notes : GoodIn wsX9_none (wsV RX9 142 RX9 yX9_notes wsX9_notes) := goodIn_app (goodIn_of _ (by decide +kernel)) ggX9_none_X9_notes
theorem dX9_none_0 : decode cX9_none 0 = .ok (.aload_n 0, 1) := by decide +kernel
theorem dX9_none_1 : decode cX9_none 1 = .ok (.iload_n 1, 1) := by decide +kernel
theorem dX9_none_2 : decode cX9_none 2 = .ok (.iload_n 2, 1) := by decide +kernel
theorem dX9_none_3 : decode cX9_none 3 = .ok (.iload_n 3, 1) := by decide +kernel
theorem dX9_none_4 : decode cX9_none 4 = .ok (.invokevirtual 153, 3) := by decide +kernel
theorem dX9_none_7 : decode cX9_none 7 = .ok (.ifCond .ne 6, 3) := by decide +kernel
theorem dX9_none_10 : decode cX9_none 10 = .ok (.ldc 138, 2) := by decide +kernel
theorem dX9_none_12 : decode cX9_none 12 = .ok (.ireturn, 1) := by decide +kernel
theorem dX9_none_13 : decode cX9_none 13 = .ok (.aload_n 0, 1) := by decide +kernel
theorem dX9_none_14 : decode cX9_none 14 = .ok (.iload_n 1, 1) := by decide +kernel
theorem dX9_none_15 : decode cX9_none 15 = .ok (.iload_n 2, 1) := by decide +kernel
theorem dX9_none_16 : decode cX9_none 16 = .ok (.iload_n 3, 1) := by decide +kernel
theorem dX9_none_17 : decode cX9_none 17 = .ok (.invokevirtual 157, 3) := by decide +kernel
theorem dX9_none_20 : decode cX9_none 20 = .ok (.istore 4, 2) := by decide +kernel
theorem dX9_none_22 : decode cX9_none 22 = .ok (.iload 4, 2) := by decide +kernel
theorem dX9_none_24 : decode cX9_none 24 = .ok (.iconst (-1), 1) := by decide +kernel
theorem dX9_none_25 : decode cX9_none 25 = .ok (.if_icmp .ne 6, 3) := by decide +kernel
theorem dX9_none_28 : decode cX9_none 28 = .ok (.ldc 161, 2) := by decide +kernel
theorem dX9_none_30 : decode cX9_none 30 = .ok (.ireturn, 1) := by decide +kernel
theorem dX9_none_31 : decode cX9_none 31 = .ok (.aload_n 0, 1) := by decide +kernel
theorem dX9_none_32 : decode cX9_none 32 = .ok (.invokevirtual 142, 3) := by decide +kernel
theorem dX9_none_35 : decode cX9_none 35 = .ok (.aload_n 0, 1) := by decide +kernel
theorem dX9_none_36 : decode cX9_none 36 = .ok (.getfield 7, 3) := by decide +kernel
theorem dX9_none_39 : decode cX9_none 39 = .ok (.bipush 17, 2) := by decide +kernel
theorem dX9_none_41 : decode cX9_none 41 = .ok (.iload_n 1, 1) := by decide +kernel
theorem dX9_none_42 : decode cX9_none 42 = .ok (.imul, 1) := by decide +kernel
theorem dX9_none_43 : decode cX9_none 43 = .ok (.iconst 1, 1) := by decide +kernel
theorem dX9_none_44 : decode cX9_none 44 = .ok (.iadd, 1) := by decide +kernel
theorem dX9_none_45 : decode cX9_none 45 = .ok (.iconst 4, 1) := by decide +kernel
theorem dX9_none_46 : decode cX9_none 46 = .ok (.iload_n 2, 1) := by decide +kernel
theorem dX9_none_47 : decode cX9_none 47 = .ok (.imul, 1) := by decide +kernel
theorem dX9_none_48 : decode cX9_none 48 = .ok (.iadd, 1) := by decide +kernel
theorem dX9_none_49 : decode cX9_none 49 = .ok (.iload_n 3, 1) := by decide +kernel
theorem dX9_none_50 : decode cX9_none 50 = .ok (.iadd, 1) := by decide +kernel
theorem dX9_none_51 : decode cX9_none 51 = .ok (.iconst (-1), 1) := by decide +kernel
theorem dX9_none_52 : decode cX9_none 52 = .ok (.iastore, 1) := by decide +kernel
theorem dX9_none_53 : decode cX9_none 53 = .ok (.iload 4, 2) := by decide +kernel
theorem dX9_none_55 : decode cX9_none 55 = .ok (.ireturn, 1) := by decide +kernel
set_option maxRecDepth 20000 in
theorem ggX9_states_X9_isMachine : GoodIn wsX9_states wsX9_isMachine := goodIn_r _ [7, 8, 9, 6, 10] (by decide +kernel) (by decide +kernel)
set_option maxRecDepth 20000 in
theorem gX9_states_X9_isMachine : GoodIn wsX9_states (va_wsS RX9 135 yX9_isMachine wsX9_isMachine) := goodIn_app (goodIn_of _ (by decide +kernel)) ggX9_states_X9_isMachine
set_option maxRecDepth 20000 in
theorem ggX9_states_X9_in : GoodIn wsX9_states wsX9_in := goodIn_r _ [10] (by decide +kernel) (by decide +kernel)
set_option maxRecDepth 20000 in
theorem gX9_states_X9_in : GoodIn wsX9_states (va_wsS RX9 87 yX9_in wsX9_in) := goodIn_app (goodIn_of _ (by decide +kernel)) ggX9_states_X9_in
set_option maxRecDepth 20000 in
theorem ggX9_states_X9_notes : GoodIn wsX9_states wsX9_notes := goodIn_r _ [14, 15, 16, 17, 26, 27, 28, 29, 30, 31, 32, 33, 34, 35, 36, 37, 38, 39, 40, 41, 42, 43, 44, 45, 46, 47, 48, 49, 50, 51, 52, 53, 54, 55, 56, 57, 58, 59, 60, 61] (by decide +kernel) (by decide +kernel)
set_option maxRecDepth 20000 in
theorem gX9_states_X9_notes : GoodIn wsX9_states (wsV RX9 142 RX9 yX9_notes wsX9_notes) := goodIn_app (goodIn_of _ (by decide +kernel)) ggX9_states_X9_notes
set_option maxRecDepth 20000 in
theorem ggX9_states_X9_states0 : GoodIn wsX9_states wsX9_states0 := goodIn_r _ [21, 17, 26, 27, 28, 29, 30, 31, 32, 33, 34, 35, 36, 37, 38, 39, 40, 41, 42, 43, 44, 45, 46, 47, 48, 49, 50, 51, 52, 53, 54, 55, 56, 57, 58, 59, 60, 61] (by decide +kernel) (by decide +kernel)
set_option maxRecDepth 20000 in
theorem gX9_states_X9_states0 : GoodIn wsX9_states (wsV RX9 91 RX9 yX9_states0 wsX9_states0) := goodIn_app (goodIn_of _ (by decide +kernel)) ggX9_states_X9_states0
set_option maxRecDepth 20000 in
theorem ggX9_states_X9_wipes : GoodIn wsX9_states wsX9_wipes := goodIn_r _ [25, 17, 26, 27, 28, 29, 30, 31, 32, 33, 34, 35, 36, 37, 38, 39, 40, 41, 42, 43, 44, 45, 46, 47, 48, 49, 50, 51, 52, 53, 54, 55, 56, 57, 58, 59, 60, 61] (by decide +kernel) (by decide +kernel)
set_option maxRecDepth 20000 in
theorem gX9_states_X9_wipes : GoodIn wsX9_states (wsV RX9 83 RX9 yX9_wipes wsX9_wipes) := goodIn_app (goodIn_of _ (by decide +kernel)) ggX9_states_X9_wipes
theorem dX9_states_0 : decode cX9_states 0 = .ok (.iload_n 1, 1) := by decide +kernel
theorem dX9_states_1 : decode cX9_states 1 = .ok (.invokestatic 135, 3) := by decide +kernel
theorem dX9_states_4 : decode cX9_states 4 = .ok (.ifCond .ne 6, 3) := by decide +kernel
theorem dX9_states_7 : decode cX9_states 7 = .ok (.ldc 138, 2) := by decide +kernel
theorem dX9_states_9 : decode cX9_states 9 = .ok (.ireturn, 1) := by decide +kernel
theorem dX9_states_10 : decode cX9_states 10 = .ok (.iload_n 2, 1) := by decide +kernel
theorem dX9_states_11 : decode cX9_states 11 = .ok (.i2l, 1) := by decide +kernel
theorem dX9_states_12 : decode cX9_states 12 = .ok (.lconst 1, 1) := by decide +kernel
theorem dX9_states_13 : decode cX9_states 13 = .ok (.ldc2_w 162, 3) := by decide +kernel
theorem dX9_states_16 : decode cX9_states 16 = .ok (.invokestatic 87, 3) := by decide +kernel
theorem dX9_states_19 : decode cX9_states 19 = .ok (.ifCond .ne 6, 3) := by decide +kernel
theorem dX9_states_22 : decode cX9_states 22 = .ok (.ldc 97, 2) := by decide +kernel
theorem dX9_states_24 : decode cX9_states 24 = .ok (.ireturn, 1) := by decide +kernel
theorem dX9_states_25 : decode cX9_states 25 = .ok (.aload_n 0, 1) := by decide +kernel
theorem dX9_states_26 : decode cX9_states 26 = .ok (.invokevirtual 142, 3) := by decide +kernel
theorem dX9_states_29 : decode cX9_states 29 = .ok (.aload_n 0, 1) := by decide +kernel
theorem dX9_states_30 : decode cX9_states 30 = .ok (.iload_n 1, 1) := by decide +kernel
theorem dX9_states_31 : decode cX9_states 31 = .ok (.invokevirtual 91, 3) := by decide +kernel
theorem dX9_states_34 : decode cX9_states 34 = .ok (.istore_n 3, 1) := by decide +kernel
theorem dX9_states_35 : decode cX9_states 35 = .ok (.aload_n 0, 1) := by decide +kernel
theorem dX9_states_36 : decode cX9_states 36 = .ok (.iload_n 1, 1) := by decide +kernel
theorem dX9_states_37 : decode cX9_states 37 = .ok (.iload_n 2, 1) := by decide +kernel
theorem dX9_states_38 : decode cX9_states 38 = .ok (.invokevirtual 83, 3) := by decide +kernel
theorem dX9_states_41 : decode cX9_states 41 = .ok (.iload_n 3, 1) := by decide +kernel
theorem dX9_states_42 : decode cX9_states 42 = .ok (.ireturn, 1) := by decide +kernel
theorem dX9_lots_0 : decode cX9_lots 0 = .ok (.aload_n 0, 1) := by decide +kernel
theorem dX9_lots_1 : decode cX9_lots 1 = .ok (.aload_n 0, 1) := by decide +kernel
theorem dX9_lots_2 : decode cX9_lots 2 = .ok (.getfield 164, 3) := by decide +kernel
theorem dX9_lots_5 : decode cX9_lots 5 = .ok (.ldc2_w 168, 3) := by decide +kernel
theorem dX9_lots_8 : decode cX9_lots 8 = .ok (.lmul, 1) := by decide +kernel
theorem dX9_lots_9 : decode cX9_lots 9 = .ok (.ldc2_w 170, 3) := by decide +kernel
theorem dX9_lots_12 : decode cX9_lots 12 = .ok (.lrem, 1) := by decide +kernel
theorem dX9_lots_13 : decode cX9_lots 13 = .ok (.putfield 164, 3) := by decide +kernel
theorem dX9_lots_16 : decode cX9_lots 16 = .ok (.aload_n 0, 1) := by decide +kernel
theorem dX9_lots_17 : decode cX9_lots 17 = .ok (.getfield 164, 3) := by decide +kernel
theorem dX9_lots_20 : decode cX9_lots 20 = .ok (.iload_n 1, 1) := by decide +kernel
theorem dX9_lots_21 : decode cX9_lots 21 = .ok (.i2l, 1) := by decide +kernel
theorem dX9_lots_22 : decode cX9_lots 22 = .ok (.lrem, 1) := by decide +kernel
theorem dX9_lots_23 : decode cX9_lots 23 = .ok (.l2i, 1) := by decide +kernel
theorem dX9_lots_24 : decode cX9_lots 24 = .ok (.ireturn, 1) := by decide +kernel
theorem dX9_movesOf_0 : decode cX9_movesOf 0 = .ok (.iconst 0, 1) := by decide +kernel
theorem dX9_movesOf_1 : decode cX9_movesOf 1 = .ok (.istore_n 2, 1) := by decide +kernel
theorem dX9_movesOf_2 : decode cX9_movesOf 2 = .ok (.iconst 0, 1) := by decide +kernel
theorem dX9_movesOf_3 : decode cX9_movesOf 3 = .ok (.istore_n 3, 1) := by decide +kernel
theorem dX9_movesOf_4 : decode cX9_movesOf 4 = .ok (.iload_n 3, 1) := by decide +kernel
theorem dX9_movesOf_5 : decode cX9_movesOf 5 = .ok (.bipush 16, 2) := by decide +kernel
theorem dX9_movesOf_7 : decode cX9_movesOf 7 = .ok (.if_icmp .ge 34, 3) := by decide +kernel
theorem dX9_movesOf_10 : decode cX9_movesOf 10 = .ok (.iload_n 2, 1) := by decide +kernel
theorem dX9_movesOf_11 : decode cX9_movesOf 11 = .ok (.aload_n 0, 1) := by decide +kernel
theorem dX9_movesOf_12 : decode cX9_movesOf 12 = .ok (.getfield 7, 3) := by decide +kernel
theorem dX9_movesOf_15 : decode cX9_movesOf 15 = .ok (.bipush 17, 2) := by decide +kernel
theorem dX9_movesOf_17 : decode cX9_movesOf 17 = .ok (.iload_n 1, 1) := by decide +kernel
theorem dX9_movesOf_18 : decode cX9_movesOf 18 = .ok (.imul, 1) := by decide +kernel
theorem dX9_movesOf_19 : decode cX9_movesOf 19 = .ok (.iconst 1, 1) := by decide +kernel
theorem dX9_movesOf_20 : decode cX9_movesOf 20 = .ok (.iadd, 1) := by decide +kernel
theorem dX9_movesOf_21 : decode cX9_movesOf 21 = .ok (.iload_n 3, 1) := by decide +kernel
theorem dX9_movesOf_22 : decode cX9_movesOf 22 = .ok (.iadd, 1) := by decide +kernel
theorem dX9_movesOf_23 : decode cX9_movesOf 23 = .ok (.iaload, 1) := by decide +kernel
theorem dX9_movesOf_24 : decode cX9_movesOf 24 = .ok (.iconst (-1), 1) := by decide +kernel
theorem dX9_movesOf_25 : decode cX9_movesOf 25 = .ok (.if_icmp .ne 7, 3) := by decide +kernel
theorem dX9_movesOf_28 : decode cX9_movesOf 28 = .ok (.iconst 0, 1) := by decide +kernel
theorem dX9_movesOf_29 : decode cX9_movesOf 29 = .ok (.goto 4, 3) := by decide +kernel
theorem dX9_movesOf_32 : decode cX9_movesOf 32 = .ok (.iconst 1, 1) := by decide +kernel
theorem dX9_movesOf_33 : decode cX9_movesOf 33 = .ok (.iadd, 1) := by decide +kernel
theorem dX9_movesOf_34 : decode cX9_movesOf 34 = .ok (.istore_n 2, 1) := by decide +kernel
theorem dX9_movesOf_35 : decode cX9_movesOf 35 = .ok (.iinc 3 1, 3) := by decide +kernel
theorem dX9_movesOf_38 : decode cX9_movesOf 38 = .ok (.goto (-34), 3) := by decide +kernel
theorem dX9_movesOf_41 : decode cX9_movesOf 41 = .ok (.iload_n 2, 1) := by decide +kernel
theorem dX9_movesOf_42 : decode cX9_movesOf 42 = .ok (.ireturn, 1) := by decide +kernel
set_option maxRecDepth 20000 in
theorem ggX9_drift_X9_isMachine : GoodIn wsX9_drift wsX9_isMachine := goodIn_r _ [9, 10, 11, 8, 12] (by decide +kernel) (by decide +kernel)
set_option maxRecDepth 20000 in
theorem gX9_drift_X9_isMachine : GoodIn wsX9_drift (va_wsS RX9 135 yX9_isMachine wsX9_isMachine) := goodIn_app (goodIn_of _ (by decide +kernel)) ggX9_drift_X9_isMachine
set_option maxRecDepth 20000 in
theorem ggX9_drift_X9_in : GoodIn wsX9_drift wsX9_in := goodIn_r _ [12] (by decide +kernel) (by decide +kernel)
set_option maxRecDepth 20000 in
theorem gX9_drift_X9_in : GoodIn wsX9_drift (va_wsS RX9 87 yX9_in wsX9_in) := goodIn_app (goodIn_of _ (by decide +kernel)) ggX9_drift_X9_in
set_option maxRecDepth 20000 in
theorem ggX9_drift_X9_notes : GoodIn wsX9_drift wsX9_notes := goodIn_r _ [16, 17, 18, 5, 33, 34, 35, 36, 37, 38, 39, 40, 41, 42, 43, 44, 45, 46, 47, 48, 49, 50, 51, 52, 53, 54, 55, 56, 57, 58, 59, 60, 61, 62, 63, 64, 65, 66, 67, 68] (by decide +kernel) (by decide +kernel)
set_option maxRecDepth 20000 in
theorem gX9_drift_X9_notes : GoodIn wsX9_drift (wsV RX9 142 RX9 yX9_notes wsX9_notes) := goodIn_app (goodIn_of _ (by decide +kernel)) ggX9_drift_X9_notes
set_option maxRecDepth 20000 in
theorem ggX9_drift_X9_states0 : GoodIn wsX9_drift wsX9_states0 := goodIn_r _ [22, 5, 33, 34, 35, 36, 37, 38, 39, 40, 41, 42, 43, 44, 45, 46, 47, 48, 49, 50, 51, 52, 53, 54, 55, 56, 57, 58, 59, 60, 61, 62, 63, 64, 65, 66, 67, 68] (by decide +kernel) (by decide +kernel)
set_option maxRecDepth 20000 in
theorem gX9_drift_X9_states0 : GoodIn wsX9_drift (wsV RX9 91 RX9 yX9_states0 wsX9_states0) := goodIn_app (goodIn_of _ (by decide +kernel)) ggX9_drift_X9_states0
set_option maxRecDepth 20000 in
theorem ggX9_drift_X9_lots : GoodIn wsX9_drift wsX9_lots := goodIn_r _ [26, 4, 27, 28, 33, 34, 35, 36, 37, 38, 39, 40, 41, 42, 43, 44, 45, 46, 47, 48, 49, 50, 51, 52, 53, 54, 55, 56, 57, 58, 59, 60, 61, 62, 63, 64, 65, 66, 67, 68] (by decide +kernel) (by decide +kernel)
set_option maxRecDepth 20000 in
theorem gX9_drift_X9_lots : GoodIn wsX9_drift (wsV RX9 174 RX9 yX9_lots wsX9_lots) := goodIn_app (goodIn_of _ (by decide +kernel)) ggX9_drift_X9_lots
set_option maxRecDepth 20000 in
theorem ggX9_drift_X9_movesOf : GoodIn wsX9_drift wsX9_movesOf := goodIn_r _ [32, 5, 33, 34, 35, 36, 37, 38, 39, 40, 41, 42, 43, 44, 45, 46, 47, 48, 49, 50, 51, 52, 53, 54, 55, 56, 57, 58, 59, 60, 61, 62, 63, 64, 65, 66, 67, 68] (by decide +kernel) (by decide +kernel)
set_option maxRecDepth 20000 in
theorem gX9_drift_X9_movesOf : GoodIn wsX9_drift (wsV RX9 177 RX9 yX9_movesOf wsX9_movesOf) := goodIn_app (goodIn_of _ (by decide +kernel)) ggX9_drift_X9_movesOf
theorem dX9_drift_0 : decode cX9_drift 0 = .ok (.iload_n 1, 1) := by decide +kernel
theorem dX9_drift_1 : decode cX9_drift 1 = .ok (.invokestatic 135, 3) := by decide +kernel
theorem dX9_drift_4 : decode cX9_drift 4 = .ok (.ifCond .ne 6, 3) := by decide +kernel
theorem dX9_drift_7 : decode cX9_drift 7 = .ok (.ldc 138, 2) := by decide +kernel
theorem dX9_drift_9 : decode cX9_drift 9 = .ok (.ireturn, 1) := by decide +kernel
theorem dX9_drift_10 : decode cX9_drift 10 = .ok (.iload_n 2, 1) := by decide +kernel
theorem dX9_drift_11 : decode cX9_drift 11 = .ok (.i2l, 1) := by decide +kernel
theorem dX9_drift_12 : decode cX9_drift 12 = .ok (.lconst 1, 1) := by decide +kernel
theorem dX9_drift_13 : decode cX9_drift 13 = .ok (.ldc2_w 172, 3) := by decide +kernel
theorem dX9_drift_16 : decode cX9_drift 16 = .ok (.invokestatic 87, 3) := by decide +kernel
theorem dX9_drift_19 : decode cX9_drift 19 = .ok (.ifCond .ne 6, 3) := by decide +kernel
theorem dX9_drift_22 : decode cX9_drift 22 = .ok (.ldc 97, 2) := by decide +kernel
theorem dX9_drift_24 : decode cX9_drift 24 = .ok (.ireturn, 1) := by decide +kernel
theorem dX9_drift_25 : decode cX9_drift 25 = .ok (.aload_n 0, 1) := by decide +kernel
theorem dX9_drift_26 : decode cX9_drift 26 = .ok (.invokevirtual 142, 3) := by decide +kernel
theorem dX9_drift_29 : decode cX9_drift 29 = .ok (.aload_n 0, 1) := by decide +kernel
theorem dX9_drift_30 : decode cX9_drift 30 = .ok (.iload_n 2, 1) := by decide +kernel
theorem dX9_drift_31 : decode cX9_drift 31 = .ok (.i2l, 1) := by decide +kernel
theorem dX9_drift_32 : decode cX9_drift 32 = .ok (.putfield 164, 3) := by decide +kernel
theorem dX9_drift_35 : decode cX9_drift 35 = .ok (.aload_n 0, 1) := by decide +kernel
theorem dX9_drift_36 : decode cX9_drift 36 = .ok (.iload_n 1, 1) := by decide +kernel
theorem dX9_drift_37 : decode cX9_drift 37 = .ok (.invokevirtual 91, 3) := by decide +kernel
theorem dX9_drift_40 : decode cX9_drift 40 = .ok (.istore_n 3, 1) := by decide +kernel
theorem dX9_drift_41 : decode cX9_drift 41 = .ok (.iconst 0, 1) := by decide +kernel
theorem dX9_drift_42 : decode cX9_drift 42 = .ok (.istore 4, 2) := by decide +kernel
theorem dX9_drift_44 : decode cX9_drift 44 = .ok (.iload 4, 2) := by decide +kernel
theorem dX9_drift_46 : decode cX9_drift 46 = .ok (.iconst 4, 1) := by decide +kernel
theorem dX9_drift_47 : decode cX9_drift 47 = .ok (.iload_n 3, 1) := by decide +kernel
theorem dX9_drift_48 : decode cX9_drift 48 = .ok (.imul, 1) := by decide +kernel
theorem dX9_drift_49 : decode cX9_drift 49 = .ok (.if_icmp .ge 55, 3) := by decide +kernel
theorem dX9_drift_52 : decode cX9_drift 52 = .ok (.iconst (-1), 1) := by decide +kernel
theorem dX9_drift_53 : decode cX9_drift 53 = .ok (.istore 5, 2) := by decide +kernel
theorem dX9_drift_55 : decode cX9_drift 55 = .ok (.aload_n 0, 1) := by decide +kernel
theorem dX9_drift_56 : decode cX9_drift 56 = .ok (.iconst 5, 1) := by decide +kernel
theorem dX9_drift_57 : decode cX9_drift 57 = .ok (.invokevirtual 174, 3) := by decide +kernel
theorem dX9_drift_60 : decode cX9_drift 60 = .ok (.ifCond .eq 22, 3) := by decide +kernel
theorem dX9_drift_63 : decode cX9_drift 63 = .ok (.aload_n 0, 1) := by decide +kernel
theorem dX9_drift_64 : decode cX9_drift 64 = .ok (.iload_n 3, 1) := by decide +kernel
theorem dX9_drift_65 : decode cX9_drift 65 = .ok (.invokevirtual 174, 3) := by decide +kernel
theorem dX9_drift_68 : decode cX9_drift 68 = .ok (.istore 6, 2) := by decide +kernel
theorem dX9_drift_70 : decode cX9_drift 70 = .ok (.iconst 2, 1) := by decide +kernel
theorem dX9_drift_71 : decode cX9_drift 71 = .ok (.iload 6, 2) := by decide +kernel
theorem dX9_drift_73 : decode cX9_drift 73 = .ok (.imul, 1) := by decide +kernel
theorem dX9_drift_74 : decode cX9_drift 74 = .ok (.aload_n 0, 1) := by decide +kernel
theorem dX9_drift_75 : decode cX9_drift 75 = .ok (.iconst 2, 1) := by decide +kernel
theorem dX9_drift_76 : decode cX9_drift 76 = .ok (.invokevirtual 174, 3) := by decide +kernel
theorem dX9_drift_79 : decode cX9_drift 79 = .ok (.iadd, 1) := by decide +kernel
theorem dX9_drift_80 : decode cX9_drift 80 = .ok (.istore 5, 2) := by decide +kernel
theorem dX9_drift_82 : decode cX9_drift 82 = .ok (.aload_n 0, 1) := by decide +kernel
theorem dX9_drift_83 : decode cX9_drift 83 = .ok (.getfield 7, 3) := by decide +kernel
theorem dX9_drift_86 : decode cX9_drift 86 = .ok (.bipush 17, 2) := by decide +kernel
theorem dX9_drift_88 : decode cX9_drift 88 = .ok (.iload_n 1, 1) := by decide +kernel
theorem dX9_drift_89 : decode cX9_drift 89 = .ok (.imul, 1) := by decide +kernel
theorem dX9_drift_90 : decode cX9_drift 90 = .ok (.iconst 1, 1) := by decide +kernel
theorem dX9_drift_91 : decode cX9_drift 91 = .ok (.iadd, 1) := by decide +kernel
theorem dX9_drift_92 : decode cX9_drift 92 = .ok (.iload 4, 2) := by decide +kernel
theorem dX9_drift_94 : decode cX9_drift 94 = .ok (.iadd, 1) := by decide +kernel
theorem dX9_drift_95 : decode cX9_drift 95 = .ok (.iload 5, 2) := by decide +kernel
theorem dX9_drift_97 : decode cX9_drift 97 = .ok (.iastore, 1) := by decide +kernel
theorem dX9_drift_98 : decode cX9_drift 98 = .ok (.iinc 4 1, 3) := by decide +kernel
theorem dX9_drift_101 : decode cX9_drift 101 = .ok (.goto (-57), 3) := by decide +kernel
theorem dX9_drift_104 : decode cX9_drift 104 = .ok (.aload_n 0, 1) := by decide +kernel
theorem dX9_drift_105 : decode cX9_drift 105 = .ok (.iload_n 1, 1) := by decide +kernel
theorem dX9_drift_106 : decode cX9_drift 106 = .ok (.invokevirtual 177, 3) := by decide +kernel
theorem dX9_drift_109 : decode cX9_drift 109 = .ok (.ireturn, 1) := by decide +kernel
set_option maxRecDepth 20000 in
theorem ggX9_swap_X9_notes : GoodIn wsX9_swap wsX9_notes := goodIn_r _ [6, 7, 8, 1, 9, 10, 11, 12, 13, 14, 15, 16, 17, 18, 19, 20, 21, 22, 23, 24, 25, 26, 27, 28, 29, 30, 31, 32, 33, 34, 35, 36, 37, 38, 39, 40, 41, 42, 43, 44] (by decide +kernel) (by decide +kernel)
set_option maxRecDepth 20000 in
theorem gX9_swap_X9_notes : GoodIn wsX9_swap (wsV RX9 142 RX9 yX9_notes wsX9_notes) := goodIn_app (goodIn_of _ (by decide +kernel)) ggX9_swap_X9_notes
theorem dX9_swap_0 : decode cX9_swap 0 = .ok (.aload_n 0, 1) := by decide +kernel
theorem dX9_swap_1 : decode cX9_swap 1 = .ok (.invokevirtual 142, 3) := by decide +kernel
theorem dX9_swap_4 : decode cX9_swap 4 = .ok (.iconst 1, 1) := by decide +kernel
theorem dX9_swap_5 : decode cX9_swap 5 = .ok (.istore_n 1, 1) := by decide +kernel
theorem dX9_swap_6 : decode cX9_swap 6 = .ok (.iconst 0, 1) := by decide +kernel
theorem dX9_swap_7 : decode cX9_swap 7 = .ok (.istore_n 2, 1) := by decide +kernel
theorem dX9_swap_8 : decode cX9_swap 8 = .ok (.iload_n 2, 1) := by decide +kernel
theorem dX9_swap_9 : decode cX9_swap 9 = .ok (.bipush 17, 2) := by decide +kernel
theorem dX9_swap_11 : decode cX9_swap 11 = .ok (.if_icmp .ge 64, 3) := by decide +kernel
theorem dX9_swap_14 : decode cX9_swap 14 = .ok (.aload_n 0, 1) := by decide +kernel
theorem dX9_swap_15 : decode cX9_swap 15 = .ok (.getfield 7, 3) := by decide +kernel
theorem dX9_swap_18 : decode cX9_swap 18 = .ok (.iload_n 2, 1) := by decide +kernel
theorem dX9_swap_19 : decode cX9_swap 19 = .ok (.iaload, 1) := by decide +kernel
theorem dX9_swap_20 : decode cX9_swap 20 = .ok (.istore_n 3, 1) := by decide +kernel
theorem dX9_swap_21 : decode cX9_swap 21 = .ok (.iload_n 1, 1) := by decide +kernel
theorem dX9_swap_22 : decode cX9_swap 22 = .ok (.ifCond .eq 20, 3) := by decide +kernel
theorem dX9_swap_25 : decode cX9_swap 25 = .ok (.iload_n 3, 1) := by decide +kernel
theorem dX9_swap_26 : decode cX9_swap 26 = .ok (.aload_n 0, 1) := by decide +kernel
theorem dX9_swap_27 : decode cX9_swap 27 = .ok (.getfield 7, 3) := by decide +kernel
theorem dX9_swap_30 : decode cX9_swap 30 = .ok (.bipush 17, 2) := by decide +kernel
theorem dX9_swap_32 : decode cX9_swap 32 = .ok (.iload_n 2, 1) := by decide +kernel
theorem dX9_swap_33 : decode cX9_swap 33 = .ok (.iadd, 1) := by decide +kernel
theorem dX9_swap_34 : decode cX9_swap 34 = .ok (.iaload, 1) := by decide +kernel
theorem dX9_swap_35 : decode cX9_swap 35 = .ok (.if_icmp .ne 7, 3) := by decide +kernel
theorem dX9_swap_38 : decode cX9_swap 38 = .ok (.iconst 1, 1) := by decide +kernel
theorem dX9_swap_39 : decode cX9_swap 39 = .ok (.goto 4, 3) := by decide +kernel
theorem dX9_swap_42 : decode cX9_swap 42 = .ok (.iconst 0, 1) := by decide +kernel
theorem dX9_swap_43 : decode cX9_swap 43 = .ok (.istore_n 1, 1) := by decide +kernel
theorem dX9_swap_44 : decode cX9_swap 44 = .ok (.aload_n 0, 1) := by decide +kernel
theorem dX9_swap_45 : decode cX9_swap 45 = .ok (.getfield 7, 3) := by decide +kernel
theorem dX9_swap_48 : decode cX9_swap 48 = .ok (.iload_n 2, 1) := by decide +kernel
theorem dX9_swap_49 : decode cX9_swap 49 = .ok (.aload_n 0, 1) := by decide +kernel
theorem dX9_swap_50 : decode cX9_swap 50 = .ok (.getfield 7, 3) := by decide +kernel
theorem dX9_swap_53 : decode cX9_swap 53 = .ok (.bipush 17, 2) := by decide +kernel
theorem dX9_swap_55 : decode cX9_swap 55 = .ok (.iload_n 2, 1) := by decide +kernel
theorem dX9_swap_56 : decode cX9_swap 56 = .ok (.iadd, 1) := by decide +kernel
theorem dX9_swap_57 : decode cX9_swap 57 = .ok (.iaload, 1) := by decide +kernel
theorem dX9_swap_58 : decode cX9_swap 58 = .ok (.iastore, 1) := by decide +kernel
theorem dX9_swap_59 : decode cX9_swap 59 = .ok (.aload_n 0, 1) := by decide +kernel
theorem dX9_swap_60 : decode cX9_swap 60 = .ok (.getfield 7, 3) := by decide +kernel
theorem dX9_swap_63 : decode cX9_swap 63 = .ok (.bipush 17, 2) := by decide +kernel
theorem dX9_swap_65 : decode cX9_swap 65 = .ok (.iload_n 2, 1) := by decide +kernel
theorem dX9_swap_66 : decode cX9_swap 66 = .ok (.iadd, 1) := by decide +kernel
theorem dX9_swap_67 : decode cX9_swap 67 = .ok (.iload_n 3, 1) := by decide +kernel
theorem dX9_swap_68 : decode cX9_swap 68 = .ok (.iastore, 1) := by decide +kernel
theorem dX9_swap_69 : decode cX9_swap 69 = .ok (.iinc 2 1, 3) := by decide +kernel
theorem dX9_swap_72 : decode cX9_swap 72 = .ok (.goto (-64), 3) := by decide +kernel
theorem dX9_swap_75 : decode cX9_swap 75 = .ok (.iload_n 1, 1) := by decide +kernel
theorem dX9_swap_76 : decode cX9_swap 76 = .ok (.ifCond .eq 7, 3) := by decide +kernel
theorem dX9_swap_79 : decode cX9_swap 79 = .ok (.iconst 0, 1) := by decide +kernel
theorem dX9_swap_80 : decode cX9_swap 80 = .ok (.goto 4, 3) := by decide +kernel
theorem dX9_swap_83 : decode cX9_swap 83 = .ok (.iconst 1, 1) := by decide +kernel
theorem dX9_swap_84 : decode cX9_swap 84 = .ok (.ireturn, 1) := by decide +kernel
theorem dX9_undo_0 : decode cX9_undo 0 = .ok (.aload_n 0, 1) := by decide +kernel
theorem dX9_undo_1 : decode cX9_undo 1 = .ok (.getfield 145, 3) := by decide +kernel
theorem dX9_undo_4 : decode cX9_undo 4 = .ok (.ifCond .ne 6, 3) := by decide +kernel
theorem dX9_undo_7 : decode cX9_undo 7 = .ok (.ldc 161, 2) := by decide +kernel
theorem dX9_undo_9 : decode cX9_undo 9 = .ok (.ireturn, 1) := by decide +kernel
theorem dX9_undo_10 : decode cX9_undo 10 = .ok (.aload_n 0, 1) := by decide +kernel
theorem dX9_undo_11 : decode cX9_undo 11 = .ok (.dup, 1) := by decide +kernel
theorem dX9_undo_12 : decode cX9_undo 12 = .ok (.getfield 145, 3) := by decide +kernel
theorem dX9_undo_15 : decode cX9_undo 15 = .ok (.iconst 1, 1) := by decide +kernel
theorem dX9_undo_16 : decode cX9_undo 16 = .ok (.isub, 1) := by decide +kernel
theorem dX9_undo_17 : decode cX9_undo 17 = .ok (.putfield 145, 3) := by decide +kernel
theorem dX9_undo_20 : decode cX9_undo 20 = .ok (.iconst 0, 1) := by decide +kernel
theorem dX9_undo_21 : decode cX9_undo 21 = .ok (.istore_n 1, 1) := by decide +kernel
theorem dX9_undo_22 : decode cX9_undo 22 = .ok (.iload_n 1, 1) := by decide +kernel
theorem dX9_undo_23 : decode cX9_undo 23 = .ok (.bipush 34, 2) := by decide +kernel
theorem dX9_undo_25 : decode cX9_undo 25 = .ok (.if_icmp .ge 29, 3) := by decide +kernel
theorem dX9_undo_28 : decode cX9_undo 28 = .ok (.aload_n 0, 1) := by decide +kernel
theorem dX9_undo_29 : decode cX9_undo 29 = .ok (.getfield 7, 3) := by decide +kernel
theorem dX9_undo_32 : decode cX9_undo 32 = .ok (.iload_n 1, 1) := by decide +kernel
theorem dX9_undo_33 : decode cX9_undo 33 = .ok (.aload_n 0, 1) := by decide +kernel
theorem dX9_undo_34 : decode cX9_undo 34 = .ok (.getfield 23, 3) := by decide +kernel
theorem dX9_undo_37 : decode cX9_undo 37 = .ok (.bipush 34, 2) := by decide +kernel
theorem dX9_undo_39 : decode cX9_undo 39 = .ok (.aload_n 0, 1) := by decide +kernel
theorem dX9_undo_40 : decode cX9_undo 40 = .ok (.getfield 145, 3) := by decide +kernel
theorem dX9_undo_43 : decode cX9_undo 43 = .ok (.imul, 1) := by decide +kernel
theorem dX9_undo_44 : decode cX9_undo 44 = .ok (.iload_n 1, 1) := by decide +kernel
theorem dX9_undo_45 : decode cX9_undo 45 = .ok (.iadd, 1) := by decide +kernel
theorem dX9_undo_46 : decode cX9_undo 46 = .ok (.iaload, 1) := by decide +kernel
theorem dX9_undo_47 : decode cX9_undo 47 = .ok (.iastore, 1) := by decide +kernel
theorem dX9_undo_48 : decode cX9_undo 48 = .ok (.iinc 1 1, 3) := by decide +kernel
theorem dX9_undo_51 : decode cX9_undo 51 = .ok (.goto (-29), 3) := by decide +kernel
theorem dX9_undo_54 : decode cX9_undo 54 = .ok (.aload_n 0, 1) := by decide +kernel
theorem dX9_undo_55 : decode cX9_undo 55 = .ok (.getfield 145, 3) := by decide +kernel
theorem dX9_undo_58 : decode cX9_undo 58 = .ok (.ireturn, 1) := by decide +kernel
set_option maxRecDepth 20000 in
theorem ggX9_moveOf_X9_isSpot : GoodIn wsX9_moveOf wsX9_isSpot := goodIn_r _ [6, 7, 8, 9, 5, 10, 11, 12, 13, 14, 15, 16, 17, 18, 19, 20, 21, 22, 27, 28, 29, 30, 31, 32, 33, 34, 35, 36, 37, 38, 39, 40, 41, 42, 43, 44, 45, 46, 47, 48, 49, 50, 51, 52, 53, 54, 55, 56, 57, 58, 59, 60, 61, 62] (by decide +kernel) (by decide +kernel)
set_option maxRecDepth 20000 in
theorem gX9_moveOf_X9_isSpot : GoodIn wsX9_moveOf (wsV RX9 153 RX9 yX9_isSpot wsX9_isSpot) := goodIn_app (goodIn_of _ (by decide +kernel)) ggX9_moveOf_X9_isSpot
set_option maxRecDepth 20000 in
theorem ggX9_moveOf_X9_moveAt : GoodIn wsX9_moveOf wsX9_moveAt := goodIn_r _ [26, 22, 27, 28, 29, 30, 31, 32, 33, 34, 35, 36, 37, 38, 39, 40, 41, 42, 43, 44, 45, 46, 47, 48, 49, 50, 51, 52, 53, 54, 55, 56, 57, 58, 59, 60, 61, 62] (by decide +kernel) (by decide +kernel)
set_option maxRecDepth 20000 in
theorem gX9_moveOf_X9_moveAt : GoodIn wsX9_moveOf (wsV RX9 157 RX9 yX9_moveAt wsX9_moveAt) := goodIn_app (goodIn_of _ (by decide +kernel)) ggX9_moveOf_X9_moveAt
theorem dX9_moveOf_0 : decode cX9_moveOf 0 = .ok (.aload_n 0, 1) := by decide +kernel
theorem dX9_moveOf_1 : decode cX9_moveOf 1 = .ok (.iload_n 1, 1) := by decide +kernel
theorem dX9_moveOf_2 : decode cX9_moveOf 2 = .ok (.iload_n 2, 1) := by decide +kernel
theorem dX9_moveOf_3 : decode cX9_moveOf 3 = .ok (.iload_n 3, 1) := by decide +kernel
theorem dX9_moveOf_4 : decode cX9_moveOf 4 = .ok (.invokevirtual 153, 3) := by decide +kernel
theorem dX9_moveOf_7 : decode cX9_moveOf 7 = .ok (.ifCond .eq 13, 3) := by decide +kernel
theorem dX9_moveOf_10 : decode cX9_moveOf 10 = .ok (.aload_n 0, 1) := by decide +kernel
theorem dX9_moveOf_11 : decode cX9_moveOf 11 = .ok (.iload_n 1, 1) := by decide +kernel
theorem dX9_moveOf_12 : decode cX9_moveOf 12 = .ok (.iload_n 2, 1) := by decide +kernel
theorem dX9_moveOf_13 : decode cX9_moveOf 13 = .ok (.iload_n 3, 1) := by decide +kernel
theorem dX9_moveOf_14 : decode cX9_moveOf 14 = .ok (.invokevirtual 157, 3) := by decide +kernel
theorem dX9_moveOf_17 : decode cX9_moveOf 17 = .ok (.goto 5, 3) := by decide +kernel
theorem dX9_moveOf_20 : decode cX9_moveOf 20 = .ok (.ldc 138, 2) := by decide +kernel
theorem dX9_moveOf_22 : decode cX9_moveOf 22 = .ok (.ireturn, 1) := by decide +kernel
set_option maxRecDepth 20000 in
theorem ggX9_letter_X9_in : GoodIn wsX9_letter wsX9_in := goodIn_r _ [10] (by decide +kernel) (by decide +kernel)
set_option maxRecDepth 20000 in
theorem gX9_letter_X9_in : GoodIn wsX9_letter (va_wsS RX9 87 yX9_in wsX9_in) := goodIn_app (goodIn_of _ (by decide +kernel)) ggX9_letter_X9_in
theorem dX9_letter_0 : decode cX9_letter 0 = .ok (.iload_n 1, 1) := by decide +kernel
theorem dX9_letter_1 : decode cX9_letter 1 = .ok (.i2l, 1) := by decide +kernel
theorem dX9_letter_2 : decode cX9_letter 2 = .ok (.ldc2_w 180, 3) := by decide +kernel
theorem dX9_letter_5 : decode cX9_letter 5 = .ok (.ldc2_w 182, 3) := by decide +kernel
theorem dX9_letter_8 : decode cX9_letter 8 = .ok (.invokestatic 87, 3) := by decide +kernel
theorem dX9_letter_11 : decode cX9_letter 11 = .ok (.ifCond .ne 6, 3) := by decide +kernel
theorem dX9_letter_14 : decode cX9_letter 14 = .ok (.ldc 97, 2) := by decide +kernel
theorem dX9_letter_16 : decode cX9_letter 16 = .ok (.ireturn, 1) := by decide +kernel
theorem dX9_letter_17 : decode cX9_letter 17 = .ok (.aload_n 0, 1) := by decide +kernel
theorem dX9_letter_18 : decode cX9_letter 18 = .ok (.getfield 184, 3) := by decide +kernel
theorem dX9_letter_21 : decode cX9_letter 21 = .ok (.bipush 24, 2) := by decide +kernel
theorem dX9_letter_23 : decode cX9_letter 23 = .ok (.if_icmp .ne 6, 3) := by decide +kernel
theorem dX9_letter_26 : decode cX9_letter 26 = .ok (.ldc 101, 2) := by decide +kernel
theorem dX9_letter_28 : decode cX9_letter 28 = .ok (.ireturn, 1) := by decide +kernel
theorem dX9_letter_29 : decode cX9_letter 29 = .ok (.aload_n 0, 1) := by decide +kernel
theorem dX9_letter_30 : decode cX9_letter 30 = .ok (.getfield 26, 3) := by decide +kernel
theorem dX9_letter_33 : decode cX9_letter 33 = .ok (.aload_n 0, 1) := by decide +kernel
theorem dX9_letter_34 : decode cX9_letter 34 = .ok (.getfield 184, 3) := by decide +kernel
theorem dX9_letter_37 : decode cX9_letter 37 = .ok (.iload_n 1, 1) := by decide +kernel
theorem dX9_letter_38 : decode cX9_letter 38 = .ok (.bipush 97, 2) := by decide +kernel
theorem dX9_letter_40 : decode cX9_letter 40 = .ok (.isub, 1) := by decide +kernel
theorem dX9_letter_41 : decode cX9_letter 41 = .ok (.iastore, 1) := by decide +kernel
theorem dX9_letter_42 : decode cX9_letter 42 = .ok (.aload_n 0, 1) := by decide +kernel
theorem dX9_letter_43 : decode cX9_letter 43 = .ok (.dup, 1) := by decide +kernel
theorem dX9_letter_44 : decode cX9_letter 44 = .ok (.getfield 184, 3) := by decide +kernel
theorem dX9_letter_47 : decode cX9_letter 47 = .ok (.iconst 1, 1) := by decide +kernel
theorem dX9_letter_48 : decode cX9_letter 48 = .ok (.iadd, 1) := by decide +kernel
theorem dX9_letter_49 : decode cX9_letter 49 = .ok (.putfield 184, 3) := by decide +kernel
theorem dX9_letter_52 : decode cX9_letter 52 = .ok (.aload_n 0, 1) := by decide +kernel
theorem dX9_letter_53 : decode cX9_letter 53 = .ok (.getfield 184, 3) := by decide +kernel
theorem dX9_letter_56 : decode cX9_letter 56 = .ok (.ireturn, 1) := by decide +kernel
set_option maxRecDepth 20000 in
theorem ggX9_word_X9_in : GoodIn wsX9_word wsX9_in := goodIn_r _ [8] (by decide +kernel) (by decide +kernel)
set_option maxRecDepth 20000 in
theorem gX9_word_X9_in : GoodIn wsX9_word (va_wsS RX9 87 yX9_in wsX9_in) := goodIn_app (goodIn_of _ (by decide +kernel)) ggX9_word_X9_in
theorem dX9_word_0 : decode cX9_word 0 = .ok (.iload_n 1, 1) := by decide +kernel
theorem dX9_word_1 : decode cX9_word 1 = .ok (.i2l, 1) := by decide +kernel
theorem dX9_word_2 : decode cX9_word 2 = .ok (.lconst 1, 1) := by decide +kernel
theorem dX9_word_3 : decode cX9_word 3 = .ok (.ldc2_w 187, 3) := by decide +kernel
theorem dX9_word_6 : decode cX9_word 6 = .ok (.invokestatic 87, 3) := by decide +kernel
theorem dX9_word_9 : decode cX9_word 9 = .ok (.ifCond .ne 6, 3) := by decide +kernel
theorem dX9_word_12 : decode cX9_word 12 = .ok (.ldc 97, 2) := by decide +kernel
theorem dX9_word_14 : decode cX9_word 14 = .ok (.ireturn, 1) := by decide +kernel
theorem dX9_word_15 : decode cX9_word 15 = .ok (.iconst 0, 1) := by decide +kernel
theorem dX9_word_16 : decode cX9_word 16 = .ok (.istore_n 2, 1) := by decide +kernel
theorem dX9_word_17 : decode cX9_word 17 = .ok (.iload_n 1, 1) := by decide +kernel
theorem dX9_word_18 : decode cX9_word 18 = .ok (.iload_n 2, 1) := by decide +kernel
theorem dX9_word_19 : decode cX9_word 19 = .ok (.ishr, 1) := by decide +kernel
theorem dX9_word_20 : decode cX9_word 20 = .ok (.iconst 1, 1) := by decide +kernel
theorem dX9_word_21 : decode cX9_word 21 = .ok (.if_icmp .le 9, 3) := by decide +kernel
theorem dX9_word_24 : decode cX9_word 24 = .ok (.iinc 2 1, 3) := by decide +kernel
theorem dX9_word_27 : decode cX9_word 27 = .ok (.goto (-10), 3) := by decide +kernel
theorem dX9_word_30 : decode cX9_word 30 = .ok (.aload_n 0, 1) := by decide +kernel
theorem dX9_word_31 : decode cX9_word 31 = .ok (.iload_n 2, 1) := by decide +kernel
theorem dX9_word_32 : decode cX9_word 32 = .ok (.putfield 184, 3) := by decide +kernel
theorem dX9_word_35 : decode cX9_word 35 = .ok (.iconst 0, 1) := by decide +kernel
theorem dX9_word_36 : decode cX9_word 36 = .ok (.istore_n 3, 1) := by decide +kernel
theorem dX9_word_37 : decode cX9_word 37 = .ok (.iload_n 3, 1) := by decide +kernel
theorem dX9_word_38 : decode cX9_word 38 = .ok (.iload_n 2, 1) := by decide +kernel
theorem dX9_word_39 : decode cX9_word 39 = .ok (.if_icmp .ge 24, 3) := by decide +kernel
theorem dX9_word_42 : decode cX9_word 42 = .ok (.aload_n 0, 1) := by decide +kernel
theorem dX9_word_43 : decode cX9_word 43 = .ok (.getfield 26, 3) := by decide +kernel
theorem dX9_word_46 : decode cX9_word 46 = .ok (.iload_n 3, 1) := by decide +kernel
theorem dX9_word_47 : decode cX9_word 47 = .ok (.iload_n 1, 1) := by decide +kernel
theorem dX9_word_48 : decode cX9_word 48 = .ok (.iload_n 2, 1) := by decide +kernel
theorem dX9_word_49 : decode cX9_word 49 = .ok (.iconst 1, 1) := by decide +kernel
theorem dX9_word_50 : decode cX9_word 50 = .ok (.isub, 1) := by decide +kernel
theorem dX9_word_51 : decode cX9_word 51 = .ok (.iload_n 3, 1) := by decide +kernel
theorem dX9_word_52 : decode cX9_word 52 = .ok (.isub, 1) := by decide +kernel
theorem dX9_word_53 : decode cX9_word 53 = .ok (.ishr, 1) := by decide +kernel
theorem dX9_word_54 : decode cX9_word 54 = .ok (.iconst 1, 1) := by decide +kernel
theorem dX9_word_55 : decode cX9_word 55 = .ok (.iand, 1) := by decide +kernel
theorem dX9_word_56 : decode cX9_word 56 = .ok (.iastore, 1) := by decide +kernel
theorem dX9_word_57 : decode cX9_word 57 = .ok (.iinc 3 1, 3) := by decide +kernel
theorem dX9_word_60 : decode cX9_word 60 = .ok (.goto (-23), 3) := by decide +kernel
theorem dX9_word_63 : decode cX9_word 63 = .ok (.iload_n 2, 1) := by decide +kernel
theorem dX9_word_64 : decode cX9_word 64 = .ok (.ireturn, 1) := by decide +kernel
theorem dX9_wipe_0 : decode cX9_wipe 0 = .ok (.aload_n 0, 1) := by decide +kernel
theorem dX9_wipe_1 : decode cX9_wipe 1 = .ok (.getfield 184, 3) := by decide +kernel
theorem dX9_wipe_4 : decode cX9_wipe 4 = .ok (.istore_n 1, 1) := by decide +kernel
theorem dX9_wipe_5 : decode cX9_wipe 5 = .ok (.aload_n 0, 1) := by decide +kernel
theorem dX9_wipe_6 : decode cX9_wipe 6 = .ok (.iconst 0, 1) := by decide +kernel
theorem dX9_wipe_7 : decode cX9_wipe 7 = .ok (.putfield 184, 3) := by decide +kernel
theorem dX9_wipe_10 : decode cX9_wipe 10 = .ok (.iload_n 1, 1) := by decide +kernel
theorem dX9_wipe_11 : decode cX9_wipe 11 = .ok (.ireturn, 1) := by decide +kernel
theorem dX9_numberOf_0 : decode cX9_numberOf 0 = .ok (.iconst 1, 1) := by decide +kernel
theorem dX9_numberOf_1 : decode cX9_numberOf 1 = .ok (.istore_n 1, 1) := by decide +kernel
theorem dX9_numberOf_2 : decode cX9_numberOf 2 = .ok (.iconst 0, 1) := by decide +kernel
theorem dX9_numberOf_3 : decode cX9_numberOf 3 = .ok (.istore_n 2, 1) := by decide +kernel
theorem dX9_numberOf_4 : decode cX9_numberOf 4 = .ok (.iload_n 2, 1) := by decide +kernel
theorem dX9_numberOf_5 : decode cX9_numberOf 5 = .ok (.aload_n 0, 1) := by decide +kernel
theorem dX9_numberOf_6 : decode cX9_numberOf 6 = .ok (.getfield 184, 3) := by decide +kernel
theorem dX9_numberOf_9 : decode cX9_numberOf 9 = .ok (.if_icmp .ge 20, 3) := by decide +kernel
theorem dX9_numberOf_12 : decode cX9_numberOf 12 = .ok (.iconst 2, 1) := by decide +kernel
theorem dX9_numberOf_13 : decode cX9_numberOf 13 = .ok (.iload_n 1, 1) := by decide +kernel
theorem dX9_numberOf_14 : decode cX9_numberOf 14 = .ok (.imul, 1) := by decide +kernel
theorem dX9_numberOf_15 : decode cX9_numberOf 15 = .ok (.aload_n 0, 1) := by decide +kernel
theorem dX9_numberOf_16 : decode cX9_numberOf 16 = .ok (.getfield 26, 3) := by decide +kernel
theorem dX9_numberOf_19 : decode cX9_numberOf 19 = .ok (.iload_n 2, 1) := by decide +kernel
theorem dX9_numberOf_20 : decode cX9_numberOf 20 = .ok (.iaload, 1) := by decide +kernel
theorem dX9_numberOf_21 : decode cX9_numberOf 21 = .ok (.iadd, 1) := by decide +kernel
theorem dX9_numberOf_22 : decode cX9_numberOf 22 = .ok (.istore_n 1, 1) := by decide +kernel
theorem dX9_numberOf_23 : decode cX9_numberOf 23 = .ok (.iinc 2 1, 3) := by decide +kernel
theorem dX9_numberOf_26 : decode cX9_numberOf 26 = .ok (.goto (-22), 3) := by decide +kernel
theorem dX9_numberOf_29 : decode cX9_numberOf 29 = .ok (.iload_n 1, 1) := by decide +kernel
theorem dX9_numberOf_30 : decode cX9_numberOf 30 = .ok (.ireturn, 1) := by decide +kernel
set_option maxRecDepth 20000 in
theorem ggX9_told_X9_numberOf : GoodIn wsX9_told wsX9_numberOf := goodIn_r _ [10, 1, 11, 77, 78, 79, 80, 81, 82, 83, 84, 85, 86, 87, 88, 89, 90, 91, 92, 93, 94, 95, 96, 97, 98, 99, 100, 101, 102, 103, 104, 105, 106, 107, 108, 109, 110, 111, 112] (by decide +kernel) (by decide +kernel)
set_option maxRecDepth 20000 in
theorem gX9_told_X9_numberOf : GoodIn wsX9_told (wsV RX9 189 RX9 yX9_numberOf wsX9_numberOf) := goodIn_app (goodIn_of _ (by decide +kernel)) ggX9_told_X9_numberOf
set_option maxRecDepth 20000 in
theorem ggX9_told_X9_laysBoth : GoodIn wsX9_told wsX9_laysBoth := goodIn_r _ [15, 16, 17, 18, 9, 19, 20, 21, 22, 23, 24, 25, 26, 27, 28, 29, 30, 31, 32, 33, 34, 35, 36, 37, 38, 39, 40, 41, 42, 43, 44, 45, 46, 47, 48, 49, 50, 51, 52, 53, 54, 55, 56, 57, 58, 59, 60, 61, 77, 78, 79, 80, 81, 82, 83, 84, 85, 86, 87, 88, 89, 90, 91, 92, 93, 94, 95, 96, 97, 98, 99, 100, 101, 102, 103, 104, 105, 106, 107, 108, 109, 110, 111, 112] (by decide +kernel) (by decide +kernel)
set_option maxRecDepth 20000 in
theorem gX9_told_X9_laysBoth : GoodIn wsX9_told (wsV RX9 192 RX9 yX9_laysBoth wsX9_laysBoth) := goodIn_app (goodIn_of _ (by decide +kernel)) ggX9_told_X9_laysBoth
set_option maxRecDepth 20000 in
theorem ggX9_told_X9_firstBy : GoodIn wsX9_told wsX9_firstBy := goodIn_r _ [65, 66, 67, 68, 24, 23, 54, 55, 56, 9, 57, 69, 70, 71, 72, 73, 74, 75, 76, 77, 78, 79, 80, 81, 82, 83, 84, 85, 86, 87, 88, 89, 90, 91, 92, 93, 94, 95, 96, 97, 98, 99, 100, 101, 102, 103, 104, 105, 106, 107, 108, 109, 110, 111, 112] (by decide +kernel) (by decide +kernel)
set_option maxRecDepth 20000 in
theorem gX9_told_X9_firstBy : GoodIn wsX9_told (wsV RX9 195 RX9 yX9_firstBy wsX9_firstBy) := goodIn_app (goodIn_of _ (by decide +kernel)) ggX9_told_X9_firstBy
theorem dX9_told_0 : decode cX9_told 0 = .ok (.iload_n 1, 1) := by decide +kernel
theorem dX9_told_1 : decode cX9_told 1 = .ok (.tableswitch 82 0 4 #[35, 40, 45, 50, 55], 35) := by decide +kernel
theorem dX9_told_36 : decode cX9_told 36 = .ok (.aload_n 0, 1) := by decide +kernel
theorem dX9_told_37 : decode cX9_told 37 = .ok (.getfield 184, 3) := by decide +kernel
theorem dX9_told_40 : decode cX9_told 40 = .ok (.ireturn, 1) := by decide +kernel
theorem dX9_told_41 : decode cX9_told 41 = .ok (.aload_n 0, 1) := by decide +kernel
theorem dX9_told_42 : decode cX9_told 42 = .ok (.invokevirtual 189, 3) := by decide +kernel
theorem dX9_told_45 : decode cX9_told 45 = .ok (.ireturn, 1) := by decide +kernel
theorem dX9_told_46 : decode cX9_told 46 = .ok (.aload_n 0, 1) := by decide +kernel
theorem dX9_told_47 : decode cX9_told 47 = .ok (.getfield 98, 3) := by decide +kernel
theorem dX9_told_50 : decode cX9_told 50 = .ok (.ireturn, 1) := by decide +kernel
theorem dX9_told_51 : decode cX9_told 51 = .ok (.aload_n 0, 1) := by decide +kernel
theorem dX9_told_52 : decode cX9_told 52 = .ok (.getfield 145, 3) := by decide +kernel
theorem dX9_told_55 : decode cX9_told 55 = .ok (.ireturn, 1) := by decide +kernel
theorem dX9_told_56 : decode cX9_told 56 = .ok (.aload_n 0, 1) := by decide +kernel
theorem dX9_told_57 : decode cX9_told 57 = .ok (.invokevirtual 192, 3) := by decide +kernel
theorem dX9_told_60 : decode cX9_told 60 = .ok (.ifCond .eq 20, 3) := by decide +kernel
theorem dX9_told_63 : decode cX9_told 63 = .ok (.aload_n 0, 1) := by decide +kernel
theorem dX9_told_64 : decode cX9_told 64 = .ok (.iconst 3, 1) := by decide +kernel
theorem dX9_told_65 : decode cX9_told 65 = .ok (.invokevirtual 195, 3) := by decide +kernel
theorem dX9_told_68 : decode cX9_told 68 = .ok (.iconst (-1), 1) := by decide +kernel
theorem dX9_told_69 : decode cX9_told 69 = .ok (.if_icmp .ne 7, 3) := by decide +kernel
theorem dX9_told_72 : decode cX9_told 72 = .ok (.iconst 1, 1) := by decide +kernel
theorem dX9_told_73 : decode cX9_told 73 = .ok (.goto 9, 3) := by decide +kernel
theorem dX9_told_76 : decode cX9_told 76 = .ok (.iconst 0, 1) := by decide +kernel
theorem dX9_told_77 : decode cX9_told 77 = .ok (.goto 5, 3) := by decide +kernel
theorem dX9_told_80 : decode cX9_told 80 = .ok (.ldc 101, 2) := by decide +kernel
theorem dX9_told_82 : decode cX9_told 82 = .ok (.ireturn, 1) := by decide +kernel
theorem dX9_told_83 : decode cX9_told 83 = .ok (.ldc 97, 2) := by decide +kernel
theorem dX9_told_85 : decode cX9_told 85 = .ok (.ireturn, 1) := by decide +kernel
theorem dX9_signAt_0 : decode cX9_signAt 0 = .ok (.iload_n 1, 1) := by decide +kernel
theorem dX9_signAt_1 : decode cX9_signAt 1 = .ok (.ifCond .ne 7, 3) := by decide +kernel
theorem dX9_signAt_4 : decode cX9_signAt 4 = .ok (.iconst 2, 1) := by decide +kernel
theorem dX9_signAt_5 : decode cX9_signAt 5 = .ok (.goto 25, 3) := by decide +kernel
theorem dX9_signAt_8 : decode cX9_signAt 8 = .ok (.iload_n 1, 1) := by decide +kernel
theorem dX9_signAt_9 : decode cX9_signAt 9 = .ok (.aload_n 0, 1) := by decide +kernel
theorem dX9_signAt_10 : decode cX9_signAt 10 = .ok (.getfield 184, 3) := by decide +kernel
theorem dX9_signAt_13 : decode cX9_signAt 13 = .ok (.iconst 1, 1) := by decide +kernel
theorem dX9_signAt_14 : decode cX9_signAt 14 = .ok (.iadd, 1) := by decide +kernel
theorem dX9_signAt_15 : decode cX9_signAt 15 = .ok (.if_icmp .ne 7, 3) := by decide +kernel
theorem dX9_signAt_18 : decode cX9_signAt 18 = .ok (.iconst 3, 1) := by decide +kernel
theorem dX9_signAt_19 : decode cX9_signAt 19 = .ok (.goto 11, 3) := by decide +kernel
theorem dX9_signAt_22 : decode cX9_signAt 22 = .ok (.aload_n 0, 1) := by decide +kernel
theorem dX9_signAt_23 : decode cX9_signAt 23 = .ok (.getfield 26, 3) := by decide +kernel
theorem dX9_signAt_26 : decode cX9_signAt 26 = .ok (.iload_n 1, 1) := by decide +kernel
theorem dX9_signAt_27 : decode cX9_signAt 27 = .ok (.iconst 1, 1) := by decide +kernel
theorem dX9_signAt_28 : decode cX9_signAt 28 = .ok (.isub, 1) := by decide +kernel
theorem dX9_signAt_29 : decode cX9_signAt 29 = .ok (.iaload, 1) := by decide +kernel
theorem dX9_signAt_30 : decode cX9_signAt 30 = .ok (.ireturn, 1) := by decide +kernel
set_option maxRecDepth 20000 in
theorem ggX9_runs_X9_signAt : GoodIn wsX9_runs wsX9_signAt := goodIn_r _ [13, 6, 14, 20, 21, 22, 23, 24, 25, 26, 27, 28, 29, 30, 31, 32, 33, 34, 35, 36, 37, 38, 39, 40, 41, 42, 43, 44, 45, 46, 47, 48, 49, 50, 51, 52, 53, 54, 55] (by decide +kernel) (by decide +kernel)
set_option maxRecDepth 20000 in
theorem gX9_runs_X9_signAt : GoodIn wsX9_runs (wsV RX9 210 RX9 yX9_signAt wsX9_signAt) := goodIn_app (goodIn_of _ (by decide +kernel)) ggX9_runs_X9_signAt
set_option maxRecDepth 20000 in
theorem ggX9_runs_X9_moveAt : GoodIn wsX9_runs wsX9_moveAt := goodIn_r _ [18, 19, 20, 21, 22, 23, 24, 25, 26, 27, 28, 29, 30, 31, 32, 33, 34, 35, 36, 37, 38, 39, 40, 41, 42, 43, 44, 45, 46, 47, 48, 49, 50, 51, 52, 53, 54, 55] (by decide +kernel) (by decide +kernel)
set_option maxRecDepth 20000 in
theorem gX9_runs_X9_moveAt : GoodIn wsX9_runs (wsV RX9 157 RX9 yX9_moveAt wsX9_moveAt) := goodIn_app (goodIn_of _ (by decide +kernel)) ggX9_runs_X9_moveAt
theorem dX9_runs_0 : decode cX9_runs 0 = .ok (.iconst 0, 1) := by decide +kernel
theorem dX9_runs_1 : decode cX9_runs 1 = .ok (.istore_n 2, 1) := by decide +kernel
theorem dX9_runs_2 : decode cX9_runs 2 = .ok (.iload_n 2, 1) := by decide +kernel
theorem dX9_runs_3 : decode cX9_runs 3 = .ok (.bipush 26, 2) := by decide +kernel
theorem dX9_runs_5 : decode cX9_runs 5 = .ok (.if_icmp .ge 16, 3) := by decide +kernel
theorem dX9_runs_8 : decode cX9_runs 8 = .ok (.aload_n 0, 1) := by decide +kernel
theorem dX9_runs_9 : decode cX9_runs 9 = .ok (.getfield 29, 3) := by decide +kernel
theorem dX9_runs_12 : decode cX9_runs 12 = .ok (.iload_n 2, 1) := by decide +kernel
theorem dX9_runs_13 : decode cX9_runs 13 = .ok (.iconst 0, 1) := by decide +kernel
theorem dX9_runs_14 : decode cX9_runs 14 = .ok (.iastore, 1) := by decide +kernel
theorem dX9_runs_15 : decode cX9_runs 15 = .ok (.iinc 2 1, 3) := by decide +kernel
theorem dX9_runs_18 : decode cX9_runs 18 = .ok (.goto (-16), 3) := by decide +kernel
theorem dX9_runs_21 : decode cX9_runs 21 = .ok (.aload_n 0, 1) := by decide +kernel
theorem dX9_runs_22 : decode cX9_runs 22 = .ok (.iconst 0, 1) := by decide +kernel
theorem dX9_runs_23 : decode cX9_runs 23 = .ok (.putfield 198, 3) := by decide +kernel
theorem dX9_runs_26 : decode cX9_runs 26 = .ok (.aload_n 0, 1) := by decide +kernel
theorem dX9_runs_27 : decode cX9_runs 27 = .ok (.iconst 0, 1) := by decide +kernel
theorem dX9_runs_28 : decode cX9_runs 28 = .ok (.putfield 201, 3) := by decide +kernel
theorem dX9_runs_31 : decode cX9_runs 31 = .ok (.aload_n 0, 1) := by decide +kernel
theorem dX9_runs_32 : decode cX9_runs 32 = .ok (.iconst 0, 1) := by decide +kernel
theorem dX9_runs_33 : decode cX9_runs 33 = .ok (.putfield 204, 3) := by decide +kernel
theorem dX9_runs_36 : decode cX9_runs 36 = .ok (.aload_n 0, 1) := by decide +kernel
theorem dX9_runs_37 : decode cX9_runs 37 = .ok (.iconst (-1), 1) := by decide +kernel
theorem dX9_runs_38 : decode cX9_runs 38 = .ok (.putfield 207, 3) := by decide +kernel
theorem dX9_runs_41 : decode cX9_runs 41 = .ok (.iconst 0, 1) := by decide +kernel
theorem dX9_runs_42 : decode cX9_runs 42 = .ok (.istore_n 2, 1) := by decide +kernel
theorem dX9_runs_43 : decode cX9_runs 43 = .ok (.aload_n 0, 1) := by decide +kernel
theorem dX9_runs_44 : decode cX9_runs 44 = .ok (.getfield 29, 3) := by decide +kernel
theorem dX9_runs_47 : decode cX9_runs 47 = .ok (.iconst 0, 1) := by decide +kernel
theorem dX9_runs_48 : decode cX9_runs 48 = .ok (.iconst 1, 1) := by decide +kernel
theorem dX9_runs_49 : decode cX9_runs 49 = .ok (.iastore, 1) := by decide +kernel
theorem dX9_runs_50 : decode cX9_runs 50 = .ok (.aload_n 0, 1) := by decide +kernel
theorem dX9_runs_51 : decode cX9_runs 51 = .ok (.getfield 207, 3) := by decide +kernel
theorem dX9_runs_54 : decode cX9_runs 54 = .ok (.iconst (-1), 1) := by decide +kernel
theorem dX9_runs_55 : decode cX9_runs 55 = .ok (.if_icmp .ne 194, 3) := by decide +kernel
theorem dX9_runs_58 : decode cX9_runs 58 = .ok (.aload_n 0, 1) := by decide +kernel
theorem dX9_runs_59 : decode cX9_runs 59 = .ok (.iload_n 1, 1) := by decide +kernel
theorem dX9_runs_60 : decode cX9_runs 60 = .ok (.aload_n 0, 1) := by decide +kernel
theorem dX9_runs_61 : decode cX9_runs 61 = .ok (.getfield 204, 3) := by decide +kernel
theorem dX9_runs_64 : decode cX9_runs 64 = .ok (.aload_n 0, 1) := by decide +kernel
theorem dX9_runs_65 : decode cX9_runs 65 = .ok (.iload_n 2, 1) := by decide +kernel
theorem dX9_runs_66 : decode cX9_runs 66 = .ok (.invokevirtual 210, 3) := by decide +kernel
theorem dX9_runs_69 : decode cX9_runs 69 = .ok (.invokevirtual 157, 3) := by decide +kernel
theorem dX9_runs_72 : decode cX9_runs 72 = .ok (.istore_n 3, 1) := by decide +kernel
theorem dX9_runs_73 : decode cX9_runs 73 = .ok (.iload_n 3, 1) := by decide +kernel
theorem dX9_runs_74 : decode cX9_runs 74 = .ok (.iconst (-1), 1) := by decide +kernel
theorem dX9_runs_75 : decode cX9_runs 75 = .ok (.if_icmp .ne 11, 3) := by decide +kernel
theorem dX9_runs_78 : decode cX9_runs 78 = .ok (.aload_n 0, 1) := by decide +kernel
theorem dX9_runs_79 : decode cX9_runs 79 = .ok (.iconst 1, 1) := by decide +kernel
theorem dX9_runs_80 : decode cX9_runs 80 = .ok (.putfield 207, 3) := by decide +kernel
theorem dX9_runs_83 : decode cX9_runs 83 = .ok (.goto 163, 3) := by decide +kernel
theorem dX9_runs_86 : decode cX9_runs 86 = .ok (.iload_n 2, 1) := by decide +kernel
theorem dX9_runs_87 : decode cX9_runs 87 = .ok (.iload_n 3, 1) := by decide +kernel
theorem dX9_runs_88 : decode cX9_runs 88 = .ok (.iconst 2, 1) := by decide +kernel
theorem dX9_runs_89 : decode cX9_runs 89 = .ok (.irem, 1) := by decide +kernel
theorem dX9_runs_90 : decode cX9_runs 90 = .ok (.iconst 1, 1) := by decide +kernel
theorem dX9_runs_91 : decode cX9_runs 91 = .ok (.if_icmp .ne 7, 3) := by decide +kernel
theorem dX9_runs_94 : decode cX9_runs 94 = .ok (.iconst 1, 1) := by decide +kernel
theorem dX9_runs_95 : decode cX9_runs 95 = .ok (.goto 4, 3) := by decide +kernel
theorem dX9_runs_98 : decode cX9_runs 98 = .ok (.iconst (-1), 1) := by decide +kernel
theorem dX9_runs_99 : decode cX9_runs 99 = .ok (.iadd, 1) := by decide +kernel
theorem dX9_runs_100 : decode cX9_runs 100 = .ok (.istore 4, 2) := by decide +kernel
theorem dX9_runs_102 : decode cX9_runs 102 = .ok (.aload_n 0, 1) := by decide +kernel
theorem dX9_runs_103 : decode cX9_runs 103 = .ok (.iload_n 3, 1) := by decide +kernel
theorem dX9_runs_104 : decode cX9_runs 104 = .ok (.iconst 2, 1) := by decide +kernel
theorem dX9_runs_105 : decode cX9_runs 105 = .ok (.idiv, 1) := by decide +kernel
theorem dX9_runs_106 : decode cX9_runs 106 = .ok (.putfield 204, 3) := by decide +kernel
theorem dX9_runs_109 : decode cX9_runs 109 = .ok (.aload_n 0, 1) := by decide +kernel
theorem dX9_runs_110 : decode cX9_runs 110 = .ok (.dup, 1) := by decide +kernel
theorem dX9_runs_111 : decode cX9_runs 111 = .ok (.getfield 198, 3) := by decide +kernel
theorem dX9_runs_114 : decode cX9_runs 114 = .ok (.iconst 1, 1) := by decide +kernel
theorem dX9_runs_115 : decode cX9_runs 115 = .ok (.iadd, 1) := by decide +kernel
theorem dX9_runs_116 : decode cX9_runs 116 = .ok (.putfield 198, 3) := by decide +kernel
theorem dX9_runs_119 : decode cX9_runs 119 = .ok (.aload_n 0, 1) := by decide +kernel
theorem dX9_runs_120 : decode cX9_runs 120 = .ok (.iload 4, 2) := by decide +kernel
theorem dX9_runs_122 : decode cX9_runs 122 = .ok (.ifCond .ge 7, 3) := by decide +kernel
theorem dX9_runs_125 : decode cX9_runs 125 = .ok (.iconst 2, 1) := by decide +kernel
theorem dX9_runs_126 : decode cX9_runs 126 = .ok (.goto 19, 3) := by decide +kernel
theorem dX9_runs_129 : decode cX9_runs 129 = .ok (.iload 4, 2) := by decide +kernel
theorem dX9_runs_131 : decode cX9_runs 131 = .ok (.aload_n 0, 1) := by decide +kernel
theorem dX9_runs_132 : decode cX9_runs 132 = .ok (.getfield 184, 3) := by decide +kernel
theorem dX9_runs_135 : decode cX9_runs 135 = .ok (.iconst 1, 1) := by decide +kernel
theorem dX9_runs_136 : decode cX9_runs 136 = .ok (.iadd, 1) := by decide +kernel
theorem dX9_runs_137 : decode cX9_runs 137 = .ok (.if_icmp .le 7, 3) := by decide +kernel
theorem dX9_runs_140 : decode cX9_runs 140 = .ok (.iconst 0, 1) := by decide +kernel
theorem dX9_runs_141 : decode cX9_runs 141 = .ok (.goto 4, 3) := by decide +kernel
theorem dX9_runs_144 : decode cX9_runs 144 = .ok (.iconst (-1), 1) := by decide +kernel
theorem dX9_runs_145 : decode cX9_runs 145 = .ok (.putfield 207, 3) := by decide +kernel
theorem dX9_runs_148 : decode cX9_runs 148 = .ok (.aload_n 0, 1) := by decide +kernel
theorem dX9_runs_149 : decode cX9_runs 149 = .ok (.getfield 207, 3) := by decide +kernel
theorem dX9_runs_152 : decode cX9_runs 152 = .ok (.iconst (-1), 1) := by decide +kernel
theorem dX9_runs_153 : decode cX9_runs 153 = .ok (.if_icmp .ne 93, 3) := by decide +kernel
theorem dX9_runs_156 : decode cX9_runs 156 = .ok (.aload_n 0, 1) := by decide +kernel
theorem dX9_runs_157 : decode cX9_runs 157 = .ok (.getfield 32, 3) := by decide +kernel
theorem dX9_runs_160 : decode cX9_runs 160 = .ok (.aload_n 0, 1) := by decide +kernel
theorem dX9_runs_161 : decode cX9_runs 161 = .ok (.getfield 201, 3) := by decide +kernel
theorem dX9_runs_164 : decode cX9_runs 164 = .ok (.iload_n 2, 1) := by decide +kernel
theorem dX9_runs_165 : decode cX9_runs 165 = .ok (.iload 4, 2) := by decide +kernel
theorem dX9_runs_167 : decode cX9_runs 167 = .ok (.if_icmp .ge 7, 3) := by decide +kernel
theorem dX9_runs_170 : decode cX9_runs 170 = .ok (.iload_n 2, 1) := by decide +kernel
theorem dX9_runs_171 : decode cX9_runs 171 = .ok (.goto 5, 3) := by decide +kernel
theorem dX9_runs_174 : decode cX9_runs 174 = .ok (.iload 4, 2) := by decide +kernel
theorem dX9_runs_176 : decode cX9_runs 176 = .ok (.iastore, 1) := by decide +kernel
theorem dX9_runs_177 : decode cX9_runs 177 = .ok (.aload_n 0, 1) := by decide +kernel
theorem dX9_runs_178 : decode cX9_runs 178 = .ok (.getfield 35, 3) := by decide +kernel
theorem dX9_runs_181 : decode cX9_runs 181 = .ok (.aload_n 0, 1) := by decide +kernel
theorem dX9_runs_182 : decode cX9_runs 182 = .ok (.getfield 201, 3) := by decide +kernel
theorem dX9_runs_185 : decode cX9_runs 185 = .ok (.aload_n 0, 1) := by decide +kernel
theorem dX9_runs_186 : decode cX9_runs 186 = .ok (.getfield 204, 3) := by decide +kernel
theorem dX9_runs_189 : decode cX9_runs 189 = .ok (.iastore, 1) := by decide +kernel
theorem dX9_runs_190 : decode cX9_runs 190 = .ok (.aload_n 0, 1) := by decide +kernel
theorem dX9_runs_191 : decode cX9_runs 191 = .ok (.dup, 1) := by decide +kernel
theorem dX9_runs_192 : decode cX9_runs 192 = .ok (.getfield 201, 3) := by decide +kernel
theorem dX9_runs_195 : decode cX9_runs 195 = .ok (.iconst 1, 1) := by decide +kernel
theorem dX9_runs_196 : decode cX9_runs 196 = .ok (.iadd, 1) := by decide +kernel
theorem dX9_runs_197 : decode cX9_runs 197 = .ok (.putfield 201, 3) := by decide +kernel
theorem dX9_runs_200 : decode cX9_runs 200 = .ok (.aload_n 0, 1) := by decide +kernel
theorem dX9_runs_201 : decode cX9_runs 201 = .ok (.aload_n 0, 1) := by decide +kernel
theorem dX9_runs_202 : decode cX9_runs 202 = .ok (.getfield 29, 3) := by decide +kernel
theorem dX9_runs_205 : decode cX9_runs 205 = .ok (.iload 4, 2) := by decide +kernel
theorem dX9_runs_207 : decode cX9_runs 207 = .ok (.iaload, 1) := by decide +kernel
theorem dX9_runs_208 : decode cX9_runs 208 = .ok (.aload_n 0, 1) := by decide +kernel
theorem dX9_runs_209 : decode cX9_runs 209 = .ok (.getfield 204, 3) := by decide +kernel
theorem dX9_runs_212 : decode cX9_runs 212 = .ok (.ishr, 1) := by decide +kernel
theorem dX9_runs_213 : decode cX9_runs 213 = .ok (.iconst 1, 1) := by decide +kernel
theorem dX9_runs_214 : decode cX9_runs 214 = .ok (.iand, 1) := by decide +kernel
theorem dX9_runs_215 : decode cX9_runs 215 = .ok (.iconst 1, 1) := by decide +kernel
theorem dX9_runs_216 : decode cX9_runs 216 = .ok (.if_icmp .ne 7, 3) := by decide +kernel
theorem dX9_runs_219 : decode cX9_runs 219 = .ok (.iconst 3, 1) := by decide +kernel
theorem dX9_runs_220 : decode cX9_runs 220 = .ok (.goto 4, 3) := by decide +kernel
theorem dX9_runs_223 : decode cX9_runs 223 = .ok (.iconst (-1), 1) := by decide +kernel
theorem dX9_runs_224 : decode cX9_runs 224 = .ok (.putfield 207, 3) := by decide +kernel
theorem dX9_runs_227 : decode cX9_runs 227 = .ok (.aload_n 0, 1) := by decide +kernel
theorem dX9_runs_228 : decode cX9_runs 228 = .ok (.getfield 29, 3) := by decide +kernel
theorem dX9_runs_231 : decode cX9_runs 231 = .ok (.iload 4, 2) := by decide +kernel
theorem dX9_runs_233 : decode cX9_runs 233 = .ok (.dup2, 1) := by decide +kernel
theorem dX9_runs_234 : decode cX9_runs 234 = .ok (.iaload, 1) := by decide +kernel
theorem dX9_runs_235 : decode cX9_runs 235 = .ok (.iconst 1, 1) := by decide +kernel
theorem dX9_runs_236 : decode cX9_runs 236 = .ok (.aload_n 0, 1) := by decide +kernel
theorem dX9_runs_237 : decode cX9_runs 237 = .ok (.getfield 204, 3) := by decide +kernel
theorem dX9_runs_240 : decode cX9_runs 240 = .ok (.ishl, 1) := by decide +kernel
theorem dX9_runs_241 : decode cX9_runs 241 = .ok (.ior, 1) := by decide +kernel
theorem dX9_runs_242 : decode cX9_runs 242 = .ok (.iastore, 1) := by decide +kernel
theorem dX9_runs_243 : decode cX9_runs 243 = .ok (.iload 4, 2) := by decide +kernel
theorem dX9_runs_245 : decode cX9_runs 245 = .ok (.istore_n 2, 1) := by decide +kernel
theorem dX9_runs_246 : decode cX9_runs 246 = .ok (.goto (-196), 3) := by decide +kernel
theorem dX9_runs_249 : decode cX9_runs 249 = .ok (.return_, 1) := by decide +kernel
theorem dX9_oftenOver_0 : decode cX9_oftenOver 0 = .ok (.iconst 0, 1) := by decide +kernel
theorem dX9_oftenOver_1 : decode cX9_oftenOver 1 = .ok (.istore_n 2, 1) := by decide +kernel
theorem dX9_oftenOver_2 : decode cX9_oftenOver 2 = .ok (.iconst 0, 1) := by decide +kernel
theorem dX9_oftenOver_3 : decode cX9_oftenOver 3 = .ok (.istore_n 3, 1) := by decide +kernel
theorem dX9_oftenOver_4 : decode cX9_oftenOver 4 = .ok (.iload_n 3, 1) := by decide +kernel
theorem dX9_oftenOver_5 : decode cX9_oftenOver 5 = .ok (.aload_n 0, 1) := by decide +kernel
theorem dX9_oftenOver_6 : decode cX9_oftenOver 6 = .ok (.getfield 201, 3) := by decide +kernel
theorem dX9_oftenOver_9 : decode cX9_oftenOver 9 = .ok (.if_icmp .ge 27, 3) := by decide +kernel
theorem dX9_oftenOver_12 : decode cX9_oftenOver 12 = .ok (.iload_n 2, 1) := by decide +kernel
theorem dX9_oftenOver_13 : decode cX9_oftenOver 13 = .ok (.aload_n 0, 1) := by decide +kernel
theorem dX9_oftenOver_14 : decode cX9_oftenOver 14 = .ok (.getfield 32, 3) := by decide +kernel
theorem dX9_oftenOver_17 : decode cX9_oftenOver 17 = .ok (.iload_n 3, 1) := by decide +kernel
theorem dX9_oftenOver_18 : decode cX9_oftenOver 18 = .ok (.iaload, 1) := by decide +kernel
theorem dX9_oftenOver_19 : decode cX9_oftenOver 19 = .ok (.iload_n 1, 1) := by decide +kernel
theorem dX9_oftenOver_20 : decode cX9_oftenOver 20 = .ok (.if_icmp .ne 7, 3) := by decide +kernel
theorem dX9_oftenOver_23 : decode cX9_oftenOver 23 = .ok (.iconst 1, 1) := by decide +kernel
theorem dX9_oftenOver_24 : decode cX9_oftenOver 24 = .ok (.goto 4, 3) := by decide +kernel
theorem dX9_oftenOver_27 : decode cX9_oftenOver 27 = .ok (.iconst 0, 1) := by decide +kernel
theorem dX9_oftenOver_28 : decode cX9_oftenOver 28 = .ok (.iadd, 1) := by decide +kernel
theorem dX9_oftenOver_29 : decode cX9_oftenOver 29 = .ok (.istore_n 2, 1) := by decide +kernel
theorem dX9_oftenOver_30 : decode cX9_oftenOver 30 = .ok (.iinc 3 1, 3) := by decide +kernel
theorem dX9_oftenOver_33 : decode cX9_oftenOver 33 = .ok (.goto (-29), 3) := by decide +kernel
theorem dX9_oftenOver_36 : decode cX9_oftenOver 36 = .ok (.iload_n 2, 1) := by decide +kernel
theorem dX9_oftenOver_37 : decode cX9_oftenOver 37 = .ok (.ireturn, 1) := by decide +kernel
set_option maxRecDepth 20000 in
theorem ggX9_run_X9_isMachine : GoodIn wsX9_run wsX9_isMachine := goodIn_r _ [11, 12, 13, 10, 14] (by decide +kernel) (by decide +kernel)
set_option maxRecDepth 20000 in
theorem gX9_run_X9_isMachine : GoodIn wsX9_run (va_wsS RX9 135 yX9_isMachine wsX9_isMachine) := goodIn_app (goodIn_of _ (by decide +kernel)) ggX9_run_X9_isMachine
set_option maxRecDepth 20000 in
theorem ggX9_run_X9_in : GoodIn wsX9_run wsX9_in := goodIn_r _ [14] (by decide +kernel) (by decide +kernel)
set_option maxRecDepth 20000 in
theorem gX9_run_X9_in : GoodIn wsX9_run (va_wsS RX9 87 yX9_in wsX9_in) := goodIn_app (goodIn_of _ (by decide +kernel)) ggX9_run_X9_in
set_option maxRecDepth 20000 in
theorem ggX9_run_X9_runs : GoodIn wsX9_run wsX9_runs := goodIn_r _ [18, 19, 6, 20, 7, 5, 4, 21, 22, 23, 24, 25, 10, 26, 27, 28, 29, 30, 31, 32, 37, 38, 39, 40, 41, 42, 43, 44, 45, 46, 47, 48, 49, 50, 51, 52, 53, 54, 55, 56, 57, 58, 59, 60, 61, 62, 63, 64, 65, 66, 67, 68, 69, 70, 71, 72] (by decide +kernel) (by decide +kernel)
set_option maxRecDepth 20000 in
theorem gX9_run_X9_runs : GoodIn wsX9_run (wsV RX9 215 RX9 yX9_runs wsX9_runs) := goodIn_app (goodIn_of _ (by decide +kernel)) ggX9_run_X9_runs
set_option maxRecDepth 20000 in
theorem ggX9_run_X9_oftenOver : GoodIn wsX9_run wsX9_oftenOver := goodIn_r _ [36, 20, 21, 37, 38, 39, 40, 41, 42, 43, 44, 45, 46, 47, 48, 49, 50, 51, 52, 53, 54, 55, 56, 57, 58, 59, 60, 61, 62, 63, 64, 65, 66, 67, 68, 69, 70, 71, 72] (by decide +kernel) (by decide +kernel)
set_option maxRecDepth 20000 in
theorem gX9_run_X9_oftenOver : GoodIn wsX9_run (wsV RX9 219 RX9 yX9_oftenOver wsX9_oftenOver) := goodIn_app (goodIn_of _ (by decide +kernel)) ggX9_run_X9_oftenOver
theorem dX9_run_0 : decode cX9_run 0 = .ok (.iload_n 1, 1) := by decide +kernel
theorem dX9_run_1 : decode cX9_run 1 = .ok (.invokestatic 135, 3) := by decide +kernel
theorem dX9_run_4 : decode cX9_run 4 = .ok (.ifCond .ne 6, 3) := by decide +kernel
theorem dX9_run_7 : decode cX9_run 7 = .ok (.ldc 138, 2) := by decide +kernel
theorem dX9_run_9 : decode cX9_run 9 = .ok (.ireturn, 1) := by decide +kernel
theorem dX9_run_10 : decode cX9_run 10 = .ok (.iload_n 2, 1) := by decide +kernel
theorem dX9_run_11 : decode cX9_run 11 = .ok (.i2l, 1) := by decide +kernel
theorem dX9_run_12 : decode cX9_run 12 = .ok (.lconst 0, 1) := by decide +kernel
theorem dX9_run_13 : decode cX9_run 13 = .ok (.ldc2_w 213, 3) := by decide +kernel
theorem dX9_run_16 : decode cX9_run 16 = .ok (.invokestatic 87, 3) := by decide +kernel
theorem dX9_run_19 : decode cX9_run 19 = .ok (.ifCond .ne 6, 3) := by decide +kernel
theorem dX9_run_22 : decode cX9_run 22 = .ok (.ldc 97, 2) := by decide +kernel
theorem dX9_run_24 : decode cX9_run 24 = .ok (.ireturn, 1) := by decide +kernel
theorem dX9_run_25 : decode cX9_run 25 = .ok (.aload_n 0, 1) := by decide +kernel
theorem dX9_run_26 : decode cX9_run 26 = .ok (.iload_n 1, 1) := by decide +kernel
theorem dX9_run_27 : decode cX9_run 27 = .ok (.invokevirtual 215, 3) := by decide +kernel
theorem dX9_run_30 : decode cX9_run 30 = .ok (.iconst 0, 1) := by decide +kernel
theorem dX9_run_31 : decode cX9_run 31 = .ok (.istore_n 3, 1) := by decide +kernel
theorem dX9_run_32 : decode cX9_run 32 = .ok (.iconst (-1), 1) := by decide +kernel
theorem dX9_run_33 : decode cX9_run 33 = .ok (.istore 4, 2) := by decide +kernel
theorem dX9_run_35 : decode cX9_run 35 = .ok (.iconst 0, 1) := by decide +kernel
theorem dX9_run_36 : decode cX9_run 36 = .ok (.istore 5, 2) := by decide +kernel
theorem dX9_run_38 : decode cX9_run 38 = .ok (.iconst 0, 1) := by decide +kernel
theorem dX9_run_39 : decode cX9_run 39 = .ok (.istore 6, 2) := by decide +kernel
theorem dX9_run_41 : decode cX9_run 41 = .ok (.iload 6, 2) := by decide +kernel
theorem dX9_run_43 : decode cX9_run 43 = .ok (.aload_n 0, 1) := by decide +kernel
theorem dX9_run_44 : decode cX9_run 44 = .ok (.getfield 184, 3) := by decide +kernel
theorem dX9_run_47 : decode cX9_run 47 = .ok (.if_icmp .gt 62, 3) := by decide +kernel
theorem dX9_run_50 : decode cX9_run 50 = .ok (.aload_n 0, 1) := by decide +kernel
theorem dX9_run_51 : decode cX9_run 51 = .ok (.iload 6, 2) := by decide +kernel
theorem dX9_run_53 : decode cX9_run 53 = .ok (.invokevirtual 219, 3) := by decide +kernel
theorem dX9_run_56 : decode cX9_run 56 = .ok (.istore 7, 2) := by decide +kernel
theorem dX9_run_58 : decode cX9_run 58 = .ok (.iload_n 3, 1) := by decide +kernel
theorem dX9_run_59 : decode cX9_run 59 = .ok (.iload 7, 2) := by decide +kernel
theorem dX9_run_61 : decode cX9_run 61 = .ok (.ifCond .le 7, 3) := by decide +kernel
theorem dX9_run_64 : decode cX9_run 64 = .ok (.iconst 1, 1) := by decide +kernel
theorem dX9_run_65 : decode cX9_run 65 = .ok (.goto 4, 3) := by decide +kernel
theorem dX9_run_68 : decode cX9_run 68 = .ok (.iconst 0, 1) := by decide +kernel
theorem dX9_run_69 : decode cX9_run 69 = .ok (.iadd, 1) := by decide +kernel
theorem dX9_run_70 : decode cX9_run 70 = .ok (.istore_n 3, 1) := by decide +kernel
theorem dX9_run_71 : decode cX9_run 71 = .ok (.iload 7, 2) := by decide +kernel
theorem dX9_run_73 : decode cX9_run 73 = .ok (.iload 5, 2) := by decide +kernel
theorem dX9_run_75 : decode cX9_run 75 = .ok (.if_icmp .le 8, 3) := by decide +kernel
theorem dX9_run_78 : decode cX9_run 78 = .ok (.iload 6, 2) := by decide +kernel
theorem dX9_run_80 : decode cX9_run 80 = .ok (.goto 5, 3) := by decide +kernel
theorem dX9_run_83 : decode cX9_run 83 = .ok (.iload 4, 2) := by decide +kernel
theorem dX9_run_85 : decode cX9_run 85 = .ok (.istore 4, 2) := by decide +kernel
theorem dX9_run_87 : decode cX9_run 87 = .ok (.iload 7, 2) := by decide +kernel
theorem dX9_run_89 : decode cX9_run 89 = .ok (.iload 5, 2) := by decide +kernel
theorem dX9_run_91 : decode cX9_run 91 = .ok (.if_icmp .le 8, 3) := by decide +kernel
theorem dX9_run_94 : decode cX9_run 94 = .ok (.iload 7, 2) := by decide +kernel
theorem dX9_run_96 : decode cX9_run 96 = .ok (.goto 5, 3) := by decide +kernel
theorem dX9_run_99 : decode cX9_run 99 = .ok (.iload 5, 2) := by decide +kernel
theorem dX9_run_101 : decode cX9_run 101 = .ok (.istore 5, 2) := by decide +kernel
theorem dX9_run_103 : decode cX9_run 103 = .ok (.iinc 6 1, 3) := by decide +kernel
theorem dX9_run_106 : decode cX9_run 106 = .ok (.goto (-65), 3) := by decide +kernel
theorem dX9_run_109 : decode cX9_run 109 = .ok (.iload_n 2, 1) := by decide +kernel
theorem dX9_run_110 : decode cX9_run 110 = .ok (.ifCond .ne 18, 3) := by decide +kernel
theorem dX9_run_113 : decode cX9_run 113 = .ok (.aload_n 0, 1) := by decide +kernel
theorem dX9_run_114 : decode cX9_run 114 = .ok (.getfield 207, 3) := by decide +kernel
theorem dX9_run_117 : decode cX9_run 117 = .ok (.ifCond .ne 7, 3) := by decide +kernel
theorem dX9_run_120 : decode cX9_run 120 = .ok (.iconst 1, 1) := by decide +kernel
theorem dX9_run_121 : decode cX9_run 121 = .ok (.goto 54, 3) := by decide +kernel
theorem dX9_run_124 : decode cX9_run 124 = .ok (.iconst 0, 1) := by decide +kernel
theorem dX9_run_125 : decode cX9_run 125 = .ok (.goto 50, 3) := by decide +kernel
theorem dX9_run_128 : decode cX9_run 128 = .ok (.iload_n 2, 1) := by decide +kernel
theorem dX9_run_129 : decode cX9_run 129 = .ok (.iconst 1, 1) := by decide +kernel
theorem dX9_run_130 : decode cX9_run 130 = .ok (.if_icmp .ne 10, 3) := by decide +kernel
theorem dX9_run_133 : decode cX9_run 133 = .ok (.aload_n 0, 1) := by decide +kernel
theorem dX9_run_134 : decode cX9_run 134 = .ok (.getfield 207, 3) := by decide +kernel
theorem dX9_run_137 : decode cX9_run 137 = .ok (.goto 38, 3) := by decide +kernel
theorem dX9_run_140 : decode cX9_run 140 = .ok (.iload_n 2, 1) := by decide +kernel
theorem dX9_run_141 : decode cX9_run 141 = .ok (.iconst 2, 1) := by decide +kernel
theorem dX9_run_142 : decode cX9_run 142 = .ok (.if_icmp .ne 10, 3) := by decide +kernel
theorem dX9_run_145 : decode cX9_run 145 = .ok (.aload_n 0, 1) := by decide +kernel
theorem dX9_run_146 : decode cX9_run 146 = .ok (.getfield 198, 3) := by decide +kernel
theorem dX9_run_149 : decode cX9_run 149 = .ok (.goto 26, 3) := by decide +kernel
theorem dX9_run_152 : decode cX9_run 152 = .ok (.iload_n 2, 1) := by decide +kernel
theorem dX9_run_153 : decode cX9_run 153 = .ok (.iconst 3, 1) := by decide +kernel
theorem dX9_run_154 : decode cX9_run 154 = .ok (.if_icmp .ne 10, 3) := by decide +kernel
theorem dX9_run_157 : decode cX9_run 157 = .ok (.aload_n 0, 1) := by decide +kernel
theorem dX9_run_158 : decode cX9_run 158 = .ok (.getfield 204, 3) := by decide +kernel
theorem dX9_run_161 : decode cX9_run 161 = .ok (.goto 14, 3) := by decide +kernel
theorem dX9_run_164 : decode cX9_run 164 = .ok (.iload_n 2, 1) := by decide +kernel
theorem dX9_run_165 : decode cX9_run 165 = .ok (.iconst 4, 1) := by decide +kernel
theorem dX9_run_166 : decode cX9_run 166 = .ok (.if_icmp .ne 7, 3) := by decide +kernel
theorem dX9_run_169 : decode cX9_run 169 = .ok (.iload_n 3, 1) := by decide +kernel
theorem dX9_run_170 : decode cX9_run 170 = .ok (.goto 5, 3) := by decide +kernel
theorem dX9_run_173 : decode cX9_run 173 = .ok (.iload 4, 2) := by decide +kernel
theorem dX9_run_175 : decode cX9_run 175 = .ok (.ireturn, 1) := by decide +kernel
set_option maxRecDepth 20000 in
theorem ggX9_crossed_X9_isMachine : GoodIn wsX9_crossed wsX9_isMachine := goodIn_r _ [10, 11, 12, 9, 13] (by decide +kernel) (by decide +kernel)
set_option maxRecDepth 20000 in
theorem gX9_crossed_X9_isMachine : GoodIn wsX9_crossed (va_wsS RX9 135 yX9_isMachine wsX9_isMachine) := goodIn_app (goodIn_of _ (by decide +kernel)) ggX9_crossed_X9_isMachine
set_option maxRecDepth 20000 in
theorem ggX9_crossed_X9_in : GoodIn wsX9_crossed wsX9_in := goodIn_r _ [13] (by decide +kernel) (by decide +kernel)
set_option maxRecDepth 20000 in
theorem gX9_crossed_X9_in : GoodIn wsX9_crossed (va_wsS RX9 87 yX9_in wsX9_in) := goodIn_app (goodIn_of _ (by decide +kernel)) ggX9_crossed_X9_in
set_option maxRecDepth 20000 in
theorem ggX9_crossed_X9_runs : GoodIn wsX9_crossed wsX9_runs := goodIn_r _ [17, 18, 19, 4, 20, 21, 2, 5, 6, 22, 23, 24, 9, 25, 26, 27, 28, 29, 30, 31, 36, 37, 38, 39, 40, 41, 42, 43, 44, 45, 46, 47, 48, 49, 50, 51, 52, 53, 54, 55, 56, 57, 58, 59, 60, 61, 62, 63, 64, 65, 66, 67, 68, 69, 70, 71] (by decide +kernel) (by decide +kernel)
set_option maxRecDepth 20000 in
theorem gX9_crossed_X9_runs : GoodIn wsX9_crossed (wsV RX9 215 RX9 yX9_runs wsX9_runs) := goodIn_app (goodIn_of _ (by decide +kernel)) ggX9_crossed_X9_runs
set_option maxRecDepth 20000 in
theorem ggX9_crossed_X9_oftenOver : GoodIn wsX9_crossed wsX9_oftenOver := goodIn_r _ [35, 4, 5, 36, 37, 38, 39, 40, 41, 42, 43, 44, 45, 46, 47, 48, 49, 50, 51, 52, 53, 54, 55, 56, 57, 58, 59, 60, 61, 62, 63, 64, 65, 66, 67, 68, 69, 70, 71] (by decide +kernel) (by decide +kernel)
set_option maxRecDepth 20000 in
theorem gX9_crossed_X9_oftenOver : GoodIn wsX9_crossed (wsV RX9 219 RX9 yX9_oftenOver wsX9_oftenOver) := goodIn_app (goodIn_of _ (by decide +kernel)) ggX9_crossed_X9_oftenOver
theorem dX9_crossed_0 : decode cX9_crossed 0 = .ok (.iload_n 1, 1) := by decide +kernel
theorem dX9_crossed_1 : decode cX9_crossed 1 = .ok (.invokestatic 135, 3) := by decide +kernel
theorem dX9_crossed_4 : decode cX9_crossed 4 = .ok (.ifCond .ne 6, 3) := by decide +kernel
theorem dX9_crossed_7 : decode cX9_crossed 7 = .ok (.ldc 138, 2) := by decide +kernel
theorem dX9_crossed_9 : decode cX9_crossed 9 = .ok (.ireturn, 1) := by decide +kernel
theorem dX9_crossed_10 : decode cX9_crossed 10 = .ok (.iload_n 2, 1) := by decide +kernel
theorem dX9_crossed_11 : decode cX9_crossed 11 = .ok (.i2l, 1) := by decide +kernel
theorem dX9_crossed_12 : decode cX9_crossed 12 = .ok (.lconst 0, 1) := by decide +kernel
theorem dX9_crossed_13 : decode cX9_crossed 13 = .ok (.aload_n 0, 1) := by decide +kernel
theorem dX9_crossed_14 : decode cX9_crossed 14 = .ok (.getfield 184, 3) := by decide +kernel
theorem dX9_crossed_17 : decode cX9_crossed 17 = .ok (.i2l, 1) := by decide +kernel
theorem dX9_crossed_18 : decode cX9_crossed 18 = .ok (.invokestatic 87, 3) := by decide +kernel
theorem dX9_crossed_21 : decode cX9_crossed 21 = .ok (.ifCond .eq 8, 3) := by decide +kernel
theorem dX9_crossed_24 : decode cX9_crossed 24 = .ok (.iload_n 3, 1) := by decide +kernel
theorem dX9_crossed_25 : decode cX9_crossed 25 = .ok (.iconst (-1), 1) := by decide +kernel
theorem dX9_crossed_26 : decode cX9_crossed 26 = .ok (.if_icmp .ge 6, 3) := by decide +kernel
theorem dX9_crossed_29 : decode cX9_crossed 29 = .ok (.ldc 97, 2) := by decide +kernel
theorem dX9_crossed_31 : decode cX9_crossed 31 = .ok (.ireturn, 1) := by decide +kernel
theorem dX9_crossed_32 : decode cX9_crossed 32 = .ok (.aload_n 0, 1) := by decide +kernel
theorem dX9_crossed_33 : decode cX9_crossed 33 = .ok (.iload_n 1, 1) := by decide +kernel
theorem dX9_crossed_34 : decode cX9_crossed 34 = .ok (.invokevirtual 215, 3) := by decide +kernel
theorem dX9_crossed_37 : decode cX9_crossed 37 = .ok (.iload_n 3, 1) := by decide +kernel
theorem dX9_crossed_38 : decode cX9_crossed 38 = .ok (.iconst (-1), 1) := by decide +kernel
theorem dX9_crossed_39 : decode cX9_crossed 39 = .ok (.if_icmp .ne 9, 3) := by decide +kernel
theorem dX9_crossed_42 : decode cX9_crossed 42 = .ok (.aload_n 0, 1) := by decide +kernel
theorem dX9_crossed_43 : decode cX9_crossed 43 = .ok (.iload_n 2, 1) := by decide +kernel
theorem dX9_crossed_44 : decode cX9_crossed 44 = .ok (.invokevirtual 219, 3) := by decide +kernel
theorem dX9_crossed_47 : decode cX9_crossed 47 = .ok (.ireturn, 1) := by decide +kernel
theorem dX9_crossed_48 : decode cX9_crossed 48 = .ok (.iconst (-1), 1) := by decide +kernel
theorem dX9_crossed_49 : decode cX9_crossed 49 = .ok (.istore 4, 2) := by decide +kernel
theorem dX9_crossed_51 : decode cX9_crossed 51 = .ok (.iconst 0, 1) := by decide +kernel
theorem dX9_crossed_52 : decode cX9_crossed 52 = .ok (.istore 5, 2) := by decide +kernel
theorem dX9_crossed_54 : decode cX9_crossed 54 = .ok (.iconst 0, 1) := by decide +kernel
theorem dX9_crossed_55 : decode cX9_crossed 55 = .ok (.istore 6, 2) := by decide +kernel
theorem dX9_crossed_57 : decode cX9_crossed 57 = .ok (.iload 6, 2) := by decide +kernel
theorem dX9_crossed_59 : decode cX9_crossed 59 = .ok (.aload_n 0, 1) := by decide +kernel
theorem dX9_crossed_60 : decode cX9_crossed 60 = .ok (.getfield 201, 3) := by decide +kernel
theorem dX9_crossed_63 : decode cX9_crossed 63 = .ok (.if_icmp .ge 61, 3) := by decide +kernel
theorem dX9_crossed_66 : decode cX9_crossed 66 = .ok (.aload_n 0, 1) := by decide +kernel
theorem dX9_crossed_67 : decode cX9_crossed 67 = .ok (.getfield 32, 3) := by decide +kernel
theorem dX9_crossed_70 : decode cX9_crossed 70 = .ok (.iload 6, 2) := by decide +kernel
theorem dX9_crossed_72 : decode cX9_crossed 72 = .ok (.iaload, 1) := by decide +kernel
theorem dX9_crossed_73 : decode cX9_crossed 73 = .ok (.iload_n 2, 1) := by decide +kernel
theorem dX9_crossed_74 : decode cX9_crossed 74 = .ok (.if_icmp .ne 19, 3) := by decide +kernel
theorem dX9_crossed_77 : decode cX9_crossed 77 = .ok (.iload 5, 2) := by decide +kernel
theorem dX9_crossed_79 : decode cX9_crossed 79 = .ok (.iload_n 3, 1) := by decide +kernel
theorem dX9_crossed_80 : decode cX9_crossed 80 = .ok (.if_icmp .ne 13, 3) := by decide +kernel
theorem dX9_crossed_83 : decode cX9_crossed 83 = .ok (.aload_n 0, 1) := by decide +kernel
theorem dX9_crossed_84 : decode cX9_crossed 84 = .ok (.getfield 35, 3) := by decide +kernel
theorem dX9_crossed_87 : decode cX9_crossed 87 = .ok (.iload 6, 2) := by decide +kernel
theorem dX9_crossed_89 : decode cX9_crossed 89 = .ok (.iaload, 1) := by decide +kernel
theorem dX9_crossed_90 : decode cX9_crossed 90 = .ok (.goto 5, 3) := by decide +kernel
theorem dX9_crossed_93 : decode cX9_crossed 93 = .ok (.iload 4, 2) := by decide +kernel
theorem dX9_crossed_95 : decode cX9_crossed 95 = .ok (.istore 4, 2) := by decide +kernel
theorem dX9_crossed_97 : decode cX9_crossed 97 = .ok (.iload 5, 2) := by decide +kernel
theorem dX9_crossed_99 : decode cX9_crossed 99 = .ok (.aload_n 0, 1) := by decide +kernel
theorem dX9_crossed_100 : decode cX9_crossed 100 = .ok (.getfield 32, 3) := by decide +kernel
theorem dX9_crossed_103 : decode cX9_crossed 103 = .ok (.iload 6, 2) := by decide +kernel
theorem dX9_crossed_105 : decode cX9_crossed 105 = .ok (.iaload, 1) := by decide +kernel
theorem dX9_crossed_106 : decode cX9_crossed 106 = .ok (.iload_n 2, 1) := by decide +kernel
theorem dX9_crossed_107 : decode cX9_crossed 107 = .ok (.if_icmp .ne 7, 3) := by decide +kernel
theorem dX9_crossed_110 : decode cX9_crossed 110 = .ok (.iconst 1, 1) := by decide +kernel
theorem dX9_crossed_111 : decode cX9_crossed 111 = .ok (.goto 4, 3) := by decide +kernel
theorem dX9_crossed_114 : decode cX9_crossed 114 = .ok (.iconst 0, 1) := by decide +kernel
theorem dX9_crossed_115 : decode cX9_crossed 115 = .ok (.iadd, 1) := by decide +kernel
theorem dX9_crossed_116 : decode cX9_crossed 116 = .ok (.istore 5, 2) := by decide +kernel
theorem dX9_crossed_118 : decode cX9_crossed 118 = .ok (.iinc 6 1, 3) := by decide +kernel
theorem dX9_crossed_121 : decode cX9_crossed 121 = .ok (.goto (-64), 3) := by decide +kernel
theorem dX9_crossed_124 : decode cX9_crossed 124 = .ok (.iload 4, 2) := by decide +kernel
theorem dX9_crossed_126 : decode cX9_crossed 126 = .ok (.ireturn, 1) := by decide +kernel
set_option maxRecDepth 20000 in
theorem ggX9_goesOff_X9_moveAt : GoodIn wsX9_goesOff wsX9_moveAt := goodIn_r _ [7, 8, 9, 10, 11, 12, 13, 14, 15, 16, 17, 18, 19, 20, 21, 22, 23, 24, 25, 26, 27, 28, 29, 30, 31, 32, 33, 34, 35, 36, 37, 38, 39, 40, 41, 42, 43, 44] (by decide +kernel) (by decide +kernel)
set_option maxRecDepth 20000 in
theorem gX9_goesOff_X9_moveAt : GoodIn wsX9_goesOff (wsV RX9 157 RX9 yX9_moveAt wsX9_moveAt) := goodIn_app (goodIn_of _ (by decide +kernel)) ggX9_goesOff_X9_moveAt
theorem dX9_goesOff_0 : decode cX9_goesOff 0 = .ok (.iload_n 2, 1) := by decide +kernel
theorem dX9_goesOff_1 : decode cX9_goesOff 1 = .ok (.istore 6, 2) := by decide +kernel
theorem dX9_goesOff_3 : decode cX9_goesOff 3 = .ok (.iload 6, 2) := by decide +kernel
theorem dX9_goesOff_5 : decode cX9_goesOff 5 = .ok (.iload_n 3, 1) := by decide +kernel
theorem dX9_goesOff_6 : decode cX9_goesOff 6 = .ok (.if_icmp .ge 17, 3) := by decide +kernel
theorem dX9_goesOff_9 : decode cX9_goesOff 9 = .ok (.aload_n 0, 1) := by decide +kernel
theorem dX9_goesOff_10 : decode cX9_goesOff 10 = .ok (.getfield 29, 3) := by decide +kernel
theorem dX9_goesOff_13 : decode cX9_goesOff 13 = .ok (.iload 6, 2) := by decide +kernel
theorem dX9_goesOff_15 : decode cX9_goesOff 15 = .ok (.iconst 0, 1) := by decide +kernel
theorem dX9_goesOff_16 : decode cX9_goesOff 16 = .ok (.iastore, 1) := by decide +kernel
theorem dX9_goesOff_17 : decode cX9_goesOff 17 = .ok (.iinc 6 1, 3) := by decide +kernel
theorem dX9_goesOff_20 : decode cX9_goesOff 20 = .ok (.goto (-17), 3) := by decide +kernel
