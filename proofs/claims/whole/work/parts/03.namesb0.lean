theorem dX0_init_0 : decode cX0_init 0 = .ok (.aload_n 0, 1) := by decide +kernel
theorem dX0_init_1 : decode cX0_init 1 = .ok (.invokespecial 3, 3) := by decide +kernel
theorem dX0_init_4 : decode cX0_init 4 = .ok (.aload_n 0, 1) := by decide +kernel
theorem dX0_init_5 : decode cX0_init 5 = .ok (.bipush 13, 2) := by decide +kernel
theorem dX0_init_7 : decode cX0_init 7 = .ok (.newarray .int, 2) := by decide +kernel
theorem dX0_init_9 : decode cX0_init 9 = .ok (.putfield 11, 3) := by decide +kernel
theorem dX0_init_12 : decode cX0_init 12 = .ok (.aload_n 0, 1) := by decide +kernel
theorem dX0_init_13 : decode cX0_init 13 = .ok (.bipush 13, 2) := by decide +kernel
theorem dX0_init_15 : decode cX0_init 15 = .ok (.newarray .int, 2) := by decide +kernel
theorem dX0_init_17 : decode cX0_init 17 = .ok (.putfield 15, 3) := by decide +kernel
theorem dX0_init_20 : decode cX0_init 20 = .ok (.aload_n 0, 1) := by decide +kernel
theorem dX0_init_21 : decode cX0_init 21 = .ok (.bipush 13, 2) := by decide +kernel
theorem dX0_init_23 : decode cX0_init 23 = .ok (.newarray .long, 2) := by decide +kernel
theorem dX0_init_25 : decode cX0_init 25 = .ok (.putfield 18, 3) := by decide +kernel
theorem dX0_init_28 : decode cX0_init 28 = .ok (.aload_n 0, 1) := by decide +kernel
theorem dX0_init_29 : decode cX0_init 29 = .ok (.sipush 2600, 3) := by decide +kernel
theorem dX0_init_32 : decode cX0_init 32 = .ok (.newarray .int, 2) := by decide +kernel
theorem dX0_init_34 : decode cX0_init 34 = .ok (.putfield 22, 3) := by decide +kernel
theorem dX0_init_37 : decode cX0_init 37 = .ok (.return_, 1) := by decide +kernel
theorem dX0_happened_0 : decode cX0_happened 0 = .ok (.aload_n 0, 1) := by decide +kernel
theorem dX0_happened_1 : decode cX0_happened 1 = .ok (.getfield 25, 3) := by decide +kernel
theorem dX0_happened_4 : decode cX0_happened 4 = .ok (.ifCond .le 7, 3) := by decide +kernel
theorem dX0_happened_7 : decode cX0_happened 7 = .ok (.iconst 1, 1) := by decide +kernel
theorem dX0_happened_8 : decode cX0_happened 8 = .ok (.goto 4, 3) := by decide +kernel
theorem dX0_happened_11 : decode cX0_happened 11 = .ok (.iconst 0, 1) := by decide +kernel
theorem dX0_happened_12 : decode cX0_happened 12 = .ok (.ireturn, 1) := by decide +kernel
theorem dX0_behindRound_0 : decode cX0_behindRound 0 = .ok (.iload_n 1, 1) := by decide +kernel
theorem dX0_behindRound_1 : decode cX0_behindRound 1 = .ok (.bipush 13, 2) := by decide +kernel
theorem dX0_behindRound_3 : decode cX0_behindRound 3 = .ok (.imul, 1) := by decide +kernel
theorem dX0_behindRound_4 : decode cX0_behindRound 4 = .ok (.iload_n 2, 1) := by decide +kernel
theorem dX0_behindRound_5 : decode cX0_behindRound 5 = .ok (.iadd, 1) := by decide +kernel
theorem dX0_behindRound_6 : decode cX0_behindRound 6 = .ok (.istore_n 3, 1) := by decide +kernel
theorem dX0_behindRound_7 : decode cX0_behindRound 7 = .ok (.iload_n 3, 1) := by decide +kernel
theorem dX0_behindRound_8 : decode cX0_behindRound 8 = .ok (.ifCond .lt 12, 3) := by decide +kernel
theorem dX0_behindRound_11 : decode cX0_behindRound 11 = .ok (.iload_n 3, 1) := by decide +kernel
theorem dX0_behindRound_12 : decode cX0_behindRound 12 = .ok (.aload_n 0, 1) := by decide +kernel
theorem dX0_behindRound_13 : decode cX0_behindRound 13 = .ok (.getfield 22, 3) := by decide +kernel
theorem dX0_behindRound_16 : decode cX0_behindRound 16 = .ok (.arraylength, 1) := by decide +kernel
theorem dX0_behindRound_17 : decode cX0_behindRound 17 = .ok (.if_icmp .lt 8, 3) := by decide +kernel
theorem dX0_behindRound_20 : decode cX0_behindRound 20 = .ok (.ldc 29, 2) := by decide +kernel
theorem dX0_behindRound_22 : decode cX0_behindRound 22 = .ok (.goto 9, 3) := by decide +kernel
theorem dX0_behindRound_25 : decode cX0_behindRound 25 = .ok (.aload_n 0, 1) := by decide +kernel
theorem dX0_behindRound_26 : decode cX0_behindRound 26 = .ok (.getfield 22, 3) := by decide +kernel
theorem dX0_behindRound_29 : decode cX0_behindRound 29 = .ok (.iload_n 3, 1) := by decide +kernel
theorem dX0_behindRound_30 : decode cX0_behindRound 30 = .ok (.iaload, 1) := by decide +kernel
theorem dX0_behindRound_31 : decode cX0_behindRound 31 = .ok (.ireturn, 1) := by decide +kernel
set_option maxRecDepth 20000 in
theorem ggX0_settled_X1_quake : GoodIn wsX0_settled wsX1_quake := goodIn_r _ [10, 11, 12, 13, 20, 21, 22, 23, 24, 25, 26, 27, 28] (by decide +kernel) (by decide +kernel)
set_option maxRecDepth 20000 in
theorem gX0_settled_X1_quake : GoodIn wsX0_settled (wsV RX0 33 RX1 yX1_quake wsX1_quake) := goodIn_app (goodIn_of _ (by decide +kernel)) ggX0_settled_X1_quake
theorem dX0_settled_0 : decode cX0_settled 0 = .ok (.lconst 0, 1) := by decide +kernel
theorem dX0_settled_1 : decode cX0_settled 1 = .ok (.aload_n 0, 1) := by decide +kernel
theorem dX0_settled_2 : decode cX0_settled 2 = .ok (.getfield 30, 3) := by decide +kernel
theorem dX0_settled_5 : decode cX0_settled 5 = .ok (.i2l, 1) := by decide +kernel
theorem dX0_settled_6 : decode cX0_settled 6 = .ok (.aload_n 1, 1) := by decide +kernel
theorem dX0_settled_7 : decode cX0_settled 7 = .ok (.invokevirtual 33, 3) := by decide +kernel
theorem dX0_settled_10 : decode cX0_settled 10 = .ok (.lsub, 1) := by decide +kernel
theorem dX0_settled_11 : decode cX0_settled 11 = .ok (.invokestatic 39, 3) := by decide +kernel
theorem dX0_settled_14 : decode cX0_settled 14 = .ok (.l2i, 1) := by decide +kernel
theorem dX0_settled_15 : decode cX0_settled 15 = .ok (.ireturn, 1) := by decide +kernel
set_option maxRecDepth 20000 in
theorem ggX0_strike_X1_pieces : GoodIn wsX0_strike wsX1_pieces := goodIn_r _ [19, 20, 63, 64, 65, 66, 67, 68, 69, 70, 71] (by decide +kernel) (by decide +kernel)
set_option maxRecDepth 20000 in
theorem gX0_strike_X1_pieces : GoodIn wsX0_strike (wsV RX0 45 RX1 yX1_pieces wsX1_pieces) := goodIn_app (goodIn_of _ (by decide +kernel)) ggX0_strike_X1_pieces
set_option maxRecDepth 20000 in
theorem ggX0_strike_J7_fill_53178 : GoodIn wsX0_strike wsJ7_fill_53178 := goodIn_r _ [24] (by decide +kernel) (by decide +kernel)
set_option maxRecDepth 20000 in
theorem gX0_strike_J7_fill_53178 : GoodIn wsX0_strike (va_wsS RX0 48 yJ7_fill_53178 wsJ7_fill_53178) := goodIn_app (goodIn_of _ (by decide +kernel)) ggX0_strike_J7_fill_53178
set_option maxRecDepth 20000 in
theorem ggX0_strike_X0_gatherPushes : GoodIn wsX0_strike wsX0_gatherPushes := goodIn_r _ [29, 30, 1, 31, 3, 32, 33, 8, 34, 35, 36, 37, 38, 39, 40, 41, 42, 23, 43, 44, 45, 46, 28, 47, 48, 49, 50, 57, 58, 59, 60, 61, 62, 63, 64, 65, 66, 67, 68, 69, 70, 71] (by decide +kernel) (by decide +kernel)
set_option maxRecDepth 20000 in
theorem gX0_strike_X0_gatherPushes : GoodIn wsX0_strike (wsV RX0 54 RX0 yX0_gatherPushes wsX0_gatherPushes) := goodIn_app (goodIn_of _ (by decide +kernel)) ggX0_strike_X0_gatherPushes
set_option maxRecDepth 20000 in
theorem ggX0_strike_X0_move : GoodIn wsX0_strike wsX0_move := goodIn_r _ [54, 36, 30, 4, 55, 56, 3, 48, 49, 50, 57, 58, 59, 60, 61, 62] (by decide +kernel) (by decide +kernel)
set_option maxRecDepth 20000 in
theorem gX0_strike_X0_move : GoodIn wsX0_strike (wsV RX0 61 RX0 yX0_move wsX0_move) := goodIn_app (goodIn_of _ (by decide +kernel)) ggX0_strike_X0_move
theorem dX0_strike_0 : decode cX0_strike 0 = .ok (.aload_n 1, 1) := by decide +kernel
theorem dX0_strike_1 : decode cX0_strike 1 = .ok (.invokevirtual 45, 3) := by decide +kernel
theorem dX0_strike_4 : decode cX0_strike 4 = .ok (.istore 4, 2) := by decide +kernel
theorem dX0_strike_6 : decode cX0_strike 6 = .ok (.iload 4, 2) := by decide +kernel
theorem dX0_strike_8 : decode cX0_strike 8 = .ok (.iconst 1, 1) := by decide +kernel
theorem dX0_strike_9 : decode cX0_strike 9 = .ok (.if_icmp .lt 10, 3) := by decide +kernel
theorem dX0_strike_12 : decode cX0_strike 12 = .ok (.iload 4, 2) := by decide +kernel
theorem dX0_strike_14 : decode cX0_strike 14 = .ok (.bipush 13, 2) := by decide +kernel
theorem dX0_strike_16 : decode cX0_strike 16 = .ok (.if_icmp .lt 4, 3) := by decide +kernel
theorem dX0_strike_19 : decode cX0_strike 19 = .ok (.return_, 1) := by decide +kernel
theorem dX0_strike_20 : decode cX0_strike 20 = .ok (.aload_n 0, 1) := by decide +kernel
theorem dX0_strike_21 : decode cX0_strike 21 = .ok (.iload 4, 2) := by decide +kernel
theorem dX0_strike_23 : decode cX0_strike 23 = .ok (.putfield 25, 3) := by decide +kernel
theorem dX0_strike_26 : decode cX0_strike 26 = .ok (.aload_n 0, 1) := by decide +kernel
theorem dX0_strike_27 : decode cX0_strike 27 = .ok (.iconst 0, 1) := by decide +kernel
theorem dX0_strike_28 : decode cX0_strike 28 = .ok (.putfield 30, 3) := by decide +kernel
theorem dX0_strike_31 : decode cX0_strike 31 = .ok (.aload_n 0, 1) := by decide +kernel
theorem dX0_strike_32 : decode cX0_strike 32 = .ok (.getfield 11, 3) := by decide +kernel
theorem dX0_strike_35 : decode cX0_strike 35 = .ok (.iconst 0, 1) := by decide +kernel
theorem dX0_strike_36 : decode cX0_strike 36 = .ok (.invokestatic 48, 3) := by decide +kernel
theorem dX0_strike_39 : decode cX0_strike 39 = .ok (.aload_n 0, 1) := by decide +kernel
theorem dX0_strike_40 : decode cX0_strike 40 = .ok (.getfield 15, 3) := by decide +kernel
theorem dX0_strike_43 : decode cX0_strike 43 = .ok (.iconst 0, 1) := by decide +kernel
theorem dX0_strike_44 : decode cX0_strike 44 = .ok (.invokestatic 48, 3) := by decide +kernel
theorem dX0_strike_47 : decode cX0_strike 47 = .ok (.aload_n 0, 1) := by decide +kernel
theorem dX0_strike_48 : decode cX0_strike 48 = .ok (.getfield 15, 3) := by decide +kernel
theorem dX0_strike_51 : decode cX0_strike 51 = .ok (.aload_n 0, 1) := by decide +kernel
theorem dX0_strike_52 : decode cX0_strike 52 = .ok (.getfield 25, 3) := by decide +kernel
theorem dX0_strike_55 : decode cX0_strike 55 = .ok (.sipush 1000, 3) := by decide +kernel
theorem dX0_strike_58 : decode cX0_strike 58 = .ok (.iload_n 3, 1) := by decide +kernel
theorem dX0_strike_59 : decode cX0_strike 59 = .ok (.imul, 1) := by decide +kernel
theorem dX0_strike_60 : decode cX0_strike 60 = .ok (.iastore, 1) := by decide +kernel
theorem dX0_strike_61 : decode cX0_strike 61 = .ok (.iconst 0, 1) := by decide +kernel
theorem dX0_strike_62 : decode cX0_strike 62 = .ok (.istore 5, 2) := by decide +kernel
theorem dX0_strike_64 : decode cX0_strike 64 = .ok (.iload 5, 2) := by decide +kernel
theorem dX0_strike_66 : decode cX0_strike 66 = .ok (.sipush 200, 3) := by decide +kernel
theorem dX0_strike_69 : decode cX0_strike 69 = .ok (.if_icmp .ge 96, 3) := by decide +kernel
theorem dX0_strike_72 : decode cX0_strike 72 = .ok (.aload_n 0, 1) := by decide +kernel
theorem dX0_strike_73 : decode cX0_strike 73 = .ok (.aload_n 1, 1) := by decide +kernel
theorem dX0_strike_74 : decode cX0_strike 74 = .ok (.invokevirtual 54, 3) := by decide +kernel
theorem dX0_strike_77 : decode cX0_strike 77 = .ok (.iconst 0, 1) := by decide +kernel
theorem dX0_strike_78 : decode cX0_strike 78 = .ok (.istore 6, 2) := by decide +kernel
theorem dX0_strike_80 : decode cX0_strike 80 = .ok (.iload 6, 2) := by decide +kernel
theorem dX0_strike_82 : decode cX0_strike 82 = .ok (.aload_n 0, 1) := by decide +kernel
theorem dX0_strike_83 : decode cX0_strike 83 = .ok (.getfield 25, 3) := by decide +kernel
theorem dX0_strike_86 : decode cX0_strike 86 = .ok (.if_icmp .gt 32, 3) := by decide +kernel
theorem dX0_strike_89 : decode cX0_strike 89 = .ok (.aload_n 0, 1) := by decide +kernel
theorem dX0_strike_90 : decode cX0_strike 90 = .ok (.iload 6, 2) := by decide +kernel
theorem dX0_strike_92 : decode cX0_strike 92 = .ok (.iload 6, 2) := by decide +kernel
theorem dX0_strike_94 : decode cX0_strike 94 = .ok (.aload_n 0, 1) := by decide +kernel
theorem dX0_strike_95 : decode cX0_strike 95 = .ok (.getfield 25, 3) := by decide +kernel
theorem dX0_strike_98 : decode cX0_strike 98 = .ok (.if_icmp .ge 10, 3) := by decide +kernel
theorem dX0_strike_101 : decode cX0_strike 101 = .ok (.aload_n 1, 1) := by decide +kernel
theorem dX0_strike_102 : decode cX0_strike 102 = .ok (.getfield 58, 3) := by decide +kernel
theorem dX0_strike_105 : decode cX0_strike 105 = .ok (.goto 4, 3) := by decide +kernel
theorem dX0_strike_108 : decode cX0_strike 108 = .ok (.iload_n 2, 1) := by decide +kernel
theorem dX0_strike_109 : decode cX0_strike 109 = .ok (.invokevirtual 61, 3) := by decide +kernel
theorem dX0_strike_112 : decode cX0_strike 112 = .ok (.iinc 6 1, 3) := by decide +kernel
theorem dX0_strike_115 : decode cX0_strike 115 = .ok (.goto (-35), 3) := by decide +kernel
theorem dX0_strike_118 : decode cX0_strike 118 = .ok (.aload_n 0, 1) := by decide +kernel
theorem dX0_strike_119 : decode cX0_strike 119 = .ok (.aload_n 0, 1) := by decide +kernel
theorem dX0_strike_120 : decode cX0_strike 120 = .ok (.getfield 30, 3) := by decide +kernel
theorem dX0_strike_123 : decode cX0_strike 123 = .ok (.aload_n 0, 1) := by decide +kernel
theorem dX0_strike_124 : decode cX0_strike 124 = .ok (.getfield 11, 3) := by decide +kernel
theorem dX0_strike_127 : decode cX0_strike 127 = .ok (.aload_n 0, 1) := by decide +kernel
theorem dX0_strike_128 : decode cX0_strike 128 = .ok (.getfield 25, 3) := by decide +kernel
theorem dX0_strike_131 : decode cX0_strike 131 = .ok (.iconst 1, 1) := by decide +kernel
theorem dX0_strike_132 : decode cX0_strike 132 = .ok (.isub, 1) := by decide +kernel
theorem dX0_strike_133 : decode cX0_strike 133 = .ok (.iaload, 1) := by decide +kernel
theorem dX0_strike_134 : decode cX0_strike 134 = .ok (.invokestatic 65, 3) := by decide +kernel
theorem dX0_strike_137 : decode cX0_strike 137 = .ok (.putfield 30, 3) := by decide +kernel
theorem dX0_strike_140 : decode cX0_strike 140 = .ok (.aload_n 0, 1) := by decide +kernel
theorem dX0_strike_141 : decode cX0_strike 141 = .ok (.getfield 11, 3) := by decide +kernel
theorem dX0_strike_144 : decode cX0_strike 144 = .ok (.iconst 0, 1) := by decide +kernel
theorem dX0_strike_145 : decode cX0_strike 145 = .ok (.aload_n 0, 1) := by decide +kernel
theorem dX0_strike_146 : decode cX0_strike 146 = .ok (.getfield 22, 3) := by decide +kernel
theorem dX0_strike_149 : decode cX0_strike 149 = .ok (.iload 5, 2) := by decide +kernel
theorem dX0_strike_151 : decode cX0_strike 151 = .ok (.bipush 13, 2) := by decide +kernel
theorem dX0_strike_153 : decode cX0_strike 153 = .ok (.imul, 1) := by decide +kernel
theorem dX0_strike_154 : decode cX0_strike 154 = .ok (.bipush 13, 2) := by decide +kernel
theorem dX0_strike_156 : decode cX0_strike 156 = .ok (.invokestatic 68, 3) := by decide +kernel
theorem dX0_strike_159 : decode cX0_strike 159 = .ok (.iinc 5 1, 3) := by decide +kernel
theorem dX0_strike_162 : decode cX0_strike 162 = .ok (.goto (-98), 3) := by decide +kernel
theorem dX0_strike_165 : decode cX0_strike 165 = .ok (.return_, 1) := by decide +kernel
set_option maxRecDepth 20000 in
theorem ggX0_gatherPushes_J7_fill_d0a16 : GoodIn wsX0_gatherPushes wsJ7_fill_d0a16 := goodIn_r _ [18] (by decide +kernel) (by decide +kernel)
set_option maxRecDepth 20000 in
theorem gX0_gatherPushes_J7_fill_d0a16 : GoodIn wsX0_gatherPushes (va_wsS RX0 74 yJ7_fill_d0a16 wsJ7_fill_d0a16) := goodIn_app (goodIn_of _ (by decide +kernel)) ggX0_gatherPushes_J7_fill_d0a16
set_option maxRecDepth 20000 in
theorem ggX0_gatherPushes_X0_press : GoodIn wsX0_gatherPushes wsX0_press := goodIn_r _ [23, 1, 27, 28, 29, 30, 31, 32] (by decide +kernel) (by decide +kernel)
set_option maxRecDepth 20000 in
theorem gX0_gatherPushes_X0_press : GoodIn wsX0_gatherPushes (wsV RX0 79 RX0 yX0_press wsX0_press) := goodIn_app (goodIn_of _ (by decide +kernel)) ggX0_gatherPushes_X0_press
set_option maxRecDepth 20000 in
theorem ggX0_gatherPushes_X3_clamp : GoodIn wsX0_gatherPushes wsX3_clamp := goodIn_r _ [26] (by decide +kernel) (by decide +kernel)
set_option maxRecDepth 20000 in
theorem gX0_gatherPushes_X3_clamp_n94 : GoodIn wsX0_gatherPushes (wsX3_clamp) := ggX0_gatherPushes_X3_clamp
theorem dX0_gatherPushes_0 : decode cX0_gatherPushes 0 = .ok (.aload_n 0, 1) := by decide +kernel
theorem dX0_gatherPushes_1 : decode cX0_gatherPushes 1 = .ok (.getfield 18, 3) := by decide +kernel
theorem dX0_gatherPushes_4 : decode cX0_gatherPushes 4 = .ok (.lconst 0, 1) := by decide +kernel
theorem dX0_gatherPushes_5 : decode cX0_gatherPushes 5 = .ok (.invokestatic 74, 3) := by decide +kernel
theorem dX0_gatherPushes_8 : decode cX0_gatherPushes 8 = .ok (.aload_n 0, 1) := by decide +kernel
theorem dX0_gatherPushes_9 : decode cX0_gatherPushes 9 = .ok (.aload_n 0, 1) := by decide +kernel
theorem dX0_gatherPushes_10 : decode cX0_gatherPushes 10 = .ok (.getfield 25, 3) := by decide +kernel
theorem dX0_gatherPushes_13 : decode cX0_gatherPushes 13 = .ok (.iconst 0, 1) := by decide +kernel
theorem dX0_gatherPushes_14 : decode cX0_gatherPushes 14 = .ok (.lconst 0, 1) := by decide +kernel
theorem dX0_gatherPushes_15 : decode cX0_gatherPushes 15 = .ok (.ldc2_w 77, 3) := by decide +kernel
theorem dX0_gatherPushes_18 : decode cX0_gatherPushes 18 = .ok (.aload_n 0, 1) := by decide +kernel
theorem dX0_gatherPushes_19 : decode cX0_gatherPushes 19 = .ok (.getfield 11, 3) := by decide +kernel
theorem dX0_gatherPushes_22 : decode cX0_gatherPushes 22 = .ok (.aload_n 0, 1) := by decide +kernel
theorem dX0_gatherPushes_23 : decode cX0_gatherPushes 23 = .ok (.getfield 25, 3) := by decide +kernel
theorem dX0_gatherPushes_26 : decode cX0_gatherPushes 26 = .ok (.iaload, 1) := by decide +kernel
theorem dX0_gatherPushes_27 : decode cX0_gatherPushes 27 = .ok (.aload_n 0, 1) := by decide +kernel
theorem dX0_gatherPushes_28 : decode cX0_gatherPushes 28 = .ok (.getfield 11, 3) := by decide +kernel
theorem dX0_gatherPushes_31 : decode cX0_gatherPushes 31 = .ok (.iconst 0, 1) := by decide +kernel
theorem dX0_gatherPushes_32 : decode cX0_gatherPushes 32 = .ok (.iaload, 1) := by decide +kernel
theorem dX0_gatherPushes_33 : decode cX0_gatherPushes 33 = .ok (.isub, 1) := by decide +kernel
theorem dX0_gatherPushes_34 : decode cX0_gatherPushes 34 = .ok (.i2l, 1) := by decide +kernel
theorem dX0_gatherPushes_35 : decode cX0_gatherPushes 35 = .ok (.lmul, 1) := by decide +kernel
theorem dX0_gatherPushes_36 : decode cX0_gatherPushes 36 = .ok (.invokestatic 39, 3) := by decide +kernel
theorem dX0_gatherPushes_39 : decode cX0_gatherPushes 39 = .ok (.invokevirtual 79, 3) := by decide +kernel
theorem dX0_gatherPushes_42 : decode cX0_gatherPushes 42 = .ok (.iconst 0, 1) := by decide +kernel
theorem dX0_gatherPushes_43 : decode cX0_gatherPushes 43 = .ok (.istore_n 2, 1) := by decide +kernel
theorem dX0_gatherPushes_44 : decode cX0_gatherPushes 44 = .ok (.iload_n 2, 1) := by decide +kernel
theorem dX0_gatherPushes_45 : decode cX0_gatherPushes 45 = .ok (.iconst 1, 1) := by decide +kernel
theorem dX0_gatherPushes_46 : decode cX0_gatherPushes 46 = .ok (.iadd, 1) := by decide +kernel
theorem dX0_gatherPushes_47 : decode cX0_gatherPushes 47 = .ok (.aload_n 0, 1) := by decide +kernel
theorem dX0_gatherPushes_48 : decode cX0_gatherPushes 48 = .ok (.getfield 25, 3) := by decide +kernel
theorem dX0_gatherPushes_51 : decode cX0_gatherPushes 51 = .ok (.if_icmp .ge 43, 3) := by decide +kernel
theorem dX0_gatherPushes_54 : decode cX0_gatherPushes 54 = .ok (.aload_n 0, 1) := by decide +kernel
theorem dX0_gatherPushes_55 : decode cX0_gatherPushes 55 = .ok (.iload_n 2, 1) := by decide +kernel
theorem dX0_gatherPushes_56 : decode cX0_gatherPushes 56 = .ok (.iload_n 2, 1) := by decide +kernel
theorem dX0_gatherPushes_57 : decode cX0_gatherPushes 57 = .ok (.iconst 1, 1) := by decide +kernel
theorem dX0_gatherPushes_58 : decode cX0_gatherPushes 58 = .ok (.iadd, 1) := by decide +kernel
theorem dX0_gatherPushes_59 : decode cX0_gatherPushes 59 = .ok (.aload_n 1, 1) := by decide +kernel
theorem dX0_gatherPushes_60 : decode cX0_gatherPushes 60 = .ok (.getfield 83, 3) := by decide +kernel
theorem dX0_gatherPushes_63 : decode cX0_gatherPushes 63 = .ok (.i2l, 1) := by decide +kernel
theorem dX0_gatherPushes_64 : decode cX0_gatherPushes 64 = .ok (.aload_n 0, 1) := by decide +kernel
theorem dX0_gatherPushes_65 : decode cX0_gatherPushes 65 = .ok (.getfield 11, 3) := by decide +kernel
theorem dX0_gatherPushes_68 : decode cX0_gatherPushes 68 = .ok (.iload_n 2, 1) := by decide +kernel
theorem dX0_gatherPushes_69 : decode cX0_gatherPushes 69 = .ok (.iaload, 1) := by decide +kernel
theorem dX0_gatherPushes_70 : decode cX0_gatherPushes 70 = .ok (.aload_n 0, 1) := by decide +kernel
theorem dX0_gatherPushes_71 : decode cX0_gatherPushes 71 = .ok (.getfield 11, 3) := by decide +kernel
theorem dX0_gatherPushes_74 : decode cX0_gatherPushes 74 = .ok (.iload_n 2, 1) := by decide +kernel
theorem dX0_gatherPushes_75 : decode cX0_gatherPushes 75 = .ok (.iconst 1, 1) := by decide +kernel
theorem dX0_gatherPushes_76 : decode cX0_gatherPushes 76 = .ok (.iadd, 1) := by decide +kernel
theorem dX0_gatherPushes_77 : decode cX0_gatherPushes 77 = .ok (.iaload, 1) := by decide +kernel
theorem dX0_gatherPushes_78 : decode cX0_gatherPushes 78 = .ok (.isub, 1) := by decide +kernel
theorem dX0_gatherPushes_79 : decode cX0_gatherPushes 79 = .ok (.i2l, 1) := by decide +kernel
theorem dX0_gatherPushes_80 : decode cX0_gatherPushes 80 = .ok (.lmul, 1) := by decide +kernel
theorem dX0_gatherPushes_81 : decode cX0_gatherPushes 81 = .ok (.ldc2_w 86, 3) := by decide +kernel
theorem dX0_gatherPushes_84 : decode cX0_gatherPushes 84 = .ok (.ldiv, 1) := by decide +kernel
theorem dX0_gatherPushes_85 : decode cX0_gatherPushes 85 = .ok (.invokevirtual 79, 3) := by decide +kernel
theorem dX0_gatherPushes_88 : decode cX0_gatherPushes 88 = .ok (.iinc 2 1, 3) := by decide +kernel
theorem dX0_gatherPushes_91 : decode cX0_gatherPushes 91 = .ok (.goto (-47), 3) := by decide +kernel
theorem dX0_gatherPushes_94 : decode cX0_gatherPushes 94 = .ok (.iconst 0, 1) := by decide +kernel
theorem dX0_gatherPushes_95 : decode cX0_gatherPushes 95 = .ok (.istore_n 2, 1) := by decide +kernel
theorem dX0_gatherPushes_96 : decode cX0_gatherPushes 96 = .ok (.iload_n 2, 1) := by decide +kernel
theorem dX0_gatherPushes_97 : decode cX0_gatherPushes 97 = .ok (.aload_n 0, 1) := by decide +kernel
theorem dX0_gatherPushes_98 : decode cX0_gatherPushes 98 = .ok (.getfield 25, 3) := by decide +kernel
theorem dX0_gatherPushes_101 : decode cX0_gatherPushes 101 = .ok (.if_icmp .ge 54, 3) := by decide +kernel
theorem dX0_gatherPushes_104 : decode cX0_gatherPushes 104 = .ok (.aload_n 0, 1) := by decide +kernel
theorem dX0_gatherPushes_105 : decode cX0_gatherPushes 105 = .ok (.getfield 18, 3) := by decide +kernel
theorem dX0_gatherPushes_108 : decode cX0_gatherPushes 108 = .ok (.iload_n 2, 1) := by decide +kernel
theorem dX0_gatherPushes_109 : decode cX0_gatherPushes 109 = .ok (.dup2, 1) := by decide +kernel
theorem dX0_gatherPushes_110 : decode cX0_gatherPushes 110 = .ok (.laload, 1) := by decide +kernel
theorem dX0_gatherPushes_111 : decode cX0_gatherPushes 111 = .ok (.aload_n 1, 1) := by decide +kernel
theorem dX0_gatherPushes_112 : decode cX0_gatherPushes 112 = .ok (.getfield 88, 3) := by decide +kernel
theorem dX0_gatherPushes_115 : decode cX0_gatherPushes 115 = .ok (.iload_n 2, 1) := by decide +kernel
theorem dX0_gatherPushes_116 : decode cX0_gatherPushes 116 = .ok (.iaload, 1) := by decide +kernel
theorem dX0_gatherPushes_117 : decode cX0_gatherPushes 117 = .ok (.i2l, 1) := by decide +kernel
theorem dX0_gatherPushes_118 : decode cX0_gatherPushes 118 = .ok (.aload_n 0, 1) := by decide +kernel
theorem dX0_gatherPushes_119 : decode cX0_gatherPushes 119 = .ok (.getfield 11, 3) := by decide +kernel
theorem dX0_gatherPushes_122 : decode cX0_gatherPushes 122 = .ok (.iload_n 2, 1) := by decide +kernel
theorem dX0_gatherPushes_123 : decode cX0_gatherPushes 123 = .ok (.iaload, 1) := by decide +kernel
theorem dX0_gatherPushes_124 : decode cX0_gatherPushes 124 = .ok (.i2l, 1) := by decide +kernel
theorem dX0_gatherPushes_125 : decode cX0_gatherPushes 125 = .ok (.lmul, 1) := by decide +kernel
theorem dX0_gatherPushes_126 : decode cX0_gatherPushes 126 = .ok (.ldc2_w 86, 3) := by decide +kernel
theorem dX0_gatherPushes_129 : decode cX0_gatherPushes 129 = .ok (.ldiv, 1) := by decide +kernel
theorem dX0_gatherPushes_130 : decode cX0_gatherPushes 130 = .ok (.aload_n 1, 1) := by decide +kernel
theorem dX0_gatherPushes_131 : decode cX0_gatherPushes 131 = .ok (.getfield 91, 3) := by decide +kernel
theorem dX0_gatherPushes_134 : decode cX0_gatherPushes 134 = .ok (.iload_n 2, 1) := by decide +kernel
theorem dX0_gatherPushes_135 : decode cX0_gatherPushes 135 = .ok (.iaload, 1) := by decide +kernel
theorem dX0_gatherPushes_136 : decode cX0_gatherPushes 136 = .ok (.ineg, 1) := by decide +kernel
theorem dX0_gatherPushes_137 : decode cX0_gatherPushes 137 = .ok (.aload_n 1, 1) := by decide +kernel
theorem dX0_gatherPushes_138 : decode cX0_gatherPushes 138 = .ok (.getfield 91, 3) := by decide +kernel
theorem dX0_gatherPushes_141 : decode cX0_gatherPushes 141 = .ok (.iload_n 2, 1) := by decide +kernel
theorem dX0_gatherPushes_142 : decode cX0_gatherPushes 142 = .ok (.iaload, 1) := by decide +kernel
theorem dX0_gatherPushes_143 : decode cX0_gatherPushes 143 = .ok (.invokestatic 94, 3) := by decide +kernel
theorem dX0_gatherPushes_146 : decode cX0_gatherPushes 146 = .ok (.i2l, 1) := by decide +kernel
theorem dX0_gatherPushes_147 : decode cX0_gatherPushes 147 = .ok (.lsub, 1) := by decide +kernel
theorem dX0_gatherPushes_148 : decode cX0_gatherPushes 148 = .ok (.lastore, 1) := by decide +kernel
theorem dX0_gatherPushes_149 : decode cX0_gatherPushes 149 = .ok (.iinc 2 1, 3) := by decide +kernel
theorem dX0_gatherPushes_152 : decode cX0_gatherPushes 152 = .ok (.goto (-56), 3) := by decide +kernel
theorem dX0_gatherPushes_155 : decode cX0_gatherPushes 155 = .ok (.aload_n 0, 1) := by decide +kernel
theorem dX0_gatherPushes_156 : decode cX0_gatherPushes 156 = .ok (.getfield 25, 3) := by decide +kernel
theorem dX0_gatherPushes_159 : decode cX0_gatherPushes 159 = .ok (.iconst 1, 1) := by decide +kernel
theorem dX0_gatherPushes_160 : decode cX0_gatherPushes 160 = .ok (.isub, 1) := by decide +kernel
theorem dX0_gatherPushes_161 : decode cX0_gatherPushes 161 = .ok (.istore_n 2, 1) := by decide +kernel
theorem dX0_gatherPushes_162 : decode cX0_gatherPushes 162 = .ok (.aload_n 0, 1) := by decide +kernel
theorem dX0_gatherPushes_163 : decode cX0_gatherPushes 163 = .ok (.getfield 18, 3) := by decide +kernel
theorem dX0_gatherPushes_166 : decode cX0_gatherPushes 166 = .ok (.iload_n 2, 1) := by decide +kernel
theorem dX0_gatherPushes_167 : decode cX0_gatherPushes 167 = .ok (.dup2, 1) := by decide +kernel
theorem dX0_gatherPushes_168 : decode cX0_gatherPushes 168 = .ok (.laload, 1) := by decide +kernel
theorem dX0_gatherPushes_169 : decode cX0_gatherPushes 169 = .ok (.aload_n 1, 1) := by decide +kernel
theorem dX0_gatherPushes_170 : decode cX0_gatherPushes 170 = .ok (.getfield 98, 3) := by decide +kernel
theorem dX0_gatherPushes_173 : decode cX0_gatherPushes 173 = .ok (.i2l, 1) := by decide +kernel
theorem dX0_gatherPushes_174 : decode cX0_gatherPushes 174 = .ok (.aload_n 0, 1) := by decide +kernel
theorem dX0_gatherPushes_175 : decode cX0_gatherPushes 175 = .ok (.getfield 11, 3) := by decide +kernel
theorem dX0_gatherPushes_178 : decode cX0_gatherPushes 178 = .ok (.iload_n 2, 1) := by decide +kernel
theorem dX0_gatherPushes_179 : decode cX0_gatherPushes 179 = .ok (.iaload, 1) := by decide +kernel
theorem dX0_gatherPushes_180 : decode cX0_gatherPushes 180 = .ok (.i2l, 1) := by decide +kernel
theorem dX0_gatherPushes_181 : decode cX0_gatherPushes 181 = .ok (.lmul, 1) := by decide +kernel
theorem dX0_gatherPushes_182 : decode cX0_gatherPushes 182 = .ok (.ldc2_w 86, 3) := by decide +kernel
theorem dX0_gatherPushes_185 : decode cX0_gatherPushes 185 = .ok (.ldiv, 1) := by decide +kernel
theorem dX0_gatherPushes_186 : decode cX0_gatherPushes 186 = .ok (.iconst 0, 1) := by decide +kernel
theorem dX0_gatherPushes_187 : decode cX0_gatherPushes 187 = .ok (.aload_n 1, 1) := by decide +kernel
theorem dX0_gatherPushes_188 : decode cX0_gatherPushes 188 = .ok (.getfield 101, 3) := by decide +kernel
theorem dX0_gatherPushes_191 : decode cX0_gatherPushes 191 = .ok (.invokestatic 94, 3) := by decide +kernel
theorem dX0_gatherPushes_194 : decode cX0_gatherPushes 194 = .ok (.i2l, 1) := by decide +kernel
theorem dX0_gatherPushes_195 : decode cX0_gatherPushes 195 = .ok (.lsub, 1) := by decide +kernel
theorem dX0_gatherPushes_196 : decode cX0_gatherPushes 196 = .ok (.lastore, 1) := by decide +kernel
theorem dX0_gatherPushes_197 : decode cX0_gatherPushes 197 = .ok (.return_, 1) := by decide +kernel
theorem dX0_press_0 : decode cX0_press 0 = .ok (.aload_n 0, 1) := by decide +kernel
theorem dX0_press_1 : decode cX0_press 1 = .ok (.getfield 18, 3) := by decide +kernel
theorem dX0_press_4 : decode cX0_press 4 = .ok (.iload_n 1, 1) := by decide +kernel
theorem dX0_press_5 : decode cX0_press 5 = .ok (.dup2, 1) := by decide +kernel
theorem dX0_press_6 : decode cX0_press 6 = .ok (.laload, 1) := by decide +kernel
theorem dX0_press_7 : decode cX0_press 7 = .ok (.lload_n 3, 1) := by decide +kernel
theorem dX0_press_8 : decode cX0_press 8 = .ok (.lsub, 1) := by decide +kernel
theorem dX0_press_9 : decode cX0_press 9 = .ok (.lastore, 1) := by decide +kernel
theorem dX0_press_10 : decode cX0_press 10 = .ok (.aload_n 0, 1) := by decide +kernel
theorem dX0_press_11 : decode cX0_press 11 = .ok (.getfield 18, 3) := by decide +kernel
theorem dX0_press_14 : decode cX0_press 14 = .ok (.iload_n 2, 1) := by decide +kernel
theorem dX0_press_15 : decode cX0_press 15 = .ok (.dup2, 1) := by decide +kernel
theorem dX0_press_16 : decode cX0_press 16 = .ok (.laload, 1) := by decide +kernel
theorem dX0_press_17 : decode cX0_press 17 = .ok (.lload_n 3, 1) := by decide +kernel
theorem dX0_press_18 : decode cX0_press 18 = .ok (.ladd, 1) := by decide +kernel
theorem dX0_press_19 : decode cX0_press 19 = .ok (.lastore, 1) := by decide +kernel
theorem dX0_press_20 : decode cX0_press 20 = .ok (.return_, 1) := by decide +kernel
set_option maxRecDepth 20000 in
theorem ggX0_move_X3_clamp : GoodIn wsX0_move wsX3_clamp := goodIn_r _ [9] (by decide +kernel) (by decide +kernel)
set_option maxRecDepth 20000 in
theorem gX0_move_X3_clamp_n94 : GoodIn wsX0_move (wsX3_clamp) := ggX0_move_X3_clamp
theorem dX0_move_0 : decode cX0_move 0 = .ok (.iload_n 2, 1) := by decide +kernel
theorem dX0_move_1 : decode cX0_move 1 = .ok (.ifCond .ne 7, 3) := by decide +kernel
theorem dX0_move_4 : decode cX0_move 4 = .ok (.lconst 0, 1) := by decide +kernel
theorem dX0_move_5 : decode cX0_move 5 = .ok (.goto 16, 3) := by decide +kernel
theorem dX0_move_8 : decode cX0_move 8 = .ok (.ldc2_w 86, 3) := by decide +kernel
theorem dX0_move_11 : decode cX0_move 11 = .ok (.aload_n 0, 1) := by decide +kernel
theorem dX0_move_12 : decode cX0_move 12 = .ok (.getfield 18, 3) := by decide +kernel
theorem dX0_move_15 : decode cX0_move 15 = .ok (.iload_n 1, 1) := by decide +kernel
theorem dX0_move_16 : decode cX0_move 16 = .ok (.laload, 1) := by decide +kernel
theorem dX0_move_17 : decode cX0_move 17 = .ok (.lmul, 1) := by decide +kernel
theorem dX0_move_18 : decode cX0_move 18 = .ok (.iload_n 2, 1) := by decide +kernel
theorem dX0_move_19 : decode cX0_move 19 = .ok (.i2l, 1) := by decide +kernel
theorem dX0_move_20 : decode cX0_move 20 = .ok (.ldiv, 1) := by decide +kernel
theorem dX0_move_21 : decode cX0_move 21 = .ok (.lstore_n 3, 1) := by decide +kernel
theorem dX0_move_22 : decode cX0_move 22 = .ok (.aload_n 0, 1) := by decide +kernel
theorem dX0_move_23 : decode cX0_move 23 = .ok (.getfield 15, 3) := by decide +kernel
theorem dX0_move_26 : decode cX0_move 26 = .ok (.iload_n 1, 1) := by decide +kernel
theorem dX0_move_27 : decode cX0_move 27 = .ok (.aload_n 0, 1) := by decide +kernel
theorem dX0_move_28 : decode cX0_move 28 = .ok (.getfield 15, 3) := by decide +kernel
theorem dX0_move_31 : decode cX0_move 31 = .ok (.iload_n 1, 1) := by decide +kernel
theorem dX0_move_32 : decode cX0_move 32 = .ok (.iaload, 1) := by decide +kernel
theorem dX0_move_33 : decode cX0_move 33 = .ok (.i2l, 1) := by decide +kernel
theorem dX0_move_34 : decode cX0_move 34 = .ok (.lload_n 3, 1) := by decide +kernel
theorem dX0_move_35 : decode cX0_move 35 = .ok (.ladd, 1) := by decide +kernel
theorem dX0_move_36 : decode cX0_move 36 = .ok (.ldc 104, 2) := by decide +kernel
theorem dX0_move_38 : decode cX0_move 38 = .ok (.ldc 105, 2) := by decide +kernel
theorem dX0_move_40 : decode cX0_move 40 = .ok (.invokestatic 94, 3) := by decide +kernel
theorem dX0_move_43 : decode cX0_move 43 = .ok (.iastore, 1) := by decide +kernel
theorem dX0_move_44 : decode cX0_move 44 = .ok (.aload_n 0, 1) := by decide +kernel
theorem dX0_move_45 : decode cX0_move 45 = .ok (.getfield 11, 3) := by decide +kernel
theorem dX0_move_48 : decode cX0_move 48 = .ok (.iload_n 1, 1) := by decide +kernel
theorem dX0_move_49 : decode cX0_move 49 = .ok (.dup2, 1) := by decide +kernel
theorem dX0_move_50 : decode cX0_move 50 = .ok (.iaload, 1) := by decide +kernel
theorem dX0_move_51 : decode cX0_move 51 = .ok (.aload_n 0, 1) := by decide +kernel
theorem dX0_move_52 : decode cX0_move 52 = .ok (.getfield 15, 3) := by decide +kernel
theorem dX0_move_55 : decode cX0_move 55 = .ok (.iload_n 1, 1) := by decide +kernel
theorem dX0_move_56 : decode cX0_move 56 = .ok (.iaload, 1) := by decide +kernel
theorem dX0_move_57 : decode cX0_move 57 = .ok (.sipush 1000, 3) := by decide +kernel
theorem dX0_move_60 : decode cX0_move 60 = .ok (.idiv, 1) := by decide +kernel
theorem dX0_move_61 : decode cX0_move 61 = .ok (.iadd, 1) := by decide +kernel
theorem dX0_move_62 : decode cX0_move 62 = .ok (.iastore, 1) := by decide +kernel
theorem dX0_move_63 : decode cX0_move 63 = .ok (.return_, 1) := by decide +kernel
theorem dX1_init_0 : decode cX1_init 0 = .ok (.aload_n 0, 1) := by decide +kernel
theorem dX1_init_1 : decode cX1_init 1 = .ok (.invokespecial 1, 3) := by decide +kernel
theorem dX1_init_4 : decode cX1_init 4 = .ok (.aload_n 0, 1) := by decide +kernel
theorem dX1_init_5 : decode cX1_init 5 = .ok (.iload_n 2, 1) := by decide +kernel
theorem dX1_init_6 : decode cX1_init 6 = .ok (.putfield 7, 3) := by decide +kernel
theorem dX1_init_9 : decode cX1_init 9 = .ok (.aload_n 0, 1) := by decide +kernel
theorem dX1_init_10 : decode cX1_init 10 = .ok (.iload_n 3, 1) := by decide +kernel
theorem dX1_init_11 : decode cX1_init 11 = .ok (.putfield 13, 3) := by decide +kernel
theorem dX1_init_14 : decode cX1_init 14 = .ok (.aload_n 0, 1) := by decide +kernel
theorem dX1_init_15 : decode cX1_init 15 = .ok (.iload 4, 2) := by decide +kernel
theorem dX1_init_17 : decode cX1_init 17 = .ok (.putfield 16, 3) := by decide +kernel
theorem dX1_init_20 : decode cX1_init 20 = .ok (.aload_n 0, 1) := by decide +kernel
theorem dX1_init_21 : decode cX1_init 21 = .ok (.iload_n 1, 1) := by decide +kernel
theorem dX1_init_22 : decode cX1_init 22 = .ok (.newarray .int, 2) := by decide +kernel
theorem dX1_init_24 : decode cX1_init 24 = .ok (.putfield 19, 3) := by decide +kernel
theorem dX1_init_27 : decode cX1_init 27 = .ok (.aload_n 0, 1) := by decide +kernel
theorem dX1_init_28 : decode cX1_init 28 = .ok (.iload_n 1, 1) := by decide +kernel
theorem dX1_init_29 : decode cX1_init 29 = .ok (.newarray .int, 2) := by decide +kernel
theorem dX1_init_31 : decode cX1_init 31 = .ok (.putfield 23, 3) := by decide +kernel
theorem dX1_init_34 : decode cX1_init 34 = .ok (.aload_n 0, 1) := by decide +kernel
theorem dX1_init_35 : decode cX1_init 35 = .ok (.iload_n 1, 1) := by decide +kernel
theorem dX1_init_36 : decode cX1_init 36 = .ok (.newarray .int, 2) := by decide +kernel
theorem dX1_init_38 : decode cX1_init 38 = .ok (.putfield 26, 3) := by decide +kernel
theorem dX1_init_41 : decode cX1_init 41 = .ok (.return_, 1) := by decide +kernel
theorem dX1_pieces_0 : decode cX1_pieces 0 = .ok (.aload_n 0, 1) := by decide +kernel
theorem dX1_pieces_1 : decode cX1_pieces 1 = .ok (.getfield 19, 3) := by decide +kernel
theorem dX1_pieces_4 : decode cX1_pieces 4 = .ok (.arraylength, 1) := by decide +kernel
theorem dX1_pieces_5 : decode cX1_pieces 5 = .ok (.ireturn, 1) := by decide +kernel
theorem dX1_quake_0 : decode cX1_quake 0 = .ok (.aload_n 0, 1) := by decide +kernel
theorem dX1_quake_1 : decode cX1_quake 1 = .ok (.getfield 29, 3) := by decide +kernel
theorem dX1_quake_4 : decode cX1_quake 4 = .ok (.ifCond .ne 7, 3) := by decide +kernel
theorem dX1_quake_7 : decode cX1_quake 7 = .ok (.lconst 0, 1) := by decide +kernel
theorem dX1_quake_8 : decode cX1_quake 8 = .ok (.goto 18, 3) := by decide +kernel
theorem dX1_quake_11 : decode cX1_quake 11 = .ok (.ldc2_w 32, 3) := by decide +kernel
theorem dX1_quake_14 : decode cX1_quake 14 = .ok (.aload_n 0, 1) := by decide +kernel
theorem dX1_quake_15 : decode cX1_quake 15 = .ok (.getfield 34, 3) := by decide +kernel
theorem dX1_quake_18 : decode cX1_quake 18 = .ok (.i2l, 1) := by decide +kernel
theorem dX1_quake_19 : decode cX1_quake 19 = .ok (.lmul, 1) := by decide +kernel
theorem dX1_quake_20 : decode cX1_quake 20 = .ok (.aload_n 0, 1) := by decide +kernel
theorem dX1_quake_21 : decode cX1_quake 21 = .ok (.getfield 29, 3) := by decide +kernel
theorem dX1_quake_24 : decode cX1_quake 24 = .ok (.i2l, 1) := by decide +kernel
theorem dX1_quake_25 : decode cX1_quake 25 = .ok (.ldiv, 1) := by decide +kernel
theorem dX1_quake_26 : decode cX1_quake 26 = .ok (.lreturn, 1) := by decide +kernel
theorem dX2_init_0 : decode cX2_init 0 = .ok (.aload_n 0, 1) := by decide +kernel
theorem dX2_init_1 : decode cX2_init 1 = .ok (.invokespecial 3, 3) := by decide +kernel
theorem dX2_init_4 : decode cX2_init 4 = .ok (.return_, 1) := by decide +kernel
set_option maxRecDepth 20000 in
theorem ggX2_findUnder_X2_find : GoodIn wsX2_findUnder wsX2_find := goodIn_r _ [7, 8, 9, 1, 2, 10, 11, 12, 13, 14, 15, 6, 16, 17, 18, 19, 20, 21, 22, 23, 24, 25, 26, 27, 28, 29, 30, 31, 32, 33, 34, 35, 36, 37, 38, 39, 40, 41, 42, 43, 44, 45, 46, 47, 48, 49] (by decide +kernel) (by decide +kernel)
set_option maxRecDepth 20000 in
theorem gX2_findUnder_X2_find : GoodIn wsX2_findUnder (wsV RX2 9 RX2 yX2_find wsX2_find) := goodIn_app (goodIn_of _ (by decide +kernel)) ggX2_findUnder_X2_find
theorem dX2_findUnder_0 : decode cX2_findUnder 0 = .ok (.aload_n 0, 1) := by decide +kernel
theorem dX2_findUnder_1 : decode cX2_findUnder 1 = .ok (.aload_n 1, 1) := by decide +kernel
theorem dX2_findUnder_2 : decode cX2_findUnder 2 = .ok (.iload_n 2, 1) := by decide +kernel
theorem dX2_findUnder_3 : decode cX2_findUnder 3 = .ok (.iconst 1, 1) := by decide +kernel
theorem dX2_findUnder_4 : decode cX2_findUnder 4 = .ok (.invokevirtual 9, 3) := by decide +kernel
theorem dX2_findUnder_7 : decode cX2_findUnder 7 = .ok (.ifCond .eq 16, 3) := by decide +kernel
theorem dX2_findUnder_10 : decode cX2_findUnder 10 = .ok (.aload_n 0, 1) := by decide +kernel
theorem dX2_findUnder_11 : decode cX2_findUnder 11 = .ok (.getfield 15, 3) := by decide +kernel
theorem dX2_findUnder_14 : decode cX2_findUnder 14 = .ok (.ldc 19, 2) := by decide +kernel
theorem dX2_findUnder_16 : decode cX2_findUnder 16 = .ok (.if_icmp .ge 7, 3) := by decide +kernel
theorem dX2_findUnder_19 : decode cX2_findUnder 19 = .ok (.iconst 1, 1) := by decide +kernel
theorem dX2_findUnder_20 : decode cX2_findUnder 20 = .ok (.goto 4, 3) := by decide +kernel
theorem dX2_findUnder_23 : decode cX2_findUnder 23 = .ok (.iconst 0, 1) := by decide +kernel
theorem dX2_findUnder_24 : decode cX2_findUnder 24 = .ok (.ireturn, 1) := by decide +kernel
set_option maxRecDepth 20000 in
theorem ggX2_findAt_X2_find : GoodIn wsX2_findAt wsX2_find := goodIn_r _ [5, 6, 7, 8, 9, 10, 11, 12, 13, 14, 15, 4, 16, 17, 18, 19, 20, 21, 22, 23, 24, 25, 26, 27, 28, 29, 30, 31, 32, 33, 34, 35, 36, 37, 38, 39, 40, 41, 42, 43, 44, 45, 46, 47, 48, 49] (by decide +kernel) (by decide +kernel)
set_option maxRecDepth 20000 in
theorem gX2_findAt_X2_find : GoodIn wsX2_findAt (wsV RX2 9 RX2 yX2_find wsX2_find) := goodIn_app (goodIn_of _ (by decide +kernel)) ggX2_findAt_X2_find
theorem dX2_findAt_0 : decode cX2_findAt 0 = .ok (.aload_n 0, 1) := by decide +kernel
theorem dX2_findAt_1 : decode cX2_findAt 1 = .ok (.aload_n 1, 1) := by decide +kernel
theorem dX2_findAt_2 : decode cX2_findAt 2 = .ok (.iload_n 2, 1) := by decide +kernel
theorem dX2_findAt_3 : decode cX2_findAt 3 = .ok (.iconst 0, 1) := by decide +kernel
theorem dX2_findAt_4 : decode cX2_findAt 4 = .ok (.invokevirtual 9, 3) := by decide +kernel
theorem dX2_findAt_7 : decode cX2_findAt 7 = .ok (.ireturn, 1) := by decide +kernel
set_option maxRecDepth 20000 in
theorem ggX2_climb_X1_pieces : GoodIn wsX2_climb wsX1_pieces := goodIn_r _ [15, 16, 28, 29, 30, 31, 32, 33, 34, 35, 36] (by decide +kernel) (by decide +kernel)
set_option maxRecDepth 20000 in
theorem gX2_climb_X1_pieces : GoodIn wsX2_climb (wsV RX2 20 RX1 yX1_pieces wsX1_pieces) := goodIn_app (goodIn_of _ (by decide +kernel)) ggX2_climb_X1_pieces
set_option maxRecDepth 20000 in
theorem ggX2_climb_X3_clamp : GoodIn wsX2_climb wsX3_clamp := goodIn_r _ [19] (by decide +kernel) (by decide +kernel)
set_option maxRecDepth 20000 in
theorem gX2_climb_X3_clamp_n35 : GoodIn wsX2_climb (wsX3_clamp) := ggX2_climb_X3_clamp
set_option maxRecDepth 20000 in
theorem ggX2_climb_J9_floorDiv_7cf53 : GoodIn wsX2_climb wsJ9_floorDiv_7cf53 := goodIn_r _ [23] (by decide +kernel) (by decide +kernel)
set_option maxRecDepth 20000 in
theorem gX2_climb_J9_floorDiv_7cf53 : GoodIn wsX2_climb (va_wsS RX2 45 yJ9_floorDiv_7cf53 wsJ9_floorDiv_7cf53) := goodIn_app (goodIn_of _ (by decide +kernel)) ggX2_climb_J9_floorDiv_7cf53
theorem dX2_climb_0 : decode cX2_climb 0 = .ok (.aload_n 1, 1) := by decide +kernel
theorem dX2_climb_1 : decode cX2_climb 1 = .ok (.invokevirtual 20, 3) := by decide +kernel
theorem dX2_climb_4 : decode cX2_climb 4 = .ok (.iconst 1, 1) := by decide +kernel
theorem dX2_climb_5 : decode cX2_climb 5 = .ok (.isub, 1) := by decide +kernel
theorem dX2_climb_6 : decode cX2_climb 6 = .ok (.istore_n 3, 1) := by decide +kernel
theorem dX2_climb_7 : decode cX2_climb 7 = .ok (.aload_n 0, 1) := by decide +kernel
theorem dX2_climb_8 : decode cX2_climb 8 = .ok (.aload_n 0, 1) := by decide +kernel
theorem dX2_climb_9 : decode cX2_climb 9 = .ok (.getfield 15, 3) := by decide +kernel
theorem dX2_climb_12 : decode cX2_climb 12 = .ok (.putfield 26, 3) := by decide +kernel
theorem dX2_climb_15 : decode cX2_climb 15 = .ok (.aload_n 0, 1) := by decide +kernel
theorem dX2_climb_16 : decode cX2_climb 16 = .ok (.aload_n 1, 1) := by decide +kernel
theorem dX2_climb_17 : decode cX2_climb 17 = .ok (.getfield 29, 3) := by decide +kernel
theorem dX2_climb_20 : decode cX2_climb 20 = .ok (.i2l, 1) := by decide +kernel
theorem dX2_climb_21 : decode cX2_climb 21 = .ok (.aload_n 0, 1) := by decide +kernel
theorem dX2_climb_22 : decode cX2_climb 22 = .ok (.getfield 15, 3) := by decide +kernel
theorem dX2_climb_25 : decode cX2_climb 25 = .ok (.i2l, 1) := by decide +kernel
theorem dX2_climb_26 : decode cX2_climb 26 = .ok (.lmul, 1) := by decide +kernel
theorem dX2_climb_27 : decode cX2_climb 27 = .ok (.iconst 0, 1) := by decide +kernel
theorem dX2_climb_28 : decode cX2_climb 28 = .ok (.aload_n 1, 1) := by decide +kernel
theorem dX2_climb_29 : decode cX2_climb 29 = .ok (.getfield 32, 3) := by decide +kernel
theorem dX2_climb_32 : decode cX2_climb 32 = .ok (.invokestatic 35, 3) := by decide +kernel
theorem dX2_climb_35 : decode cX2_climb 35 = .ok (.putfield 39, 3) := by decide +kernel
theorem dX2_climb_38 : decode cX2_climb 38 = .ok (.iload_n 3, 1) := by decide +kernel
theorem dX2_climb_39 : decode cX2_climb 39 = .ok (.istore 4, 2) := by decide +kernel
theorem dX2_climb_41 : decode cX2_climb 41 = .ok (.iload 4, 2) := by decide +kernel
theorem dX2_climb_43 : decode cX2_climb 43 = .ok (.iload_n 2, 1) := by decide +kernel
theorem dX2_climb_44 : decode cX2_climb 44 = .ok (.if_icmp .lt 108, 3) := by decide +kernel
theorem dX2_climb_47 : decode cX2_climb 47 = .ok (.iload 4, 2) := by decide +kernel
theorem dX2_climb_49 : decode cX2_climb 49 = .ok (.ifCond .lt 103, 3) := by decide +kernel
theorem dX2_climb_52 : decode cX2_climb 52 = .ok (.iload 4, 2) := by decide +kernel
theorem dX2_climb_54 : decode cX2_climb 54 = .ok (.iload_n 3, 1) := by decide +kernel
theorem dX2_climb_55 : decode cX2_climb 55 = .ok (.if_icmp .ge 30, 3) := by decide +kernel
theorem dX2_climb_58 : decode cX2_climb 58 = .ok (.aload_n 1, 1) := by decide +kernel
theorem dX2_climb_59 : decode cX2_climb 59 = .ok (.getfield 42, 3) := by decide +kernel
theorem dX2_climb_62 : decode cX2_climb 62 = .ok (.ifCond .le 23, 3) := by decide +kernel
theorem dX2_climb_65 : decode cX2_climb 65 = .ok (.aload_n 0, 1) := by decide +kernel
theorem dX2_climb_66 : decode cX2_climb 66 = .ok (.dup, 1) := by decide +kernel
theorem dX2_climb_67 : decode cX2_climb 67 = .ok (.getfield 26, 3) := by decide +kernel
theorem dX2_climb_70 : decode cX2_climb 70 = .ok (.aload_n 0, 1) := by decide +kernel
theorem dX2_climb_71 : decode cX2_climb 71 = .ok (.getfield 39, 3) := by decide +kernel
theorem dX2_climb_74 : decode cX2_climb 74 = .ok (.aload_n 1, 1) := by decide +kernel
theorem dX2_climb_75 : decode cX2_climb 75 = .ok (.getfield 42, 3) := by decide +kernel
theorem dX2_climb_78 : decode cX2_climb 78 = .ok (.invokestatic 45, 3) := by decide +kernel
theorem dX2_climb_81 : decode cX2_climb 81 = .ok (.iadd, 1) := by decide +kernel
theorem dX2_climb_82 : decode cX2_climb 82 = .ok (.putfield 26, 3) := by decide +kernel
theorem dX2_climb_85 : decode cX2_climb 85 = .ok (.aload_n 1, 1) := by decide +kernel
theorem dX2_climb_86 : decode cX2_climb 86 = .ok (.getfield 51, 3) := by decide +kernel
theorem dX2_climb_89 : decode cX2_climb 89 = .ok (.iload 4, 2) := by decide +kernel
theorem dX2_climb_91 : decode cX2_climb 91 = .ok (.iaload, 1) := by decide +kernel
theorem dX2_climb_92 : decode cX2_climb 92 = .ok (.i2l, 1) := by decide +kernel
theorem dX2_climb_93 : decode cX2_climb 93 = .ok (.aload_n 0, 1) := by decide +kernel
theorem dX2_climb_94 : decode cX2_climb 94 = .ok (.getfield 26, 3) := by decide +kernel
theorem dX2_climb_97 : decode cX2_climb 97 = .ok (.aload_n 1, 1) := by decide +kernel
theorem dX2_climb_98 : decode cX2_climb 98 = .ok (.getfield 55, 3) := by decide +kernel
theorem dX2_climb_101 : decode cX2_climb 101 = .ok (.iload 4, 2) := by decide +kernel
theorem dX2_climb_103 : decode cX2_climb 103 = .ok (.iaload, 1) := by decide +kernel
theorem dX2_climb_104 : decode cX2_climb 104 = .ok (.isub, 1) := by decide +kernel
theorem dX2_climb_105 : decode cX2_climb 105 = .ok (.i2l, 1) := by decide +kernel
theorem dX2_climb_106 : decode cX2_climb 106 = .ok (.lmul, 1) := by decide +kernel
theorem dX2_climb_107 : decode cX2_climb 107 = .ok (.lstore 5, 2) := by decide +kernel
theorem dX2_climb_109 : decode cX2_climb 109 = .ok (.aload_n 0, 1) := by decide +kernel
theorem dX2_climb_110 : decode cX2_climb 110 = .ok (.lload 5, 2) := by decide +kernel
theorem dX2_climb_112 : decode cX2_climb 112 = .ok (.aload_n 1, 1) := by decide +kernel
theorem dX2_climb_113 : decode cX2_climb 113 = .ok (.getfield 58, 3) := by decide +kernel
theorem dX2_climb_116 : decode cX2_climb 116 = .ok (.iload 4, 2) := by decide +kernel
theorem dX2_climb_118 : decode cX2_climb 118 = .ok (.iaload, 1) := by decide +kernel
theorem dX2_climb_119 : decode cX2_climb 119 = .ok (.ineg, 1) := by decide +kernel
theorem dX2_climb_120 : decode cX2_climb 120 = .ok (.aload_n 1, 1) := by decide +kernel
theorem dX2_climb_121 : decode cX2_climb 121 = .ok (.getfield 58, 3) := by decide +kernel
theorem dX2_climb_124 : decode cX2_climb 124 = .ok (.iload 4, 2) := by decide +kernel
theorem dX2_climb_126 : decode cX2_climb 126 = .ok (.iaload, 1) := by decide +kernel
theorem dX2_climb_127 : decode cX2_climb 127 = .ok (.invokestatic 35, 3) := by decide +kernel
theorem dX2_climb_130 : decode cX2_climb 130 = .ok (.putfield 61, 3) := by decide +kernel
theorem dX2_climb_133 : decode cX2_climb 133 = .ok (.aload_n 0, 1) := by decide +kernel
theorem dX2_climb_134 : decode cX2_climb 134 = .ok (.dup, 1) := by decide +kernel
theorem dX2_climb_135 : decode cX2_climb 135 = .ok (.getfield 39, 3) := by decide +kernel
theorem dX2_climb_138 : decode cX2_climb 138 = .ok (.aload_n 0, 1) := by decide +kernel
theorem dX2_climb_139 : decode cX2_climb 139 = .ok (.getfield 61, 3) := by decide +kernel
theorem dX2_climb_142 : decode cX2_climb 142 = .ok (.iadd, 1) := by decide +kernel
theorem dX2_climb_143 : decode cX2_climb 143 = .ok (.putfield 39, 3) := by decide +kernel
theorem dX2_climb_146 : decode cX2_climb 146 = .ok (.iinc 4 (-1), 3) := by decide +kernel
theorem dX2_climb_149 : decode cX2_climb 149 = .ok (.goto (-108), 3) := by decide +kernel
theorem dX2_climb_152 : decode cX2_climb 152 = .ok (.return_, 1) := by decide +kernel
set_option maxRecDepth 20000 in
theorem ggX2_find_X2_climb : GoodIn wsX2_find wsX2_climb := goodIn_r _ [12, 3, 6, 13, 14, 5, 15, 16, 17, 18, 19, 20, 21, 22, 23, 24, 25, 26, 27, 28, 29, 30, 31, 32, 33, 34, 35, 36, 37, 38, 39, 40, 41, 42, 43, 44, 45] (by decide +kernel) (by decide +kernel)
set_option maxRecDepth 20000 in
theorem gX2_find_X2_climb : GoodIn wsX2_find (wsV RX2 66 RX2 yX2_climb wsX2_climb) := goodIn_app (goodIn_of _ (by decide +kernel)) ggX2_find_X2_climb
theorem dX2_find_0 : decode cX2_find 0 = .ok (.ldc 64, 2) := by decide +kernel
theorem dX2_find_2 : decode cX2_find 2 = .ok (.istore 4, 2) := by decide +kernel
theorem dX2_find_4 : decode cX2_find 4 = .ok (.ldc 65, 2) := by decide +kernel
theorem dX2_find_6 : decode cX2_find 6 = .ok (.istore 5, 2) := by decide +kernel
theorem dX2_find_8 : decode cX2_find 8 = .ok (.iload 5, 2) := by decide +kernel
theorem dX2_find_10 : decode cX2_find 10 = .ok (.ifCond .le 64, 3) := by decide +kernel
theorem dX2_find_13 : decode cX2_find 13 = .ok (.aload_n 0, 1) := by decide +kernel
theorem dX2_find_14 : decode cX2_find 14 = .ok (.iload 4, 2) := by decide +kernel
theorem dX2_find_16 : decode cX2_find 16 = .ok (.iload 5, 2) := by decide +kernel
theorem dX2_find_18 : decode cX2_find 18 = .ok (.iadd, 1) := by decide +kernel
theorem dX2_find_19 : decode cX2_find 19 = .ok (.putfield 15, 3) := by decide +kernel
theorem dX2_find_22 : decode cX2_find 22 = .ok (.aload_n 0, 1) := by decide +kernel
theorem dX2_find_23 : decode cX2_find 23 = .ok (.getfield 15, 3) := by decide +kernel
theorem dX2_find_26 : decode cX2_find 26 = .ok (.ldc 19, 2) := by decide +kernel
theorem dX2_find_28 : decode cX2_find 28 = .ok (.if_icmp .le 6, 3) := by decide +kernel
theorem dX2_find_31 : decode cX2_find 31 = .ok (.goto 34, 3) := by decide +kernel
theorem dX2_find_34 : decode cX2_find 34 = .ok (.aload_n 0, 1) := by decide +kernel
theorem dX2_find_35 : decode cX2_find 35 = .ok (.aload_n 1, 1) := by decide +kernel
theorem dX2_find_36 : decode cX2_find 36 = .ok (.iconst 0, 1) := by decide +kernel
theorem dX2_find_37 : decode cX2_find 37 = .ok (.invokevirtual 66, 3) := by decide +kernel
theorem dX2_find_40 : decode cX2_find 40 = .ok (.iload_n 3, 1) := by decide +kernel
theorem dX2_find_41 : decode cX2_find 41 = .ok (.ifCond .eq 10, 3) := by decide +kernel
theorem dX2_find_44 : decode cX2_find 44 = .ok (.aload_n 0, 1) := by decide +kernel
theorem dX2_find_45 : decode cX2_find 45 = .ok (.getfield 39, 3) := by decide +kernel
theorem dX2_find_48 : decode cX2_find 48 = .ok (.goto 7, 3) := by decide +kernel
theorem dX2_find_51 : decode cX2_find 51 = .ok (.aload_n 0, 1) := by decide +kernel
theorem dX2_find_52 : decode cX2_find 52 = .ok (.getfield 26, 3) := by decide +kernel
theorem dX2_find_55 : decode cX2_find 55 = .ok (.iload_n 2, 1) := by decide +kernel
theorem dX2_find_56 : decode cX2_find 56 = .ok (.if_icmp .gt 9, 3) := by decide +kernel
theorem dX2_find_59 : decode cX2_find 59 = .ok (.aload_n 0, 1) := by decide +kernel
theorem dX2_find_60 : decode cX2_find 60 = .ok (.getfield 15, 3) := by decide +kernel
theorem dX2_find_63 : decode cX2_find 63 = .ok (.istore 4, 2) := by decide +kernel
theorem dX2_find_65 : decode cX2_find 65 = .ok (.iload 5, 2) := by decide +kernel
theorem dX2_find_67 : decode cX2_find 67 = .ok (.iconst 2, 1) := by decide +kernel
theorem dX2_find_68 : decode cX2_find 68 = .ok (.idiv, 1) := by decide +kernel
theorem dX2_find_69 : decode cX2_find 69 = .ok (.istore 5, 2) := by decide +kernel
theorem dX2_find_71 : decode cX2_find 71 = .ok (.goto (-63), 3) := by decide +kernel
theorem dX2_find_74 : decode cX2_find 74 = .ok (.aload_n 0, 1) := by decide +kernel
theorem dX2_find_75 : decode cX2_find 75 = .ok (.iload 4, 2) := by decide +kernel
theorem dX2_find_77 : decode cX2_find 77 = .ok (.putfield 15, 3) := by decide +kernel
theorem dX2_find_80 : decode cX2_find 80 = .ok (.aload_n 0, 1) := by decide +kernel
theorem dX2_find_81 : decode cX2_find 81 = .ok (.aload_n 1, 1) := by decide +kernel
theorem dX2_find_82 : decode cX2_find 82 = .ok (.iconst 0, 1) := by decide +kernel
theorem dX2_find_83 : decode cX2_find 83 = .ok (.invokevirtual 66, 3) := by decide +kernel
theorem dX2_find_86 : decode cX2_find 86 = .ok (.iload 4, 2) := by decide +kernel
theorem dX2_find_88 : decode cX2_find 88 = .ok (.ldc 70, 2) := by decide +kernel
theorem dX2_find_90 : decode cX2_find 90 = .ok (.if_icmp .lt 7, 3) := by decide +kernel
theorem dX2_find_93 : decode cX2_find 93 = .ok (.iconst 1, 1) := by decide +kernel
theorem dX2_find_94 : decode cX2_find 94 = .ok (.goto 4, 3) := by decide +kernel
theorem dX2_find_97 : decode cX2_find 97 = .ok (.iconst 0, 1) := by decide +kernel
theorem dX2_find_98 : decode cX2_find 98 = .ok (.ireturn, 1) := by decide +kernel
set_option maxRecDepth 20000 in
theorem ggX3_init_X2_init : GoodIn wsX3_init wsX2_init := goodIn_r _ [16, 17, 2, 3] (by decide +kernel) (by decide +kernel)
set_option maxRecDepth 20000 in
theorem gX3_init_X2_init_n17 : GoodIn wsX3_init (wsX2_init) := ggX3_init_X2_init
set_option maxRecDepth 20000 in
theorem ggX3_init_X0_init : GoodIn wsX3_init wsX0_init := goodIn_r _ [20, 21, 2, 3, 22, 23, 24, 25, 26, 27, 36, 37, 38, 39, 40, 41] (by decide +kernel) (by decide +kernel)
set_option maxRecDepth 20000 in
theorem gX3_init_X0_init : GoodIn wsX3_init (wsX0_init) := ggX3_init_X0_init
theorem dX3_init_0 : decode cX3_init 0 = .ok (.aload_n 0, 1) := by decide +kernel
theorem dX3_init_1 : decode cX3_init 1 = .ok (.invokespecial 1, 3) := by decide +kernel
theorem dX3_init_4 : decode cX3_init 4 = .ok (.aload_n 0, 1) := by decide +kernel
theorem dX3_init_5 : decode cX3_init 5 = .ok (.bipush 6, 2) := by decide +kernel
theorem dX3_init_7 : decode cX3_init 7 = .ok (.anewarray 9, 3) := by decide +kernel
theorem dX3_init_10 : decode cX3_init 10 = .ok (.putfield 11, 3) := by decide +kernel
theorem dX3_init_13 : decode cX3_init 13 = .ok (.aload_n 0, 1) := by decide +kernel
theorem dX3_init_14 : decode cX3_init 14 = .ok (.new 15, 3) := by decide +kernel
theorem dX3_init_17 : decode cX3_init 17 = .ok (.dup, 1) := by decide +kernel
theorem dX3_init_18 : decode cX3_init 18 = .ok (.invokespecial 17, 3) := by decide +kernel
theorem dX3_init_21 : decode cX3_init 21 = .ok (.putfield 18, 3) := by decide +kernel
theorem dX3_init_24 : decode cX3_init 24 = .ok (.aload_n 0, 1) := by decide +kernel
theorem dX3_init_25 : decode cX3_init 25 = .ok (.new 22, 3) := by decide +kernel
theorem dX3_init_28 : decode cX3_init 28 = .ok (.dup, 1) := by decide +kernel
theorem dX3_init_29 : decode cX3_init 29 = .ok (.invokespecial 24, 3) := by decide +kernel
theorem dX3_init_32 : decode cX3_init 32 = .ok (.putfield 25, 3) := by decide +kernel
theorem dX3_init_35 : decode cX3_init 35 = .ok (.aload_n 0, 1) := by decide +kernel
theorem dX3_init_36 : decode cX3_init 36 = .ok (.iconst 0, 1) := by decide +kernel
theorem dX3_init_37 : decode cX3_init 37 = .ok (.putfield 29, 3) := by decide +kernel
theorem dX3_init_40 : decode cX3_init 40 = .ok (.return_, 1) := by decide +kernel
set_option maxRecDepth 20000 in
theorem ggX3_pile_X3_checkWithin : GoodIn wsX3_pile wsX3_checkWithin := goodIn_ca (goodIn_r _ [12, 13, 14] (by decide +kernel) (by decide +kernel)) (goodIn_sub (fun _ h => List.mem_cons_of_mem _ (List.mem_append_right _ h)) (by decide +kernel))
set_option maxRecDepth 20000 in
theorem gX3_pile_X3_checkWithin : GoodIn wsX3_pile (va_wsS RX3 33 yX3_checkWithin wsX3_checkWithin) := goodIn_app (goodIn_of _ (by decide +kernel)) ggX3_pile_X3_checkWithin
set_option maxRecDepth 20000 in
theorem ggX3_pile_X1_init : GoodIn wsX3_pile wsX1_init := goodIn_r _ [17, 18, 19, 20, 21, 22, 23, 24, 25, 26, 27, 32, 33, 34, 35, 36, 37, 38, 39, 40] (by decide +kernel) (by decide +kernel)
set_option maxRecDepth 20000 in
theorem gX3_pile_X1_init : GoodIn wsX3_pile (wsX1_init) := ggX3_pile_X1_init
theorem dX3_pile_0 : decode cX3_pile 0 = .ok (.iload_n 1, 1) := by decide +kernel
theorem dX3_pile_1 : decode cX3_pile 1 = .ok (.iconst 1, 1) := by decide +kernel
theorem dX3_pile_2 : decode cX3_pile 2 = .ok (.bipush 12, 2) := by decide +kernel
theorem dX3_pile_4 : decode cX3_pile 4 = .ok (.invokestatic 33, 3) := by decide +kernel
theorem dX3_pile_7 : decode cX3_pile 7 = .ok (.iload_n 2, 1) := by decide +kernel
theorem dX3_pile_8 : decode cX3_pile 8 = .ok (.iconst 1, 1) := by decide +kernel
theorem dX3_pile_9 : decode cX3_pile 9 = .ok (.sipush 10000, 3) := by decide +kernel
theorem dX3_pile_12 : decode cX3_pile 12 = .ok (.invokestatic 33, 3) := by decide +kernel
theorem dX3_pile_15 : decode cX3_pile 15 = .ok (.iload_n 3, 1) := by decide +kernel
theorem dX3_pile_16 : decode cX3_pile 16 = .ok (.iconst 1, 1) := by decide +kernel
theorem dX3_pile_17 : decode cX3_pile 17 = .ok (.sipush 1000, 3) := by decide +kernel
theorem dX3_pile_20 : decode cX3_pile 20 = .ok (.invokestatic 33, 3) := by decide +kernel
theorem dX3_pile_23 : decode cX3_pile 23 = .ok (.iload 4, 2) := by decide +kernel
theorem dX3_pile_25 : decode cX3_pile 25 = .ok (.iconst 0, 1) := by decide +kernel
theorem dX3_pile_26 : decode cX3_pile 26 = .ok (.ldc 37, 2) := by decide +kernel
theorem dX3_pile_28 : decode cX3_pile 28 = .ok (.invokestatic 33, 3) := by decide +kernel
theorem dX3_pile_31 : decode cX3_pile 31 = .ok (.aload_n 0, 1) := by decide +kernel
theorem dX3_pile_32 : decode cX3_pile 32 = .ok (.getfield 29, 3) := by decide +kernel
theorem dX3_pile_35 : decode cX3_pile 35 = .ok (.ifCond .lt 15, 3) := by decide +kernel
theorem dX3_pile_38 : decode cX3_pile 38 = .ok (.aload_n 0, 1) := by decide +kernel
theorem dX3_pile_39 : decode cX3_pile 39 = .ok (.getfield 29, 3) := by decide +kernel
theorem dX3_pile_42 : decode cX3_pile 42 = .ok (.aload_n 0, 1) := by decide +kernel
theorem dX3_pile_43 : decode cX3_pile 43 = .ok (.getfield 11, 3) := by decide +kernel
theorem dX3_pile_46 : decode cX3_pile 46 = .ok (.arraylength, 1) := by decide +kernel
theorem dX3_pile_47 : decode cX3_pile 47 = .ok (.if_icmp .lt 13, 3) := by decide +kernel
theorem dX3_pile_50 : decode cX3_pile 50 = .ok (.new 38, 3) := by decide +kernel
theorem dX3_pile_53 : decode cX3_pile 53 = .ok (.dup, 1) := by decide +kernel
theorem dX3_pile_54 : decode cX3_pile 54 = .ok (.ldc 40, 2) := by decide +kernel
theorem dX3_pile_56 : decode cX3_pile 56 = .ok (.invokespecial 42, 3) := by decide +kernel
theorem dX3_pile_59 : decode cX3_pile 59 = .ok (.athrow, 1) := by decide +kernel
theorem dX3_pile_60 : decode cX3_pile 60 = .ok (.aload_n 0, 1) := by decide +kernel
theorem dX3_pile_61 : decode cX3_pile 61 = .ok (.getfield 29, 3) := by decide +kernel
theorem dX3_pile_64 : decode cX3_pile 64 = .ok (.istore 5, 2) := by decide +kernel
theorem dX3_pile_66 : decode cX3_pile 66 = .ok (.aload_n 0, 1) := by decide +kernel
theorem dX3_pile_67 : decode cX3_pile 67 = .ok (.getfield 11, 3) := by decide +kernel
theorem dX3_pile_70 : decode cX3_pile 70 = .ok (.iload 5, 2) := by decide +kernel
theorem dX3_pile_72 : decode cX3_pile 72 = .ok (.new 9, 3) := by decide +kernel
theorem dX3_pile_75 : decode cX3_pile 75 = .ok (.dup, 1) := by decide +kernel
theorem dX3_pile_76 : decode cX3_pile 76 = .ok (.iload_n 1, 1) := by decide +kernel
theorem dX3_pile_77 : decode cX3_pile 77 = .ok (.iload_n 2, 1) := by decide +kernel
theorem dX3_pile_78 : decode cX3_pile 78 = .ok (.iload_n 3, 1) := by decide +kernel
theorem dX3_pile_79 : decode cX3_pile 79 = .ok (.iload 4, 2) := by decide +kernel
theorem dX3_pile_81 : decode cX3_pile 81 = .ok (.invokespecial 45, 3) := by decide +kernel
theorem dX3_pile_84 : decode cX3_pile 84 = .ok (.aastore, 1) := by decide +kernel
theorem dX3_pile_85 : decode cX3_pile 85 = .ok (.aload_n 0, 1) := by decide +kernel
theorem dX3_pile_86 : decode cX3_pile 86 = .ok (.dup, 1) := by decide +kernel
theorem dX3_pile_87 : decode cX3_pile 87 = .ok (.getfield 29, 3) := by decide +kernel
theorem dX3_pile_90 : decode cX3_pile 90 = .ok (.iconst 1, 1) := by decide +kernel
theorem dX3_pile_91 : decode cX3_pile 91 = .ok (.iadd, 1) := by decide +kernel
theorem dX3_pile_92 : decode cX3_pile 92 = .ok (.putfield 29, 3) := by decide +kernel
theorem dX3_pile_95 : decode cX3_pile 95 = .ok (.iload 5, 2) := by decide +kernel
theorem dX3_pile_97 : decode cX3_pile 97 = .ok (.ireturn, 1) := by decide +kernel
set_option maxRecDepth 20000 in
theorem ggX3_ground_X3_pileOf : GoodIn wsX3_ground wsX3_pileOf := goodIn_ca (goodIn_r _ [8, 9, 10, 11, 33, 34, 35, 36] (by decide +kernel) (by decide +kernel)) (goodIn_sub (fun _ h => List.mem_cons_of_mem _ (List.mem_append_right _ h)) (by decide +kernel))
set_option maxRecDepth 20000 in
theorem gX3_ground_X3_pileOf : GoodIn wsX3_ground (wsV RX3 48 RX3 yX3_pileOf wsX3_pileOf) := goodIn_app (goodIn_of _ (by decide +kernel)) ggX3_ground_X3_pileOf
set_option maxRecDepth 20000 in
theorem ggX3_ground_X3_checkPiece : GoodIn wsX3_ground wsX3_checkPiece := goodIn_ca (goodIn_r _ [14, 15, 16, 17, 18, 19, 20, 21, 22, 7, 23, 9, 10, 24, 25, 26, 27, 28, 29, 30, 31, 32] (by decide +kernel) (by decide +kernel)) (goodIn_sub (fun _ h => List.mem_cons_of_mem _ (List.mem_append_right _ h)) (by decide +kernel))
set_option maxRecDepth 20000 in
theorem gX3_ground_X3_checkPiece : GoodIn wsX3_ground (va_wsS RX3 52 yX3_checkPiece wsX3_checkPiece) := goodIn_app (goodIn_of _ (by decide +kernel)) ggX3_ground_X3_checkPiece
set_option maxRecDepth 20000 in
theorem ggX3_ground_X3_checkWithin : GoodIn wsX3_ground wsX3_checkWithin := goodIn_ca (goodIn_r _ [23, 9, 10] (by decide +kernel) (by decide +kernel)) (goodIn_sub (fun _ h => List.mem_cons_of_mem _ (List.mem_append_right _ h)) (by decide +kernel))
set_option maxRecDepth 20000 in
theorem gX3_ground_X3_checkWithin : GoodIn wsX3_ground (va_wsS RX3 33 yX3_checkWithin wsX3_checkWithin) := goodIn_app (goodIn_of _ (by decide +kernel)) ggX3_ground_X3_checkWithin
theorem dX3_ground_0 : decode cX3_ground 0 = .ok (.aload_n 0, 1) := by decide +kernel
theorem dX3_ground_1 : decode cX3_ground 1 = .ok (.iload_n 1, 1) := by decide +kernel
theorem dX3_ground_2 : decode cX3_ground 2 = .ok (.invokevirtual 48, 3) := by decide +kernel
theorem dX3_ground_5 : decode cX3_ground 5 = .ok (.astore 5, 2) := by decide +kernel
theorem dX3_ground_7 : decode cX3_ground 7 = .ok (.aload 5, 2) := by decide +kernel
theorem dX3_ground_9 : decode cX3_ground 9 = .ok (.iload_n 2, 1) := by decide +kernel
theorem dX3_ground_10 : decode cX3_ground 10 = .ok (.invokestatic 52, 3) := by decide +kernel
theorem dX3_ground_13 : decode cX3_ground 13 = .ok (.iload_n 3, 1) := by decide +kernel
theorem dX3_ground_14 : decode cX3_ground 14 = .ok (.iconst 0, 1) := by decide +kernel
theorem dX3_ground_15 : decode cX3_ground 15 = .ok (.sipush 1000, 3) := by decide +kernel
theorem dX3_ground_18 : decode cX3_ground 18 = .ok (.invokestatic 33, 3) := by decide +kernel
theorem dX3_ground_21 : decode cX3_ground 21 = .ok (.iload 4, 2) := by decide +kernel
theorem dX3_ground_23 : decode cX3_ground 23 = .ok (.iconst 0, 1) := by decide +kernel
theorem dX3_ground_24 : decode cX3_ground 24 = .ok (.ldc 37, 2) := by decide +kernel
theorem dX3_ground_26 : decode cX3_ground 26 = .ok (.invokestatic 33, 3) := by decide +kernel
theorem dX3_ground_29 : decode cX3_ground 29 = .ok (.aload 5, 2) := by decide +kernel
theorem dX3_ground_31 : decode cX3_ground 31 = .ok (.getfield 56, 3) := by decide +kernel
theorem dX3_ground_34 : decode cX3_ground 34 = .ok (.iload_n 2, 1) := by decide +kernel
theorem dX3_ground_35 : decode cX3_ground 35 = .ok (.iload_n 3, 1) := by decide +kernel
theorem dX3_ground_36 : decode cX3_ground 36 = .ok (.iastore, 1) := by decide +kernel
theorem dX3_ground_37 : decode cX3_ground 37 = .ok (.aload 5, 2) := by decide +kernel
theorem dX3_ground_39 : decode cX3_ground 39 = .ok (.getfield 60, 3) := by decide +kernel
theorem dX3_ground_42 : decode cX3_ground 42 = .ok (.iload_n 2, 1) := by decide +kernel
theorem dX3_ground_43 : decode cX3_ground 43 = .ok (.iload 4, 2) := by decide +kernel
theorem dX3_ground_45 : decode cX3_ground 45 = .ok (.iastore, 1) := by decide +kernel
theorem dX3_ground_46 : decode cX3_ground 46 = .ok (.return_, 1) := by decide +kernel
set_option maxRecDepth 20000 in
theorem ggX3_sinks_X3_pileOf : GoodIn wsX3_sinks wsX3_pileOf := goodIn_ca (goodIn_r _ [6, 7, 8, 9, 31, 32, 33, 34] (by decide +kernel) (by decide +kernel)) (goodIn_sub (fun _ h => List.mem_cons_of_mem _ (List.mem_append_right _ h)) (by decide +kernel))
set_option maxRecDepth 20000 in
theorem gX3_sinks_X3_pileOf : GoodIn wsX3_sinks (wsV RX3 48 RX3 yX3_pileOf wsX3_pileOf) := goodIn_app (goodIn_of _ (by decide +kernel)) ggX3_sinks_X3_pileOf
set_option maxRecDepth 20000 in
theorem ggX3_sinks_X3_checkPiece : GoodIn wsX3_sinks wsX3_checkPiece := goodIn_ca (goodIn_r _ [12, 13, 14, 15, 16, 17, 18, 19, 20, 5, 21, 7, 8, 22, 23, 24, 25, 26, 27, 28, 29, 30] (by decide +kernel) (by decide +kernel)) (goodIn_sub (fun _ h => List.mem_cons_of_mem _ (List.mem_append_right _ h)) (by decide +kernel))
set_option maxRecDepth 20000 in
theorem gX3_sinks_X3_checkPiece : GoodIn wsX3_sinks (va_wsS RX3 52 yX3_checkPiece wsX3_checkPiece) := goodIn_app (goodIn_of _ (by decide +kernel)) ggX3_sinks_X3_checkPiece
set_option maxRecDepth 20000 in
theorem ggX3_sinks_X3_checkWithin : GoodIn wsX3_sinks wsX3_checkWithin := goodIn_ca (goodIn_r _ [21, 7, 8] (by decide +kernel) (by decide +kernel)) (goodIn_sub (fun _ h => List.mem_cons_of_mem _ (List.mem_append_right _ h)) (by decide +kernel))
set_option maxRecDepth 20000 in
theorem gX3_sinks_X3_checkWithin : GoodIn wsX3_sinks (va_wsS RX3 33 yX3_checkWithin wsX3_checkWithin) := goodIn_app (goodIn_of _ (by decide +kernel)) ggX3_sinks_X3_checkWithin
theorem dX3_sinks_0 : decode cX3_sinks 0 = .ok (.aload_n 0, 1) := by decide +kernel
theorem dX3_sinks_1 : decode cX3_sinks 1 = .ok (.iload_n 1, 1) := by decide +kernel
theorem dX3_sinks_2 : decode cX3_sinks 2 = .ok (.invokevirtual 48, 3) := by decide +kernel
theorem dX3_sinks_5 : decode cX3_sinks 5 = .ok (.astore 4, 2) := by decide +kernel
theorem dX3_sinks_7 : decode cX3_sinks 7 = .ok (.aload 4, 2) := by decide +kernel
theorem dX3_sinks_9 : decode cX3_sinks 9 = .ok (.iload_n 2, 1) := by decide +kernel
theorem dX3_sinks_10 : decode cX3_sinks 10 = .ok (.invokestatic 52, 3) := by decide +kernel
theorem dX3_sinks_13 : decode cX3_sinks 13 = .ok (.iload_n 3, 1) := by decide +kernel
theorem dX3_sinks_14 : decode cX3_sinks 14 = .ok (.iconst 0, 1) := by decide +kernel
theorem dX3_sinks_15 : decode cX3_sinks 15 = .ok (.sipush 10000, 3) := by decide +kernel
theorem dX3_sinks_18 : decode cX3_sinks 18 = .ok (.invokestatic 33, 3) := by decide +kernel
theorem dX3_sinks_21 : decode cX3_sinks 21 = .ok (.aload 4, 2) := by decide +kernel
theorem dX3_sinks_23 : decode cX3_sinks 23 = .ok (.getfield 63, 3) := by decide +kernel
theorem dX3_sinks_26 : decode cX3_sinks 26 = .ok (.iload_n 2, 1) := by decide +kernel
theorem dX3_sinks_27 : decode cX3_sinks 27 = .ok (.iaload, 1) := by decide +kernel
theorem dX3_sinks_28 : decode cX3_sinks 28 = .ok (.istore 5, 2) := by decide +kernel
theorem dX3_sinks_30 : decode cX3_sinks 30 = .ok (.aload 4, 2) := by decide +kernel
theorem dX3_sinks_32 : decode cX3_sinks 32 = .ok (.getfield 63, 3) := by decide +kernel
theorem dX3_sinks_35 : decode cX3_sinks 35 = .ok (.iload_n 2, 1) := by decide +kernel
theorem dX3_sinks_36 : decode cX3_sinks 36 = .ok (.iload_n 3, 1) := by decide +kernel
theorem dX3_sinks_37 : decode cX3_sinks 37 = .ok (.iastore, 1) := by decide +kernel
theorem dX3_sinks_38 : decode cX3_sinks 38 = .ok (.iload 5, 2) := by decide +kernel
theorem dX3_sinks_40 : decode cX3_sinks 40 = .ok (.ireturn, 1) := by decide +kernel
set_option maxRecDepth 20000 in
theorem ggX3_tip_X3_pileOf : GoodIn wsX3_tip wsX3_pileOf := goodIn_ca (goodIn_r _ [8, 9, 10, 11, 24, 25, 26, 27] (by decide +kernel) (by decide +kernel)) (goodIn_sub (fun _ h => List.mem_cons_of_mem _ (List.mem_append_right _ h)) (by decide +kernel))
set_option maxRecDepth 20000 in
theorem gX3_tip_X3_pileOf : GoodIn wsX3_tip (wsV RX3 48 RX3 yX3_pileOf wsX3_pileOf) := goodIn_app (goodIn_of _ (by decide +kernel)) ggX3_tip_X3_pileOf
set_option maxRecDepth 20000 in
theorem ggX3_tip_X3_checkWithin : GoodIn wsX3_tip wsX3_checkWithin := goodIn_ca (goodIn_r _ [14, 9, 10] (by decide +kernel) (by decide +kernel)) (goodIn_sub (fun _ h => List.mem_cons_of_mem _ (List.mem_append_right _ h)) (by decide +kernel))
set_option maxRecDepth 20000 in
theorem gX3_tip_X3_checkWithin : GoodIn wsX3_tip (va_wsS RX3 33 yX3_checkWithin wsX3_checkWithin) := goodIn_app (goodIn_of _ (by decide +kernel)) ggX3_tip_X3_checkWithin
theorem dX3_tip_0 : decode cX3_tip 0 = .ok (.aload_n 0, 1) := by decide +kernel
theorem dX3_tip_1 : decode cX3_tip 1 = .ok (.iload_n 1, 1) := by decide +kernel
theorem dX3_tip_2 : decode cX3_tip 2 = .ok (.invokevirtual 48, 3) := by decide +kernel
theorem dX3_tip_5 : decode cX3_tip 5 = .ok (.astore 4, 2) := by decide +kernel
theorem dX3_tip_7 : decode cX3_tip 7 = .ok (.iload_n 2, 1) := by decide +kernel
theorem dX3_tip_8 : decode cX3_tip 8 = .ok (.iconst 0, 1) := by decide +kernel
theorem dX3_tip_9 : decode cX3_tip 9 = .ok (.sipush 1000, 3) := by decide +kernel
theorem dX3_tip_12 : decode cX3_tip 12 = .ok (.invokestatic 33, 3) := by decide +kernel
theorem dX3_tip_15 : decode cX3_tip 15 = .ok (.iload_n 3, 1) := by decide +kernel
theorem dX3_tip_16 : decode cX3_tip 16 = .ok (.iconst 0, 1) := by decide +kernel
theorem dX3_tip_17 : decode cX3_tip 17 = .ok (.ldc 66, 2) := by decide +kernel
theorem dX3_tip_19 : decode cX3_tip 19 = .ok (.invokestatic 33, 3) := by decide +kernel
theorem dX3_tip_22 : decode cX3_tip 22 = .ok (.aload 4, 2) := by decide +kernel
theorem dX3_tip_24 : decode cX3_tip 24 = .ok (.iload_n 2, 1) := by decide +kernel
theorem dX3_tip_25 : decode cX3_tip 25 = .ok (.putfield 67, 3) := by decide +kernel
theorem dX3_tip_28 : decode cX3_tip 28 = .ok (.aload 4, 2) := by decide +kernel
theorem dX3_tip_30 : decode cX3_tip 30 = .ok (.iload_n 3, 1) := by decide +kernel
theorem dX3_tip_31 : decode cX3_tip 31 = .ok (.putfield 70, 3) := by decide +kernel
theorem dX3_tip_34 : decode cX3_tip 34 = .ok (.return_, 1) := by decide +kernel
set_option maxRecDepth 20000 in
theorem ggX3_under_X3_pileOf : GoodIn wsX3_under wsX3_pileOf := goodIn_ca (goodIn_r _ [8, 9, 10, 11, 58, 59, 60, 61] (by decide +kernel) (by decide +kernel)) (goodIn_sub (fun _ h => List.mem_cons_of_mem _ (List.mem_append_right _ h)) (by decide +kernel))
set_option maxRecDepth 20000 in
theorem gX3_under_X3_pileOf : GoodIn wsX3_under (wsV RX3 48 RX3 yX3_pileOf wsX3_pileOf) := goodIn_app (goodIn_of _ (by decide +kernel)) ggX3_under_X3_pileOf
set_option maxRecDepth 20000 in
theorem ggX3_under_X3_checkLoad : GoodIn wsX3_under wsX3_checkLoad := goodIn_ca (goodIn_r _ [14, 15, 16, 17, 7, 18, 9, 10] (by decide +kernel) (by decide +kernel)) (goodIn_sub (fun _ h => List.mem_cons_of_mem _ (List.mem_append_right _ h)) (by decide +kernel))
set_option maxRecDepth 20000 in
theorem gX3_under_X3_checkLoad : GoodIn wsX3_under (va_wsS RX3 73 yX3_checkLoad wsX3_checkLoad) := goodIn_app (goodIn_of _ (by decide +kernel)) ggX3_under_X3_checkLoad
set_option maxRecDepth 20000 in
theorem ggX3_under_X2_findUnder : GoodIn wsX3_under wsX2_findUnder := goodIn_r _ [23, 24, 25, 26, 27, 28, 22, 29, 30, 31, 32, 33, 34, 35, 36, 37, 38, 39, 40, 41, 42, 43, 44, 45, 46, 47, 48, 49, 50, 51, 52, 7, 53, 54, 55, 56, 57, 62, 63, 64, 65, 66, 67, 68, 69, 70, 71, 72, 73, 74] (by decide +kernel) (by decide +kernel)
set_option maxRecDepth 20000 in
theorem gX3_under_X2_findUnder : GoodIn wsX3_under (wsV RX3 77 RX2 yX2_findUnder wsX2_findUnder) := goodIn_app (goodIn_of _ (by decide +kernel)) ggX3_under_X2_findUnder
theorem dX3_under_0 : decode cX3_under 0 = .ok (.aload_n 0, 1) := by decide +kernel
theorem dX3_under_1 : decode cX3_under 1 = .ok (.iload_n 1, 1) := by decide +kernel
theorem dX3_under_2 : decode cX3_under 2 = .ok (.invokevirtual 48, 3) := by decide +kernel
theorem dX3_under_5 : decode cX3_under 5 = .ok (.astore_n 3, 1) := by decide +kernel
theorem dX3_under_6 : decode cX3_under 6 = .ok (.iload_n 2, 1) := by decide +kernel
theorem dX3_under_7 : decode cX3_under 7 = .ok (.invokestatic 73, 3) := by decide +kernel
theorem dX3_under_10 : decode cX3_under 10 = .ok (.aload_n 0, 1) := by decide +kernel
theorem dX3_under_11 : decode cX3_under 11 = .ok (.getfield 18, 3) := by decide +kernel
theorem dX3_under_14 : decode cX3_under 14 = .ok (.aload_n 3, 1) := by decide +kernel
theorem dX3_under_15 : decode cX3_under 15 = .ok (.iload_n 2, 1) := by decide +kernel
theorem dX3_under_16 : decode cX3_under 16 = .ok (.invokevirtual 77, 3) := by decide +kernel
theorem dX3_under_19 : decode cX3_under 19 = .ok (.ifCond .eq 13, 3) := by decide +kernel
theorem dX3_under_22 : decode cX3_under 22 = .ok (.aload_n 0, 1) := by decide +kernel
theorem dX3_under_23 : decode cX3_under 23 = .ok (.getfield 18, 3) := by decide +kernel
theorem dX3_under_26 : decode cX3_under 26 = .ok (.getfield 81, 3) := by decide +kernel
theorem dX3_under_29 : decode cX3_under 29 = .ok (.goto 5, 3) := by decide +kernel
theorem dX3_under_32 : decode cX3_under 32 = .ok (.ldc 84, 2) := by decide +kernel
theorem dX3_under_34 : decode cX3_under 34 = .ok (.ireturn, 1) := by decide +kernel
set_option maxRecDepth 20000 in
theorem ggX3_piece_X3_pileOf : GoodIn wsX3_piece wsX3_pileOf := goodIn_ca (goodIn_r _ [10, 11, 12, 13, 65, 66, 67, 68] (by decide +kernel) (by decide +kernel)) (goodIn_sub (fun _ h => List.mem_cons_of_mem _ (List.mem_append_right _ h)) (by decide +kernel))
set_option maxRecDepth 20000 in
theorem gX3_piece_X3_pileOf : GoodIn wsX3_piece (wsV RX3 48 RX3 yX3_pileOf wsX3_pileOf) := goodIn_app (goodIn_of _ (by decide +kernel)) ggX3_piece_X3_pileOf
set_option maxRecDepth 20000 in
theorem ggX3_piece_X3_checkLoad : GoodIn wsX3_piece wsX3_checkLoad := goodIn_ca (goodIn_r _ [16, 17, 18, 19, 9, 20, 11, 12] (by decide +kernel) (by decide +kernel)) (goodIn_sub (fun _ h => List.mem_cons_of_mem _ (List.mem_append_right _ h)) (by decide +kernel))
set_option maxRecDepth 20000 in
theorem gX3_piece_X3_checkLoad : GoodIn wsX3_piece (va_wsS RX3 73 yX3_checkLoad wsX3_checkLoad) := goodIn_app (goodIn_of _ (by decide +kernel)) ggX3_piece_X3_checkLoad
set_option maxRecDepth 20000 in
theorem ggX3_piece_X3_checkPiece : GoodIn wsX3_piece wsX3_checkPiece := goodIn_ca (goodIn_r _ [23, 24, 25, 26, 27, 28, 29, 18, 19, 9, 20, 11, 12, 73, 74, 75, 76, 77, 78, 79, 80, 81] (by decide +kernel) (by decide +kernel)) (goodIn_sub (fun _ h => List.mem_cons_of_mem _ (List.mem_append_right _ h)) (by decide +kernel))
set_option maxRecDepth 20000 in
theorem gX3_piece_X3_checkPiece : GoodIn wsX3_piece (va_wsS RX3 52 yX3_checkPiece wsX3_checkPiece) := goodIn_app (goodIn_of _ (by decide +kernel)) ggX3_piece_X3_checkPiece
set_option maxRecDepth 20000 in
theorem ggX3_piece_X3_checkWithin : GoodIn wsX3_piece wsX3_checkWithin := goodIn_ca (goodIn_r _ [20, 11, 12] (by decide +kernel) (by decide +kernel)) (goodIn_sub (fun _ h => List.mem_cons_of_mem _ (List.mem_append_right _ h)) (by decide +kernel))
set_option maxRecDepth 20000 in
theorem gX3_piece_X3_checkWithin : GoodIn wsX3_piece (va_wsS RX3 33 yX3_checkWithin wsX3_checkWithin) := goodIn_app (goodIn_of _ (by decide +kernel)) ggX3_piece_X3_checkWithin
set_option maxRecDepth 20000 in
theorem ggX3_piece_X2_findUnder : GoodIn wsX3_piece wsX2_findUnder := goodIn_r _ [34, 35, 36, 37, 38, 39, 33, 40, 41, 42, 43, 44, 45, 46, 47, 48, 49, 50, 51, 52, 53, 54, 55, 56, 57, 25, 26, 27, 28, 29, 58, 9, 59, 60, 61, 62, 63, 69, 70, 71, 72, 73, 74, 75, 76, 77, 78, 79, 80, 81] (by decide +kernel) (by decide +kernel)
set_option maxRecDepth 20000 in
theorem gX3_piece_X2_findUnder : GoodIn wsX3_piece (wsV RX3 77 RX2 yX2_findUnder wsX2_findUnder) := goodIn_app (goodIn_of _ (by decide +kernel)) ggX3_piece_X2_findUnder
set_option maxRecDepth 20000 in
theorem ggX3_piece_X2_climb : GoodIn wsX3_piece wsX2_climb := goodIn_r _ [49, 35, 44, 50, 51, 43, 52, 53, 54, 55, 56, 57, 25, 26, 27, 28, 29, 58, 9, 59, 60, 61, 62, 63, 69, 70, 71, 72, 73, 74, 75, 76, 77, 78, 79, 80, 81] (by decide +kernel) (by decide +kernel)
set_option maxRecDepth 20000 in
theorem gX3_piece_X2_climb : GoodIn wsX3_piece (wsV RX3 85 RX2 yX2_climb wsX2_climb) := goodIn_app (goodIn_of _ (by decide +kernel)) ggX3_piece_X2_climb
theorem dX3_piece_0 : decode cX3_piece 0 = .ok (.aload_n 0, 1) := by decide +kernel
theorem dX3_piece_1 : decode cX3_piece 1 = .ok (.iload_n 1, 1) := by decide +kernel
theorem dX3_piece_2 : decode cX3_piece 2 = .ok (.invokevirtual 48, 3) := by decide +kernel
theorem dX3_piece_5 : decode cX3_piece 5 = .ok (.astore 5, 2) := by decide +kernel
theorem dX3_piece_7 : decode cX3_piece 7 = .ok (.iload_n 2, 1) := by decide +kernel
theorem dX3_piece_8 : decode cX3_piece 8 = .ok (.invokestatic 73, 3) := by decide +kernel
theorem dX3_piece_11 : decode cX3_piece 11 = .ok (.aload 5, 2) := by decide +kernel
theorem dX3_piece_13 : decode cX3_piece 13 = .ok (.iload_n 3, 1) := by decide +kernel
theorem dX3_piece_14 : decode cX3_piece 14 = .ok (.invokestatic 52, 3) := by decide +kernel
theorem dX3_piece_17 : decode cX3_piece 17 = .ok (.iload 4, 2) := by decide +kernel
theorem dX3_piece_19 : decode cX3_piece 19 = .ok (.iconst 0, 1) := by decide +kernel
theorem dX3_piece_20 : decode cX3_piece 20 = .ok (.iconst 2, 1) := by decide +kernel
theorem dX3_piece_21 : decode cX3_piece 21 = .ok (.invokestatic 33, 3) := by decide +kernel
theorem dX3_piece_24 : decode cX3_piece 24 = .ok (.aload_n 0, 1) := by decide +kernel
theorem dX3_piece_25 : decode cX3_piece 25 = .ok (.getfield 18, 3) := by decide +kernel
theorem dX3_piece_28 : decode cX3_piece 28 = .ok (.aload 5, 2) := by decide +kernel
theorem dX3_piece_30 : decode cX3_piece 30 = .ok (.iload_n 2, 1) := by decide +kernel
theorem dX3_piece_31 : decode cX3_piece 31 = .ok (.invokevirtual 77, 3) := by decide +kernel
theorem dX3_piece_34 : decode cX3_piece 34 = .ok (.ifCond .ne 6, 3) := by decide +kernel
theorem dX3_piece_37 : decode cX3_piece 37 = .ok (.ldc 84, 2) := by decide +kernel
theorem dX3_piece_39 : decode cX3_piece 39 = .ok (.ireturn, 1) := by decide +kernel
theorem dX3_piece_40 : decode cX3_piece 40 = .ok (.aload_n 0, 1) := by decide +kernel
theorem dX3_piece_41 : decode cX3_piece 41 = .ok (.getfield 18, 3) := by decide +kernel
theorem dX3_piece_44 : decode cX3_piece 44 = .ok (.aload 5, 2) := by decide +kernel
theorem dX3_piece_46 : decode cX3_piece 46 = .ok (.iload_n 3, 1) := by decide +kernel
theorem dX3_piece_47 : decode cX3_piece 47 = .ok (.invokevirtual 85, 3) := by decide +kernel
theorem dX3_piece_50 : decode cX3_piece 50 = .ok (.iload 4, 2) := by decide +kernel
theorem dX3_piece_52 : decode cX3_piece 52 = .ok (.ifCond .ne 11, 3) := by decide +kernel
theorem dX3_piece_55 : decode cX3_piece 55 = .ok (.aload_n 0, 1) := by decide +kernel
theorem dX3_piece_56 : decode cX3_piece 56 = .ok (.getfield 18, 3) := by decide +kernel
theorem dX3_piece_59 : decode cX3_piece 59 = .ok (.getfield 81, 3) := by decide +kernel
theorem dX3_piece_62 : decode cX3_piece 62 = .ok (.ireturn, 1) := by decide +kernel
theorem dX3_piece_63 : decode cX3_piece 63 = .ok (.iload 4, 2) := by decide +kernel
theorem dX3_piece_65 : decode cX3_piece 65 = .ok (.iconst 1, 1) := by decide +kernel
theorem dX3_piece_66 : decode cX3_piece 66 = .ok (.if_icmp .ne 13, 3) := by decide +kernel
theorem dX3_piece_69 : decode cX3_piece 69 = .ok (.aload_n 0, 1) := by decide +kernel
theorem dX3_piece_70 : decode cX3_piece 70 = .ok (.getfield 18, 3) := by decide +kernel
theorem dX3_piece_73 : decode cX3_piece 73 = .ok (.getfield 88, 3) := by decide +kernel
theorem dX3_piece_76 : decode cX3_piece 76 = .ok (.goto 10, 3) := by decide +kernel
theorem dX3_piece_79 : decode cX3_piece 79 = .ok (.aload_n 0, 1) := by decide +kernel
theorem dX3_piece_80 : decode cX3_piece 80 = .ok (.getfield 18, 3) := by decide +kernel
theorem dX3_piece_83 : decode cX3_piece 83 = .ok (.getfield 91, 3) := by decide +kernel
theorem dX3_piece_86 : decode cX3_piece 86 = .ok (.ireturn, 1) := by decide +kernel
set_option maxRecDepth 20000 in
theorem ggX3_load_X3_pileOf : GoodIn wsX3_load wsX3_pileOf := goodIn_ca (goodIn_r _ [10, 11, 12, 13, 56, 57, 58, 59] (by decide +kernel) (by decide +kernel)) (goodIn_sub (fun _ h => List.mem_cons_of_mem _ (List.mem_append_right _ h)) (by decide +kernel))
set_option maxRecDepth 20000 in
theorem gX3_load_X3_pileOf : GoodIn wsX3_load (wsV RX3 48 RX3 yX3_pileOf wsX3_pileOf) := goodIn_app (goodIn_of _ (by decide +kernel)) ggX3_load_X3_pileOf
set_option maxRecDepth 20000 in
theorem ggX3_load_X3_checkWithin : GoodIn wsX3_load wsX3_checkWithin := goodIn_ca (goodIn_r _ [16, 11, 12] (by decide +kernel) (by decide +kernel)) (goodIn_sub (fun _ h => List.mem_cons_of_mem _ (List.mem_append_right _ h)) (by decide +kernel))
set_option maxRecDepth 20000 in
theorem gX3_load_X3_checkWithin : GoodIn wsX3_load (va_wsS RX3 33 yX3_checkWithin wsX3_checkWithin) := goodIn_app (goodIn_of _ (by decide +kernel)) ggX3_load_X3_checkWithin
set_option maxRecDepth 20000 in
theorem ggX3_load_X2_findAt : GoodIn wsX3_load wsX2_findAt := goodIn_r _ [21, 22, 23, 24, 20, 25, 26, 27, 28, 29, 30, 31, 32, 33, 34, 35, 36, 37, 38, 39, 40, 41, 42, 43, 44, 45, 46, 47, 48, 49, 50, 9, 51, 52, 53, 54, 55, 60, 61, 62, 63, 64, 65, 66, 67, 68, 69, 70, 71, 72] (by decide +kernel) (by decide +kernel)
set_option maxRecDepth 20000 in
theorem gX3_load_X2_findAt : GoodIn wsX3_load (wsV RX3 95 RX2 yX2_findAt wsX2_findAt) := goodIn_app (goodIn_of _ (by decide +kernel)) ggX3_load_X2_findAt
theorem dX3_load_0 : decode cX3_load 0 = .ok (.aload_n 0, 1) := by decide +kernel
theorem dX3_load_1 : decode cX3_load 1 = .ok (.iload_n 1, 1) := by decide +kernel
theorem dX3_load_2 : decode cX3_load 2 = .ok (.invokevirtual 48, 3) := by decide +kernel
theorem dX3_load_5 : decode cX3_load 5 = .ok (.astore_n 3, 1) := by decide +kernel
theorem dX3_load_6 : decode cX3_load 6 = .ok (.iload_n 2, 1) := by decide +kernel
theorem dX3_load_7 : decode cX3_load 7 = .ok (.ldc 94, 2) := by decide +kernel
theorem dX3_load_9 : decode cX3_load 9 = .ok (.ldc 37, 2) := by decide +kernel
theorem dX3_load_11 : decode cX3_load 11 = .ok (.invokestatic 33, 3) := by decide +kernel
theorem dX3_load_14 : decode cX3_load 14 = .ok (.aload_n 0, 1) := by decide +kernel
theorem dX3_load_15 : decode cX3_load 15 = .ok (.getfield 18, 3) := by decide +kernel
theorem dX3_load_18 : decode cX3_load 18 = .ok (.aload_n 3, 1) := by decide +kernel
theorem dX3_load_19 : decode cX3_load 19 = .ok (.iload_n 2, 1) := by decide +kernel
theorem dX3_load_20 : decode cX3_load 20 = .ok (.invokevirtual 95, 3) := by decide +kernel
theorem dX3_load_23 : decode cX3_load 23 = .ok (.ifCond .eq 13, 3) := by decide +kernel
theorem dX3_load_26 : decode cX3_load 26 = .ok (.aload_n 0, 1) := by decide +kernel
theorem dX3_load_27 : decode cX3_load 27 = .ok (.getfield 18, 3) := by decide +kernel
theorem dX3_load_30 : decode cX3_load 30 = .ok (.getfield 91, 3) := by decide +kernel
theorem dX3_load_33 : decode cX3_load 33 = .ok (.goto 5, 3) := by decide +kernel
theorem dX3_load_36 : decode cX3_load 36 = .ok (.ldc 84, 2) := by decide +kernel
theorem dX3_load_38 : decode cX3_load 38 = .ok (.ireturn, 1) := by decide +kernel
set_option maxRecDepth 20000 in
theorem ggX3_hold_X3_pileOf : GoodIn wsX3_hold wsX3_pileOf := goodIn_ca (goodIn_r _ [6, 7, 8, 9, 19, 20, 21, 22] (by decide +kernel) (by decide +kernel)) (goodIn_sub (fun _ h => List.mem_cons_of_mem _ (List.mem_append_right _ h)) (by decide +kernel))
set_option maxRecDepth 20000 in
theorem gX3_hold_X3_pileOf : GoodIn wsX3_hold (wsV RX3 48 RX3 yX3_pileOf wsX3_pileOf) := goodIn_app (goodIn_of _ (by decide +kernel)) ggX3_hold_X3_pileOf
theorem dX3_hold_0 : decode cX3_hold 0 = .ok (.aload_n 0, 1) := by decide +kernel
theorem dX3_hold_1 : decode cX3_hold 1 = .ok (.iload_n 1, 1) := by decide +kernel
theorem dX3_hold_2 : decode cX3_hold 2 = .ok (.invokevirtual 48, 3) := by decide +kernel
theorem dX3_hold_5 : decode cX3_hold 5 = .ok (.astore_n 2, 1) := by decide +kernel
theorem dX3_hold_6 : decode cX3_hold 6 = .ok (.iconst 0, 1) := by decide +kernel
theorem dX3_hold_7 : decode cX3_hold 7 = .ok (.istore_n 3, 1) := by decide +kernel
theorem dX3_hold_8 : decode cX3_hold 8 = .ok (.aload_n 2, 1) := by decide +kernel
theorem dX3_hold_9 : decode cX3_hold 9 = .ok (.getfield 60, 3) := by decide +kernel
theorem dX3_hold_12 : decode cX3_hold 12 = .ok (.astore 4, 2) := by decide +kernel
theorem dX3_hold_14 : decode cX3_hold 14 = .ok (.aload 4, 2) := by decide +kernel
theorem dX3_hold_16 : decode cX3_hold 16 = .ok (.arraylength, 1) := by decide +kernel
theorem dX3_hold_17 : decode cX3_hold 17 = .ok (.istore 5, 2) := by decide +kernel
theorem dX3_hold_19 : decode cX3_hold 19 = .ok (.iconst 0, 1) := by decide +kernel
theorem dX3_hold_20 : decode cX3_hold 20 = .ok (.istore 6, 2) := by decide +kernel
theorem dX3_hold_22 : decode cX3_hold 22 = .ok (.iload 6, 2) := by decide +kernel
theorem dX3_hold_24 : decode cX3_hold 24 = .ok (.iload 5, 2) := by decide +kernel
theorem dX3_hold_26 : decode cX3_hold 26 = .ok (.if_icmp .ge 27, 3) := by decide +kernel
theorem dX3_hold_29 : decode cX3_hold 29 = .ok (.aload 4, 2) := by decide +kernel
theorem dX3_hold_31 : decode cX3_hold 31 = .ok (.iload 6, 2) := by decide +kernel
theorem dX3_hold_33 : decode cX3_hold 33 = .ok (.iaload, 1) := by decide +kernel
theorem dX3_hold_34 : decode cX3_hold 34 = .ok (.istore 7, 2) := by decide +kernel
theorem dX3_hold_36 : decode cX3_hold 36 = .ok (.iload_n 3, 1) := by decide +kernel
theorem dX3_hold_37 : decode cX3_hold 37 = .ok (.bipush 7, 2) := by decide +kernel
theorem dX3_hold_39 : decode cX3_hold 39 = .ok (.iload 7, 2) := by decide +kernel
theorem dX3_hold_41 : decode cX3_hold 41 = .ok (.imul, 1) := by decide +kernel
theorem dX3_hold_42 : decode cX3_hold 42 = .ok (.bipush 10, 2) := by decide +kernel
theorem dX3_hold_44 : decode cX3_hold 44 = .ok (.idiv, 1) := by decide +kernel
theorem dX3_hold_45 : decode cX3_hold 45 = .ok (.iadd, 1) := by decide +kernel
theorem dX3_hold_46 : decode cX3_hold 46 = .ok (.istore_n 3, 1) := by decide +kernel
theorem dX3_hold_47 : decode cX3_hold 47 = .ok (.iinc 6 1, 3) := by decide +kernel
theorem dX3_hold_50 : decode cX3_hold 50 = .ok (.goto (-28), 3) := by decide +kernel
theorem dX3_hold_53 : decode cX3_hold 53 = .ok (.iload_n 3, 1) := by decide +kernel
theorem dX3_hold_54 : decode cX3_hold 54 = .ok (.ireturn, 1) := by decide +kernel
set_option maxRecDepth 20000 in
theorem ggX3_cheapest_X3_checkLoad : GoodIn wsX3_cheapest wsX3_checkLoad := goodIn_ca (goodIn_r _ [10, 11, 12, 13, 9, 14, 15, 16] (by decide +kernel) (by decide +kernel)) (goodIn_sub (fun _ h => List.mem_cons_of_mem _ (List.mem_append_right _ h)) (by decide +kernel))
set_option maxRecDepth 20000 in
theorem gX3_cheapest_X3_checkLoad : GoodIn wsX3_cheapest (va_wsS RX3 73 yX3_checkLoad wsX3_checkLoad) := goodIn_app (goodIn_of _ (by decide +kernel)) ggX3_cheapest_X3_checkLoad
set_option maxRecDepth 20000 in
theorem ggX3_cheapest_X3_checkWithin : GoodIn wsX3_cheapest wsX3_checkWithin := goodIn_ca (goodIn_r _ [14, 15, 16] (by decide +kernel) (by decide +kernel)) (goodIn_sub (fun _ h => List.mem_cons_of_mem _ (List.mem_append_right _ h)) (by decide +kernel))
set_option maxRecDepth 20000 in
theorem gX3_cheapest_X3_checkWithin : GoodIn wsX3_cheapest (va_wsS RX3 33 yX3_checkWithin wsX3_checkWithin) := goodIn_app (goodIn_of _ (by decide +kernel)) ggX3_cheapest_X3_checkWithin
set_option maxRecDepth 20000 in
theorem ggX3_cheapest_X2_findUnder : GoodIn wsX3_cheapest wsX2_findUnder := goodIn_r _ [21, 22, 23, 24, 25, 26, 20, 27, 28, 29, 30, 31, 32, 33, 34, 35, 36, 37, 38, 39, 40, 41, 42, 43, 44, 45, 46, 47, 48, 49, 50, 9, 51, 52, 53, 54, 55, 69, 70, 71, 72, 60, 61, 62, 63, 64, 65, 66, 67, 68] (by decide +kernel) (by decide +kernel)
set_option maxRecDepth 20000 in
theorem gX3_cheapest_X2_findUnder : GoodIn wsX3_cheapest (wsV RX3 77 RX2 yX2_findUnder wsX2_findUnder) := goodIn_app (goodIn_of _ (by decide +kernel)) ggX3_cheapest_X2_findUnder
theorem dX3_cheapest_0 : decode cX3_cheapest 0 = .ok (.iload_n 1, 1) := by decide +kernel
theorem dX3_cheapest_1 : decode cX3_cheapest 1 = .ok (.invokestatic 73, 3) := by decide +kernel
theorem dX3_cheapest_4 : decode cX3_cheapest 4 = .ok (.iload_n 2, 1) := by decide +kernel
theorem dX3_cheapest_5 : decode cX3_cheapest 5 = .ok (.iconst 0, 1) := by decide +kernel
theorem dX3_cheapest_6 : decode cX3_cheapest 6 = .ok (.ldc 37, 2) := by decide +kernel
theorem dX3_cheapest_8 : decode cX3_cheapest 8 = .ok (.invokestatic 33, 3) := by decide +kernel
theorem dX3_cheapest_11 : decode cX3_cheapest 11 = .ok (.ldc 84, 2) := by decide +kernel
theorem dX3_cheapest_13 : decode cX3_cheapest 13 = .ok (.istore_n 3, 1) := by decide +kernel
theorem dX3_cheapest_14 : decode cX3_cheapest 14 = .ok (.iconst 0, 1) := by decide +kernel
theorem dX3_cheapest_15 : decode cX3_cheapest 15 = .ok (.istore 4, 2) := by decide +kernel
theorem dX3_cheapest_17 : decode cX3_cheapest 17 = .ok (.iconst 0, 1) := by decide +kernel
theorem dX3_cheapest_18 : decode cX3_cheapest 18 = .ok (.istore 5, 2) := by decide +kernel
theorem dX3_cheapest_20 : decode cX3_cheapest 20 = .ok (.iload 5, 2) := by decide +kernel
theorem dX3_cheapest_22 : decode cX3_cheapest 22 = .ok (.aload_n 0, 1) := by decide +kernel
theorem dX3_cheapest_23 : decode cX3_cheapest 23 = .ok (.getfield 11, 3) := by decide +kernel
theorem dX3_cheapest_26 : decode cX3_cheapest 26 = .ok (.arraylength, 1) := by decide +kernel
theorem dX3_cheapest_27 : decode cX3_cheapest 27 = .ok (.if_icmp .ge 76, 3) := by decide +kernel
theorem dX3_cheapest_30 : decode cX3_cheapest 30 = .ok (.aload_n 0, 1) := by decide +kernel
theorem dX3_cheapest_31 : decode cX3_cheapest 31 = .ok (.getfield 11, 3) := by decide +kernel
theorem dX3_cheapest_34 : decode cX3_cheapest 34 = .ok (.iload 5, 2) := by decide +kernel
theorem dX3_cheapest_36 : decode cX3_cheapest 36 = .ok (.aaload, 1) := by decide +kernel
theorem dX3_cheapest_37 : decode cX3_cheapest 37 = .ok (.astore 6, 2) := by decide +kernel
theorem dX3_cheapest_39 : decode cX3_cheapest 39 = .ok (.aload 6, 2) := by decide +kernel
theorem dX3_cheapest_41 : decode cX3_cheapest 41 = .ok (.ifnull 56, 3) := by decide +kernel
theorem dX3_cheapest_44 : decode cX3_cheapest 44 = .ok (.iload_n 3, 1) := by decide +kernel
theorem dX3_cheapest_45 : decode cX3_cheapest 45 = .ok (.ldc 84, 2) := by decide +kernel
theorem dX3_cheapest_47 : decode cX3_cheapest 47 = .ok (.if_icmp .eq 16, 3) := by decide +kernel
theorem dX3_cheapest_50 : decode cX3_cheapest 50 = .ok (.aload 6, 2) := by decide +kernel
theorem dX3_cheapest_52 : decode cX3_cheapest 52 = .ok (.getfield 98, 3) := by decide +kernel
theorem dX3_cheapest_55 : decode cX3_cheapest 55 = .ok (.iload 4, 2) := by decide +kernel
theorem dX3_cheapest_57 : decode cX3_cheapest 57 = .ok (.if_icmp .lt 6, 3) := by decide +kernel
theorem dX3_cheapest_60 : decode cX3_cheapest 60 = .ok (.goto 37, 3) := by decide +kernel
theorem dX3_cheapest_63 : decode cX3_cheapest 63 = .ok (.aload_n 0, 1) := by decide +kernel
theorem dX3_cheapest_64 : decode cX3_cheapest 64 = .ok (.getfield 18, 3) := by decide +kernel
theorem dX3_cheapest_67 : decode cX3_cheapest 67 = .ok (.aload 6, 2) := by decide +kernel
theorem dX3_cheapest_69 : decode cX3_cheapest 69 = .ok (.iload_n 1, 1) := by decide +kernel
theorem dX3_cheapest_70 : decode cX3_cheapest 70 = .ok (.invokevirtual 77, 3) := by decide +kernel
theorem dX3_cheapest_73 : decode cX3_cheapest 73 = .ok (.ifCond .eq 24, 3) := by decide +kernel
theorem dX3_cheapest_76 : decode cX3_cheapest 76 = .ok (.aload_n 0, 1) := by decide +kernel
theorem dX3_cheapest_77 : decode cX3_cheapest 77 = .ok (.getfield 18, 3) := by decide +kernel
theorem dX3_cheapest_80 : decode cX3_cheapest 80 = .ok (.getfield 81, 3) := by decide +kernel
theorem dX3_cheapest_83 : decode cX3_cheapest 83 = .ok (.iload_n 2, 1) := by decide +kernel
theorem dX3_cheapest_84 : decode cX3_cheapest 84 = .ok (.if_icmp .gt 13, 3) := by decide +kernel
theorem dX3_cheapest_87 : decode cX3_cheapest 87 = .ok (.iload 5, 2) := by decide +kernel
theorem dX3_cheapest_89 : decode cX3_cheapest 89 = .ok (.istore_n 3, 1) := by decide +kernel
theorem dX3_cheapest_90 : decode cX3_cheapest 90 = .ok (.aload 6, 2) := by decide +kernel
theorem dX3_cheapest_92 : decode cX3_cheapest 92 = .ok (.getfield 98, 3) := by decide +kernel
theorem dX3_cheapest_95 : decode cX3_cheapest 95 = .ok (.istore 4, 2) := by decide +kernel
theorem dX3_cheapest_97 : decode cX3_cheapest 97 = .ok (.iinc 5 1, 3) := by decide +kernel
theorem dX3_cheapest_100 : decode cX3_cheapest 100 = .ok (.goto (-80), 3) := by decide +kernel
theorem dX3_cheapest_103 : decode cX3_cheapest 103 = .ok (.iload_n 3, 1) := by decide +kernel
theorem dX3_cheapest_104 : decode cX3_cheapest 104 = .ok (.ireturn, 1) := by decide +kernel
set_option maxRecDepth 20000 in
theorem ggX3_join_X3_pileOf : GoodIn wsX3_join wsX3_pileOf := goodIn_ca (goodIn_r _ [6, 7, 8, 9, 19, 20, 21, 22] (by decide +kernel) (by decide +kernel)) (goodIn_sub (fun _ h => List.mem_cons_of_mem _ (List.mem_append_right _ h)) (by decide +kernel))
set_option maxRecDepth 20000 in
theorem gX3_join_X3_pileOf : GoodIn wsX3_join (wsV RX3 48 RX3 yX3_pileOf wsX3_pileOf) := goodIn_app (goodIn_of _ (by decide +kernel)) ggX3_join_X3_pileOf
theorem dX3_join_0 : decode cX3_join 0 = .ok (.aload_n 0, 1) := by decide +kernel
theorem dX3_join_1 : decode cX3_join 1 = .ok (.iload_n 1, 1) := by decide +kernel
theorem dX3_join_2 : decode cX3_join 2 = .ok (.invokevirtual 48, 3) := by decide +kernel
theorem dX3_join_5 : decode cX3_join 5 = .ok (.astore_n 3, 1) := by decide +kernel
theorem dX3_join_6 : decode cX3_join 6 = .ok (.aload_n 3, 1) := by decide +kernel
theorem dX3_join_7 : decode cX3_join 7 = .ok (.getfield 101, 3) := by decide +kernel
theorem dX3_join_10 : decode cX3_join 10 = .ok (.istore 4, 2) := by decide +kernel
theorem dX3_join_12 : decode cX3_join 12 = .ok (.aload_n 3, 1) := by decide +kernel
theorem dX3_join_13 : decode cX3_join 13 = .ok (.iload_n 2, 1) := by decide +kernel
theorem dX3_join_14 : decode cX3_join 14 = .ok (.putfield 101, 3) := by decide +kernel
theorem dX3_join_17 : decode cX3_join 17 = .ok (.iload 4, 2) := by decide +kernel
theorem dX3_join_19 : decode cX3_join 19 = .ok (.ireturn, 1) := by decide +kernel
set_option maxRecDepth 20000 in
theorem ggX3_group_X3_checkLoad : GoodIn wsX3_group wsX3_checkLoad := goodIn_ca (goodIn_r _ [4, 5, 6, 7, 3, 8, 9, 10] (by decide +kernel) (by decide +kernel)) (goodIn_sub (fun _ h => List.mem_cons_of_mem _ (List.mem_append_left _ (List.mem_append_right _ h))) (by decide +kernel))
set_option maxRecDepth 20000 in
theorem gX3_group_X3_checkLoad : GoodIn wsX3_group (va_wsS RX3 73 yX3_checkLoad wsX3_checkLoad) := goodIn_app (goodIn_of _ (by decide +kernel)) ggX3_group_X3_checkLoad
set_option maxRecDepth 20000 in
theorem ggX3_group_X3_checkGroupNotEmpty : GoodIn wsX3_group wsX3_checkGroupNotEmpty := goodIn_ca (goodIn_r _ [14, 15, 16, 17, 18, 70, 71, 72, 73, 74, 75, 76, 77, 78, 79, 80, 81, 82] (by decide +kernel) (by decide +kernel)) (goodIn_sub (fun _ h => List.mem_cons_of_mem _ (List.mem_append_right _ h)) (by decide +kernel))
set_option maxRecDepth 20000 in
theorem gX3_group_X3_checkGroupNotEmpty : GoodIn wsX3_group (wsV RX3 105 RX3 yX3_checkGroupNotEmpty wsX3_checkGroupNotEmpty) := goodIn_app (goodIn_of _ (by decide +kernel)) ggX3_group_X3_checkGroupNotEmpty
set_option maxRecDepth 20000 in
theorem ggX3_group_X3_groupSettlement : GoodIn wsX3_group wsX3_groupSettlement := goodIn_r _ [22, 23, 24, 25, 26, 3, 27, 17, 18, 28, 29, 30, 31, 32, 33, 34, 35, 36, 37, 38, 39, 40, 41, 42, 43, 44, 45, 46, 47, 48, 49, 50, 51, 52, 53, 54, 55, 56, 57, 58, 59, 60, 61, 62, 63, 64, 65, 66, 67, 68, 69, 70, 71, 72, 73, 74, 75, 76, 77, 78, 79, 80, 81, 82, 83, 84, 85, 86] (by decide +kernel) (by decide +kernel)
set_option maxRecDepth 20000 in
theorem gX3_group_X3_groupSettlement : GoodIn wsX3_group (wsV RX3 108 RX3 yX3_groupSettlement wsX3_groupSettlement) := goodIn_app (goodIn_of _ (by decide +kernel)) ggX3_group_X3_groupSettlement
theorem dX3_group_0 : decode cX3_group 0 = .ok (.iload_n 1, 1) := by decide +kernel
theorem dX3_group_1 : decode cX3_group 1 = .ok (.invokestatic 73, 3) := by decide +kernel
theorem dX3_group_4 : decode cX3_group 4 = .ok (.aload_n 0, 1) := by decide +kernel
theorem dX3_group_5 : decode cX3_group 5 = .ok (.invokevirtual 105, 3) := by decide +kernel
theorem dX3_group_8 : decode cX3_group 8 = .ok (.aload_n 0, 1) := by decide +kernel
theorem dX3_group_9 : decode cX3_group 9 = .ok (.iload_n 1, 1) := by decide +kernel
theorem dX3_group_10 : decode cX3_group 10 = .ok (.invokevirtual 108, 3) := by decide +kernel
theorem dX3_group_13 : decode cX3_group 13 = .ok (.ireturn, 1) := by decide +kernel
set_option maxRecDepth 20000 in
theorem ggX3_share_X3_checkLoad : GoodIn wsX3_share wsX3_checkLoad := goodIn_ca (goodIn_r _ [10, 11, 12, 13, 9, 14, 1, 2] (by decide +kernel) (by decide +kernel)) (goodIn_sub (fun _ h => List.mem_cons_of_mem _ (List.mem_append_left _ (List.mem_append_right _ h))) (by decide +kernel))
set_option maxRecDepth 20000 in
theorem gX3_share_X3_checkLoad : GoodIn wsX3_share (va_wsS RX3 73 yX3_checkLoad wsX3_checkLoad) := goodIn_app (goodIn_of _ (by decide +kernel)) ggX3_share_X3_checkLoad
set_option maxRecDepth 20000 in
theorem ggX3_share_X3_pileOf : GoodIn wsX3_share wsX3_pileOf := goodIn_ca (goodIn_r _ [18, 1, 2, 19, 83, 84, 85, 86] (by decide +kernel) (by decide +kernel)) (goodIn_sub (fun _ h => List.mem_cons_of_mem _ (List.mem_append_left _ (List.mem_append_right _ h))) (by decide +kernel))
set_option maxRecDepth 20000 in
theorem gX3_share_X3_pileOf : GoodIn wsX3_share (wsV RX3 48 RX3 yX3_pileOf wsX3_pileOf) := goodIn_app (goodIn_of _ (by decide +kernel)) ggX3_share_X3_pileOf
set_option maxRecDepth 20000 in
theorem ggX3_share_X3_checkGroupNotEmpty : GoodIn wsX3_share wsX3_checkGroupNotEmpty := goodIn_ca (goodIn_r _ [23, 24, 25, 19, 3, 83, 84, 85, 86, 74, 75, 76, 77, 78, 79, 80, 81, 82] (by decide +kernel) (by decide +kernel)) (goodIn_sub (fun _ h => List.mem_cons_of_mem _ (List.mem_append_right _ h)) (by decide +kernel))
set_option maxRecDepth 20000 in
theorem gX3_share_X3_checkGroupNotEmpty : GoodIn wsX3_share (wsV RX3 105 RX3 yX3_checkGroupNotEmpty wsX3_checkGroupNotEmpty) := goodIn_app (goodIn_of _ (by decide +kernel)) ggX3_share_X3_checkGroupNotEmpty
set_option maxRecDepth 20000 in
theorem ggX3_share_X3_groupSettlement : GoodIn wsX3_share wsX3_groupSettlement := goodIn_r _ [29, 4, 30, 31, 32, 9, 33, 19, 3, 5, 34, 6, 35, 36, 37, 38, 39, 40, 41, 42, 43, 44, 45, 46, 47, 48, 49, 50, 51, 52, 53, 54, 55, 56, 57, 58, 59, 60, 61, 62, 63, 64, 65, 66, 67, 68, 69, 70, 71, 72, 73, 83, 84, 85, 86, 74, 75, 76, 77, 78, 79, 80, 81, 82, 87, 88, 89, 90] (by decide +kernel) (by decide +kernel)
set_option maxRecDepth 20000 in
theorem gX3_share_X3_groupSettlement : GoodIn wsX3_share (wsV RX3 108 RX3 yX3_groupSettlement wsX3_groupSettlement) := goodIn_app (goodIn_of _ (by decide +kernel)) ggX3_share_X3_groupSettlement
set_option maxRecDepth 20000 in
theorem ggX3_share_X2_findAt : GoodIn wsX3_share wsX2_findAt := goodIn_r _ [39, 40, 41, 42, 38, 43, 44, 45, 46, 47, 48, 49, 50, 51, 52, 53, 54, 55, 56, 57, 58, 59, 60, 61, 62, 63, 64, 65, 66, 67, 68, 9, 69, 70, 71, 72, 73, 87, 88, 89, 90, 74, 75, 76, 77, 78, 79, 80, 81, 82] (by decide +kernel) (by decide +kernel)
set_option maxRecDepth 20000 in
theorem gX3_share_X2_findAt : GoodIn wsX3_share (wsV RX3 95 RX2 yX2_findAt wsX2_findAt) := goodIn_app (goodIn_of _ (by decide +kernel)) ggX3_share_X2_findAt
theorem dX3_share_0 : decode cX3_share 0 = .ok (.iload_n 1, 1) := by decide +kernel
theorem dX3_share_1 : decode cX3_share 1 = .ok (.invokestatic 73, 3) := by decide +kernel
theorem dX3_share_4 : decode cX3_share 4 = .ok (.aload_n 0, 1) := by decide +kernel
theorem dX3_share_5 : decode cX3_share 5 = .ok (.iload_n 2, 1) := by decide +kernel
theorem dX3_share_6 : decode cX3_share 6 = .ok (.invokevirtual 48, 3) := by decide +kernel
theorem dX3_share_9 : decode cX3_share 9 = .ok (.astore_n 3, 1) := by decide +kernel
theorem dX3_share_10 : decode cX3_share 10 = .ok (.aload_n 0, 1) := by decide +kernel
theorem dX3_share_11 : decode cX3_share 11 = .ok (.invokevirtual 105, 3) := by decide +kernel
theorem dX3_share_14 : decode cX3_share 14 = .ok (.aload_n 3, 1) := by decide +kernel
theorem dX3_share_15 : decode cX3_share 15 = .ok (.getfield 101, 3) := by decide +kernel
theorem dX3_share_18 : decode cX3_share 18 = .ok (.ifCond .ne 13, 3) := by decide +kernel
theorem dX3_share_21 : decode cX3_share 21 = .ok (.new 112, 3) := by decide +kernel
theorem dX3_share_24 : decode cX3_share 24 = .ok (.dup, 1) := by decide +kernel
theorem dX3_share_25 : decode cX3_share 25 = .ok (.ldc 114, 2) := by decide +kernel
theorem dX3_share_27 : decode cX3_share 27 = .ok (.invokespecial 116, 3) := by decide +kernel
theorem dX3_share_30 : decode cX3_share 30 = .ok (.athrow, 1) := by decide +kernel
theorem dX3_share_31 : decode cX3_share 31 = .ok (.aload_n 0, 1) := by decide +kernel
theorem dX3_share_32 : decode cX3_share 32 = .ok (.iload_n 1, 1) := by decide +kernel
theorem dX3_share_33 : decode cX3_share 33 = .ok (.invokevirtual 108, 3) := by decide +kernel
theorem dX3_share_36 : decode cX3_share 36 = .ok (.istore 4, 2) := by decide +kernel
theorem dX3_share_38 : decode cX3_share 38 = .ok (.iload 4, 2) := by decide +kernel
theorem dX3_share_40 : decode cX3_share 40 = .ok (.ldc 84, 2) := by decide +kernel
theorem dX3_share_42 : decode cX3_share 42 = .ok (.if_icmp .eq 16, 3) := by decide +kernel
theorem dX3_share_45 : decode cX3_share 45 = .ok (.aload_n 0, 1) := by decide +kernel
theorem dX3_share_46 : decode cX3_share 46 = .ok (.getfield 18, 3) := by decide +kernel
theorem dX3_share_49 : decode cX3_share 49 = .ok (.aload_n 3, 1) := by decide +kernel
theorem dX3_share_50 : decode cX3_share 50 = .ok (.iload 4, 2) := by decide +kernel
theorem dX3_share_52 : decode cX3_share 52 = .ok (.invokevirtual 95, 3) := by decide +kernel
theorem dX3_share_55 : decode cX3_share 55 = .ok (.ifCond .ne 6, 3) := by decide +kernel
theorem dX3_share_58 : decode cX3_share 58 = .ok (.ldc 84, 2) := by decide +kernel
theorem dX3_share_60 : decode cX3_share 60 = .ok (.ireturn, 1) := by decide +kernel
theorem dX3_share_61 : decode cX3_share 61 = .ok (.aload_n 0, 1) := by decide +kernel
theorem dX3_share_62 : decode cX3_share 62 = .ok (.getfield 18, 3) := by decide +kernel
theorem dX3_share_65 : decode cX3_share 65 = .ok (.getfield 91, 3) := by decide +kernel
theorem dX3_share_68 : decode cX3_share 68 = .ok (.ireturn, 1) := by decide +kernel
set_option maxRecDepth 20000 in
theorem ggX3_blow_X3_pileOf : GoodIn wsX3_blow wsX3_pileOf := goodIn_ca (goodIn_r _ [6, 7, 8, 9, 83, 84, 85, 86] (by decide +kernel) (by decide +kernel)) (goodIn_sub (fun _ h => List.mem_cons_of_mem _ (List.mem_append_right _ h)) (by decide +kernel))
set_option maxRecDepth 20000 in
theorem gX3_blow_X3_pileOf : GoodIn wsX3_blow (wsV RX3 48 RX3 yX3_pileOf wsX3_pileOf) := goodIn_app (goodIn_of _ (by decide +kernel)) ggX3_blow_X3_pileOf
set_option maxRecDepth 20000 in
theorem ggX3_blow_X3_checkWithin : GoodIn wsX3_blow wsX3_checkWithin := goodIn_ca (goodIn_r _ [12, 7, 8] (by decide +kernel) (by decide +kernel)) (goodIn_sub (fun _ h => List.mem_cons_of_mem _ (List.mem_append_right _ h)) (by decide +kernel))
set_option maxRecDepth 20000 in
theorem gX3_blow_X3_checkWithin : GoodIn wsX3_blow (va_wsS RX3 33 yX3_checkWithin wsX3_checkWithin) := goodIn_app (goodIn_of _ (by decide +kernel)) ggX3_blow_X3_checkWithin
set_option maxRecDepth 20000 in
theorem ggX3_blow_X0_strike : GoodIn wsX3_blow wsX0_strike := goodIn_r _ [17, 18, 19, 20, 21, 22, 23, 24, 25, 26, 27, 28, 29, 30, 31, 32, 33, 34, 35, 36, 37, 38, 39, 40, 41, 42, 43, 44, 16, 45, 46, 47, 48, 49, 50, 51, 52, 53, 54, 55, 56, 57, 58, 59, 60, 61, 62, 63, 64, 5, 65, 66, 67, 68, 69, 70, 71, 87, 88, 89, 90, 91, 92, 93, 94, 95, 96, 97, 98, 99, 100, 101] (by decide +kernel) (by decide +kernel)
set_option maxRecDepth 20000 in
theorem gX3_blow_X0_strike : GoodIn wsX3_blow (wsV RX3 117 RX0 yX0_strike wsX0_strike) := goodIn_app (goodIn_of _ (by decide +kernel)) ggX3_blow_X0_strike
set_option maxRecDepth 20000 in
theorem ggX3_blow_X0_settled : GoodIn wsX3_blow wsX0_settled := goodIn_r _ [75, 19, 48, 49, 25, 50, 76, 77, 78, 35, 79, 80, 81, 82, 87, 88, 89, 90, 91, 92, 93, 94, 95, 96, 97, 98, 99, 100, 101] (by decide +kernel) (by decide +kernel)
set_option maxRecDepth 20000 in
theorem gX3_blow_X0_settled : GoodIn wsX3_blow (wsV RX3 121 RX0 yX0_settled wsX0_settled) := goodIn_app (goodIn_of _ (by decide +kernel)) ggX3_blow_X0_settled
theorem dX3_blow_0 : decode cX3_blow 0 = .ok (.aload_n 0, 1) := by decide +kernel
theorem dX3_blow_1 : decode cX3_blow 1 = .ok (.iload_n 1, 1) := by decide +kernel
theorem dX3_blow_2 : decode cX3_blow 2 = .ok (.invokevirtual 48, 3) := by decide +kernel
theorem dX3_blow_5 : decode cX3_blow 5 = .ok (.astore 4, 2) := by decide +kernel
theorem dX3_blow_7 : decode cX3_blow 7 = .ok (.iload_n 2, 1) := by decide +kernel
theorem dX3_blow_8 : decode cX3_blow 8 = .ok (.iconst 1, 1) := by decide +kernel
theorem dX3_blow_9 : decode cX3_blow 9 = .ok (.sipush 10000, 3) := by decide +kernel
theorem dX3_blow_12 : decode cX3_blow 12 = .ok (.invokestatic 33, 3) := by decide +kernel
theorem dX3_blow_15 : decode cX3_blow 15 = .ok (.iload_n 3, 1) := by decide +kernel
theorem dX3_blow_16 : decode cX3_blow 16 = .ok (.iconst 1, 1) := by decide +kernel
theorem dX3_blow_17 : decode cX3_blow 17 = .ok (.sipush 1000, 3) := by decide +kernel
theorem dX3_blow_20 : decode cX3_blow 20 = .ok (.invokestatic 33, 3) := by decide +kernel
theorem dX3_blow_23 : decode cX3_blow 23 = .ok (.aload_n 0, 1) := by decide +kernel
theorem dX3_blow_24 : decode cX3_blow 24 = .ok (.getfield 25, 3) := by decide +kernel
theorem dX3_blow_27 : decode cX3_blow 27 = .ok (.aload 4, 2) := by decide +kernel
theorem dX3_blow_29 : decode cX3_blow 29 = .ok (.iload_n 2, 1) := by decide +kernel
theorem dX3_blow_30 : decode cX3_blow 30 = .ok (.iload_n 3, 1) := by decide +kernel
theorem dX3_blow_31 : decode cX3_blow 31 = .ok (.invokevirtual 117, 3) := by decide +kernel
theorem dX3_blow_34 : decode cX3_blow 34 = .ok (.aload_n 0, 1) := by decide +kernel
theorem dX3_blow_35 : decode cX3_blow 35 = .ok (.getfield 25, 3) := by decide +kernel
theorem dX3_blow_38 : decode cX3_blow 38 = .ok (.aload 4, 2) := by decide +kernel
theorem dX3_blow_40 : decode cX3_blow 40 = .ok (.invokevirtual 121, 3) := by decide +kernel
theorem dX3_blow_43 : decode cX3_blow 43 = .ok (.ireturn, 1) := by decide +kernel
set_option maxRecDepth 20000 in
theorem ggX3_wave_X0_happened : GoodIn wsX3_wave wsX0_happened := goodIn_r _ [9, 10, 27, 28, 29, 30, 31, 32] (by decide +kernel) (by decide +kernel)
set_option maxRecDepth 20000 in
theorem gX3_wave_X0_happened : GoodIn wsX3_wave (wsV RX3 125 RX0 yX0_happened wsX0_happened) := goodIn_app (goodIn_of _ (by decide +kernel)) ggX3_wave_X0_happened
set_option maxRecDepth 20000 in
theorem ggX3_wave_X3_checkWithin : GoodIn wsX3_wave wsX3_checkWithin := goodIn_ca (goodIn_r _ [14, 15, 16] (by decide +kernel) (by decide +kernel)) (goodIn_sub (fun _ h => List.mem_cons_of_mem _ (List.mem_append_right _ h)) (by decide +kernel))
set_option maxRecDepth 20000 in
theorem gX3_wave_X3_checkWithin : GoodIn wsX3_wave (va_wsS RX3 33 yX3_checkWithin wsX3_checkWithin) := goodIn_app (goodIn_of _ (by decide +kernel)) ggX3_wave_X3_checkWithin
set_option maxRecDepth 20000 in
theorem ggX3_wave_X0_behindRound : GoodIn wsX3_wave wsX0_behindRound := goodIn_r _ [20, 21, 22, 27, 28, 29, 30, 31, 32] (by decide +kernel) (by decide +kernel)
set_option maxRecDepth 20000 in
theorem gX3_wave_X0_behindRound : GoodIn wsX3_wave (wsV RX3 134 RX0 yX0_behindRound wsX0_behindRound) := goodIn_app (goodIn_of _ (by decide +kernel)) ggX3_wave_X0_behindRound
theorem dX3_wave_0 : decode cX3_wave 0 = .ok (.aload_n 0, 1) := by decide +kernel
theorem dX3_wave_1 : decode cX3_wave 1 = .ok (.getfield 25, 3) := by decide +kernel
theorem dX3_wave_4 : decode cX3_wave 4 = .ok (.invokevirtual 125, 3) := by decide +kernel
theorem dX3_wave_7 : decode cX3_wave 7 = .ok (.ifCond .ne 13, 3) := by decide +kernel
theorem dX3_wave_10 : decode cX3_wave 10 = .ok (.new 38, 3) := by decide +kernel
theorem dX3_wave_13 : decode cX3_wave 13 = .ok (.dup, 1) := by decide +kernel
theorem dX3_wave_14 : decode cX3_wave 14 = .ok (.ldc 129, 2) := by decide +kernel
theorem dX3_wave_16 : decode cX3_wave 16 = .ok (.invokespecial 42, 3) := by decide +kernel
theorem dX3_wave_19 : decode cX3_wave 19 = .ok (.athrow, 1) := by decide +kernel
theorem dX3_wave_20 : decode cX3_wave 20 = .ok (.iload_n 1, 1) := by decide +kernel
theorem dX3_wave_21 : decode cX3_wave 21 = .ok (.iconst 0, 1) := by decide +kernel
theorem dX3_wave_22 : decode cX3_wave 22 = .ok (.sipush 199, 3) := by decide +kernel
theorem dX3_wave_25 : decode cX3_wave 25 = .ok (.invokestatic 33, 3) := by decide +kernel
theorem dX3_wave_28 : decode cX3_wave 28 = .ok (.iload_n 2, 1) := by decide +kernel
theorem dX3_wave_29 : decode cX3_wave 29 = .ok (.iconst 0, 1) := by decide +kernel
theorem dX3_wave_30 : decode cX3_wave 30 = .ok (.aload_n 0, 1) := by decide +kernel
theorem dX3_wave_31 : decode cX3_wave 31 = .ok (.getfield 25, 3) := by decide +kernel
theorem dX3_wave_34 : decode cX3_wave 34 = .ok (.getfield 131, 3) := by decide +kernel
theorem dX3_wave_37 : decode cX3_wave 37 = .ok (.invokestatic 33, 3) := by decide +kernel
theorem dX3_wave_40 : decode cX3_wave 40 = .ok (.aload_n 0, 1) := by decide +kernel
theorem dX3_wave_41 : decode cX3_wave 41 = .ok (.getfield 25, 3) := by decide +kernel
theorem dX3_wave_44 : decode cX3_wave 44 = .ok (.iload_n 1, 1) := by decide +kernel
theorem dX3_wave_45 : decode cX3_wave 45 = .ok (.iload_n 2, 1) := by decide +kernel
theorem dX3_wave_46 : decode cX3_wave 46 = .ok (.invokevirtual 134, 3) := by decide +kernel
theorem dX3_wave_49 : decode cX3_wave 49 = .ok (.ireturn, 1) := by decide +kernel
theorem dX3_checkWithin_0 : decode cX3_checkWithin 0 = .ok (.iload_n 0, 1) := by decide +kernel
theorem dX3_checkWithin_1 : decode cX3_checkWithin 1 = .ok (.iload_n 1, 1) := by decide +kernel
theorem dX3_checkWithin_2 : decode cX3_checkWithin 2 = .ok (.if_icmp .lt 8, 3) := by decide +kernel
theorem dX3_checkWithin_5 : decode cX3_checkWithin 5 = .ok (.iload_n 0, 1) := by decide +kernel
theorem dX3_checkWithin_6 : decode cX3_checkWithin 6 = .ok (.iload_n 2, 1) := by decide +kernel
theorem dX3_checkWithin_7 : decode cX3_checkWithin 7 = .ok (.if_icmp .le 13, 3) := by decide +kernel
theorem dX3_checkWithin_10 : decode cX3_checkWithin 10 = .ok (.new 112, 3) := by decide +kernel
theorem dX3_checkWithin_13 : decode cX3_checkWithin 13 = .ok (.dup, 1) := by decide +kernel
theorem dX3_checkWithin_14 : decode cX3_checkWithin 14 = .ok (.ldc 138, 2) := by decide +kernel
theorem dX3_checkWithin_16 : decode cX3_checkWithin 16 = .ok (.invokespecial 116, 3) := by decide +kernel
theorem dX3_checkWithin_19 : decode cX3_checkWithin 19 = .ok (.athrow, 1) := by decide +kernel
theorem dX3_checkWithin_20 : decode cX3_checkWithin 20 = .ok (.return_, 1) := by decide +kernel
set_option maxRecDepth 20000 in
theorem ggX3_checkLoad_X3_checkWithin : GoodIn wsX3_checkLoad wsX3_checkWithin := goodIn_ca (goodIn_r _ [5, 6, 7] (by decide +kernel) (by decide +kernel)) (goodIn_sub (fun _ h => List.mem_cons_of_mem _ (List.mem_append_right _ h)) (by decide +kernel))
set_option maxRecDepth 20000 in
theorem gX3_checkLoad_X3_checkWithin : GoodIn wsX3_checkLoad (va_wsS RX3 33 yX3_checkWithin wsX3_checkWithin) := goodIn_app (goodIn_of _ (by decide +kernel)) ggX3_checkLoad_X3_checkWithin
theorem dX3_checkLoad_0 : decode cX3_checkLoad 0 = .ok (.iload_n 0, 1) := by decide +kernel
theorem dX3_checkLoad_1 : decode cX3_checkLoad 1 = .ok (.iconst 0, 1) := by decide +kernel
theorem dX3_checkLoad_2 : decode cX3_checkLoad 2 = .ok (.ldc 140, 2) := by decide +kernel
theorem dX3_checkLoad_4 : decode cX3_checkLoad 4 = .ok (.invokestatic 33, 3) := by decide +kernel
theorem dX3_checkLoad_7 : decode cX3_checkLoad 7 = .ok (.return_, 1) := by decide +kernel
set_option maxRecDepth 20000 in
theorem ggX3_checkPiece_X1_pieces : GoodIn wsX3_checkPiece wsX1_pieces := goodIn_r _ [5, 6, 13, 14, 15, 16, 17, 18, 19, 20, 21] (by decide +kernel) (by decide +kernel)
set_option maxRecDepth 20000 in
theorem gX3_checkPiece_X1_pieces : GoodIn wsX3_checkPiece (wsV RX3 141 RX1 yX1_pieces wsX1_pieces) := goodIn_app (goodIn_of _ (by decide +kernel)) ggX3_checkPiece_X1_pieces
set_option maxRecDepth 20000 in
theorem ggX3_checkPiece_X3_checkWithin : GoodIn wsX3_checkPiece wsX3_checkWithin := goodIn_ca (goodIn_r _ [10, 11, 12] (by decide +kernel) (by decide +kernel)) (goodIn_sub (fun _ h => List.mem_cons_of_mem _ (List.mem_append_right _ h)) (by decide +kernel))
set_option maxRecDepth 20000 in
theorem gX3_checkPiece_X3_checkWithin : GoodIn wsX3_checkPiece (va_wsS RX3 33 yX3_checkWithin wsX3_checkWithin) := goodIn_app (goodIn_of _ (by decide +kernel)) ggX3_checkPiece_X3_checkWithin
theorem dX3_checkPiece_0 : decode cX3_checkPiece 0 = .ok (.iload_n 1, 1) := by decide +kernel
theorem dX3_checkPiece_1 : decode cX3_checkPiece 1 = .ok (.iconst 0, 1) := by decide +kernel
theorem dX3_checkPiece_2 : decode cX3_checkPiece 2 = .ok (.aload_n 0, 1) := by decide +kernel
theorem dX3_checkPiece_3 : decode cX3_checkPiece 3 = .ok (.invokevirtual 141, 3) := by decide +kernel
theorem dX3_checkPiece_6 : decode cX3_checkPiece 6 = .ok (.iconst 1, 1) := by decide +kernel
theorem dX3_checkPiece_7 : decode cX3_checkPiece 7 = .ok (.isub, 1) := by decide +kernel
theorem dX3_checkPiece_8 : decode cX3_checkPiece 8 = .ok (.invokestatic 33, 3) := by decide +kernel
theorem dX3_checkPiece_11 : decode cX3_checkPiece 11 = .ok (.return_, 1) := by decide +kernel
theorem dX3_pileOf_0 : decode cX3_pileOf 0 = .ok (.iload_n 1, 1) := by decide +kernel
theorem dX3_pileOf_1 : decode cX3_pileOf 1 = .ok (.ifCond .lt 21, 3) := by decide +kernel
theorem dX3_pileOf_4 : decode cX3_pileOf 4 = .ok (.iload_n 1, 1) := by decide +kernel
theorem dX3_pileOf_5 : decode cX3_pileOf 5 = .ok (.aload_n 0, 1) := by decide +kernel
theorem dX3_pileOf_6 : decode cX3_pileOf 6 = .ok (.getfield 11, 3) := by decide +kernel
theorem dX3_pileOf_9 : decode cX3_pileOf 9 = .ok (.arraylength, 1) := by decide +kernel
theorem dX3_pileOf_10 : decode cX3_pileOf 10 = .ok (.if_icmp .ge 12, 3) := by decide +kernel
theorem dX3_pileOf_13 : decode cX3_pileOf 13 = .ok (.aload_n 0, 1) := by decide +kernel
theorem dX3_pileOf_14 : decode cX3_pileOf 14 = .ok (.getfield 11, 3) := by decide +kernel
theorem dX3_pileOf_17 : decode cX3_pileOf 17 = .ok (.iload_n 1, 1) := by decide +kernel
theorem dX3_pileOf_18 : decode cX3_pileOf 18 = .ok (.aaload, 1) := by decide +kernel
theorem dX3_pileOf_19 : decode cX3_pileOf 19 = .ok (.ifnonnull 13, 3) := by decide +kernel
theorem dX3_pileOf_22 : decode cX3_pileOf 22 = .ok (.new 112, 3) := by decide +kernel
theorem dX3_pileOf_25 : decode cX3_pileOf 25 = .ok (.dup, 1) := by decide +kernel
theorem dX3_pileOf_26 : decode cX3_pileOf 26 = .ok (.ldc 144, 2) := by decide +kernel
theorem dX3_pileOf_28 : decode cX3_pileOf 28 = .ok (.invokespecial 116, 3) := by decide +kernel
theorem dX3_pileOf_31 : decode cX3_pileOf 31 = .ok (.athrow, 1) := by decide +kernel
theorem dX3_pileOf_32 : decode cX3_pileOf 32 = .ok (.aload_n 0, 1) := by decide +kernel
theorem dX3_pileOf_33 : decode cX3_pileOf 33 = .ok (.getfield 11, 3) := by decide +kernel
theorem dX3_pileOf_36 : decode cX3_pileOf 36 = .ok (.iload_n 1, 1) := by decide +kernel
theorem dX3_pileOf_37 : decode cX3_pileOf 37 = .ok (.aaload, 1) := by decide +kernel
theorem dX3_pileOf_38 : decode cX3_pileOf 38 = .ok (.areturn, 1) := by decide +kernel
theorem dX3_checkGroupNotEmpty_0 : decode cX3_checkGroupNotEmpty 0 = .ok (.aload_n 0, 1) := by decide +kernel
theorem dX3_checkGroupNotEmpty_1 : decode cX3_checkGroupNotEmpty 1 = .ok (.getfield 11, 3) := by decide +kernel
theorem dX3_checkGroupNotEmpty_4 : decode cX3_checkGroupNotEmpty 4 = .ok (.astore_n 1, 1) := by decide +kernel
theorem dX3_checkGroupNotEmpty_5 : decode cX3_checkGroupNotEmpty 5 = .ok (.aload_n 1, 1) := by decide +kernel
theorem dX3_checkGroupNotEmpty_6 : decode cX3_checkGroupNotEmpty 6 = .ok (.arraylength, 1) := by decide +kernel
theorem dX3_checkGroupNotEmpty_7 : decode cX3_checkGroupNotEmpty 7 = .ok (.istore_n 2, 1) := by decide +kernel
theorem dX3_checkGroupNotEmpty_8 : decode cX3_checkGroupNotEmpty 8 = .ok (.iconst 0, 1) := by decide +kernel
theorem dX3_checkGroupNotEmpty_9 : decode cX3_checkGroupNotEmpty 9 = .ok (.istore_n 3, 1) := by decide +kernel
theorem dX3_checkGroupNotEmpty_10 : decode cX3_checkGroupNotEmpty 10 = .ok (.iload_n 3, 1) := by decide +kernel
theorem dX3_checkGroupNotEmpty_11 : decode cX3_checkGroupNotEmpty 11 = .ok (.iload_n 2, 1) := by decide +kernel
theorem dX3_checkGroupNotEmpty_12 : decode cX3_checkGroupNotEmpty 12 = .ok (.if_icmp .ge 28, 3) := by decide +kernel
theorem dX3_checkGroupNotEmpty_15 : decode cX3_checkGroupNotEmpty 15 = .ok (.aload_n 1, 1) := by decide +kernel
theorem dX3_checkGroupNotEmpty_16 : decode cX3_checkGroupNotEmpty 16 = .ok (.iload_n 3, 1) := by decide +kernel
theorem dX3_checkGroupNotEmpty_17 : decode cX3_checkGroupNotEmpty 17 = .ok (.aaload, 1) := by decide +kernel
theorem dX3_checkGroupNotEmpty_18 : decode cX3_checkGroupNotEmpty 18 = .ok (.astore 4, 2) := by decide +kernel
theorem dX3_checkGroupNotEmpty_20 : decode cX3_checkGroupNotEmpty 20 = .ok (.aload 4, 2) := by decide +kernel
theorem dX3_checkGroupNotEmpty_22 : decode cX3_checkGroupNotEmpty 22 = .ok (.ifnull 12, 3) := by decide +kernel
theorem dX3_checkGroupNotEmpty_25 : decode cX3_checkGroupNotEmpty 25 = .ok (.aload 4, 2) := by decide +kernel
theorem dX3_checkGroupNotEmpty_27 : decode cX3_checkGroupNotEmpty 27 = .ok (.getfield 101, 3) := by decide +kernel
theorem dX3_checkGroupNotEmpty_30 : decode cX3_checkGroupNotEmpty 30 = .ok (.ifCond .eq 4, 3) := by decide +kernel
theorem dX3_checkGroupNotEmpty_33 : decode cX3_checkGroupNotEmpty 33 = .ok (.return_, 1) := by decide +kernel
theorem dX3_checkGroupNotEmpty_34 : decode cX3_checkGroupNotEmpty 34 = .ok (.iinc 3 1, 3) := by decide +kernel
theorem dX3_checkGroupNotEmpty_37 : decode cX3_checkGroupNotEmpty 37 = .ok (.goto (-27), 3) := by decide +kernel
theorem dX3_checkGroupNotEmpty_40 : decode cX3_checkGroupNotEmpty 40 = .ok (.new 38, 3) := by decide +kernel
theorem dX3_checkGroupNotEmpty_43 : decode cX3_checkGroupNotEmpty 43 = .ok (.dup, 1) := by decide +kernel
theorem dX3_checkGroupNotEmpty_44 : decode cX3_checkGroupNotEmpty 44 = .ok (.ldc 146, 2) := by decide +kernel
theorem dX3_checkGroupNotEmpty_46 : decode cX3_checkGroupNotEmpty 46 = .ok (.invokespecial 42, 3) := by decide +kernel
theorem dX3_checkGroupNotEmpty_49 : decode cX3_checkGroupNotEmpty 49 = .ok (.athrow, 1) := by decide +kernel
set_option maxRecDepth 20000 in
theorem ggX3_groupSettlement_X3_groupLoad : GoodIn wsX3_groupSettlement wsX3_groupLoad := goodIn_r _ [6, 7, 8, 9, 10, 11, 12, 13, 14, 15, 16, 17, 18, 19, 20, 21, 22, 23, 24, 25, 26, 27, 28, 29, 30, 31, 32, 33, 34, 35, 36, 37, 38, 39, 40, 41, 42, 43, 44, 45, 5, 46, 47, 48, 49, 50, 51, 52, 53, 54, 55, 56, 57, 58, 59, 60, 61, 62, 63, 64, 65, 66, 67] (by decide +kernel) (by decide +kernel)
set_option maxRecDepth 20000 in
theorem gX3_groupSettlement_X3_groupLoad : GoodIn wsX3_groupSettlement (wsV RX3 148 RX3 yX3_groupLoad wsX3_groupLoad) := goodIn_app (goodIn_of _ (by decide +kernel)) ggX3_groupSettlement_X3_groupLoad
theorem dX3_groupSettlement_0 : decode cX3_groupSettlement 0 = .ok (.aload_n 0, 1) := by decide +kernel
theorem dX3_groupSettlement_1 : decode cX3_groupSettlement 1 = .ok (.iconst 0, 1) := by decide +kernel
theorem dX3_groupSettlement_2 : decode cX3_groupSettlement 2 = .ok (.invokevirtual 148, 3) := by decide +kernel
theorem dX3_groupSettlement_5 : decode cX3_groupSettlement 5 = .ok (.iload_n 1, 1) := by decide +kernel
theorem dX3_groupSettlement_6 : decode cX3_groupSettlement 6 = .ok (.i2l, 1) := by decide +kernel
theorem dX3_groupSettlement_7 : decode cX3_groupSettlement 7 = .ok (.lcmp, 1) := by decide +kernel
theorem dX3_groupSettlement_8 : decode cX3_groupSettlement 8 = .ok (.ifCond .gt 16, 3) := by decide +kernel
theorem dX3_groupSettlement_11 : decode cX3_groupSettlement 11 = .ok (.aload_n 0, 1) := by decide +kernel
theorem dX3_groupSettlement_12 : decode cX3_groupSettlement 12 = .ok (.sipush 10000, 3) := by decide +kernel
theorem dX3_groupSettlement_15 : decode cX3_groupSettlement 15 = .ok (.invokevirtual 148, 3) := by decide +kernel
theorem dX3_groupSettlement_18 : decode cX3_groupSettlement 18 = .ok (.iload_n 1, 1) := by decide +kernel
theorem dX3_groupSettlement_19 : decode cX3_groupSettlement 19 = .ok (.i2l, 1) := by decide +kernel
theorem dX3_groupSettlement_20 : decode cX3_groupSettlement 20 = .ok (.lcmp, 1) := by decide +kernel
theorem dX3_groupSettlement_21 : decode cX3_groupSettlement 21 = .ok (.ifCond .gt 6, 3) := by decide +kernel
theorem dX3_groupSettlement_24 : decode cX3_groupSettlement 24 = .ok (.ldc 84, 2) := by decide +kernel
theorem dX3_groupSettlement_26 : decode cX3_groupSettlement 26 = .ok (.ireturn, 1) := by decide +kernel
theorem dX3_groupSettlement_27 : decode cX3_groupSettlement 27 = .ok (.iconst 0, 1) := by decide +kernel
theorem dX3_groupSettlement_28 : decode cX3_groupSettlement 28 = .ok (.istore_n 2, 1) := by decide +kernel
theorem dX3_groupSettlement_29 : decode cX3_groupSettlement 29 = .ok (.sipush 8192, 3) := by decide +kernel
theorem dX3_groupSettlement_32 : decode cX3_groupSettlement 32 = .ok (.istore_n 3, 1) := by decide +kernel
theorem dX3_groupSettlement_33 : decode cX3_groupSettlement 33 = .ok (.iload_n 3, 1) := by decide +kernel
theorem dX3_groupSettlement_34 : decode cX3_groupSettlement 34 = .ok (.ifCond .le 38, 3) := by decide +kernel
theorem dX3_groupSettlement_37 : decode cX3_groupSettlement 37 = .ok (.iload_n 2, 1) := by decide +kernel
theorem dX3_groupSettlement_38 : decode cX3_groupSettlement 38 = .ok (.iload_n 3, 1) := by decide +kernel
theorem dX3_groupSettlement_39 : decode cX3_groupSettlement 39 = .ok (.iadd, 1) := by decide +kernel
theorem dX3_groupSettlement_40 : decode cX3_groupSettlement 40 = .ok (.istore 4, 2) := by decide +kernel
theorem dX3_groupSettlement_42 : decode cX3_groupSettlement 42 = .ok (.iload 4, 2) := by decide +kernel
theorem dX3_groupSettlement_44 : decode cX3_groupSettlement 44 = .ok (.sipush 10000, 3) := by decide +kernel
theorem dX3_groupSettlement_47 : decode cX3_groupSettlement 47 = .ok (.if_icmp .ge 18, 3) := by decide +kernel
theorem dX3_groupSettlement_50 : decode cX3_groupSettlement 50 = .ok (.aload_n 0, 1) := by decide +kernel
theorem dX3_groupSettlement_51 : decode cX3_groupSettlement 51 = .ok (.iload 4, 2) := by decide +kernel
theorem dX3_groupSettlement_53 : decode cX3_groupSettlement 53 = .ok (.invokevirtual 148, 3) := by decide +kernel
theorem dX3_groupSettlement_56 : decode cX3_groupSettlement 56 = .ok (.iload_n 1, 1) := by decide +kernel
theorem dX3_groupSettlement_57 : decode cX3_groupSettlement 57 = .ok (.i2l, 1) := by decide +kernel
theorem dX3_groupSettlement_58 : decode cX3_groupSettlement 58 = .ok (.lcmp, 1) := by decide +kernel
theorem dX3_groupSettlement_59 : decode cX3_groupSettlement 59 = .ok (.ifCond .gt 6, 3) := by decide +kernel
theorem dX3_groupSettlement_62 : decode cX3_groupSettlement 62 = .ok (.iload 4, 2) := by decide +kernel
theorem dX3_groupSettlement_64 : decode cX3_groupSettlement 64 = .ok (.istore_n 2, 1) := by decide +kernel
theorem dX3_groupSettlement_65 : decode cX3_groupSettlement 65 = .ok (.iload_n 3, 1) := by decide +kernel
theorem dX3_groupSettlement_66 : decode cX3_groupSettlement 66 = .ok (.iconst 2, 1) := by decide +kernel
theorem dX3_groupSettlement_67 : decode cX3_groupSettlement 67 = .ok (.idiv, 1) := by decide +kernel
theorem dX3_groupSettlement_68 : decode cX3_groupSettlement 68 = .ok (.istore_n 3, 1) := by decide +kernel
theorem dX3_groupSettlement_69 : decode cX3_groupSettlement 69 = .ok (.goto (-36), 3) := by decide +kernel
theorem dX3_groupSettlement_72 : decode cX3_groupSettlement 72 = .ok (.iload_n 2, 1) := by decide +kernel
theorem dX3_groupSettlement_73 : decode cX3_groupSettlement 73 = .ok (.ireturn, 1) := by decide +kernel
set_option maxRecDepth 20000 in
theorem ggX3_groupLoad_X2_findAt : GoodIn wsX3_groupLoad wsX2_findAt := goodIn_r _ [10, 11, 12, 13, 9, 14, 15, 16, 17, 18, 19, 20, 21, 22, 23, 24, 25, 26, 27, 28, 29, 30, 31, 32, 33, 34, 35, 36, 37, 38, 39, 40, 41, 42, 43, 44, 45, 59, 60, 61, 62, 50, 51, 52, 53, 54, 55, 56, 57, 58] (by decide +kernel) (by decide +kernel)
set_option maxRecDepth 20000 in
theorem gX3_groupLoad_X2_findAt : GoodIn wsX3_groupLoad (wsV RX3 95 RX2 yX2_findAt wsX2_findAt) := goodIn_app (goodIn_of _ (by decide +kernel)) ggX3_groupLoad_X2_findAt
theorem dX3_groupLoad_0 : decode cX3_groupLoad 0 = .ok (.lconst 0, 1) := by decide +kernel
theorem dX3_groupLoad_1 : decode cX3_groupLoad 1 = .ok (.lstore_n 2, 1) := by decide +kernel
theorem dX3_groupLoad_2 : decode cX3_groupLoad 2 = .ok (.aload_n 0, 1) := by decide +kernel
theorem dX3_groupLoad_3 : decode cX3_groupLoad 3 = .ok (.getfield 11, 3) := by decide +kernel
theorem dX3_groupLoad_6 : decode cX3_groupLoad 6 = .ok (.astore 4, 2) := by decide +kernel
theorem dX3_groupLoad_8 : decode cX3_groupLoad 8 = .ok (.aload 4, 2) := by decide +kernel
theorem dX3_groupLoad_10 : decode cX3_groupLoad 10 = .ok (.arraylength, 1) := by decide +kernel
theorem dX3_groupLoad_11 : decode cX3_groupLoad 11 = .ok (.istore 5, 2) := by decide +kernel
theorem dX3_groupLoad_13 : decode cX3_groupLoad 13 = .ok (.iconst 0, 1) := by decide +kernel
theorem dX3_groupLoad_14 : decode cX3_groupLoad 14 = .ok (.istore 6, 2) := by decide +kernel
theorem dX3_groupLoad_16 : decode cX3_groupLoad 16 = .ok (.iload 6, 2) := by decide +kernel
theorem dX3_groupLoad_18 : decode cX3_groupLoad 18 = .ok (.iload 5, 2) := by decide +kernel
theorem dX3_groupLoad_20 : decode cX3_groupLoad 20 = .ok (.if_icmp .ge 60, 3) := by decide +kernel
theorem dX3_groupLoad_23 : decode cX3_groupLoad 23 = .ok (.aload 4, 2) := by decide +kernel
theorem dX3_groupLoad_25 : decode cX3_groupLoad 25 = .ok (.iload 6, 2) := by decide +kernel
theorem dX3_groupLoad_27 : decode cX3_groupLoad 27 = .ok (.aaload, 1) := by decide +kernel
theorem dX3_groupLoad_28 : decode cX3_groupLoad 28 = .ok (.astore 7, 2) := by decide +kernel
theorem dX3_groupLoad_30 : decode cX3_groupLoad 30 = .ok (.aload 7, 2) := by decide +kernel
theorem dX3_groupLoad_32 : decode cX3_groupLoad 32 = .ok (.ifnull 42, 3) := by decide +kernel
theorem dX3_groupLoad_35 : decode cX3_groupLoad 35 = .ok (.aload 7, 2) := by decide +kernel
theorem dX3_groupLoad_37 : decode cX3_groupLoad 37 = .ok (.getfield 101, 3) := by decide +kernel
theorem dX3_groupLoad_40 : decode cX3_groupLoad 40 = .ok (.ifCond .ne 6, 3) := by decide +kernel
theorem dX3_groupLoad_43 : decode cX3_groupLoad 43 = .ok (.goto 31, 3) := by decide +kernel
theorem dX3_groupLoad_46 : decode cX3_groupLoad 46 = .ok (.aload_n 0, 1) := by decide +kernel
theorem dX3_groupLoad_47 : decode cX3_groupLoad 47 = .ok (.getfield 18, 3) := by decide +kernel
theorem dX3_groupLoad_50 : decode cX3_groupLoad 50 = .ok (.aload 7, 2) := by decide +kernel
theorem dX3_groupLoad_52 : decode cX3_groupLoad 52 = .ok (.iload_n 1, 1) := by decide +kernel
theorem dX3_groupLoad_53 : decode cX3_groupLoad 53 = .ok (.invokevirtual 95, 3) := by decide +kernel
theorem dX3_groupLoad_56 : decode cX3_groupLoad 56 = .ok (.ifCond .ne 7, 3) := by decide +kernel
theorem dX3_groupLoad_59 : decode cX3_groupLoad 59 = .ok (.ldc2_w 152, 3) := by decide +kernel
theorem dX3_groupLoad_62 : decode cX3_groupLoad 62 = .ok (.lreturn, 1) := by decide +kernel
theorem dX3_groupLoad_63 : decode cX3_groupLoad 63 = .ok (.lload_n 2, 1) := by decide +kernel
theorem dX3_groupLoad_64 : decode cX3_groupLoad 64 = .ok (.aload_n 0, 1) := by decide +kernel
theorem dX3_groupLoad_65 : decode cX3_groupLoad 65 = .ok (.getfield 18, 3) := by decide +kernel
theorem dX3_groupLoad_68 : decode cX3_groupLoad 68 = .ok (.getfield 91, 3) := by decide +kernel
theorem dX3_groupLoad_71 : decode cX3_groupLoad 71 = .ok (.i2l, 1) := by decide +kernel
theorem dX3_groupLoad_72 : decode cX3_groupLoad 72 = .ok (.ladd, 1) := by decide +kernel
theorem dX3_groupLoad_73 : decode cX3_groupLoad 73 = .ok (.lstore_n 2, 1) := by decide +kernel
theorem dX3_groupLoad_74 : decode cX3_groupLoad 74 = .ok (.iinc 6 1, 3) := by decide +kernel
theorem dX3_groupLoad_77 : decode cX3_groupLoad 77 = .ok (.goto (-61), 3) := by decide +kernel
theorem dX3_groupLoad_80 : decode cX3_groupLoad 80 = .ok (.lload_n 2, 1) := by decide +kernel
theorem dX3_groupLoad_81 : decode cX3_groupLoad 81 = .ok (.lreturn, 1) := by decide +kernel
theorem dX3_clamp_0 : decode cX3_clamp 0 = .ok (.lload_n 0, 1) := by decide +kernel
theorem dX3_clamp_1 : decode cX3_clamp 1 = .ok (.iload_n 2, 1) := by decide +kernel
theorem dX3_clamp_2 : decode cX3_clamp 2 = .ok (.i2l, 1) := by decide +kernel
theorem dX3_clamp_3 : decode cX3_clamp 3 = .ok (.lcmp, 1) := by decide +kernel
theorem dX3_clamp_4 : decode cX3_clamp 4 = .ok (.ifCond .ge 5, 3) := by decide +kernel
theorem dX3_clamp_7 : decode cX3_clamp 7 = .ok (.iload_n 2, 1) := by decide +kernel
theorem dX3_clamp_8 : decode cX3_clamp 8 = .ok (.ireturn, 1) := by decide +kernel
theorem dX3_clamp_9 : decode cX3_clamp 9 = .ok (.lload_n 0, 1) := by decide +kernel
theorem dX3_clamp_10 : decode cX3_clamp 10 = .ok (.iload_n 3, 1) := by decide +kernel
theorem dX3_clamp_11 : decode cX3_clamp 11 = .ok (.i2l, 1) := by decide +kernel
theorem dX3_clamp_12 : decode cX3_clamp 12 = .ok (.lcmp, 1) := by decide +kernel
theorem dX3_clamp_13 : decode cX3_clamp 13 = .ok (.ifCond .le 7, 3) := by decide +kernel
theorem dX3_clamp_16 : decode cX3_clamp 16 = .ok (.iload_n 3, 1) := by decide +kernel
theorem dX3_clamp_17 : decode cX3_clamp 17 = .ok (.goto 5, 3) := by decide +kernel
theorem dX3_clamp_20 : decode cX3_clamp 20 = .ok (.lload_n 0, 1) := by decide +kernel
theorem dX3_clamp_21 : decode cX3_clamp 21 = .ok (.l2i, 1) := by decide +kernel
theorem dX3_clamp_22 : decode cX3_clamp 22 = .ok (.ireturn, 1) := by decide +kernel
abbrev vwCl : List vw_C := [(RX0, TX0, 6), (RX1, TX1, 9), (RX2, TX2, 4), (RX3, TX3, 4), (RX4, TX4, 19)]

