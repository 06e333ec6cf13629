theorem dX4_init_0 : decode cX4_init 0 = .ok (.aload_n 0, 1) := by decide +kernel
theorem dX4_init_1 : decode cX4_init 1 = .ok (.invokespecial 1, 3) := by decide +kernel
theorem dX4_init_4 : decode cX4_init 4 = .ok (.aload_n 0, 1) := by decide +kernel
theorem dX4_init_5 : decode cX4_init 5 = .ok (.bipush 6, 2) := by decide +kernel
theorem dX4_init_7 : decode cX4_init 7 = .ok (.newarray .int, 2) := by decide +kernel
theorem dX4_init_9 : decode cX4_init 9 = .ok (.putfield 7, 3) := by decide +kernel
theorem dX4_init_12 : decode cX4_init 12 = .ok (.aload_n 0, 1) := by decide +kernel
theorem dX4_init_13 : decode cX4_init 13 = .ok (.bipush 6, 2) := by decide +kernel
theorem dX4_init_15 : decode cX4_init 15 = .ok (.newarray .long, 2) := by decide +kernel
theorem dX4_init_17 : decode cX4_init 17 = .ok (.putfield 13, 3) := by decide +kernel
theorem dX4_init_20 : decode cX4_init 20 = .ok (.aload_n 0, 1) := by decide +kernel
theorem dX4_init_21 : decode cX4_init 21 = .ok (.bipush 6, 2) := by decide +kernel
theorem dX4_init_23 : decode cX4_init 23 = .ok (.newarray .long, 2) := by decide +kernel
theorem dX4_init_25 : decode cX4_init 25 = .ok (.putfield 17, 3) := by decide +kernel
theorem dX4_init_28 : decode cX4_init 28 = .ok (.aload_n 0, 1) := by decide +kernel
theorem dX4_init_29 : decode cX4_init 29 = .ok (.bipush 6, 2) := by decide +kernel
theorem dX4_init_31 : decode cX4_init 31 = .ok (.newarray .int, 2) := by decide +kernel
theorem dX4_init_33 : decode cX4_init 33 = .ok (.putfield 20, 3) := by decide +kernel
theorem dX4_init_36 : decode cX4_init 36 = .ok (.aload_n 0, 1) := by decide +kernel
theorem dX4_init_37 : decode cX4_init 37 = .ok (.bipush 72, 2) := by decide +kernel
theorem dX4_init_39 : decode cX4_init 39 = .ok (.newarray .long, 2) := by decide +kernel
theorem dX4_init_41 : decode cX4_init 41 = .ok (.putfield 23, 3) := by decide +kernel
theorem dX4_init_44 : decode cX4_init 44 = .ok (.aload_n 0, 1) := by decide +kernel
theorem dX4_init_45 : decode cX4_init 45 = .ok (.bipush 72, 2) := by decide +kernel
theorem dX4_init_47 : decode cX4_init 47 = .ok (.newarray .long, 2) := by decide +kernel
theorem dX4_init_49 : decode cX4_init 49 = .ok (.putfield 26, 3) := by decide +kernel
theorem dX4_init_52 : decode cX4_init 52 = .ok (.aload_n 0, 1) := by decide +kernel
theorem dX4_init_53 : decode cX4_init 53 = .ok (.bipush 72, 2) := by decide +kernel
theorem dX4_init_55 : decode cX4_init 55 = .ok (.newarray .long, 2) := by decide +kernel
theorem dX4_init_57 : decode cX4_init 57 = .ok (.putfield 29, 3) := by decide +kernel
theorem dX4_init_60 : decode cX4_init 60 = .ok (.aload_n 0, 1) := by decide +kernel
theorem dX4_init_61 : decode cX4_init 61 = .ok (.bipush 6, 2) := by decide +kernel
theorem dX4_init_63 : decode cX4_init 63 = .ok (.newarray .long, 2) := by decide +kernel
theorem dX4_init_65 : decode cX4_init 65 = .ok (.putfield 32, 3) := by decide +kernel
theorem dX4_init_68 : decode cX4_init 68 = .ok (.aload_n 0, 1) := by decide +kernel
theorem dX4_init_69 : decode cX4_init 69 = .ok (.bipush 6, 2) := by decide +kernel
theorem dX4_init_71 : decode cX4_init 71 = .ok (.newarray .long, 2) := by decide +kernel
theorem dX4_init_73 : decode cX4_init 73 = .ok (.putfield 35, 3) := by decide +kernel
theorem dX4_init_76 : decode cX4_init 76 = .ok (.aload_n 0, 1) := by decide +kernel
theorem dX4_init_77 : decode cX4_init 77 = .ok (.bipush 6, 2) := by decide +kernel
theorem dX4_init_79 : decode cX4_init 79 = .ok (.newarray .boolean, 2) := by decide +kernel
theorem dX4_init_81 : decode cX4_init 81 = .ok (.putfield 38, 3) := by decide +kernel
theorem dX4_init_84 : decode cX4_init 84 = .ok (.aload_n 0, 1) := by decide +kernel
theorem dX4_init_85 : decode cX4_init 85 = .ok (.bipush 12, 2) := by decide +kernel
theorem dX4_init_87 : decode cX4_init 87 = .ok (.newarray .long, 2) := by decide +kernel
theorem dX4_init_89 : decode cX4_init 89 = .ok (.putfield 42, 3) := by decide +kernel
theorem dX4_init_92 : decode cX4_init 92 = .ok (.aload_n 0, 1) := by decide +kernel
theorem dX4_init_93 : decode cX4_init 93 = .ok (.bipush 12, 2) := by decide +kernel
theorem dX4_init_95 : decode cX4_init 95 = .ok (.newarray .long, 2) := by decide +kernel
theorem dX4_init_97 : decode cX4_init 97 = .ok (.putfield 45, 3) := by decide +kernel
theorem dX4_init_100 : decode cX4_init 100 = .ok (.aload_n 0, 1) := by decide +kernel
theorem dX4_init_101 : decode cX4_init 101 = .ok (.bipush 12, 2) := by decide +kernel
theorem dX4_init_103 : decode cX4_init 103 = .ok (.newarray .long, 2) := by decide +kernel
theorem dX4_init_105 : decode cX4_init 105 = .ok (.putfield 48, 3) := by decide +kernel
theorem dX4_init_108 : decode cX4_init 108 = .ok (.aload_n 0, 1) := by decide +kernel
theorem dX4_init_109 : decode cX4_init 109 = .ok (.sipush 2600, 3) := by decide +kernel
theorem dX4_init_112 : decode cX4_init 112 = .ok (.newarray .long, 2) := by decide +kernel
theorem dX4_init_114 : decode cX4_init 114 = .ok (.putfield 51, 3) := by decide +kernel
theorem dX4_init_117 : decode cX4_init 117 = .ok (.aload_n 0, 1) := by decide +kernel
theorem dX4_init_118 : decode cX4_init 118 = .ok (.ldc 54, 2) := by decide +kernel
theorem dX4_init_120 : decode cX4_init 120 = .ok (.putfield 55, 3) := by decide +kernel
theorem dX4_init_123 : decode cX4_init 123 = .ok (.aload_n 0, 1) := by decide +kernel
theorem dX4_init_124 : decode cX4_init 124 = .ok (.bipush 13, 2) := by decide +kernel
theorem dX4_init_126 : decode cX4_init 126 = .ok (.newarray .long, 2) := by decide +kernel
theorem dX4_init_128 : decode cX4_init 128 = .ok (.putfield 59, 3) := by decide +kernel
theorem dX4_init_131 : decode cX4_init 131 = .ok (.aload_n 0, 1) := by decide +kernel
theorem dX4_init_132 : decode cX4_init 132 = .ok (.bipush 13, 2) := by decide +kernel
theorem dX4_init_134 : decode cX4_init 134 = .ok (.newarray .long, 2) := by decide +kernel
theorem dX4_init_136 : decode cX4_init 136 = .ok (.putfield 62, 3) := by decide +kernel
theorem dX4_init_139 : decode cX4_init 139 = .ok (.return_, 1) := by decide +kernel
theorem dX4_thrown_0 : decode cX4_thrown 0 = .ok (.aload_n 0, 1) := by decide +kernel
theorem dX4_thrown_1 : decode cX4_thrown 1 = .ok (.getfield 65, 3) := by decide +kernel
theorem dX4_thrown_4 : decode cX4_thrown 4 = .ok (.ireturn, 1) := by decide +kernel
theorem dX4_in_0 : decode cX4_in 0 = .ok (.lload_n 0, 1) := by decide +kernel
theorem dX4_in_1 : decode cX4_in 1 = .ok (.lload_n 2, 1) := by decide +kernel
theorem dX4_in_2 : decode cX4_in 2 = .ok (.lcmp, 1) := by decide +kernel
theorem dX4_in_3 : decode cX4_in 3 = .ok (.ifCond .lt 14, 3) := by decide +kernel
theorem dX4_in_6 : decode cX4_in 6 = .ok (.lload_n 0, 1) := by decide +kernel
theorem dX4_in_7 : decode cX4_in 7 = .ok (.lload 4, 2) := by decide +kernel
theorem dX4_in_9 : decode cX4_in 9 = .ok (.lcmp, 1) := by decide +kernel
theorem dX4_in_10 : decode cX4_in 10 = .ok (.ifCond .gt 7, 3) := by decide +kernel
theorem dX4_in_13 : decode cX4_in 13 = .ok (.iconst 1, 1) := by decide +kernel
theorem dX4_in_14 : decode cX4_in 14 = .ok (.goto 4, 3) := by decide +kernel
theorem dX4_in_17 : decode cX4_in 17 = .ok (.iconst 0, 1) := by decide +kernel
theorem dX4_in_18 : decode cX4_in 18 = .ok (.ireturn, 1) := by decide +kernel
theorem dX4_cut_0 : decode cX4_cut 0 = .ok (.lload_n 0, 1) := by decide +kernel
theorem dX4_cut_1 : decode cX4_cut 1 = .ok (.lload_n 2, 1) := by decide +kernel
theorem dX4_cut_2 : decode cX4_cut 2 = .ok (.lcmp, 1) := by decide +kernel
theorem dX4_cut_3 : decode cX4_cut 3 = .ok (.ifCond .ge 7, 3) := by decide +kernel
theorem dX4_cut_6 : decode cX4_cut 6 = .ok (.lload_n 2, 1) := by decide +kernel
theorem dX4_cut_7 : decode cX4_cut 7 = .ok (.goto 16, 3) := by decide +kernel
theorem dX4_cut_10 : decode cX4_cut 10 = .ok (.lload_n 0, 1) := by decide +kernel
theorem dX4_cut_11 : decode cX4_cut 11 = .ok (.lload 4, 2) := by decide +kernel
theorem dX4_cut_13 : decode cX4_cut 13 = .ok (.lcmp, 1) := by decide +kernel
theorem dX4_cut_14 : decode cX4_cut 14 = .ok (.ifCond .le 8, 3) := by decide +kernel
theorem dX4_cut_17 : decode cX4_cut 17 = .ok (.lload 4, 2) := by decide +kernel
theorem dX4_cut_19 : decode cX4_cut 19 = .ok (.goto 4, 3) := by decide +kernel
theorem dX4_cut_22 : decode cX4_cut 22 = .ok (.lload_n 0, 1) := by decide +kernel
theorem dX4_cut_23 : decode cX4_cut 23 = .ok (.lreturn, 1) := by decide +kernel
theorem dX4_down_0 : decode cX4_down 0 = .ok (.lload_n 0, 1) := by decide +kernel
theorem dX4_down_1 : decode cX4_down 1 = .ok (.lconst 0, 1) := by decide +kernel
theorem dX4_down_2 : decode cX4_down 2 = .ok (.lcmp, 1) := by decide +kernel
theorem dX4_down_3 : decode cX4_down 3 = .ok (.ifCond .lt 9, 3) := by decide +kernel
theorem dX4_down_6 : decode cX4_down 6 = .ok (.lload_n 0, 1) := by decide +kernel
theorem dX4_down_7 : decode cX4_down 7 = .ok (.lload_n 2, 1) := by decide +kernel
theorem dX4_down_8 : decode cX4_down 8 = .ok (.ldiv, 1) := by decide +kernel
theorem dX4_down_9 : decode cX4_down 9 = .ok (.goto 12, 3) := by decide +kernel
theorem dX4_down_12 : decode cX4_down 12 = .ok (.lload_n 0, 1) := by decide +kernel
theorem dX4_down_13 : decode cX4_down 13 = .ok (.lneg, 1) := by decide +kernel
theorem dX4_down_14 : decode cX4_down 14 = .ok (.lload_n 2, 1) := by decide +kernel
theorem dX4_down_15 : decode cX4_down 15 = .ok (.ladd, 1) := by decide +kernel
theorem dX4_down_16 : decode cX4_down 16 = .ok (.lconst 1, 1) := by decide +kernel
theorem dX4_down_17 : decode cX4_down 17 = .ok (.lsub, 1) := by decide +kernel
theorem dX4_down_18 : decode cX4_down 18 = .ok (.lload_n 2, 1) := by decide +kernel
theorem dX4_down_19 : decode cX4_down 19 = .ok (.ldiv, 1) := by decide +kernel
theorem dX4_down_20 : decode cX4_down 20 = .ok (.lneg, 1) := by decide +kernel
theorem dX4_down_21 : decode cX4_down 21 = .ok (.lreturn, 1) := by decide +kernel
set_option maxRecDepth 20000 in
theorem ggX4_isPile_X4_in : GoodIn wsX4_isPile wsX4_in := goodIn_r _ [5] (by decide +kernel) (by decide +kernel)
set_option maxRecDepth 20000 in
theorem gX4_isPile_X4_in : GoodIn wsX4_isPile (va_wsS RX4 71 yX4_in wsX4_in) := goodIn_app (goodIn_of _ (by decide +kernel)) ggX4_isPile_X4_in
theorem dX4_isPile_0 : decode cX4_isPile 0 = .ok (.iload_n 1, 1) := by decide +kernel
theorem dX4_isPile_1 : decode cX4_isPile 1 = .ok (.i2l, 1) := by decide +kernel
theorem dX4_isPile_2 : decode cX4_isPile 2 = .ok (.lconst 0, 1) := by decide +kernel
theorem dX4_isPile_3 : decode cX4_isPile 3 = .ok (.aload_n 0, 1) := by decide +kernel
theorem dX4_isPile_4 : decode cX4_isPile 4 = .ok (.getfield 68, 3) := by decide +kernel
theorem dX4_isPile_7 : decode cX4_isPile 7 = .ok (.i2l, 1) := by decide +kernel
theorem dX4_isPile_8 : decode cX4_isPile 8 = .ok (.lconst 1, 1) := by decide +kernel
theorem dX4_isPile_9 : decode cX4_isPile 9 = .ok (.lsub, 1) := by decide +kernel
theorem dX4_isPile_10 : decode cX4_isPile 10 = .ok (.invokestatic 71, 3) := by decide +kernel
theorem dX4_isPile_13 : decode cX4_isPile 13 = .ok (.ireturn, 1) := by decide +kernel
set_option maxRecDepth 20000 in
theorem ggX4_isPiece_X4_isPile : GoodIn wsX4_isPiece wsX4_isPile := goodIn_r _ [6, 7, 8, 9, 5, 10, 11, 12, 13, 14, 15, 16, 17, 18, 19, 20, 21, 22, 23, 24, 25, 26, 27, 28, 29] (by decide +kernel) (by decide +kernel)
set_option maxRecDepth 20000 in
theorem gX4_isPiece_X4_isPile : GoodIn wsX4_isPiece (wsV RX4 75 RX4 yX4_isPile wsX4_isPile) := goodIn_app (goodIn_of _ (by decide +kernel)) ggX4_isPiece_X4_isPile
set_option maxRecDepth 20000 in
theorem ggX4_isPiece_X4_in : GoodIn wsX4_isPiece wsX4_in := goodIn_r _ [10] (by decide +kernel) (by decide +kernel)
set_option maxRecDepth 20000 in
theorem gX4_isPiece_X4_in : GoodIn wsX4_isPiece (va_wsS RX4 71 yX4_in wsX4_in) := goodIn_app (goodIn_of _ (by decide +kernel)) ggX4_isPiece_X4_in
theorem dX4_isPiece_0 : decode cX4_isPiece 0 = .ok (.aload_n 0, 1) := by decide +kernel
theorem dX4_isPiece_1 : decode cX4_isPiece 1 = .ok (.iload_n 1, 1) := by decide +kernel
theorem dX4_isPiece_2 : decode cX4_isPiece 2 = .ok (.invokevirtual 75, 3) := by decide +kernel
theorem dX4_isPiece_5 : decode cX4_isPiece 5 = .ok (.ifCond .eq 25, 3) := by decide +kernel
theorem dX4_isPiece_8 : decode cX4_isPiece 8 = .ok (.iload_n 2, 1) := by decide +kernel
theorem dX4_isPiece_9 : decode cX4_isPiece 9 = .ok (.i2l, 1) := by decide +kernel
theorem dX4_isPiece_10 : decode cX4_isPiece 10 = .ok (.lconst 0, 1) := by decide +kernel
theorem dX4_isPiece_11 : decode cX4_isPiece 11 = .ok (.aload_n 0, 1) := by decide +kernel
theorem dX4_isPiece_12 : decode cX4_isPiece 12 = .ok (.getfield 7, 3) := by decide +kernel
theorem dX4_isPiece_15 : decode cX4_isPiece 15 = .ok (.iload_n 1, 1) := by decide +kernel
theorem dX4_isPiece_16 : decode cX4_isPiece 16 = .ok (.iaload, 1) := by decide +kernel
theorem dX4_isPiece_17 : decode cX4_isPiece 17 = .ok (.i2l, 1) := by decide +kernel
theorem dX4_isPiece_18 : decode cX4_isPiece 18 = .ok (.lconst 1, 1) := by decide +kernel
theorem dX4_isPiece_19 : decode cX4_isPiece 19 = .ok (.lsub, 1) := by decide +kernel
theorem dX4_isPiece_20 : decode cX4_isPiece 20 = .ok (.invokestatic 71, 3) := by decide +kernel
theorem dX4_isPiece_23 : decode cX4_isPiece 23 = .ok (.ifCond .eq 7, 3) := by decide +kernel
theorem dX4_isPiece_26 : decode cX4_isPiece 26 = .ok (.iconst 1, 1) := by decide +kernel
theorem dX4_isPiece_27 : decode cX4_isPiece 27 = .ok (.goto 4, 3) := by decide +kernel
theorem dX4_isPiece_30 : decode cX4_isPiece 30 = .ok (.iconst 0, 1) := by decide +kernel
theorem dX4_isPiece_31 : decode cX4_isPiece 31 = .ok (.ireturn, 1) := by decide +kernel
set_option maxRecDepth 20000 in
theorem ggX4_pile_X4_in : GoodIn wsX4_pile wsX4_in := goodIn_r _ [14] (by decide +kernel) (by decide +kernel)
set_option maxRecDepth 20000 in
theorem gX4_pile_X4_in : GoodIn wsX4_pile (va_wsS RX4 71 yX4_in wsX4_in) := goodIn_app (goodIn_of _ (by decide +kernel)) ggX4_pile_X4_in
theorem dX4_pile_0 : decode cX4_pile 0 = .ok (.aload_n 0, 1) := by decide +kernel
theorem dX4_pile_1 : decode cX4_pile 1 = .ok (.iload_n 1, 1) := by decide +kernel
theorem dX4_pile_2 : decode cX4_pile 2 = .ok (.i2l, 1) := by decide +kernel
theorem dX4_pile_3 : decode cX4_pile 3 = .ok (.lconst 1, 1) := by decide +kernel
theorem dX4_pile_4 : decode cX4_pile 4 = .ok (.ldc2_w 79, 3) := by decide +kernel
theorem dX4_pile_7 : decode cX4_pile 7 = .ok (.invokestatic 71, 3) := by decide +kernel
theorem dX4_pile_10 : decode cX4_pile 10 = .ok (.ifCond .eq 40, 3) := by decide +kernel
theorem dX4_pile_13 : decode cX4_pile 13 = .ok (.iload_n 2, 1) := by decide +kernel
theorem dX4_pile_14 : decode cX4_pile 14 = .ok (.i2l, 1) := by decide +kernel
theorem dX4_pile_15 : decode cX4_pile 15 = .ok (.lconst 1, 1) := by decide +kernel
theorem dX4_pile_16 : decode cX4_pile 16 = .ok (.ldc2_w 81, 3) := by decide +kernel
theorem dX4_pile_19 : decode cX4_pile 19 = .ok (.invokestatic 71, 3) := by decide +kernel
theorem dX4_pile_22 : decode cX4_pile 22 = .ok (.ifCond .eq 28, 3) := by decide +kernel
theorem dX4_pile_25 : decode cX4_pile 25 = .ok (.iload_n 3, 1) := by decide +kernel
theorem dX4_pile_26 : decode cX4_pile 26 = .ok (.i2l, 1) := by decide +kernel
theorem dX4_pile_27 : decode cX4_pile 27 = .ok (.lconst 1, 1) := by decide +kernel
theorem dX4_pile_28 : decode cX4_pile 28 = .ok (.ldc2_w 83, 3) := by decide +kernel
theorem dX4_pile_31 : decode cX4_pile 31 = .ok (.invokestatic 71, 3) := by decide +kernel
theorem dX4_pile_34 : decode cX4_pile 34 = .ok (.ifCond .eq 16, 3) := by decide +kernel
theorem dX4_pile_37 : decode cX4_pile 37 = .ok (.iload 4, 2) := by decide +kernel
theorem dX4_pile_39 : decode cX4_pile 39 = .ok (.i2l, 1) := by decide +kernel
theorem dX4_pile_40 : decode cX4_pile 40 = .ok (.lconst 0, 1) := by decide +kernel
theorem dX4_pile_41 : decode cX4_pile 41 = .ok (.ldc2_w 85, 3) := by decide +kernel
theorem dX4_pile_44 : decode cX4_pile 44 = .ok (.invokestatic 71, 3) := by decide +kernel
theorem dX4_pile_47 : decode cX4_pile 47 = .ok (.ifCond .ne 7, 3) := by decide +kernel
theorem dX4_pile_50 : decode cX4_pile 50 = .ok (.iconst 1, 1) := by decide +kernel
theorem dX4_pile_51 : decode cX4_pile 51 = .ok (.goto 17, 3) := by decide +kernel
theorem dX4_pile_54 : decode cX4_pile 54 = .ok (.aload_n 0, 1) := by decide +kernel
theorem dX4_pile_55 : decode cX4_pile 55 = .ok (.getfield 68, 3) := by decide +kernel
theorem dX4_pile_58 : decode cX4_pile 58 = .ok (.bipush 6, 2) := by decide +kernel
theorem dX4_pile_60 : decode cX4_pile 60 = .ok (.if_icmp .ne 7, 3) := by decide +kernel
theorem dX4_pile_63 : decode cX4_pile 63 = .ok (.iconst 2, 1) := by decide +kernel
theorem dX4_pile_64 : decode cX4_pile 64 = .ok (.goto 4, 3) := by decide +kernel
theorem dX4_pile_67 : decode cX4_pile 67 = .ok (.iconst 0, 1) := by decide +kernel
theorem dX4_pile_68 : decode cX4_pile 68 = .ok (.putfield 65, 3) := by decide +kernel
theorem dX4_pile_71 : decode cX4_pile 71 = .ok (.aload_n 0, 1) := by decide +kernel
theorem dX4_pile_72 : decode cX4_pile 72 = .ok (.getfield 65, 3) := by decide +kernel
theorem dX4_pile_75 : decode cX4_pile 75 = .ok (.ifCond .le 5, 3) := by decide +kernel
theorem dX4_pile_78 : decode cX4_pile 78 = .ok (.iconst 0, 1) := by decide +kernel
theorem dX4_pile_79 : decode cX4_pile 79 = .ok (.ireturn, 1) := by decide +kernel
theorem dX4_pile_80 : decode cX4_pile 80 = .ok (.aload_n 0, 1) := by decide +kernel
theorem dX4_pile_81 : decode cX4_pile 81 = .ok (.getfield 7, 3) := by decide +kernel
theorem dX4_pile_84 : decode cX4_pile 84 = .ok (.aload_n 0, 1) := by decide +kernel
theorem dX4_pile_85 : decode cX4_pile 85 = .ok (.getfield 68, 3) := by decide +kernel
theorem dX4_pile_88 : decode cX4_pile 88 = .ok (.iload_n 1, 1) := by decide +kernel
theorem dX4_pile_89 : decode cX4_pile 89 = .ok (.iastore, 1) := by decide +kernel
theorem dX4_pile_90 : decode cX4_pile 90 = .ok (.aload_n 0, 1) := by decide +kernel
theorem dX4_pile_91 : decode cX4_pile 91 = .ok (.getfield 13, 3) := by decide +kernel
theorem dX4_pile_94 : decode cX4_pile 94 = .ok (.aload_n 0, 1) := by decide +kernel
theorem dX4_pile_95 : decode cX4_pile 95 = .ok (.getfield 68, 3) := by decide +kernel
theorem dX4_pile_98 : decode cX4_pile 98 = .ok (.iload_n 2, 1) := by decide +kernel
theorem dX4_pile_99 : decode cX4_pile 99 = .ok (.i2l, 1) := by decide +kernel
theorem dX4_pile_100 : decode cX4_pile 100 = .ok (.lastore, 1) := by decide +kernel
theorem dX4_pile_101 : decode cX4_pile 101 = .ok (.aload_n 0, 1) := by decide +kernel
theorem dX4_pile_102 : decode cX4_pile 102 = .ok (.getfield 17, 3) := by decide +kernel
theorem dX4_pile_105 : decode cX4_pile 105 = .ok (.aload_n 0, 1) := by decide +kernel
theorem dX4_pile_106 : decode cX4_pile 106 = .ok (.getfield 68, 3) := by decide +kernel
theorem dX4_pile_109 : decode cX4_pile 109 = .ok (.iload_n 3, 1) := by decide +kernel
theorem dX4_pile_110 : decode cX4_pile 110 = .ok (.i2l, 1) := by decide +kernel
theorem dX4_pile_111 : decode cX4_pile 111 = .ok (.lastore, 1) := by decide +kernel
theorem dX4_pile_112 : decode cX4_pile 112 = .ok (.aload_n 0, 1) := by decide +kernel
theorem dX4_pile_113 : decode cX4_pile 113 = .ok (.getfield 20, 3) := by decide +kernel
theorem dX4_pile_116 : decode cX4_pile 116 = .ok (.aload_n 0, 1) := by decide +kernel
theorem dX4_pile_117 : decode cX4_pile 117 = .ok (.getfield 68, 3) := by decide +kernel
theorem dX4_pile_120 : decode cX4_pile 120 = .ok (.iload 4, 2) := by decide +kernel
theorem dX4_pile_122 : decode cX4_pile 122 = .ok (.iastore, 1) := by decide +kernel
theorem dX4_pile_123 : decode cX4_pile 123 = .ok (.aload_n 0, 1) := by decide +kernel
theorem dX4_pile_124 : decode cX4_pile 124 = .ok (.dup, 1) := by decide +kernel
theorem dX4_pile_125 : decode cX4_pile 125 = .ok (.getfield 68, 3) := by decide +kernel
theorem dX4_pile_128 : decode cX4_pile 128 = .ok (.iconst 1, 1) := by decide +kernel
theorem dX4_pile_129 : decode cX4_pile 129 = .ok (.iadd, 1) := by decide +kernel
theorem dX4_pile_130 : decode cX4_pile 130 = .ok (.putfield 68, 3) := by decide +kernel
theorem dX4_pile_133 : decode cX4_pile 133 = .ok (.aload_n 0, 1) := by decide +kernel
theorem dX4_pile_134 : decode cX4_pile 134 = .ok (.getfield 68, 3) := by decide +kernel
theorem dX4_pile_137 : decode cX4_pile 137 = .ok (.iconst 1, 1) := by decide +kernel
theorem dX4_pile_138 : decode cX4_pile 138 = .ok (.isub, 1) := by decide +kernel
theorem dX4_pile_139 : decode cX4_pile 139 = .ok (.ireturn, 1) := by decide +kernel
set_option maxRecDepth 20000 in
theorem ggX4_ground_X4_isPiece : GoodIn wsX4_ground wsX4_isPiece := goodIn_r _ [10, 11, 12, 13, 14, 9, 15, 16, 17, 18, 19, 20, 21, 22, 23, 24, 25, 26, 27, 28, 29, 30, 31, 32, 33, 34, 35, 36, 37, 38] (by decide +kernel) (by decide +kernel)
set_option maxRecDepth 20000 in
theorem gX4_ground_X4_isPiece : GoodIn wsX4_ground (wsV RX4 87 RX4 yX4_isPiece wsX4_isPiece) := goodIn_app (goodIn_of _ (by decide +kernel)) ggX4_ground_X4_isPiece
set_option maxRecDepth 20000 in
theorem ggX4_ground_X4_in : GoodIn wsX4_ground wsX4_in := goodIn_r _ [19] (by decide +kernel) (by decide +kernel)
set_option maxRecDepth 20000 in
theorem gX4_ground_X4_in : GoodIn wsX4_ground (va_wsS RX4 71 yX4_in wsX4_in) := goodIn_app (goodIn_of _ (by decide +kernel)) ggX4_ground_X4_in
theorem dX4_ground_0 : decode cX4_ground 0 = .ok (.aload_n 0, 1) := by decide +kernel
theorem dX4_ground_1 : decode cX4_ground 1 = .ok (.aload_n 0, 1) := by decide +kernel
theorem dX4_ground_2 : decode cX4_ground 2 = .ok (.iload_n 1, 1) := by decide +kernel
theorem dX4_ground_3 : decode cX4_ground 3 = .ok (.iload_n 2, 1) := by decide +kernel
theorem dX4_ground_4 : decode cX4_ground 4 = .ok (.invokevirtual 87, 3) := by decide +kernel
theorem dX4_ground_7 : decode cX4_ground 7 = .ok (.ifCond .eq 32, 3) := by decide +kernel
theorem dX4_ground_10 : decode cX4_ground 10 = .ok (.iload_n 3, 1) := by decide +kernel
theorem dX4_ground_11 : decode cX4_ground 11 = .ok (.i2l, 1) := by decide +kernel
theorem dX4_ground_12 : decode cX4_ground 12 = .ok (.lconst 0, 1) := by decide +kernel
theorem dX4_ground_13 : decode cX4_ground 13 = .ok (.ldc2_w 83, 3) := by decide +kernel
theorem dX4_ground_16 : decode cX4_ground 16 = .ok (.invokestatic 71, 3) := by decide +kernel
theorem dX4_ground_19 : decode cX4_ground 19 = .ok (.ifCond .eq 20, 3) := by decide +kernel
theorem dX4_ground_22 : decode cX4_ground 22 = .ok (.iload 4, 2) := by decide +kernel
theorem dX4_ground_24 : decode cX4_ground 24 = .ok (.i2l, 1) := by decide +kernel
theorem dX4_ground_25 : decode cX4_ground 25 = .ok (.lconst 0, 1) := by decide +kernel
theorem dX4_ground_26 : decode cX4_ground 26 = .ok (.ldc2_w 85, 3) := by decide +kernel
theorem dX4_ground_29 : decode cX4_ground 29 = .ok (.invokestatic 71, 3) := by decide +kernel
theorem dX4_ground_32 : decode cX4_ground 32 = .ok (.ifCond .eq 7, 3) := by decide +kernel
theorem dX4_ground_35 : decode cX4_ground 35 = .ok (.iconst 0, 1) := by decide +kernel
theorem dX4_ground_36 : decode cX4_ground 36 = .ok (.goto 4, 3) := by decide +kernel
theorem dX4_ground_39 : decode cX4_ground 39 = .ok (.iconst 1, 1) := by decide +kernel
theorem dX4_ground_40 : decode cX4_ground 40 = .ok (.putfield 65, 3) := by decide +kernel
theorem dX4_ground_43 : decode cX4_ground 43 = .ok (.aload_n 0, 1) := by decide +kernel
theorem dX4_ground_44 : decode cX4_ground 44 = .ok (.getfield 65, 3) := by decide +kernel
theorem dX4_ground_47 : decode cX4_ground 47 = .ok (.ifCond .ne 30, 3) := by decide +kernel
theorem dX4_ground_50 : decode cX4_ground 50 = .ok (.aload_n 0, 1) := by decide +kernel
theorem dX4_ground_51 : decode cX4_ground 51 = .ok (.getfield 23, 3) := by decide +kernel
theorem dX4_ground_54 : decode cX4_ground 54 = .ok (.bipush 12, 2) := by decide +kernel
theorem dX4_ground_56 : decode cX4_ground 56 = .ok (.iload_n 1, 1) := by decide +kernel
theorem dX4_ground_57 : decode cX4_ground 57 = .ok (.imul, 1) := by decide +kernel
theorem dX4_ground_58 : decode cX4_ground 58 = .ok (.iload_n 2, 1) := by decide +kernel
theorem dX4_ground_59 : decode cX4_ground 59 = .ok (.iadd, 1) := by decide +kernel
theorem dX4_ground_60 : decode cX4_ground 60 = .ok (.iload_n 3, 1) := by decide +kernel
theorem dX4_ground_61 : decode cX4_ground 61 = .ok (.i2l, 1) := by decide +kernel
theorem dX4_ground_62 : decode cX4_ground 62 = .ok (.lastore, 1) := by decide +kernel
theorem dX4_ground_63 : decode cX4_ground 63 = .ok (.aload_n 0, 1) := by decide +kernel
theorem dX4_ground_64 : decode cX4_ground 64 = .ok (.getfield 26, 3) := by decide +kernel
theorem dX4_ground_67 : decode cX4_ground 67 = .ok (.bipush 12, 2) := by decide +kernel
theorem dX4_ground_69 : decode cX4_ground 69 = .ok (.iload_n 1, 1) := by decide +kernel
theorem dX4_ground_70 : decode cX4_ground 70 = .ok (.imul, 1) := by decide +kernel
theorem dX4_ground_71 : decode cX4_ground 71 = .ok (.iload_n 2, 1) := by decide +kernel
theorem dX4_ground_72 : decode cX4_ground 72 = .ok (.iadd, 1) := by decide +kernel
theorem dX4_ground_73 : decode cX4_ground 73 = .ok (.iload 4, 2) := by decide +kernel
theorem dX4_ground_75 : decode cX4_ground 75 = .ok (.i2l, 1) := by decide +kernel
theorem dX4_ground_76 : decode cX4_ground 76 = .ok (.lastore, 1) := by decide +kernel
theorem dX4_ground_77 : decode cX4_ground 77 = .ok (.return_, 1) := by decide +kernel
set_option maxRecDepth 20000 in
theorem ggX4_sinks_X4_isPiece : GoodIn wsX4_sinks wsX4_isPiece := goodIn_r _ [8, 9, 10, 11, 12, 7, 13, 14, 15, 16, 17, 18, 19, 20, 21, 22, 23, 24, 25, 26, 27, 28, 29, 30, 31, 32, 33, 34, 35, 36] (by decide +kernel) (by decide +kernel)
set_option maxRecDepth 20000 in
theorem gX4_sinks_X4_isPiece : GoodIn wsX4_sinks (wsV RX4 87 RX4 yX4_isPiece wsX4_isPiece) := goodIn_app (goodIn_of _ (by decide +kernel)) ggX4_sinks_X4_isPiece
set_option maxRecDepth 20000 in
theorem ggX4_sinks_X4_in : GoodIn wsX4_sinks wsX4_in := goodIn_r _ [17] (by decide +kernel) (by decide +kernel)
set_option maxRecDepth 20000 in
theorem gX4_sinks_X4_in : GoodIn wsX4_sinks (va_wsS RX4 71 yX4_in wsX4_in) := goodIn_app (goodIn_of _ (by decide +kernel)) ggX4_sinks_X4_in
theorem dX4_sinks_0 : decode cX4_sinks 0 = .ok (.aload_n 0, 1) := by decide +kernel
theorem dX4_sinks_1 : decode cX4_sinks 1 = .ok (.aload_n 0, 1) := by decide +kernel
theorem dX4_sinks_2 : decode cX4_sinks 2 = .ok (.iload_n 1, 1) := by decide +kernel
theorem dX4_sinks_3 : decode cX4_sinks 3 = .ok (.iload_n 2, 1) := by decide +kernel
theorem dX4_sinks_4 : decode cX4_sinks 4 = .ok (.invokevirtual 87, 3) := by decide +kernel
theorem dX4_sinks_7 : decode cX4_sinks 7 = .ok (.ifCond .eq 19, 3) := by decide +kernel
theorem dX4_sinks_10 : decode cX4_sinks 10 = .ok (.iload_n 3, 1) := by decide +kernel
theorem dX4_sinks_11 : decode cX4_sinks 11 = .ok (.i2l, 1) := by decide +kernel
theorem dX4_sinks_12 : decode cX4_sinks 12 = .ok (.lconst 0, 1) := by decide +kernel
theorem dX4_sinks_13 : decode cX4_sinks 13 = .ok (.ldc2_w 81, 3) := by decide +kernel
theorem dX4_sinks_16 : decode cX4_sinks 16 = .ok (.invokestatic 71, 3) := by decide +kernel
theorem dX4_sinks_19 : decode cX4_sinks 19 = .ok (.ifCond .eq 7, 3) := by decide +kernel
theorem dX4_sinks_22 : decode cX4_sinks 22 = .ok (.iconst 0, 1) := by decide +kernel
theorem dX4_sinks_23 : decode cX4_sinks 23 = .ok (.goto 4, 3) := by decide +kernel
theorem dX4_sinks_26 : decode cX4_sinks 26 = .ok (.iconst 1, 1) := by decide +kernel
theorem dX4_sinks_27 : decode cX4_sinks 27 = .ok (.putfield 65, 3) := by decide +kernel
theorem dX4_sinks_30 : decode cX4_sinks 30 = .ok (.aload_n 0, 1) := by decide +kernel
theorem dX4_sinks_31 : decode cX4_sinks 31 = .ok (.getfield 65, 3) := by decide +kernel
theorem dX4_sinks_34 : decode cX4_sinks 34 = .ok (.ifCond .le 5, 3) := by decide +kernel
theorem dX4_sinks_37 : decode cX4_sinks 37 = .ok (.iconst 0, 1) := by decide +kernel
theorem dX4_sinks_38 : decode cX4_sinks 38 = .ok (.ireturn, 1) := by decide +kernel
theorem dX4_sinks_39 : decode cX4_sinks 39 = .ok (.aload_n 0, 1) := by decide +kernel
theorem dX4_sinks_40 : decode cX4_sinks 40 = .ok (.getfield 29, 3) := by decide +kernel
theorem dX4_sinks_43 : decode cX4_sinks 43 = .ok (.bipush 12, 2) := by decide +kernel
theorem dX4_sinks_45 : decode cX4_sinks 45 = .ok (.iload_n 1, 1) := by decide +kernel
theorem dX4_sinks_46 : decode cX4_sinks 46 = .ok (.imul, 1) := by decide +kernel
theorem dX4_sinks_47 : decode cX4_sinks 47 = .ok (.iload_n 2, 1) := by decide +kernel
theorem dX4_sinks_48 : decode cX4_sinks 48 = .ok (.iadd, 1) := by decide +kernel
theorem dX4_sinks_49 : decode cX4_sinks 49 = .ok (.laload, 1) := by decide +kernel
theorem dX4_sinks_50 : decode cX4_sinks 50 = .ok (.lstore 4, 2) := by decide +kernel
theorem dX4_sinks_52 : decode cX4_sinks 52 = .ok (.aload_n 0, 1) := by decide +kernel
theorem dX4_sinks_53 : decode cX4_sinks 53 = .ok (.getfield 29, 3) := by decide +kernel
theorem dX4_sinks_56 : decode cX4_sinks 56 = .ok (.bipush 12, 2) := by decide +kernel
theorem dX4_sinks_58 : decode cX4_sinks 58 = .ok (.iload_n 1, 1) := by decide +kernel
theorem dX4_sinks_59 : decode cX4_sinks 59 = .ok (.imul, 1) := by decide +kernel
theorem dX4_sinks_60 : decode cX4_sinks 60 = .ok (.iload_n 2, 1) := by decide +kernel
theorem dX4_sinks_61 : decode cX4_sinks 61 = .ok (.iadd, 1) := by decide +kernel
theorem dX4_sinks_62 : decode cX4_sinks 62 = .ok (.iload_n 3, 1) := by decide +kernel
theorem dX4_sinks_63 : decode cX4_sinks 63 = .ok (.i2l, 1) := by decide +kernel
theorem dX4_sinks_64 : decode cX4_sinks 64 = .ok (.lastore, 1) := by decide +kernel
theorem dX4_sinks_65 : decode cX4_sinks 65 = .ok (.lload 4, 2) := by decide +kernel
theorem dX4_sinks_67 : decode cX4_sinks 67 = .ok (.l2i, 1) := by decide +kernel
theorem dX4_sinks_68 : decode cX4_sinks 68 = .ok (.ireturn, 1) := by decide +kernel
set_option maxRecDepth 20000 in
theorem ggX4_tip_X4_isPile : GoodIn wsX4_tip wsX4_isPile := goodIn_r _ [10, 11, 12, 13, 9, 14, 15, 16, 17, 18, 19, 20, 21, 22, 23, 24, 25, 26, 27, 28, 29, 30, 31, 32, 33] (by decide +kernel) (by decide +kernel)
set_option maxRecDepth 20000 in
theorem gX4_tip_X4_isPile : GoodIn wsX4_tip (wsV RX4 75 RX4 yX4_isPile wsX4_isPile) := goodIn_app (goodIn_of _ (by decide +kernel)) ggX4_tip_X4_isPile
set_option maxRecDepth 20000 in
theorem ggX4_tip_X4_in : GoodIn wsX4_tip wsX4_in := goodIn_r _ [14] (by decide +kernel) (by decide +kernel)
set_option maxRecDepth 20000 in
theorem gX4_tip_X4_in : GoodIn wsX4_tip (va_wsS RX4 71 yX4_in wsX4_in) := goodIn_app (goodIn_of _ (by decide +kernel)) ggX4_tip_X4_in
theorem dX4_tip_0 : decode cX4_tip 0 = .ok (.aload_n 0, 1) := by decide +kernel
theorem dX4_tip_1 : decode cX4_tip 1 = .ok (.aload_n 0, 1) := by decide +kernel
theorem dX4_tip_2 : decode cX4_tip 2 = .ok (.iload_n 1, 1) := by decide +kernel
theorem dX4_tip_3 : decode cX4_tip 3 = .ok (.invokevirtual 75, 3) := by decide +kernel
theorem dX4_tip_6 : decode cX4_tip 6 = .ok (.ifCond .eq 31, 3) := by decide +kernel
theorem dX4_tip_9 : decode cX4_tip 9 = .ok (.iload_n 2, 1) := by decide +kernel
theorem dX4_tip_10 : decode cX4_tip 10 = .ok (.i2l, 1) := by decide +kernel
theorem dX4_tip_11 : decode cX4_tip 11 = .ok (.lconst 0, 1) := by decide +kernel
theorem dX4_tip_12 : decode cX4_tip 12 = .ok (.ldc2_w 83, 3) := by decide +kernel
theorem dX4_tip_15 : decode cX4_tip 15 = .ok (.invokestatic 71, 3) := by decide +kernel
theorem dX4_tip_18 : decode cX4_tip 18 = .ok (.ifCond .eq 19, 3) := by decide +kernel
theorem dX4_tip_21 : decode cX4_tip 21 = .ok (.iload_n 3, 1) := by decide +kernel
theorem dX4_tip_22 : decode cX4_tip 22 = .ok (.i2l, 1) := by decide +kernel
theorem dX4_tip_23 : decode cX4_tip 23 = .ok (.lconst 0, 1) := by decide +kernel
theorem dX4_tip_24 : decode cX4_tip 24 = .ok (.ldc2_w 91, 3) := by decide +kernel
theorem dX4_tip_27 : decode cX4_tip 27 = .ok (.invokestatic 71, 3) := by decide +kernel
theorem dX4_tip_30 : decode cX4_tip 30 = .ok (.ifCond .eq 7, 3) := by decide +kernel
theorem dX4_tip_33 : decode cX4_tip 33 = .ok (.iconst 0, 1) := by decide +kernel
theorem dX4_tip_34 : decode cX4_tip 34 = .ok (.goto 4, 3) := by decide +kernel
theorem dX4_tip_37 : decode cX4_tip 37 = .ok (.iconst 1, 1) := by decide +kernel
theorem dX4_tip_38 : decode cX4_tip 38 = .ok (.putfield 65, 3) := by decide +kernel
theorem dX4_tip_41 : decode cX4_tip 41 = .ok (.aload_n 0, 1) := by decide +kernel
theorem dX4_tip_42 : decode cX4_tip 42 = .ok (.getfield 65, 3) := by decide +kernel
theorem dX4_tip_45 : decode cX4_tip 45 = .ok (.ifCond .ne 19, 3) := by decide +kernel
theorem dX4_tip_48 : decode cX4_tip 48 = .ok (.aload_n 0, 1) := by decide +kernel
theorem dX4_tip_49 : decode cX4_tip 49 = .ok (.getfield 32, 3) := by decide +kernel
theorem dX4_tip_52 : decode cX4_tip 52 = .ok (.iload_n 1, 1) := by decide +kernel
theorem dX4_tip_53 : decode cX4_tip 53 = .ok (.iload_n 2, 1) := by decide +kernel
theorem dX4_tip_54 : decode cX4_tip 54 = .ok (.i2l, 1) := by decide +kernel
theorem dX4_tip_55 : decode cX4_tip 55 = .ok (.lastore, 1) := by decide +kernel
theorem dX4_tip_56 : decode cX4_tip 56 = .ok (.aload_n 0, 1) := by decide +kernel
theorem dX4_tip_57 : decode cX4_tip 57 = .ok (.getfield 35, 3) := by decide +kernel
theorem dX4_tip_60 : decode cX4_tip 60 = .ok (.iload_n 1, 1) := by decide +kernel
theorem dX4_tip_61 : decode cX4_tip 61 = .ok (.iload_n 3, 1) := by decide +kernel
theorem dX4_tip_62 : decode cX4_tip 62 = .ok (.i2l, 1) := by decide +kernel
theorem dX4_tip_63 : decode cX4_tip 63 = .ok (.lastore, 1) := by decide +kernel
theorem dX4_tip_64 : decode cX4_tip 64 = .ok (.return_, 1) := by decide +kernel
set_option maxRecDepth 20000 in
theorem ggX4_march_X4_cut : GoodIn wsX4_march wsX4_cut := goodIn_r _ [14] (by decide +kernel) (by decide +kernel)
set_option maxRecDepth 20000 in
theorem gX4_march_X4_cut : GoodIn wsX4_march (va_wsS RX4 93 yX4_cut wsX4_cut) := goodIn_app (goodIn_of _ (by decide +kernel)) ggX4_march_X4_cut
set_option maxRecDepth 20000 in
theorem ggX4_march_X4_down : GoodIn wsX4_march wsX4_down := goodIn_r _ [17] (by decide +kernel) (by decide +kernel)
set_option maxRecDepth 20000 in
theorem gX4_march_X4_down : GoodIn wsX4_march (va_wsS RX4 97 yX4_down wsX4_down) := goodIn_app (goodIn_of _ (by decide +kernel)) ggX4_march_X4_down
theorem dX4_march_0 : decode cX4_march 0 = .ok (.aload_n 0, 1) := by decide +kernel
theorem dX4_march_1 : decode cX4_march 1 = .ok (.getfield 7, 3) := by decide +kernel
theorem dX4_march_4 : decode cX4_march 4 = .ok (.iload_n 1, 1) := by decide +kernel
theorem dX4_march_5 : decode cX4_march 5 = .ok (.iaload, 1) := by decide +kernel
theorem dX4_march_6 : decode cX4_march 6 = .ok (.iconst 1, 1) := by decide +kernel
theorem dX4_march_7 : decode cX4_march 7 = .ok (.isub, 1) := by decide +kernel
theorem dX4_march_8 : decode cX4_march 8 = .ok (.istore 4, 2) := by decide +kernel
theorem dX4_march_10 : decode cX4_march 10 = .ok (.aload_n 0, 1) := by decide +kernel
theorem dX4_march_11 : decode cX4_march 11 = .ok (.getfield 32, 3) := by decide +kernel
theorem dX4_march_14 : decode cX4_march 14 = .ok (.iload_n 1, 1) := by decide +kernel
theorem dX4_march_15 : decode cX4_march 15 = .ok (.laload, 1) := by decide +kernel
theorem dX4_march_16 : decode cX4_march 16 = .ok (.lload_n 2, 1) := by decide +kernel
theorem dX4_march_17 : decode cX4_march 17 = .ok (.lmul, 1) := by decide +kernel
theorem dX4_march_18 : decode cX4_march 18 = .ok (.lconst 0, 1) := by decide +kernel
theorem dX4_march_19 : decode cX4_march 19 = .ok (.aload_n 0, 1) := by decide +kernel
theorem dX4_march_20 : decode cX4_march 20 = .ok (.getfield 35, 3) := by decide +kernel
theorem dX4_march_23 : decode cX4_march 23 = .ok (.iload_n 1, 1) := by decide +kernel
theorem dX4_march_24 : decode cX4_march 24 = .ok (.laload, 1) := by decide +kernel
theorem dX4_march_25 : decode cX4_march 25 = .ok (.invokestatic 93, 3) := by decide +kernel
theorem dX4_march_28 : decode cX4_march 28 = .ok (.lstore 5, 2) := by decide +kernel
theorem dX4_march_30 : decode cX4_march 30 = .ok (.lload_n 2, 1) := by decide +kernel
theorem dX4_march_31 : decode cX4_march 31 = .ok (.lstore 7, 2) := by decide +kernel
theorem dX4_march_33 : decode cX4_march 33 = .ok (.iload 4, 2) := by decide +kernel
theorem dX4_march_35 : decode cX4_march 35 = .ok (.istore 9, 2) := by decide +kernel
theorem dX4_march_37 : decode cX4_march 37 = .ok (.iload 9, 2) := by decide +kernel
theorem dX4_march_39 : decode cX4_march 39 = .ok (.ifCond .lt 107, 3) := by decide +kernel
theorem dX4_march_42 : decode cX4_march 42 = .ok (.bipush 12, 2) := by decide +kernel
theorem dX4_march_44 : decode cX4_march 44 = .ok (.iload_n 1, 1) := by decide +kernel
theorem dX4_march_45 : decode cX4_march 45 = .ok (.imul, 1) := by decide +kernel
theorem dX4_march_46 : decode cX4_march 46 = .ok (.iload 9, 2) := by decide +kernel
theorem dX4_march_48 : decode cX4_march 48 = .ok (.iadd, 1) := by decide +kernel
theorem dX4_march_49 : decode cX4_march 49 = .ok (.istore 10, 2) := by decide +kernel
theorem dX4_march_51 : decode cX4_march 51 = .ok (.aload_n 0, 1) := by decide +kernel
theorem dX4_march_52 : decode cX4_march 52 = .ok (.getfield 42, 3) := by decide +kernel
theorem dX4_march_55 : decode cX4_march 55 = .ok (.iload 9, 2) := by decide +kernel
theorem dX4_march_57 : decode cX4_march 57 = .ok (.lload 7, 2) := by decide +kernel
theorem dX4_march_59 : decode cX4_march 59 = .ok (.lastore, 1) := by decide +kernel
theorem dX4_march_60 : decode cX4_march 60 = .ok (.aload_n 0, 1) := by decide +kernel
theorem dX4_march_61 : decode cX4_march 61 = .ok (.getfield 45, 3) := by decide +kernel
theorem dX4_march_64 : decode cX4_march 64 = .ok (.iload 9, 2) := by decide +kernel
theorem dX4_march_66 : decode cX4_march 66 = .ok (.aload_n 0, 1) := by decide +kernel
theorem dX4_march_67 : decode cX4_march 67 = .ok (.getfield 23, 3) := by decide +kernel
theorem dX4_march_70 : decode cX4_march 70 = .ok (.iload 10, 2) := by decide +kernel
theorem dX4_march_72 : decode cX4_march 72 = .ok (.laload, 1) := by decide +kernel
theorem dX4_march_73 : decode cX4_march 73 = .ok (.lload 7, 2) := by decide +kernel
theorem dX4_march_75 : decode cX4_march 75 = .ok (.aload_n 0, 1) := by decide +kernel
theorem dX4_march_76 : decode cX4_march 76 = .ok (.getfield 29, 3) := by decide +kernel
theorem dX4_march_79 : decode cX4_march 79 = .ok (.iload 10, 2) := by decide +kernel
theorem dX4_march_81 : decode cX4_march 81 = .ok (.laload, 1) := by decide +kernel
theorem dX4_march_82 : decode cX4_march 82 = .ok (.lsub, 1) := by decide +kernel
theorem dX4_march_83 : decode cX4_march 83 = .ok (.lmul, 1) := by decide +kernel
theorem dX4_march_84 : decode cX4_march 84 = .ok (.aload_n 0, 1) := by decide +kernel
theorem dX4_march_85 : decode cX4_march 85 = .ok (.getfield 26, 3) := by decide +kernel
theorem dX4_march_88 : decode cX4_march 88 = .ok (.iload 10, 2) := by decide +kernel
theorem dX4_march_90 : decode cX4_march 90 = .ok (.laload, 1) := by decide +kernel
theorem dX4_march_91 : decode cX4_march 91 = .ok (.lneg, 1) := by decide +kernel
theorem dX4_march_92 : decode cX4_march 92 = .ok (.aload_n 0, 1) := by decide +kernel
theorem dX4_march_93 : decode cX4_march 93 = .ok (.getfield 26, 3) := by decide +kernel
theorem dX4_march_96 : decode cX4_march 96 = .ok (.iload 10, 2) := by decide +kernel
theorem dX4_march_98 : decode cX4_march 98 = .ok (.laload, 1) := by decide +kernel
theorem dX4_march_99 : decode cX4_march 99 = .ok (.invokestatic 93, 3) := by decide +kernel
theorem dX4_march_102 : decode cX4_march 102 = .ok (.lastore, 1) := by decide +kernel
theorem dX4_march_103 : decode cX4_march 103 = .ok (.lload 5, 2) := by decide +kernel
theorem dX4_march_105 : decode cX4_march 105 = .ok (.aload_n 0, 1) := by decide +kernel
theorem dX4_march_106 : decode cX4_march 106 = .ok (.getfield 45, 3) := by decide +kernel
theorem dX4_march_109 : decode cX4_march 109 = .ok (.iload 9, 2) := by decide +kernel
theorem dX4_march_111 : decode cX4_march 111 = .ok (.laload, 1) := by decide +kernel
theorem dX4_march_112 : decode cX4_march 112 = .ok (.ladd, 1) := by decide +kernel
theorem dX4_march_113 : decode cX4_march 113 = .ok (.lstore 5, 2) := by decide +kernel
theorem dX4_march_115 : decode cX4_march 115 = .ok (.aload_n 0, 1) := by decide +kernel
theorem dX4_march_116 : decode cX4_march 116 = .ok (.getfield 48, 3) := by decide +kernel
theorem dX4_march_119 : decode cX4_march 119 = .ok (.iload 9, 2) := by decide +kernel
theorem dX4_march_121 : decode cX4_march 121 = .ok (.lload 5, 2) := by decide +kernel
theorem dX4_march_123 : decode cX4_march 123 = .ok (.lastore, 1) := by decide +kernel
theorem dX4_march_124 : decode cX4_march 124 = .ok (.lload 7, 2) := by decide +kernel
theorem dX4_march_126 : decode cX4_march 126 = .ok (.lload 5, 2) := by decide +kernel
theorem dX4_march_128 : decode cX4_march 128 = .ok (.aload_n 0, 1) := by decide +kernel
theorem dX4_march_129 : decode cX4_march 129 = .ok (.getfield 13, 3) := by decide +kernel
theorem dX4_march_132 : decode cX4_march 132 = .ok (.iload_n 1, 1) := by decide +kernel
theorem dX4_march_133 : decode cX4_march 133 = .ok (.laload, 1) := by decide +kernel
theorem dX4_march_134 : decode cX4_march 134 = .ok (.invokestatic 97, 3) := by decide +kernel
theorem dX4_march_137 : decode cX4_march 137 = .ok (.ladd, 1) := by decide +kernel
theorem dX4_march_138 : decode cX4_march 138 = .ok (.lstore 7, 2) := by decide +kernel
theorem dX4_march_140 : decode cX4_march 140 = .ok (.iinc 9 (-1), 3) := by decide +kernel
theorem dX4_march_143 : decode cX4_march 143 = .ok (.goto (-106), 3) := by decide +kernel
theorem dX4_march_146 : decode cX4_march 146 = .ok (.lload 5, 2) := by decide +kernel
theorem dX4_march_148 : decode cX4_march 148 = .ok (.lreturn, 1) := by decide +kernel
set_option maxRecDepth 20000 in
theorem ggX4_isWithin_X4_march : GoodIn wsX4_isWithin wsX4_march := goodIn_r _ [6, 7, 8, 9, 1, 10, 11, 12, 13, 14, 15, 16, 17, 5, 18, 19, 20, 21, 22, 23, 24, 25, 26, 27, 28, 29, 30, 31, 32, 33, 34, 35, 36, 37, 38, 39, 40] (by decide +kernel) (by decide +kernel)
set_option maxRecDepth 20000 in
theorem gX4_isWithin_X4_march : GoodIn wsX4_isWithin (wsV RX4 101 RX4 yX4_march wsX4_march) := goodIn_app (goodIn_of _ (by decide +kernel)) ggX4_isWithin_X4_march
theorem dX4_isWithin_0 : decode cX4_isWithin 0 = .ok (.aload_n 0, 1) := by decide +kernel
theorem dX4_isWithin_1 : decode cX4_isWithin 1 = .ok (.iload_n 1, 1) := by decide +kernel
theorem dX4_isWithin_2 : decode cX4_isWithin 2 = .ok (.lload_n 2, 1) := by decide +kernel
theorem dX4_isWithin_3 : decode cX4_isWithin 3 = .ok (.invokevirtual 101, 3) := by decide +kernel
theorem dX4_isWithin_6 : decode cX4_isWithin 6 = .ok (.lstore 7, 2) := by decide +kernel
theorem dX4_isWithin_8 : decode cX4_isWithin 8 = .ok (.iload 6, 2) := by decide +kernel
theorem dX4_isWithin_10 : decode cX4_isWithin 10 = .ok (.ifCond .eq 12, 3) := by decide +kernel
theorem dX4_isWithin_13 : decode cX4_isWithin 13 = .ok (.aload_n 0, 1) := by decide +kernel
theorem dX4_isWithin_14 : decode cX4_isWithin 14 = .ok (.getfield 42, 3) := by decide +kernel
theorem dX4_isWithin_17 : decode cX4_isWithin 17 = .ok (.iconst 0, 1) := by decide +kernel
theorem dX4_isWithin_18 : decode cX4_isWithin 18 = .ok (.laload, 1) := by decide +kernel
theorem dX4_isWithin_19 : decode cX4_isWithin 19 = .ok (.goto 5, 3) := by decide +kernel
theorem dX4_isWithin_22 : decode cX4_isWithin 22 = .ok (.lload 7, 2) := by decide +kernel
theorem dX4_isWithin_24 : decode cX4_isWithin 24 = .ok (.lload 4, 2) := by decide +kernel
theorem dX4_isWithin_26 : decode cX4_isWithin 26 = .ok (.lcmp, 1) := by decide +kernel
theorem dX4_isWithin_27 : decode cX4_isWithin 27 = .ok (.ifCond .gt 7, 3) := by decide +kernel
theorem dX4_isWithin_30 : decode cX4_isWithin 30 = .ok (.iconst 1, 1) := by decide +kernel
theorem dX4_isWithin_31 : decode cX4_isWithin 31 = .ok (.goto 4, 3) := by decide +kernel
theorem dX4_isWithin_34 : decode cX4_isWithin 34 = .ok (.iconst 0, 1) := by decide +kernel
theorem dX4_isWithin_35 : decode cX4_isWithin 35 = .ok (.ireturn, 1) := by decide +kernel
set_option maxRecDepth 20000 in
theorem ggX4_greatest_X4_isWithin : GoodIn wsX4_greatest wsX4_isWithin := goodIn_r _ [10, 11, 12, 13, 14, 9, 15, 16, 17, 18, 19, 20, 21, 22, 23, 24, 25, 26, 27, 28, 29, 30, 31, 32, 33, 34, 35, 36, 37, 38, 39, 40, 41, 42, 43, 44, 45, 46, 47, 48, 49] (by decide +kernel) (by decide +kernel)
set_option maxRecDepth 20000 in
theorem gX4_greatest_X4_isWithin : GoodIn wsX4_greatest (wsV RX4 107 RX4 yX4_isWithin wsX4_isWithin) := goodIn_app (goodIn_of _ (by decide +kernel)) ggX4_greatest_X4_isWithin
theorem dX4_greatest_0 : decode cX4_greatest 0 = .ok (.aload_n 0, 1) := by decide +kernel
theorem dX4_greatest_1 : decode cX4_greatest 1 = .ok (.iload_n 1, 1) := by decide +kernel
theorem dX4_greatest_2 : decode cX4_greatest 2 = .ok (.ldc2_w 105, 3) := by decide +kernel
theorem dX4_greatest_5 : decode cX4_greatest 5 = .ok (.lload_n 2, 1) := by decide +kernel
theorem dX4_greatest_6 : decode cX4_greatest 6 = .ok (.iload 4, 2) := by decide +kernel
theorem dX4_greatest_8 : decode cX4_greatest 8 = .ok (.invokevirtual 107, 3) := by decide +kernel
theorem dX4_greatest_11 : decode cX4_greatest 11 = .ok (.ifCond .ne 7, 3) := by decide +kernel
theorem dX4_greatest_14 : decode cX4_greatest 14 = .ok (.ldc2_w 111, 3) := by decide +kernel
theorem dX4_greatest_17 : decode cX4_greatest 17 = .ok (.lreturn, 1) := by decide +kernel
theorem dX4_greatest_18 : decode cX4_greatest 18 = .ok (.ldc2_w 105, 3) := by decide +kernel
theorem dX4_greatest_21 : decode cX4_greatest 21 = .ok (.lstore 5, 2) := by decide +kernel
theorem dX4_greatest_23 : decode cX4_greatest 23 = .ok (.ldc2_w 113, 3) := by decide +kernel
theorem dX4_greatest_26 : decode cX4_greatest 26 = .ok (.lstore 7, 2) := by decide +kernel
theorem dX4_greatest_28 : decode cX4_greatest 28 = .ok (.lload 7, 2) := by decide +kernel
theorem dX4_greatest_30 : decode cX4_greatest 30 = .ok (.lconst 0, 1) := by decide +kernel
theorem dX4_greatest_31 : decode cX4_greatest 31 = .ok (.lcmp, 1) := by decide +kernel
theorem dX4_greatest_32 : decode cX4_greatest 32 = .ok (.ifCond .le 65, 3) := by decide +kernel
theorem dX4_greatest_35 : decode cX4_greatest 35 = .ok (.lload 5, 2) := by decide +kernel
theorem dX4_greatest_37 : decode cX4_greatest 37 = .ok (.lload 7, 2) := by decide +kernel
theorem dX4_greatest_39 : decode cX4_greatest 39 = .ok (.ladd, 1) := by decide +kernel
theorem dX4_greatest_40 : decode cX4_greatest 40 = .ok (.ldc2_w 85, 3) := by decide +kernel
theorem dX4_greatest_43 : decode cX4_greatest 43 = .ok (.lcmp, 1) := by decide +kernel
theorem dX4_greatest_44 : decode cX4_greatest 44 = .ok (.ifCond .gt 23, 3) := by decide +kernel
theorem dX4_greatest_47 : decode cX4_greatest 47 = .ok (.aload_n 0, 1) := by decide +kernel
theorem dX4_greatest_48 : decode cX4_greatest 48 = .ok (.iload_n 1, 1) := by decide +kernel
theorem dX4_greatest_49 : decode cX4_greatest 49 = .ok (.lload 5, 2) := by decide +kernel
theorem dX4_greatest_51 : decode cX4_greatest 51 = .ok (.lload 7, 2) := by decide +kernel
theorem dX4_greatest_53 : decode cX4_greatest 53 = .ok (.ladd, 1) := by decide +kernel
theorem dX4_greatest_54 : decode cX4_greatest 54 = .ok (.lload_n 2, 1) := by decide +kernel
theorem dX4_greatest_55 : decode cX4_greatest 55 = .ok (.iload 4, 2) := by decide +kernel
theorem dX4_greatest_57 : decode cX4_greatest 57 = .ok (.invokevirtual 107, 3) := by decide +kernel
theorem dX4_greatest_60 : decode cX4_greatest 60 = .ok (.ifCond .eq 7, 3) := by decide +kernel
theorem dX4_greatest_63 : decode cX4_greatest 63 = .ok (.iconst 1, 1) := by decide +kernel
theorem dX4_greatest_64 : decode cX4_greatest 64 = .ok (.goto 4, 3) := by decide +kernel
theorem dX4_greatest_67 : decode cX4_greatest 67 = .ok (.iconst 0, 1) := by decide +kernel
theorem dX4_greatest_68 : decode cX4_greatest 68 = .ok (.istore 9, 2) := by decide +kernel
theorem dX4_greatest_70 : decode cX4_greatest 70 = .ok (.lload 5, 2) := by decide +kernel
theorem dX4_greatest_72 : decode cX4_greatest 72 = .ok (.iload 9, 2) := by decide +kernel
theorem dX4_greatest_74 : decode cX4_greatest 74 = .ok (.ifCond .eq 8, 3) := by decide +kernel
theorem dX4_greatest_77 : decode cX4_greatest 77 = .ok (.lload 7, 2) := by decide +kernel
theorem dX4_greatest_79 : decode cX4_greatest 79 = .ok (.goto 4, 3) := by decide +kernel
theorem dX4_greatest_82 : decode cX4_greatest 82 = .ok (.lconst 0, 1) := by decide +kernel
theorem dX4_greatest_83 : decode cX4_greatest 83 = .ok (.ladd, 1) := by decide +kernel
theorem dX4_greatest_84 : decode cX4_greatest 84 = .ok (.lstore 5, 2) := by decide +kernel
theorem dX4_greatest_86 : decode cX4_greatest 86 = .ok (.lload 7, 2) := by decide +kernel
theorem dX4_greatest_88 : decode cX4_greatest 88 = .ok (.ldc2_w 115, 3) := by decide +kernel
theorem dX4_greatest_91 : decode cX4_greatest 91 = .ok (.ldiv, 1) := by decide +kernel
theorem dX4_greatest_92 : decode cX4_greatest 92 = .ok (.lstore 7, 2) := by decide +kernel
theorem dX4_greatest_94 : decode cX4_greatest 94 = .ok (.goto (-66), 3) := by decide +kernel
theorem dX4_greatest_97 : decode cX4_greatest 97 = .ok (.lload 5, 2) := by decide +kernel
theorem dX4_greatest_99 : decode cX4_greatest 99 = .ok (.lreturn, 1) := by decide +kernel
set_option maxRecDepth 20000 in
theorem ggX4_stands_X4_greatest : GoodIn wsX4_stands wsX4_greatest := goodIn_r _ [7, 1, 8, 9, 2, 10, 11, 12, 13, 6, 14, 15, 16, 17, 18, 19, 20, 21, 22, 23, 24, 25, 26, 27, 28, 29, 30, 31, 32, 33, 34, 35, 36, 37, 38, 39, 40, 41, 42, 43, 44, 45, 46, 47, 48, 49, 50, 51, 52, 53] (by decide +kernel) (by decide +kernel)
set_option maxRecDepth 20000 in
theorem gX4_stands_X4_greatest : GoodIn wsX4_stands (wsV RX4 117 RX4 yX4_greatest wsX4_greatest) := goodIn_app (goodIn_of _ (by decide +kernel)) ggX4_stands_X4_greatest
set_option maxRecDepth 20000 in
theorem ggX4_stands_X4_march : GoodIn wsX4_stands wsX4_march := goodIn_r _ [19, 20, 21, 22, 15, 23, 24, 25, 26, 27, 28, 29, 30, 6, 31, 32, 33, 34, 35, 36, 37, 38, 39, 40, 41, 42, 43, 44, 45, 46, 47, 48, 49, 50, 51, 52, 53] (by decide +kernel) (by decide +kernel)
set_option maxRecDepth 20000 in
theorem gX4_stands_X4_march : GoodIn wsX4_stands (wsV RX4 101 RX4 yX4_march wsX4_march) := goodIn_app (goodIn_of _ (by decide +kernel)) ggX4_stands_X4_march
theorem dX4_stands_0 : decode cX4_stands 0 = .ok (.aload_n 0, 1) := by decide +kernel
theorem dX4_stands_1 : decode cX4_stands 1 = .ok (.iload_n 1, 1) := by decide +kernel
theorem dX4_stands_2 : decode cX4_stands 2 = .ok (.lload_n 2, 1) := by decide +kernel
theorem dX4_stands_3 : decode cX4_stands 3 = .ok (.iconst 0, 1) := by decide +kernel
theorem dX4_stands_4 : decode cX4_stands 4 = .ok (.invokevirtual 117, 3) := by decide +kernel
theorem dX4_stands_7 : decode cX4_stands 7 = .ok (.lstore 4, 2) := by decide +kernel
theorem dX4_stands_9 : decode cX4_stands 9 = .ok (.lload 4, 2) := by decide +kernel
theorem dX4_stands_11 : decode cX4_stands 11 = .ok (.ldc2_w 105, 3) := by decide +kernel
theorem dX4_stands_14 : decode cX4_stands 14 = .ok (.lcmp, 1) := by decide +kernel
theorem dX4_stands_15 : decode cX4_stands 15 = .ok (.ifCond .lt 12, 3) := by decide +kernel
theorem dX4_stands_18 : decode cX4_stands 18 = .ok (.lload 4, 2) := by decide +kernel
theorem dX4_stands_20 : decode cX4_stands 20 = .ok (.ldc2_w 85, 3) := by decide +kernel
theorem dX4_stands_23 : decode cX4_stands 23 = .ok (.lcmp, 1) := by decide +kernel
theorem dX4_stands_24 : decode cX4_stands 24 = .ok (.ifCond .ne 5, 3) := by decide +kernel
theorem dX4_stands_27 : decode cX4_stands 27 = .ok (.iconst 0, 1) := by decide +kernel
theorem dX4_stands_28 : decode cX4_stands 28 = .ok (.ireturn, 1) := by decide +kernel
theorem dX4_stands_29 : decode cX4_stands 29 = .ok (.aload_n 0, 1) := by decide +kernel
theorem dX4_stands_30 : decode cX4_stands 30 = .ok (.iload_n 1, 1) := by decide +kernel
theorem dX4_stands_31 : decode cX4_stands 31 = .ok (.lload 4, 2) := by decide +kernel
theorem dX4_stands_33 : decode cX4_stands 33 = .ok (.invokevirtual 101, 3) := by decide +kernel
theorem dX4_stands_36 : decode cX4_stands 36 = .ok (.pop2, 1) := by decide +kernel
theorem dX4_stands_37 : decode cX4_stands 37 = .ok (.iconst 1, 1) := by decide +kernel
theorem dX4_stands_38 : decode cX4_stands 38 = .ok (.ireturn, 1) := by decide +kernel
set_option maxRecDepth 20000 in
theorem ggX4_under_X4_isPile : GoodIn wsX4_under wsX4_isPile := goodIn_r _ [9, 10, 11, 12, 8, 13, 50, 51, 52, 53, 54, 55, 56, 57, 58, 59, 60, 61, 62, 63, 64, 65, 66, 67, 68] (by decide +kernel) (by decide +kernel)
set_option maxRecDepth 20000 in
theorem gX4_under_X4_isPile : GoodIn wsX4_under (wsV RX4 75 RX4 yX4_isPile wsX4_isPile) := goodIn_app (goodIn_of _ (by decide +kernel)) ggX4_under_X4_isPile
set_option maxRecDepth 20000 in
theorem ggX4_under_X4_in : GoodIn wsX4_under wsX4_in := goodIn_r _ [13] (by decide +kernel) (by decide +kernel)
set_option maxRecDepth 20000 in
theorem gX4_under_X4_in : GoodIn wsX4_under (va_wsS RX4 71 yX4_in wsX4_in) := goodIn_app (goodIn_of _ (by decide +kernel)) ggX4_under_X4_in
set_option maxRecDepth 20000 in
theorem ggX4_under_X4_stands : GoodIn wsX4_under wsX4_stands := goodIn_r _ [17, 18, 19, 20, 21, 22, 8, 23, 24, 25, 26, 27, 28, 29, 30, 3, 31, 32, 33, 34, 35, 36, 37, 38, 39, 40, 41, 42, 43, 44, 45, 46, 47, 48, 49, 50, 51, 52, 53, 54, 55, 56, 57, 58, 59, 60, 61, 62, 63, 64, 65, 66, 67, 68] (by decide +kernel) (by decide +kernel)
set_option maxRecDepth 20000 in
theorem gX4_under_X4_stands : GoodIn wsX4_under (wsV RX4 123 RX4 yX4_stands wsX4_stands) := goodIn_app (goodIn_of _ (by decide +kernel)) ggX4_under_X4_stands
theorem dX4_under_0 : decode cX4_under 0 = .ok (.aload_n 0, 1) := by decide +kernel
theorem dX4_under_1 : decode cX4_under 1 = .ok (.aload_n 0, 1) := by decide +kernel
theorem dX4_under_2 : decode cX4_under 2 = .ok (.iload_n 1, 1) := by decide +kernel
theorem dX4_under_3 : decode cX4_under 3 = .ok (.invokevirtual 75, 3) := by decide +kernel
theorem dX4_under_6 : decode cX4_under 6 = .ok (.ifCond .eq 19, 3) := by decide +kernel
theorem dX4_under_9 : decode cX4_under 9 = .ok (.iload_n 2, 1) := by decide +kernel
theorem dX4_under_10 : decode cX4_under 10 = .ok (.i2l, 1) := by decide +kernel
theorem dX4_under_11 : decode cX4_under 11 = .ok (.lconst 0, 1) := by decide +kernel
theorem dX4_under_12 : decode cX4_under 12 = .ok (.ldc2_w 121, 3) := by decide +kernel
theorem dX4_under_15 : decode cX4_under 15 = .ok (.invokestatic 71, 3) := by decide +kernel
theorem dX4_under_18 : decode cX4_under 18 = .ok (.ifCond .eq 7, 3) := by decide +kernel
theorem dX4_under_21 : decode cX4_under 21 = .ok (.iconst 0, 1) := by decide +kernel
theorem dX4_under_22 : decode cX4_under 22 = .ok (.goto 4, 3) := by decide +kernel
theorem dX4_under_25 : decode cX4_under 25 = .ok (.iconst 1, 1) := by decide +kernel
theorem dX4_under_26 : decode cX4_under 26 = .ok (.putfield 65, 3) := by decide +kernel
theorem dX4_under_29 : decode cX4_under 29 = .ok (.aload_n 0, 1) := by decide +kernel
theorem dX4_under_30 : decode cX4_under 30 = .ok (.getfield 65, 3) := by decide +kernel
theorem dX4_under_33 : decode cX4_under 33 = .ok (.ifCond .le 7, 3) := by decide +kernel
theorem dX4_under_36 : decode cX4_under 36 = .ok (.iconst 0, 1) := by decide +kernel
theorem dX4_under_37 : decode cX4_under 37 = .ok (.goto 25, 3) := by decide +kernel
theorem dX4_under_40 : decode cX4_under 40 = .ok (.aload_n 0, 1) := by decide +kernel
theorem dX4_under_41 : decode cX4_under 41 = .ok (.iload_n 1, 1) := by decide +kernel
theorem dX4_under_42 : decode cX4_under 42 = .ok (.iload_n 2, 1) := by decide +kernel
theorem dX4_under_43 : decode cX4_under 43 = .ok (.i2l, 1) := by decide +kernel
theorem dX4_under_44 : decode cX4_under 44 = .ok (.invokevirtual 123, 3) := by decide +kernel
theorem dX4_under_47 : decode cX4_under 47 = .ok (.ifCond .eq 13, 3) := by decide +kernel
theorem dX4_under_50 : decode cX4_under 50 = .ok (.aload_n 0, 1) := by decide +kernel
theorem dX4_under_51 : decode cX4_under 51 = .ok (.getfield 42, 3) := by decide +kernel
theorem dX4_under_54 : decode cX4_under 54 = .ok (.iconst 0, 1) := by decide +kernel
theorem dX4_under_55 : decode cX4_under 55 = .ok (.laload, 1) := by decide +kernel
theorem dX4_under_56 : decode cX4_under 56 = .ok (.l2i, 1) := by decide +kernel
theorem dX4_under_57 : decode cX4_under 57 = .ok (.goto 5, 3) := by decide +kernel
theorem dX4_under_60 : decode cX4_under 60 = .ok (.ldc 54, 2) := by decide +kernel
theorem dX4_under_62 : decode cX4_under 62 = .ok (.ireturn, 1) := by decide +kernel
set_option maxRecDepth 20000 in
theorem ggX4_piece_X4_isPiece : GoodIn wsX4_piece wsX4_isPiece := goodIn_r _ [12, 13, 14, 15, 16, 11, 17, 18, 19, 20, 21, 54, 55, 56, 57, 58, 59, 60, 61, 62, 63, 64, 65, 66, 67, 68, 69, 70, 71, 72] (by decide +kernel) (by decide +kernel)
set_option maxRecDepth 20000 in
theorem gX4_piece_X4_isPiece : GoodIn wsX4_piece (wsV RX4 87 RX4 yX4_isPiece wsX4_isPiece) := goodIn_app (goodIn_of _ (by decide +kernel)) ggX4_piece_X4_isPiece
set_option maxRecDepth 20000 in
theorem ggX4_piece_X4_in : GoodIn wsX4_piece wsX4_in := goodIn_r _ [21] (by decide +kernel) (by decide +kernel)
set_option maxRecDepth 20000 in
theorem gX4_piece_X4_in : GoodIn wsX4_piece (va_wsS RX4 71 yX4_in wsX4_in) := goodIn_app (goodIn_of _ (by decide +kernel)) ggX4_piece_X4_in
set_option maxRecDepth 20000 in
theorem ggX4_piece_X4_stands : GoodIn wsX4_piece wsX4_stands := goodIn_r _ [25, 26, 27, 28, 29, 30, 11, 31, 32, 33, 2, 34, 35, 36, 37, 5, 38, 39, 40, 41, 13, 42, 43, 6, 44, 45, 46, 7, 47, 48, 49, 50, 51, 52, 53, 54, 55, 56, 57, 58, 59, 60, 61, 62, 63, 64, 65, 66, 67, 68, 69, 70, 71, 72] (by decide +kernel) (by decide +kernel)
set_option maxRecDepth 20000 in
theorem gX4_piece_X4_stands : GoodIn wsX4_piece (wsV RX4 123 RX4 yX4_stands wsX4_stands) := goodIn_app (goodIn_of _ (by decide +kernel)) ggX4_piece_X4_stands
theorem dX4_piece_0 : decode cX4_piece 0 = .ok (.aload_n 0, 1) := by decide +kernel
theorem dX4_piece_1 : decode cX4_piece 1 = .ok (.aload_n 0, 1) := by decide +kernel
theorem dX4_piece_2 : decode cX4_piece 2 = .ok (.iload_n 1, 1) := by decide +kernel
theorem dX4_piece_3 : decode cX4_piece 3 = .ok (.iload_n 3, 1) := by decide +kernel
theorem dX4_piece_4 : decode cX4_piece 4 = .ok (.invokevirtual 87, 3) := by decide +kernel
theorem dX4_piece_7 : decode cX4_piece 7 = .ok (.ifCond .eq 32, 3) := by decide +kernel
theorem dX4_piece_10 : decode cX4_piece 10 = .ok (.iload_n 2, 1) := by decide +kernel
theorem dX4_piece_11 : decode cX4_piece 11 = .ok (.i2l, 1) := by decide +kernel
theorem dX4_piece_12 : decode cX4_piece 12 = .ok (.lconst 0, 1) := by decide +kernel
theorem dX4_piece_13 : decode cX4_piece 13 = .ok (.ldc2_w 121, 3) := by decide +kernel
theorem dX4_piece_16 : decode cX4_piece 16 = .ok (.invokestatic 71, 3) := by decide +kernel
theorem dX4_piece_19 : decode cX4_piece 19 = .ok (.ifCond .eq 20, 3) := by decide +kernel
theorem dX4_piece_22 : decode cX4_piece 22 = .ok (.iload 4, 2) := by decide +kernel
theorem dX4_piece_24 : decode cX4_piece 24 = .ok (.i2l, 1) := by decide +kernel
theorem dX4_piece_25 : decode cX4_piece 25 = .ok (.lconst 0, 1) := by decide +kernel
theorem dX4_piece_26 : decode cX4_piece 26 = .ok (.ldc2_w 115, 3) := by decide +kernel
theorem dX4_piece_29 : decode cX4_piece 29 = .ok (.invokestatic 71, 3) := by decide +kernel
theorem dX4_piece_32 : decode cX4_piece 32 = .ok (.ifCond .eq 7, 3) := by decide +kernel
theorem dX4_piece_35 : decode cX4_piece 35 = .ok (.iconst 0, 1) := by decide +kernel
theorem dX4_piece_36 : decode cX4_piece 36 = .ok (.goto 4, 3) := by decide +kernel
theorem dX4_piece_39 : decode cX4_piece 39 = .ok (.iconst 1, 1) := by decide +kernel
theorem dX4_piece_40 : decode cX4_piece 40 = .ok (.putfield 65, 3) := by decide +kernel
theorem dX4_piece_43 : decode cX4_piece 43 = .ok (.aload_n 0, 1) := by decide +kernel
theorem dX4_piece_44 : decode cX4_piece 44 = .ok (.getfield 65, 3) := by decide +kernel
theorem dX4_piece_47 : decode cX4_piece 47 = .ok (.ifCond .le 5, 3) := by decide +kernel
theorem dX4_piece_50 : decode cX4_piece 50 = .ok (.iconst 0, 1) := by decide +kernel
theorem dX4_piece_51 : decode cX4_piece 51 = .ok (.ireturn, 1) := by decide +kernel
theorem dX4_piece_52 : decode cX4_piece 52 = .ok (.aload_n 0, 1) := by decide +kernel
theorem dX4_piece_53 : decode cX4_piece 53 = .ok (.iload_n 1, 1) := by decide +kernel
theorem dX4_piece_54 : decode cX4_piece 54 = .ok (.iload_n 2, 1) := by decide +kernel
theorem dX4_piece_55 : decode cX4_piece 55 = .ok (.i2l, 1) := by decide +kernel
theorem dX4_piece_56 : decode cX4_piece 56 = .ok (.invokevirtual 123, 3) := by decide +kernel
theorem dX4_piece_59 : decode cX4_piece 59 = .ok (.ifCond .ne 6, 3) := by decide +kernel
theorem dX4_piece_62 : decode cX4_piece 62 = .ok (.ldc 54, 2) := by decide +kernel
theorem dX4_piece_64 : decode cX4_piece 64 = .ok (.ireturn, 1) := by decide +kernel
theorem dX4_piece_65 : decode cX4_piece 65 = .ok (.iload 4, 2) := by decide +kernel
theorem dX4_piece_67 : decode cX4_piece 67 = .ok (.ifCond .ne 12, 3) := by decide +kernel
theorem dX4_piece_70 : decode cX4_piece 70 = .ok (.aload_n 0, 1) := by decide +kernel
theorem dX4_piece_71 : decode cX4_piece 71 = .ok (.getfield 42, 3) := by decide +kernel
theorem dX4_piece_74 : decode cX4_piece 74 = .ok (.iload_n 3, 1) := by decide +kernel
theorem dX4_piece_75 : decode cX4_piece 75 = .ok (.laload, 1) := by decide +kernel
theorem dX4_piece_76 : decode cX4_piece 76 = .ok (.goto 24, 3) := by decide +kernel
theorem dX4_piece_79 : decode cX4_piece 79 = .ok (.iload 4, 2) := by decide +kernel
theorem dX4_piece_81 : decode cX4_piece 81 = .ok (.iconst 1, 1) := by decide +kernel
theorem dX4_piece_82 : decode cX4_piece 82 = .ok (.if_icmp .ne 12, 3) := by decide +kernel
theorem dX4_piece_85 : decode cX4_piece 85 = .ok (.aload_n 0, 1) := by decide +kernel
theorem dX4_piece_86 : decode cX4_piece 86 = .ok (.getfield 45, 3) := by decide +kernel
theorem dX4_piece_89 : decode cX4_piece 89 = .ok (.iload_n 3, 1) := by decide +kernel
theorem dX4_piece_90 : decode cX4_piece 90 = .ok (.laload, 1) := by decide +kernel
theorem dX4_piece_91 : decode cX4_piece 91 = .ok (.goto 9, 3) := by decide +kernel
theorem dX4_piece_94 : decode cX4_piece 94 = .ok (.aload_n 0, 1) := by decide +kernel
theorem dX4_piece_95 : decode cX4_piece 95 = .ok (.getfield 48, 3) := by decide +kernel
theorem dX4_piece_98 : decode cX4_piece 98 = .ok (.iload_n 3, 1) := by decide +kernel
theorem dX4_piece_99 : decode cX4_piece 99 = .ok (.laload, 1) := by decide +kernel
theorem dX4_piece_100 : decode cX4_piece 100 = .ok (.l2i, 1) := by decide +kernel
theorem dX4_piece_101 : decode cX4_piece 101 = .ok (.ireturn, 1) := by decide +kernel
set_option maxRecDepth 20000 in
theorem ggX4_hasState_X4_greatest : GoodIn wsX4_hasState wsX4_greatest := goodIn_r _ [6, 1, 7, 8, 9, 10, 11, 12, 13, 5, 14, 15, 16, 17, 18, 19, 20, 21, 22, 23, 24, 25, 26, 27, 28, 29, 30, 31, 32, 33, 34, 35, 36, 37, 38, 39, 40, 41, 42, 43, 44, 45, 46, 47, 48, 49, 50, 51, 52, 53] (by decide +kernel) (by decide +kernel)
set_option maxRecDepth 20000 in
theorem gX4_hasState_X4_greatest : GoodIn wsX4_hasState (wsV RX4 117 RX4 yX4_greatest wsX4_greatest) := goodIn_app (goodIn_of _ (by decide +kernel)) ggX4_hasState_X4_greatest
theorem dX4_hasState_0 : decode cX4_hasState 0 = .ok (.aload_n 0, 1) := by decide +kernel
theorem dX4_hasState_1 : decode cX4_hasState 1 = .ok (.iload_n 1, 1) := by decide +kernel
theorem dX4_hasState_2 : decode cX4_hasState 2 = .ok (.lload_n 2, 1) := by decide +kernel
theorem dX4_hasState_3 : decode cX4_hasState 3 = .ok (.iconst 1, 1) := by decide +kernel
theorem dX4_hasState_4 : decode cX4_hasState 4 = .ok (.invokevirtual 117, 3) := by decide +kernel
theorem dX4_hasState_7 : decode cX4_hasState 7 = .ok (.ldc2_w 105, 3) := by decide +kernel
theorem dX4_hasState_10 : decode cX4_hasState 10 = .ok (.lcmp, 1) := by decide +kernel
theorem dX4_hasState_11 : decode cX4_hasState 11 = .ok (.ifCond .lt 7, 3) := by decide +kernel
theorem dX4_hasState_14 : decode cX4_hasState 14 = .ok (.iconst 1, 1) := by decide +kernel
theorem dX4_hasState_15 : decode cX4_hasState 15 = .ok (.goto 4, 3) := by decide +kernel
theorem dX4_hasState_18 : decode cX4_hasState 18 = .ok (.iconst 0, 1) := by decide +kernel
theorem dX4_hasState_19 : decode cX4_hasState 19 = .ok (.ireturn, 1) := by decide +kernel
set_option maxRecDepth 20000 in
theorem ggX4_loadAt_X4_greatest : GoodIn wsX4_loadAt wsX4_greatest := goodIn_r _ [5, 6, 7, 8, 9, 10, 11, 12, 13, 4, 14, 15, 16, 17, 18, 19, 20, 21, 22, 23, 24, 25, 26, 27, 28, 29, 30, 31, 32, 33, 34, 35, 36, 37, 38, 39, 40, 41, 42, 43, 44, 45, 46, 47, 48, 49, 50, 51, 52, 53] (by decide +kernel) (by decide +kernel)
set_option maxRecDepth 20000 in
theorem gX4_loadAt_X4_greatest : GoodIn wsX4_loadAt (wsV RX4 117 RX4 yX4_greatest wsX4_greatest) := goodIn_app (goodIn_of _ (by decide +kernel)) ggX4_loadAt_X4_greatest
set_option maxRecDepth 20000 in
theorem ggX4_loadAt_X4_march : GoodIn wsX4_loadAt wsX4_march := goodIn_r _ [19, 20, 21, 22, 15, 23, 24, 25, 26, 27, 28, 29, 30, 4, 31, 32, 33, 34, 35, 36, 37, 38, 39, 40, 41, 42, 43, 44, 45, 46, 47, 48, 49, 50, 51, 52, 53] (by decide +kernel) (by decide +kernel)
set_option maxRecDepth 20000 in
theorem gX4_loadAt_X4_march : GoodIn wsX4_loadAt (wsV RX4 101 RX4 yX4_march wsX4_march) := goodIn_app (goodIn_of _ (by decide +kernel)) ggX4_loadAt_X4_march
theorem dX4_loadAt_0 : decode cX4_loadAt 0 = .ok (.aload_n 0, 1) := by decide +kernel
theorem dX4_loadAt_1 : decode cX4_loadAt 1 = .ok (.iload_n 1, 1) := by decide +kernel
theorem dX4_loadAt_2 : decode cX4_loadAt 2 = .ok (.aload_n 0, 1) := by decide +kernel
theorem dX4_loadAt_3 : decode cX4_loadAt 3 = .ok (.iload_n 1, 1) := by decide +kernel
theorem dX4_loadAt_4 : decode cX4_loadAt 4 = .ok (.lload_n 2, 1) := by decide +kernel
theorem dX4_loadAt_5 : decode cX4_loadAt 5 = .ok (.iconst 1, 1) := by decide +kernel
theorem dX4_loadAt_6 : decode cX4_loadAt 6 = .ok (.invokevirtual 117, 3) := by decide +kernel
theorem dX4_loadAt_9 : decode cX4_loadAt 9 = .ok (.invokevirtual 101, 3) := by decide +kernel
theorem dX4_loadAt_12 : decode cX4_loadAt 12 = .ok (.lreturn, 1) := by decide +kernel
set_option maxRecDepth 20000 in
theorem ggX4_load_X4_isPile : GoodIn wsX4_load wsX4_isPile := goodIn_r _ [9, 10, 11, 12, 8, 13, 53, 54, 55, 56, 57, 58, 59, 60, 61, 62, 63, 64, 65, 66, 67, 68, 69, 70, 71] (by decide +kernel) (by decide +kernel)
set_option maxRecDepth 20000 in
theorem gX4_load_X4_isPile : GoodIn wsX4_load (wsV RX4 75 RX4 yX4_isPile wsX4_isPile) := goodIn_app (goodIn_of _ (by decide +kernel)) ggX4_load_X4_isPile
set_option maxRecDepth 20000 in
theorem ggX4_load_X4_in : GoodIn wsX4_load wsX4_in := goodIn_r _ [13] (by decide +kernel) (by decide +kernel)
set_option maxRecDepth 20000 in
theorem gX4_load_X4_in : GoodIn wsX4_load (va_wsS RX4 71 yX4_in wsX4_in) := goodIn_app (goodIn_of _ (by decide +kernel)) ggX4_load_X4_in
set_option maxRecDepth 20000 in
theorem ggX4_load_X4_hasState : GoodIn wsX4_load wsX4_hasState := goodIn_r _ [17, 1, 18, 19, 20, 8, 21, 22, 23, 2, 24, 25, 26, 27, 28, 29, 30, 31, 32, 33, 34, 35, 36, 37, 38, 39, 40, 41, 42, 43, 44, 45, 46, 47, 48, 53, 54, 55, 56, 57, 58, 59, 60, 61, 62, 63, 64, 65, 66, 67, 68, 69, 70, 71] (by decide +kernel) (by decide +kernel)
set_option maxRecDepth 20000 in
theorem gX4_load_X4_hasState : GoodIn wsX4_load (wsV RX4 127 RX4 yX4_hasState wsX4_hasState) := goodIn_app (goodIn_of _ (by decide +kernel)) ggX4_load_X4_hasState
set_option maxRecDepth 20000 in
theorem ggX4_load_X4_loadAt : GoodIn wsX4_load wsX4_loadAt := goodIn_r _ [52, 18, 19, 20, 8, 21, 1, 22, 23, 2, 24, 25, 26, 27, 28, 29, 30, 31, 32, 33, 34, 35, 36, 37, 38, 39, 40, 41, 42, 43, 44, 45, 46, 47, 48, 53, 54, 55, 56, 57, 58, 59, 60, 61, 62, 63, 64, 65, 66, 67, 68, 69, 70, 71] (by decide +kernel) (by decide +kernel)
set_option maxRecDepth 20000 in
theorem gX4_load_X4_loadAt : GoodIn wsX4_load (wsV RX4 130 RX4 yX4_loadAt wsX4_loadAt) := goodIn_app (goodIn_of _ (by decide +kernel)) ggX4_load_X4_loadAt
theorem dX4_load_0 : decode cX4_load 0 = .ok (.aload_n 0, 1) := by decide +kernel
theorem dX4_load_1 : decode cX4_load 1 = .ok (.aload_n 0, 1) := by decide +kernel
theorem dX4_load_2 : decode cX4_load 2 = .ok (.iload_n 1, 1) := by decide +kernel
theorem dX4_load_3 : decode cX4_load 3 = .ok (.invokevirtual 75, 3) := by decide +kernel
theorem dX4_load_6 : decode cX4_load 6 = .ok (.ifCond .eq 21, 3) := by decide +kernel
theorem dX4_load_9 : decode cX4_load 9 = .ok (.iload_n 2, 1) := by decide +kernel
theorem dX4_load_10 : decode cX4_load 10 = .ok (.i2l, 1) := by decide +kernel
theorem dX4_load_11 : decode cX4_load 11 = .ok (.ldc2_w 105, 3) := by decide +kernel
theorem dX4_load_14 : decode cX4_load 14 = .ok (.ldc2_w 85, 3) := by decide +kernel
theorem dX4_load_17 : decode cX4_load 17 = .ok (.invokestatic 71, 3) := by decide +kernel
theorem dX4_load_20 : decode cX4_load 20 = .ok (.ifCond .eq 7, 3) := by decide +kernel
theorem dX4_load_23 : decode cX4_load 23 = .ok (.iconst 0, 1) := by decide +kernel
theorem dX4_load_24 : decode cX4_load 24 = .ok (.goto 4, 3) := by decide +kernel
theorem dX4_load_27 : decode cX4_load 27 = .ok (.iconst 1, 1) := by decide +kernel
theorem dX4_load_28 : decode cX4_load 28 = .ok (.putfield 65, 3) := by decide +kernel
theorem dX4_load_31 : decode cX4_load 31 = .ok (.aload_n 0, 1) := by decide +kernel
theorem dX4_load_32 : decode cX4_load 32 = .ok (.getfield 65, 3) := by decide +kernel
theorem dX4_load_35 : decode cX4_load 35 = .ok (.ifCond .le 7, 3) := by decide +kernel
theorem dX4_load_38 : decode cX4_load 38 = .ok (.iconst 0, 1) := by decide +kernel
theorem dX4_load_39 : decode cX4_load 39 = .ok (.goto 26, 3) := by decide +kernel
theorem dX4_load_42 : decode cX4_load 42 = .ok (.aload_n 0, 1) := by decide +kernel
theorem dX4_load_43 : decode cX4_load 43 = .ok (.iload_n 1, 1) := by decide +kernel
theorem dX4_load_44 : decode cX4_load 44 = .ok (.iload_n 2, 1) := by decide +kernel
theorem dX4_load_45 : decode cX4_load 45 = .ok (.i2l, 1) := by decide +kernel
theorem dX4_load_46 : decode cX4_load 46 = .ok (.invokevirtual 127, 3) := by decide +kernel
theorem dX4_load_49 : decode cX4_load 49 = .ok (.ifCond .eq 14, 3) := by decide +kernel
theorem dX4_load_52 : decode cX4_load 52 = .ok (.aload_n 0, 1) := by decide +kernel
theorem dX4_load_53 : decode cX4_load 53 = .ok (.iload_n 1, 1) := by decide +kernel
theorem dX4_load_54 : decode cX4_load 54 = .ok (.iload_n 2, 1) := by decide +kernel
theorem dX4_load_55 : decode cX4_load 55 = .ok (.i2l, 1) := by decide +kernel
theorem dX4_load_56 : decode cX4_load 56 = .ok (.invokevirtual 130, 3) := by decide +kernel
theorem dX4_load_59 : decode cX4_load 59 = .ok (.l2i, 1) := by decide +kernel
theorem dX4_load_60 : decode cX4_load 60 = .ok (.goto 5, 3) := by decide +kernel
theorem dX4_load_63 : decode cX4_load 63 = .ok (.ldc 54, 2) := by decide +kernel
theorem dX4_load_65 : decode cX4_load 65 = .ok (.ireturn, 1) := by decide +kernel
set_option maxRecDepth 20000 in
theorem ggX4_hold_X4_isPile : GoodIn wsX4_hold wsX4_isPile := goodIn_r _ [10, 11, 12, 13, 9, 14, 15, 16, 17, 18, 19, 20, 21, 22, 23, 24, 25, 26, 27, 28, 29, 30, 31, 32, 33] (by decide +kernel) (by decide +kernel)
set_option maxRecDepth 20000 in
theorem gX4_hold_X4_isPile : GoodIn wsX4_hold (wsV RX4 75 RX4 yX4_isPile wsX4_isPile) := goodIn_app (goodIn_of _ (by decide +kernel)) ggX4_hold_X4_isPile
theorem dX4_hold_0 : decode cX4_hold 0 = .ok (.aload_n 0, 1) := by decide +kernel
theorem dX4_hold_1 : decode cX4_hold 1 = .ok (.aload_n 0, 1) := by decide +kernel
theorem dX4_hold_2 : decode cX4_hold 2 = .ok (.iload_n 1, 1) := by decide +kernel
theorem dX4_hold_3 : decode cX4_hold 3 = .ok (.invokevirtual 75, 3) := by decide +kernel
theorem dX4_hold_6 : decode cX4_hold 6 = .ok (.ifCond .eq 7, 3) := by decide +kernel
theorem dX4_hold_9 : decode cX4_hold 9 = .ok (.iconst 0, 1) := by decide +kernel
theorem dX4_hold_10 : decode cX4_hold 10 = .ok (.goto 4, 3) := by decide +kernel
theorem dX4_hold_13 : decode cX4_hold 13 = .ok (.iconst 1, 1) := by decide +kernel
theorem dX4_hold_14 : decode cX4_hold 14 = .ok (.putfield 65, 3) := by decide +kernel
theorem dX4_hold_17 : decode cX4_hold 17 = .ok (.lconst 0, 1) := by decide +kernel
theorem dX4_hold_18 : decode cX4_hold 18 = .ok (.lstore_n 2, 1) := by decide +kernel
theorem dX4_hold_19 : decode cX4_hold 19 = .ok (.iconst 0, 1) := by decide +kernel
theorem dX4_hold_20 : decode cX4_hold 20 = .ok (.istore 4, 2) := by decide +kernel
theorem dX4_hold_22 : decode cX4_hold 22 = .ok (.aload_n 0, 1) := by decide +kernel
theorem dX4_hold_23 : decode cX4_hold 23 = .ok (.getfield 65, 3) := by decide +kernel
theorem dX4_hold_26 : decode cX4_hold 26 = .ok (.ifCond .ne 43, 3) := by decide +kernel
theorem dX4_hold_29 : decode cX4_hold 29 = .ok (.iload 4, 2) := by decide +kernel
theorem dX4_hold_31 : decode cX4_hold 31 = .ok (.aload_n 0, 1) := by decide +kernel
theorem dX4_hold_32 : decode cX4_hold 32 = .ok (.getfield 7, 3) := by decide +kernel
theorem dX4_hold_35 : decode cX4_hold 35 = .ok (.iload_n 1, 1) := by decide +kernel
theorem dX4_hold_36 : decode cX4_hold 36 = .ok (.iaload, 1) := by decide +kernel
theorem dX4_hold_37 : decode cX4_hold 37 = .ok (.if_icmp .ge 32, 3) := by decide +kernel
theorem dX4_hold_40 : decode cX4_hold 40 = .ok (.lload_n 2, 1) := by decide +kernel
theorem dX4_hold_41 : decode cX4_hold 41 = .ok (.aload_n 0, 1) := by decide +kernel
theorem dX4_hold_42 : decode cX4_hold 42 = .ok (.getfield 26, 3) := by decide +kernel
theorem dX4_hold_45 : decode cX4_hold 45 = .ok (.bipush 12, 2) := by decide +kernel
theorem dX4_hold_47 : decode cX4_hold 47 = .ok (.iload_n 1, 1) := by decide +kernel
theorem dX4_hold_48 : decode cX4_hold 48 = .ok (.imul, 1) := by decide +kernel
theorem dX4_hold_49 : decode cX4_hold 49 = .ok (.iload 4, 2) := by decide +kernel
theorem dX4_hold_51 : decode cX4_hold 51 = .ok (.iadd, 1) := by decide +kernel
theorem dX4_hold_52 : decode cX4_hold 52 = .ok (.laload, 1) := by decide +kernel
theorem dX4_hold_53 : decode cX4_hold 53 = .ok (.ldc2_w 133, 3) := by decide +kernel
theorem dX4_hold_56 : decode cX4_hold 56 = .ok (.lmul, 1) := by decide +kernel
theorem dX4_hold_57 : decode cX4_hold 57 = .ok (.ldc2_w 135, 3) := by decide +kernel
theorem dX4_hold_60 : decode cX4_hold 60 = .ok (.ldiv, 1) := by decide +kernel
theorem dX4_hold_61 : decode cX4_hold 61 = .ok (.ladd, 1) := by decide +kernel
theorem dX4_hold_62 : decode cX4_hold 62 = .ok (.lstore_n 2, 1) := by decide +kernel
theorem dX4_hold_63 : decode cX4_hold 63 = .ok (.iinc 4 1, 3) := by decide +kernel
theorem dX4_hold_66 : decode cX4_hold 66 = .ok (.goto (-44), 3) := by decide +kernel
theorem dX4_hold_69 : decode cX4_hold 69 = .ok (.lload_n 2, 1) := by decide +kernel
theorem dX4_hold_70 : decode cX4_hold 70 = .ok (.l2i, 1) := by decide +kernel
theorem dX4_hold_71 : decode cX4_hold 71 = .ok (.ireturn, 1) := by decide +kernel
set_option maxRecDepth 20000 in
theorem ggX4_cheapest_X4_in : GoodIn wsX4_cheapest wsX4_in := goodIn_r _ [11] (by decide +kernel) (by decide +kernel)
set_option maxRecDepth 20000 in
theorem gX4_cheapest_X4_in : GoodIn wsX4_cheapest (va_wsS RX4 71 yX4_in wsX4_in) := goodIn_app (goodIn_of _ (by decide +kernel)) ggX4_cheapest_X4_in
set_option maxRecDepth 20000 in
theorem ggX4_cheapest_X4_stands : GoodIn wsX4_cheapest wsX4_stands := goodIn_r _ [15, 16, 2, 17, 18, 19, 10, 20, 21, 22, 23, 24, 25, 26, 27, 6, 28, 29, 30, 31, 32, 33, 34, 35, 36, 37, 38, 39, 40, 41, 42, 43, 44, 45, 46, 47, 48, 49, 50, 51, 52, 53, 54, 55, 56, 57, 58, 59, 60, 61, 62, 63, 64, 65] (by decide +kernel) (by decide +kernel)
set_option maxRecDepth 20000 in
theorem gX4_cheapest_X4_stands : GoodIn wsX4_cheapest (wsV RX4 123 RX4 yX4_stands wsX4_stands) := goodIn_app (goodIn_of _ (by decide +kernel)) ggX4_cheapest_X4_stands
theorem dX4_cheapest_0 : decode cX4_cheapest 0 = .ok (.aload_n 0, 1) := by decide +kernel
theorem dX4_cheapest_1 : decode cX4_cheapest 1 = .ok (.iload_n 1, 1) := by decide +kernel
theorem dX4_cheapest_2 : decode cX4_cheapest 2 = .ok (.i2l, 1) := by decide +kernel
theorem dX4_cheapest_3 : decode cX4_cheapest 3 = .ok (.lconst 0, 1) := by decide +kernel
theorem dX4_cheapest_4 : decode cX4_cheapest 4 = .ok (.ldc2_w 121, 3) := by decide +kernel
theorem dX4_cheapest_7 : decode cX4_cheapest 7 = .ok (.invokestatic 71, 3) := by decide +kernel
theorem dX4_cheapest_10 : decode cX4_cheapest 10 = .ok (.ifCond .eq 19, 3) := by decide +kernel
theorem dX4_cheapest_13 : decode cX4_cheapest 13 = .ok (.iload_n 2, 1) := by decide +kernel
theorem dX4_cheapest_14 : decode cX4_cheapest 14 = .ok (.i2l, 1) := by decide +kernel
theorem dX4_cheapest_15 : decode cX4_cheapest 15 = .ok (.lconst 0, 1) := by decide +kernel
theorem dX4_cheapest_16 : decode cX4_cheapest 16 = .ok (.ldc2_w 85, 3) := by decide +kernel
theorem dX4_cheapest_19 : decode cX4_cheapest 19 = .ok (.invokestatic 71, 3) := by decide +kernel
theorem dX4_cheapest_22 : decode cX4_cheapest 22 = .ok (.ifCond .eq 7, 3) := by decide +kernel
theorem dX4_cheapest_25 : decode cX4_cheapest 25 = .ok (.iconst 0, 1) := by decide +kernel
theorem dX4_cheapest_26 : decode cX4_cheapest 26 = .ok (.goto 4, 3) := by decide +kernel
theorem dX4_cheapest_29 : decode cX4_cheapest 29 = .ok (.iconst 1, 1) := by decide +kernel
theorem dX4_cheapest_30 : decode cX4_cheapest 30 = .ok (.putfield 65, 3) := by decide +kernel
theorem dX4_cheapest_33 : decode cX4_cheapest 33 = .ok (.ldc 54, 2) := by decide +kernel
theorem dX4_cheapest_35 : decode cX4_cheapest 35 = .ok (.istore_n 3, 1) := by decide +kernel
theorem dX4_cheapest_36 : decode cX4_cheapest 36 = .ok (.iconst 0, 1) := by decide +kernel
theorem dX4_cheapest_37 : decode cX4_cheapest 37 = .ok (.istore 4, 2) := by decide +kernel
theorem dX4_cheapest_39 : decode cX4_cheapest 39 = .ok (.aload_n 0, 1) := by decide +kernel
theorem dX4_cheapest_40 : decode cX4_cheapest 40 = .ok (.getfield 65, 3) := by decide +kernel
theorem dX4_cheapest_43 : decode cX4_cheapest 43 = .ok (.ifCond .ne 82, 3) := by decide +kernel
theorem dX4_cheapest_46 : decode cX4_cheapest 46 = .ok (.iload 4, 2) := by decide +kernel
theorem dX4_cheapest_48 : decode cX4_cheapest 48 = .ok (.aload_n 0, 1) := by decide +kernel
theorem dX4_cheapest_49 : decode cX4_cheapest 49 = .ok (.getfield 68, 3) := by decide +kernel
theorem dX4_cheapest_52 : decode cX4_cheapest 52 = .ok (.if_icmp .ge 73, 3) := by decide +kernel
theorem dX4_cheapest_55 : decode cX4_cheapest 55 = .ok (.aload_n 0, 1) := by decide +kernel
theorem dX4_cheapest_56 : decode cX4_cheapest 56 = .ok (.iload 4, 2) := by decide +kernel
theorem dX4_cheapest_58 : decode cX4_cheapest 58 = .ok (.iload_n 1, 1) := by decide +kernel
theorem dX4_cheapest_59 : decode cX4_cheapest 59 = .ok (.i2l, 1) := by decide +kernel
theorem dX4_cheapest_60 : decode cX4_cheapest 60 = .ok (.invokevirtual 123, 3) := by decide +kernel
theorem dX4_cheapest_63 : decode cX4_cheapest 63 = .ok (.ifCond .eq 19, 3) := by decide +kernel
theorem dX4_cheapest_66 : decode cX4_cheapest 66 = .ok (.aload_n 0, 1) := by decide +kernel
theorem dX4_cheapest_67 : decode cX4_cheapest 67 = .ok (.getfield 42, 3) := by decide +kernel
theorem dX4_cheapest_70 : decode cX4_cheapest 70 = .ok (.iconst 0, 1) := by decide +kernel
theorem dX4_cheapest_71 : decode cX4_cheapest 71 = .ok (.laload, 1) := by decide +kernel
theorem dX4_cheapest_72 : decode cX4_cheapest 72 = .ok (.iload_n 2, 1) := by decide +kernel
theorem dX4_cheapest_73 : decode cX4_cheapest 73 = .ok (.i2l, 1) := by decide +kernel
theorem dX4_cheapest_74 : decode cX4_cheapest 74 = .ok (.lcmp, 1) := by decide +kernel
theorem dX4_cheapest_75 : decode cX4_cheapest 75 = .ok (.ifCond .gt 7, 3) := by decide +kernel
theorem dX4_cheapest_78 : decode cX4_cheapest 78 = .ok (.iconst 1, 1) := by decide +kernel
theorem dX4_cheapest_79 : decode cX4_cheapest 79 = .ok (.goto 4, 3) := by decide +kernel
theorem dX4_cheapest_82 : decode cX4_cheapest 82 = .ok (.iconst 0, 1) := by decide +kernel
theorem dX4_cheapest_83 : decode cX4_cheapest 83 = .ok (.istore 5, 2) := by decide +kernel
theorem dX4_cheapest_85 : decode cX4_cheapest 85 = .ok (.iload 5, 2) := by decide +kernel
theorem dX4_cheapest_87 : decode cX4_cheapest 87 = .ok (.ifCond .eq 30, 3) := by decide +kernel
theorem dX4_cheapest_90 : decode cX4_cheapest 90 = .ok (.iload_n 3, 1) := by decide +kernel
theorem dX4_cheapest_91 : decode cX4_cheapest 91 = .ok (.ldc 54, 2) := by decide +kernel
theorem dX4_cheapest_93 : decode cX4_cheapest 93 = .ok (.if_icmp .eq 19, 3) := by decide +kernel
theorem dX4_cheapest_96 : decode cX4_cheapest 96 = .ok (.aload_n 0, 1) := by decide +kernel
theorem dX4_cheapest_97 : decode cX4_cheapest 97 = .ok (.getfield 20, 3) := by decide +kernel
theorem dX4_cheapest_100 : decode cX4_cheapest 100 = .ok (.iload 4, 2) := by decide +kernel
theorem dX4_cheapest_102 : decode cX4_cheapest 102 = .ok (.iaload, 1) := by decide +kernel
theorem dX4_cheapest_103 : decode cX4_cheapest 103 = .ok (.aload_n 0, 1) := by decide +kernel
theorem dX4_cheapest_104 : decode cX4_cheapest 104 = .ok (.getfield 20, 3) := by decide +kernel
theorem dX4_cheapest_107 : decode cX4_cheapest 107 = .ok (.iload_n 3, 1) := by decide +kernel
theorem dX4_cheapest_108 : decode cX4_cheapest 108 = .ok (.iaload, 1) := by decide +kernel
theorem dX4_cheapest_109 : decode cX4_cheapest 109 = .ok (.if_icmp .ge 8, 3) := by decide +kernel
theorem dX4_cheapest_112 : decode cX4_cheapest 112 = .ok (.iload 4, 2) := by decide +kernel
theorem dX4_cheapest_114 : decode cX4_cheapest 114 = .ok (.goto 4, 3) := by decide +kernel
theorem dX4_cheapest_117 : decode cX4_cheapest 117 = .ok (.iload_n 3, 1) := by decide +kernel
theorem dX4_cheapest_118 : decode cX4_cheapest 118 = .ok (.istore_n 3, 1) := by decide +kernel
theorem dX4_cheapest_119 : decode cX4_cheapest 119 = .ok (.iinc 4 1, 3) := by decide +kernel
theorem dX4_cheapest_122 : decode cX4_cheapest 122 = .ok (.goto (-83), 3) := by decide +kernel
theorem dX4_cheapest_125 : decode cX4_cheapest 125 = .ok (.aload_n 0, 1) := by decide +kernel
theorem dX4_cheapest_126 : decode cX4_cheapest 126 = .ok (.getfield 65, 3) := by decide +kernel
theorem dX4_cheapest_129 : decode cX4_cheapest 129 = .ok (.ifCond .le 7, 3) := by decide +kernel
theorem dX4_cheapest_132 : decode cX4_cheapest 132 = .ok (.iconst 0, 1) := by decide +kernel
theorem dX4_cheapest_133 : decode cX4_cheapest 133 = .ok (.goto 4, 3) := by decide +kernel
theorem dX4_cheapest_136 : decode cX4_cheapest 136 = .ok (.iload_n 3, 1) := by decide +kernel
theorem dX4_cheapest_137 : decode cX4_cheapest 137 = .ok (.ireturn, 1) := by decide +kernel
set_option maxRecDepth 20000 in
theorem ggX4_join_X4_isPile : GoodIn wsX4_join wsX4_isPile := goodIn_r _ [7, 8, 9, 10, 6, 11, 12, 13, 14, 15, 16, 17, 18, 19, 20, 21, 22, 23, 24, 25, 26, 27, 28, 29, 30] (by decide +kernel) (by decide +kernel)
set_option maxRecDepth 20000 in
theorem gX4_join_X4_isPile : GoodIn wsX4_join (wsV RX4 75 RX4 yX4_isPile wsX4_isPile) := goodIn_app (goodIn_of _ (by decide +kernel)) ggX4_join_X4_isPile
theorem dX4_join_0 : decode cX4_join 0 = .ok (.aload_n 0, 1) := by decide +kernel
theorem dX4_join_1 : decode cX4_join 1 = .ok (.aload_n 0, 1) := by decide +kernel
theorem dX4_join_2 : decode cX4_join 2 = .ok (.iload_n 1, 1) := by decide +kernel
theorem dX4_join_3 : decode cX4_join 3 = .ok (.invokevirtual 75, 3) := by decide +kernel
theorem dX4_join_6 : decode cX4_join 6 = .ok (.ifCond .eq 7, 3) := by decide +kernel
theorem dX4_join_9 : decode cX4_join 9 = .ok (.iconst 0, 1) := by decide +kernel
theorem dX4_join_10 : decode cX4_join 10 = .ok (.goto 4, 3) := by decide +kernel
theorem dX4_join_13 : decode cX4_join 13 = .ok (.iconst 1, 1) := by decide +kernel
theorem dX4_join_14 : decode cX4_join 14 = .ok (.putfield 65, 3) := by decide +kernel
theorem dX4_join_17 : decode cX4_join 17 = .ok (.aload_n 0, 1) := by decide +kernel
theorem dX4_join_18 : decode cX4_join 18 = .ok (.getfield 65, 3) := by decide +kernel
theorem dX4_join_21 : decode cX4_join 21 = .ok (.ifCond .le 5, 3) := by decide +kernel
theorem dX4_join_24 : decode cX4_join 24 = .ok (.iconst 0, 1) := by decide +kernel
theorem dX4_join_25 : decode cX4_join 25 = .ok (.ireturn, 1) := by decide +kernel
theorem dX4_join_26 : decode cX4_join 26 = .ok (.aload_n 0, 1) := by decide +kernel
theorem dX4_join_27 : decode cX4_join 27 = .ok (.getfield 38, 3) := by decide +kernel
theorem dX4_join_30 : decode cX4_join 30 = .ok (.iload_n 1, 1) := by decide +kernel
theorem dX4_join_31 : decode cX4_join 31 = .ok (.baload, 1) := by decide +kernel
theorem dX4_join_32 : decode cX4_join 32 = .ok (.istore_n 3, 1) := by decide +kernel
theorem dX4_join_33 : decode cX4_join 33 = .ok (.aload_n 0, 1) := by decide +kernel
theorem dX4_join_34 : decode cX4_join 34 = .ok (.getfield 38, 3) := by decide +kernel
theorem dX4_join_37 : decode cX4_join 37 = .ok (.iload_n 1, 1) := by decide +kernel
theorem dX4_join_38 : decode cX4_join 38 = .ok (.iload_n 2, 1) := by decide +kernel
theorem dX4_join_39 : decode cX4_join 39 = .ok (.bastore, 1) := by decide +kernel
theorem dX4_join_40 : decode cX4_join 40 = .ok (.iload_n 3, 1) := by decide +kernel
theorem dX4_join_41 : decode cX4_join 41 = .ok (.ireturn, 1) := by decide +kernel
theorem dX4_isEmpty_0 : decode cX4_isEmpty 0 = .ok (.iconst 1, 1) := by decide +kernel
theorem dX4_isEmpty_1 : decode cX4_isEmpty 1 = .ok (.istore_n 1, 1) := by decide +kernel
theorem dX4_isEmpty_2 : decode cX4_isEmpty 2 = .ok (.iconst 0, 1) := by decide +kernel
theorem dX4_isEmpty_3 : decode cX4_isEmpty 3 = .ok (.istore_n 2, 1) := by decide +kernel
theorem dX4_isEmpty_4 : decode cX4_isEmpty 4 = .ok (.iload_n 2, 1) := by decide +kernel
theorem dX4_isEmpty_5 : decode cX4_isEmpty 5 = .ok (.aload_n 0, 1) := by decide +kernel
theorem dX4_isEmpty_6 : decode cX4_isEmpty 6 = .ok (.getfield 68, 3) := by decide +kernel
theorem dX4_isEmpty_9 : decode cX4_isEmpty 9 = .ok (.if_icmp .ge 28, 3) := by decide +kernel
theorem dX4_isEmpty_12 : decode cX4_isEmpty 12 = .ok (.iload_n 1, 1) := by decide +kernel
theorem dX4_isEmpty_13 : decode cX4_isEmpty 13 = .ok (.ifCond .eq 16, 3) := by decide +kernel
theorem dX4_isEmpty_16 : decode cX4_isEmpty 16 = .ok (.aload_n 0, 1) := by decide +kernel
theorem dX4_isEmpty_17 : decode cX4_isEmpty 17 = .ok (.getfield 38, 3) := by decide +kernel
theorem dX4_isEmpty_20 : decode cX4_isEmpty 20 = .ok (.iload_n 2, 1) := by decide +kernel
theorem dX4_isEmpty_21 : decode cX4_isEmpty 21 = .ok (.baload, 1) := by decide +kernel
theorem dX4_isEmpty_22 : decode cX4_isEmpty 22 = .ok (.ifCond .ne 7, 3) := by decide +kernel
theorem dX4_isEmpty_25 : decode cX4_isEmpty 25 = .ok (.iconst 1, 1) := by decide +kernel
theorem dX4_isEmpty_26 : decode cX4_isEmpty 26 = .ok (.goto 4, 3) := by decide +kernel
theorem dX4_isEmpty_29 : decode cX4_isEmpty 29 = .ok (.iconst 0, 1) := by decide +kernel
theorem dX4_isEmpty_30 : decode cX4_isEmpty 30 = .ok (.istore_n 1, 1) := by decide +kernel
theorem dX4_isEmpty_31 : decode cX4_isEmpty 31 = .ok (.iinc 2 1, 3) := by decide +kernel
theorem dX4_isEmpty_34 : decode cX4_isEmpty 34 = .ok (.goto (-30), 3) := by decide +kernel
theorem dX4_isEmpty_37 : decode cX4_isEmpty 37 = .ok (.iload_n 1, 1) := by decide +kernel
theorem dX4_isEmpty_38 : decode cX4_isEmpty 38 = .ok (.ireturn, 1) := by decide +kernel
set_option maxRecDepth 20000 in
theorem ggX4_loads_X4_loadAt : GoodIn wsX4_loads wsX4_loadAt := goodIn_r _ [7, 8, 9, 10, 6, 11, 12, 13, 14, 15, 16, 17, 18, 19, 20, 21, 22, 23, 24, 25, 26, 27, 28, 29, 30, 31, 32, 33, 34, 35, 36, 37, 38, 39, 40, 41, 42, 43, 44, 45, 46, 47, 48, 49, 50, 51, 52, 53, 54, 55, 56, 57, 58, 59] (by decide +kernel) (by decide +kernel)
set_option maxRecDepth 20000 in
theorem gX4_loads_X4_loadAt : GoodIn wsX4_loads (wsV RX4 130 RX4 yX4_loadAt wsX4_loadAt) := goodIn_app (goodIn_of _ (by decide +kernel)) ggX4_loads_X4_loadAt
theorem dX4_loads_0 : decode cX4_loads 0 = .ok (.lconst 0, 1) := by decide +kernel
theorem dX4_loads_1 : decode cX4_loads 1 = .ok (.lstore_n 3, 1) := by decide +kernel
theorem dX4_loads_2 : decode cX4_loads 2 = .ok (.iconst 0, 1) := by decide +kernel
theorem dX4_loads_3 : decode cX4_loads 3 = .ok (.istore 5, 2) := by decide +kernel
theorem dX4_loads_5 : decode cX4_loads 5 = .ok (.iload 5, 2) := by decide +kernel
theorem dX4_loads_7 : decode cX4_loads 7 = .ok (.aload_n 0, 1) := by decide +kernel
theorem dX4_loads_8 : decode cX4_loads 8 = .ok (.getfield 68, 3) := by decide +kernel
theorem dX4_loads_11 : decode cX4_loads 11 = .ok (.if_icmp .ge 33, 3) := by decide +kernel
theorem dX4_loads_14 : decode cX4_loads 14 = .ok (.lload_n 3, 1) := by decide +kernel
theorem dX4_loads_15 : decode cX4_loads 15 = .ok (.aload_n 0, 1) := by decide +kernel
theorem dX4_loads_16 : decode cX4_loads 16 = .ok (.getfield 38, 3) := by decide +kernel
theorem dX4_loads_19 : decode cX4_loads 19 = .ok (.iload 5, 2) := by decide +kernel
theorem dX4_loads_21 : decode cX4_loads 21 = .ok (.baload, 1) := by decide +kernel
theorem dX4_loads_22 : decode cX4_loads 22 = .ok (.ifCond .eq 13, 3) := by decide +kernel
theorem dX4_loads_25 : decode cX4_loads 25 = .ok (.aload_n 0, 1) := by decide +kernel
theorem dX4_loads_26 : decode cX4_loads 26 = .ok (.iload 5, 2) := by decide +kernel
theorem dX4_loads_28 : decode cX4_loads 28 = .ok (.lload_n 1, 1) := by decide +kernel
theorem dX4_loads_29 : decode cX4_loads 29 = .ok (.invokevirtual 130, 3) := by decide +kernel
theorem dX4_loads_32 : decode cX4_loads 32 = .ok (.goto 4, 3) := by decide +kernel
theorem dX4_loads_35 : decode cX4_loads 35 = .ok (.lconst 0, 1) := by decide +kernel
theorem dX4_loads_36 : decode cX4_loads 36 = .ok (.ladd, 1) := by decide +kernel
theorem dX4_loads_37 : decode cX4_loads 37 = .ok (.lstore_n 3, 1) := by decide +kernel
theorem dX4_loads_38 : decode cX4_loads 38 = .ok (.iinc 5 1, 3) := by decide +kernel
theorem dX4_loads_41 : decode cX4_loads 41 = .ok (.goto (-36), 3) := by decide +kernel
theorem dX4_loads_44 : decode cX4_loads 44 = .ok (.lload_n 3, 1) := by decide +kernel
theorem dX4_loads_45 : decode cX4_loads 45 = .ok (.lreturn, 1) := by decide +kernel
set_option maxRecDepth 20000 in
theorem ggX4_settles_X4_hasState : GoodIn wsX4_settles wsX4_hasState := goodIn_r _ [9, 10, 11, 12, 13, 8, 14, 15, 16, 17, 18, 19, 20, 21, 22, 23, 24, 25, 26, 27, 28, 29, 30, 31, 32, 33, 34, 35, 36, 37, 38, 39, 40, 41, 42, 51, 52, 53, 54, 55, 56, 57, 58, 59, 60, 61, 62, 63, 64, 65, 66, 67, 68, 69] (by decide +kernel) (by decide +kernel)
set_option maxRecDepth 20000 in
theorem gX4_settles_X4_hasState : GoodIn wsX4_settles (wsV RX4 127 RX4 yX4_hasState wsX4_hasState) := goodIn_app (goodIn_of _ (by decide +kernel)) ggX4_settles_X4_hasState
set_option maxRecDepth 20000 in
theorem ggX4_settles_X4_loads : GoodIn wsX4_settles wsX4_loads := goodIn_r _ [46, 1, 2, 47, 48, 49, 8, 50, 11, 12, 13, 14, 10, 15, 16, 17, 18, 19, 20, 21, 22, 23, 24, 25, 26, 27, 28, 29, 30, 31, 32, 33, 34, 35, 36, 37, 38, 39, 40, 41, 42, 51, 52, 53, 54, 55, 56, 57, 58, 59, 60, 61, 62, 63, 64, 65, 66, 67, 68, 69] (by decide +kernel) (by decide +kernel)
set_option maxRecDepth 20000 in
theorem gX4_settles_X4_loads : GoodIn wsX4_settles (wsV RX4 137 RX4 yX4_loads wsX4_loads) := goodIn_app (goodIn_of _ (by decide +kernel)) ggX4_settles_X4_loads
theorem dX4_settles_0 : decode cX4_settles 0 = .ok (.iconst 0, 1) := by decide +kernel
theorem dX4_settles_1 : decode cX4_settles 1 = .ok (.istore_n 3, 1) := by decide +kernel
theorem dX4_settles_2 : decode cX4_settles 2 = .ok (.iload_n 3, 1) := by decide +kernel
theorem dX4_settles_3 : decode cX4_settles 3 = .ok (.aload_n 0, 1) := by decide +kernel
theorem dX4_settles_4 : decode cX4_settles 4 = .ok (.getfield 68, 3) := by decide +kernel
theorem dX4_settles_7 : decode cX4_settles 7 = .ok (.if_icmp .ge 30, 3) := by decide +kernel
theorem dX4_settles_10 : decode cX4_settles 10 = .ok (.aload_n 0, 1) := by decide +kernel
theorem dX4_settles_11 : decode cX4_settles 11 = .ok (.getfield 38, 3) := by decide +kernel
theorem dX4_settles_14 : decode cX4_settles 14 = .ok (.iload_n 3, 1) := by decide +kernel
theorem dX4_settles_15 : decode cX4_settles 15 = .ok (.baload, 1) := by decide +kernel
theorem dX4_settles_16 : decode cX4_settles 16 = .ok (.ifCond .eq 15, 3) := by decide +kernel
theorem dX4_settles_19 : decode cX4_settles 19 = .ok (.aload_n 0, 1) := by decide +kernel
theorem dX4_settles_20 : decode cX4_settles 20 = .ok (.iload_n 3, 1) := by decide +kernel
theorem dX4_settles_21 : decode cX4_settles 21 = .ok (.lconst 0, 1) := by decide +kernel
theorem dX4_settles_22 : decode cX4_settles 22 = .ok (.invokevirtual 127, 3) := by decide +kernel
theorem dX4_settles_25 : decode cX4_settles 25 = .ok (.ifCond .ne 6, 3) := by decide +kernel
theorem dX4_settles_28 : decode cX4_settles 28 = .ok (.ldc 54, 2) := by decide +kernel
theorem dX4_settles_30 : decode cX4_settles 30 = .ok (.ireturn, 1) := by decide +kernel
theorem dX4_settles_31 : decode cX4_settles 31 = .ok (.iinc 3 1, 3) := by decide +kernel
theorem dX4_settles_34 : decode cX4_settles 34 = .ok (.goto (-32), 3) := by decide +kernel
theorem dX4_settles_37 : decode cX4_settles 37 = .ok (.aload_n 0, 1) := by decide +kernel
theorem dX4_settles_38 : decode cX4_settles 38 = .ok (.lconst 0, 1) := by decide +kernel
theorem dX4_settles_39 : decode cX4_settles 39 = .ok (.invokevirtual 137, 3) := by decide +kernel
theorem dX4_settles_42 : decode cX4_settles 42 = .ok (.lload_n 1, 1) := by decide +kernel
theorem dX4_settles_43 : decode cX4_settles 43 = .ok (.lcmp, 1) := by decide +kernel
theorem dX4_settles_44 : decode cX4_settles 44 = .ok (.ifCond .gt 15, 3) := by decide +kernel
theorem dX4_settles_47 : decode cX4_settles 47 = .ok (.aload_n 0, 1) := by decide +kernel
theorem dX4_settles_48 : decode cX4_settles 48 = .ok (.ldc2_w 81, 3) := by decide +kernel
theorem dX4_settles_51 : decode cX4_settles 51 = .ok (.invokevirtual 137, 3) := by decide +kernel
theorem dX4_settles_54 : decode cX4_settles 54 = .ok (.lload_n 1, 1) := by decide +kernel
theorem dX4_settles_55 : decode cX4_settles 55 = .ok (.lcmp, 1) := by decide +kernel
theorem dX4_settles_56 : decode cX4_settles 56 = .ok (.ifCond .gt 6, 3) := by decide +kernel
theorem dX4_settles_59 : decode cX4_settles 59 = .ok (.ldc 54, 2) := by decide +kernel
theorem dX4_settles_61 : decode cX4_settles 61 = .ok (.ireturn, 1) := by decide +kernel
theorem dX4_settles_62 : decode cX4_settles 62 = .ok (.iconst 0, 1) := by decide +kernel
theorem dX4_settles_63 : decode cX4_settles 63 = .ok (.istore_n 3, 1) := by decide +kernel
theorem dX4_settles_64 : decode cX4_settles 64 = .ok (.sipush 8192, 3) := by decide +kernel
theorem dX4_settles_67 : decode cX4_settles 67 = .ok (.istore 4, 2) := by decide +kernel
theorem dX4_settles_69 : decode cX4_settles 69 = .ok (.iload 4, 2) := by decide +kernel
theorem dX4_settles_71 : decode cX4_settles 71 = .ok (.ifCond .le 57, 3) := by decide +kernel
theorem dX4_settles_74 : decode cX4_settles 74 = .ok (.iload_n 3, 1) := by decide +kernel
theorem dX4_settles_75 : decode cX4_settles 75 = .ok (.iload 4, 2) := by decide +kernel
theorem dX4_settles_77 : decode cX4_settles 77 = .ok (.iadd, 1) := by decide +kernel
theorem dX4_settles_78 : decode cX4_settles 78 = .ok (.sipush 10000, 3) := by decide +kernel
theorem dX4_settles_81 : decode cX4_settles 81 = .ok (.if_icmp .gt 21, 3) := by decide +kernel
theorem dX4_settles_84 : decode cX4_settles 84 = .ok (.aload_n 0, 1) := by decide +kernel
theorem dX4_settles_85 : decode cX4_settles 85 = .ok (.iload_n 3, 1) := by decide +kernel
theorem dX4_settles_86 : decode cX4_settles 86 = .ok (.iload 4, 2) := by decide +kernel
theorem dX4_settles_88 : decode cX4_settles 88 = .ok (.iadd, 1) := by decide +kernel
theorem dX4_settles_89 : decode cX4_settles 89 = .ok (.i2l, 1) := by decide +kernel
theorem dX4_settles_90 : decode cX4_settles 90 = .ok (.invokevirtual 137, 3) := by decide +kernel
theorem dX4_settles_93 : decode cX4_settles 93 = .ok (.lload_n 1, 1) := by decide +kernel
theorem dX4_settles_94 : decode cX4_settles 94 = .ok (.lcmp, 1) := by decide +kernel
theorem dX4_settles_95 : decode cX4_settles 95 = .ok (.ifCond .gt 7, 3) := by decide +kernel
theorem dX4_settles_98 : decode cX4_settles 98 = .ok (.iconst 1, 1) := by decide +kernel
theorem dX4_settles_99 : decode cX4_settles 99 = .ok (.goto 4, 3) := by decide +kernel
theorem dX4_settles_102 : decode cX4_settles 102 = .ok (.iconst 0, 1) := by decide +kernel
theorem dX4_settles_103 : decode cX4_settles 103 = .ok (.istore 5, 2) := by decide +kernel
theorem dX4_settles_105 : decode cX4_settles 105 = .ok (.iload_n 3, 1) := by decide +kernel
theorem dX4_settles_106 : decode cX4_settles 106 = .ok (.iload 5, 2) := by decide +kernel
theorem dX4_settles_108 : decode cX4_settles 108 = .ok (.ifCond .eq 8, 3) := by decide +kernel
theorem dX4_settles_111 : decode cX4_settles 111 = .ok (.iload 4, 2) := by decide +kernel
theorem dX4_settles_113 : decode cX4_settles 113 = .ok (.goto 4, 3) := by decide +kernel
theorem dX4_settles_116 : decode cX4_settles 116 = .ok (.iconst 0, 1) := by decide +kernel
theorem dX4_settles_117 : decode cX4_settles 117 = .ok (.iadd, 1) := by decide +kernel
theorem dX4_settles_118 : decode cX4_settles 118 = .ok (.istore_n 3, 1) := by decide +kernel
theorem dX4_settles_119 : decode cX4_settles 119 = .ok (.iload 4, 2) := by decide +kernel
theorem dX4_settles_121 : decode cX4_settles 121 = .ok (.iconst 2, 1) := by decide +kernel
theorem dX4_settles_122 : decode cX4_settles 122 = .ok (.idiv, 1) := by decide +kernel
theorem dX4_settles_123 : decode cX4_settles 123 = .ok (.istore 4, 2) := by decide +kernel
theorem dX4_settles_125 : decode cX4_settles 125 = .ok (.goto (-56), 3) := by decide +kernel
theorem dX4_settles_128 : decode cX4_settles 128 = .ok (.iload_n 3, 1) := by decide +kernel
theorem dX4_settles_129 : decode cX4_settles 129 = .ok (.ireturn, 1) := by decide +kernel
set_option maxRecDepth 20000 in
theorem ggX4_group_X4_in : GoodIn wsX4_group wsX4_in := goodIn_r _ [6] (by decide +kernel) (by decide +kernel)
set_option maxRecDepth 20000 in
theorem gX4_group_X4_in : GoodIn wsX4_group (va_wsS RX4 71 yX4_in wsX4_in) := goodIn_app (goodIn_of _ (by decide +kernel)) ggX4_group_X4_in
set_option maxRecDepth 20000 in
theorem ggX4_group_X4_isEmpty : GoodIn wsX4_group wsX4_isEmpty := goodIn_r _ [10, 11, 12, 64, 65, 66, 67, 68, 69, 70, 71, 72, 73, 74, 75, 76, 77, 78, 79, 80, 81, 82] (by decide +kernel) (by decide +kernel)
set_option maxRecDepth 20000 in
theorem gX4_group_X4_isEmpty : GoodIn wsX4_group (wsV RX4 141 RX4 yX4_isEmpty wsX4_isEmpty) := goodIn_app (goodIn_of _ (by decide +kernel)) ggX4_group_X4_isEmpty
set_option maxRecDepth 20000 in
theorem ggX4_group_X4_settles : GoodIn wsX4_group wsX4_settles := goodIn_r _ [16, 11, 12, 17, 18, 19, 20, 21, 5, 22, 23, 24, 25, 26, 27, 28, 29, 30, 31, 32, 33, 34, 35, 36, 37, 38, 39, 40, 41, 42, 43, 44, 45, 46, 47, 48, 49, 50, 51, 52, 53, 54, 55, 56, 57, 58, 59, 60, 61, 62, 63, 64, 65, 66, 67, 68, 69, 70, 71, 72, 73, 74, 75, 76, 77, 78, 79, 80, 81, 82] (by decide +kernel) (by decide +kernel)
set_option maxRecDepth 20000 in
theorem gX4_group_X4_settles : GoodIn wsX4_group (wsV RX4 145 RX4 yX4_settles wsX4_settles) := goodIn_app (goodIn_of _ (by decide +kernel)) ggX4_group_X4_settles
theorem dX4_group_0 : decode cX4_group 0 = .ok (.aload_n 0, 1) := by decide +kernel
theorem dX4_group_1 : decode cX4_group 1 = .ok (.iload_n 1, 1) := by decide +kernel
theorem dX4_group_2 : decode cX4_group 2 = .ok (.i2l, 1) := by decide +kernel
theorem dX4_group_3 : decode cX4_group 3 = .ok (.lconst 0, 1) := by decide +kernel
theorem dX4_group_4 : decode cX4_group 4 = .ok (.ldc2_w 121, 3) := by decide +kernel
theorem dX4_group_7 : decode cX4_group 7 = .ok (.invokestatic 71, 3) := by decide +kernel
theorem dX4_group_10 : decode cX4_group 10 = .ok (.ifCond .ne 7, 3) := by decide +kernel
theorem dX4_group_13 : decode cX4_group 13 = .ok (.iconst 1, 1) := by decide +kernel
theorem dX4_group_14 : decode cX4_group 14 = .ok (.goto 15, 3) := by decide +kernel
theorem dX4_group_17 : decode cX4_group 17 = .ok (.aload_n 0, 1) := by decide +kernel
theorem dX4_group_18 : decode cX4_group 18 = .ok (.invokevirtual 141, 3) := by decide +kernel
theorem dX4_group_21 : decode cX4_group 21 = .ok (.ifCond .eq 7, 3) := by decide +kernel
theorem dX4_group_24 : decode cX4_group 24 = .ok (.iconst 2, 1) := by decide +kernel
theorem dX4_group_25 : decode cX4_group 25 = .ok (.goto 4, 3) := by decide +kernel
theorem dX4_group_28 : decode cX4_group 28 = .ok (.iconst 0, 1) := by decide +kernel
theorem dX4_group_29 : decode cX4_group 29 = .ok (.putfield 65, 3) := by decide +kernel
theorem dX4_group_32 : decode cX4_group 32 = .ok (.aload_n 0, 1) := by decide +kernel
theorem dX4_group_33 : decode cX4_group 33 = .ok (.getfield 65, 3) := by decide +kernel
theorem dX4_group_36 : decode cX4_group 36 = .ok (.ifCond .le 7, 3) := by decide +kernel
theorem dX4_group_39 : decode cX4_group 39 = .ok (.iconst 0, 1) := by decide +kernel
theorem dX4_group_40 : decode cX4_group 40 = .ok (.goto 9, 3) := by decide +kernel
theorem dX4_group_43 : decode cX4_group 43 = .ok (.aload_n 0, 1) := by decide +kernel
theorem dX4_group_44 : decode cX4_group 44 = .ok (.iload_n 1, 1) := by decide +kernel
theorem dX4_group_45 : decode cX4_group 45 = .ok (.i2l, 1) := by decide +kernel
theorem dX4_group_46 : decode cX4_group 46 = .ok (.invokevirtual 145, 3) := by decide +kernel
theorem dX4_group_49 : decode cX4_group 49 = .ok (.ireturn, 1) := by decide +kernel
set_option maxRecDepth 20000 in
theorem ggX4_share_X4_in : GoodIn wsX4_share wsX4_in := goodIn_r _ [8] (by decide +kernel) (by decide +kernel)
set_option maxRecDepth 20000 in
theorem gX4_share_X4_in : GoodIn wsX4_share (va_wsS RX4 71 yX4_in wsX4_in) := goodIn_app (goodIn_of _ (by decide +kernel)) ggX4_share_X4_in
set_option maxRecDepth 20000 in
theorem ggX4_share_X4_isPile : GoodIn wsX4_share wsX4_isPile := goodIn_r _ [12, 13, 5, 6, 7, 8, 68, 69, 70, 71, 72, 73, 74, 75, 76, 77, 78, 79, 80, 81, 82, 83, 84, 85, 86] (by decide +kernel) (by decide +kernel)
set_option maxRecDepth 20000 in
theorem gX4_share_X4_isPile : GoodIn wsX4_share (wsV RX4 75 RX4 yX4_isPile wsX4_isPile) := goodIn_app (goodIn_of _ (by decide +kernel)) ggX4_share_X4_isPile
set_option maxRecDepth 20000 in
theorem ggX4_share_X4_isEmpty : GoodIn wsX4_share wsX4_isEmpty := goodIn_r _ [17, 13, 2, 68, 69, 70, 71, 72, 73, 74, 75, 76, 77, 78, 79, 80, 81, 82, 83, 84, 85, 86] (by decide +kernel) (by decide +kernel)
set_option maxRecDepth 20000 in
theorem gX4_share_X4_isEmpty : GoodIn wsX4_share (wsV RX4 141 RX4 yX4_isEmpty wsX4_isEmpty) := goodIn_app (goodIn_of _ (by decide +kernel)) ggX4_share_X4_isEmpty
set_option maxRecDepth 20000 in
theorem ggX4_share_X4_settles : GoodIn wsX4_share wsX4_settles := goodIn_r _ [21, 13, 2, 4, 22, 23, 24, 25, 7, 26, 27, 28, 29, 30, 31, 32, 33, 34, 35, 36, 37, 38, 39, 40, 41, 42, 43, 44, 45, 46, 47, 48, 49, 50, 51, 52, 53, 54, 55, 56, 57, 58, 59, 60, 61, 62, 63, 64, 65, 66, 67, 68, 69, 70, 71, 72, 73, 74, 75, 76, 77, 78, 79, 80, 81, 82, 83, 84, 85, 86] (by decide +kernel) (by decide +kernel)
set_option maxRecDepth 20000 in
theorem gX4_share_X4_settles : GoodIn wsX4_share (wsV RX4 145 RX4 yX4_settles wsX4_settles) := goodIn_app (goodIn_of _ (by decide +kernel)) ggX4_share_X4_settles
set_option maxRecDepth 20000 in
theorem ggX4_share_X4_loadAt : GoodIn wsX4_share wsX4_loadAt := goodIn_r _ [67, 28, 29, 30, 7, 31, 27, 32, 33, 34, 35, 36, 37, 38, 39, 40, 41, 42, 43, 44, 45, 46, 47, 48, 49, 50, 51, 52, 53, 54, 55, 56, 57, 58, 59, 68, 69, 70, 71, 72, 73, 74, 75, 76, 77, 78, 79, 80, 81, 82, 83, 84, 85, 86] (by decide +kernel) (by decide +kernel)
set_option maxRecDepth 20000 in
theorem gX4_share_X4_loadAt : GoodIn wsX4_share (wsV RX4 130 RX4 yX4_loadAt wsX4_loadAt) := goodIn_app (goodIn_of _ (by decide +kernel)) ggX4_share_X4_loadAt
theorem dX4_share_0 : decode cX4_share 0 = .ok (.aload_n 0, 1) := by decide +kernel
theorem dX4_share_1 : decode cX4_share 1 = .ok (.iload_n 1, 1) := by decide +kernel
theorem dX4_share_2 : decode cX4_share 2 = .ok (.i2l, 1) := by decide +kernel
theorem dX4_share_3 : decode cX4_share 3 = .ok (.lconst 0, 1) := by decide +kernel
theorem dX4_share_4 : decode cX4_share 4 = .ok (.ldc2_w 121, 3) := by decide +kernel
theorem dX4_share_7 : decode cX4_share 7 = .ok (.invokestatic 71, 3) := by decide +kernel
theorem dX4_share_10 : decode cX4_share 10 = .ok (.ifCond .eq 11, 3) := by decide +kernel
theorem dX4_share_13 : decode cX4_share 13 = .ok (.aload_n 0, 1) := by decide +kernel
theorem dX4_share_14 : decode cX4_share 14 = .ok (.iload_n 2, 1) := by decide +kernel
theorem dX4_share_15 : decode cX4_share 15 = .ok (.invokevirtual 75, 3) := by decide +kernel
theorem dX4_share_18 : decode cX4_share 18 = .ok (.ifCond .ne 7, 3) := by decide +kernel
theorem dX4_share_21 : decode cX4_share 21 = .ok (.iconst 1, 1) := by decide +kernel
theorem dX4_share_22 : decode cX4_share 22 = .ok (.goto 28, 3) := by decide +kernel
theorem dX4_share_25 : decode cX4_share 25 = .ok (.aload_n 0, 1) := by decide +kernel
theorem dX4_share_26 : decode cX4_share 26 = .ok (.invokevirtual 141, 3) := by decide +kernel
theorem dX4_share_29 : decode cX4_share 29 = .ok (.ifCond .eq 7, 3) := by decide +kernel
theorem dX4_share_32 : decode cX4_share 32 = .ok (.iconst 2, 1) := by decide +kernel
theorem dX4_share_33 : decode cX4_share 33 = .ok (.goto 17, 3) := by decide +kernel
theorem dX4_share_36 : decode cX4_share 36 = .ok (.aload_n 0, 1) := by decide +kernel
theorem dX4_share_37 : decode cX4_share 37 = .ok (.getfield 38, 3) := by decide +kernel
theorem dX4_share_40 : decode cX4_share 40 = .ok (.iload_n 2, 1) := by decide +kernel
theorem dX4_share_41 : decode cX4_share 41 = .ok (.baload, 1) := by decide +kernel
theorem dX4_share_42 : decode cX4_share 42 = .ok (.ifCond .ne 7, 3) := by decide +kernel
theorem dX4_share_45 : decode cX4_share 45 = .ok (.iconst 1, 1) := by decide +kernel
theorem dX4_share_46 : decode cX4_share 46 = .ok (.goto 4, 3) := by decide +kernel
theorem dX4_share_49 : decode cX4_share 49 = .ok (.iconst 0, 1) := by decide +kernel
theorem dX4_share_50 : decode cX4_share 50 = .ok (.putfield 65, 3) := by decide +kernel
theorem dX4_share_53 : decode cX4_share 53 = .ok (.aload_n 0, 1) := by decide +kernel
theorem dX4_share_54 : decode cX4_share 54 = .ok (.getfield 65, 3) := by decide +kernel
theorem dX4_share_57 : decode cX4_share 57 = .ok (.ifCond .le 5, 3) := by decide +kernel
theorem dX4_share_60 : decode cX4_share 60 = .ok (.iconst 0, 1) := by decide +kernel
theorem dX4_share_61 : decode cX4_share 61 = .ok (.ireturn, 1) := by decide +kernel
theorem dX4_share_62 : decode cX4_share 62 = .ok (.aload_n 0, 1) := by decide +kernel
theorem dX4_share_63 : decode cX4_share 63 = .ok (.iload_n 1, 1) := by decide +kernel
theorem dX4_share_64 : decode cX4_share 64 = .ok (.i2l, 1) := by decide +kernel
theorem dX4_share_65 : decode cX4_share 65 = .ok (.invokevirtual 145, 3) := by decide +kernel
theorem dX4_share_68 : decode cX4_share 68 = .ok (.istore_n 3, 1) := by decide +kernel
theorem dX4_share_69 : decode cX4_share 69 = .ok (.iload_n 3, 1) := by decide +kernel
theorem dX4_share_70 : decode cX4_share 70 = .ok (.ldc 54, 2) := by decide +kernel
theorem dX4_share_72 : decode cX4_share 72 = .ok (.if_icmp .ne 8, 3) := by decide +kernel
theorem dX4_share_75 : decode cX4_share 75 = .ok (.ldc 54, 2) := by decide +kernel
theorem dX4_share_77 : decode cX4_share 77 = .ok (.goto 11, 3) := by decide +kernel
theorem dX4_share_80 : decode cX4_share 80 = .ok (.aload_n 0, 1) := by decide +kernel
theorem dX4_share_81 : decode cX4_share 81 = .ok (.iload_n 2, 1) := by decide +kernel
theorem dX4_share_82 : decode cX4_share 82 = .ok (.iload_n 3, 1) := by decide +kernel
theorem dX4_share_83 : decode cX4_share 83 = .ok (.i2l, 1) := by decide +kernel
theorem dX4_share_84 : decode cX4_share 84 = .ok (.invokevirtual 130, 3) := by decide +kernel
theorem dX4_share_87 : decode cX4_share 87 = .ok (.l2i, 1) := by decide +kernel
theorem dX4_share_88 : decode cX4_share 88 = .ok (.ireturn, 1) := by decide +kernel
set_option maxRecDepth 20000 in
theorem ggX4_round_X4_cut : GoodIn wsX4_round wsX4_cut := goodIn_r _ [19] (by decide +kernel) (by decide +kernel)
set_option maxRecDepth 20000 in
theorem gX4_round_X4_cut : GoodIn wsX4_round (va_wsS RX4 93 yX4_cut wsX4_cut) := goodIn_app (goodIn_of _ (by decide +kernel)) ggX4_round_X4_cut
theorem dX4_round_0 : decode cX4_round 0 = .ok (.aload_n 0, 1) := by decide +kernel
theorem dX4_round_1 : decode cX4_round 1 = .ok (.getfield 7, 3) := by decide +kernel
theorem dX4_round_4 : decode cX4_round 4 = .ok (.iload_n 1, 1) := by decide +kernel
theorem dX4_round_5 : decode cX4_round 5 = .ok (.iaload, 1) := by decide +kernel
theorem dX4_round_6 : decode cX4_round 6 = .ok (.istore 5, 2) := by decide +kernel
theorem dX4_round_8 : decode cX4_round 8 = .ok (.ldc2_w 135, 3) := by decide +kernel
theorem dX4_round_11 : decode cX4_round 11 = .ok (.aload_n 0, 1) := by decide +kernel
theorem dX4_round_12 : decode cX4_round 12 = .ok (.getfield 59, 3) := by decide +kernel
theorem dX4_round_15 : decode cX4_round 15 = .ok (.iload 5, 2) := by decide +kernel
theorem dX4_round_17 : decode cX4_round 17 = .ok (.laload, 1) := by decide +kernel
theorem dX4_round_18 : decode cX4_round 18 = .ok (.aload_n 0, 1) := by decide +kernel
theorem dX4_round_19 : decode cX4_round 19 = .ok (.getfield 59, 3) := by decide +kernel
theorem dX4_round_22 : decode cX4_round 22 = .ok (.iconst 0, 1) := by decide +kernel
theorem dX4_round_23 : decode cX4_round 23 = .ok (.laload, 1) := by decide +kernel
theorem dX4_round_24 : decode cX4_round 24 = .ok (.lsub, 1) := by decide +kernel
theorem dX4_round_25 : decode cX4_round 25 = .ok (.lmul, 1) := by decide +kernel
theorem dX4_round_26 : decode cX4_round 26 = .ok (.lstore 6, 2) := by decide +kernel
theorem dX4_round_28 : decode cX4_round 28 = .ok (.lload 6, 2) := by decide +kernel
theorem dX4_round_30 : decode cX4_round 30 = .ok (.lconst 0, 1) := by decide +kernel
theorem dX4_round_31 : decode cX4_round 31 = .ok (.lcmp, 1) := by decide +kernel
theorem dX4_round_32 : decode cX4_round 32 = .ok (.ifCond .ge 7, 3) := by decide +kernel
theorem dX4_round_35 : decode cX4_round 35 = .ok (.lconst 0, 1) := by decide +kernel
theorem dX4_round_36 : decode cX4_round 36 = .ok (.goto 5, 3) := by decide +kernel
theorem dX4_round_39 : decode cX4_round 39 = .ok (.lload 6, 2) := by decide +kernel
theorem dX4_round_41 : decode cX4_round 41 = .ok (.lstore 6, 2) := by decide +kernel
theorem dX4_round_43 : decode cX4_round 43 = .ok (.aload_n 0, 1) := by decide +kernel
theorem dX4_round_44 : decode cX4_round 44 = .ok (.getfield 62, 3) := by decide +kernel
theorem dX4_round_47 : decode cX4_round 47 = .ok (.iload 5, 2) := by decide +kernel
theorem dX4_round_49 : decode cX4_round 49 = .ok (.aload_n 0, 1) := by decide +kernel
theorem dX4_round_50 : decode cX4_round 50 = .ok (.getfield 62, 3) := by decide +kernel
theorem dX4_round_53 : decode cX4_round 53 = .ok (.iload 5, 2) := by decide +kernel
theorem dX4_round_55 : decode cX4_round 55 = .ok (.laload, 1) := by decide +kernel
theorem dX4_round_56 : decode cX4_round 56 = .ok (.ldc2_w 149, 3) := by decide +kernel
theorem dX4_round_59 : decode cX4_round 59 = .ok (.lload 6, 2) := by decide +kernel
theorem dX4_round_61 : decode cX4_round 61 = .ok (.lmul, 1) := by decide +kernel
theorem dX4_round_62 : decode cX4_round 62 = .ok (.lload_n 3, 1) := by decide +kernel
theorem dX4_round_63 : decode cX4_round 63 = .ok (.ldiv, 1) := by decide +kernel
theorem dX4_round_64 : decode cX4_round 64 = .ok (.ladd, 1) := by decide +kernel
theorem dX4_round_65 : decode cX4_round 65 = .ok (.ldc2_w 151, 3) := by decide +kernel
theorem dX4_round_68 : decode cX4_round 68 = .ok (.ldc2_w 153, 3) := by decide +kernel
theorem dX4_round_71 : decode cX4_round 71 = .ok (.invokestatic 93, 3) := by decide +kernel
theorem dX4_round_74 : decode cX4_round 74 = .ok (.lastore, 1) := by decide +kernel
theorem dX4_round_75 : decode cX4_round 75 = .ok (.lload 6, 2) := by decide +kernel
theorem dX4_round_77 : decode cX4_round 77 = .ok (.lstore 8, 2) := by decide +kernel
theorem dX4_round_79 : decode cX4_round 79 = .ok (.iconst 0, 1) := by decide +kernel
theorem dX4_round_80 : decode cX4_round 80 = .ok (.istore 10, 2) := by decide +kernel
theorem dX4_round_82 : decode cX4_round 82 = .ok (.iload 10, 2) := by decide +kernel
theorem dX4_round_84 : decode cX4_round 84 = .ok (.iload 5, 2) := by decide +kernel
theorem dX4_round_86 : decode cX4_round 86 = .ok (.if_icmp .ge 174, 3) := by decide +kernel
theorem dX4_round_89 : decode cX4_round 89 = .ok (.bipush 12, 2) := by decide +kernel
theorem dX4_round_91 : decode cX4_round 91 = .ok (.iload_n 1, 1) := by decide +kernel
theorem dX4_round_92 : decode cX4_round 92 = .ok (.imul, 1) := by decide +kernel
theorem dX4_round_93 : decode cX4_round 93 = .ok (.iload 10, 2) := by decide +kernel
theorem dX4_round_95 : decode cX4_round 95 = .ok (.iadd, 1) := by decide +kernel
theorem dX4_round_96 : decode cX4_round 96 = .ok (.istore 11, 2) := by decide +kernel
theorem dX4_round_98 : decode cX4_round 98 = .ok (.aload_n 0, 1) := by decide +kernel
theorem dX4_round_99 : decode cX4_round 99 = .ok (.getfield 23, 3) := by decide +kernel
theorem dX4_round_102 : decode cX4_round 102 = .ok (.iload 11, 2) := by decide +kernel
theorem dX4_round_104 : decode cX4_round 104 = .ok (.laload, 1) := by decide +kernel
theorem dX4_round_105 : decode cX4_round 105 = .ok (.aload_n 0, 1) := by decide +kernel
theorem dX4_round_106 : decode cX4_round 106 = .ok (.getfield 59, 3) := by decide +kernel
theorem dX4_round_109 : decode cX4_round 109 = .ok (.iload 10, 2) := by decide +kernel
theorem dX4_round_111 : decode cX4_round 111 = .ok (.laload, 1) := by decide +kernel
theorem dX4_round_112 : decode cX4_round 112 = .ok (.lmul, 1) := by decide +kernel
theorem dX4_round_113 : decode cX4_round 113 = .ok (.ldc2_w 83, 3) := by decide +kernel
theorem dX4_round_116 : decode cX4_round 116 = .ok (.ldiv, 1) := by decide +kernel
theorem dX4_round_117 : decode cX4_round 117 = .ok (.aload_n 0, 1) := by decide +kernel
theorem dX4_round_118 : decode cX4_round 118 = .ok (.getfield 26, 3) := by decide +kernel
theorem dX4_round_121 : decode cX4_round 121 = .ok (.iload 11, 2) := by decide +kernel
theorem dX4_round_123 : decode cX4_round 123 = .ok (.laload, 1) := by decide +kernel
theorem dX4_round_124 : decode cX4_round 124 = .ok (.lneg, 1) := by decide +kernel
theorem dX4_round_125 : decode cX4_round 125 = .ok (.aload_n 0, 1) := by decide +kernel
theorem dX4_round_126 : decode cX4_round 126 = .ok (.getfield 26, 3) := by decide +kernel
theorem dX4_round_129 : decode cX4_round 129 = .ok (.iload 11, 2) := by decide +kernel
theorem dX4_round_131 : decode cX4_round 131 = .ok (.laload, 1) := by decide +kernel
theorem dX4_round_132 : decode cX4_round 132 = .ok (.invokestatic 93, 3) := by decide +kernel
theorem dX4_round_135 : decode cX4_round 135 = .ok (.lstore 12, 2) := by decide +kernel
theorem dX4_round_137 : decode cX4_round 137 = .ok (.iload 10, 2) := by decide +kernel
theorem dX4_round_139 : decode cX4_round 139 = .ok (.iconst 1, 1) := by decide +kernel
theorem dX4_round_140 : decode cX4_round 140 = .ok (.iadd, 1) := by decide +kernel
theorem dX4_round_141 : decode cX4_round 141 = .ok (.iload 5, 2) := by decide +kernel
theorem dX4_round_143 : decode cX4_round 143 = .ok (.if_icmp .ge 34, 3) := by decide +kernel
theorem dX4_round_146 : decode cX4_round 146 = .ok (.aload_n 0, 1) := by decide +kernel
theorem dX4_round_147 : decode cX4_round 147 = .ok (.getfield 13, 3) := by decide +kernel
theorem dX4_round_150 : decode cX4_round 150 = .ok (.iload_n 1, 1) := by decide +kernel
theorem dX4_round_151 : decode cX4_round 151 = .ok (.laload, 1) := by decide +kernel
theorem dX4_round_152 : decode cX4_round 152 = .ok (.aload_n 0, 1) := by decide +kernel
theorem dX4_round_153 : decode cX4_round 153 = .ok (.getfield 59, 3) := by decide +kernel
theorem dX4_round_156 : decode cX4_round 156 = .ok (.iload 10, 2) := by decide +kernel
theorem dX4_round_158 : decode cX4_round 158 = .ok (.laload, 1) := by decide +kernel
theorem dX4_round_159 : decode cX4_round 159 = .ok (.aload_n 0, 1) := by decide +kernel
theorem dX4_round_160 : decode cX4_round 160 = .ok (.getfield 59, 3) := by decide +kernel
theorem dX4_round_163 : decode cX4_round 163 = .ok (.iload 10, 2) := by decide +kernel
theorem dX4_round_165 : decode cX4_round 165 = .ok (.iconst 1, 1) := by decide +kernel
theorem dX4_round_166 : decode cX4_round 166 = .ok (.iadd, 1) := by decide +kernel
theorem dX4_round_167 : decode cX4_round 167 = .ok (.laload, 1) := by decide +kernel
theorem dX4_round_168 : decode cX4_round 168 = .ok (.lsub, 1) := by decide +kernel
theorem dX4_round_169 : decode cX4_round 169 = .ok (.lmul, 1) := by decide +kernel
theorem dX4_round_170 : decode cX4_round 170 = .ok (.ldc2_w 83, 3) := by decide +kernel
theorem dX4_round_173 : decode cX4_round 173 = .ok (.ldiv, 1) := by decide +kernel
theorem dX4_round_174 : decode cX4_round 174 = .ok (.goto 31, 3) := by decide +kernel
theorem dX4_round_177 : decode cX4_round 177 = .ok (.aload_n 0, 1) := by decide +kernel
theorem dX4_round_178 : decode cX4_round 178 = .ok (.getfield 32, 3) := by decide +kernel
theorem dX4_round_181 : decode cX4_round 181 = .ok (.iload_n 1, 1) := by decide +kernel
theorem dX4_round_182 : decode cX4_round 182 = .ok (.laload, 1) := by decide +kernel
theorem dX4_round_183 : decode cX4_round 183 = .ok (.aload_n 0, 1) := by decide +kernel
theorem dX4_round_184 : decode cX4_round 184 = .ok (.getfield 59, 3) := by decide +kernel
theorem dX4_round_187 : decode cX4_round 187 = .ok (.iload 10, 2) := by decide +kernel
theorem dX4_round_189 : decode cX4_round 189 = .ok (.laload, 1) := by decide +kernel
theorem dX4_round_190 : decode cX4_round 190 = .ok (.lmul, 1) := by decide +kernel
theorem dX4_round_191 : decode cX4_round 191 = .ok (.ldc2_w 83, 3) := by decide +kernel
theorem dX4_round_194 : decode cX4_round 194 = .ok (.ldiv, 1) := by decide +kernel
theorem dX4_round_195 : decode cX4_round 195 = .ok (.lconst 0, 1) := by decide +kernel
theorem dX4_round_196 : decode cX4_round 196 = .ok (.aload_n 0, 1) := by decide +kernel
theorem dX4_round_197 : decode cX4_round 197 = .ok (.getfield 35, 3) := by decide +kernel
theorem dX4_round_200 : decode cX4_round 200 = .ok (.iload_n 1, 1) := by decide +kernel
theorem dX4_round_201 : decode cX4_round 201 = .ok (.laload, 1) := by decide +kernel
theorem dX4_round_202 : decode cX4_round 202 = .ok (.invokestatic 93, 3) := by decide +kernel
theorem dX4_round_205 : decode cX4_round 205 = .ok (.lstore 14, 2) := by decide +kernel
theorem dX4_round_207 : decode cX4_round 207 = .ok (.aload_n 0, 1) := by decide +kernel
theorem dX4_round_208 : decode cX4_round 208 = .ok (.getfield 62, 3) := by decide +kernel
theorem dX4_round_211 : decode cX4_round 211 = .ok (.iload 10, 2) := by decide +kernel
theorem dX4_round_213 : decode cX4_round 213 = .ok (.aload_n 0, 1) := by decide +kernel
theorem dX4_round_214 : decode cX4_round 214 = .ok (.getfield 62, 3) := by decide +kernel
theorem dX4_round_217 : decode cX4_round 217 = .ok (.iload 10, 2) := by decide +kernel
theorem dX4_round_219 : decode cX4_round 219 = .ok (.laload, 1) := by decide +kernel
theorem dX4_round_220 : decode cX4_round 220 = .ok (.ldc2_w 83, 3) := by decide +kernel
theorem dX4_round_223 : decode cX4_round 223 = .ok (.lload 8, 2) := by decide +kernel
theorem dX4_round_225 : decode cX4_round 225 = .ok (.lload 12, 2) := by decide +kernel
theorem dX4_round_227 : decode cX4_round 227 = .ok (.lsub, 1) := by decide +kernel
theorem dX4_round_228 : decode cX4_round 228 = .ok (.lload 14, 2) := by decide +kernel
theorem dX4_round_230 : decode cX4_round 230 = .ok (.lsub, 1) := by decide +kernel
theorem dX4_round_231 : decode cX4_round 231 = .ok (.lmul, 1) := by decide +kernel
theorem dX4_round_232 : decode cX4_round 232 = .ok (.aload_n 0, 1) := by decide +kernel
theorem dX4_round_233 : decode cX4_round 233 = .ok (.getfield 17, 3) := by decide +kernel
theorem dX4_round_236 : decode cX4_round 236 = .ok (.iload_n 1, 1) := by decide +kernel
theorem dX4_round_237 : decode cX4_round 237 = .ok (.laload, 1) := by decide +kernel
theorem dX4_round_238 : decode cX4_round 238 = .ok (.ldiv, 1) := by decide +kernel
theorem dX4_round_239 : decode cX4_round 239 = .ok (.ladd, 1) := by decide +kernel
theorem dX4_round_240 : decode cX4_round 240 = .ok (.ldc2_w 151, 3) := by decide +kernel
theorem dX4_round_243 : decode cX4_round 243 = .ok (.ldc2_w 153, 3) := by decide +kernel
theorem dX4_round_246 : decode cX4_round 246 = .ok (.invokestatic 93, 3) := by decide +kernel
theorem dX4_round_249 : decode cX4_round 249 = .ok (.lastore, 1) := by decide +kernel
theorem dX4_round_250 : decode cX4_round 250 = .ok (.lload 14, 2) := by decide +kernel
theorem dX4_round_252 : decode cX4_round 252 = .ok (.lstore 8, 2) := by decide +kernel
theorem dX4_round_254 : decode cX4_round 254 = .ok (.iinc 10 1, 3) := by decide +kernel
theorem dX4_round_257 : decode cX4_round 257 = .ok (.goto (-175), 3) := by decide +kernel
theorem dX4_round_260 : decode cX4_round 260 = .ok (.iconst 0, 1) := by decide +kernel
theorem dX4_round_261 : decode cX4_round 261 = .ok (.istore 10, 2) := by decide +kernel
theorem dX4_round_263 : decode cX4_round 263 = .ok (.iload 10, 2) := by decide +kernel
theorem dX4_round_265 : decode cX4_round 265 = .ok (.iload 5, 2) := by decide +kernel
theorem dX4_round_267 : decode cX4_round 267 = .ok (.if_icmp .gt 49, 3) := by decide +kernel
theorem dX4_round_270 : decode cX4_round 270 = .ok (.aload_n 0, 1) := by decide +kernel
theorem dX4_round_271 : decode cX4_round 271 = .ok (.getfield 59, 3) := by decide +kernel
theorem dX4_round_274 : decode cX4_round 274 = .ok (.iload 10, 2) := by decide +kernel
theorem dX4_round_276 : decode cX4_round 276 = .ok (.dup2, 1) := by decide +kernel
theorem dX4_round_277 : decode cX4_round 277 = .ok (.laload, 1) := by decide +kernel
theorem dX4_round_278 : decode cX4_round 278 = .ok (.aload_n 0, 1) := by decide +kernel
theorem dX4_round_279 : decode cX4_round 279 = .ok (.getfield 62, 3) := by decide +kernel
theorem dX4_round_282 : decode cX4_round 282 = .ok (.iload 10, 2) := by decide +kernel
theorem dX4_round_284 : decode cX4_round 284 = .ok (.laload, 1) := by decide +kernel
theorem dX4_round_285 : decode cX4_round 285 = .ok (.ldc2_w 83, 3) := by decide +kernel
theorem dX4_round_288 : decode cX4_round 288 = .ok (.ldiv, 1) := by decide +kernel
theorem dX4_round_289 : decode cX4_round 289 = .ok (.ladd, 1) := by decide +kernel
theorem dX4_round_290 : decode cX4_round 290 = .ok (.lastore, 1) := by decide +kernel
theorem dX4_round_291 : decode cX4_round 291 = .ok (.aload_n 0, 1) := by decide +kernel
theorem dX4_round_292 : decode cX4_round 292 = .ok (.getfield 51, 3) := by decide +kernel
theorem dX4_round_295 : decode cX4_round 295 = .ok (.bipush 13, 2) := by decide +kernel
theorem dX4_round_297 : decode cX4_round 297 = .ok (.iload_n 2, 1) := by decide +kernel
theorem dX4_round_298 : decode cX4_round 298 = .ok (.imul, 1) := by decide +kernel
theorem dX4_round_299 : decode cX4_round 299 = .ok (.iload 10, 2) := by decide +kernel
theorem dX4_round_301 : decode cX4_round 301 = .ok (.iadd, 1) := by decide +kernel
theorem dX4_round_302 : decode cX4_round 302 = .ok (.aload_n 0, 1) := by decide +kernel
theorem dX4_round_303 : decode cX4_round 303 = .ok (.getfield 59, 3) := by decide +kernel
theorem dX4_round_306 : decode cX4_round 306 = .ok (.iload 10, 2) := by decide +kernel
theorem dX4_round_308 : decode cX4_round 308 = .ok (.laload, 1) := by decide +kernel
theorem dX4_round_309 : decode cX4_round 309 = .ok (.lastore, 1) := by decide +kernel
theorem dX4_round_310 : decode cX4_round 310 = .ok (.iinc 10 1, 3) := by decide +kernel
theorem dX4_round_313 : decode cX4_round 313 = .ok (.goto (-50), 3) := by decide +kernel
theorem dX4_round_316 : decode cX4_round 316 = .ok (.return_, 1) := by decide +kernel
set_option maxRecDepth 20000 in
theorem ggX4_blow_X4_isPile : GoodIn wsX4_blow wsX4_isPile := goodIn_r _ [14, 15, 16, 17, 13, 18, 35, 36, 37, 38, 39, 40, 41, 42, 43, 44, 45, 46, 47, 48, 49, 50, 51, 52, 53] (by decide +kernel) (by decide +kernel)
set_option maxRecDepth 20000 in
theorem gX4_blow_X4_isPile : GoodIn wsX4_blow (wsV RX4 75 RX4 yX4_isPile wsX4_isPile) := goodIn_app (goodIn_of _ (by decide +kernel)) ggX4_blow_X4_isPile
set_option maxRecDepth 20000 in
theorem ggX4_blow_X4_in : GoodIn wsX4_blow wsX4_in := goodIn_r _ [18] (by decide +kernel) (by decide +kernel)
set_option maxRecDepth 20000 in
theorem gX4_blow_X4_in : GoodIn wsX4_blow (va_wsS RX4 71 yX4_in wsX4_in) := goodIn_app (goodIn_of _ (by decide +kernel)) ggX4_blow_X4_in
set_option maxRecDepth 20000 in
theorem ggX4_blow_X4_round : GoodIn wsX4_blow wsX4_round := goodIn_r _ [22, 4, 23, 5, 6, 24, 25, 26, 27, 2, 28, 29, 8, 9, 30, 31, 32, 33, 13, 34, 35, 36, 37, 38, 39, 40, 41, 42, 43, 44, 45, 46, 47, 48, 49, 50, 51, 52, 53] (by decide +kernel) (by decide +kernel)
set_option maxRecDepth 20000 in
theorem gX4_blow_X4_round : GoodIn wsX4_blow (wsV RX4 155 RX4 yX4_round wsX4_round) := goodIn_app (goodIn_of _ (by decide +kernel)) ggX4_blow_X4_round
theorem dX4_blow_0 : decode cX4_blow 0 = .ok (.aload_n 0, 1) := by decide +kernel
theorem dX4_blow_1 : decode cX4_blow 1 = .ok (.aload_n 0, 1) := by decide +kernel
theorem dX4_blow_2 : decode cX4_blow 2 = .ok (.iload_n 1, 1) := by decide +kernel
theorem dX4_blow_3 : decode cX4_blow 3 = .ok (.invokevirtual 75, 3) := by decide +kernel
theorem dX4_blow_6 : decode cX4_blow 6 = .ok (.ifCond .eq 31, 3) := by decide +kernel
theorem dX4_blow_9 : decode cX4_blow 9 = .ok (.iload_n 2, 1) := by decide +kernel
theorem dX4_blow_10 : decode cX4_blow 10 = .ok (.i2l, 1) := by decide +kernel
theorem dX4_blow_11 : decode cX4_blow 11 = .ok (.lconst 1, 1) := by decide +kernel
theorem dX4_blow_12 : decode cX4_blow 12 = .ok (.ldc2_w 81, 3) := by decide +kernel
theorem dX4_blow_15 : decode cX4_blow 15 = .ok (.invokestatic 71, 3) := by decide +kernel
theorem dX4_blow_18 : decode cX4_blow 18 = .ok (.ifCond .eq 19, 3) := by decide +kernel
theorem dX4_blow_21 : decode cX4_blow 21 = .ok (.iload_n 3, 1) := by decide +kernel
theorem dX4_blow_22 : decode cX4_blow 22 = .ok (.i2l, 1) := by decide +kernel
theorem dX4_blow_23 : decode cX4_blow 23 = .ok (.lconst 1, 1) := by decide +kernel
theorem dX4_blow_24 : decode cX4_blow 24 = .ok (.ldc2_w 83, 3) := by decide +kernel
theorem dX4_blow_27 : decode cX4_blow 27 = .ok (.invokestatic 71, 3) := by decide +kernel
theorem dX4_blow_30 : decode cX4_blow 30 = .ok (.ifCond .eq 7, 3) := by decide +kernel
theorem dX4_blow_33 : decode cX4_blow 33 = .ok (.iconst 0, 1) := by decide +kernel
theorem dX4_blow_34 : decode cX4_blow 34 = .ok (.goto 4, 3) := by decide +kernel
theorem dX4_blow_37 : decode cX4_blow 37 = .ok (.iconst 1, 1) := by decide +kernel
theorem dX4_blow_38 : decode cX4_blow 38 = .ok (.putfield 65, 3) := by decide +kernel
theorem dX4_blow_41 : decode cX4_blow 41 = .ok (.aload_n 0, 1) := by decide +kernel
theorem dX4_blow_42 : decode cX4_blow 42 = .ok (.getfield 65, 3) := by decide +kernel
theorem dX4_blow_45 : decode cX4_blow 45 = .ok (.ifCond .le 5, 3) := by decide +kernel
theorem dX4_blow_48 : decode cX4_blow 48 = .ok (.iconst 0, 1) := by decide +kernel
theorem dX4_blow_49 : decode cX4_blow 49 = .ok (.ireturn, 1) := by decide +kernel
theorem dX4_blow_50 : decode cX4_blow 50 = .ok (.aload_n 0, 1) := by decide +kernel
theorem dX4_blow_51 : decode cX4_blow 51 = .ok (.getfield 7, 3) := by decide +kernel
theorem dX4_blow_54 : decode cX4_blow 54 = .ok (.iload_n 1, 1) := by decide +kernel
theorem dX4_blow_55 : decode cX4_blow 55 = .ok (.iaload, 1) := by decide +kernel
theorem dX4_blow_56 : decode cX4_blow 56 = .ok (.istore 4, 2) := by decide +kernel
theorem dX4_blow_58 : decode cX4_blow 58 = .ok (.iconst 0, 1) := by decide +kernel
theorem dX4_blow_59 : decode cX4_blow 59 = .ok (.istore 5, 2) := by decide +kernel
theorem dX4_blow_61 : decode cX4_blow 61 = .ok (.iload 5, 2) := by decide +kernel
theorem dX4_blow_63 : decode cX4_blow 63 = .ok (.iload 4, 2) := by decide +kernel
theorem dX4_blow_65 : decode cX4_blow 65 = .ok (.if_icmp .gt 25, 3) := by decide +kernel
theorem dX4_blow_68 : decode cX4_blow 68 = .ok (.aload_n 0, 1) := by decide +kernel
theorem dX4_blow_69 : decode cX4_blow 69 = .ok (.getfield 59, 3) := by decide +kernel
theorem dX4_blow_72 : decode cX4_blow 72 = .ok (.iload 5, 2) := by decide +kernel
theorem dX4_blow_74 : decode cX4_blow 74 = .ok (.lconst 0, 1) := by decide +kernel
theorem dX4_blow_75 : decode cX4_blow 75 = .ok (.lastore, 1) := by decide +kernel
theorem dX4_blow_76 : decode cX4_blow 76 = .ok (.aload_n 0, 1) := by decide +kernel
theorem dX4_blow_77 : decode cX4_blow 77 = .ok (.getfield 62, 3) := by decide +kernel
theorem dX4_blow_80 : decode cX4_blow 80 = .ok (.iload 5, 2) := by decide +kernel
theorem dX4_blow_82 : decode cX4_blow 82 = .ok (.lconst 0, 1) := by decide +kernel
theorem dX4_blow_83 : decode cX4_blow 83 = .ok (.lastore, 1) := by decide +kernel
theorem dX4_blow_84 : decode cX4_blow 84 = .ok (.iinc 5 1, 3) := by decide +kernel
theorem dX4_blow_87 : decode cX4_blow 87 = .ok (.goto (-26), 3) := by decide +kernel
theorem dX4_blow_90 : decode cX4_blow 90 = .ok (.aload_n 0, 1) := by decide +kernel
theorem dX4_blow_91 : decode cX4_blow 91 = .ok (.getfield 62, 3) := by decide +kernel
theorem dX4_blow_94 : decode cX4_blow 94 = .ok (.iload 4, 2) := by decide +kernel
theorem dX4_blow_96 : decode cX4_blow 96 = .ok (.ldc2_w 83, 3) := by decide +kernel
theorem dX4_blow_99 : decode cX4_blow 99 = .ok (.iload_n 3, 1) := by decide +kernel
theorem dX4_blow_100 : decode cX4_blow 100 = .ok (.i2l, 1) := by decide +kernel
theorem dX4_blow_101 : decode cX4_blow 101 = .ok (.lmul, 1) := by decide +kernel
theorem dX4_blow_102 : decode cX4_blow 102 = .ok (.lastore, 1) := by decide +kernel
theorem dX4_blow_103 : decode cX4_blow 103 = .ok (.lconst 0, 1) := by decide +kernel
theorem dX4_blow_104 : decode cX4_blow 104 = .ok (.lstore 5, 2) := by decide +kernel
theorem dX4_blow_106 : decode cX4_blow 106 = .ok (.iconst 0, 1) := by decide +kernel
theorem dX4_blow_107 : decode cX4_blow 107 = .ok (.istore 7, 2) := by decide +kernel
theorem dX4_blow_109 : decode cX4_blow 109 = .ok (.iload 7, 2) := by decide +kernel
theorem dX4_blow_111 : decode cX4_blow 111 = .ok (.sipush 200, 3) := by decide +kernel
theorem dX4_blow_114 : decode cX4_blow 114 = .ok (.if_icmp .ge 49, 3) := by decide +kernel
theorem dX4_blow_117 : decode cX4_blow 117 = .ok (.aload_n 0, 1) := by decide +kernel
theorem dX4_blow_118 : decode cX4_blow 118 = .ok (.iload_n 1, 1) := by decide +kernel
theorem dX4_blow_119 : decode cX4_blow 119 = .ok (.iload 7, 2) := by decide +kernel
theorem dX4_blow_121 : decode cX4_blow 121 = .ok (.iload_n 2, 1) := by decide +kernel
theorem dX4_blow_122 : decode cX4_blow 122 = .ok (.i2l, 1) := by decide +kernel
theorem dX4_blow_123 : decode cX4_blow 123 = .ok (.invokevirtual 155, 3) := by decide +kernel
theorem dX4_blow_126 : decode cX4_blow 126 = .ok (.aload_n 0, 1) := by decide +kernel
theorem dX4_blow_127 : decode cX4_blow 127 = .ok (.getfield 59, 3) := by decide +kernel
theorem dX4_blow_130 : decode cX4_blow 130 = .ok (.iload 4, 2) := by decide +kernel
theorem dX4_blow_132 : decode cX4_blow 132 = .ok (.iconst 1, 1) := by decide +kernel
theorem dX4_blow_133 : decode cX4_blow 133 = .ok (.isub, 1) := by decide +kernel
theorem dX4_blow_134 : decode cX4_blow 134 = .ok (.laload, 1) := by decide +kernel
theorem dX4_blow_135 : decode cX4_blow 135 = .ok (.lload 5, 2) := by decide +kernel
theorem dX4_blow_137 : decode cX4_blow 137 = .ok (.lcmp, 1) := by decide +kernel
theorem dX4_blow_138 : decode cX4_blow 138 = .ok (.ifCond .le 15, 3) := by decide +kernel
theorem dX4_blow_141 : decode cX4_blow 141 = .ok (.aload_n 0, 1) := by decide +kernel
theorem dX4_blow_142 : decode cX4_blow 142 = .ok (.getfield 59, 3) := by decide +kernel
theorem dX4_blow_145 : decode cX4_blow 145 = .ok (.iload 4, 2) := by decide +kernel
theorem dX4_blow_147 : decode cX4_blow 147 = .ok (.iconst 1, 1) := by decide +kernel
theorem dX4_blow_148 : decode cX4_blow 148 = .ok (.isub, 1) := by decide +kernel
theorem dX4_blow_149 : decode cX4_blow 149 = .ok (.laload, 1) := by decide +kernel
theorem dX4_blow_150 : decode cX4_blow 150 = .ok (.goto 5, 3) := by decide +kernel
theorem dX4_blow_153 : decode cX4_blow 153 = .ok (.lload 5, 2) := by decide +kernel
theorem dX4_blow_155 : decode cX4_blow 155 = .ok (.lstore 5, 2) := by decide +kernel
theorem dX4_blow_157 : decode cX4_blow 157 = .ok (.iinc 7 1, 3) := by decide +kernel
theorem dX4_blow_160 : decode cX4_blow 160 = .ok (.goto (-51), 3) := by decide +kernel
theorem dX4_blow_163 : decode cX4_blow 163 = .ok (.aload_n 0, 1) := by decide +kernel
theorem dX4_blow_164 : decode cX4_blow 164 = .ok (.iload_n 1, 1) := by decide +kernel
theorem dX4_blow_165 : decode cX4_blow 165 = .ok (.putfield 55, 3) := by decide +kernel
theorem dX4_blow_168 : decode cX4_blow 168 = .ok (.aload_n 0, 1) := by decide +kernel
theorem dX4_blow_169 : decode cX4_blow 169 = .ok (.getfield 32, 3) := by decide +kernel
theorem dX4_blow_172 : decode cX4_blow 172 = .ok (.iload_n 1, 1) := by decide +kernel
theorem dX4_blow_173 : decode cX4_blow 173 = .ok (.laload, 1) := by decide +kernel
theorem dX4_blow_174 : decode cX4_blow 174 = .ok (.lconst 0, 1) := by decide +kernel
theorem dX4_blow_175 : decode cX4_blow 175 = .ok (.lcmp, 1) := by decide +kernel
theorem dX4_blow_176 : decode cX4_blow 176 = .ok (.ifCond .ne 7, 3) := by decide +kernel
theorem dX4_blow_179 : decode cX4_blow 179 = .ok (.lconst 0, 1) := by decide +kernel
theorem dX4_blow_180 : decode cX4_blow 180 = .ok (.goto 20, 3) := by decide +kernel
theorem dX4_blow_183 : decode cX4_blow 183 = .ok (.ldc2_w 83, 3) := by decide +kernel
theorem dX4_blow_186 : decode cX4_blow 186 = .ok (.aload_n 0, 1) := by decide +kernel
theorem dX4_blow_187 : decode cX4_blow 187 = .ok (.getfield 35, 3) := by decide +kernel
theorem dX4_blow_190 : decode cX4_blow 190 = .ok (.iload_n 1, 1) := by decide +kernel
theorem dX4_blow_191 : decode cX4_blow 191 = .ok (.laload, 1) := by decide +kernel
theorem dX4_blow_192 : decode cX4_blow 192 = .ok (.lmul, 1) := by decide +kernel
theorem dX4_blow_193 : decode cX4_blow 193 = .ok (.aload_n 0, 1) := by decide +kernel
theorem dX4_blow_194 : decode cX4_blow 194 = .ok (.getfield 32, 3) := by decide +kernel
theorem dX4_blow_197 : decode cX4_blow 197 = .ok (.iload_n 1, 1) := by decide +kernel
theorem dX4_blow_198 : decode cX4_blow 198 = .ok (.laload, 1) := by decide +kernel
theorem dX4_blow_199 : decode cX4_blow 199 = .ok (.ldiv, 1) := by decide +kernel
theorem dX4_blow_200 : decode cX4_blow 200 = .ok (.lstore 7, 2) := by decide +kernel
theorem dX4_blow_202 : decode cX4_blow 202 = .ok (.lload 5, 2) := by decide +kernel
theorem dX4_blow_204 : decode cX4_blow 204 = .ok (.lload 7, 2) := by decide +kernel
theorem dX4_blow_206 : decode cX4_blow 206 = .ok (.lcmp, 1) := by decide +kernel
theorem dX4_blow_207 : decode cX4_blow 207 = .ok (.ifCond .le 12, 3) := by decide +kernel
theorem dX4_blow_210 : decode cX4_blow 210 = .ok (.lload 5, 2) := by decide +kernel
theorem dX4_blow_212 : decode cX4_blow 212 = .ok (.lload 7, 2) := by decide +kernel
theorem dX4_blow_214 : decode cX4_blow 214 = .ok (.lsub, 1) := by decide +kernel
theorem dX4_blow_215 : decode cX4_blow 215 = .ok (.l2i, 1) := by decide +kernel
theorem dX4_blow_216 : decode cX4_blow 216 = .ok (.goto 4, 3) := by decide +kernel
theorem dX4_blow_219 : decode cX4_blow 219 = .ok (.iconst 0, 1) := by decide +kernel
theorem dX4_blow_220 : decode cX4_blow 220 = .ok (.ireturn, 1) := by decide +kernel
set_option maxRecDepth 20000 in
theorem ggX4_wave_X4_in : GoodIn wsX4_wave wsX4_in := goodIn_r _ [10] (by decide +kernel) (by decide +kernel)
set_option maxRecDepth 20000 in
theorem gX4_wave_X4_in : GoodIn wsX4_wave (va_wsS RX4 71 yX4_in wsX4_in) := goodIn_app (goodIn_of _ (by decide +kernel)) ggX4_wave_X4_in
theorem dX4_wave_0 : decode cX4_wave 0 = .ok (.aload_n 0, 1) := by decide +kernel
theorem dX4_wave_1 : decode cX4_wave 1 = .ok (.aload_n 0, 1) := by decide +kernel
theorem dX4_wave_2 : decode cX4_wave 2 = .ok (.getfield 55, 3) := by decide +kernel
theorem dX4_wave_5 : decode cX4_wave 5 = .ok (.ldc 54, 2) := by decide +kernel
theorem dX4_wave_7 : decode cX4_wave 7 = .ok (.if_icmp .ne 7, 3) := by decide +kernel
theorem dX4_wave_10 : decode cX4_wave 10 = .ok (.iconst 1, 1) := by decide +kernel
theorem dX4_wave_11 : decode cX4_wave 11 = .ok (.goto 39, 3) := by decide +kernel
theorem dX4_wave_14 : decode cX4_wave 14 = .ok (.iload_n 1, 1) := by decide +kernel
theorem dX4_wave_15 : decode cX4_wave 15 = .ok (.i2l, 1) := by decide +kernel
theorem dX4_wave_16 : decode cX4_wave 16 = .ok (.lconst 0, 1) := by decide +kernel
theorem dX4_wave_17 : decode cX4_wave 17 = .ok (.ldc2_w 159, 3) := by decide +kernel
theorem dX4_wave_20 : decode cX4_wave 20 = .ok (.invokestatic 71, 3) := by decide +kernel
theorem dX4_wave_23 : decode cX4_wave 23 = .ok (.ifCond .eq 22, 3) := by decide +kernel
theorem dX4_wave_26 : decode cX4_wave 26 = .ok (.iload_n 2, 1) := by decide +kernel
theorem dX4_wave_27 : decode cX4_wave 27 = .ok (.i2l, 1) := by decide +kernel
theorem dX4_wave_28 : decode cX4_wave 28 = .ok (.lconst 0, 1) := by decide +kernel
theorem dX4_wave_29 : decode cX4_wave 29 = .ok (.aload_n 0, 1) := by decide +kernel
theorem dX4_wave_30 : decode cX4_wave 30 = .ok (.getfield 7, 3) := by decide +kernel
theorem dX4_wave_33 : decode cX4_wave 33 = .ok (.aload_n 0, 1) := by decide +kernel
theorem dX4_wave_34 : decode cX4_wave 34 = .ok (.getfield 55, 3) := by decide +kernel
theorem dX4_wave_37 : decode cX4_wave 37 = .ok (.iaload, 1) := by decide +kernel
theorem dX4_wave_38 : decode cX4_wave 38 = .ok (.i2l, 1) := by decide +kernel
theorem dX4_wave_39 : decode cX4_wave 39 = .ok (.invokestatic 71, 3) := by decide +kernel
theorem dX4_wave_42 : decode cX4_wave 42 = .ok (.ifCond .ne 7, 3) := by decide +kernel
theorem dX4_wave_45 : decode cX4_wave 45 = .ok (.iconst 2, 1) := by decide +kernel
theorem dX4_wave_46 : decode cX4_wave 46 = .ok (.goto 4, 3) := by decide +kernel
theorem dX4_wave_49 : decode cX4_wave 49 = .ok (.iconst 0, 1) := by decide +kernel
theorem dX4_wave_50 : decode cX4_wave 50 = .ok (.putfield 65, 3) := by decide +kernel
theorem dX4_wave_53 : decode cX4_wave 53 = .ok (.aload_n 0, 1) := by decide +kernel
theorem dX4_wave_54 : decode cX4_wave 54 = .ok (.getfield 65, 3) := by decide +kernel
theorem dX4_wave_57 : decode cX4_wave 57 = .ok (.ifCond .le 7, 3) := by decide +kernel
theorem dX4_wave_60 : decode cX4_wave 60 = .ok (.iconst 0, 1) := by decide +kernel
theorem dX4_wave_61 : decode cX4_wave 61 = .ok (.goto 15, 3) := by decide +kernel
theorem dX4_wave_64 : decode cX4_wave 64 = .ok (.aload_n 0, 1) := by decide +kernel
theorem dX4_wave_65 : decode cX4_wave 65 = .ok (.getfield 51, 3) := by decide +kernel
theorem dX4_wave_68 : decode cX4_wave 68 = .ok (.bipush 13, 2) := by decide +kernel
theorem dX4_wave_70 : decode cX4_wave 70 = .ok (.iload_n 1, 1) := by decide +kernel
theorem dX4_wave_71 : decode cX4_wave 71 = .ok (.imul, 1) := by decide +kernel
theorem dX4_wave_72 : decode cX4_wave 72 = .ok (.iload_n 2, 1) := by decide +kernel
theorem dX4_wave_73 : decode cX4_wave 73 = .ok (.iadd, 1) := by decide +kernel
theorem dX4_wave_74 : decode cX4_wave 74 = .ok (.laload, 1) := by decide +kernel
theorem dX4_wave_75 : decode cX4_wave 75 = .ok (.l2i, 1) := by decide +kernel
theorem dX4_wave_76 : decode cX4_wave 76 = .ok (.ireturn, 1) := by decide +kernel
theorem dJ9_floorDiv_7cf53_0 : decode cJ9_floorDiv_7cf53 0 = .ok (.iload_n 0, 1) := by decide +kernel
theorem dJ9_floorDiv_7cf53_1 : decode cJ9_floorDiv_7cf53 1 = .ok (.iload_n 1, 1) := by decide +kernel
theorem dJ9_floorDiv_7cf53_2 : decode cJ9_floorDiv_7cf53 2 = .ok (.idiv, 1) := by decide +kernel
theorem dJ9_floorDiv_7cf53_3 : decode cJ9_floorDiv_7cf53 3 = .ok (.istore_n 2, 1) := by decide +kernel
theorem dJ9_floorDiv_7cf53_4 : decode cJ9_floorDiv_7cf53 4 = .ok (.iload_n 0, 1) := by decide +kernel
theorem dJ9_floorDiv_7cf53_5 : decode cJ9_floorDiv_7cf53 5 = .ok (.iload_n 1, 1) := by decide +kernel
theorem dJ9_floorDiv_7cf53_6 : decode cJ9_floorDiv_7cf53 6 = .ok (.ixor, 1) := by decide +kernel
theorem dJ9_floorDiv_7cf53_7 : decode cJ9_floorDiv_7cf53 7 = .ok (.ifCond .ge 14, 3) := by decide +kernel
theorem dJ9_floorDiv_7cf53_10 : decode cJ9_floorDiv_7cf53 10 = .ok (.iload_n 2, 1) := by decide +kernel
theorem dJ9_floorDiv_7cf53_11 : decode cJ9_floorDiv_7cf53 11 = .ok (.iload_n 1, 1) := by decide +kernel
theorem dJ9_floorDiv_7cf53_12 : decode cJ9_floorDiv_7cf53 12 = .ok (.imul, 1) := by decide +kernel
theorem dJ9_floorDiv_7cf53_13 : decode cJ9_floorDiv_7cf53 13 = .ok (.iload_n 0, 1) := by decide +kernel
theorem dJ9_floorDiv_7cf53_14 : decode cJ9_floorDiv_7cf53 14 = .ok (.if_icmp .eq 7, 3) := by decide +kernel
theorem dJ9_floorDiv_7cf53_17 : decode cJ9_floorDiv_7cf53 17 = .ok (.iload_n 2, 1) := by decide +kernel
theorem dJ9_floorDiv_7cf53_18 : decode cJ9_floorDiv_7cf53 18 = .ok (.iconst 1, 1) := by decide +kernel
theorem dJ9_floorDiv_7cf53_19 : decode cJ9_floorDiv_7cf53 19 = .ok (.isub, 1) := by decide +kernel
theorem dJ9_floorDiv_7cf53_20 : decode cJ9_floorDiv_7cf53 20 = .ok (.ireturn, 1) := by decide +kernel
theorem dJ9_floorDiv_7cf53_21 : decode cJ9_floorDiv_7cf53 21 = .ok (.iload_n 2, 1) := by decide +kernel
theorem dJ9_floorDiv_7cf53_22 : decode cJ9_floorDiv_7cf53 22 = .ok (.ireturn, 1) := by decide +kernel
theorem dJ9_max_7cf53_0 : decode cJ9_max_7cf53 0 = .ok (.iload_n 0, 1) := by decide +kernel
theorem dJ9_max_7cf53_1 : decode cJ9_max_7cf53 1 = .ok (.iload_n 1, 1) := by decide +kernel
theorem dJ9_max_7cf53_2 : decode cJ9_max_7cf53 2 = .ok (.if_icmp .lt 7, 3) := by decide +kernel
theorem dJ9_max_7cf53_5 : decode cJ9_max_7cf53 5 = .ok (.iload_n 0, 1) := by decide +kernel
theorem dJ9_max_7cf53_6 : decode cJ9_max_7cf53 6 = .ok (.goto 4, 3) := by decide +kernel
theorem dJ9_max_7cf53_9 : decode cJ9_max_7cf53 9 = .ok (.iload_n 1, 1) := by decide +kernel
theorem dJ9_max_7cf53_10 : decode cJ9_max_7cf53 10 = .ok (.ireturn, 1) := by decide +kernel
theorem dJ9_max_f86c9_0 : decode cJ9_max_f86c9 0 = .ok (.lload_n 0, 1) := by decide +kernel
theorem dJ9_max_f86c9_1 : decode cJ9_max_f86c9 1 = .ok (.lload_n 2, 1) := by decide +kernel
theorem dJ9_max_f86c9_2 : decode cJ9_max_f86c9 2 = .ok (.lcmp, 1) := by decide +kernel
theorem dJ9_max_f86c9_3 : decode cJ9_max_f86c9 3 = .ok (.ifCond .lt 7, 3) := by decide +kernel
theorem dJ9_max_f86c9_6 : decode cJ9_max_f86c9 6 = .ok (.lload_n 0, 1) := by decide +kernel
theorem dJ9_max_f86c9_7 : decode cJ9_max_f86c9 7 = .ok (.goto 4, 3) := by decide +kernel
theorem dJ9_max_f86c9_10 : decode cJ9_max_f86c9 10 = .ok (.lload_n 2, 1) := by decide +kernel
theorem dJ9_max_f86c9_11 : decode cJ9_max_f86c9 11 = .ok (.lreturn, 1) := by decide +kernel
theorem dJ7_fill_d0a16_0 : decode cJ7_fill_d0a16 0 = .ok (.iconst 0, 1) := by decide +kernel
theorem dJ7_fill_d0a16_1 : decode cJ7_fill_d0a16 1 = .ok (.istore_n 3, 1) := by decide +kernel
theorem dJ7_fill_d0a16_2 : decode cJ7_fill_d0a16 2 = .ok (.aload_n 0, 1) := by decide +kernel
theorem dJ7_fill_d0a16_3 : decode cJ7_fill_d0a16 3 = .ok (.arraylength, 1) := by decide +kernel
theorem dJ7_fill_d0a16_4 : decode cJ7_fill_d0a16 4 = .ok (.istore 4, 2) := by decide +kernel
theorem dJ7_fill_d0a16_6 : decode cJ7_fill_d0a16 6 = .ok (.iload_n 3, 1) := by decide +kernel
theorem dJ7_fill_d0a16_7 : decode cJ7_fill_d0a16 7 = .ok (.iload 4, 2) := by decide +kernel
theorem dJ7_fill_d0a16_9 : decode cJ7_fill_d0a16 9 = .ok (.if_icmp .ge 13, 3) := by decide +kernel
theorem dJ7_fill_d0a16_12 : decode cJ7_fill_d0a16 12 = .ok (.aload_n 0, 1) := by decide +kernel
theorem dJ7_fill_d0a16_13 : decode cJ7_fill_d0a16 13 = .ok (.iload_n 3, 1) := by decide +kernel
theorem dJ7_fill_d0a16_14 : decode cJ7_fill_d0a16 14 = .ok (.lload_n 1, 1) := by decide +kernel
theorem dJ7_fill_d0a16_15 : decode cJ7_fill_d0a16 15 = .ok (.lastore, 1) := by decide +kernel
theorem dJ7_fill_d0a16_16 : decode cJ7_fill_d0a16 16 = .ok (.iinc 3 1, 3) := by decide +kernel
theorem dJ7_fill_d0a16_19 : decode cJ7_fill_d0a16 19 = .ok (.goto (-13), 3) := by decide +kernel
theorem dJ7_fill_d0a16_22 : decode cJ7_fill_d0a16 22 = .ok (.return_, 1) := by decide +kernel
theorem dJ7_fill_53178_0 : decode cJ7_fill_53178 0 = .ok (.iconst 0, 1) := by decide +kernel
theorem dJ7_fill_53178_1 : decode cJ7_fill_53178 1 = .ok (.istore_n 2, 1) := by decide +kernel
theorem dJ7_fill_53178_2 : decode cJ7_fill_53178 2 = .ok (.aload_n 0, 1) := by decide +kernel
theorem dJ7_fill_53178_3 : decode cJ7_fill_53178 3 = .ok (.arraylength, 1) := by decide +kernel
theorem dJ7_fill_53178_4 : decode cJ7_fill_53178 4 = .ok (.istore_n 3, 1) := by decide +kernel
theorem dJ7_fill_53178_5 : decode cJ7_fill_53178 5 = .ok (.iload_n 2, 1) := by decide +kernel
theorem dJ7_fill_53178_6 : decode cJ7_fill_53178 6 = .ok (.iload_n 3, 1) := by decide +kernel
theorem dJ7_fill_53178_7 : decode cJ7_fill_53178 7 = .ok (.if_icmp .ge 13, 3) := by decide +kernel
theorem dJ7_fill_53178_10 : decode cJ7_fill_53178 10 = .ok (.aload_n 0, 1) := by decide +kernel
theorem dJ7_fill_53178_11 : decode cJ7_fill_53178 11 = .ok (.iload_n 2, 1) := by decide +kernel
theorem dJ7_fill_53178_12 : decode cJ7_fill_53178 12 = .ok (.iload_n 1, 1) := by decide +kernel
theorem dJ7_fill_53178_13 : decode cJ7_fill_53178 13 = .ok (.iastore, 1) := by decide +kernel
theorem dJ7_fill_53178_14 : decode cJ7_fill_53178 14 = .ok (.iinc 2 1, 3) := by decide +kernel
theorem dJ7_fill_53178_17 : decode cJ7_fill_53178 17 = .ok (.goto (-12), 3) := by decide +kernel
theorem dJ7_fill_53178_20 : decode cJ7_fill_53178 20 = .ok (.return_, 1) := by decide +kernel
set_option maxRecDepth 20000 in
theorem ggL_pile_X3_pile : GoodIn wsL_pile wsX3_pile := goodIn_ca (goodIn_ca (goodIn_r _ [7, 8, 9, 10, 11, 12, 13, 14, 15, 16, 17, 6, 18, 19, 20, 21, 22, 23, 24, 25, 26, 27, 28, 29, 30, 31, 32, 33, 34, 35, 36, 37, 38, 39, 40, 41, 42, 43, 44, 45, 46] (by decide +kernel) (by decide +kernel)) (goodIn_sub (fun _ h => List.mem_cons_of_mem _ (List.mem_append_left _ (List.mem_append_right _ h))) (by decide +kernel))) (goodIn_sub (fun _ h => List.mem_cons_of_mem _ (List.mem_append_right _ h)) (by decide +kernel))
set_option maxRecDepth 20000 in
theorem gL_pile_X3_pile : GoodIn wsL_pile (wsV RL 7 RX3 yX3_pile wsX3_pile) := goodIn_app (goodIn_of _ (by decide +kernel)) ggL_pile_X3_pile
