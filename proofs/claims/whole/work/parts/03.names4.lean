theorem dX6_layRiddle_0 : decode cX6_layRiddle 0 = .ok (.aload_n 0, 1) := by decide +kernel
theorem dX6_layRiddle_1 : decode cX6_layRiddle 1 = .ok (.invokevirtual 149, 3) := by decide +kernel
theorem dX6_layRiddle_4 : decode cX6_layRiddle 4 = .ok (.aload_n 0, 1) := by decide +kernel
theorem dX6_layRiddle_5 : decode cX6_layRiddle 5 = .ok (.iconst 0, 1) := by decide +kernel
theorem dX6_layRiddle_6 : decode cX6_layRiddle 6 = .ok (.putfield 152, 3) := by decide +kernel
theorem dX6_layRiddle_9 : decode cX6_layRiddle 9 = .ok (.aload_n 0, 1) := by decide +kernel
theorem dX6_layRiddle_10 : decode cX6_layRiddle 10 = .ok (.iload_n 1, 1) := by decide +kernel
theorem dX6_layRiddle_11 : decode cX6_layRiddle 11 = .ok (.invokevirtual 155, 3) := by decide +kernel
theorem dX6_layRiddle_14 : decode cX6_layRiddle 14 = .ok (.ifCond .eq 5, 3) := by decide +kernel
theorem dX6_layRiddle_17 : decode cX6_layRiddle 17 = .ok (.iconst 0, 1) := by decide +kernel
theorem dX6_layRiddle_18 : decode cX6_layRiddle 18 = .ok (.ireturn, 1) := by decide +kernel
theorem dX6_layRiddle_19 : decode cX6_layRiddle 19 = .ok (.aload_n 0, 1) := by decide +kernel
theorem dX6_layRiddle_20 : decode cX6_layRiddle 20 = .ok (.iconst 1, 1) := by decide +kernel
theorem dX6_layRiddle_21 : decode cX6_layRiddle 21 = .ok (.putfield 152, 3) := by decide +kernel
theorem dX6_layRiddle_24 : decode cX6_layRiddle 24 = .ok (.iconst 0, 1) := by decide +kernel
theorem dX6_layRiddle_25 : decode cX6_layRiddle 25 = .ok (.istore_n 2, 1) := by decide +kernel
theorem dX6_layRiddle_26 : decode cX6_layRiddle 26 = .ok (.iload_n 2, 1) := by decide +kernel
theorem dX6_layRiddle_27 : decode cX6_layRiddle 27 = .ok (.bipush 24, 2) := by decide +kernel
theorem dX6_layRiddle_29 : decode cX6_layRiddle 29 = .ok (.aload_n 0, 1) := by decide +kernel
theorem dX6_layRiddle_30 : decode cX6_layRiddle 30 = .ok (.getfield 90, 3) := by decide +kernel
theorem dX6_layRiddle_33 : decode cX6_layRiddle 33 = .ok (.imul, 1) := by decide +kernel
theorem dX6_layRiddle_34 : decode cX6_layRiddle 34 = .ok (.if_icmp .ge 38, 3) := by decide +kernel
theorem dX6_layRiddle_37 : decode cX6_layRiddle 37 = .ok (.aload_n 0, 1) := by decide +kernel
theorem dX6_layRiddle_38 : decode cX6_layRiddle 38 = .ok (.invokevirtual 149, 3) := by decide +kernel
theorem dX6_layRiddle_41 : decode cX6_layRiddle 41 = .ok (.aload_n 0, 1) := by decide +kernel
theorem dX6_layRiddle_42 : decode cX6_layRiddle 42 = .ok (.iload_n 2, 1) := by decide +kernel
theorem dX6_layRiddle_43 : decode cX6_layRiddle 43 = .ok (.bipush 24, 2) := by decide +kernel
theorem dX6_layRiddle_45 : decode cX6_layRiddle 45 = .ok (.idiv, 1) := by decide +kernel
theorem dX6_layRiddle_46 : decode cX6_layRiddle 46 = .ok (.iload_n 2, 1) := by decide +kernel
theorem dX6_layRiddle_47 : decode cX6_layRiddle 47 = .ok (.bipush 24, 2) := by decide +kernel
theorem dX6_layRiddle_49 : decode cX6_layRiddle 49 = .ok (.irem, 1) := by decide +kernel
theorem dX6_layRiddle_50 : decode cX6_layRiddle 50 = .ok (.invokevirtual 158, 3) := by decide +kernel
theorem dX6_layRiddle_53 : decode cX6_layRiddle 53 = .ok (.aload_n 0, 1) := by decide +kernel
theorem dX6_layRiddle_54 : decode cX6_layRiddle 54 = .ok (.iload_n 1, 1) := by decide +kernel
theorem dX6_layRiddle_55 : decode cX6_layRiddle 55 = .ok (.invokevirtual 155, 3) := by decide +kernel
theorem dX6_layRiddle_58 : decode cX6_layRiddle 58 = .ok (.ifCond .eq 8, 3) := by decide +kernel
theorem dX6_layRiddle_61 : decode cX6_layRiddle 61 = .ok (.iload_n 2, 1) := by decide +kernel
theorem dX6_layRiddle_62 : decode cX6_layRiddle 62 = .ok (.invokestatic 162, 3) := by decide +kernel
theorem dX6_layRiddle_65 : decode cX6_layRiddle 65 = .ok (.ireturn, 1) := by decide +kernel
theorem dX6_layRiddle_66 : decode cX6_layRiddle 66 = .ok (.iinc 2 1, 3) := by decide +kernel
theorem dX6_layRiddle_69 : decode cX6_layRiddle 69 = .ok (.goto (-43), 3) := by decide +kernel
theorem dX6_layRiddle_72 : decode cX6_layRiddle 72 = .ok (.aload_n 0, 1) := by decide +kernel
theorem dX6_layRiddle_73 : decode cX6_layRiddle 73 = .ok (.iconst 2, 1) := by decide +kernel
theorem dX6_layRiddle_74 : decode cX6_layRiddle 74 = .ok (.putfield 152, 3) := by decide +kernel
theorem dX6_layRiddle_77 : decode cX6_layRiddle 77 = .ok (.iconst 0, 1) := by decide +kernel
theorem dX6_layRiddle_78 : decode cX6_layRiddle 78 = .ok (.istore_n 2, 1) := by decide +kernel
theorem dX6_layRiddle_79 : decode cX6_layRiddle 79 = .ok (.iload_n 2, 1) := by decide +kernel
theorem dX6_layRiddle_80 : decode cX6_layRiddle 80 = .ok (.bipush 24, 2) := by decide +kernel
theorem dX6_layRiddle_82 : decode cX6_layRiddle 82 = .ok (.aload_n 0, 1) := by decide +kernel
theorem dX6_layRiddle_83 : decode cX6_layRiddle 83 = .ok (.getfield 90, 3) := by decide +kernel
theorem dX6_layRiddle_86 : decode cX6_layRiddle 86 = .ok (.imul, 1) := by decide +kernel
theorem dX6_layRiddle_87 : decode cX6_layRiddle 87 = .ok (.if_icmp .ge 86, 3) := by decide +kernel
theorem dX6_layRiddle_90 : decode cX6_layRiddle 90 = .ok (.bipush 24, 2) := by decide +kernel
theorem dX6_layRiddle_92 : decode cX6_layRiddle 92 = .ok (.iload_n 2, 1) := by decide +kernel
theorem dX6_layRiddle_93 : decode cX6_layRiddle 93 = .ok (.bipush 24, 2) := by decide +kernel
theorem dX6_layRiddle_95 : decode cX6_layRiddle 95 = .ok (.idiv, 1) := by decide +kernel
theorem dX6_layRiddle_96 : decode cX6_layRiddle 96 = .ok (.iconst 1, 1) := by decide +kernel
theorem dX6_layRiddle_97 : decode cX6_layRiddle 97 = .ok (.iadd, 1) := by decide +kernel
theorem dX6_layRiddle_98 : decode cX6_layRiddle 98 = .ok (.imul, 1) := by decide +kernel
theorem dX6_layRiddle_99 : decode cX6_layRiddle 99 = .ok (.istore_n 3, 1) := by decide +kernel
theorem dX6_layRiddle_100 : decode cX6_layRiddle 100 = .ok (.iload_n 3, 1) := by decide +kernel
theorem dX6_layRiddle_101 : decode cX6_layRiddle 101 = .ok (.bipush 24, 2) := by decide +kernel
theorem dX6_layRiddle_103 : decode cX6_layRiddle 103 = .ok (.aload_n 0, 1) := by decide +kernel
theorem dX6_layRiddle_104 : decode cX6_layRiddle 104 = .ok (.getfield 90, 3) := by decide +kernel
theorem dX6_layRiddle_107 : decode cX6_layRiddle 107 = .ok (.imul, 1) := by decide +kernel
theorem dX6_layRiddle_108 : decode cX6_layRiddle 108 = .ok (.if_icmp .ge 59, 3) := by decide +kernel
theorem dX6_layRiddle_111 : decode cX6_layRiddle 111 = .ok (.aload_n 0, 1) := by decide +kernel
theorem dX6_layRiddle_112 : decode cX6_layRiddle 112 = .ok (.invokevirtual 149, 3) := by decide +kernel
theorem dX6_layRiddle_115 : decode cX6_layRiddle 115 = .ok (.aload_n 0, 1) := by decide +kernel
theorem dX6_layRiddle_116 : decode cX6_layRiddle 116 = .ok (.iload_n 2, 1) := by decide +kernel
theorem dX6_layRiddle_117 : decode cX6_layRiddle 117 = .ok (.bipush 24, 2) := by decide +kernel
theorem dX6_layRiddle_119 : decode cX6_layRiddle 119 = .ok (.idiv, 1) := by decide +kernel
theorem dX6_layRiddle_120 : decode cX6_layRiddle 120 = .ok (.iload_n 2, 1) := by decide +kernel
theorem dX6_layRiddle_121 : decode cX6_layRiddle 121 = .ok (.bipush 24, 2) := by decide +kernel
theorem dX6_layRiddle_123 : decode cX6_layRiddle 123 = .ok (.irem, 1) := by decide +kernel
theorem dX6_layRiddle_124 : decode cX6_layRiddle 124 = .ok (.invokevirtual 158, 3) := by decide +kernel
theorem dX6_layRiddle_127 : decode cX6_layRiddle 127 = .ok (.aload_n 0, 1) := by decide +kernel
theorem dX6_layRiddle_128 : decode cX6_layRiddle 128 = .ok (.iload_n 3, 1) := by decide +kernel
theorem dX6_layRiddle_129 : decode cX6_layRiddle 129 = .ok (.bipush 24, 2) := by decide +kernel
theorem dX6_layRiddle_131 : decode cX6_layRiddle 131 = .ok (.idiv, 1) := by decide +kernel
theorem dX6_layRiddle_132 : decode cX6_layRiddle 132 = .ok (.iload_n 3, 1) := by decide +kernel
theorem dX6_layRiddle_133 : decode cX6_layRiddle 133 = .ok (.bipush 24, 2) := by decide +kernel
theorem dX6_layRiddle_135 : decode cX6_layRiddle 135 = .ok (.irem, 1) := by decide +kernel
theorem dX6_layRiddle_136 : decode cX6_layRiddle 136 = .ok (.invokevirtual 158, 3) := by decide +kernel
theorem dX6_layRiddle_139 : decode cX6_layRiddle 139 = .ok (.aload_n 0, 1) := by decide +kernel
theorem dX6_layRiddle_140 : decode cX6_layRiddle 140 = .ok (.iload_n 1, 1) := by decide +kernel
theorem dX6_layRiddle_141 : decode cX6_layRiddle 141 = .ok (.invokevirtual 155, 3) := by decide +kernel
theorem dX6_layRiddle_144 : decode cX6_layRiddle 144 = .ok (.ifCond .eq 17, 3) := by decide +kernel
theorem dX6_layRiddle_147 : decode cX6_layRiddle 147 = .ok (.sipush 1000, 3) := by decide +kernel
theorem dX6_layRiddle_150 : decode cX6_layRiddle 150 = .ok (.iload_n 2, 1) := by decide +kernel
theorem dX6_layRiddle_151 : decode cX6_layRiddle 151 = .ok (.invokestatic 162, 3) := by decide +kernel
theorem dX6_layRiddle_154 : decode cX6_layRiddle 154 = .ok (.imul, 1) := by decide +kernel
theorem dX6_layRiddle_155 : decode cX6_layRiddle 155 = .ok (.iload_n 3, 1) := by decide +kernel
theorem dX6_layRiddle_156 : decode cX6_layRiddle 156 = .ok (.invokestatic 162, 3) := by decide +kernel
theorem dX6_layRiddle_159 : decode cX6_layRiddle 159 = .ok (.iadd, 1) := by decide +kernel
theorem dX6_layRiddle_160 : decode cX6_layRiddle 160 = .ok (.ireturn, 1) := by decide +kernel
theorem dX6_layRiddle_161 : decode cX6_layRiddle 161 = .ok (.iinc 3 1, 3) := by decide +kernel
theorem dX6_layRiddle_164 : decode cX6_layRiddle 164 = .ok (.goto (-64), 3) := by decide +kernel
theorem dX6_layRiddle_167 : decode cX6_layRiddle 167 = .ok (.iinc 2 1, 3) := by decide +kernel
theorem dX6_layRiddle_170 : decode cX6_layRiddle 170 = .ok (.goto (-91), 3) := by decide +kernel
theorem dX6_layRiddle_173 : decode cX6_layRiddle 173 = .ok (.aload_n 0, 1) := by decide +kernel
theorem dX6_layRiddle_174 : decode cX6_layRiddle 174 = .ok (.bipush (-9), 2) := by decide +kernel
theorem dX6_layRiddle_176 : decode cX6_layRiddle 176 = .ok (.putfield 152, 3) := by decide +kernel
theorem dX6_layRiddle_179 : decode cX6_layRiddle 179 = .ok (.bipush (-9), 2) := by decide +kernel
theorem dX6_layRiddle_181 : decode cX6_layRiddle 181 = .ok (.ireturn, 1) := by decide +kernel
theorem dX6_told_0 : decode cX6_told 0 = .ok (.bipush 100, 2) := by decide +kernel
theorem dX6_told_2 : decode cX6_told 2 = .ok (.iload_n 0, 1) := by decide +kernel
theorem dX6_told_3 : decode cX6_told 3 = .ok (.bipush 24, 2) := by decide +kernel
theorem dX6_told_5 : decode cX6_told 5 = .ok (.idiv, 1) := by decide +kernel
theorem dX6_told_6 : decode cX6_told 6 = .ok (.imul, 1) := by decide +kernel
theorem dX6_told_7 : decode cX6_told 7 = .ok (.bipush 10, 2) := by decide +kernel
theorem dX6_told_9 : decode cX6_told 9 = .ok (.iload_n 0, 1) := by decide +kernel
theorem dX6_told_10 : decode cX6_told 10 = .ok (.bipush 24, 2) := by decide +kernel
theorem dX6_told_12 : decode cX6_told 12 = .ok (.irem, 1) := by decide +kernel
theorem dX6_told_13 : decode cX6_told 13 = .ok (.iconst 4, 1) := by decide +kernel
theorem dX6_told_14 : decode cX6_told 14 = .ok (.idiv, 1) := by decide +kernel
theorem dX6_told_15 : decode cX6_told 15 = .ok (.imul, 1) := by decide +kernel
theorem dX6_told_16 : decode cX6_told 16 = .ok (.iadd, 1) := by decide +kernel
theorem dX6_told_17 : decode cX6_told 17 = .ok (.iload_n 0, 1) := by decide +kernel
theorem dX6_told_18 : decode cX6_told 18 = .ok (.iconst 4, 1) := by decide +kernel
theorem dX6_told_19 : decode cX6_told 19 = .ok (.irem, 1) := by decide +kernel
theorem dX6_told_20 : decode cX6_told 20 = .ok (.iadd, 1) := by decide +kernel
theorem dX6_told_21 : decode cX6_told 21 = .ok (.ireturn, 1) := by decide +kernel
set_option maxRecDepth 20000 in
theorem ggX6_riddle_X6_in : GoodIn wsX6_riddle wsX6_in := goodIn_r _ [7] (by decide +kernel) (by decide +kernel)
set_option maxRecDepth 20000 in
theorem gX6_riddle_X6_in : GoodIn wsX6_riddle (va_wsS RX6 47 yX6_in wsX6_in) := goodIn_app (goodIn_of _ (by decide +kernel)) ggX6_riddle_X6_in
set_option maxRecDepth 20000 in
theorem ggX6_riddle_X6_layRiddle : GoodIn wsX6_riddle wsX6_layRiddle := goodIn_r _ [11, 3, 12, 13, 14, 15, 6, 16, 2, 17, 18, 19, 20, 21, 22, 23, 24, 25, 26, 27, 28, 29, 30, 31, 32, 33, 34, 35, 36, 37, 38, 39, 40, 41, 42, 43, 44, 45, 46, 47, 48, 49, 50, 51, 4, 5, 7, 52, 53, 54, 55, 56, 57, 58, 59, 60, 61, 62, 63, 64, 65, 66, 67, 68, 69, 70, 71, 72, 73, 74, 75, 76, 77, 78, 79, 80, 81, 82, 83, 84, 85, 86, 87, 88, 89, 90, 91] (by decide +kernel) (by decide +kernel)
set_option maxRecDepth 20000 in
theorem gX6_riddle_X6_layRiddle : GoodIn wsX6_riddle (wsV RX6 167 RX6 yX6_layRiddle wsX6_layRiddle) := goodIn_app (goodIn_of _ (by decide +kernel)) ggX6_riddle_X6_layRiddle
theorem dX6_riddle_0 : decode cX6_riddle 0 = .ok (.iload_n 1, 1) := by decide +kernel
theorem dX6_riddle_1 : decode cX6_riddle 1 = .ok (.i2l, 1) := by decide +kernel
theorem dX6_riddle_2 : decode cX6_riddle 2 = .ok (.lconst 0, 1) := by decide +kernel
theorem dX6_riddle_3 : decode cX6_riddle 3 = .ok (.ldc2_w 165, 3) := by decide +kernel
theorem dX6_riddle_6 : decode cX6_riddle 6 = .ok (.invokestatic 47, 3) := by decide +kernel
theorem dX6_riddle_9 : decode cX6_riddle 9 = .ok (.ifCond .ne 6, 3) := by decide +kernel
theorem dX6_riddle_12 : decode cX6_riddle 12 = .ok (.bipush (-2), 2) := by decide +kernel
theorem dX6_riddle_14 : decode cX6_riddle 14 = .ok (.ireturn, 1) := by decide +kernel
theorem dX6_riddle_15 : decode cX6_riddle 15 = .ok (.aload_n 0, 1) := by decide +kernel
theorem dX6_riddle_16 : decode cX6_riddle 16 = .ok (.getfield 16, 3) := by decide +kernel
theorem dX6_riddle_19 : decode cX6_riddle 19 = .ok (.bipush 8, 2) := by decide +kernel
theorem dX6_riddle_21 : decode cX6_riddle 21 = .ok (.iaload, 1) := by decide +kernel
theorem dX6_riddle_22 : decode cX6_riddle 22 = .ok (.bipush (-9), 2) := by decide +kernel
theorem dX6_riddle_24 : decode cX6_riddle 24 = .ok (.if_icmp .ne 6, 3) := by decide +kernel
theorem dX6_riddle_27 : decode cX6_riddle 27 = .ok (.bipush (-9), 2) := by decide +kernel
theorem dX6_riddle_29 : decode cX6_riddle 29 = .ok (.ireturn, 1) := by decide +kernel
theorem dX6_riddle_30 : decode cX6_riddle 30 = .ok (.aload_n 0, 1) := by decide +kernel
theorem dX6_riddle_31 : decode cX6_riddle 31 = .ok (.iload_n 1, 1) := by decide +kernel
theorem dX6_riddle_32 : decode cX6_riddle 32 = .ok (.invokevirtual 167, 3) := by decide +kernel
theorem dX6_riddle_35 : decode cX6_riddle 35 = .ok (.istore_n 3, 1) := by decide +kernel
theorem dX6_riddle_36 : decode cX6_riddle 36 = .ok (.iload_n 2, 1) := by decide +kernel
theorem dX6_riddle_37 : decode cX6_riddle 37 = .ok (.ifCond .eq 7, 3) := by decide +kernel
theorem dX6_riddle_40 : decode cX6_riddle 40 = .ok (.iload_n 3, 1) := by decide +kernel
theorem dX6_riddle_41 : decode cX6_riddle 41 = .ok (.goto 7, 3) := by decide +kernel
theorem dX6_riddle_44 : decode cX6_riddle 44 = .ok (.aload_n 0, 1) := by decide +kernel
theorem dX6_riddle_45 : decode cX6_riddle 45 = .ok (.getfield 152, 3) := by decide +kernel
theorem dX6_riddle_48 : decode cX6_riddle 48 = .ok (.ireturn, 1) := by decide +kernel
set_option maxRecDepth 20000 in
theorem ggX6_songs_X6_isWooer : GoodIn wsX6_songs wsX6_isWooer := goodIn_r _ [7, 8, 9, 10, 6, 11, 53, 54, 55, 56, 57, 58, 59, 60, 61, 62, 63, 64, 65, 66, 67, 68, 69, 70, 71, 72, 73, 74, 75, 76] (by decide +kernel) (by decide +kernel)
set_option maxRecDepth 20000 in
theorem gX6_songs_X6_isWooer : GoodIn wsX6_songs (wsV RX6 123 RX6 yX6_isWooer wsX6_isWooer) := goodIn_app (goodIn_of _ (by decide +kernel)) ggX6_songs_X6_isWooer
set_option maxRecDepth 20000 in
theorem ggX6_songs_X6_all : GoodIn wsX6_songs wsX6_all := goodIn_r _ [15, 16, 53, 54, 55, 56, 57, 58, 59, 60, 61, 62, 63, 64, 65, 66, 67, 68, 69, 70, 71, 72, 73, 74, 75, 76] (by decide +kernel) (by decide +kernel)
set_option maxRecDepth 20000 in
theorem gX6_songs_X6_all : GoodIn wsX6_songs (wsV RX6 110 RX6 yX6_all wsX6_all) := goodIn_app (goodIn_of _ (by decide +kernel)) ggX6_songs_X6_all
set_option maxRecDepth 20000 in
theorem ggX6_songs_X6_fitsOn : GoodIn wsX6_songs wsX6_fitsOn := goodIn_r _ [20, 16, 21, 22, 23, 6, 24, 12, 13, 14, 15, 25, 26, 27, 28, 29, 30, 31, 32, 33, 34, 35, 36, 37, 38, 39, 1, 40, 41, 42, 43, 9, 10, 11, 53, 54, 55, 56, 57, 58, 59, 60, 61, 62, 63, 64, 65, 66, 67, 68, 69, 70, 71, 72, 73, 74, 75, 76] (by decide +kernel) (by decide +kernel)
set_option maxRecDepth 20000 in
theorem gX6_songs_X6_fitsOn : GoodIn wsX6_songs (wsV RX6 126 RX6 yX6_fitsOn wsX6_fitsOn) := goodIn_app (goodIn_of _ (by decide +kernel)) ggX6_songs_X6_fitsOn
set_option maxRecDepth 20000 in
theorem ggX6_songs_X6_ones : GoodIn wsX6_songs wsX6_ones := goodIn_r _ [32] (by decide +kernel) (by decide +kernel)
set_option maxRecDepth 20000 in
theorem gX6_songs_X6_ones : GoodIn wsX6_songs (va_wsS RX6 103 yX6_ones wsX6_ones) := goodIn_app (goodIn_of _ (by decide +kernel)) ggX6_songs_X6_ones
set_option maxRecDepth 20000 in
theorem ggX6_songs_X6_picks : GoodIn wsX6_songs wsX6_picks := goodIn_r _ [47, 16, 48, 12, 13, 14, 6, 15, 33, 34, 35, 49, 50, 51, 52, 53, 54, 55, 56, 57, 58, 59, 60, 61, 62, 63, 64, 65, 66, 67, 68, 69, 70, 71, 72, 73, 74, 75, 76] (by decide +kernel) (by decide +kernel)
set_option maxRecDepth 20000 in
theorem gX6_songs_X6_picks : GoodIn wsX6_songs (wsV RX6 130 RX6 yX6_picks wsX6_picks) := goodIn_app (goodIn_of _ (by decide +kernel)) ggX6_songs_X6_picks
theorem dX6_songs_0 : decode cX6_songs 0 = .ok (.aload_n 0, 1) := by decide +kernel
theorem dX6_songs_1 : decode cX6_songs 1 = .ok (.iload_n 1, 1) := by decide +kernel
theorem dX6_songs_2 : decode cX6_songs 2 = .ok (.invokevirtual 123, 3) := by decide +kernel
theorem dX6_songs_5 : decode cX6_songs 5 = .ok (.ifCond .ne 5, 3) := by decide +kernel
theorem dX6_songs_8 : decode cX6_songs 8 = .ok (.iconst (-1), 1) := by decide +kernel
theorem dX6_songs_9 : decode cX6_songs 9 = .ok (.ireturn, 1) := by decide +kernel
theorem dX6_songs_10 : decode cX6_songs 10 = .ok (.bipush (-9), 2) := by decide +kernel
theorem dX6_songs_12 : decode cX6_songs 12 = .ok (.istore_n 2, 1) := by decide +kernel
theorem dX6_songs_13 : decode cX6_songs 13 = .ok (.aload_n 0, 1) := by decide +kernel
theorem dX6_songs_14 : decode cX6_songs 14 = .ok (.iconst 0, 1) := by decide +kernel
theorem dX6_songs_15 : decode cX6_songs 15 = .ok (.aload_n 0, 1) := by decide +kernel
theorem dX6_songs_16 : decode cX6_songs 16 = .ok (.invokevirtual 110, 3) := by decide +kernel
theorem dX6_songs_19 : decode cX6_songs 19 = .ok (.invokevirtual 126, 3) := by decide +kernel
theorem dX6_songs_22 : decode cX6_songs 22 = .ok (.istore_n 3, 1) := by decide +kernel
theorem dX6_songs_23 : decode cX6_songs 23 = .ok (.iconst 0, 1) := by decide +kernel
theorem dX6_songs_24 : decode cX6_songs 24 = .ok (.istore 4, 2) := by decide +kernel
theorem dX6_songs_26 : decode cX6_songs 26 = .ok (.iload 4, 2) := by decide +kernel
theorem dX6_songs_28 : decode cX6_songs 28 = .ok (.aload_n 0, 1) := by decide +kernel
theorem dX6_songs_29 : decode cX6_songs 29 = .ok (.invokevirtual 110, 3) := by decide +kernel
theorem dX6_songs_32 : decode cX6_songs 32 = .ok (.if_icmp .gt 114, 3) := by decide +kernel
theorem dX6_songs_35 : decode cX6_songs 35 = .ok (.aload_n 0, 1) := by decide +kernel
theorem dX6_songs_36 : decode cX6_songs 36 = .ok (.getfield 16, 3) := by decide +kernel
theorem dX6_songs_39 : decode cX6_songs 39 = .ok (.bipush 8, 2) := by decide +kernel
theorem dX6_songs_41 : decode cX6_songs 41 = .ok (.iaload, 1) := by decide +kernel
theorem dX6_songs_42 : decode cX6_songs 42 = .ok (.bipush (-9), 2) := by decide +kernel
theorem dX6_songs_44 : decode cX6_songs 44 = .ok (.if_icmp .eq 102, 3) := by decide +kernel
theorem dX6_songs_47 : decode cX6_songs 47 = .ok (.iload_n 2, 1) := by decide +kernel
theorem dX6_songs_48 : decode cX6_songs 48 = .ok (.bipush (-9), 2) := by decide +kernel
theorem dX6_songs_50 : decode cX6_songs 50 = .ok (.if_icmp .eq 15, 3) := by decide +kernel
theorem dX6_songs_53 : decode cX6_songs 53 = .ok (.iload 4, 2) := by decide +kernel
theorem dX6_songs_55 : decode cX6_songs 55 = .ok (.invokestatic 103, 3) := by decide +kernel
theorem dX6_songs_58 : decode cX6_songs 58 = .ok (.iload_n 2, 1) := by decide +kernel
theorem dX6_songs_59 : decode cX6_songs 59 = .ok (.invokestatic 103, 3) := by decide +kernel
theorem dX6_songs_62 : decode cX6_songs 62 = .ok (.if_icmp .ge 7, 3) := by decide +kernel
theorem dX6_songs_65 : decode cX6_songs 65 = .ok (.iconst 1, 1) := by decide +kernel
theorem dX6_songs_66 : decode cX6_songs 66 = .ok (.goto 4, 3) := by decide +kernel
theorem dX6_songs_69 : decode cX6_songs 69 = .ok (.iconst 0, 1) := by decide +kernel
theorem dX6_songs_70 : decode cX6_songs 70 = .ok (.istore 5, 2) := by decide +kernel
theorem dX6_songs_72 : decode cX6_songs 72 = .ok (.iload 5, 2) := by decide +kernel
theorem dX6_songs_74 : decode cX6_songs 74 = .ok (.ifCond .eq 20, 3) := by decide +kernel
theorem dX6_songs_77 : decode cX6_songs 77 = .ok (.iload 4, 2) := by decide +kernel
theorem dX6_songs_79 : decode cX6_songs 79 = .ok (.aload_n 0, 1) := by decide +kernel
theorem dX6_songs_80 : decode cX6_songs 80 = .ok (.getfield 16, 3) := by decide +kernel
theorem dX6_songs_83 : decode cX6_songs 83 = .ok (.bipush 9, 2) := by decide +kernel
theorem dX6_songs_85 : decode cX6_songs 85 = .ok (.iaload, 1) := by decide +kernel
theorem dX6_songs_86 : decode cX6_songs 86 = .ok (.iand, 1) := by decide +kernel
theorem dX6_songs_87 : decode cX6_songs 87 = .ok (.ifCond .ne 7, 3) := by decide +kernel
theorem dX6_songs_90 : decode cX6_songs 90 = .ok (.iconst 1, 1) := by decide +kernel
theorem dX6_songs_91 : decode cX6_songs 91 = .ok (.goto 4, 3) := by decide +kernel
theorem dX6_songs_94 : decode cX6_songs 94 = .ok (.iconst 0, 1) := by decide +kernel
theorem dX6_songs_95 : decode cX6_songs 95 = .ok (.istore 6, 2) := by decide +kernel
theorem dX6_songs_97 : decode cX6_songs 97 = .ok (.iload 6, 2) := by decide +kernel
theorem dX6_songs_99 : decode cX6_songs 99 = .ok (.ifCond .eq 39, 3) := by decide +kernel
theorem dX6_songs_102 : decode cX6_songs 102 = .ok (.aload_n 0, 1) := by decide +kernel
theorem dX6_songs_103 : decode cX6_songs 103 = .ok (.aload_n 0, 1) := by decide +kernel
theorem dX6_songs_104 : decode cX6_songs 104 = .ok (.getfield 13, 3) := by decide +kernel
theorem dX6_songs_107 : decode cX6_songs 107 = .ok (.iload_n 1, 1) := by decide +kernel
theorem dX6_songs_108 : decode cX6_songs 108 = .ok (.iaload, 1) := by decide +kernel
theorem dX6_songs_109 : decode cX6_songs 109 = .ok (.iload_n 3, 1) := by decide +kernel
theorem dX6_songs_110 : decode cX6_songs 110 = .ok (.aload_n 0, 1) := by decide +kernel
theorem dX6_songs_111 : decode cX6_songs 111 = .ok (.getfield 16, 3) := by decide +kernel
theorem dX6_songs_114 : decode cX6_songs 114 = .ok (.bipush 9, 2) := by decide +kernel
theorem dX6_songs_116 : decode cX6_songs 116 = .ok (.iaload, 1) := by decide +kernel
theorem dX6_songs_117 : decode cX6_songs 117 = .ok (.iload 4, 2) := by decide +kernel
theorem dX6_songs_119 : decode cX6_songs 119 = .ok (.ior, 1) := by decide +kernel
theorem dX6_songs_120 : decode cX6_songs 120 = .ok (.invokevirtual 130, 3) := by decide +kernel
theorem dX6_songs_123 : decode cX6_songs 123 = .ok (.aload_n 0, 1) := by decide +kernel
theorem dX6_songs_124 : decode cX6_songs 124 = .ok (.getfield 16, 3) := by decide +kernel
theorem dX6_songs_127 : decode cX6_songs 127 = .ok (.bipush 8, 2) := by decide +kernel
theorem dX6_songs_129 : decode cX6_songs 129 = .ok (.iaload, 1) := by decide +kernel
theorem dX6_songs_130 : decode cX6_songs 130 = .ok (.if_icmp .ne 8, 3) := by decide +kernel
theorem dX6_songs_133 : decode cX6_songs 133 = .ok (.iload 4, 2) := by decide +kernel
theorem dX6_songs_135 : decode cX6_songs 135 = .ok (.goto 4, 3) := by decide +kernel
theorem dX6_songs_138 : decode cX6_songs 138 = .ok (.iload_n 2, 1) := by decide +kernel
theorem dX6_songs_139 : decode cX6_songs 139 = .ok (.istore_n 2, 1) := by decide +kernel
theorem dX6_songs_140 : decode cX6_songs 140 = .ok (.iinc 4 1, 3) := by decide +kernel
theorem dX6_songs_143 : decode cX6_songs 143 = .ok (.goto (-117), 3) := by decide +kernel
theorem dX6_songs_146 : decode cX6_songs 146 = .ok (.iload_n 2, 1) := by decide +kernel
theorem dX6_songs_147 : decode cX6_songs 147 = .ok (.ireturn, 1) := by decide +kernel
set_option maxRecDepth 20000 in
theorem ggX6_said_X6_isCasket : GoodIn wsX6_said wsX6_isCasket := goodIn_r _ [6, 7, 8, 9, 5, 10, 46, 47, 48, 49, 50, 51, 52, 53, 54, 55, 56, 57, 58, 59, 60, 61, 62, 63, 64, 65, 66, 67, 68, 69] (by decide +kernel) (by decide +kernel)
set_option maxRecDepth 20000 in
theorem gX6_said_X6_isCasket : GoodIn wsX6_said (wsV RX6 99 RX6 yX6_isCasket wsX6_isCasket) := goodIn_app (goodIn_of _ (by decide +kernel)) ggX6_said_X6_isCasket
set_option maxRecDepth 20000 in
theorem ggX6_said_X6_layTrial : GoodIn wsX6_said wsX6_layTrial := goodIn_r _ [14, 1, 46, 47, 48, 49, 50, 51, 52, 53, 54, 55, 56, 57, 58, 59, 60, 61, 62, 63, 64, 65, 66, 67, 68, 69] (by decide +kernel) (by decide +kernel)
set_option maxRecDepth 20000 in
theorem gX6_said_X6_layTrial : GoodIn wsX6_said (wsV RX6 149 RX6 yX6_layTrial wsX6_layTrial) := goodIn_app (goodIn_of _ (by decide +kernel)) ggX6_said_X6_layTrial
set_option maxRecDepth 20000 in
theorem ggX6_said_X6_layLine : GoodIn wsX6_said wsX6_layLine := goodIn_r _ [18, 1, 46, 47, 48, 49, 50, 51, 52, 53, 54, 55, 56, 57, 58, 59, 60, 61, 62, 63, 64, 65, 66, 67, 68, 69] (by decide +kernel) (by decide +kernel)
set_option maxRecDepth 20000 in
theorem gX6_said_X6_layLine : GoodIn wsX6_said (wsV RX6 158 RX6 yX6_layLine wsX6_layLine) := goodIn_app (goodIn_of _ (by decide +kernel)) ggX6_said_X6_layLine
set_option maxRecDepth 20000 in
theorem ggX6_said_X6_all : GoodIn wsX6_said wsX6_all := goodIn_r _ [22, 7, 46, 47, 48, 49, 50, 51, 52, 53, 54, 55, 56, 57, 58, 59, 60, 61, 62, 63, 64, 65, 66, 67, 68, 69] (by decide +kernel) (by decide +kernel)
set_option maxRecDepth 20000 in
theorem gX6_said_X6_all : GoodIn wsX6_said (wsV RX6 110 RX6 yX6_all wsX6_all) := goodIn_app (goodIn_of _ (by decide +kernel)) ggX6_said_X6_all
set_option maxRecDepth 20000 in
theorem ggX6_said_X6_fitsOn : GoodIn wsX6_said wsX6_fitsOn := goodIn_r _ [26, 7, 27, 28, 29, 5, 30, 19, 20, 21, 22, 31, 32, 33, 34, 35, 36, 37, 38, 39, 40, 41, 42, 43, 44, 45, 1, 2, 3, 4, 6, 8, 9, 10, 46, 47, 48, 49, 50, 51, 52, 53, 54, 55, 56, 57, 58, 59, 60, 61, 62, 63, 64, 65, 66, 67, 68, 69] (by decide +kernel) (by decide +kernel)
set_option maxRecDepth 20000 in
theorem gX6_said_X6_fitsOn : GoodIn wsX6_said (wsV RX6 126 RX6 yX6_fitsOn wsX6_fitsOn) := goodIn_app (goodIn_of _ (by decide +kernel)) ggX6_said_X6_fitsOn
theorem dX6_said_0 : decode cX6_said 0 = .ok (.aload_n 0, 1) := by decide +kernel
theorem dX6_said_1 : decode cX6_said 1 = .ok (.iload_n 1, 1) := by decide +kernel
theorem dX6_said_2 : decode cX6_said 2 = .ok (.invokevirtual 99, 3) := by decide +kernel
theorem dX6_said_5 : decode cX6_said 5 = .ok (.ifCond .ne 5, 3) := by decide +kernel
theorem dX6_said_8 : decode cX6_said 8 = .ok (.iconst (-1), 1) := by decide +kernel
theorem dX6_said_9 : decode cX6_said 9 = .ok (.ireturn, 1) := by decide +kernel
theorem dX6_said_10 : decode cX6_said 10 = .ok (.iconst 0, 1) := by decide +kernel
theorem dX6_said_11 : decode cX6_said 11 = .ok (.istore_n 3, 1) := by decide +kernel
theorem dX6_said_12 : decode cX6_said 12 = .ok (.bipush (-9), 2) := by decide +kernel
theorem dX6_said_14 : decode cX6_said 14 = .ok (.istore 4, 2) := by decide +kernel
theorem dX6_said_16 : decode cX6_said 16 = .ok (.iconst 0, 1) := by decide +kernel
theorem dX6_said_17 : decode cX6_said 17 = .ok (.istore 5, 2) := by decide +kernel
theorem dX6_said_19 : decode cX6_said 19 = .ok (.iload 5, 2) := by decide +kernel
theorem dX6_said_21 : decode cX6_said 21 = .ok (.bipush 24, 2) := by decide +kernel
theorem dX6_said_23 : decode cX6_said 23 = .ok (.if_icmp .ge 79, 3) := by decide +kernel
theorem dX6_said_26 : decode cX6_said 26 = .ok (.aload_n 0, 1) := by decide +kernel
theorem dX6_said_27 : decode cX6_said 27 = .ok (.getfield 16, 3) := by decide +kernel
theorem dX6_said_30 : decode cX6_said 30 = .ok (.bipush 8, 2) := by decide +kernel
theorem dX6_said_32 : decode cX6_said 32 = .ok (.iaload, 1) := by decide +kernel
theorem dX6_said_33 : decode cX6_said 33 = .ok (.bipush (-9), 2) := by decide +kernel
theorem dX6_said_35 : decode cX6_said 35 = .ok (.if_icmp .eq 67, 3) := by decide +kernel
theorem dX6_said_38 : decode cX6_said 38 = .ok (.aload_n 0, 1) := by decide +kernel
theorem dX6_said_39 : decode cX6_said 39 = .ok (.invokevirtual 149, 3) := by decide +kernel
theorem dX6_said_42 : decode cX6_said 42 = .ok (.aload_n 0, 1) := by decide +kernel
theorem dX6_said_43 : decode cX6_said 43 = .ok (.iload_n 1, 1) := by decide +kernel
theorem dX6_said_44 : decode cX6_said 44 = .ok (.iload 5, 2) := by decide +kernel
theorem dX6_said_46 : decode cX6_said 46 = .ok (.invokevirtual 158, 3) := by decide +kernel
theorem dX6_said_49 : decode cX6_said 49 = .ok (.aload_n 0, 1) := by decide +kernel
theorem dX6_said_50 : decode cX6_said 50 = .ok (.iconst 1, 1) := by decide +kernel
theorem dX6_said_51 : decode cX6_said 51 = .ok (.aload_n 0, 1) := by decide +kernel
theorem dX6_said_52 : decode cX6_said 52 = .ok (.invokevirtual 110, 3) := by decide +kernel
theorem dX6_said_55 : decode cX6_said 55 = .ok (.invokevirtual 126, 3) := by decide +kernel
theorem dX6_said_58 : decode cX6_said 58 = .ok (.iconst 1, 1) := by decide +kernel
theorem dX6_said_59 : decode cX6_said 59 = .ok (.aload_n 0, 1) := by decide +kernel
theorem dX6_said_60 : decode cX6_said 60 = .ok (.getfield 16, 3) := by decide +kernel
theorem dX6_said_63 : decode cX6_said 63 = .ok (.bipush 8, 2) := by decide +kernel
theorem dX6_said_65 : decode cX6_said 65 = .ok (.iaload, 1) := by decide +kernel
theorem dX6_said_66 : decode cX6_said 66 = .ok (.ishl, 1) := by decide +kernel
theorem dX6_said_67 : decode cX6_said 67 = .ok (.if_icmp .ne 29, 3) := by decide +kernel
theorem dX6_said_70 : decode cX6_said 70 = .ok (.iload_n 3, 1) := by decide +kernel
theorem dX6_said_71 : decode cX6_said 71 = .ok (.ifCond .ne 18, 3) := by decide +kernel
theorem dX6_said_74 : decode cX6_said 74 = .ok (.bipush 10, 2) := by decide +kernel
theorem dX6_said_76 : decode cX6_said 76 = .ok (.iload 5, 2) := by decide +kernel
theorem dX6_said_78 : decode cX6_said 78 = .ok (.iconst 4, 1) := by decide +kernel
theorem dX6_said_79 : decode cX6_said 79 = .ok (.idiv, 1) := by decide +kernel
theorem dX6_said_80 : decode cX6_said 80 = .ok (.imul, 1) := by decide +kernel
theorem dX6_said_81 : decode cX6_said 81 = .ok (.iload 5, 2) := by decide +kernel
theorem dX6_said_83 : decode cX6_said 83 = .ok (.iconst 4, 1) := by decide +kernel
theorem dX6_said_84 : decode cX6_said 84 = .ok (.irem, 1) := by decide +kernel
theorem dX6_said_85 : decode cX6_said 85 = .ok (.iadd, 1) := by decide +kernel
theorem dX6_said_86 : decode cX6_said 86 = .ok (.goto 5, 3) := by decide +kernel
theorem dX6_said_89 : decode cX6_said 89 = .ok (.iload 4, 2) := by decide +kernel
theorem dX6_said_91 : decode cX6_said 91 = .ok (.istore 4, 2) := by decide +kernel
theorem dX6_said_93 : decode cX6_said 93 = .ok (.iinc 3 1, 3) := by decide +kernel
theorem dX6_said_96 : decode cX6_said 96 = .ok (.iinc 5 1, 3) := by decide +kernel
theorem dX6_said_99 : decode cX6_said 99 = .ok (.goto (-80), 3) := by decide +kernel
theorem dX6_said_102 : decode cX6_said 102 = .ok (.iload_n 2, 1) := by decide +kernel
theorem dX6_said_103 : decode cX6_said 103 = .ok (.ifCond .eq 8, 3) := by decide +kernel
theorem dX6_said_106 : decode cX6_said 106 = .ok (.iload 4, 2) := by decide +kernel
theorem dX6_said_108 : decode cX6_said 108 = .ok (.goto 4, 3) := by decide +kernel
theorem dX6_said_111 : decode cX6_said 111 = .ok (.iload_n 3, 1) := by decide +kernel
theorem dX6_said_112 : decode cX6_said 112 = .ok (.ireturn, 1) := by decide +kernel
theorem dX6_power_0 : decode cX6_power 0 = .ok (.iconst 1, 1) := by decide +kernel
theorem dX6_power_1 : decode cX6_power 1 = .ok (.istore_n 2, 1) := by decide +kernel
theorem dX6_power_2 : decode cX6_power 2 = .ok (.iconst 0, 1) := by decide +kernel
theorem dX6_power_3 : decode cX6_power 3 = .ok (.istore_n 3, 1) := by decide +kernel
theorem dX6_power_4 : decode cX6_power 4 = .ok (.iload_n 3, 1) := by decide +kernel
theorem dX6_power_5 : decode cX6_power 5 = .ok (.iload_n 1, 1) := by decide +kernel
theorem dX6_power_6 : decode cX6_power 6 = .ok (.if_icmp .ge 13, 3) := by decide +kernel
theorem dX6_power_9 : decode cX6_power 9 = .ok (.iload_n 2, 1) := by decide +kernel
theorem dX6_power_10 : decode cX6_power 10 = .ok (.iload_n 0, 1) := by decide +kernel
theorem dX6_power_11 : decode cX6_power 11 = .ok (.imul, 1) := by decide +kernel
theorem dX6_power_12 : decode cX6_power 12 = .ok (.istore_n 2, 1) := by decide +kernel
theorem dX6_power_13 : decode cX6_power 13 = .ok (.iinc 3 1, 3) := by decide +kernel
theorem dX6_power_16 : decode cX6_power 16 = .ok (.goto (-12), 3) := by decide +kernel
theorem dX6_power_19 : decode cX6_power 19 = .ok (.iload_n 2, 1) := by decide +kernel
theorem dX6_power_20 : decode cX6_power 20 = .ok (.ireturn, 1) := by decide +kernel
theorem dX6_common_0 : decode cX6_common 0 = .ok (.iload_n 0, 1) := by decide +kernel
theorem dX6_common_1 : decode cX6_common 1 = .ok (.ifCond .ge 8, 3) := by decide +kernel
theorem dX6_common_4 : decode cX6_common 4 = .ok (.iload_n 0, 1) := by decide +kernel
theorem dX6_common_5 : decode cX6_common 5 = .ok (.ineg, 1) := by decide +kernel
theorem dX6_common_6 : decode cX6_common 6 = .ok (.goto 4, 3) := by decide +kernel
theorem dX6_common_9 : decode cX6_common 9 = .ok (.iload_n 0, 1) := by decide +kernel
theorem dX6_common_10 : decode cX6_common 10 = .ok (.istore_n 2, 1) := by decide +kernel
theorem dX6_common_11 : decode cX6_common 11 = .ok (.iload_n 1, 1) := by decide +kernel
theorem dX6_common_12 : decode cX6_common 12 = .ok (.istore_n 3, 1) := by decide +kernel
theorem dX6_common_13 : decode cX6_common 13 = .ok (.iload_n 3, 1) := by decide +kernel
theorem dX6_common_14 : decode cX6_common 14 = .ok (.ifCond .eq 16, 3) := by decide +kernel
theorem dX6_common_17 : decode cX6_common 17 = .ok (.iload_n 2, 1) := by decide +kernel
theorem dX6_common_18 : decode cX6_common 18 = .ok (.iload_n 3, 1) := by decide +kernel
theorem dX6_common_19 : decode cX6_common 19 = .ok (.irem, 1) := by decide +kernel
theorem dX6_common_20 : decode cX6_common 20 = .ok (.istore 4, 2) := by decide +kernel
theorem dX6_common_22 : decode cX6_common 22 = .ok (.iload_n 3, 1) := by decide +kernel
theorem dX6_common_23 : decode cX6_common 23 = .ok (.istore_n 2, 1) := by decide +kernel
theorem dX6_common_24 : decode cX6_common 24 = .ok (.iload 4, 2) := by decide +kernel
theorem dX6_common_26 : decode cX6_common 26 = .ok (.istore_n 3, 1) := by decide +kernel
theorem dX6_common_27 : decode cX6_common 27 = .ok (.goto (-14), 3) := by decide +kernel
theorem dX6_common_30 : decode cX6_common 30 = .ok (.iload_n 2, 1) := by decide +kernel
theorem dX6_common_31 : decode cX6_common 31 = .ok (.ireturn, 1) := by decide +kernel
set_option maxRecDepth 20000 in
theorem ggX6_weightOf_X6_picks : GoodIn wsX6_weightOf wsX6_picks := goodIn_r _ [6, 7, 8, 9, 10, 11, 5, 12, 13, 14, 15, 16, 17, 18, 19, 23, 24, 25, 26, 27, 28, 29, 30, 31, 32, 33, 34, 35, 36, 37, 38, 39, 40, 41, 42, 43, 44, 45, 46] (by decide +kernel) (by decide +kernel)
set_option maxRecDepth 20000 in
theorem gX6_weightOf_X6_picks : GoodIn wsX6_weightOf (wsV RX6 130 RX6 yX6_picks wsX6_picks) := goodIn_app (goodIn_of _ (by decide +kernel)) ggX6_weightOf_X6_picks
set_option maxRecDepth 20000 in
theorem ggX6_weightOf_X6_has : GoodIn wsX6_weightOf wsX6_has := goodIn_r _ [15] (by decide +kernel) (by decide +kernel)
set_option maxRecDepth 20000 in
theorem gX6_weightOf_X6_has : GoodIn wsX6_weightOf (va_wsS RX6 62 yX6_has wsX6_has) := goodIn_app (goodIn_of _ (by decide +kernel)) ggX6_weightOf_X6_has
set_option maxRecDepth 20000 in
theorem ggX6_weightOf_X6_power : GoodIn wsX6_weightOf wsX6_power := goodIn_r _ [22] (by decide +kernel) (by decide +kernel)
set_option maxRecDepth 20000 in
theorem gX6_weightOf_X6_power : GoodIn wsX6_weightOf (va_wsS RX6 170 yX6_power wsX6_power) := goodIn_app (goodIn_of _ (by decide +kernel)) ggX6_weightOf_X6_power
theorem dX6_weightOf_0 : decode cX6_weightOf 0 = .ok (.iconst 0, 1) := by decide +kernel
theorem dX6_weightOf_1 : decode cX6_weightOf 1 = .ok (.istore 4, 2) := by decide +kernel
theorem dX6_weightOf_3 : decode cX6_weightOf 3 = .ok (.iconst 0, 1) := by decide +kernel
theorem dX6_weightOf_4 : decode cX6_weightOf 4 = .ok (.istore 5, 2) := by decide +kernel
theorem dX6_weightOf_6 : decode cX6_weightOf 6 = .ok (.iload 5, 2) := by decide +kernel
theorem dX6_weightOf_8 : decode cX6_weightOf 8 = .ok (.iconst 4, 1) := by decide +kernel
theorem dX6_weightOf_9 : decode cX6_weightOf 9 = .ok (.if_icmp .ge 37, 3) := by decide +kernel
theorem dX6_weightOf_12 : decode cX6_weightOf 12 = .ok (.iload 4, 2) := by decide +kernel
theorem dX6_weightOf_14 : decode cX6_weightOf 14 = .ok (.aload_n 0, 1) := by decide +kernel
theorem dX6_weightOf_15 : decode cX6_weightOf 15 = .ok (.iload 5, 2) := by decide +kernel
theorem dX6_weightOf_17 : decode cX6_weightOf 17 = .ok (.iload_n 2, 1) := by decide +kernel
theorem dX6_weightOf_18 : decode cX6_weightOf 18 = .ok (.aload_n 0, 1) := by decide +kernel
theorem dX6_weightOf_19 : decode cX6_weightOf 19 = .ok (.getfield 16, 3) := by decide +kernel
theorem dX6_weightOf_22 : decode cX6_weightOf 22 = .ok (.bipush 9, 2) := by decide +kernel
theorem dX6_weightOf_24 : decode cX6_weightOf 24 = .ok (.iaload, 1) := by decide +kernel
theorem dX6_weightOf_25 : decode cX6_weightOf 25 = .ok (.invokevirtual 130, 3) := by decide +kernel
theorem dX6_weightOf_28 : decode cX6_weightOf 28 = .ok (.iload_n 1, 1) := by decide +kernel
theorem dX6_weightOf_29 : decode cX6_weightOf 29 = .ok (.if_icmp .ne 7, 3) := by decide +kernel
theorem dX6_weightOf_32 : decode cX6_weightOf 32 = .ok (.iconst 0, 1) := by decide +kernel
theorem dX6_weightOf_33 : decode cX6_weightOf 33 = .ok (.goto 4, 3) := by decide +kernel
theorem dX6_weightOf_36 : decode cX6_weightOf 36 = .ok (.iconst 1, 1) := by decide +kernel
theorem dX6_weightOf_37 : decode cX6_weightOf 37 = .ok (.iadd, 1) := by decide +kernel
theorem dX6_weightOf_38 : decode cX6_weightOf 38 = .ok (.istore 4, 2) := by decide +kernel
theorem dX6_weightOf_40 : decode cX6_weightOf 40 = .ok (.iinc 5 1, 3) := by decide +kernel
theorem dX6_weightOf_43 : decode cX6_weightOf 43 = .ok (.goto (-37), 3) := by decide +kernel
theorem dX6_weightOf_46 : decode cX6_weightOf 46 = .ok (.iload_n 2, 1) := by decide +kernel
theorem dX6_weightOf_47 : decode cX6_weightOf 47 = .ok (.iload_n 1, 1) := by decide +kernel
theorem dX6_weightOf_48 : decode cX6_weightOf 48 = .ok (.invokestatic 62, 3) := by decide +kernel
theorem dX6_weightOf_51 : decode cX6_weightOf 51 = .ok (.ifCond .eq 12, 3) := by decide +kernel
theorem dX6_weightOf_54 : decode cX6_weightOf 54 = .ok (.iload 4, 2) := by decide +kernel
theorem dX6_weightOf_56 : decode cX6_weightOf 56 = .ok (.iload_n 3, 1) := by decide +kernel
theorem dX6_weightOf_57 : decode cX6_weightOf 57 = .ok (.invokestatic 170, 3) := by decide +kernel
theorem dX6_weightOf_60 : decode cX6_weightOf 60 = .ok (.goto 4, 3) := by decide +kernel
theorem dX6_weightOf_63 : decode cX6_weightOf 63 = .ok (.iconst 0, 1) := by decide +kernel
theorem dX6_weightOf_64 : decode cX6_weightOf 64 = .ok (.ireturn, 1) := by decide +kernel
set_option maxRecDepth 20000 in
theorem ggX6_belief_X6_isCasket : GoodIn wsX6_belief wsX6_isCasket := goodIn_r _ [7, 2, 8, 9, 6, 10, 58, 59, 60, 61, 62, 63, 64, 65, 66, 67, 68, 69, 70, 71, 72, 73, 74, 75, 76, 77, 78, 79, 80, 81] (by decide +kernel) (by decide +kernel)
set_option maxRecDepth 20000 in
theorem gX6_belief_X6_isCasket : GoodIn wsX6_belief (wsV RX6 99 RX6 yX6_isCasket wsX6_isCasket) := goodIn_app (goodIn_of _ (by decide +kernel)) ggX6_belief_X6_isCasket
set_option maxRecDepth 20000 in
theorem ggX6_belief_X6_in : GoodIn wsX6_belief wsX6_in := goodIn_r _ [10] (by decide +kernel) (by decide +kernel)
set_option maxRecDepth 20000 in
theorem gX6_belief_X6_in : GoodIn wsX6_belief (va_wsS RX6 47 yX6_in wsX6_in) := goodIn_app (goodIn_of _ (by decide +kernel)) ggX6_belief_X6_in
set_option maxRecDepth 20000 in
theorem ggX6_belief_X6_all : GoodIn wsX6_belief wsX6_all := goodIn_r _ [14, 2, 58, 59, 60, 61, 62, 63, 64, 65, 66, 67, 68, 69, 70, 71, 72, 73, 74, 75, 76, 77, 78, 79, 80, 81] (by decide +kernel) (by decide +kernel)
set_option maxRecDepth 20000 in
theorem gX6_belief_X6_all : GoodIn wsX6_belief (wsV RX6 110 RX6 yX6_all wsX6_all) := goodIn_app (goodIn_of _ (by decide +kernel)) ggX6_belief_X6_all
set_option maxRecDepth 20000 in
theorem ggX6_belief_X6_fitsOn : GoodIn wsX6_belief wsX6_fitsOn := goodIn_r _ [18, 2, 19, 20, 21, 6, 22, 11, 12, 13, 14, 23, 24, 25, 26, 27, 28, 29, 30, 31, 32, 33, 34, 35, 36, 37, 38, 3, 4, 5, 7, 8, 9, 10, 58, 59, 60, 61, 62, 63, 64, 65, 66, 67, 68, 69, 70, 71, 72, 73, 74, 75, 76, 77, 78, 79, 80, 81] (by decide +kernel) (by decide +kernel)
set_option maxRecDepth 20000 in
theorem gX6_belief_X6_fitsOn : GoodIn wsX6_belief (wsV RX6 126 RX6 yX6_fitsOn wsX6_fitsOn) := goodIn_app (goodIn_of _ (by decide +kernel)) ggX6_belief_X6_fitsOn
set_option maxRecDepth 20000 in
theorem ggX6_belief_X6_weightOf : GoodIn wsX6_belief wsX6_weightOf := goodIn_r _ [42, 38, 43, 44, 45, 6, 46, 2, 47, 11, 12, 13, 14, 31, 32, 33, 48, 49, 50, 51, 52, 53, 54, 58, 59, 60, 61, 62, 63, 64, 65, 66, 67, 68, 69, 70, 71, 72, 73, 74, 75, 76, 77, 78, 79, 80, 81] (by decide +kernel) (by decide +kernel)
set_option maxRecDepth 20000 in
theorem gX6_belief_X6_weightOf : GoodIn wsX6_belief (wsV RX6 173 RX6 yX6_weightOf wsX6_weightOf) := goodIn_app (goodIn_of _ (by decide +kernel)) ggX6_belief_X6_weightOf
set_option maxRecDepth 20000 in
theorem ggX6_belief_X6_common : GoodIn wsX6_belief wsX6_common := goodIn_r _ [57] (by decide +kernel) (by decide +kernel)
set_option maxRecDepth 20000 in
theorem gX6_belief_X6_common : GoodIn wsX6_belief (va_wsS RX6 176 yX6_common wsX6_common) := goodIn_app (goodIn_of _ (by decide +kernel)) ggX6_belief_X6_common
theorem dX6_belief_0 : decode cX6_belief 0 = .ok (.aload_n 0, 1) := by decide +kernel
theorem dX6_belief_1 : decode cX6_belief 1 = .ok (.iload_n 1, 1) := by decide +kernel
theorem dX6_belief_2 : decode cX6_belief 2 = .ok (.invokevirtual 99, 3) := by decide +kernel
theorem dX6_belief_5 : decode cX6_belief 5 = .ok (.ifCond .ne 5, 3) := by decide +kernel
theorem dX6_belief_8 : decode cX6_belief 8 = .ok (.iconst (-1), 1) := by decide +kernel
theorem dX6_belief_9 : decode cX6_belief 9 = .ok (.ireturn, 1) := by decide +kernel
theorem dX6_belief_10 : decode cX6_belief 10 = .ok (.iload_n 2, 1) := by decide +kernel
theorem dX6_belief_11 : decode cX6_belief 11 = .ok (.i2l, 1) := by decide +kernel
theorem dX6_belief_12 : decode cX6_belief 12 = .ok (.lconst 0, 1) := by decide +kernel
theorem dX6_belief_13 : decode cX6_belief 13 = .ok (.ldc2_w 145, 3) := by decide +kernel
theorem dX6_belief_16 : decode cX6_belief 16 = .ok (.invokestatic 47, 3) := by decide +kernel
theorem dX6_belief_19 : decode cX6_belief 19 = .ok (.ifCond .ne 6, 3) := by decide +kernel
theorem dX6_belief_22 : decode cX6_belief 22 = .ok (.bipush (-2), 2) := by decide +kernel
theorem dX6_belief_24 : decode cX6_belief 24 = .ok (.ireturn, 1) := by decide +kernel
theorem dX6_belief_25 : decode cX6_belief 25 = .ok (.aload_n 0, 1) := by decide +kernel
theorem dX6_belief_26 : decode cX6_belief 26 = .ok (.iconst 0, 1) := by decide +kernel
theorem dX6_belief_27 : decode cX6_belief 27 = .ok (.aload_n 0, 1) := by decide +kernel
theorem dX6_belief_28 : decode cX6_belief 28 = .ok (.invokevirtual 110, 3) := by decide +kernel
theorem dX6_belief_31 : decode cX6_belief 31 = .ok (.invokevirtual 126, 3) := by decide +kernel
theorem dX6_belief_34 : decode cX6_belief 34 = .ok (.istore 4, 2) := by decide +kernel
theorem dX6_belief_36 : decode cX6_belief 36 = .ok (.iconst 0, 1) := by decide +kernel
theorem dX6_belief_37 : decode cX6_belief 37 = .ok (.istore 5, 2) := by decide +kernel
theorem dX6_belief_39 : decode cX6_belief 39 = .ok (.iconst 0, 1) := by decide +kernel
theorem dX6_belief_40 : decode cX6_belief 40 = .ok (.istore 6, 2) := by decide +kernel
theorem dX6_belief_42 : decode cX6_belief 42 = .ok (.iload 6, 2) := by decide +kernel
theorem dX6_belief_44 : decode cX6_belief 44 = .ok (.aload_n 0, 1) := by decide +kernel
theorem dX6_belief_45 : decode cX6_belief 45 = .ok (.getfield 90, 3) := by decide +kernel
theorem dX6_belief_48 : decode cX6_belief 48 = .ok (.if_icmp .ge 23, 3) := by decide +kernel
theorem dX6_belief_51 : decode cX6_belief 51 = .ok (.iload 5, 2) := by decide +kernel
theorem dX6_belief_53 : decode cX6_belief 53 = .ok (.aload_n 0, 1) := by decide +kernel
theorem dX6_belief_54 : decode cX6_belief 54 = .ok (.iload 6, 2) := by decide +kernel
theorem dX6_belief_56 : decode cX6_belief 56 = .ok (.iload 4, 2) := by decide +kernel
theorem dX6_belief_58 : decode cX6_belief 58 = .ok (.iload_n 2, 1) := by decide +kernel
theorem dX6_belief_59 : decode cX6_belief 59 = .ok (.invokevirtual 173, 3) := by decide +kernel
theorem dX6_belief_62 : decode cX6_belief 62 = .ok (.iadd, 1) := by decide +kernel
theorem dX6_belief_63 : decode cX6_belief 63 = .ok (.istore 5, 2) := by decide +kernel
theorem dX6_belief_65 : decode cX6_belief 65 = .ok (.iinc 6 1, 3) := by decide +kernel
theorem dX6_belief_68 : decode cX6_belief 68 = .ok (.goto (-26), 3) := by decide +kernel
theorem dX6_belief_71 : decode cX6_belief 71 = .ok (.iload 5, 2) := by decide +kernel
theorem dX6_belief_73 : decode cX6_belief 73 = .ok (.ifCond .ne 13, 3) := by decide +kernel
theorem dX6_belief_76 : decode cX6_belief 76 = .ok (.iload_n 3, 1) := by decide +kernel
theorem dX6_belief_77 : decode cX6_belief 77 = .ok (.ifCond .eq 7, 3) := by decide +kernel
theorem dX6_belief_80 : decode cX6_belief 80 = .ok (.iconst 0, 1) := by decide +kernel
theorem dX6_belief_81 : decode cX6_belief 81 = .ok (.goto 4, 3) := by decide +kernel
theorem dX6_belief_84 : decode cX6_belief 84 = .ok (.iconst 1, 1) := by decide +kernel
theorem dX6_belief_85 : decode cX6_belief 85 = .ok (.ireturn, 1) := by decide +kernel
theorem dX6_belief_86 : decode cX6_belief 86 = .ok (.aload_n 0, 1) := by decide +kernel
theorem dX6_belief_87 : decode cX6_belief 87 = .ok (.iload_n 1, 1) := by decide +kernel
theorem dX6_belief_88 : decode cX6_belief 88 = .ok (.iload 4, 2) := by decide +kernel
theorem dX6_belief_90 : decode cX6_belief 90 = .ok (.iload_n 2, 1) := by decide +kernel
theorem dX6_belief_91 : decode cX6_belief 91 = .ok (.invokevirtual 173, 3) := by decide +kernel
theorem dX6_belief_94 : decode cX6_belief 94 = .ok (.istore 6, 2) := by decide +kernel
theorem dX6_belief_96 : decode cX6_belief 96 = .ok (.iload 6, 2) := by decide +kernel
theorem dX6_belief_98 : decode cX6_belief 98 = .ok (.iload 5, 2) := by decide +kernel
theorem dX6_belief_100 : decode cX6_belief 100 = .ok (.invokestatic 176, 3) := by decide +kernel
theorem dX6_belief_103 : decode cX6_belief 103 = .ok (.istore 7, 2) := by decide +kernel
theorem dX6_belief_105 : decode cX6_belief 105 = .ok (.iload_n 3, 1) := by decide +kernel
theorem dX6_belief_106 : decode cX6_belief 106 = .ok (.ifCond .eq 11, 3) := by decide +kernel
theorem dX6_belief_109 : decode cX6_belief 109 = .ok (.iload 6, 2) := by decide +kernel
theorem dX6_belief_111 : decode cX6_belief 111 = .ok (.iload 7, 2) := by decide +kernel
theorem dX6_belief_113 : decode cX6_belief 113 = .ok (.idiv, 1) := by decide +kernel
theorem dX6_belief_114 : decode cX6_belief 114 = .ok (.goto 8, 3) := by decide +kernel
theorem dX6_belief_117 : decode cX6_belief 117 = .ok (.iload 5, 2) := by decide +kernel
theorem dX6_belief_119 : decode cX6_belief 119 = .ok (.iload 7, 2) := by decide +kernel
theorem dX6_belief_121 : decode cX6_belief 121 = .ok (.idiv, 1) := by decide +kernel
theorem dX6_belief_122 : decode cX6_belief 122 = .ok (.ireturn, 1) := by decide +kernel
set_option maxRecDepth 20000 in
theorem ggX6_tenTo_X6_power : GoodIn wsX6_tenTo wsX6_power := goodIn_r _ [4] (by decide +kernel) (by decide +kernel)
set_option maxRecDepth 20000 in
theorem gX6_tenTo_X6_power : GoodIn wsX6_tenTo (va_wsS RX6 170 yX6_power wsX6_power) := goodIn_app (goodIn_of _ (by decide +kernel)) ggX6_tenTo_X6_power
theorem dX6_tenTo_0 : decode cX6_tenTo 0 = .ok (.bipush 10, 2) := by decide +kernel
theorem dX6_tenTo_2 : decode cX6_tenTo 2 = .ok (.iload_n 0, 1) := by decide +kernel
theorem dX6_tenTo_3 : decode cX6_tenTo 3 = .ok (.invokestatic 170, 3) := by decide +kernel
theorem dX6_tenTo_6 : decode cX6_tenTo 6 = .ok (.ireturn, 1) := by decide +kernel
set_option maxRecDepth 20000 in
theorem ggX6_tryThing_X6_canTry : GoodIn wsX6_tryThing wsX6_canTry := goodIn_r _ [6, 1, 7, 57, 58, 59, 60, 61, 62, 63, 64, 65, 66, 67, 68, 69, 70, 71, 72, 73, 74, 75, 76, 77, 78, 79, 80] (by decide +kernel) (by decide +kernel)
set_option maxRecDepth 20000 in
theorem gX6_tryThing_X6_canTry : GoodIn wsX6_tryThing (wsV RX6 136 RX6 yX6_canTry wsX6_canTry) := goodIn_app (goodIn_of _ (by decide +kernel)) ggX6_tryThing_X6_canTry
set_option maxRecDepth 20000 in
theorem ggX6_tryThing_X6_tryOn : GoodIn wsX6_tryThing wsX6_tryOn := goodIn_r _ [11, 1, 12, 13, 14, 15, 5, 16, 17, 18, 19, 20, 21, 22, 23, 24, 25, 26, 27, 28, 29, 30, 31, 32, 33, 34, 35, 36, 37, 38, 39, 40, 41, 42, 43, 44, 45, 46, 47, 48, 49, 50, 51, 52, 53, 54, 55, 56, 57, 58, 59, 60, 61, 62, 63, 64, 65, 66, 67, 68, 69, 70, 71, 72, 73, 74, 75, 76, 77, 78, 79, 80] (by decide +kernel) (by decide +kernel)
set_option maxRecDepth 20000 in
theorem gX6_tryThing_X6_tryOn : GoodIn wsX6_tryThing (wsV RX6 142 RX6 yX6_tryOn wsX6_tryOn) := goodIn_app (goodIn_of _ (by decide +kernel)) ggX6_tryThing_X6_tryOn
set_option maxRecDepth 20000 in
theorem ggX6_tryThing_X6_isCasket : GoodIn wsX6_tryThing wsX6_isCasket := goodIn_r _ [44, 17, 45, 46, 5, 47, 57, 58, 59, 60, 61, 62, 63, 64, 65, 66, 67, 68, 69, 70, 71, 72, 73, 74, 75, 76, 77, 78, 79, 80] (by decide +kernel) (by decide +kernel)
set_option maxRecDepth 20000 in
theorem gX6_tryThing_X6_isCasket : GoodIn wsX6_tryThing (wsV RX6 99 RX6 yX6_isCasket wsX6_isCasket) := goodIn_app (goodIn_of _ (by decide +kernel)) ggX6_tryThing_X6_isCasket
theorem dX6_tryThing_0 : decode cX6_tryThing 0 = .ok (.iload_n 1, 1) := by decide +kernel
theorem dX6_tryThing_1 : decode cX6_tryThing 1 = .ok (.bipush 10, 2) := by decide +kernel
theorem dX6_tryThing_3 : decode cX6_tryThing 3 = .ok (.irem, 1) := by decide +kernel
theorem dX6_tryThing_4 : decode cX6_tryThing 4 = .ok (.istore_n 2, 1) := by decide +kernel
theorem dX6_tryThing_5 : decode cX6_tryThing 5 = .ok (.iload_n 1, 1) := by decide +kernel
theorem dX6_tryThing_6 : decode cX6_tryThing 6 = .ok (.ifCond .ne 21, 3) := by decide +kernel
theorem dX6_tryThing_9 : decode cX6_tryThing 9 = .ok (.aload_n 0, 1) := by decide +kernel
theorem dX6_tryThing_10 : decode cX6_tryThing 10 = .ok (.iconst 1, 1) := by decide +kernel
theorem dX6_tryThing_11 : decode cX6_tryThing 11 = .ok (.invokevirtual 136, 3) := by decide +kernel
theorem dX6_tryThing_14 : decode cX6_tryThing 14 = .ok (.istore_n 3, 1) := by decide +kernel
theorem dX6_tryThing_15 : decode cX6_tryThing 15 = .ok (.iload_n 3, 1) := by decide +kernel
theorem dX6_tryThing_16 : decode cX6_tryThing 16 = .ok (.ifCond .eq 9, 3) := by decide +kernel
theorem dX6_tryThing_19 : decode cX6_tryThing 19 = .ok (.aload_n 0, 1) := by decide +kernel
theorem dX6_tryThing_20 : decode cX6_tryThing 20 = .ok (.iconst 1, 1) := by decide +kernel
theorem dX6_tryThing_21 : decode cX6_tryThing 21 = .ok (.invokevirtual 142, 3) := by decide +kernel
theorem dX6_tryThing_24 : decode cX6_tryThing 24 = .ok (.pop, 1) := by decide +kernel
theorem dX6_tryThing_25 : decode cX6_tryThing 25 = .ok (.iload_n 3, 1) := by decide +kernel
theorem dX6_tryThing_26 : decode cX6_tryThing 26 = .ok (.ireturn, 1) := by decide +kernel
theorem dX6_tryThing_27 : decode cX6_tryThing 27 = .ok (.iload_n 1, 1) := by decide +kernel
theorem dX6_tryThing_28 : decode cX6_tryThing 28 = .ok (.bipush 10, 2) := by decide +kernel
theorem dX6_tryThing_30 : decode cX6_tryThing 30 = .ok (.idiv, 1) := by decide +kernel
theorem dX6_tryThing_31 : decode cX6_tryThing 31 = .ok (.iconst 1, 1) := by decide +kernel
theorem dX6_tryThing_32 : decode cX6_tryThing 32 = .ok (.if_icmp .ne 32, 3) := by decide +kernel
theorem dX6_tryThing_35 : decode cX6_tryThing 35 = .ok (.aload_n 0, 1) := by decide +kernel
theorem dX6_tryThing_36 : decode cX6_tryThing 36 = .ok (.iload_n 2, 1) := by decide +kernel
theorem dX6_tryThing_37 : decode cX6_tryThing 37 = .ok (.invokevirtual 99, 3) := by decide +kernel
theorem dX6_tryThing_40 : decode cX6_tryThing 40 = .ok (.ifCond .eq 24, 3) := by decide +kernel
theorem dX6_tryThing_43 : decode cX6_tryThing 43 = .ok (.aload_n 0, 1) := by decide +kernel
theorem dX6_tryThing_44 : decode cX6_tryThing 44 = .ok (.getfield 16, 3) := by decide +kernel
theorem dX6_tryThing_47 : decode cX6_tryThing 47 = .ok (.bipush 26, 2) := by decide +kernel
theorem dX6_tryThing_49 : decode cX6_tryThing 49 = .ok (.iaload, 1) := by decide +kernel
theorem dX6_tryThing_50 : decode cX6_tryThing 50 = .ok (.iload_n 2, 1) := by decide +kernel
theorem dX6_tryThing_51 : decode cX6_tryThing 51 = .ok (.if_icmp .eq 13, 3) := by decide +kernel
theorem dX6_tryThing_54 : decode cX6_tryThing 54 = .ok (.aload_n 0, 1) := by decide +kernel
theorem dX6_tryThing_55 : decode cX6_tryThing 55 = .ok (.getfield 16, 3) := by decide +kernel
theorem dX6_tryThing_58 : decode cX6_tryThing 58 = .ok (.bipush 26, 2) := by decide +kernel
theorem dX6_tryThing_60 : decode cX6_tryThing 60 = .ok (.iload_n 2, 1) := by decide +kernel
theorem dX6_tryThing_61 : decode cX6_tryThing 61 = .ok (.iastore, 1) := by decide +kernel
theorem dX6_tryThing_62 : decode cX6_tryThing 62 = .ok (.iconst 1, 1) := by decide +kernel
theorem dX6_tryThing_63 : decode cX6_tryThing 63 = .ok (.ireturn, 1) := by decide +kernel
theorem dX6_tryThing_64 : decode cX6_tryThing 64 = .ok (.iload_n 1, 1) := by decide +kernel
theorem dX6_tryThing_65 : decode cX6_tryThing 65 = .ok (.bipush 10, 2) := by decide +kernel
theorem dX6_tryThing_67 : decode cX6_tryThing 67 = .ok (.idiv, 1) := by decide +kernel
theorem dX6_tryThing_68 : decode cX6_tryThing 68 = .ok (.iconst 2, 1) := by decide +kernel
theorem dX6_tryThing_69 : decode cX6_tryThing 69 = .ok (.if_icmp .ne 26, 3) := by decide +kernel
theorem dX6_tryThing_72 : decode cX6_tryThing 72 = .ok (.aload_n 0, 1) := by decide +kernel
theorem dX6_tryThing_73 : decode cX6_tryThing 73 = .ok (.iload_n 2, 1) := by decide +kernel
theorem dX6_tryThing_74 : decode cX6_tryThing 74 = .ok (.invokevirtual 99, 3) := by decide +kernel
theorem dX6_tryThing_77 : decode cX6_tryThing 77 = .ok (.ifCond .eq 18, 3) := by decide +kernel
theorem dX6_tryThing_80 : decode cX6_tryThing 80 = .ok (.aload_n 0, 1) := by decide +kernel
theorem dX6_tryThing_81 : decode cX6_tryThing 81 = .ok (.getfield 16, 3) := by decide +kernel
theorem dX6_tryThing_84 : decode cX6_tryThing 84 = .ok (.bipush 27, 2) := by decide +kernel
theorem dX6_tryThing_86 : decode cX6_tryThing 86 = .ok (.dup2, 1) := by decide +kernel
theorem dX6_tryThing_87 : decode cX6_tryThing 87 = .ok (.iaload, 1) := by decide +kernel
theorem dX6_tryThing_88 : decode cX6_tryThing 88 = .ok (.iconst 1, 1) := by decide +kernel
theorem dX6_tryThing_89 : decode cX6_tryThing 89 = .ok (.iload_n 2, 1) := by decide +kernel
theorem dX6_tryThing_90 : decode cX6_tryThing 90 = .ok (.ishl, 1) := by decide +kernel
theorem dX6_tryThing_91 : decode cX6_tryThing 91 = .ok (.ixor, 1) := by decide +kernel
theorem dX6_tryThing_92 : decode cX6_tryThing 92 = .ok (.iastore, 1) := by decide +kernel
theorem dX6_tryThing_93 : decode cX6_tryThing 93 = .ok (.iconst 1, 1) := by decide +kernel
theorem dX6_tryThing_94 : decode cX6_tryThing 94 = .ok (.ireturn, 1) := by decide +kernel
theorem dX6_tryThing_95 : decode cX6_tryThing 95 = .ok (.iconst 0, 1) := by decide +kernel
theorem dX6_tryThing_96 : decode cX6_tryThing 96 = .ok (.ireturn, 1) := by decide +kernel
set_option maxRecDepth 20000 in
theorem ggX6_judge_X6_in : GoodIn wsX6_judge wsX6_in := goodIn_r _ [5] (by decide +kernel) (by decide +kernel)
set_option maxRecDepth 20000 in
theorem gX6_judge_X6_in : GoodIn wsX6_judge (va_wsS RX6 47 yX6_in wsX6_in) := goodIn_app (goodIn_of _ (by decide +kernel)) ggX6_judge_X6_in
set_option maxRecDepth 20000 in
theorem ggX6_judge_X6_tenTo : GoodIn wsX6_judge wsX6_tenTo := goodIn_r _ [8, 9, 10, 4, 11] (by decide +kernel) (by decide +kernel)
set_option maxRecDepth 20000 in
theorem gX6_judge_X6_tenTo : GoodIn wsX6_judge (va_wsS RX6 181 yX6_tenTo wsX6_tenTo) := goodIn_app (goodIn_of _ (by decide +kernel)) ggX6_judge_X6_tenTo
set_option maxRecDepth 20000 in
theorem ggX6_judge_X6_layTrial : GoodIn wsX6_judge wsX6_layTrial := goodIn_r _ [15, 16, 72, 73, 74, 75, 76, 77, 78, 79, 80, 81, 82, 83, 84, 85, 86, 87, 88, 89, 90, 91, 92, 93, 94, 95] (by decide +kernel) (by decide +kernel)
set_option maxRecDepth 20000 in
theorem gX6_judge_X6_layTrial : GoodIn wsX6_judge (wsV RX6 149 RX6 yX6_layTrial wsX6_layTrial) := goodIn_app (goodIn_of _ (by decide +kernel)) ggX6_judge_X6_layTrial
set_option maxRecDepth 20000 in
theorem ggX6_judge_X6_tryThing : GoodIn wsX6_judge wsX6_tryThing := goodIn_r _ [20, 16, 21, 22, 23, 4, 24, 25, 26, 27, 28, 29, 30, 31, 32, 33, 34, 35, 36, 37, 38, 39, 40, 41, 42, 43, 44, 45, 46, 47, 48, 49, 50, 51, 52, 53, 54, 55, 56, 57, 58, 59, 60, 61, 62, 2, 3, 5, 63, 64, 65, 66, 67, 68, 69, 70, 71, 72, 73, 74, 75, 76, 77, 78, 79, 80, 81, 82, 83, 84, 85, 86, 87, 88, 89, 90, 91, 92, 93, 94, 95] (by decide +kernel) (by decide +kernel)
set_option maxRecDepth 20000 in
theorem gX6_judge_X6_tryThing : GoodIn wsX6_judge (wsV RX6 184 RX6 yX6_tryThing wsX6_tryThing) := goodIn_app (goodIn_of _ (by decide +kernel)) ggX6_judge_X6_tryThing
theorem dX6_judge_0 : decode cX6_judge 0 = .ok (.iload_n 1, 1) := by decide +kernel
theorem dX6_judge_1 : decode cX6_judge 1 = .ok (.i2l, 1) := by decide +kernel
theorem dX6_judge_2 : decode cX6_judge 2 = .ok (.lconst 1, 1) := by decide +kernel
theorem dX6_judge_3 : decode cX6_judge 3 = .ok (.ldc2_w 179, 3) := by decide +kernel
theorem dX6_judge_6 : decode cX6_judge 6 = .ok (.invokestatic 47, 3) := by decide +kernel
theorem dX6_judge_9 : decode cX6_judge 9 = .ok (.ifCond .eq 21, 3) := by decide +kernel
theorem dX6_judge_12 : decode cX6_judge 12 = .ok (.iload_n 2, 1) := by decide +kernel
theorem dX6_judge_13 : decode cX6_judge 13 = .ok (.i2l, 1) := by decide +kernel
theorem dX6_judge_14 : decode cX6_judge 14 = .ok (.lconst 0, 1) := by decide +kernel
theorem dX6_judge_15 : decode cX6_judge 15 = .ok (.iconst 2, 1) := by decide +kernel
theorem dX6_judge_16 : decode cX6_judge 16 = .ok (.iload_n 1, 1) := by decide +kernel
theorem dX6_judge_17 : decode cX6_judge 17 = .ok (.imul, 1) := by decide +kernel
theorem dX6_judge_18 : decode cX6_judge 18 = .ok (.invokestatic 181, 3) := by decide +kernel
theorem dX6_judge_21 : decode cX6_judge 21 = .ok (.iconst 1, 1) := by decide +kernel
theorem dX6_judge_22 : decode cX6_judge 22 = .ok (.isub, 1) := by decide +kernel
theorem dX6_judge_23 : decode cX6_judge 23 = .ok (.i2l, 1) := by decide +kernel
theorem dX6_judge_24 : decode cX6_judge 24 = .ok (.invokestatic 47, 3) := by decide +kernel
theorem dX6_judge_27 : decode cX6_judge 27 = .ok (.ifCond .ne 6, 3) := by decide +kernel
theorem dX6_judge_30 : decode cX6_judge 30 = .ok (.bipush (-2), 2) := by decide +kernel
theorem dX6_judge_32 : decode cX6_judge 32 = .ok (.ireturn, 1) := by decide +kernel
theorem dX6_judge_33 : decode cX6_judge 33 = .ok (.aload_n 0, 1) := by decide +kernel
theorem dX6_judge_34 : decode cX6_judge 34 = .ok (.invokevirtual 149, 3) := by decide +kernel
theorem dX6_judge_37 : decode cX6_judge 37 = .ok (.iconst 0, 1) := by decide +kernel
theorem dX6_judge_38 : decode cX6_judge 38 = .ok (.istore_n 3, 1) := by decide +kernel
theorem dX6_judge_39 : decode cX6_judge 39 = .ok (.iload_n 3, 1) := by decide +kernel
theorem dX6_judge_40 : decode cX6_judge 40 = .ok (.iload_n 1, 1) := by decide +kernel
theorem dX6_judge_41 : decode cX6_judge 41 = .ok (.if_icmp .ge 33, 3) := by decide +kernel
theorem dX6_judge_44 : decode cX6_judge 44 = .ok (.aload_n 0, 1) := by decide +kernel
theorem dX6_judge_45 : decode cX6_judge 45 = .ok (.iload_n 2, 1) := by decide +kernel
theorem dX6_judge_46 : decode cX6_judge 46 = .ok (.iconst 2, 1) := by decide +kernel
theorem dX6_judge_47 : decode cX6_judge 47 = .ok (.iload_n 1, 1) := by decide +kernel
theorem dX6_judge_48 : decode cX6_judge 48 = .ok (.iconst 1, 1) := by decide +kernel
theorem dX6_judge_49 : decode cX6_judge 49 = .ok (.isub, 1) := by decide +kernel
theorem dX6_judge_50 : decode cX6_judge 50 = .ok (.iload_n 3, 1) := by decide +kernel
theorem dX6_judge_51 : decode cX6_judge 51 = .ok (.isub, 1) := by decide +kernel
theorem dX6_judge_52 : decode cX6_judge 52 = .ok (.imul, 1) := by decide +kernel
theorem dX6_judge_53 : decode cX6_judge 53 = .ok (.invokestatic 181, 3) := by decide +kernel
theorem dX6_judge_56 : decode cX6_judge 56 = .ok (.idiv, 1) := by decide +kernel
theorem dX6_judge_57 : decode cX6_judge 57 = .ok (.bipush 100, 2) := by decide +kernel
theorem dX6_judge_59 : decode cX6_judge 59 = .ok (.irem, 1) := by decide +kernel
theorem dX6_judge_60 : decode cX6_judge 60 = .ok (.invokevirtual 184, 3) := by decide +kernel
theorem dX6_judge_63 : decode cX6_judge 63 = .ok (.ifCond .ne 5, 3) := by decide +kernel
theorem dX6_judge_66 : decode cX6_judge 66 = .ok (.iload_n 3, 1) := by decide +kernel
theorem dX6_judge_67 : decode cX6_judge 67 = .ok (.ireturn, 1) := by decide +kernel
theorem dX6_judge_68 : decode cX6_judge 68 = .ok (.iinc 3 1, 3) := by decide +kernel
theorem dX6_judge_71 : decode cX6_judge 71 = .ok (.goto (-32), 3) := by decide +kernel
theorem dX6_judge_74 : decode cX6_judge 74 = .ok (.bipush (-9), 2) := by decide +kernel
theorem dX6_judge_76 : decode cX6_judge 76 = .ok (.ireturn, 1) := by decide +kernel
theorem dX6_factorial_0 : decode cX6_factorial 0 = .ok (.iconst 1, 1) := by decide +kernel
theorem dX6_factorial_1 : decode cX6_factorial 1 = .ok (.istore_n 1, 1) := by decide +kernel
theorem dX6_factorial_2 : decode cX6_factorial 2 = .ok (.iconst 2, 1) := by decide +kernel
theorem dX6_factorial_3 : decode cX6_factorial 3 = .ok (.istore_n 2, 1) := by decide +kernel
theorem dX6_factorial_4 : decode cX6_factorial 4 = .ok (.iload_n 2, 1) := by decide +kernel
theorem dX6_factorial_5 : decode cX6_factorial 5 = .ok (.iload_n 0, 1) := by decide +kernel
theorem dX6_factorial_6 : decode cX6_factorial 6 = .ok (.if_icmp .gt 13, 3) := by decide +kernel
theorem dX6_factorial_9 : decode cX6_factorial 9 = .ok (.iload_n 1, 1) := by decide +kernel
theorem dX6_factorial_10 : decode cX6_factorial 10 = .ok (.iload_n 2, 1) := by decide +kernel
theorem dX6_factorial_11 : decode cX6_factorial 11 = .ok (.imul, 1) := by decide +kernel
theorem dX6_factorial_12 : decode cX6_factorial 12 = .ok (.istore_n 1, 1) := by decide +kernel
theorem dX6_factorial_13 : decode cX6_factorial 13 = .ok (.iinc 2 1, 3) := by decide +kernel
theorem dX6_factorial_16 : decode cX6_factorial 16 = .ok (.goto (-12), 3) := by decide +kernel
theorem dX6_factorial_19 : decode cX6_factorial 19 = .ok (.iload_n 1, 1) := by decide +kernel
theorem dX6_factorial_20 : decode cX6_factorial 20 = .ok (.ireturn, 1) := by decide +kernel
set_option maxRecDepth 20000 in
theorem ggX6_share_X6_isCasket : GoodIn wsX6_share wsX6_isCasket := goodIn_r _ [7, 2, 8, 9, 6, 10, 45, 46, 47, 48, 49, 50, 51, 52, 53, 54, 55, 56, 57, 58, 59, 60, 61, 62, 63, 64, 65, 66, 67, 68] (by decide +kernel) (by decide +kernel)
set_option maxRecDepth 20000 in
theorem gX6_share_X6_isCasket : GoodIn wsX6_share (wsV RX6 99 RX6 yX6_isCasket wsX6_isCasket) := goodIn_app (goodIn_of _ (by decide +kernel)) ggX6_share_X6_isCasket
set_option maxRecDepth 20000 in
theorem ggX6_share_X6_all : GoodIn wsX6_share wsX6_all := goodIn_r _ [14, 2, 45, 46, 47, 48, 49, 50, 51, 52, 53, 54, 55, 56, 57, 58, 59, 60, 61, 62, 63, 64, 65, 66, 67, 68] (by decide +kernel) (by decide +kernel)
set_option maxRecDepth 20000 in
theorem gX6_share_X6_all : GoodIn wsX6_share (wsV RX6 110 RX6 yX6_all wsX6_all) := goodIn_app (goodIn_of _ (by decide +kernel)) ggX6_share_X6_all
set_option maxRecDepth 20000 in
theorem ggX6_share_X6_fitsOn : GoodIn wsX6_share wsX6_fitsOn := goodIn_r _ [18, 2, 19, 20, 21, 6, 22, 11, 12, 13, 14, 23, 24, 25, 26, 27, 28, 29, 30, 31, 32, 33, 34, 35, 36, 37, 38, 3, 4, 5, 7, 8, 9, 10, 45, 46, 47, 48, 49, 50, 51, 52, 53, 54, 55, 56, 57, 58, 59, 60, 61, 62, 63, 64, 65, 66, 67, 68] (by decide +kernel) (by decide +kernel)
set_option maxRecDepth 20000 in
theorem gX6_share_X6_fitsOn : GoodIn wsX6_share (wsV RX6 126 RX6 yX6_fitsOn wsX6_fitsOn) := goodIn_app (goodIn_of _ (by decide +kernel)) ggX6_share_X6_fitsOn
set_option maxRecDepth 20000 in
theorem ggX6_share_X6_ones : GoodIn wsX6_share wsX6_ones := goodIn_r _ [30] (by decide +kernel) (by decide +kernel)
set_option maxRecDepth 20000 in
theorem gX6_share_X6_ones : GoodIn wsX6_share (va_wsS RX6 103 yX6_ones wsX6_ones) := goodIn_app (goodIn_of _ (by decide +kernel)) ggX6_share_X6_ones
set_option maxRecDepth 20000 in
theorem ggX6_share_X6_has : GoodIn wsX6_share wsX6_has := goodIn_r _ [33] (by decide +kernel) (by decide +kernel)
set_option maxRecDepth 20000 in
theorem gX6_share_X6_has : GoodIn wsX6_share (va_wsS RX6 62 yX6_has wsX6_has) := goodIn_app (goodIn_of _ (by decide +kernel)) ggX6_share_X6_has
set_option maxRecDepth 20000 in
theorem ggX6_share_X6_factorial : GoodIn wsX6_share wsX6_factorial := goodIn_r _ [41] (by decide +kernel) (by decide +kernel)
set_option maxRecDepth 20000 in
theorem gX6_share_X6_factorial : GoodIn wsX6_share (va_wsS RX6 187 yX6_factorial wsX6_factorial) := goodIn_app (goodIn_of _ (by decide +kernel)) ggX6_share_X6_factorial
set_option maxRecDepth 20000 in
theorem ggX6_share_X6_common : GoodIn wsX6_share wsX6_common := goodIn_r _ [44] (by decide +kernel) (by decide +kernel)
set_option maxRecDepth 20000 in
theorem gX6_share_X6_common : GoodIn wsX6_share (va_wsS RX6 176 yX6_common wsX6_common) := goodIn_app (goodIn_of _ (by decide +kernel)) ggX6_share_X6_common
theorem dX6_share_0 : decode cX6_share 0 = .ok (.aload_n 0, 1) := by decide +kernel
theorem dX6_share_1 : decode cX6_share 1 = .ok (.iload_n 1, 1) := by decide +kernel
theorem dX6_share_2 : decode cX6_share 2 = .ok (.invokevirtual 99, 3) := by decide +kernel
theorem dX6_share_5 : decode cX6_share 5 = .ok (.ifCond .ne 5, 3) := by decide +kernel
theorem dX6_share_8 : decode cX6_share 8 = .ok (.iconst (-1), 1) := by decide +kernel
theorem dX6_share_9 : decode cX6_share 9 = .ok (.ireturn, 1) := by decide +kernel
theorem dX6_share_10 : decode cX6_share 10 = .ok (.iconst 0, 1) := by decide +kernel
theorem dX6_share_11 : decode cX6_share 11 = .ok (.istore_n 3, 1) := by decide +kernel
theorem dX6_share_12 : decode cX6_share 12 = .ok (.iload_n 3, 1) := by decide +kernel
theorem dX6_share_13 : decode cX6_share 13 = .ok (.aload_n 0, 1) := by decide +kernel
theorem dX6_share_14 : decode cX6_share 14 = .ok (.invokevirtual 110, 3) := by decide +kernel
theorem dX6_share_17 : decode cX6_share 17 = .ok (.if_icmp .gt 29, 3) := by decide +kernel
theorem dX6_share_20 : decode cX6_share 20 = .ok (.aload_n 0, 1) := by decide +kernel
theorem dX6_share_21 : decode cX6_share 21 = .ok (.getfield 31, 3) := by decide +kernel
theorem dX6_share_24 : decode cX6_share 24 = .ok (.iload_n 3, 1) := by decide +kernel
theorem dX6_share_25 : decode cX6_share 25 = .ok (.aload_n 0, 1) := by decide +kernel
theorem dX6_share_26 : decode cX6_share 26 = .ok (.getfield 90, 3) := by decide +kernel
theorem dX6_share_29 : decode cX6_share 29 = .ok (.aload_n 0, 1) := by decide +kernel
theorem dX6_share_30 : decode cX6_share 30 = .ok (.iconst 0, 1) := by decide +kernel
theorem dX6_share_31 : decode cX6_share 31 = .ok (.iload_n 3, 1) := by decide +kernel
theorem dX6_share_32 : decode cX6_share 32 = .ok (.invokevirtual 126, 3) := by decide +kernel
theorem dX6_share_35 : decode cX6_share 35 = .ok (.invokestatic 103, 3) := by decide +kernel
theorem dX6_share_38 : decode cX6_share 38 = .ok (.isub, 1) := by decide +kernel
theorem dX6_share_39 : decode cX6_share 39 = .ok (.iastore, 1) := by decide +kernel
theorem dX6_share_40 : decode cX6_share 40 = .ok (.iinc 3 1, 3) := by decide +kernel
theorem dX6_share_43 : decode cX6_share 43 = .ok (.goto (-31), 3) := by decide +kernel
theorem dX6_share_46 : decode cX6_share 46 = .ok (.iconst 0, 1) := by decide +kernel
theorem dX6_share_47 : decode cX6_share 47 = .ok (.istore_n 3, 1) := by decide +kernel
theorem dX6_share_48 : decode cX6_share 48 = .ok (.iconst 0, 1) := by decide +kernel
theorem dX6_share_49 : decode cX6_share 49 = .ok (.istore 4, 2) := by decide +kernel
theorem dX6_share_51 : decode cX6_share 51 = .ok (.iload 4, 2) := by decide +kernel
theorem dX6_share_53 : decode cX6_share 53 = .ok (.aload_n 0, 1) := by decide +kernel
theorem dX6_share_54 : decode cX6_share 54 = .ok (.invokevirtual 110, 3) := by decide +kernel
theorem dX6_share_57 : decode cX6_share 57 = .ok (.if_icmp .gt 69, 3) := by decide +kernel
theorem dX6_share_60 : decode cX6_share 60 = .ok (.iload 4, 2) := by decide +kernel
theorem dX6_share_62 : decode cX6_share 62 = .ok (.iload_n 1, 1) := by decide +kernel
theorem dX6_share_63 : decode cX6_share 63 = .ok (.invokestatic 62, 3) := by decide +kernel
theorem dX6_share_66 : decode cX6_share 66 = .ok (.ifCond .ne 54, 3) := by decide +kernel
theorem dX6_share_69 : decode cX6_share 69 = .ok (.iload 4, 2) := by decide +kernel
theorem dX6_share_71 : decode cX6_share 71 = .ok (.invokestatic 103, 3) := by decide +kernel
theorem dX6_share_74 : decode cX6_share 74 = .ok (.invokestatic 187, 3) := by decide +kernel
theorem dX6_share_77 : decode cX6_share 77 = .ok (.aload_n 0, 1) := by decide +kernel
theorem dX6_share_78 : decode cX6_share 78 = .ok (.getfield 90, 3) := by decide +kernel
theorem dX6_share_81 : decode cX6_share 81 = .ok (.iconst 1, 1) := by decide +kernel
theorem dX6_share_82 : decode cX6_share 82 = .ok (.isub, 1) := by decide +kernel
theorem dX6_share_83 : decode cX6_share 83 = .ok (.iload 4, 2) := by decide +kernel
theorem dX6_share_85 : decode cX6_share 85 = .ok (.invokestatic 103, 3) := by decide +kernel
theorem dX6_share_88 : decode cX6_share 88 = .ok (.isub, 1) := by decide +kernel
theorem dX6_share_89 : decode cX6_share 89 = .ok (.invokestatic 187, 3) := by decide +kernel
theorem dX6_share_92 : decode cX6_share 92 = .ok (.imul, 1) := by decide +kernel
theorem dX6_share_93 : decode cX6_share 93 = .ok (.istore 5, 2) := by decide +kernel
theorem dX6_share_95 : decode cX6_share 95 = .ok (.iload_n 3, 1) := by decide +kernel
theorem dX6_share_96 : decode cX6_share 96 = .ok (.iload 5, 2) := by decide +kernel
theorem dX6_share_98 : decode cX6_share 98 = .ok (.aload_n 0, 1) := by decide +kernel
theorem dX6_share_99 : decode cX6_share 99 = .ok (.getfield 31, 3) := by decide +kernel
theorem dX6_share_102 : decode cX6_share 102 = .ok (.iload 4, 2) := by decide +kernel
theorem dX6_share_104 : decode cX6_share 104 = .ok (.iconst 1, 1) := by decide +kernel
theorem dX6_share_105 : decode cX6_share 105 = .ok (.iload_n 1, 1) := by decide +kernel
theorem dX6_share_106 : decode cX6_share 106 = .ok (.ishl, 1) := by decide +kernel
theorem dX6_share_107 : decode cX6_share 107 = .ok (.ior, 1) := by decide +kernel
theorem dX6_share_108 : decode cX6_share 108 = .ok (.iaload, 1) := by decide +kernel
theorem dX6_share_109 : decode cX6_share 109 = .ok (.aload_n 0, 1) := by decide +kernel
theorem dX6_share_110 : decode cX6_share 110 = .ok (.getfield 31, 3) := by decide +kernel
theorem dX6_share_113 : decode cX6_share 113 = .ok (.iload 4, 2) := by decide +kernel
theorem dX6_share_115 : decode cX6_share 115 = .ok (.iaload, 1) := by decide +kernel
theorem dX6_share_116 : decode cX6_share 116 = .ok (.isub, 1) := by decide +kernel
theorem dX6_share_117 : decode cX6_share 117 = .ok (.imul, 1) := by decide +kernel
theorem dX6_share_118 : decode cX6_share 118 = .ok (.iadd, 1) := by decide +kernel
theorem dX6_share_119 : decode cX6_share 119 = .ok (.istore_n 3, 1) := by decide +kernel
theorem dX6_share_120 : decode cX6_share 120 = .ok (.iinc 4 1, 3) := by decide +kernel
theorem dX6_share_123 : decode cX6_share 123 = .ok (.goto (-72), 3) := by decide +kernel
theorem dX6_share_126 : decode cX6_share 126 = .ok (.iload_n 3, 1) := by decide +kernel
theorem dX6_share_127 : decode cX6_share 127 = .ok (.aload_n 0, 1) := by decide +kernel
theorem dX6_share_128 : decode cX6_share 128 = .ok (.getfield 90, 3) := by decide +kernel
theorem dX6_share_131 : decode cX6_share 131 = .ok (.invokestatic 187, 3) := by decide +kernel
theorem dX6_share_134 : decode cX6_share 134 = .ok (.invokestatic 176, 3) := by decide +kernel
theorem dX6_share_137 : decode cX6_share 137 = .ok (.istore 4, 2) := by decide +kernel
theorem dX6_share_139 : decode cX6_share 139 = .ok (.iload_n 2, 1) := by decide +kernel
theorem dX6_share_140 : decode cX6_share 140 = .ok (.ifCond .eq 10, 3) := by decide +kernel
theorem dX6_share_143 : decode cX6_share 143 = .ok (.iload_n 3, 1) := by decide +kernel
theorem dX6_share_144 : decode cX6_share 144 = .ok (.iload 4, 2) := by decide +kernel
theorem dX6_share_146 : decode cX6_share 146 = .ok (.idiv, 1) := by decide +kernel
theorem dX6_share_147 : decode cX6_share 147 = .ok (.goto 13, 3) := by decide +kernel
theorem dX6_share_150 : decode cX6_share 150 = .ok (.aload_n 0, 1) := by decide +kernel
theorem dX6_share_151 : decode cX6_share 151 = .ok (.getfield 90, 3) := by decide +kernel
theorem dX6_share_154 : decode cX6_share 154 = .ok (.invokestatic 187, 3) := by decide +kernel
theorem dX6_share_157 : decode cX6_share 157 = .ok (.iload 4, 2) := by decide +kernel
theorem dX6_share_159 : decode cX6_share 159 = .ok (.idiv, 1) := by decide +kernel
theorem dX6_share_160 : decode cX6_share 160 = .ok (.ireturn, 1) := by decide +kernel
set_option maxRecDepth 20000 in
theorem ggX6_gain_X6_has : GoodIn wsX6_gain wsX6_has := goodIn_r _ [4] (by decide +kernel) (by decide +kernel)
set_option maxRecDepth 20000 in
theorem gX6_gain_X6_has : GoodIn wsX6_gain (va_wsS RX6 62 yX6_has wsX6_has) := goodIn_app (goodIn_of _ (by decide +kernel)) ggX6_gain_X6_has
set_option maxRecDepth 20000 in
theorem ggX6_gain_X6_ones : GoodIn wsX6_gain wsX6_ones := goodIn_r _ [7] (by decide +kernel) (by decide +kernel)
set_option maxRecDepth 20000 in
theorem gX6_gain_X6_ones : GoodIn wsX6_gain (va_wsS RX6 103 yX6_ones wsX6_ones) := goodIn_app (goodIn_of _ (by decide +kernel)) ggX6_gain_X6_ones
theorem dX6_gain_0 : decode cX6_gain 0 = .ok (.iload_n 2, 1) := by decide +kernel
theorem dX6_gain_1 : decode cX6_gain 1 = .ok (.ifCond .ne 5, 3) := by decide +kernel
theorem dX6_gain_4 : decode cX6_gain 4 = .ok (.iconst 0, 1) := by decide +kernel
theorem dX6_gain_5 : decode cX6_gain 5 = .ok (.ireturn, 1) := by decide +kernel
theorem dX6_gain_6 : decode cX6_gain 6 = .ok (.iload_n 1, 1) := by decide +kernel
theorem dX6_gain_7 : decode cX6_gain 7 = .ok (.iload_n 2, 1) := by decide +kernel
theorem dX6_gain_8 : decode cX6_gain 8 = .ok (.iconst 1, 1) := by decide +kernel
theorem dX6_gain_9 : decode cX6_gain 9 = .ok (.isub, 1) := by decide +kernel
theorem dX6_gain_10 : decode cX6_gain 10 = .ok (.invokestatic 62, 3) := by decide +kernel
theorem dX6_gain_13 : decode cX6_gain 13 = .ok (.ifCond .eq 13, 3) := by decide +kernel
theorem dX6_gain_16 : decode cX6_gain 16 = .ok (.bipush 12, 2) := by decide +kernel
theorem dX6_gain_18 : decode cX6_gain 18 = .ok (.iload_n 1, 1) := by decide +kernel
theorem dX6_gain_19 : decode cX6_gain 19 = .ok (.invokestatic 103, 3) := by decide +kernel
theorem dX6_gain_22 : decode cX6_gain 22 = .ok (.idiv, 1) := by decide +kernel
theorem dX6_gain_23 : decode cX6_gain 23 = .ok (.goto 4, 3) := by decide +kernel
theorem dX6_gain_26 : decode cX6_gain 26 = .ok (.iconst 0, 1) := by decide +kernel
theorem dX6_gain_27 : decode cX6_gain 27 = .ok (.istore 4, 2) := by decide +kernel
theorem dX6_gain_29 : decode cX6_gain 29 = .ok (.iload_n 2, 1) := by decide +kernel
theorem dX6_gain_30 : decode cX6_gain 30 = .ok (.iload_n 3, 1) := by decide +kernel
theorem dX6_gain_31 : decode cX6_gain 31 = .ok (.if_icmp .ne 10, 3) := by decide +kernel
theorem dX6_gain_34 : decode cX6_gain 34 = .ok (.iload 4, 2) := by decide +kernel
theorem dX6_gain_36 : decode cX6_gain 36 = .ok (.iconst 2, 1) := by decide +kernel
theorem dX6_gain_37 : decode cX6_gain 37 = .ok (.idiv, 1) := by decide +kernel
theorem dX6_gain_38 : decode cX6_gain 38 = .ok (.goto 5, 3) := by decide +kernel
theorem dX6_gain_41 : decode cX6_gain 41 = .ok (.iload 4, 2) := by decide +kernel
theorem dX6_gain_43 : decode cX6_gain 43 = .ok (.iconst 2, 1) := by decide +kernel
theorem dX6_gain_44 : decode cX6_gain 44 = .ok (.isub, 1) := by decide +kernel
theorem dX6_gain_45 : decode cX6_gain 45 = .ok (.ireturn, 1) := by decide +kernel
set_option maxRecDepth 20000 in
theorem ggX6_isRest_X6_gain : GoodIn wsX6_isRest wsX6_gain := goodIn_r _ [6, 7, 8, 5, 9, 10, 11, 12] (by decide +kernel) (by decide +kernel)
set_option maxRecDepth 20000 in
theorem gX6_isRest_X6_gain : GoodIn wsX6_isRest (wsV RX6 190 RX6 yX6_gain wsX6_gain) := goodIn_app (goodIn_of _ (by decide +kernel)) ggX6_isRest_X6_gain
theorem dX6_isRest_0 : decode cX6_isRest 0 = .ok (.iconst 1, 1) := by decide +kernel
theorem dX6_isRest_1 : decode cX6_isRest 1 = .ok (.istore 4, 2) := by decide +kernel
theorem dX6_isRest_3 : decode cX6_isRest 3 = .ok (.iconst 0, 1) := by decide +kernel
theorem dX6_isRest_4 : decode cX6_isRest 4 = .ok (.istore 5, 2) := by decide +kernel
theorem dX6_isRest_6 : decode cX6_isRest 6 = .ok (.iload 5, 2) := by decide +kernel
theorem dX6_isRest_8 : decode cX6_isRest 8 = .ok (.aload_n 0, 1) := by decide +kernel
theorem dX6_isRest_9 : decode cX6_isRest 9 = .ok (.getfield 90, 3) := by decide +kernel
theorem dX6_isRest_12 : decode cX6_isRest 12 = .ok (.if_icmp .gt 57, 3) := by decide +kernel
theorem dX6_isRest_15 : decode cX6_isRest 15 = .ok (.iload 4, 2) := by decide +kernel
theorem dX6_isRest_17 : decode cX6_isRest 17 = .ok (.ifCond .eq 43, 3) := by decide +kernel
theorem dX6_isRest_20 : decode cX6_isRest 20 = .ok (.aload_n 0, 1) := by decide +kernel
theorem dX6_isRest_21 : decode cX6_isRest 21 = .ok (.iload_n 1, 1) := by decide +kernel
theorem dX6_isRest_22 : decode cX6_isRest 22 = .ok (.iload 5, 2) := by decide +kernel
theorem dX6_isRest_24 : decode cX6_isRest 24 = .ok (.iload_n 3, 1) := by decide +kernel
theorem dX6_isRest_25 : decode cX6_isRest 25 = .ok (.invokevirtual 190, 3) := by decide +kernel
theorem dX6_isRest_28 : decode cX6_isRest 28 = .ok (.aload_n 0, 1) := by decide +kernel
theorem dX6_isRest_29 : decode cX6_isRest 29 = .ok (.iload_n 1, 1) := by decide +kernel
theorem dX6_isRest_30 : decode cX6_isRest 30 = .ok (.iload_n 2, 1) := by decide +kernel
theorem dX6_isRest_31 : decode cX6_isRest 31 = .ok (.iload_n 3, 1) := by decide +kernel
theorem dX6_isRest_32 : decode cX6_isRest 32 = .ok (.invokevirtual 190, 3) := by decide +kernel
theorem dX6_isRest_35 : decode cX6_isRest 35 = .ok (.if_icmp .gt 25, 3) := by decide +kernel
theorem dX6_isRest_38 : decode cX6_isRest 38 = .ok (.aload_n 0, 1) := by decide +kernel
theorem dX6_isRest_39 : decode cX6_isRest 39 = .ok (.iload_n 1, 1) := by decide +kernel
theorem dX6_isRest_40 : decode cX6_isRest 40 = .ok (.iload 5, 2) := by decide +kernel
theorem dX6_isRest_42 : decode cX6_isRest 42 = .ok (.iload_n 2, 1) := by decide +kernel
theorem dX6_isRest_43 : decode cX6_isRest 43 = .ok (.invokevirtual 190, 3) := by decide +kernel
theorem dX6_isRest_46 : decode cX6_isRest 46 = .ok (.aload_n 0, 1) := by decide +kernel
theorem dX6_isRest_47 : decode cX6_isRest 47 = .ok (.iload_n 1, 1) := by decide +kernel
theorem dX6_isRest_48 : decode cX6_isRest 48 = .ok (.iload_n 3, 1) := by decide +kernel
theorem dX6_isRest_49 : decode cX6_isRest 49 = .ok (.iload_n 2, 1) := by decide +kernel
theorem dX6_isRest_50 : decode cX6_isRest 50 = .ok (.invokevirtual 190, 3) := by decide +kernel
theorem dX6_isRest_53 : decode cX6_isRest 53 = .ok (.if_icmp .gt 7, 3) := by decide +kernel
theorem dX6_isRest_56 : decode cX6_isRest 56 = .ok (.iconst 1, 1) := by decide +kernel
theorem dX6_isRest_57 : decode cX6_isRest 57 = .ok (.goto 4, 3) := by decide +kernel
theorem dX6_isRest_60 : decode cX6_isRest 60 = .ok (.iconst 0, 1) := by decide +kernel
theorem dX6_isRest_61 : decode cX6_isRest 61 = .ok (.istore 4, 2) := by decide +kernel
theorem dX6_isRest_63 : decode cX6_isRest 63 = .ok (.iinc 5 1, 3) := by decide +kernel
theorem dX6_isRest_66 : decode cX6_isRest 66 = .ok (.goto (-60), 3) := by decide +kernel
theorem dX6_isRest_69 : decode cX6_isRest 69 = .ok (.iload 4, 2) := by decide +kernel
theorem dX6_isRest_71 : decode cX6_isRest 71 = .ok (.ireturn, 1) := by decide +kernel
set_option maxRecDepth 20000 in
theorem ggX6_rests_X6_in : GoodIn wsX6_rests wsX6_in := goodIn_r _ [5] (by decide +kernel) (by decide +kernel)
set_option maxRecDepth 20000 in
theorem gX6_rests_X6_in : GoodIn wsX6_rests (va_wsS RX6 47 yX6_in wsX6_in) := goodIn_app (goodIn_of _ (by decide +kernel)) ggX6_rests_X6_in
set_option maxRecDepth 20000 in
theorem ggX6_rests_X6_all : GoodIn wsX6_rests wsX6_all := goodIn_r _ [9, 1, 46, 47, 48, 49, 50, 51, 52, 53, 54, 55, 56, 57, 58, 59, 60, 61, 62, 63, 64, 65, 66, 67, 68, 69] (by decide +kernel) (by decide +kernel)
set_option maxRecDepth 20000 in
theorem gX6_rests_X6_all : GoodIn wsX6_rests (wsV RX6 110 RX6 yX6_all wsX6_all) := goodIn_app (goodIn_of _ (by decide +kernel)) ggX6_rests_X6_all
set_option maxRecDepth 20000 in
theorem ggX6_rests_X6_fitsOn : GoodIn wsX6_rests wsX6_fitsOn := goodIn_r _ [13, 1, 14, 15, 16, 4, 17, 6, 7, 8, 9, 18, 19, 20, 21, 22, 23, 24, 25, 26, 27, 28, 29, 30, 31, 32, 33, 34, 35, 36, 37, 2, 3, 5, 46, 47, 48, 49, 50, 51, 52, 53, 54, 55, 56, 57, 58, 59, 60, 61, 62, 63, 64, 65, 66, 67, 68, 69] (by decide +kernel) (by decide +kernel)
set_option maxRecDepth 20000 in
theorem gX6_rests_X6_fitsOn : GoodIn wsX6_rests (wsV RX6 126 RX6 yX6_fitsOn wsX6_fitsOn) := goodIn_app (goodIn_of _ (by decide +kernel)) ggX6_rests_X6_fitsOn
set_option maxRecDepth 20000 in
theorem ggX6_rests_X6_isRest : GoodIn wsX6_rests wsX6_isRest := goodIn_r _ [41, 1, 42, 43, 44, 4, 45, 26, 27, 28, 23, 24, 25, 46, 47, 48, 49, 50, 51, 52, 53, 54, 55, 56, 57, 58, 59, 60, 61, 62, 63, 64, 65, 66, 67, 68, 69] (by decide +kernel) (by decide +kernel)
set_option maxRecDepth 20000 in
theorem gX6_rests_X6_isRest : GoodIn wsX6_rests (wsV RX6 193 RX6 yX6_isRest wsX6_isRest) := goodIn_app (goodIn_of _ (by decide +kernel)) ggX6_rests_X6_isRest
theorem dX6_rests_0 : decode cX6_rests 0 = .ok (.iload_n 1, 1) := by decide +kernel
theorem dX6_rests_1 : decode cX6_rests 1 = .ok (.i2l, 1) := by decide +kernel
theorem dX6_rests_2 : decode cX6_rests 2 = .ok (.lconst 0, 1) := by decide +kernel
theorem dX6_rests_3 : decode cX6_rests 3 = .ok (.lconst 1, 1) := by decide +kernel
theorem dX6_rests_4 : decode cX6_rests 4 = .ok (.invokestatic 47, 3) := by decide +kernel
theorem dX6_rests_7 : decode cX6_rests 7 = .ok (.ifCond .ne 6, 3) := by decide +kernel
theorem dX6_rests_10 : decode cX6_rests 10 = .ok (.bipush (-2), 2) := by decide +kernel
theorem dX6_rests_12 : decode cX6_rests 12 = .ok (.ireturn, 1) := by decide +kernel
theorem dX6_rests_13 : decode cX6_rests 13 = .ok (.aload_n 0, 1) := by decide +kernel
theorem dX6_rests_14 : decode cX6_rests 14 = .ok (.iconst 0, 1) := by decide +kernel
theorem dX6_rests_15 : decode cX6_rests 15 = .ok (.aload_n 0, 1) := by decide +kernel
theorem dX6_rests_16 : decode cX6_rests 16 = .ok (.invokevirtual 110, 3) := by decide +kernel
theorem dX6_rests_19 : decode cX6_rests 19 = .ok (.invokevirtual 126, 3) := by decide +kernel
theorem dX6_rests_22 : decode cX6_rests 22 = .ok (.istore_n 2, 1) := by decide +kernel
theorem dX6_rests_23 : decode cX6_rests 23 = .ok (.iconst 0, 1) := by decide +kernel
theorem dX6_rests_24 : decode cX6_rests 24 = .ok (.istore_n 3, 1) := by decide +kernel
theorem dX6_rests_25 : decode cX6_rests 25 = .ok (.bipush (-9), 2) := by decide +kernel
theorem dX6_rests_27 : decode cX6_rests 27 = .ok (.istore 4, 2) := by decide +kernel
theorem dX6_rests_29 : decode cX6_rests 29 = .ok (.iconst 0, 1) := by decide +kernel
theorem dX6_rests_30 : decode cX6_rests 30 = .ok (.istore 5, 2) := by decide +kernel
theorem dX6_rests_32 : decode cX6_rests 32 = .ok (.iload 5, 2) := by decide +kernel
theorem dX6_rests_34 : decode cX6_rests 34 = .ok (.aload_n 0, 1) := by decide +kernel
theorem dX6_rests_35 : decode cX6_rests 35 = .ok (.getfield 90, 3) := by decide +kernel
theorem dX6_rests_38 : decode cX6_rests 38 = .ok (.if_icmp .gt 61, 3) := by decide +kernel
theorem dX6_rests_41 : decode cX6_rests 41 = .ok (.iconst 0, 1) := by decide +kernel
theorem dX6_rests_42 : decode cX6_rests 42 = .ok (.istore 6, 2) := by decide +kernel
theorem dX6_rests_44 : decode cX6_rests 44 = .ok (.iload 6, 2) := by decide +kernel
theorem dX6_rests_46 : decode cX6_rests 46 = .ok (.aload_n 0, 1) := by decide +kernel
theorem dX6_rests_47 : decode cX6_rests 47 = .ok (.getfield 90, 3) := by decide +kernel
theorem dX6_rests_50 : decode cX6_rests 50 = .ok (.if_icmp .gt 43, 3) := by decide +kernel
theorem dX6_rests_53 : decode cX6_rests 53 = .ok (.aload_n 0, 1) := by decide +kernel
theorem dX6_rests_54 : decode cX6_rests 54 = .ok (.iload_n 2, 1) := by decide +kernel
theorem dX6_rests_55 : decode cX6_rests 55 = .ok (.iload 5, 2) := by decide +kernel
theorem dX6_rests_57 : decode cX6_rests 57 = .ok (.iload 6, 2) := by decide +kernel
theorem dX6_rests_59 : decode cX6_rests 59 = .ok (.invokevirtual 193, 3) := by decide +kernel
theorem dX6_rests_62 : decode cX6_rests 62 = .ok (.ifCond .eq 25, 3) := by decide +kernel
theorem dX6_rests_65 : decode cX6_rests 65 = .ok (.iload_n 3, 1) := by decide +kernel
theorem dX6_rests_66 : decode cX6_rests 66 = .ok (.ifCond .ne 14, 3) := by decide +kernel
theorem dX6_rests_69 : decode cX6_rests 69 = .ok (.bipush 10, 2) := by decide +kernel
theorem dX6_rests_71 : decode cX6_rests 71 = .ok (.iload 5, 2) := by decide +kernel
theorem dX6_rests_73 : decode cX6_rests 73 = .ok (.imul, 1) := by decide +kernel
theorem dX6_rests_74 : decode cX6_rests 74 = .ok (.iload 6, 2) := by decide +kernel
theorem dX6_rests_76 : decode cX6_rests 76 = .ok (.iadd, 1) := by decide +kernel
theorem dX6_rests_77 : decode cX6_rests 77 = .ok (.goto 5, 3) := by decide +kernel
theorem dX6_rests_80 : decode cX6_rests 80 = .ok (.iload 4, 2) := by decide +kernel
theorem dX6_rests_82 : decode cX6_rests 82 = .ok (.istore 4, 2) := by decide +kernel
theorem dX6_rests_84 : decode cX6_rests 84 = .ok (.iinc 3 1, 3) := by decide +kernel
theorem dX6_rests_87 : decode cX6_rests 87 = .ok (.iinc 6 1, 3) := by decide +kernel
theorem dX6_rests_90 : decode cX6_rests 90 = .ok (.goto (-46), 3) := by decide +kernel
theorem dX6_rests_93 : decode cX6_rests 93 = .ok (.iinc 5 1, 3) := by decide +kernel
theorem dX6_rests_96 : decode cX6_rests 96 = .ok (.goto (-64), 3) := by decide +kernel
theorem dX6_rests_99 : decode cX6_rests 99 = .ok (.iload_n 1, 1) := by decide +kernel
theorem dX6_rests_100 : decode cX6_rests 100 = .ok (.ifCond .ne 7, 3) := by decide +kernel
theorem dX6_rests_103 : decode cX6_rests 103 = .ok (.iload_n 3, 1) := by decide +kernel
theorem dX6_rests_104 : decode cX6_rests 104 = .ok (.goto 5, 3) := by decide +kernel
theorem dX6_rests_107 : decode cX6_rests 107 = .ok (.iload 4, 2) := by decide +kernel
theorem dX6_rests_109 : decode cX6_rests 109 = .ok (.ireturn, 1) := by decide +kernel
set_option maxRecDepth 20000 in
theorem ggX6_lost_X6_isCasket : GoodIn wsX6_lost wsX6_isCasket := goodIn_r _ [7, 2, 8, 9, 6, 10, 45, 46, 47, 48, 49, 50, 51, 52, 53, 54, 55, 56, 57, 58, 59, 60, 61, 62, 63, 64, 65, 66, 67, 68] (by decide +kernel) (by decide +kernel)
set_option maxRecDepth 20000 in
theorem gX6_lost_X6_isCasket : GoodIn wsX6_lost (wsV RX6 99 RX6 yX6_isCasket wsX6_isCasket) := goodIn_app (goodIn_of _ (by decide +kernel)) ggX6_lost_X6_isCasket
set_option maxRecDepth 20000 in
theorem ggX6_lost_X6_in : GoodIn wsX6_lost wsX6_in := goodIn_r _ [10] (by decide +kernel) (by decide +kernel)
set_option maxRecDepth 20000 in
theorem gX6_lost_X6_in : GoodIn wsX6_lost (va_wsS RX6 47 yX6_in wsX6_in) := goodIn_app (goodIn_of _ (by decide +kernel)) ggX6_lost_X6_in
set_option maxRecDepth 20000 in
theorem ggX6_lost_X6_all : GoodIn wsX6_lost wsX6_all := goodIn_r _ [14, 2, 45, 46, 47, 48, 49, 50, 51, 52, 53, 54, 55, 56, 57, 58, 59, 60, 61, 62, 63, 64, 65, 66, 67, 68] (by decide +kernel) (by decide +kernel)
set_option maxRecDepth 20000 in
theorem gX6_lost_X6_all : GoodIn wsX6_lost (wsV RX6 110 RX6 yX6_all wsX6_all) := goodIn_app (goodIn_of _ (by decide +kernel)) ggX6_lost_X6_all
set_option maxRecDepth 20000 in
theorem ggX6_lost_X6_ones : GoodIn wsX6_lost wsX6_ones := goodIn_r _ [17] (by decide +kernel) (by decide +kernel)
set_option maxRecDepth 20000 in
theorem gX6_lost_X6_ones : GoodIn wsX6_lost (va_wsS RX6 103 yX6_ones wsX6_ones) := goodIn_app (goodIn_of _ (by decide +kernel)) ggX6_lost_X6_ones
set_option maxRecDepth 20000 in
theorem ggX6_lost_X6_power : GoodIn wsX6_lost wsX6_power := goodIn_r _ [20] (by decide +kernel) (by decide +kernel)
set_option maxRecDepth 20000 in
theorem gX6_lost_X6_power : GoodIn wsX6_lost (va_wsS RX6 170 yX6_power wsX6_power) := goodIn_app (goodIn_of _ (by decide +kernel)) ggX6_lost_X6_power
set_option maxRecDepth 20000 in
theorem ggX6_lost_X6_fitsOn : GoodIn wsX6_lost wsX6_fitsOn := goodIn_r _ [24, 2, 25, 26, 27, 6, 28, 11, 12, 13, 14, 29, 30, 31, 32, 33, 15, 16, 17, 34, 35, 36, 37, 38, 39, 40, 41, 3, 4, 5, 7, 8, 9, 10, 45, 46, 47, 48, 49, 50, 51, 52, 53, 54, 55, 56, 57, 58, 59, 60, 61, 62, 63, 64, 65, 66, 67, 68] (by decide +kernel) (by decide +kernel)
set_option maxRecDepth 20000 in
theorem gX6_lost_X6_fitsOn : GoodIn wsX6_lost (wsV RX6 126 RX6 yX6_fitsOn wsX6_fitsOn) := goodIn_app (goodIn_of _ (by decide +kernel)) ggX6_lost_X6_fitsOn
set_option maxRecDepth 20000 in
theorem ggX6_lost_X6_common : GoodIn wsX6_lost wsX6_common := goodIn_r _ [44] (by decide +kernel) (by decide +kernel)
set_option maxRecDepth 20000 in
theorem gX6_lost_X6_common : GoodIn wsX6_lost (va_wsS RX6 176 yX6_common wsX6_common) := goodIn_app (goodIn_of _ (by decide +kernel)) ggX6_lost_X6_common
theorem dX6_lost_0 : decode cX6_lost 0 = .ok (.aload_n 0, 1) := by decide +kernel
theorem dX6_lost_1 : decode cX6_lost 1 = .ok (.iload_n 1, 1) := by decide +kernel
theorem dX6_lost_2 : decode cX6_lost 2 = .ok (.invokevirtual 99, 3) := by decide +kernel
theorem dX6_lost_5 : decode cX6_lost 5 = .ok (.ifCond .ne 5, 3) := by decide +kernel
theorem dX6_lost_8 : decode cX6_lost 8 = .ok (.iconst (-1), 1) := by decide +kernel
theorem dX6_lost_9 : decode cX6_lost 9 = .ok (.ireturn, 1) := by decide +kernel
theorem dX6_lost_10 : decode cX6_lost 10 = .ok (.iload_n 2, 1) := by decide +kernel
theorem dX6_lost_11 : decode cX6_lost 11 = .ok (.i2l, 1) := by decide +kernel
theorem dX6_lost_12 : decode cX6_lost 12 = .ok (.lconst 0, 1) := by decide +kernel
theorem dX6_lost_13 : decode cX6_lost 13 = .ok (.ldc2_w 197, 3) := by decide +kernel
theorem dX6_lost_16 : decode cX6_lost 16 = .ok (.invokestatic 47, 3) := by decide +kernel
theorem dX6_lost_19 : decode cX6_lost 19 = .ok (.ifCond .ne 6, 3) := by decide +kernel
theorem dX6_lost_22 : decode cX6_lost 22 = .ok (.bipush (-2), 2) := by decide +kernel
theorem dX6_lost_24 : decode cX6_lost 24 = .ok (.ireturn, 1) := by decide +kernel
theorem dX6_lost_25 : decode cX6_lost 25 = .ok (.iconst 0, 1) := by decide +kernel
theorem dX6_lost_26 : decode cX6_lost 26 = .ok (.istore 4, 2) := by decide +kernel
theorem dX6_lost_28 : decode cX6_lost 28 = .ok (.iconst 0, 1) := by decide +kernel
theorem dX6_lost_29 : decode cX6_lost 29 = .ok (.istore 5, 2) := by decide +kernel
theorem dX6_lost_31 : decode cX6_lost 31 = .ok (.iconst 0, 1) := by decide +kernel
theorem dX6_lost_32 : decode cX6_lost 32 = .ok (.istore 6, 2) := by decide +kernel
theorem dX6_lost_34 : decode cX6_lost 34 = .ok (.iload 6, 2) := by decide +kernel
theorem dX6_lost_36 : decode cX6_lost 36 = .ok (.aload_n 0, 1) := by decide +kernel
theorem dX6_lost_37 : decode cX6_lost 37 = .ok (.invokevirtual 110, 3) := by decide +kernel
theorem dX6_lost_40 : decode cX6_lost 40 = .ok (.if_icmp .gt 76, 3) := by decide +kernel
theorem dX6_lost_43 : decode cX6_lost 43 = .ok (.iload_n 2, 1) := by decide +kernel
theorem dX6_lost_44 : decode cX6_lost 44 = .ok (.iload 6, 2) := by decide +kernel
theorem dX6_lost_46 : decode cX6_lost 46 = .ok (.invokestatic 103, 3) := by decide +kernel
theorem dX6_lost_49 : decode cX6_lost 49 = .ok (.invokestatic 170, 3) := by decide +kernel
theorem dX6_lost_52 : decode cX6_lost 52 = .ok (.bipush 10, 2) := by decide +kernel
theorem dX6_lost_54 : decode cX6_lost 54 = .ok (.iload_n 2, 1) := by decide +kernel
theorem dX6_lost_55 : decode cX6_lost 55 = .ok (.isub, 1) := by decide +kernel
theorem dX6_lost_56 : decode cX6_lost 56 = .ok (.aload_n 0, 1) := by decide +kernel
theorem dX6_lost_57 : decode cX6_lost 57 = .ok (.getfield 90, 3) := by decide +kernel
theorem dX6_lost_60 : decode cX6_lost 60 = .ok (.iload 6, 2) := by decide +kernel
theorem dX6_lost_62 : decode cX6_lost 62 = .ok (.invokestatic 103, 3) := by decide +kernel
theorem dX6_lost_65 : decode cX6_lost 65 = .ok (.isub, 1) := by decide +kernel
theorem dX6_lost_66 : decode cX6_lost 66 = .ok (.invokestatic 170, 3) := by decide +kernel
theorem dX6_lost_69 : decode cX6_lost 69 = .ok (.imul, 1) := by decide +kernel
theorem dX6_lost_70 : decode cX6_lost 70 = .ok (.istore 7, 2) := by decide +kernel
theorem dX6_lost_72 : decode cX6_lost 72 = .ok (.iload 5, 2) := by decide +kernel
theorem dX6_lost_74 : decode cX6_lost 74 = .ok (.iload 7, 2) := by decide +kernel
theorem dX6_lost_76 : decode cX6_lost 76 = .ok (.iadd, 1) := by decide +kernel
theorem dX6_lost_77 : decode cX6_lost 77 = .ok (.istore 5, 2) := by decide +kernel
theorem dX6_lost_79 : decode cX6_lost 79 = .ok (.iload 4, 2) := by decide +kernel
theorem dX6_lost_81 : decode cX6_lost 81 = .ok (.aload_n 0, 1) := by decide +kernel
theorem dX6_lost_82 : decode cX6_lost 82 = .ok (.iconst 0, 1) := by decide +kernel
theorem dX6_lost_83 : decode cX6_lost 83 = .ok (.aload_n 0, 1) := by decide +kernel
theorem dX6_lost_84 : decode cX6_lost 84 = .ok (.invokevirtual 110, 3) := by decide +kernel
theorem dX6_lost_87 : decode cX6_lost 87 = .ok (.iload 6, 2) := by decide +kernel
theorem dX6_lost_89 : decode cX6_lost 89 = .ok (.iconst (-1), 1) := by decide +kernel
theorem dX6_lost_90 : decode cX6_lost 90 = .ok (.ixor, 1) := by decide +kernel
theorem dX6_lost_91 : decode cX6_lost 91 = .ok (.iand, 1) := by decide +kernel
theorem dX6_lost_92 : decode cX6_lost 92 = .ok (.invokevirtual 126, 3) := by decide +kernel
theorem dX6_lost_95 : decode cX6_lost 95 = .ok (.iconst 1, 1) := by decide +kernel
theorem dX6_lost_96 : decode cX6_lost 96 = .ok (.iload_n 1, 1) := by decide +kernel
theorem dX6_lost_97 : decode cX6_lost 97 = .ok (.ishl, 1) := by decide +kernel
theorem dX6_lost_98 : decode cX6_lost 98 = .ok (.if_icmp .ne 8, 3) := by decide +kernel
theorem dX6_lost_101 : decode cX6_lost 101 = .ok (.iload 7, 2) := by decide +kernel
theorem dX6_lost_103 : decode cX6_lost 103 = .ok (.goto 4, 3) := by decide +kernel
theorem dX6_lost_106 : decode cX6_lost 106 = .ok (.iconst 0, 1) := by decide +kernel
theorem dX6_lost_107 : decode cX6_lost 107 = .ok (.iadd, 1) := by decide +kernel
theorem dX6_lost_108 : decode cX6_lost 108 = .ok (.istore 4, 2) := by decide +kernel
theorem dX6_lost_110 : decode cX6_lost 110 = .ok (.iinc 6 1, 3) := by decide +kernel
theorem dX6_lost_113 : decode cX6_lost 113 = .ok (.goto (-79), 3) := by decide +kernel
theorem dX6_lost_116 : decode cX6_lost 116 = .ok (.iload 4, 2) := by decide +kernel
theorem dX6_lost_118 : decode cX6_lost 118 = .ok (.iload 5, 2) := by decide +kernel
theorem dX6_lost_120 : decode cX6_lost 120 = .ok (.invokestatic 176, 3) := by decide +kernel
theorem dX6_lost_123 : decode cX6_lost 123 = .ok (.istore 6, 2) := by decide +kernel
theorem dX6_lost_125 : decode cX6_lost 125 = .ok (.iload_n 3, 1) := by decide +kernel
theorem dX6_lost_126 : decode cX6_lost 126 = .ok (.ifCond .eq 11, 3) := by decide +kernel
theorem dX6_lost_129 : decode cX6_lost 129 = .ok (.iload 4, 2) := by decide +kernel
theorem dX6_lost_131 : decode cX6_lost 131 = .ok (.iload 6, 2) := by decide +kernel
theorem dX6_lost_133 : decode cX6_lost 133 = .ok (.idiv, 1) := by decide +kernel
theorem dX6_lost_134 : decode cX6_lost 134 = .ok (.goto 8, 3) := by decide +kernel
theorem dX6_lost_137 : decode cX6_lost 137 = .ok (.iload 5, 2) := by decide +kernel
theorem dX6_lost_139 : decode cX6_lost 139 = .ok (.iload 6, 2) := by decide +kernel
theorem dX6_lost_141 : decode cX6_lost 141 = .ok (.idiv, 1) := by decide +kernel
theorem dX6_lost_142 : decode cX6_lost 142 = .ok (.ireturn, 1) := by decide +kernel
theorem dX6_seed_0 : decode cX6_seed 0 = .ok (.aload_n 0, 1) := by decide +kernel
theorem dX6_seed_1 : decode cX6_seed 1 = .ok (.getfield 199, 3) := by decide +kernel
theorem dX6_seed_4 : decode cX6_seed 4 = .ok (.lstore_n 3, 1) := by decide +kernel
theorem dX6_seed_5 : decode cX6_seed 5 = .ok (.aload_n 0, 1) := by decide +kernel
theorem dX6_seed_6 : decode cX6_seed 6 = .ok (.lload_n 1, 1) := by decide +kernel
theorem dX6_seed_7 : decode cX6_seed 7 = .ok (.putfield 199, 3) := by decide +kernel
theorem dX6_seed_10 : decode cX6_seed 10 = .ok (.lload_n 3, 1) := by decide +kernel
theorem dX6_seed_11 : decode cX6_seed 11 = .ok (.lreturn, 1) := by decide +kernel
set_option maxRecDepth 20000 in
theorem ggX6_houses_X6_in : GoodIn wsX6_houses wsX6_in := goodIn_r _ [9] (by decide +kernel) (by decide +kernel)
set_option maxRecDepth 20000 in
theorem gX6_houses_X6_in : GoodIn wsX6_houses (va_wsS RX6 47 yX6_in wsX6_in) := goodIn_app (goodIn_of _ (by decide +kernel)) ggX6_houses_X6_in
set_option maxRecDepth 20000 in
theorem ggX6_houses_X6_layTrial : GoodIn wsX6_houses wsX6_layTrial := goodIn_r _ [13, 14, 51, 52, 53, 54, 55, 56, 57, 58, 59, 60, 61, 62, 63, 64, 65, 66, 67, 68, 69, 70, 71, 72, 73, 74] (by decide +kernel) (by decide +kernel)
set_option maxRecDepth 20000 in
theorem gX6_houses_X6_layTrial : GoodIn wsX6_houses (wsV RX6 149 RX6 yX6_layTrial wsX6_layTrial) := goodIn_app (goodIn_of _ (by decide +kernel)) ggX6_houses_X6_layTrial
set_option maxRecDepth 20000 in
theorem ggX6_houses_X6_isCasket : GoodIn wsX6_houses wsX6_isCasket := goodIn_r _ [18, 19, 6, 7, 8, 9, 51, 52, 53, 54, 55, 56, 57, 58, 59, 60, 61, 62, 63, 64, 65, 66, 67, 68, 69, 70, 71, 72, 73, 74] (by decide +kernel) (by decide +kernel)
set_option maxRecDepth 20000 in
theorem gX6_houses_X6_isCasket : GoodIn wsX6_houses (wsV RX6 99 RX6 yX6_isCasket wsX6_isCasket) := goodIn_app (goodIn_of _ (by decide +kernel)) ggX6_houses_X6_isCasket
set_option maxRecDepth 20000 in
theorem ggX6_houses_X6_layLine : GoodIn wsX6_houses wsX6_layLine := goodIn_r _ [23, 14, 51, 52, 53, 54, 55, 56, 57, 58, 59, 60, 61, 62, 63, 64, 65, 66, 67, 68, 69, 70, 71, 72, 73, 74] (by decide +kernel) (by decide +kernel)
set_option maxRecDepth 20000 in
theorem gX6_houses_X6_layLine : GoodIn wsX6_houses (wsV RX6 158 RX6 yX6_layLine wsX6_layLine) := goodIn_app (goodIn_of _ (by decide +kernel)) ggX6_houses_X6_layLine
set_option maxRecDepth 20000 in
theorem ggX6_houses_X6_all : GoodIn wsX6_houses wsX6_all := goodIn_r _ [27, 19, 51, 52, 53, 54, 55, 56, 57, 58, 59, 60, 61, 62, 63, 64, 65, 66, 67, 68, 69, 70, 71, 72, 73, 74] (by decide +kernel) (by decide +kernel)
set_option maxRecDepth 20000 in
theorem gX6_houses_X6_all : GoodIn wsX6_houses (wsV RX6 110 RX6 yX6_all wsX6_all) := goodIn_app (goodIn_of _ (by decide +kernel)) ggX6_houses_X6_all
set_option maxRecDepth 20000 in
theorem ggX6_houses_X6_fitsOn : GoodIn wsX6_houses wsX6_fitsOn := goodIn_r _ [31, 19, 32, 33, 34, 8, 35, 24, 25, 26, 27, 36, 37, 38, 39, 40, 41, 42, 43, 44, 45, 46, 47, 48, 49, 50, 14, 15, 16, 17, 18, 6, 7, 9, 51, 52, 53, 54, 55, 56, 57, 58, 59, 60, 61, 62, 63, 64, 65, 66, 67, 68, 69, 70, 71, 72, 73, 74] (by decide +kernel) (by decide +kernel)
set_option maxRecDepth 20000 in
theorem gX6_houses_X6_fitsOn : GoodIn wsX6_houses (wsV RX6 126 RX6 yX6_fitsOn wsX6_fitsOn) := goodIn_app (goodIn_of _ (by decide +kernel)) ggX6_houses_X6_fitsOn
set_option maxRecDepth 20000 in
theorem ggX6_houses_X6_ones : GoodIn wsX6_houses wsX6_ones := goodIn_r _ [43] (by decide +kernel) (by decide +kernel)
set_option maxRecDepth 20000 in
theorem gX6_houses_X6_ones : GoodIn wsX6_houses (va_wsS RX6 103 yX6_ones wsX6_ones) := goodIn_app (goodIn_of _ (by decide +kernel)) ggX6_houses_X6_ones
theorem dX6_houses_0 : decode cX6_houses 0 = .ok (.iload_n 1, 1) := by decide +kernel
theorem dX6_houses_1 : decode cX6_houses 1 = .ok (.i2l, 1) := by decide +kernel
theorem dX6_houses_2 : decode cX6_houses 2 = .ok (.lconst 1, 1) := by decide +kernel
theorem dX6_houses_3 : decode cX6_houses 3 = .ok (.ldc2_w 203, 3) := by decide +kernel
theorem dX6_houses_6 : decode cX6_houses 6 = .ok (.invokestatic 47, 3) := by decide +kernel
theorem dX6_houses_9 : decode cX6_houses 9 = .ok (.ifCond .ne 6, 3) := by decide +kernel
theorem dX6_houses_12 : decode cX6_houses 12 = .ok (.bipush (-2), 2) := by decide +kernel
theorem dX6_houses_14 : decode cX6_houses 14 = .ok (.ireturn, 1) := by decide +kernel
theorem dX6_houses_15 : decode cX6_houses 15 = .ok (.aload_n 0, 1) := by decide +kernel
theorem dX6_houses_16 : decode cX6_houses 16 = .ok (.invokevirtual 149, 3) := by decide +kernel
theorem dX6_houses_19 : decode cX6_houses 19 = .ok (.iconst 0, 1) := by decide +kernel
theorem dX6_houses_20 : decode cX6_houses 20 = .ok (.istore_n 2, 1) := by decide +kernel
theorem dX6_houses_21 : decode cX6_houses 21 = .ok (.iconst 0, 1) := by decide +kernel
