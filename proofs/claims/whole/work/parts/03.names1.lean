theorem dX5_wooer_57 : decode cX5_wooer 57 = .ok (.getfield 23, 3) := by decide +kernel
theorem dX5_wooer_60 : decode cX5_wooer 60 = .ok (.getfield 127, 3) := by decide +kernel
theorem dX5_wooer_63 : decode cX5_wooer 63 = .ok (.iload_n 1, 1) := by decide +kernel
theorem dX5_wooer_64 : decode cX5_wooer 64 = .ok (.invokestatic 97, 3) := by decide +kernel
theorem dX5_wooer_67 : decode cX5_wooer 67 = .ok (.aload_n 0, 1) := by decide +kernel
theorem dX5_wooer_68 : decode cX5_wooer 68 = .ok (.getfield 30, 3) := by decide +kernel
theorem dX5_wooer_71 : decode cX5_wooer 71 = .ok (.aload_n 0, 1) := by decide +kernel
theorem dX5_wooer_72 : decode cX5_wooer 72 = .ok (.getfield 23, 3) := by decide +kernel
theorem dX5_wooer_75 : decode cX5_wooer 75 = .ok (.invokevirtual 106, 3) := by decide +kernel
theorem dX5_wooer_78 : decode cX5_wooer 78 = .ok (.aload_n 0, 1) := by decide +kernel
theorem dX5_wooer_79 : decode cX5_wooer 79 = .ok (.getfield 30, 3) := by decide +kernel
theorem dX5_wooer_82 : decode cX5_wooer 82 = .ok (.getfield 103, 3) := by decide +kernel
theorem dX5_wooer_85 : decode cX5_wooer 85 = .ok (.invokevirtual 130, 3) := by decide +kernel
theorem dX5_wooer_88 : decode cX5_wooer 88 = .ok (.ireturn, 1) := by decide +kernel
theorem dX5_wooer_89 : decode cX5_wooer 89 = .ok (.iload_n 1, 1) := by decide +kernel
theorem dX5_wooer_90 : decode cX5_wooer 90 = .ok (.aload_n 0, 1) := by decide +kernel
theorem dX5_wooer_91 : decode cX5_wooer 91 = .ok (.getfield 30, 3) := by decide +kernel
theorem dX5_wooer_94 : decode cX5_wooer 94 = .ok (.getfield 134, 3) := by decide +kernel
theorem dX5_wooer_97 : decode cX5_wooer 97 = .ok (.if_icmp .ge 17, 3) := by decide +kernel
theorem dX5_wooer_100 : decode cX5_wooer 100 = .ok (.aload_n 0, 1) := by decide +kernel
theorem dX5_wooer_101 : decode cX5_wooer 101 = .ok (.getfield 30, 3) := by decide +kernel
theorem dX5_wooer_104 : decode cX5_wooer 104 = .ok (.getfield 137, 3) := by decide +kernel
theorem dX5_wooer_107 : decode cX5_wooer 107 = .ok (.iload_n 1, 1) := by decide +kernel
theorem dX5_wooer_108 : decode cX5_wooer 108 = .ok (.invokestatic 97, 3) := by decide +kernel
theorem dX5_wooer_111 : decode cX5_wooer 111 = .ok (.goto 5, 3) := by decide +kernel
theorem dX5_wooer_114 : decode cX5_wooer 114 = .ok (.bipush (-9), 2) := by decide +kernel
theorem dX5_wooer_116 : decode cX5_wooer 116 = .ok (.ireturn, 1) := by decide +kernel
theorem dX5_wooer_117 : decode cX5_wooer 117 = .ok (.bipush (-2), 2) := by decide +kernel
theorem dX5_wooer_119 : decode cX5_wooer 119 = .ok (.ireturn, 1) := by decide +kernel
set_option maxRecDepth 20000 in
theorem ggX5_attempt_X4_mayTry : GoodIn wsX5_attempt wsX4_mayTry := goodIn_r _ [8, 9, 10, 11, 89, 90, 91, 92, 93, 94, 95, 96, 97, 98, 99] (by decide +kernel) (by decide +kernel)
set_option maxRecDepth 20000 in
theorem gX5_attempt_X4_mayTry : GoodIn wsX5_attempt (wsV RX5 140 RX4 yX4_mayTry wsX4_mayTry) := goodIn_app (goodIn_of _ (by decide +kernel)) ggX5_attempt_X4_mayTry
set_option maxRecDepth 20000 in
theorem ggX5_attempt_X0_add : GoodIn wsX5_attempt wsX0_add := goodIn_r _ [16, 17, 18, 19, 20, 21, 22, 15, 23, 24, 25, 26, 100, 101, 102, 103] (by decide +kernel) (by decide +kernel)
set_option maxRecDepth 20000 in
theorem gX5_attempt_X0_add : GoodIn wsX5_attempt (wsV RX5 144 RX0 yX0_add wsX0_add) := goodIn_app (goodIn_of _ (by decide +kernel)) ggX5_attempt_X0_add
set_option maxRecDepth 20000 in
theorem ggX5_attempt_X4_tryNext : GoodIn wsX5_attempt wsX4_tryNext := goodIn_r _ [30, 31, 10, 32, 33, 34, 9, 35, 25, 36, 37, 38, 39, 7, 40, 41, 42, 43, 44, 45, 46, 47, 48, 49, 50, 51, 52, 53, 54, 55, 56, 57, 58, 59, 60, 61, 62, 63, 64, 65, 66, 67, 68, 69, 70, 71, 72, 73, 74, 75, 76, 77, 78, 24, 26, 95, 96, 97, 98, 99, 89, 90, 91, 92, 93, 94] (by decide +kernel) (by decide +kernel)
set_option maxRecDepth 20000 in
theorem gX5_attempt_X4_tryNext : GoodIn wsX5_attempt (wsV RX5 148 RX4 yX4_tryNext wsX4_tryNext) := goodIn_app (goodIn_of _ (by decide +kernel)) ggX5_attempt_X4_tryNext
theorem dX5_attempt_0 : decode cX5_attempt 0 = .ok (.aload_n 0, 1) := by decide +kernel
theorem dX5_attempt_1 : decode cX5_attempt 1 = .ok (.getfield 30, 3) := by decide +kernel
theorem dX5_attempt_4 : decode cX5_attempt 4 = .ok (.aload_n 0, 1) := by decide +kernel
theorem dX5_attempt_5 : decode cX5_attempt 5 = .ok (.getfield 23, 3) := by decide +kernel
theorem dX5_attempt_8 : decode cX5_attempt 8 = .ok (.invokevirtual 140, 3) := by decide +kernel
theorem dX5_attempt_11 : decode cX5_attempt 11 = .ok (.ifCond .ne 6, 3) := by decide +kernel
theorem dX5_attempt_14 : decode cX5_attempt 14 = .ok (.bipush (-3), 2) := by decide +kernel
theorem dX5_attempt_16 : decode cX5_attempt 16 = .ok (.ireturn, 1) := by decide +kernel
theorem dX5_attempt_17 : decode cX5_attempt 17 = .ok (.aload_n 0, 1) := by decide +kernel
theorem dX5_attempt_18 : decode cX5_attempt 18 = .ok (.getfield 40, 3) := by decide +kernel
theorem dX5_attempt_21 : decode cX5_attempt 21 = .ok (.iconst 0, 1) := by decide +kernel
theorem dX5_attempt_22 : decode cX5_attempt 22 = .ok (.iconst 0, 1) := by decide +kernel
theorem dX5_attempt_23 : decode cX5_attempt 23 = .ok (.iconst 0, 1) := by decide +kernel
theorem dX5_attempt_24 : decode cX5_attempt 24 = .ok (.invokevirtual 144, 3) := by decide +kernel
theorem dX5_attempt_27 : decode cX5_attempt 27 = .ok (.aload_n 0, 1) := by decide +kernel
theorem dX5_attempt_28 : decode cX5_attempt 28 = .ok (.getfield 30, 3) := by decide +kernel
theorem dX5_attempt_31 : decode cX5_attempt 31 = .ok (.aload_n 0, 1) := by decide +kernel
theorem dX5_attempt_32 : decode cX5_attempt 32 = .ok (.getfield 23, 3) := by decide +kernel
theorem dX5_attempt_35 : decode cX5_attempt 35 = .ok (.invokevirtual 148, 3) := by decide +kernel
theorem dX5_attempt_38 : decode cX5_attempt 38 = .ok (.ireturn, 1) := by decide +kernel
set_option maxRecDepth 20000 in
theorem ggX5_mend_X1_hasCasket : GoodIn wsX5_mend wsX1_hasCasket := goodIn_r _ [9, 10, 49, 50, 51, 52, 53] (by decide +kernel) (by decide +kernel)
set_option maxRecDepth 20000 in
theorem gX5_mend_X1_hasCasket : GoodIn wsX5_mend (wsV RX5 90 RX1 yX1_hasCasket wsX1_hasCasket) := goodIn_app (goodIn_of _ (by decide +kernel)) ggX5_mend_X1_hasCasket
set_option maxRecDepth 20000 in
theorem ggX5_mend_X5_at : GoodIn wsX5_mend wsX5_at := goodIn_r _ [14] (by decide +kernel) (by decide +kernel)
set_option maxRecDepth 20000 in
theorem gX5_mend_X5_at : GoodIn wsX5_mend (va_wsS RX5 97 yX5_at wsX5_at) := goodIn_app (goodIn_of _ (by decide +kernel)) ggX5_mend_X5_at
set_option maxRecDepth 20000 in
theorem ggX5_mend_X0_add : GoodIn wsX5_mend wsX0_add := goodIn_r _ [19, 20, 21, 22, 23, 24, 25, 18, 26, 27, 13, 28, 54, 55, 56, 57] (by decide +kernel) (by decide +kernel)
set_option maxRecDepth 20000 in
theorem gX5_mend_X0_add : GoodIn wsX5_mend (wsV RX5 144 RX0 yX0_add wsX0_add) := goodIn_app (goodIn_of _ (by decide +kernel)) ggX5_mend_X0_add
set_option maxRecDepth 20000 in
theorem ggX5_mend_X5_put : GoodIn wsX5_mend wsX5_put := goodIn_r _ [28] (by decide +kernel) (by decide +kernel)
set_option maxRecDepth 20000 in
theorem gX5_mend_X5_put : GoodIn wsX5_mend (va_wsS RX5 58 yX5_put wsX5_put) := goodIn_app (goodIn_of _ (by decide +kernel)) ggX5_mend_X5_put
set_option maxRecDepth 20000 in
theorem ggX5_mend_X5_figuresOf : GoodIn wsX5_mend wsX5_figuresOf := goodIn_r _ [32] (by decide +kernel) (by decide +kernel)
set_option maxRecDepth 20000 in
theorem gX5_mend_X5_figuresOf : GoodIn wsX5_mend (va_wsS RX5 151 yX5_figuresOf wsX5_figuresOf) := goodIn_app (goodIn_of _ (by decide +kernel)) ggX5_mend_X5_figuresOf
theorem dX5_mend_0 : decode cX5_mend 0 = .ok (.aload_n 0, 1) := by decide +kernel
theorem dX5_mend_1 : decode cX5_mend 1 = .ok (.getfield 23, 3) := by decide +kernel
theorem dX5_mend_4 : decode cX5_mend 4 = .ok (.iload_n 1, 1) := by decide +kernel
theorem dX5_mend_5 : decode cX5_mend 5 = .ok (.invokevirtual 90, 3) := by decide +kernel
theorem dX5_mend_8 : decode cX5_mend 8 = .ok (.ifCond .ne 5, 3) := by decide +kernel
theorem dX5_mend_11 : decode cX5_mend 11 = .ok (.iconst (-1), 1) := by decide +kernel
theorem dX5_mend_12 : decode cX5_mend 12 = .ok (.ireturn, 1) := by decide +kernel
theorem dX5_mend_13 : decode cX5_mend 13 = .ok (.iload_n 2, 1) := by decide +kernel
theorem dX5_mend_14 : decode cX5_mend 14 = .ok (.ifCond .lt 18, 3) := by decide +kernel
theorem dX5_mend_17 : decode cX5_mend 17 = .ok (.iload_n 2, 1) := by decide +kernel
theorem dX5_mend_18 : decode cX5_mend 18 = .ok (.bipush 6, 2) := by decide +kernel
theorem dX5_mend_20 : decode cX5_mend 20 = .ok (.if_icmp .ge 12, 3) := by decide +kernel
theorem dX5_mend_23 : decode cX5_mend 23 = .ok (.iload_n 3, 1) := by decide +kernel
theorem dX5_mend_24 : decode cX5_mend 24 = .ok (.ifCond .lt 8, 3) := by decide +kernel
theorem dX5_mend_27 : decode cX5_mend 27 = .ok (.iload_n 3, 1) := by decide +kernel
theorem dX5_mend_28 : decode cX5_mend 28 = .ok (.iconst 4, 1) := by decide +kernel
theorem dX5_mend_29 : decode cX5_mend 29 = .ok (.if_icmp .lt 6, 3) := by decide +kernel
theorem dX5_mend_32 : decode cX5_mend 32 = .ok (.bipush (-2), 2) := by decide +kernel
theorem dX5_mend_34 : decode cX5_mend 34 = .ok (.ireturn, 1) := by decide +kernel
theorem dX5_mend_35 : decode cX5_mend 35 = .ok (.aload_n 0, 1) := by decide +kernel
theorem dX5_mend_36 : decode cX5_mend 36 = .ok (.getfield 30, 3) := by decide +kernel
theorem dX5_mend_39 : decode cX5_mend 39 = .ok (.getfield 100, 3) := by decide +kernel
theorem dX5_mend_42 : decode cX5_mend 42 = .ok (.iload_n 1, 1) := by decide +kernel
theorem dX5_mend_43 : decode cX5_mend 43 = .ok (.invokestatic 97, 3) := by decide +kernel
theorem dX5_mend_46 : decode cX5_mend 46 = .ok (.istore 4, 2) := by decide +kernel
theorem dX5_mend_48 : decode cX5_mend 48 = .ok (.iconst 4, 1) := by decide +kernel
theorem dX5_mend_49 : decode cX5_mend 49 = .ok (.iload_n 2, 1) := by decide +kernel
theorem dX5_mend_50 : decode cX5_mend 50 = .ok (.imul, 1) := by decide +kernel
theorem dX5_mend_51 : decode cX5_mend 51 = .ok (.iload_n 3, 1) := by decide +kernel
theorem dX5_mend_52 : decode cX5_mend 52 = .ok (.iadd, 1) := by decide +kernel
theorem dX5_mend_53 : decode cX5_mend 53 = .ok (.istore 5, 2) := by decide +kernel
theorem dX5_mend_55 : decode cX5_mend 55 = .ok (.iload 4, 2) := by decide +kernel
theorem dX5_mend_57 : decode cX5_mend 57 = .ok (.iload 5, 2) := by decide +kernel
theorem dX5_mend_59 : decode cX5_mend 59 = .ok (.if_icmp .ne 6, 3) := by decide +kernel
theorem dX5_mend_62 : decode cX5_mend 62 = .ok (.bipush (-3), 2) := by decide +kernel
theorem dX5_mend_64 : decode cX5_mend 64 = .ok (.ireturn, 1) := by decide +kernel
theorem dX5_mend_65 : decode cX5_mend 65 = .ok (.aload_n 0, 1) := by decide +kernel
theorem dX5_mend_66 : decode cX5_mend 66 = .ok (.getfield 40, 3) := by decide +kernel
theorem dX5_mend_69 : decode cX5_mend 69 = .ok (.iconst 3, 1) := by decide +kernel
theorem dX5_mend_70 : decode cX5_mend 70 = .ok (.iload_n 1, 1) := by decide +kernel
theorem dX5_mend_71 : decode cX5_mend 71 = .ok (.iload 4, 2) := by decide +kernel
theorem dX5_mend_73 : decode cX5_mend 73 = .ok (.invokevirtual 144, 3) := by decide +kernel
theorem dX5_mend_76 : decode cX5_mend 76 = .ok (.aload_n 0, 1) := by decide +kernel
theorem dX5_mend_77 : decode cX5_mend 77 = .ok (.getfield 30, 3) := by decide +kernel
theorem dX5_mend_80 : decode cX5_mend 80 = .ok (.getfield 100, 3) := by decide +kernel
theorem dX5_mend_83 : decode cX5_mend 83 = .ok (.iload_n 1, 1) := by decide +kernel
theorem dX5_mend_84 : decode cX5_mend 84 = .ok (.iload 5, 2) := by decide +kernel
theorem dX5_mend_86 : decode cX5_mend 86 = .ok (.invokestatic 58, 3) := by decide +kernel
theorem dX5_mend_89 : decode cX5_mend 89 = .ok (.iload 4, 2) := by decide +kernel
theorem dX5_mend_91 : decode cX5_mend 91 = .ok (.invokestatic 151, 3) := by decide +kernel
theorem dX5_mend_94 : decode cX5_mend 94 = .ok (.ireturn, 1) := by decide +kernel
set_option maxRecDepth 20000 in
theorem ggX5_move_X1_hasCasket : GoodIn wsX5_move wsX1_hasCasket := goodIn_r _ [9, 10, 42, 43, 44, 45, 46] (by decide +kernel) (by decide +kernel)
set_option maxRecDepth 20000 in
theorem gX5_move_X1_hasCasket : GoodIn wsX5_move (wsV RX5 90 RX1 yX1_hasCasket wsX1_hasCasket) := goodIn_app (goodIn_of _ (by decide +kernel)) ggX5_move_X1_hasCasket
set_option maxRecDepth 20000 in
theorem ggX5_move_X0_add : GoodIn wsX5_move wsX0_add := goodIn_r _ [15, 16, 17, 18, 19, 20, 21, 14, 22, 23, 24, 25, 47, 48, 49, 50] (by decide +kernel) (by decide +kernel)
set_option maxRecDepth 20000 in
theorem gX5_move_X0_add : GoodIn wsX5_move (wsV RX5 144 RX0 yX0_add wsX0_add) := goodIn_app (goodIn_of _ (by decide +kernel)) ggX5_move_X0_add
theorem dX5_move_0 : decode cX5_move 0 = .ok (.aload_n 0, 1) := by decide +kernel
theorem dX5_move_1 : decode cX5_move 1 = .ok (.getfield 23, 3) := by decide +kernel
theorem dX5_move_4 : decode cX5_move 4 = .ok (.iload_n 1, 1) := by decide +kernel
theorem dX5_move_5 : decode cX5_move 5 = .ok (.invokevirtual 90, 3) := by decide +kernel
theorem dX5_move_8 : decode cX5_move 8 = .ok (.ifCond .ne 5, 3) := by decide +kernel
theorem dX5_move_11 : decode cX5_move 11 = .ok (.iconst (-1), 1) := by decide +kernel
theorem dX5_move_12 : decode cX5_move 12 = .ok (.ireturn, 1) := by decide +kernel
theorem dX5_move_13 : decode cX5_move 13 = .ok (.aload_n 0, 1) := by decide +kernel
theorem dX5_move_14 : decode cX5_move 14 = .ok (.getfield 30, 3) := by decide +kernel
theorem dX5_move_17 : decode cX5_move 17 = .ok (.getfield 155, 3) := by decide +kernel
theorem dX5_move_20 : decode cX5_move 20 = .ok (.istore_n 2, 1) := by decide +kernel
theorem dX5_move_21 : decode cX5_move 21 = .ok (.iload_n 2, 1) := by decide +kernel
theorem dX5_move_22 : decode cX5_move 22 = .ok (.iload_n 1, 1) := by decide +kernel
theorem dX5_move_23 : decode cX5_move 23 = .ok (.if_icmp .ne 6, 3) := by decide +kernel
theorem dX5_move_26 : decode cX5_move 26 = .ok (.bipush (-3), 2) := by decide +kernel
theorem dX5_move_28 : decode cX5_move 28 = .ok (.ireturn, 1) := by decide +kernel
theorem dX5_move_29 : decode cX5_move 29 = .ok (.aload_n 0, 1) := by decide +kernel
theorem dX5_move_30 : decode cX5_move 30 = .ok (.getfield 40, 3) := by decide +kernel
theorem dX5_move_33 : decode cX5_move 33 = .ok (.iconst 1, 1) := by decide +kernel
theorem dX5_move_34 : decode cX5_move 34 = .ok (.iload_n 1, 1) := by decide +kernel
theorem dX5_move_35 : decode cX5_move 35 = .ok (.iload_n 2, 1) := by decide +kernel
theorem dX5_move_36 : decode cX5_move 36 = .ok (.invokevirtual 144, 3) := by decide +kernel
theorem dX5_move_39 : decode cX5_move 39 = .ok (.aload_n 0, 1) := by decide +kernel
theorem dX5_move_40 : decode cX5_move 40 = .ok (.getfield 30, 3) := by decide +kernel
theorem dX5_move_43 : decode cX5_move 43 = .ok (.iload_n 1, 1) := by decide +kernel
theorem dX5_move_44 : decode cX5_move 44 = .ok (.putfield 155, 3) := by decide +kernel
theorem dX5_move_47 : decode cX5_move 47 = .ok (.iload_n 2, 1) := by decide +kernel
theorem dX5_move_48 : decode cX5_move 48 = .ok (.ireturn, 1) := by decide +kernel
set_option maxRecDepth 20000 in
theorem ggX5_sing_X1_hasCasket : GoodIn wsX5_sing wsX1_hasCasket := goodIn_r _ [9, 10, 48, 49, 50, 51, 52] (by decide +kernel) (by decide +kernel)
set_option maxRecDepth 20000 in
theorem gX5_sing_X1_hasCasket : GoodIn wsX5_sing (wsV RX5 90 RX1 yX1_hasCasket wsX1_hasCasket) := goodIn_app (goodIn_of _ (by decide +kernel)) ggX5_sing_X1_hasCasket
set_option maxRecDepth 20000 in
theorem ggX5_sing_X0_add : GoodIn wsX5_sing wsX0_add := goodIn_r _ [15, 16, 17, 18, 19, 20, 21, 14, 22, 23, 24, 25, 53, 54, 55, 56] (by decide +kernel) (by decide +kernel)
set_option maxRecDepth 20000 in
theorem gX5_sing_X0_add : GoodIn wsX5_sing (wsV RX5 144 RX0 yX0_add wsX0_add) := goodIn_app (goodIn_of _ (by decide +kernel)) ggX5_sing_X0_add
set_option maxRecDepth 20000 in
theorem ggX5_sing_X4_turnSong : GoodIn wsX5_sing wsX4_turnSong := goodIn_r _ [30, 31, 42, 43, 44, 45, 46, 47] (by decide +kernel) (by decide +kernel)
set_option maxRecDepth 20000 in
theorem gX5_sing_X4_turnSong : GoodIn wsX5_sing (wsV RX5 158 RX4 yX4_turnSong wsX4_turnSong) := goodIn_app (goodIn_of _ (by decide +kernel)) ggX5_sing_X4_turnSong
theorem dX5_sing_0 : decode cX5_sing 0 = .ok (.aload_n 0, 1) := by decide +kernel
theorem dX5_sing_1 : decode cX5_sing 1 = .ok (.getfield 23, 3) := by decide +kernel
theorem dX5_sing_4 : decode cX5_sing 4 = .ok (.iload_n 1, 1) := by decide +kernel
theorem dX5_sing_5 : decode cX5_sing 5 = .ok (.invokevirtual 90, 3) := by decide +kernel
theorem dX5_sing_8 : decode cX5_sing 8 = .ok (.ifCond .ne 5, 3) := by decide +kernel
theorem dX5_sing_11 : decode cX5_sing 11 = .ok (.iconst (-1), 1) := by decide +kernel
theorem dX5_sing_12 : decode cX5_sing 12 = .ok (.ireturn, 1) := by decide +kernel
theorem dX5_sing_13 : decode cX5_sing 13 = .ok (.aload_n 0, 1) := by decide +kernel
theorem dX5_sing_14 : decode cX5_sing 14 = .ok (.getfield 40, 3) := by decide +kernel
theorem dX5_sing_17 : decode cX5_sing 17 = .ok (.iconst 2, 1) := by decide +kernel
theorem dX5_sing_18 : decode cX5_sing 18 = .ok (.iload_n 1, 1) := by decide +kernel
theorem dX5_sing_19 : decode cX5_sing 19 = .ok (.iconst 0, 1) := by decide +kernel
theorem dX5_sing_20 : decode cX5_sing 20 = .ok (.invokevirtual 144, 3) := by decide +kernel
theorem dX5_sing_23 : decode cX5_sing 23 = .ok (.aload_n 0, 1) := by decide +kernel
theorem dX5_sing_24 : decode cX5_sing 24 = .ok (.getfield 30, 3) := by decide +kernel
theorem dX5_sing_27 : decode cX5_sing 27 = .ok (.iload_n 1, 1) := by decide +kernel
theorem dX5_sing_28 : decode cX5_sing 28 = .ok (.invokevirtual 158, 3) := by decide +kernel
theorem dX5_sing_31 : decode cX5_sing 31 = .ok (.aload_n 0, 1) := by decide +kernel
theorem dX5_sing_32 : decode cX5_sing 32 = .ok (.getfield 30, 3) := by decide +kernel
theorem dX5_sing_35 : decode cX5_sing 35 = .ok (.getfield 103, 3) := by decide +kernel
theorem dX5_sing_38 : decode cX5_sing 38 = .ok (.iload_n 1, 1) := by decide +kernel
theorem dX5_sing_39 : decode cX5_sing 39 = .ok (.ishr, 1) := by decide +kernel
theorem dX5_sing_40 : decode cX5_sing 40 = .ok (.iconst 1, 1) := by decide +kernel
theorem dX5_sing_41 : decode cX5_sing 41 = .ok (.iand, 1) := by decide +kernel
theorem dX5_sing_42 : decode cX5_sing 42 = .ok (.ireturn, 1) := by decide +kernel
set_option maxRecDepth 20000 in
theorem ggX5_undo_X5_at : GoodIn wsX5_undo wsX5_at := goodIn_r _ [10] (by decide +kernel) (by decide +kernel)
set_option maxRecDepth 20000 in
theorem gX5_undo_X5_at : GoodIn wsX5_undo (va_wsS RX5 97 yX5_at wsX5_at) := goodIn_app (goodIn_of _ (by decide +kernel)) ggX5_undo_X5_at
set_option maxRecDepth 20000 in
theorem ggX5_undo_X4_takeBack : GoodIn wsX5_undo wsX4_takeBack := goodIn_r _ [15, 16, 17, 18, 19, 20, 21, 22, 23, 24, 9, 25, 26, 27, 28, 14, 29, 30, 45, 46, 47, 48, 49, 50] (by decide +kernel) (by decide +kernel)
set_option maxRecDepth 20000 in
theorem gX5_undo_X4_takeBack : GoodIn wsX5_undo (wsV RX5 170 RX4 yX4_takeBack wsX4_takeBack) := goodIn_app (goodIn_of _ (by decide +kernel)) ggX5_undo_X4_takeBack
theorem dX5_undo_0 : decode cX5_undo 0 = .ok (.aload_n 0, 1) := by decide +kernel
theorem dX5_undo_1 : decode cX5_undo 1 = .ok (.getfield 40, 3) := by decide +kernel
theorem dX5_undo_4 : decode cX5_undo 4 = .ok (.getfield 77, 3) := by decide +kernel
theorem dX5_undo_7 : decode cX5_undo 7 = .ok (.ifCond .gt 6, 3) := by decide +kernel
theorem dX5_undo_10 : decode cX5_undo 10 = .ok (.bipush (-3), 2) := by decide +kernel
theorem dX5_undo_12 : decode cX5_undo 12 = .ok (.ireturn, 1) := by decide +kernel
theorem dX5_undo_13 : decode cX5_undo 13 = .ok (.aload_n 0, 1) := by decide +kernel
theorem dX5_undo_14 : decode cX5_undo 14 = .ok (.getfield 40, 3) := by decide +kernel
theorem dX5_undo_17 : decode cX5_undo 17 = .ok (.dup, 1) := by decide +kernel
theorem dX5_undo_18 : decode cX5_undo 18 = .ok (.getfield 77, 3) := by decide +kernel
theorem dX5_undo_21 : decode cX5_undo 21 = .ok (.iconst 1, 1) := by decide +kernel
theorem dX5_undo_22 : decode cX5_undo 22 = .ok (.isub, 1) := by decide +kernel
theorem dX5_undo_23 : decode cX5_undo 23 = .ok (.putfield 77, 3) := by decide +kernel
theorem dX5_undo_26 : decode cX5_undo 26 = .ok (.aload_n 0, 1) := by decide +kernel
theorem dX5_undo_27 : decode cX5_undo 27 = .ok (.getfield 30, 3) := by decide +kernel
theorem dX5_undo_30 : decode cX5_undo 30 = .ok (.aload_n 0, 1) := by decide +kernel
theorem dX5_undo_31 : decode cX5_undo 31 = .ok (.getfield 40, 3) := by decide +kernel
theorem dX5_undo_34 : decode cX5_undo 34 = .ok (.getfield 162, 3) := by decide +kernel
theorem dX5_undo_37 : decode cX5_undo 37 = .ok (.aload_n 0, 1) := by decide +kernel
theorem dX5_undo_38 : decode cX5_undo 38 = .ok (.getfield 40, 3) := by decide +kernel
theorem dX5_undo_41 : decode cX5_undo 41 = .ok (.getfield 77, 3) := by decide +kernel
theorem dX5_undo_44 : decode cX5_undo 44 = .ok (.invokestatic 97, 3) := by decide +kernel
theorem dX5_undo_47 : decode cX5_undo 47 = .ok (.aload_n 0, 1) := by decide +kernel
theorem dX5_undo_48 : decode cX5_undo 48 = .ok (.getfield 40, 3) := by decide +kernel
theorem dX5_undo_51 : decode cX5_undo 51 = .ok (.getfield 165, 3) := by decide +kernel
theorem dX5_undo_54 : decode cX5_undo 54 = .ok (.aload_n 0, 1) := by decide +kernel
theorem dX5_undo_55 : decode cX5_undo 55 = .ok (.getfield 40, 3) := by decide +kernel
theorem dX5_undo_58 : decode cX5_undo 58 = .ok (.getfield 77, 3) := by decide +kernel
theorem dX5_undo_61 : decode cX5_undo 61 = .ok (.invokestatic 97, 3) := by decide +kernel
theorem dX5_undo_64 : decode cX5_undo 64 = .ok (.aload_n 0, 1) := by decide +kernel
theorem dX5_undo_65 : decode cX5_undo 65 = .ok (.getfield 40, 3) := by decide +kernel
theorem dX5_undo_68 : decode cX5_undo 68 = .ok (.getfield 167, 3) := by decide +kernel
theorem dX5_undo_71 : decode cX5_undo 71 = .ok (.aload_n 0, 1) := by decide +kernel
theorem dX5_undo_72 : decode cX5_undo 72 = .ok (.getfield 40, 3) := by decide +kernel
theorem dX5_undo_75 : decode cX5_undo 75 = .ok (.getfield 77, 3) := by decide +kernel
theorem dX5_undo_78 : decode cX5_undo 78 = .ok (.invokestatic 97, 3) := by decide +kernel
theorem dX5_undo_81 : decode cX5_undo 81 = .ok (.invokevirtual 170, 3) := by decide +kernel
theorem dX5_undo_84 : decode cX5_undo 84 = .ok (.aload_n 0, 1) := by decide +kernel
theorem dX5_undo_85 : decode cX5_undo 85 = .ok (.getfield 40, 3) := by decide +kernel
theorem dX5_undo_88 : decode cX5_undo 88 = .ok (.getfield 77, 3) := by decide +kernel
theorem dX5_undo_91 : decode cX5_undo 91 = .ok (.ireturn, 1) := by decide +kernel
set_option maxRecDepth 20000 in
theorem ggX5_lines_X1_hasCasket : GoodIn wsX5_lines wsX1_hasCasket := goodIn_r _ [9, 10, 44, 45, 46, 47, 48] (by decide +kernel) (by decide +kernel)
set_option maxRecDepth 20000 in
theorem gX5_lines_X1_hasCasket : GoodIn wsX5_lines (wsV RX5 90 RX1 yX1_hasCasket wsX1_hasCasket) := goodIn_app (goodIn_of _ (by decide +kernel)) ggX5_lines_X1_hasCasket
set_option maxRecDepth 20000 in
theorem ggX5_lines_X4_readings : GoodIn wsX5_lines wsX4_readings := goodIn_r _ [15, 16, 17, 18, 19, 20, 3, 21, 22, 23, 24, 25, 26, 27, 28, 4, 29, 30, 31, 32, 33, 49, 50, 51, 52, 53, 54, 44, 45, 46, 47, 48] (by decide +kernel) (by decide +kernel)
set_option maxRecDepth 20000 in
theorem gX5_lines_X4_readings : GoodIn wsX5_lines (wsV RX5 110 RX4 yX4_readings wsX4_readings) := goodIn_app (goodIn_of _ (by decide +kernel)) ggX5_lines_X4_readings
set_option maxRecDepth 20000 in
theorem ggX5_lines_X5_worldsWith : GoodIn wsX5_lines wsX5_worldsWith := goodIn_r _ [32, 33] (by decide +kernel) (by decide +kernel)
set_option maxRecDepth 20000 in
theorem gX5_lines_X5_worldsWith : GoodIn wsX5_lines (va_wsS RX5 114 yX5_worldsWith wsX5_worldsWith) := goodIn_app (goodIn_of _ (by decide +kernel)) ggX5_lines_X5_worldsWith
set_option maxRecDepth 20000 in
theorem ggX5_lines_X5_maskAt : GoodIn wsX5_lines wsX5_maskAt := goodIn_r _ [25] (by decide +kernel) (by decide +kernel)
set_option maxRecDepth 20000 in
theorem gX5_lines_X5_maskAt : GoodIn wsX5_lines (va_wsS RX5 177 yX5_maskAt wsX5_maskAt) := goodIn_app (goodIn_of _ (by decide +kernel)) ggX5_lines_X5_maskAt
theorem dX5_lines_0 : decode cX5_lines 0 = .ok (.aload_n 0, 1) := by decide +kernel
theorem dX5_lines_1 : decode cX5_lines 1 = .ok (.getfield 23, 3) := by decide +kernel
theorem dX5_lines_4 : decode cX5_lines 4 = .ok (.iload_n 1, 1) := by decide +kernel
theorem dX5_lines_5 : decode cX5_lines 5 = .ok (.invokevirtual 90, 3) := by decide +kernel
theorem dX5_lines_8 : decode cX5_lines 8 = .ok (.ifCond .ne 5, 3) := by decide +kernel
theorem dX5_lines_11 : decode cX5_lines 11 = .ok (.iconst (-1), 1) := by decide +kernel
theorem dX5_lines_12 : decode cX5_lines 12 = .ok (.ireturn, 1) := by decide +kernel
theorem dX5_lines_13 : decode cX5_lines 13 = .ok (.aload_n 0, 1) := by decide +kernel
theorem dX5_lines_14 : decode cX5_lines 14 = .ok (.getfield 30, 3) := by decide +kernel
theorem dX5_lines_17 : decode cX5_lines 17 = .ok (.aload_n 0, 1) := by decide +kernel
theorem dX5_lines_18 : decode cX5_lines 18 = .ok (.getfield 23, 3) := by decide +kernel
theorem dX5_lines_21 : decode cX5_lines 21 = .ok (.invokevirtual 110, 3) := by decide +kernel
theorem dX5_lines_24 : decode cX5_lines 24 = .ok (.iload_n 1, 1) := by decide +kernel
theorem dX5_lines_25 : decode cX5_lines 25 = .ok (.invokestatic 114, 3) := by decide +kernel
theorem dX5_lines_28 : decode cX5_lines 28 = .ok (.land, 1) := by decide +kernel
theorem dX5_lines_29 : decode cX5_lines 29 = .ok (.lstore_n 3, 1) := by decide +kernel
theorem dX5_lines_30 : decode cX5_lines 30 = .ok (.lload_n 3, 1) := by decide +kernel
theorem dX5_lines_31 : decode cX5_lines 31 = .ok (.lconst 0, 1) := by decide +kernel
theorem dX5_lines_32 : decode cX5_lines 32 = .ok (.lcmp, 1) := by decide +kernel
theorem dX5_lines_33 : decode cX5_lines 33 = .ok (.ifCond .ne 6, 3) := by decide +kernel
theorem dX5_lines_36 : decode cX5_lines 36 = .ok (.bipush (-9), 2) := by decide +kernel
theorem dX5_lines_38 : decode cX5_lines 38 = .ok (.ireturn, 1) := by decide +kernel
theorem dX5_lines_39 : decode cX5_lines 39 = .ok (.iconst 0, 1) := by decide +kernel
theorem dX5_lines_40 : decode cX5_lines 40 = .ok (.istore 5, 2) := by decide +kernel
theorem dX5_lines_42 : decode cX5_lines 42 = .ok (.iconst 0, 1) := by decide +kernel
theorem dX5_lines_43 : decode cX5_lines 43 = .ok (.istore 6, 2) := by decide +kernel
theorem dX5_lines_45 : decode cX5_lines 45 = .ok (.iload 6, 2) := by decide +kernel
theorem dX5_lines_47 : decode cX5_lines 47 = .ok (.iconst 4, 1) := by decide +kernel
theorem dX5_lines_48 : decode cX5_lines 48 = .ok (.if_icmp .ge 63, 3) := by decide +kernel
theorem dX5_lines_51 : decode cX5_lines 51 = .ok (.iload 6, 2) := by decide +kernel
theorem dX5_lines_53 : decode cX5_lines 53 = .ok (.aload_n 0, 1) := by decide +kernel
theorem dX5_lines_54 : decode cX5_lines 54 = .ok (.getfield 23, 3) := by decide +kernel
theorem dX5_lines_57 : decode cX5_lines 57 = .ok (.getfield 84, 3) := by decide +kernel
theorem dX5_lines_60 : decode cX5_lines 60 = .ok (.if_icmp .ge 51, 3) := by decide +kernel
theorem dX5_lines_63 : decode cX5_lines 63 = .ok (.lload_n 3, 1) := by decide +kernel
theorem dX5_lines_64 : decode cX5_lines 64 = .ok (.getstatic 173, 3) := by decide +kernel
theorem dX5_lines_67 : decode cX5_lines 67 = .ok (.iload 6, 2) := by decide +kernel
theorem dX5_lines_69 : decode cX5_lines 69 = .ok (.invokestatic 177, 3) := by decide +kernel
theorem dX5_lines_72 : decode cX5_lines 72 = .ok (.land, 1) := by decide +kernel
theorem dX5_lines_73 : decode cX5_lines 73 = .ok (.lstore 7, 2) := by decide +kernel
theorem dX5_lines_75 : decode cX5_lines 75 = .ok (.iload_n 2, 1) := by decide +kernel
theorem dX5_lines_76 : decode cX5_lines 76 = .ok (.ifCond .eq 13, 3) := by decide +kernel
theorem dX5_lines_79 : decode cX5_lines 79 = .ok (.lload 7, 2) := by decide +kernel
theorem dX5_lines_81 : decode cX5_lines 81 = .ok (.lload_n 3, 1) := by decide +kernel
theorem dX5_lines_82 : decode cX5_lines 82 = .ok (.lcmp, 1) := by decide +kernel
theorem dX5_lines_83 : decode cX5_lines 83 = .ok (.ifCond .ne 22, 3) := by decide +kernel
theorem dX5_lines_86 : decode cX5_lines 86 = .ok (.goto 10, 3) := by decide +kernel
theorem dX5_lines_89 : decode cX5_lines 89 = .ok (.lload 7, 2) := by decide +kernel
theorem dX5_lines_91 : decode cX5_lines 91 = .ok (.lconst 0, 1) := by decide +kernel
theorem dX5_lines_92 : decode cX5_lines 92 = .ok (.lcmp, 1) := by decide +kernel
theorem dX5_lines_93 : decode cX5_lines 93 = .ok (.ifCond .eq 12, 3) := by decide +kernel
theorem dX5_lines_96 : decode cX5_lines 96 = .ok (.iload 5, 2) := by decide +kernel
theorem dX5_lines_98 : decode cX5_lines 98 = .ok (.iconst 1, 1) := by decide +kernel
theorem dX5_lines_99 : decode cX5_lines 99 = .ok (.iload 6, 2) := by decide +kernel
theorem dX5_lines_101 : decode cX5_lines 101 = .ok (.ishl, 1) := by decide +kernel
theorem dX5_lines_102 : decode cX5_lines 102 = .ok (.ior, 1) := by decide +kernel
theorem dX5_lines_103 : decode cX5_lines 103 = .ok (.istore 5, 2) := by decide +kernel
theorem dX5_lines_105 : decode cX5_lines 105 = .ok (.iinc 6 1, 3) := by decide +kernel
theorem dX5_lines_108 : decode cX5_lines 108 = .ok (.goto (-63), 3) := by decide +kernel
theorem dX5_lines_111 : decode cX5_lines 111 = .ok (.iload 5, 2) := by decide +kernel
theorem dX5_lines_113 : decode cX5_lines 113 = .ok (.ireturn, 1) := by decide +kernel
set_option maxRecDepth 20000 in
theorem ggX5_riddle_X5_solvingFits : GoodIn wsX5_riddle wsX5_solvingFits := goodIn_r _ [9, 3, 1, 10, 2, 11, 12, 13, 14, 15, 16, 17, 18, 19, 20, 21, 22, 23, 24, 25, 26, 27, 67, 68, 69, 70, 71, 72, 73, 74, 75, 76, 77, 78, 79, 80, 81, 82, 83, 84, 85, 86, 87] (by decide +kernel) (by decide +kernel)
set_option maxRecDepth 20000 in
theorem gX5_riddle_X5_solvingFits : GoodIn wsX5_riddle (wsV RX5 181 RX5 yX5_solvingFits wsX5_solvingFits) := goodIn_app (goodIn_of _ (by decide +kernel)) ggX5_riddle_X5_solvingFits
set_option maxRecDepth 20000 in
theorem ggX5_riddle_X4_fitting : GoodIn wsX5_riddle wsX4_fitting := goodIn_r _ [32, 33, 34, 8, 35, 36, 37, 38, 39, 40, 41, 42, 43, 44, 45, 46, 4, 47, 48, 49, 50, 51, 52, 77, 78, 79, 80, 81, 82, 83, 84, 85, 86, 87] (by decide +kernel) (by decide +kernel)
set_option maxRecDepth 20000 in
theorem gX5_riddle_X4_fitting : GoodIn wsX5_riddle (wsV RX5 106 RX4 yX4_fitting wsX4_fitting) := goodIn_app (goodIn_of _ (by decide +kernel)) ggX5_riddle_X4_fitting
set_option maxRecDepth 20000 in
theorem ggX5_riddle_X5_leastMending : GoodIn wsX5_riddle wsX5_leastMending := goodIn_r _ [56, 3, 37, 1, 57, 58, 34, 8, 35, 36, 38, 39, 40, 41, 42, 43, 44, 45, 46, 4, 47, 48, 49, 50, 59, 51, 52, 60, 61, 62, 67, 68, 69, 70, 71, 72, 73, 74, 75, 76, 83, 84, 85, 86, 87, 77, 78, 79, 80, 81, 82] (by decide +kernel) (by decide +kernel)
set_option maxRecDepth 20000 in
theorem gX5_riddle_X5_leastMending : GoodIn wsX5_riddle (wsV RX5 186 RX5 yX5_leastMending wsX5_leastMending) := goodIn_app (goodIn_of _ (by decide +kernel)) ggX5_riddle_X5_leastMending
set_option maxRecDepth 20000 in
theorem ggX5_riddle_X5_leastTwoMendings : GoodIn wsX5_riddle wsX5_leastTwoMendings := goodIn_r _ [66, 3, 37, 43, 44, 8, 45, 46, 4, 47, 48, 49, 50, 40, 41, 42, 53, 54, 55, 56, 1, 57, 58, 34, 35, 36, 38, 39, 59, 51, 52, 60, 61, 62, 67, 68, 69, 70, 71, 72, 73, 74, 75, 76, 83, 84, 85, 86, 87, 77, 78, 79, 80, 81, 82] (by decide +kernel) (by decide +kernel)
set_option maxRecDepth 20000 in
theorem gX5_riddle_X5_leastTwoMendings : GoodIn wsX5_riddle (wsV RX5 190 RX5 yX5_leastTwoMendings wsX5_leastTwoMendings) := goodIn_app (goodIn_of _ (by decide +kernel)) ggX5_riddle_X5_leastTwoMendings
theorem dX5_riddle_0 : decode cX5_riddle 0 = .ok (.iload_n 1, 1) := by decide +kernel
theorem dX5_riddle_1 : decode cX5_riddle 1 = .ok (.ifCond .lt 9, 3) := by decide +kernel
theorem dX5_riddle_4 : decode cX5_riddle 4 = .ok (.iload_n 1, 1) := by decide +kernel
theorem dX5_riddle_5 : decode cX5_riddle 5 = .ok (.bipush 16, 2) := by decide +kernel
theorem dX5_riddle_7 : decode cX5_riddle 7 = .ok (.if_icmp .lt 6, 3) := by decide +kernel
theorem dX5_riddle_10 : decode cX5_riddle 10 = .ok (.bipush (-2), 2) := by decide +kernel
theorem dX5_riddle_12 : decode cX5_riddle 12 = .ok (.ireturn, 1) := by decide +kernel
theorem dX5_riddle_13 : decode cX5_riddle 13 = .ok (.aload_n 0, 1) := by decide +kernel
theorem dX5_riddle_14 : decode cX5_riddle 14 = .ok (.getfield 30, 3) := by decide +kernel
theorem dX5_riddle_17 : decode cX5_riddle 17 = .ok (.getfield 155, 3) := by decide +kernel
theorem dX5_riddle_20 : decode cX5_riddle 20 = .ok (.bipush (-9), 2) := by decide +kernel
theorem dX5_riddle_22 : decode cX5_riddle 22 = .ok (.if_icmp .ne 6, 3) := by decide +kernel
theorem dX5_riddle_25 : decode cX5_riddle 25 = .ok (.bipush (-9), 2) := by decide +kernel
theorem dX5_riddle_27 : decode cX5_riddle 27 = .ok (.ireturn, 1) := by decide +kernel
theorem dX5_riddle_28 : decode cX5_riddle 28 = .ok (.aload_n 0, 1) := by decide +kernel
theorem dX5_riddle_29 : decode cX5_riddle 29 = .ok (.iload_n 1, 1) := by decide +kernel
theorem dX5_riddle_30 : decode cX5_riddle 30 = .ok (.invokevirtual 181, 3) := by decide +kernel
theorem dX5_riddle_33 : decode cX5_riddle 33 = .ok (.istore_n 3, 1) := by decide +kernel
theorem dX5_riddle_34 : decode cX5_riddle 34 = .ok (.iload_n 3, 1) := by decide +kernel
theorem dX5_riddle_35 : decode cX5_riddle 35 = .ok (.ifCond .ne 6, 3) := by decide +kernel
theorem dX5_riddle_38 : decode cX5_riddle 38 = .ok (.bipush (-9), 2) := by decide +kernel
theorem dX5_riddle_40 : decode cX5_riddle 40 = .ok (.ireturn, 1) := by decide +kernel
theorem dX5_riddle_41 : decode cX5_riddle 41 = .ok (.iload_n 3, 1) := by decide +kernel
theorem dX5_riddle_42 : decode cX5_riddle 42 = .ok (.aload_n 0, 1) := by decide +kernel
theorem dX5_riddle_43 : decode cX5_riddle 43 = .ok (.getfield 30, 3) := by decide +kernel
theorem dX5_riddle_46 : decode cX5_riddle 46 = .ok (.aload_n 0, 1) := by decide +kernel
theorem dX5_riddle_47 : decode cX5_riddle 47 = .ok (.getfield 23, 3) := by decide +kernel
theorem dX5_riddle_50 : decode cX5_riddle 50 = .ok (.invokevirtual 106, 3) := by decide +kernel
theorem dX5_riddle_53 : decode cX5_riddle 53 = .ok (.ishr, 1) := by decide +kernel
theorem dX5_riddle_54 : decode cX5_riddle 54 = .ok (.iconst 1, 1) := by decide +kernel
theorem dX5_riddle_55 : decode cX5_riddle 55 = .ok (.iand, 1) := by decide +kernel
theorem dX5_riddle_56 : decode cX5_riddle 56 = .ok (.iconst 1, 1) := by decide +kernel
theorem dX5_riddle_57 : decode cX5_riddle 57 = .ok (.if_icmp .ne 5, 3) := by decide +kernel
theorem dX5_riddle_60 : decode cX5_riddle 60 = .ok (.iconst 0, 1) := by decide +kernel
theorem dX5_riddle_61 : decode cX5_riddle 61 = .ok (.ireturn, 1) := by decide +kernel
theorem dX5_riddle_62 : decode cX5_riddle 62 = .ok (.aload_n 0, 1) := by decide +kernel
theorem dX5_riddle_63 : decode cX5_riddle 63 = .ok (.iload_n 3, 1) := by decide +kernel
theorem dX5_riddle_64 : decode cX5_riddle 64 = .ok (.iconst 0, 1) := by decide +kernel
theorem dX5_riddle_65 : decode cX5_riddle 65 = .ok (.ldc2_w 184, 3) := by decide +kernel
theorem dX5_riddle_68 : decode cX5_riddle 68 = .ok (.iconst 0, 1) := by decide +kernel
theorem dX5_riddle_69 : decode cX5_riddle 69 = .ok (.invokevirtual 186, 3) := by decide +kernel
theorem dX5_riddle_72 : decode cX5_riddle 72 = .ok (.istore 4, 2) := by decide +kernel
theorem dX5_riddle_74 : decode cX5_riddle 74 = .ok (.iload 4, 2) := by decide +kernel
theorem dX5_riddle_76 : decode cX5_riddle 76 = .ok (.bipush (-9), 2) := by decide +kernel
theorem dX5_riddle_78 : decode cX5_riddle 78 = .ok (.if_icmp .eq 14, 3) := by decide +kernel
theorem dX5_riddle_81 : decode cX5_riddle 81 = .ok (.iload_n 2, 1) := by decide +kernel
theorem dX5_riddle_82 : decode cX5_riddle 82 = .ok (.ifCond .eq 8, 3) := by decide +kernel
theorem dX5_riddle_85 : decode cX5_riddle 85 = .ok (.iload 4, 2) := by decide +kernel
theorem dX5_riddle_87 : decode cX5_riddle 87 = .ok (.goto 4, 3) := by decide +kernel
theorem dX5_riddle_90 : decode cX5_riddle 90 = .ok (.iconst 1, 1) := by decide +kernel
theorem dX5_riddle_91 : decode cX5_riddle 91 = .ok (.ireturn, 1) := by decide +kernel
theorem dX5_riddle_92 : decode cX5_riddle 92 = .ok (.aload_n 0, 1) := by decide +kernel
theorem dX5_riddle_93 : decode cX5_riddle 93 = .ok (.iload_n 3, 1) := by decide +kernel
theorem dX5_riddle_94 : decode cX5_riddle 94 = .ok (.invokevirtual 190, 3) := by decide +kernel
theorem dX5_riddle_97 : decode cX5_riddle 97 = .ok (.istore 5, 2) := by decide +kernel
theorem dX5_riddle_99 : decode cX5_riddle 99 = .ok (.iload 5, 2) := by decide +kernel
theorem dX5_riddle_101 : decode cX5_riddle 101 = .ok (.bipush (-9), 2) := by decide +kernel
theorem dX5_riddle_103 : decode cX5_riddle 103 = .ok (.if_icmp .eq 14, 3) := by decide +kernel
theorem dX5_riddle_106 : decode cX5_riddle 106 = .ok (.iload_n 2, 1) := by decide +kernel
theorem dX5_riddle_107 : decode cX5_riddle 107 = .ok (.ifCond .eq 8, 3) := by decide +kernel
theorem dX5_riddle_110 : decode cX5_riddle 110 = .ok (.iload 5, 2) := by decide +kernel
theorem dX5_riddle_112 : decode cX5_riddle 112 = .ok (.goto 4, 3) := by decide +kernel
theorem dX5_riddle_115 : decode cX5_riddle 115 = .ok (.iconst 2, 1) := by decide +kernel
theorem dX5_riddle_116 : decode cX5_riddle 116 = .ok (.ireturn, 1) := by decide +kernel
theorem dX5_riddle_117 : decode cX5_riddle 117 = .ok (.bipush (-9), 2) := by decide +kernel
theorem dX5_riddle_119 : decode cX5_riddle 119 = .ok (.ireturn, 1) := by decide +kernel
set_option maxRecDepth 20000 in
theorem ggX5_solvingFits_X1_pickOf : GoodIn wsX5_solvingFits wsX1_pickOf := goodIn_r _ [9, 10, 11, 12, 13, 8, 14, 15, 16, 17, 18, 19, 20, 21, 38, 39, 40, 41, 42] (by decide +kernel) (by decide +kernel)
set_option maxRecDepth 20000 in
theorem gX5_solvingFits_X1_pickOf : GoodIn wsX5_solvingFits (wsV RX5 130 RX1 yX1_pickOf wsX1_pickOf) := goodIn_app (goodIn_of _ (by decide +kernel)) ggX5_solvingFits_X1_pickOf
theorem dX5_solvingFits_0 : decode cX5_solvingFits 0 = .ok (.iconst 0, 1) := by decide +kernel
theorem dX5_solvingFits_1 : decode cX5_solvingFits 1 = .ok (.istore_n 2, 1) := by decide +kernel
theorem dX5_solvingFits_2 : decode cX5_solvingFits 2 = .ok (.iconst 0, 1) := by decide +kernel
theorem dX5_solvingFits_3 : decode cX5_solvingFits 3 = .ok (.istore_n 3, 1) := by decide +kernel
theorem dX5_solvingFits_4 : decode cX5_solvingFits 4 = .ok (.iload_n 3, 1) := by decide +kernel
theorem dX5_solvingFits_5 : decode cX5_solvingFits 5 = .ok (.bipush 16, 2) := by decide +kernel
theorem dX5_solvingFits_7 : decode cX5_solvingFits 7 = .ok (.if_icmp .ge 75, 3) := by decide +kernel
theorem dX5_solvingFits_10 : decode cX5_solvingFits 10 = .ok (.iconst 0, 1) := by decide +kernel
theorem dX5_solvingFits_11 : decode cX5_solvingFits 11 = .ok (.istore 4, 2) := by decide +kernel
theorem dX5_solvingFits_13 : decode cX5_solvingFits 13 = .ok (.iconst 0, 1) := by decide +kernel
theorem dX5_solvingFits_14 : decode cX5_solvingFits 14 = .ok (.istore 5, 2) := by decide +kernel
theorem dX5_solvingFits_16 : decode cX5_solvingFits 16 = .ok (.iload 5, 2) := by decide +kernel
theorem dX5_solvingFits_18 : decode cX5_solvingFits 18 = .ok (.iconst 4, 1) := by decide +kernel
theorem dX5_solvingFits_19 : decode cX5_solvingFits 19 = .ok (.if_icmp .ge 45, 3) := by decide +kernel
theorem dX5_solvingFits_22 : decode cX5_solvingFits 22 = .ok (.aload_n 0, 1) := by decide +kernel
theorem dX5_solvingFits_23 : decode cX5_solvingFits 23 = .ok (.getfield 23, 3) := by decide +kernel
theorem dX5_solvingFits_26 : decode cX5_solvingFits 26 = .ok (.iload 5, 2) := by decide +kernel
theorem dX5_solvingFits_28 : decode cX5_solvingFits 28 = .ok (.iload_n 3, 1) := by decide +kernel
theorem dX5_solvingFits_29 : decode cX5_solvingFits 29 = .ok (.aload_n 0, 1) := by decide +kernel
theorem dX5_solvingFits_30 : decode cX5_solvingFits 30 = .ok (.getfield 30, 3) := by decide +kernel
theorem dX5_solvingFits_33 : decode cX5_solvingFits 33 = .ok (.getfield 103, 3) := by decide +kernel
theorem dX5_solvingFits_36 : decode cX5_solvingFits 36 = .ok (.invokevirtual 130, 3) := by decide +kernel
theorem dX5_solvingFits_39 : decode cX5_solvingFits 39 = .ok (.aload_n 0, 1) := by decide +kernel
theorem dX5_solvingFits_40 : decode cX5_solvingFits 40 = .ok (.getfield 30, 3) := by decide +kernel
theorem dX5_solvingFits_43 : decode cX5_solvingFits 43 = .ok (.getfield 155, 3) := by decide +kernel
theorem dX5_solvingFits_46 : decode cX5_solvingFits 46 = .ok (.if_icmp .ne 12, 3) := by decide +kernel
theorem dX5_solvingFits_49 : decode cX5_solvingFits 49 = .ok (.iload 4, 2) := by decide +kernel
theorem dX5_solvingFits_51 : decode cX5_solvingFits 51 = .ok (.iconst 1, 1) := by decide +kernel
theorem dX5_solvingFits_52 : decode cX5_solvingFits 52 = .ok (.iload 5, 2) := by decide +kernel
theorem dX5_solvingFits_54 : decode cX5_solvingFits 54 = .ok (.ishl, 1) := by decide +kernel
theorem dX5_solvingFits_55 : decode cX5_solvingFits 55 = .ok (.ior, 1) := by decide +kernel
theorem dX5_solvingFits_56 : decode cX5_solvingFits 56 = .ok (.istore 4, 2) := by decide +kernel
theorem dX5_solvingFits_58 : decode cX5_solvingFits 58 = .ok (.iinc 5 1, 3) := by decide +kernel
theorem dX5_solvingFits_61 : decode cX5_solvingFits 61 = .ok (.goto (-45), 3) := by decide +kernel
theorem dX5_solvingFits_64 : decode cX5_solvingFits 64 = .ok (.iload 4, 2) := by decide +kernel
theorem dX5_solvingFits_66 : decode cX5_solvingFits 66 = .ok (.iload_n 1, 1) := by decide +kernel
theorem dX5_solvingFits_67 : decode cX5_solvingFits 67 = .ok (.if_icmp .ne 9, 3) := by decide +kernel
theorem dX5_solvingFits_70 : decode cX5_solvingFits 70 = .ok (.iload_n 2, 1) := by decide +kernel
theorem dX5_solvingFits_71 : decode cX5_solvingFits 71 = .ok (.iconst 1, 1) := by decide +kernel
theorem dX5_solvingFits_72 : decode cX5_solvingFits 72 = .ok (.iload_n 3, 1) := by decide +kernel
theorem dX5_solvingFits_73 : decode cX5_solvingFits 73 = .ok (.ishl, 1) := by decide +kernel
theorem dX5_solvingFits_74 : decode cX5_solvingFits 74 = .ok (.ior, 1) := by decide +kernel
theorem dX5_solvingFits_75 : decode cX5_solvingFits 75 = .ok (.istore_n 2, 1) := by decide +kernel
theorem dX5_solvingFits_76 : decode cX5_solvingFits 76 = .ok (.iinc 3 1, 3) := by decide +kernel
theorem dX5_solvingFits_79 : decode cX5_solvingFits 79 = .ok (.goto (-75), 3) := by decide +kernel
theorem dX5_solvingFits_82 : decode cX5_solvingFits 82 = .ok (.iload_n 2, 1) := by decide +kernel
theorem dX5_solvingFits_83 : decode cX5_solvingFits 83 = .ok (.ireturn, 1) := by decide +kernel
set_option maxRecDepth 20000 in
theorem ggX5_leastTwoMendings_X5_agreeing : GoodIn wsX5_leastTwoMendings wsX5_agreeing := goodIn_r _ [6, 7, 8, 9, 10, 5, 11, 12, 13, 14, 15] (by decide +kernel) (by decide +kernel)
set_option maxRecDepth 20000 in
theorem gX5_leastTwoMendings_X5_agreeing : GoodIn wsX5_leastTwoMendings (va_wsS RX5 193 yX5_agreeing wsX5_agreeing) := goodIn_app (goodIn_of _ (by decide +kernel)) ggX5_leastTwoMendings_X5_agreeing
set_option maxRecDepth 20000 in
theorem ggX5_leastTwoMendings_X5_leastMending : GoodIn wsX5_leastTwoMendings wsX5_leastMending := goodIn_r _ [19, 1, 2, 20, 21, 22, 23, 5, 24, 25, 26, 27, 13, 14, 15, 3, 4, 6, 7, 8, 9, 10, 11, 12, 28, 29, 30, 31, 32, 33, 34, 35, 36, 37, 38, 39, 40, 41, 42, 43, 44, 45, 46, 47, 48, 49, 50, 51, 52, 53, 54] (by decide +kernel) (by decide +kernel)
set_option maxRecDepth 20000 in
theorem gX5_leastTwoMendings_X5_leastMending : GoodIn wsX5_leastTwoMendings (wsV RX5 186 RX5 yX5_leastMending wsX5_leastMending) := goodIn_app (goodIn_of _ (by decide +kernel)) ggX5_leastTwoMendings_X5_leastMending
set_option maxRecDepth 20000 in
theorem ggX5_leastTwoMendings_X5_figuresOf : GoodIn wsX5_leastTwoMendings wsX5_figuresOf := goodIn_r _ [33] (by decide +kernel) (by decide +kernel)
set_option maxRecDepth 20000 in
theorem gX5_leastTwoMendings_X5_figuresOf : GoodIn wsX5_leastTwoMendings (va_wsS RX5 151 yX5_figuresOf wsX5_figuresOf) := goodIn_app (goodIn_of _ (by decide +kernel)) ggX5_leastTwoMendings_X5_figuresOf
theorem dX5_leastTwoMendings_0 : decode cX5_leastTwoMendings 0 = .ok (.iconst 0, 1) := by decide +kernel
theorem dX5_leastTwoMendings_1 : decode cX5_leastTwoMendings 1 = .ok (.istore_n 2, 1) := by decide +kernel
theorem dX5_leastTwoMendings_2 : decode cX5_leastTwoMendings 2 = .ok (.iload_n 2, 1) := by decide +kernel
theorem dX5_leastTwoMendings_3 : decode cX5_leastTwoMendings 3 = .ok (.iconst 4, 1) := by decide +kernel
theorem dX5_leastTwoMendings_4 : decode cX5_leastTwoMendings 4 = .ok (.if_icmp .ge 80, 3) := by decide +kernel
theorem dX5_leastTwoMendings_7 : decode cX5_leastTwoMendings 7 = .ok (.iload_n 2, 1) := by decide +kernel
theorem dX5_leastTwoMendings_8 : decode cX5_leastTwoMendings 8 = .ok (.aload_n 0, 1) := by decide +kernel
theorem dX5_leastTwoMendings_9 : decode cX5_leastTwoMendings 9 = .ok (.getfield 23, 3) := by decide +kernel
theorem dX5_leastTwoMendings_12 : decode cX5_leastTwoMendings 12 = .ok (.getfield 84, 3) := by decide +kernel
theorem dX5_leastTwoMendings_15 : decode cX5_leastTwoMendings 15 = .ok (.if_icmp .ge 69, 3) := by decide +kernel
theorem dX5_leastTwoMendings_18 : decode cX5_leastTwoMendings 18 = .ok (.iconst 0, 1) := by decide +kernel
theorem dX5_leastTwoMendings_19 : decode cX5_leastTwoMendings 19 = .ok (.istore_n 3, 1) := by decide +kernel
theorem dX5_leastTwoMendings_20 : decode cX5_leastTwoMendings 20 = .ok (.iload_n 3, 1) := by decide +kernel
theorem dX5_leastTwoMendings_21 : decode cX5_leastTwoMendings 21 = .ok (.bipush 24, 2) := by decide +kernel
theorem dX5_leastTwoMendings_23 : decode cX5_leastTwoMendings 23 = .ok (.if_icmp .ge 55, 3) := by decide +kernel
theorem dX5_leastTwoMendings_26 : decode cX5_leastTwoMendings 26 = .ok (.iload_n 2, 1) := by decide +kernel
theorem dX5_leastTwoMendings_27 : decode cX5_leastTwoMendings 27 = .ok (.iload_n 3, 1) := by decide +kernel
theorem dX5_leastTwoMendings_28 : decode cX5_leastTwoMendings 28 = .ok (.invokestatic 193, 3) := by decide +kernel
theorem dX5_leastTwoMendings_31 : decode cX5_leastTwoMendings 31 = .ok (.lstore 4, 2) := by decide +kernel
theorem dX5_leastTwoMendings_33 : decode cX5_leastTwoMendings 33 = .ok (.aload_n 0, 1) := by decide +kernel
theorem dX5_leastTwoMendings_34 : decode cX5_leastTwoMendings 34 = .ok (.iload_n 1, 1) := by decide +kernel
theorem dX5_leastTwoMendings_35 : decode cX5_leastTwoMendings 35 = .ok (.iload_n 2, 1) := by decide +kernel
theorem dX5_leastTwoMendings_36 : decode cX5_leastTwoMendings 36 = .ok (.iconst 1, 1) := by decide +kernel
theorem dX5_leastTwoMendings_37 : decode cX5_leastTwoMendings 37 = .ok (.iadd, 1) := by decide +kernel
theorem dX5_leastTwoMendings_38 : decode cX5_leastTwoMendings 38 = .ok (.lload 4, 2) := by decide +kernel
theorem dX5_leastTwoMendings_40 : decode cX5_leastTwoMendings 40 = .ok (.iconst 1, 1) := by decide +kernel
theorem dX5_leastTwoMendings_41 : decode cX5_leastTwoMendings 41 = .ok (.iload_n 2, 1) := by decide +kernel
theorem dX5_leastTwoMendings_42 : decode cX5_leastTwoMendings 42 = .ok (.ishl, 1) := by decide +kernel
theorem dX5_leastTwoMendings_43 : decode cX5_leastTwoMendings 43 = .ok (.invokevirtual 186, 3) := by decide +kernel
theorem dX5_leastTwoMendings_46 : decode cX5_leastTwoMendings 46 = .ok (.istore 6, 2) := by decide +kernel
theorem dX5_leastTwoMendings_48 : decode cX5_leastTwoMendings 48 = .ok (.iload 6, 2) := by decide +kernel
theorem dX5_leastTwoMendings_50 : decode cX5_leastTwoMendings 50 = .ok (.bipush (-9), 2) := by decide +kernel
theorem dX5_leastTwoMendings_52 : decode cX5_leastTwoMendings 52 = .ok (.if_icmp .eq 20, 3) := by decide +kernel
theorem dX5_leastTwoMendings_55 : decode cX5_leastTwoMendings 55 = .ok (.sipush 1000, 3) := by decide +kernel
theorem dX5_leastTwoMendings_58 : decode cX5_leastTwoMendings 58 = .ok (.bipush 100, 2) := by decide +kernel
theorem dX5_leastTwoMendings_60 : decode cX5_leastTwoMendings 60 = .ok (.iload_n 2, 1) := by decide +kernel
theorem dX5_leastTwoMendings_61 : decode cX5_leastTwoMendings 61 = .ok (.imul, 1) := by decide +kernel
theorem dX5_leastTwoMendings_62 : decode cX5_leastTwoMendings 62 = .ok (.iload_n 3, 1) := by decide +kernel
theorem dX5_leastTwoMendings_63 : decode cX5_leastTwoMendings 63 = .ok (.invokestatic 151, 3) := by decide +kernel
theorem dX5_leastTwoMendings_66 : decode cX5_leastTwoMendings 66 = .ok (.iadd, 1) := by decide +kernel
theorem dX5_leastTwoMendings_67 : decode cX5_leastTwoMendings 67 = .ok (.imul, 1) := by decide +kernel
theorem dX5_leastTwoMendings_68 : decode cX5_leastTwoMendings 68 = .ok (.iload 6, 2) := by decide +kernel
theorem dX5_leastTwoMendings_70 : decode cX5_leastTwoMendings 70 = .ok (.iadd, 1) := by decide +kernel
theorem dX5_leastTwoMendings_71 : decode cX5_leastTwoMendings 71 = .ok (.ireturn, 1) := by decide +kernel
theorem dX5_leastTwoMendings_72 : decode cX5_leastTwoMendings 72 = .ok (.iinc 3 1, 3) := by decide +kernel
theorem dX5_leastTwoMendings_75 : decode cX5_leastTwoMendings 75 = .ok (.goto (-55), 3) := by decide +kernel
theorem dX5_leastTwoMendings_78 : decode cX5_leastTwoMendings 78 = .ok (.iinc 2 1, 3) := by decide +kernel
theorem dX5_leastTwoMendings_81 : decode cX5_leastTwoMendings 81 = .ok (.goto (-79), 3) := by decide +kernel
theorem dX5_leastTwoMendings_84 : decode cX5_leastTwoMendings 84 = .ok (.bipush (-9), 2) := by decide +kernel
theorem dX5_leastTwoMendings_86 : decode cX5_leastTwoMendings 86 = .ok (.ireturn, 1) := by decide +kernel
set_option maxRecDepth 20000 in
theorem ggX5_leastMending_X5_readingsOf : GoodIn wsX5_leastMending wsX5_readingsOf := goodIn_r _ [8, 9, 2, 10, 11, 12, 13, 7, 14, 15, 16, 17, 18, 19, 20, 21, 22, 23, 40, 41, 42, 43, 44] (by decide +kernel) (by decide +kernel)
set_option maxRecDepth 20000 in
theorem gX5_leastMending_X5_readingsOf : GoodIn wsX5_leastMending (va_wsS RX5 197 yX5_readingsOf wsX5_readingsOf) := goodIn_app (goodIn_of _ (by decide +kernel)) ggX5_leastMending_X5_readingsOf
set_option maxRecDepth 20000 in
theorem ggX5_leastMending_X5_agreeing : GoodIn wsX5_leastMending wsX5_agreeing := goodIn_r _ [17, 18, 19, 20, 21, 7, 22, 23, 12, 13, 14] (by decide +kernel) (by decide +kernel)
set_option maxRecDepth 20000 in
theorem gX5_leastMending_X5_agreeing : GoodIn wsX5_leastMending (va_wsS RX5 193 yX5_agreeing wsX5_agreeing) := goodIn_app (goodIn_of _ (by decide +kernel)) ggX5_leastMending_X5_agreeing
set_option maxRecDepth 20000 in
theorem ggX5_leastMending_X5_fitsOf : GoodIn wsX5_leastMending wsX5_fitsOf := goodIn_r _ [26, 20, 21, 7, 22, 23] (by decide +kernel) (by decide +kernel)
set_option maxRecDepth 20000 in
theorem gX5_leastMending_X5_fitsOf : GoodIn wsX5_leastMending (va_wsS RX5 201 yX5_fitsOf wsX5_fitsOf) := goodIn_app (goodIn_of _ (by decide +kernel)) ggX5_leastMending_X5_fitsOf
set_option maxRecDepth 20000 in
theorem ggX5_leastMending_X5_figuresOf : GoodIn wsX5_leastMending wsX5_figuresOf := goodIn_r _ [29] (by decide +kernel) (by decide +kernel)
set_option maxRecDepth 20000 in
theorem gX5_leastMending_X5_figuresOf : GoodIn wsX5_leastMending (va_wsS RX5 151 yX5_figuresOf wsX5_figuresOf) := goodIn_app (goodIn_of _ (by decide +kernel)) ggX5_leastMending_X5_figuresOf
theorem dX5_leastMending_0 : decode cX5_leastMending 0 = .ok (.iload_n 2, 1) := by decide +kernel
theorem dX5_leastMending_1 : decode cX5_leastMending 1 = .ok (.istore 6, 2) := by decide +kernel
theorem dX5_leastMending_3 : decode cX5_leastMending 3 = .ok (.iload 6, 2) := by decide +kernel
theorem dX5_leastMending_5 : decode cX5_leastMending 5 = .ok (.iconst 4, 1) := by decide +kernel
theorem dX5_leastMending_6 : decode cX5_leastMending 6 = .ok (.if_icmp .ge 110, 3) := by decide +kernel
theorem dX5_leastMending_9 : decode cX5_leastMending 9 = .ok (.iload 6, 2) := by decide +kernel
theorem dX5_leastMending_11 : decode cX5_leastMending 11 = .ok (.aload_n 0, 1) := by decide +kernel
theorem dX5_leastMending_12 : decode cX5_leastMending 12 = .ok (.getfield 23, 3) := by decide +kernel
theorem dX5_leastMending_15 : decode cX5_leastMending 15 = .ok (.getfield 84, 3) := by decide +kernel
theorem dX5_leastMending_18 : decode cX5_leastMending 18 = .ok (.if_icmp .ge 98, 3) := by decide +kernel
theorem dX5_leastMending_21 : decode cX5_leastMending 21 = .ok (.bipush 15, 2) := by decide +kernel
theorem dX5_leastMending_23 : decode cX5_leastMending 23 = .ok (.iload 5, 2) := by decide +kernel
theorem dX5_leastMending_25 : decode cX5_leastMending 25 = .ok (.iconst (-1), 1) := by decide +kernel
theorem dX5_leastMending_26 : decode cX5_leastMending 26 = .ok (.ixor, 1) := by decide +kernel
theorem dX5_leastMending_27 : decode cX5_leastMending 27 = .ok (.iand, 1) := by decide +kernel
theorem dX5_leastMending_28 : decode cX5_leastMending 28 = .ok (.iconst 1, 1) := by decide +kernel
theorem dX5_leastMending_29 : decode cX5_leastMending 29 = .ok (.iload 6, 2) := by decide +kernel
theorem dX5_leastMending_31 : decode cX5_leastMending 31 = .ok (.ishl, 1) := by decide +kernel
theorem dX5_leastMending_32 : decode cX5_leastMending 32 = .ok (.iconst (-1), 1) := by decide +kernel
theorem dX5_leastMending_33 : decode cX5_leastMending 33 = .ok (.ixor, 1) := by decide +kernel
theorem dX5_leastMending_34 : decode cX5_leastMending 34 = .ok (.iand, 1) := by decide +kernel
theorem dX5_leastMending_35 : decode cX5_leastMending 35 = .ok (.istore 7, 2) := by decide +kernel
theorem dX5_leastMending_37 : decode cX5_leastMending 37 = .ok (.lload_n 3, 1) := by decide +kernel
theorem dX5_leastMending_38 : decode cX5_leastMending 38 = .ok (.aload_n 0, 1) := by decide +kernel
theorem dX5_leastMending_39 : decode cX5_leastMending 39 = .ok (.getfield 23, 3) := by decide +kernel
theorem dX5_leastMending_42 : decode cX5_leastMending 42 = .ok (.aload_n 0, 1) := by decide +kernel
theorem dX5_leastMending_43 : decode cX5_leastMending 43 = .ok (.getfield 30, 3) := by decide +kernel
theorem dX5_leastMending_46 : decode cX5_leastMending 46 = .ok (.getfield 100, 3) := by decide +kernel
theorem dX5_leastMending_49 : decode cX5_leastMending 49 = .ok (.iload 7, 2) := by decide +kernel
theorem dX5_leastMending_51 : decode cX5_leastMending 51 = .ok (.invokestatic 197, 3) := by decide +kernel
theorem dX5_leastMending_54 : decode cX5_leastMending 54 = .ok (.land, 1) := by decide +kernel
theorem dX5_leastMending_55 : decode cX5_leastMending 55 = .ok (.lstore 8, 2) := by decide +kernel
theorem dX5_leastMending_57 : decode cX5_leastMending 57 = .ok (.iconst 0, 1) := by decide +kernel
theorem dX5_leastMending_58 : decode cX5_leastMending 58 = .ok (.istore 10, 2) := by decide +kernel
theorem dX5_leastMending_60 : decode cX5_leastMending 60 = .ok (.iload 10, 2) := by decide +kernel
theorem dX5_leastMending_62 : decode cX5_leastMending 62 = .ok (.bipush 24, 2) := by decide +kernel
theorem dX5_leastMending_64 : decode cX5_leastMending 64 = .ok (.if_icmp .ge 46, 3) := by decide +kernel
theorem dX5_leastMending_67 : decode cX5_leastMending 67 = .ok (.lload 8, 2) := by decide +kernel
theorem dX5_leastMending_69 : decode cX5_leastMending 69 = .ok (.iload 6, 2) := by decide +kernel
theorem dX5_leastMending_71 : decode cX5_leastMending 71 = .ok (.iload 10, 2) := by decide +kernel
theorem dX5_leastMending_73 : decode cX5_leastMending 73 = .ok (.invokestatic 193, 3) := by decide +kernel
theorem dX5_leastMending_76 : decode cX5_leastMending 76 = .ok (.land, 1) := by decide +kernel
theorem dX5_leastMending_77 : decode cX5_leastMending 77 = .ok (.invokestatic 201, 3) := by decide +kernel
theorem dX5_leastMending_80 : decode cX5_leastMending 80 = .ok (.istore 11, 2) := by decide +kernel
theorem dX5_leastMending_82 : decode cX5_leastMending 82 = .ok (.iload_n 1, 1) := by decide +kernel
theorem dX5_leastMending_83 : decode cX5_leastMending 83 = .ok (.iload 11, 2) := by decide +kernel
theorem dX5_leastMending_85 : decode cX5_leastMending 85 = .ok (.ishr, 1) := by decide +kernel
theorem dX5_leastMending_86 : decode cX5_leastMending 86 = .ok (.iconst 1, 1) := by decide +kernel
theorem dX5_leastMending_87 : decode cX5_leastMending 87 = .ok (.iand, 1) := by decide +kernel
theorem dX5_leastMending_88 : decode cX5_leastMending 88 = .ok (.iconst 1, 1) := by decide +kernel
theorem dX5_leastMending_89 : decode cX5_leastMending 89 = .ok (.if_icmp .ne 15, 3) := by decide +kernel
theorem dX5_leastMending_92 : decode cX5_leastMending 92 = .ok (.bipush 100, 2) := by decide +kernel
theorem dX5_leastMending_94 : decode cX5_leastMending 94 = .ok (.iload 6, 2) := by decide +kernel
theorem dX5_leastMending_96 : decode cX5_leastMending 96 = .ok (.imul, 1) := by decide +kernel
theorem dX5_leastMending_97 : decode cX5_leastMending 97 = .ok (.iload 10, 2) := by decide +kernel
theorem dX5_leastMending_99 : decode cX5_leastMending 99 = .ok (.invokestatic 151, 3) := by decide +kernel
theorem dX5_leastMending_102 : decode cX5_leastMending 102 = .ok (.iadd, 1) := by decide +kernel
theorem dX5_leastMending_103 : decode cX5_leastMending 103 = .ok (.ireturn, 1) := by decide +kernel
theorem dX5_leastMending_104 : decode cX5_leastMending 104 = .ok (.iinc 10 1, 3) := by decide +kernel
theorem dX5_leastMending_107 : decode cX5_leastMending 107 = .ok (.goto (-47), 3) := by decide +kernel
theorem dX5_leastMending_110 : decode cX5_leastMending 110 = .ok (.iinc 6 1, 3) := by decide +kernel
theorem dX5_leastMending_113 : decode cX5_leastMending 113 = .ok (.goto (-110), 3) := by decide +kernel
theorem dX5_leastMending_116 : decode cX5_leastMending 116 = .ok (.bipush (-9), 2) := by decide +kernel
theorem dX5_leastMending_118 : decode cX5_leastMending 118 = .ok (.ireturn, 1) := by decide +kernel
set_option maxRecDepth 20000 in
theorem ggX5_songs_X1_hasWooer : GoodIn wsX5_songs wsX1_hasWooer := goodIn_r _ [11, 12, 81, 82, 83, 84, 85] (by decide +kernel) (by decide +kernel)
set_option maxRecDepth 20000 in
theorem gX5_songs_X1_hasWooer : GoodIn wsX5_songs (wsV RX5 124 RX1 yX1_hasWooer wsX1_hasWooer) := goodIn_app (goodIn_of _ (by decide +kernel)) ggX5_songs_X1_hasWooer
set_option maxRecDepth 20000 in
theorem ggX5_songs_X5_at : GoodIn wsX5_songs wsX5_at := goodIn_r _ [16] (by decide +kernel) (by decide +kernel)
set_option maxRecDepth 20000 in
theorem gX5_songs_X5_at : GoodIn wsX5_songs (va_wsS RX5 97 yX5_at wsX5_at) := goodIn_app (goodIn_of _ (by decide +kernel)) ggX5_songs_X5_at
set_option maxRecDepth 20000 in
theorem ggX5_songs_X4_fitting : GoodIn wsX5_songs wsX4_fitting := goodIn_r _ [21, 22, 23, 15, 24, 25, 5, 26, 27, 28, 29, 30, 31, 32, 33, 34, 35, 36, 37, 38, 39, 40, 41, 75, 76, 77, 78, 79, 80, 81, 82, 83, 84, 85] (by decide +kernel) (by decide +kernel)
set_option maxRecDepth 20000 in
theorem gX5_songs_X4_fitting : GoodIn wsX5_songs (wsV RX5 106 RX4 yX4_fitting wsX4_fitting) := goodIn_app (goodIn_of _ (by decide +kernel)) ggX5_songs_X4_fitting
set_option maxRecDepth 20000 in
theorem ggX5_songs_J6_bitCount_0f7a4 : GoodIn wsX5_songs wsJ6_bitCount_0f7a4 := goodIn_r _ [45, 46, 47, 48] (by decide +kernel) (by decide +kernel)
set_option maxRecDepth 20000 in
theorem gX5_songs_J6_bitCount_0f7a4 : GoodIn wsX5_songs (va_wsS RX5 204 yJ6_bitCount_0f7a4 wsJ6_bitCount_0f7a4) := goodIn_app (goodIn_of _ (by decide +kernel)) ggX5_songs_J6_bitCount_0f7a4
set_option maxRecDepth 20000 in
theorem ggX5_songs_X1_pickOf : GoodIn wsX5_songs wsX1_pickOf := goodIn_r _ [52, 53, 54, 55, 56, 10, 57, 58, 59, 60, 61, 62, 63, 64, 81, 82, 83, 84, 85] (by decide +kernel) (by decide +kernel)
set_option maxRecDepth 20000 in
theorem gX5_songs_X1_pickOf : GoodIn wsX5_songs (wsV RX5 130 RX1 yX1_pickOf wsX1_pickOf) := goodIn_app (goodIn_of _ (by decide +kernel)) ggX5_songs_X1_pickOf
theorem dX5_songs_0 : decode cX5_songs 0 = .ok (.aload_n 0, 1) := by decide +kernel
theorem dX5_songs_1 : decode cX5_songs 1 = .ok (.getfield 23, 3) := by decide +kernel
theorem dX5_songs_4 : decode cX5_songs 4 = .ok (.iload_n 1, 1) := by decide +kernel
theorem dX5_songs_5 : decode cX5_songs 5 = .ok (.invokevirtual 124, 3) := by decide +kernel
theorem dX5_songs_8 : decode cX5_songs 8 = .ok (.ifCond .ne 5, 3) := by decide +kernel
theorem dX5_songs_11 : decode cX5_songs 11 = .ok (.iconst (-1), 1) := by decide +kernel
theorem dX5_songs_12 : decode cX5_songs 12 = .ok (.ireturn, 1) := by decide +kernel
theorem dX5_songs_13 : decode cX5_songs 13 = .ok (.aload_n 0, 1) := by decide +kernel
theorem dX5_songs_14 : decode cX5_songs 14 = .ok (.getfield 30, 3) := by decide +kernel
theorem dX5_songs_17 : decode cX5_songs 17 = .ok (.getfield 155, 3) := by decide +kernel
theorem dX5_songs_20 : decode cX5_songs 20 = .ok (.bipush (-9), 2) := by decide +kernel
theorem dX5_songs_22 : decode cX5_songs 22 = .ok (.if_icmp .ne 6, 3) := by decide +kernel
theorem dX5_songs_25 : decode cX5_songs 25 = .ok (.bipush (-9), 2) := by decide +kernel
theorem dX5_songs_27 : decode cX5_songs 27 = .ok (.ireturn, 1) := by decide +kernel
theorem dX5_songs_28 : decode cX5_songs 28 = .ok (.aload_n 0, 1) := by decide +kernel
theorem dX5_songs_29 : decode cX5_songs 29 = .ok (.getfield 23, 3) := by decide +kernel
theorem dX5_songs_32 : decode cX5_songs 32 = .ok (.getfield 127, 3) := by decide +kernel
theorem dX5_songs_35 : decode cX5_songs 35 = .ok (.iload_n 1, 1) := by decide +kernel
theorem dX5_songs_36 : decode cX5_songs 36 = .ok (.invokestatic 97, 3) := by decide +kernel
theorem dX5_songs_39 : decode cX5_songs 39 = .ok (.istore_n 2, 1) := by decide +kernel
theorem dX5_songs_40 : decode cX5_songs 40 = .ok (.aload_n 0, 1) := by decide +kernel
theorem dX5_songs_41 : decode cX5_songs 41 = .ok (.getfield 30, 3) := by decide +kernel
theorem dX5_songs_44 : decode cX5_songs 44 = .ok (.aload_n 0, 1) := by decide +kernel
theorem dX5_songs_45 : decode cX5_songs 45 = .ok (.getfield 23, 3) := by decide +kernel
theorem dX5_songs_48 : decode cX5_songs 48 = .ok (.invokevirtual 106, 3) := by decide +kernel
theorem dX5_songs_51 : decode cX5_songs 51 = .ok (.istore_n 3, 1) := by decide +kernel
theorem dX5_songs_52 : decode cX5_songs 52 = .ok (.bipush (-9), 2) := by decide +kernel
theorem dX5_songs_54 : decode cX5_songs 54 = .ok (.istore 4, 2) := by decide +kernel
theorem dX5_songs_56 : decode cX5_songs 56 = .ok (.iconst 5, 1) := by decide +kernel
theorem dX5_songs_57 : decode cX5_songs 57 = .ok (.istore 5, 2) := by decide +kernel
theorem dX5_songs_59 : decode cX5_songs 59 = .ok (.iconst 0, 1) := by decide +kernel
theorem dX5_songs_60 : decode cX5_songs 60 = .ok (.istore 6, 2) := by decide +kernel
theorem dX5_songs_62 : decode cX5_songs 62 = .ok (.iload 6, 2) := by decide +kernel
theorem dX5_songs_64 : decode cX5_songs 64 = .ok (.iconst 1, 1) := by decide +kernel
theorem dX5_songs_65 : decode cX5_songs 65 = .ok (.aload_n 0, 1) := by decide +kernel
theorem dX5_songs_66 : decode cX5_songs 66 = .ok (.getfield 23, 3) := by decide +kernel
theorem dX5_songs_69 : decode cX5_songs 69 = .ok (.getfield 84, 3) := by decide +kernel
theorem dX5_songs_72 : decode cX5_songs 72 = .ok (.ishl, 1) := by decide +kernel
theorem dX5_songs_73 : decode cX5_songs 73 = .ok (.if_icmp .ge 67, 3) := by decide +kernel
theorem dX5_songs_76 : decode cX5_songs 76 = .ok (.iload 6, 2) := by decide +kernel
theorem dX5_songs_78 : decode cX5_songs 78 = .ok (.bipush 15, 2) := by decide +kernel
theorem dX5_songs_80 : decode cX5_songs 80 = .ok (.if_icmp .gt 60, 3) := by decide +kernel
theorem dX5_songs_83 : decode cX5_songs 83 = .ok (.iload 6, 2) := by decide +kernel
theorem dX5_songs_85 : decode cX5_songs 85 = .ok (.invokestatic 204, 3) := by decide +kernel
theorem dX5_songs_88 : decode cX5_songs 88 = .ok (.istore 7, 2) := by decide +kernel
theorem dX5_songs_90 : decode cX5_songs 90 = .ok (.iload 7, 2) := by decide +kernel
theorem dX5_songs_92 : decode cX5_songs 92 = .ok (.iload 5, 2) := by decide +kernel
theorem dX5_songs_94 : decode cX5_songs 94 = .ok (.if_icmp .ge 40, 3) := by decide +kernel
theorem dX5_songs_97 : decode cX5_songs 97 = .ok (.aload_n 0, 1) := by decide +kernel
theorem dX5_songs_98 : decode cX5_songs 98 = .ok (.getfield 23, 3) := by decide +kernel
theorem dX5_songs_101 : decode cX5_songs 101 = .ok (.iload_n 2, 1) := by decide +kernel
theorem dX5_songs_102 : decode cX5_songs 102 = .ok (.iload_n 3, 1) := by decide +kernel
theorem dX5_songs_103 : decode cX5_songs 103 = .ok (.aload_n 0, 1) := by decide +kernel
theorem dX5_songs_104 : decode cX5_songs 104 = .ok (.getfield 30, 3) := by decide +kernel
theorem dX5_songs_107 : decode cX5_songs 107 = .ok (.getfield 103, 3) := by decide +kernel
theorem dX5_songs_110 : decode cX5_songs 110 = .ok (.iload 6, 2) := by decide +kernel
theorem dX5_songs_112 : decode cX5_songs 112 = .ok (.ior, 1) := by decide +kernel
theorem dX5_songs_113 : decode cX5_songs 113 = .ok (.invokevirtual 130, 3) := by decide +kernel
theorem dX5_songs_116 : decode cX5_songs 116 = .ok (.aload_n 0, 1) := by decide +kernel
theorem dX5_songs_117 : decode cX5_songs 117 = .ok (.getfield 30, 3) := by decide +kernel
theorem dX5_songs_120 : decode cX5_songs 120 = .ok (.getfield 155, 3) := by decide +kernel
theorem dX5_songs_123 : decode cX5_songs 123 = .ok (.if_icmp .ne 11, 3) := by decide +kernel
theorem dX5_songs_126 : decode cX5_songs 126 = .ok (.iload 6, 2) := by decide +kernel
theorem dX5_songs_128 : decode cX5_songs 128 = .ok (.istore 4, 2) := by decide +kernel
theorem dX5_songs_130 : decode cX5_songs 130 = .ok (.iload 7, 2) := by decide +kernel
theorem dX5_songs_132 : decode cX5_songs 132 = .ok (.istore 5, 2) := by decide +kernel
theorem dX5_songs_134 : decode cX5_songs 134 = .ok (.iinc 6 1, 3) := by decide +kernel
theorem dX5_songs_137 : decode cX5_songs 137 = .ok (.goto (-75), 3) := by decide +kernel
theorem dX5_songs_140 : decode cX5_songs 140 = .ok (.iload 4, 2) := by decide +kernel
theorem dX5_songs_142 : decode cX5_songs 142 = .ok (.ireturn, 1) := by decide +kernel
set_option maxRecDepth 20000 in
theorem ggX5_said_X1_hasCasket : GoodIn wsX5_said wsX1_hasCasket := goodIn_r _ [9, 10, 53, 54, 55, 56, 57] (by decide +kernel) (by decide +kernel)
set_option maxRecDepth 20000 in
theorem gX5_said_X1_hasCasket : GoodIn wsX5_said (wsV RX5 90 RX1 yX1_hasCasket wsX1_hasCasket) := goodIn_app (goodIn_of _ (by decide +kernel)) ggX5_said_X1_hasCasket
set_option maxRecDepth 20000 in
theorem ggX5_said_X5_readingsOf : GoodIn wsX5_said wsX5_readingsOf := goodIn_r _ [14, 15, 16, 17, 18, 19, 20, 13, 21, 22, 23, 24, 25, 26, 27, 28, 29, 30, 53, 54, 55, 56, 57] (by decide +kernel) (by decide +kernel)
set_option maxRecDepth 20000 in
theorem gX5_said_X5_readingsOf : GoodIn wsX5_said (va_wsS RX5 197 yX5_readingsOf wsX5_readingsOf) := goodIn_app (goodIn_of _ (by decide +kernel)) ggX5_said_X5_readingsOf
set_option maxRecDepth 20000 in
theorem ggX5_said_X5_agreeing : GoodIn wsX5_said wsX5_agreeing := goodIn_r _ [24, 25, 26, 27, 28, 13, 29, 30, 19, 20, 21] (by decide +kernel) (by decide +kernel)
set_option maxRecDepth 20000 in
theorem gX5_said_X5_agreeing : GoodIn wsX5_said (va_wsS RX5 193 yX5_agreeing wsX5_agreeing) := goodIn_app (goodIn_of _ (by decide +kernel)) ggX5_said_X5_agreeing
set_option maxRecDepth 20000 in
theorem ggX5_said_X5_fitsOf : GoodIn wsX5_said wsX5_fitsOf := goodIn_r _ [33, 27, 28, 13, 29, 30] (by decide +kernel) (by decide +kernel)
set_option maxRecDepth 20000 in
theorem gX5_said_X5_fitsOf : GoodIn wsX5_said (va_wsS RX5 201 yX5_fitsOf wsX5_fitsOf) := goodIn_app (goodIn_of _ (by decide +kernel)) ggX5_said_X5_fitsOf
set_option maxRecDepth 20000 in
theorem ggX5_said_X5_figuresOf : GoodIn wsX5_said wsX5_figuresOf := goodIn_r _ [36] (by decide +kernel) (by decide +kernel)
set_option maxRecDepth 20000 in
theorem gX5_said_X5_figuresOf : GoodIn wsX5_said (va_wsS RX5 151 yX5_figuresOf wsX5_figuresOf) := goodIn_app (goodIn_of _ (by decide +kernel)) ggX5_said_X5_figuresOf
theorem dX5_said_0 : decode cX5_said 0 = .ok (.aload_n 0, 1) := by decide +kernel
theorem dX5_said_1 : decode cX5_said 1 = .ok (.getfield 23, 3) := by decide +kernel
theorem dX5_said_4 : decode cX5_said 4 = .ok (.iload_n 1, 1) := by decide +kernel
theorem dX5_said_5 : decode cX5_said 5 = .ok (.invokevirtual 90, 3) := by decide +kernel
theorem dX5_said_8 : decode cX5_said 8 = .ok (.ifCond .ne 5, 3) := by decide +kernel
theorem dX5_said_11 : decode cX5_said 11 = .ok (.iconst (-1), 1) := by decide +kernel
theorem dX5_said_12 : decode cX5_said 12 = .ok (.ireturn, 1) := by decide +kernel
theorem dX5_said_13 : decode cX5_said 13 = .ok (.aload_n 0, 1) := by decide +kernel
theorem dX5_said_14 : decode cX5_said 14 = .ok (.getfield 30, 3) := by decide +kernel
theorem dX5_said_17 : decode cX5_said 17 = .ok (.getfield 155, 3) := by decide +kernel
theorem dX5_said_20 : decode cX5_said 20 = .ok (.bipush (-9), 2) := by decide +kernel
theorem dX5_said_22 : decode cX5_said 22 = .ok (.if_icmp .ne 14, 3) := by decide +kernel
theorem dX5_said_25 : decode cX5_said 25 = .ok (.iload_n 2, 1) := by decide +kernel
theorem dX5_said_26 : decode cX5_said 26 = .ok (.ifCond .eq 8, 3) := by decide +kernel
theorem dX5_said_29 : decode cX5_said 29 = .ok (.bipush (-9), 2) := by decide +kernel
theorem dX5_said_31 : decode cX5_said 31 = .ok (.goto 4, 3) := by decide +kernel
theorem dX5_said_34 : decode cX5_said 34 = .ok (.iconst 0, 1) := by decide +kernel
theorem dX5_said_35 : decode cX5_said 35 = .ok (.ireturn, 1) := by decide +kernel
theorem dX5_said_36 : decode cX5_said 36 = .ok (.iconst 0, 1) := by decide +kernel
theorem dX5_said_37 : decode cX5_said 37 = .ok (.istore_n 3, 1) := by decide +kernel
theorem dX5_said_38 : decode cX5_said 38 = .ok (.bipush (-9), 2) := by decide +kernel
theorem dX5_said_40 : decode cX5_said 40 = .ok (.istore 4, 2) := by decide +kernel
theorem dX5_said_42 : decode cX5_said 42 = .ok (.aload_n 0, 1) := by decide +kernel
theorem dX5_said_43 : decode cX5_said 43 = .ok (.getfield 23, 3) := by decide +kernel
theorem dX5_said_46 : decode cX5_said 46 = .ok (.aload_n 0, 1) := by decide +kernel
theorem dX5_said_47 : decode cX5_said 47 = .ok (.getfield 30, 3) := by decide +kernel
theorem dX5_said_50 : decode cX5_said 50 = .ok (.getfield 100, 3) := by decide +kernel
theorem dX5_said_53 : decode cX5_said 53 = .ok (.bipush 15, 2) := by decide +kernel
theorem dX5_said_55 : decode cX5_said 55 = .ok (.iconst 1, 1) := by decide +kernel
theorem dX5_said_56 : decode cX5_said 56 = .ok (.iload_n 1, 1) := by decide +kernel
theorem dX5_said_57 : decode cX5_said 57 = .ok (.ishl, 1) := by decide +kernel
theorem dX5_said_58 : decode cX5_said 58 = .ok (.iconst (-1), 1) := by decide +kernel
theorem dX5_said_59 : decode cX5_said 59 = .ok (.ixor, 1) := by decide +kernel
theorem dX5_said_60 : decode cX5_said 60 = .ok (.iand, 1) := by decide +kernel
theorem dX5_said_61 : decode cX5_said 61 = .ok (.invokestatic 197, 3) := by decide +kernel
theorem dX5_said_64 : decode cX5_said 64 = .ok (.lstore 5, 2) := by decide +kernel
theorem dX5_said_66 : decode cX5_said 66 = .ok (.iconst 0, 1) := by decide +kernel
theorem dX5_said_67 : decode cX5_said 67 = .ok (.istore 7, 2) := by decide +kernel
theorem dX5_said_69 : decode cX5_said 69 = .ok (.iload 7, 2) := by decide +kernel
theorem dX5_said_71 : decode cX5_said 71 = .ok (.bipush 24, 2) := by decide +kernel
theorem dX5_said_73 : decode cX5_said 73 = .ok (.if_icmp .ge 55, 3) := by decide +kernel
theorem dX5_said_76 : decode cX5_said 76 = .ok (.lload 5, 2) := by decide +kernel
theorem dX5_said_78 : decode cX5_said 78 = .ok (.iload_n 1, 1) := by decide +kernel
theorem dX5_said_79 : decode cX5_said 79 = .ok (.iload 7, 2) := by decide +kernel
theorem dX5_said_81 : decode cX5_said 81 = .ok (.invokestatic 193, 3) := by decide +kernel
theorem dX5_said_84 : decode cX5_said 84 = .ok (.land, 1) := by decide +kernel
theorem dX5_said_85 : decode cX5_said 85 = .ok (.invokestatic 201, 3) := by decide +kernel
theorem dX5_said_88 : decode cX5_said 88 = .ok (.iconst 1, 1) := by decide +kernel
theorem dX5_said_89 : decode cX5_said 89 = .ok (.aload_n 0, 1) := by decide +kernel
theorem dX5_said_90 : decode cX5_said 90 = .ok (.getfield 30, 3) := by decide +kernel
theorem dX5_said_93 : decode cX5_said 93 = .ok (.getfield 155, 3) := by decide +kernel
theorem dX5_said_96 : decode cX5_said 96 = .ok (.ishl, 1) := by decide +kernel
theorem dX5_said_97 : decode cX5_said 97 = .ok (.if_icmp .ne 25, 3) := by decide +kernel
theorem dX5_said_100 : decode cX5_said 100 = .ok (.iinc 3 1, 3) := by decide +kernel
theorem dX5_said_103 : decode cX5_said 103 = .ok (.iload 4, 2) := by decide +kernel
theorem dX5_said_105 : decode cX5_said 105 = .ok (.bipush (-9), 2) := by decide +kernel
theorem dX5_said_107 : decode cX5_said 107 = .ok (.if_icmp .ne 11, 3) := by decide +kernel
theorem dX5_said_110 : decode cX5_said 110 = .ok (.iload 7, 2) := by decide +kernel
theorem dX5_said_112 : decode cX5_said 112 = .ok (.invokestatic 151, 3) := by decide +kernel
theorem dX5_said_115 : decode cX5_said 115 = .ok (.goto 5, 3) := by decide +kernel
theorem dX5_said_118 : decode cX5_said 118 = .ok (.iload 4, 2) := by decide +kernel
theorem dX5_said_120 : decode cX5_said 120 = .ok (.istore 4, 2) := by decide +kernel
theorem dX5_said_122 : decode cX5_said 122 = .ok (.iinc 7 1, 3) := by decide +kernel
theorem dX5_said_125 : decode cX5_said 125 = .ok (.goto (-56), 3) := by decide +kernel
theorem dX5_said_128 : decode cX5_said 128 = .ok (.iload_n 2, 1) := by decide +kernel
theorem dX5_said_129 : decode cX5_said 129 = .ok (.ifCond .eq 8, 3) := by decide +kernel
theorem dX5_said_132 : decode cX5_said 132 = .ok (.iload 4, 2) := by decide +kernel
theorem dX5_said_134 : decode cX5_said 134 = .ok (.goto 4, 3) := by decide +kernel
theorem dX5_said_137 : decode cX5_said 137 = .ok (.iload_n 3, 1) := by decide +kernel
theorem dX5_said_138 : decode cX5_said 138 = .ok (.ireturn, 1) := by decide +kernel
set_option maxRecDepth 20000 in
theorem ggX5_belief_X1_hasCasket : GoodIn wsX5_belief wsX1_hasCasket := goodIn_r _ [8, 9, 82, 83, 84, 85, 86] (by decide +kernel) (by decide +kernel)
set_option maxRecDepth 20000 in
theorem gX5_belief_X1_hasCasket : GoodIn wsX5_belief (wsV RX5 90 RX1 yX1_hasCasket wsX1_hasCasket) := goodIn_app (goodIn_of _ (by decide +kernel)) ggX5_belief_X1_hasCasket
set_option maxRecDepth 20000 in
theorem ggX5_belief_X4_fitting : GoodIn wsX5_belief wsX4_fitting := goodIn_r _ [14, 15, 16, 17, 18, 19, 3, 20, 21, 22, 23, 24, 25, 26, 27, 28, 29, 30, 31, 32, 33, 34, 35, 87, 88, 89, 90, 91, 92, 82, 83, 84, 85, 86] (by decide +kernel) (by decide +kernel)
set_option maxRecDepth 20000 in
theorem gX5_belief_X4_fitting : GoodIn wsX5_belief (wsV RX5 106 RX4 yX4_fitting wsX4_fitting) := goodIn_app (goodIn_of _ (by decide +kernel)) ggX5_belief_X4_fitting
set_option maxRecDepth 20000 in
theorem ggX5_belief_X5_weightOf : GoodIn wsX5_belief wsX5_weightOf := goodIn_r _ [39, 1, 2, 40, 41, 42, 43, 7, 44, 9, 45, 46, 47, 48, 49, 50, 51, 52, 53, 54, 55, 56, 57, 17, 58, 72, 73, 74, 75, 76, 77, 78, 79, 80, 81, 87, 88, 89, 90, 91, 92, 82, 83, 84, 85, 86] (by decide +kernel) (by decide +kernel)
set_option maxRecDepth 20000 in
theorem gX5_belief_X5_weightOf : GoodIn wsX5_belief (wsV RX5 208 RX5 yX5_weightOf wsX5_weightOf) := goodIn_app (goodIn_of _ (by decide +kernel)) ggX5_belief_X5_weightOf
set_option maxRecDepth 20000 in
theorem ggX5_belief_X5_partOf : GoodIn wsX5_belief wsX5_partOf := goodIn_r _ [61, 62, 63, 64, 65, 66, 67, 68, 69, 70, 17, 71] (by decide +kernel) (by decide +kernel)
set_option maxRecDepth 20000 in
theorem gX5_belief_X5_partOf : GoodIn wsX5_belief (va_wsS RX5 211 yX5_partOf wsX5_partOf) := goodIn_app (goodIn_of _ (by decide +kernel)) ggX5_belief_X5_partOf
theorem dX5_belief_0 : decode cX5_belief 0 = .ok (.aload_n 0, 1) := by decide +kernel
theorem dX5_belief_1 : decode cX5_belief 1 = .ok (.getfield 23, 3) := by decide +kernel
theorem dX5_belief_4 : decode cX5_belief 4 = .ok (.iload_n 1, 1) := by decide +kernel
theorem dX5_belief_5 : decode cX5_belief 5 = .ok (.invokevirtual 90, 3) := by decide +kernel
theorem dX5_belief_8 : decode cX5_belief 8 = .ok (.ifCond .ne 5, 3) := by decide +kernel
theorem dX5_belief_11 : decode cX5_belief 11 = .ok (.iconst (-1), 1) := by decide +kernel
theorem dX5_belief_12 : decode cX5_belief 12 = .ok (.ireturn, 1) := by decide +kernel
theorem dX5_belief_13 : decode cX5_belief 13 = .ok (.iload_n 2, 1) := by decide +kernel
theorem dX5_belief_14 : decode cX5_belief 14 = .ok (.ifCond .lt 8, 3) := by decide +kernel
theorem dX5_belief_17 : decode cX5_belief 17 = .ok (.iload_n 2, 1) := by decide +kernel
theorem dX5_belief_18 : decode cX5_belief 18 = .ok (.iconst 5, 1) := by decide +kernel
theorem dX5_belief_19 : decode cX5_belief 19 = .ok (.if_icmp .le 6, 3) := by decide +kernel
theorem dX5_belief_22 : decode cX5_belief 22 = .ok (.bipush (-2), 2) := by decide +kernel
theorem dX5_belief_24 : decode cX5_belief 24 = .ok (.ireturn, 1) := by decide +kernel
theorem dX5_belief_25 : decode cX5_belief 25 = .ok (.aload_n 0, 1) := by decide +kernel
theorem dX5_belief_26 : decode cX5_belief 26 = .ok (.getfield 30, 3) := by decide +kernel
theorem dX5_belief_29 : decode cX5_belief 29 = .ok (.aload_n 0, 1) := by decide +kernel
theorem dX5_belief_30 : decode cX5_belief 30 = .ok (.getfield 23, 3) := by decide +kernel
theorem dX5_belief_33 : decode cX5_belief 33 = .ok (.invokevirtual 106, 3) := by decide +kernel
theorem dX5_belief_36 : decode cX5_belief 36 = .ok (.istore 4, 2) := by decide +kernel
theorem dX5_belief_38 : decode cX5_belief 38 = .ok (.iconst 0, 1) := by decide +kernel
theorem dX5_belief_39 : decode cX5_belief 39 = .ok (.istore 5, 2) := by decide +kernel
theorem dX5_belief_41 : decode cX5_belief 41 = .ok (.iconst 0, 1) := by decide +kernel
theorem dX5_belief_42 : decode cX5_belief 42 = .ok (.istore 6, 2) := by decide +kernel
theorem dX5_belief_44 : decode cX5_belief 44 = .ok (.iload 6, 2) := by decide +kernel
theorem dX5_belief_46 : decode cX5_belief 46 = .ok (.iconst 4, 1) := by decide +kernel
theorem dX5_belief_47 : decode cX5_belief 47 = .ok (.if_icmp .ge 35, 3) := by decide +kernel
theorem dX5_belief_50 : decode cX5_belief 50 = .ok (.iload 6, 2) := by decide +kernel
theorem dX5_belief_52 : decode cX5_belief 52 = .ok (.aload_n 0, 1) := by decide +kernel
theorem dX5_belief_53 : decode cX5_belief 53 = .ok (.getfield 23, 3) := by decide +kernel
theorem dX5_belief_56 : decode cX5_belief 56 = .ok (.getfield 84, 3) := by decide +kernel
theorem dX5_belief_59 : decode cX5_belief 59 = .ok (.if_icmp .ge 23, 3) := by decide +kernel
theorem dX5_belief_62 : decode cX5_belief 62 = .ok (.iload 5, 2) := by decide +kernel
theorem dX5_belief_64 : decode cX5_belief 64 = .ok (.aload_n 0, 1) := by decide +kernel
theorem dX5_belief_65 : decode cX5_belief 65 = .ok (.iload 6, 2) := by decide +kernel
theorem dX5_belief_67 : decode cX5_belief 67 = .ok (.iload_n 2, 1) := by decide +kernel
theorem dX5_belief_68 : decode cX5_belief 68 = .ok (.iload 4, 2) := by decide +kernel
theorem dX5_belief_70 : decode cX5_belief 70 = .ok (.invokevirtual 208, 3) := by decide +kernel
theorem dX5_belief_73 : decode cX5_belief 73 = .ok (.iadd, 1) := by decide +kernel
theorem dX5_belief_74 : decode cX5_belief 74 = .ok (.istore 5, 2) := by decide +kernel
theorem dX5_belief_76 : decode cX5_belief 76 = .ok (.iinc 6 1, 3) := by decide +kernel
theorem dX5_belief_79 : decode cX5_belief 79 = .ok (.goto (-35), 3) := by decide +kernel
theorem dX5_belief_82 : decode cX5_belief 82 = .ok (.aload_n 0, 1) := by decide +kernel
theorem dX5_belief_83 : decode cX5_belief 83 = .ok (.iload_n 1, 1) := by decide +kernel
theorem dX5_belief_84 : decode cX5_belief 84 = .ok (.iload_n 2, 1) := by decide +kernel
theorem dX5_belief_85 : decode cX5_belief 85 = .ok (.iload 4, 2) := by decide +kernel
theorem dX5_belief_87 : decode cX5_belief 87 = .ok (.invokevirtual 208, 3) := by decide +kernel
theorem dX5_belief_90 : decode cX5_belief 90 = .ok (.iload 5, 2) := by decide +kernel
theorem dX5_belief_92 : decode cX5_belief 92 = .ok (.iload_n 3, 1) := by decide +kernel
theorem dX5_belief_93 : decode cX5_belief 93 = .ok (.invokestatic 211, 3) := by decide +kernel
theorem dX5_belief_96 : decode cX5_belief 96 = .ok (.ireturn, 1) := by decide +kernel
set_option maxRecDepth 20000 in
theorem ggX5_weightOf_X1_pickOf : GoodIn wsX5_weightOf wsX1_pickOf := goodIn_r _ [8, 9, 10, 11, 12, 7, 13, 14, 15, 16, 17, 18, 19, 20, 41, 42, 43, 44, 45] (by decide +kernel) (by decide +kernel)
set_option maxRecDepth 20000 in
theorem gX5_weightOf_X1_pickOf : GoodIn wsX5_weightOf (wsV RX5 130 RX1 yX1_pickOf wsX1_pickOf) := goodIn_app (goodIn_of _ (by decide +kernel)) ggX5_weightOf_X1_pickOf
set_option maxRecDepth 20000 in
theorem ggX5_weightOf_X5_power : GoodIn wsX5_weightOf wsX5_power := goodIn_r _ [24] (by decide +kernel) (by decide +kernel)
set_option maxRecDepth 20000 in
theorem gX5_weightOf_X5_power : GoodIn wsX5_weightOf (va_wsS RX5 215 yX5_power wsX5_power) := goodIn_app (goodIn_of _ (by decide +kernel)) ggX5_weightOf_X5_power
theorem dX5_weightOf_0 : decode cX5_weightOf 0 = .ok (.iload_n 3, 1) := by decide +kernel
theorem dX5_weightOf_1 : decode cX5_weightOf 1 = .ok (.iload_n 1, 1) := by decide +kernel
theorem dX5_weightOf_2 : decode cX5_weightOf 2 = .ok (.ishr, 1) := by decide +kernel
theorem dX5_weightOf_3 : decode cX5_weightOf 3 = .ok (.iconst 1, 1) := by decide +kernel
theorem dX5_weightOf_4 : decode cX5_weightOf 4 = .ok (.iand, 1) := by decide +kernel
theorem dX5_weightOf_5 : decode cX5_weightOf 5 = .ok (.ifCond .ne 5, 3) := by decide +kernel
theorem dX5_weightOf_8 : decode cX5_weightOf 8 = .ok (.iconst 0, 1) := by decide +kernel
theorem dX5_weightOf_9 : decode cX5_weightOf 9 = .ok (.ireturn, 1) := by decide +kernel
theorem dX5_weightOf_10 : decode cX5_weightOf 10 = .ok (.iconst 0, 1) := by decide +kernel
theorem dX5_weightOf_11 : decode cX5_weightOf 11 = .ok (.istore 4, 2) := by decide +kernel
theorem dX5_weightOf_13 : decode cX5_weightOf 13 = .ok (.iconst 0, 1) := by decide +kernel
theorem dX5_weightOf_14 : decode cX5_weightOf 14 = .ok (.istore 5, 2) := by decide +kernel
theorem dX5_weightOf_16 : decode cX5_weightOf 16 = .ok (.iload 5, 2) := by decide +kernel
theorem dX5_weightOf_18 : decode cX5_weightOf 18 = .ok (.iconst 4, 1) := by decide +kernel
theorem dX5_weightOf_19 : decode cX5_weightOf 19 = .ok (.if_icmp .ge 33, 3) := by decide +kernel
theorem dX5_weightOf_22 : decode cX5_weightOf 22 = .ok (.aload_n 0, 1) := by decide +kernel
theorem dX5_weightOf_23 : decode cX5_weightOf 23 = .ok (.getfield 23, 3) := by decide +kernel
theorem dX5_weightOf_26 : decode cX5_weightOf 26 = .ok (.iload 5, 2) := by decide +kernel
theorem dX5_weightOf_28 : decode cX5_weightOf 28 = .ok (.iload_n 3, 1) := by decide +kernel
theorem dX5_weightOf_29 : decode cX5_weightOf 29 = .ok (.aload_n 0, 1) := by decide +kernel
theorem dX5_weightOf_30 : decode cX5_weightOf 30 = .ok (.getfield 30, 3) := by decide +kernel
theorem dX5_weightOf_33 : decode cX5_weightOf 33 = .ok (.getfield 103, 3) := by decide +kernel
theorem dX5_weightOf_36 : decode cX5_weightOf 36 = .ok (.invokevirtual 130, 3) := by decide +kernel
theorem dX5_weightOf_39 : decode cX5_weightOf 39 = .ok (.iload_n 1, 1) := by decide +kernel
theorem dX5_weightOf_40 : decode cX5_weightOf 40 = .ok (.if_icmp .eq 6, 3) := by decide +kernel
theorem dX5_weightOf_43 : decode cX5_weightOf 43 = .ok (.iinc 4 1, 3) := by decide +kernel
theorem dX5_weightOf_46 : decode cX5_weightOf 46 = .ok (.iinc 5 1, 3) := by decide +kernel
theorem dX5_weightOf_49 : decode cX5_weightOf 49 = .ok (.goto (-33), 3) := by decide +kernel
theorem dX5_weightOf_52 : decode cX5_weightOf 52 = .ok (.iload 4, 2) := by decide +kernel
theorem dX5_weightOf_54 : decode cX5_weightOf 54 = .ok (.iload_n 2, 1) := by decide +kernel
theorem dX5_weightOf_55 : decode cX5_weightOf 55 = .ok (.invokestatic 215, 3) := by decide +kernel
theorem dX5_weightOf_58 : decode cX5_weightOf 58 = .ok (.ireturn, 1) := by decide +kernel
set_option maxRecDepth 20000 in
theorem ggX5_judge_X5_power : GoodIn wsX5_judge wsX5_power := goodIn_r _ [11] (by decide +kernel) (by decide +kernel)
set_option maxRecDepth 20000 in
theorem gX5_judge_X5_power : GoodIn wsX5_judge (va_wsS RX5 215 yX5_power wsX5_power) := goodIn_app (goodIn_of _ (by decide +kernel)) ggX5_judge_X5_power
set_option maxRecDepth 20000 in
theorem ggX5_judge_X4_copyFrom : GoodIn wsX5_judge wsX4_copyFrom := goodIn_r _ [16, 17, 18, 19, 20, 21, 22, 23, 10, 24, 102, 103, 104, 105, 106, 107] (by decide +kernel) (by decide +kernel)
set_option maxRecDepth 20000 in
theorem gX5_judge_X4_copyFrom : GoodIn wsX5_judge (wsV RX5 74 RX4 yX4_copyFrom wsX4_copyFrom) := goodIn_app (goodIn_of _ (by decide +kernel)) ggX5_judge_X4_copyFrom
set_option maxRecDepth 20000 in
theorem ggX5_judge_X4_couldDo : GoodIn wsX5_judge wsX4_couldDo := goodIn_r _ [28, 18, 29, 30, 31, 15, 32, 21, 20, 33, 34, 35, 36, 37, 38, 19, 22, 39, 10, 40, 41, 42, 43, 44, 17, 45, 46, 47, 48, 49, 50, 51, 52, 53, 54, 55, 56, 57, 58, 59, 60, 61, 62, 63, 64, 65, 66, 67, 68, 69, 70, 71, 72, 73, 74, 75, 76, 77, 78, 79, 80, 81, 82, 83, 84, 85, 86, 87, 88, 89, 90, 91, 102, 103, 104, 105, 106, 107, 108, 109, 110, 111, 112] (by decide +kernel) (by decide +kernel)
set_option maxRecDepth 20000 in
theorem gX5_judge_X4_couldDo : GoodIn wsX5_judge (wsV RX5 224 RX4 yX4_couldDo wsX4_couldDo) := goodIn_app (goodIn_of _ (by decide +kernel)) ggX5_judge_X4_couldDo
theorem dX5_judge_0 : decode cX5_judge 0 = .ok (.iload_n 1, 1) := by decide +kernel
theorem dX5_judge_1 : decode cX5_judge 1 = .ok (.iconst 1, 1) := by decide +kernel
theorem dX5_judge_2 : decode cX5_judge 2 = .ok (.if_icmp .lt 8, 3) := by decide +kernel
theorem dX5_judge_5 : decode cX5_judge 5 = .ok (.iload_n 1, 1) := by decide +kernel
theorem dX5_judge_6 : decode cX5_judge 6 = .ok (.iconst 4, 1) := by decide +kernel
theorem dX5_judge_7 : decode cX5_judge 7 = .ok (.if_icmp .le 6, 3) := by decide +kernel
theorem dX5_judge_10 : decode cX5_judge 10 = .ok (.bipush (-2), 2) := by decide +kernel
theorem dX5_judge_12 : decode cX5_judge 12 = .ok (.ireturn, 1) := by decide +kernel
theorem dX5_judge_13 : decode cX5_judge 13 = .ok (.bipush 100, 2) := by decide +kernel
theorem dX5_judge_15 : decode cX5_judge 15 = .ok (.iload_n 1, 1) := by decide +kernel
theorem dX5_judge_16 : decode cX5_judge 16 = .ok (.invokestatic 215, 3) := by decide +kernel
theorem dX5_judge_19 : decode cX5_judge 19 = .ok (.istore_n 3, 1) := by decide +kernel
theorem dX5_judge_20 : decode cX5_judge 20 = .ok (.iload_n 2, 1) := by decide +kernel
theorem dX5_judge_21 : decode cX5_judge 21 = .ok (.ifCond .lt 8, 3) := by decide +kernel
theorem dX5_judge_24 : decode cX5_judge 24 = .ok (.iload_n 2, 1) := by decide +kernel
theorem dX5_judge_25 : decode cX5_judge 25 = .ok (.iload_n 3, 1) := by decide +kernel
theorem dX5_judge_26 : decode cX5_judge 26 = .ok (.if_icmp .lt 6, 3) := by decide +kernel
theorem dX5_judge_29 : decode cX5_judge 29 = .ok (.bipush (-2), 2) := by decide +kernel
theorem dX5_judge_31 : decode cX5_judge 31 = .ok (.ireturn, 1) := by decide +kernel
theorem dX5_judge_32 : decode cX5_judge 32 = .ok (.aload_n 0, 1) := by decide +kernel
theorem dX5_judge_33 : decode cX5_judge 33 = .ok (.getfield 34, 3) := by decide +kernel
theorem dX5_judge_36 : decode cX5_judge 36 = .ok (.aload_n 0, 1) := by decide +kernel
theorem dX5_judge_37 : decode cX5_judge 37 = .ok (.getfield 30, 3) := by decide +kernel
theorem dX5_judge_40 : decode cX5_judge 40 = .ok (.invokevirtual 74, 3) := by decide +kernel
theorem dX5_judge_43 : decode cX5_judge 43 = .ok (.iconst 0, 1) := by decide +kernel
theorem dX5_judge_44 : decode cX5_judge 44 = .ok (.istore 4, 2) := by decide +kernel
theorem dX5_judge_46 : decode cX5_judge 46 = .ok (.iload 4, 2) := by decide +kernel
theorem dX5_judge_48 : decode cX5_judge 48 = .ok (.iload_n 1, 1) := by decide +kernel
theorem dX5_judge_49 : decode cX5_judge 49 = .ok (.if_icmp .ge 53, 3) := by decide +kernel
theorem dX5_judge_52 : decode cX5_judge 52 = .ok (.iconst 1, 1) := by decide +kernel
theorem dX5_judge_53 : decode cX5_judge 53 = .ok (.iload_n 3, 1) := by decide +kernel
theorem dX5_judge_54 : decode cX5_judge 54 = .ok (.bipush 100, 2) := by decide +kernel
theorem dX5_judge_56 : decode cX5_judge 56 = .ok (.idiv, 1) := by decide +kernel
theorem dX5_judge_57 : decode cX5_judge 57 = .ok (.invokestatic 219, 3) := by decide +kernel
theorem dX5_judge_60 : decode cX5_judge 60 = .ok (.istore_n 3, 1) := by decide +kernel
theorem dX5_judge_61 : decode cX5_judge 61 = .ok (.iload_n 2, 1) := by decide +kernel
theorem dX5_judge_62 : decode cX5_judge 62 = .ok (.iload_n 3, 1) := by decide +kernel
theorem dX5_judge_63 : decode cX5_judge 63 = .ok (.idiv, 1) := by decide +kernel
theorem dX5_judge_64 : decode cX5_judge 64 = .ok (.bipush 100, 2) := by decide +kernel
theorem dX5_judge_66 : decode cX5_judge 66 = .ok (.irem, 1) := by decide +kernel
theorem dX5_judge_67 : decode cX5_judge 67 = .ok (.istore 5, 2) := by decide +kernel
theorem dX5_judge_69 : decode cX5_judge 69 = .ok (.aload_n 0, 1) := by decide +kernel
theorem dX5_judge_70 : decode cX5_judge 70 = .ok (.getfield 34, 3) := by decide +kernel
theorem dX5_judge_73 : decode cX5_judge 73 = .ok (.aload_n 0, 1) := by decide +kernel
theorem dX5_judge_74 : decode cX5_judge 74 = .ok (.getfield 23, 3) := by decide +kernel
theorem dX5_judge_77 : decode cX5_judge 77 = .ok (.iload 5, 2) := by decide +kernel
theorem dX5_judge_79 : decode cX5_judge 79 = .ok (.bipush 10, 2) := by decide +kernel
theorem dX5_judge_81 : decode cX5_judge 81 = .ok (.idiv, 1) := by decide +kernel
theorem dX5_judge_82 : decode cX5_judge 82 = .ok (.iload 5, 2) := by decide +kernel
theorem dX5_judge_84 : decode cX5_judge 84 = .ok (.bipush 10, 2) := by decide +kernel
theorem dX5_judge_86 : decode cX5_judge 86 = .ok (.irem, 1) := by decide +kernel
theorem dX5_judge_87 : decode cX5_judge 87 = .ok (.invokevirtual 224, 3) := by decide +kernel
theorem dX5_judge_90 : decode cX5_judge 90 = .ok (.ifCond .ne 6, 3) := by decide +kernel
theorem dX5_judge_93 : decode cX5_judge 93 = .ok (.iload 4, 2) := by decide +kernel
theorem dX5_judge_95 : decode cX5_judge 95 = .ok (.ireturn, 1) := by decide +kernel
theorem dX5_judge_96 : decode cX5_judge 96 = .ok (.iinc 4 1, 3) := by decide +kernel
theorem dX5_judge_99 : decode cX5_judge 99 = .ok (.goto (-53), 3) := by decide +kernel
theorem dX5_judge_102 : decode cX5_judge 102 = .ok (.bipush (-9), 2) := by decide +kernel
theorem dX5_judge_104 : decode cX5_judge 104 = .ok (.ireturn, 1) := by decide +kernel
set_option maxRecDepth 20000 in
theorem ggX5_share_X1_hasCasket : GoodIn wsX5_share wsX1_hasCasket := goodIn_r _ [9, 10, 70, 71, 72, 73, 74] (by decide +kernel) (by decide +kernel)
set_option maxRecDepth 20000 in
theorem gX5_share_X1_hasCasket : GoodIn wsX5_share (wsV RX5 90 RX1 yX1_hasCasket wsX1_hasCasket) := goodIn_app (goodIn_of _ (by decide +kernel)) ggX5_share_X1_hasCasket
set_option maxRecDepth 20000 in
theorem ggX5_share_J6_bitCount_0f7a4 : GoodIn wsX5_share wsJ6_bitCount_0f7a4 := goodIn_r _ [14, 15, 16, 17] (by decide +kernel) (by decide +kernel)
set_option maxRecDepth 20000 in
theorem gX5_share_J6_bitCount_0f7a4 : GoodIn wsX5_share (va_wsS RX5 204 yJ6_bitCount_0f7a4 wsJ6_bitCount_0f7a4) := goodIn_app (goodIn_of _ (by decide +kernel)) ggX5_share_J6_bitCount_0f7a4
set_option maxRecDepth 20000 in
theorem ggX5_share_X5_at : GoodIn wsX5_share wsX5_at := goodIn_r _ [21] (by decide +kernel) (by decide +kernel)
set_option maxRecDepth 20000 in
theorem gX5_share_X5_at : GoodIn wsX5_share (va_wsS RX5 97 yX5_at wsX5_at) := goodIn_app (goodIn_of _ (by decide +kernel)) ggX5_share_X5_at
set_option maxRecDepth 20000 in
theorem ggX5_share_X4_fittingBy : GoodIn wsX5_share wsX4_fittingBy := goodIn_r _ [26, 27, 28, 20, 29, 30, 2, 31, 32, 33, 34, 35, 36, 37, 38, 39, 40, 41, 42, 43, 44, 45, 46, 75, 76, 77, 78, 79, 80, 70, 71, 72, 73, 74] (by decide +kernel) (by decide +kernel)
set_option maxRecDepth 20000 in
theorem gX5_share_X4_fittingBy : GoodIn wsX5_share (wsV RX5 231 RX4 yX4_fittingBy wsX4_fittingBy) := goodIn_app (goodIn_of _ (by decide +kernel)) ggX5_share_X4_fittingBy
set_option maxRecDepth 20000 in
theorem ggX5_share_X5_partOf : GoodIn wsX5_share wsX5_partOf := goodIn_r _ [49, 50, 51, 52, 53, 54, 55, 56, 57, 58, 20, 59] (by decide +kernel) (by decide +kernel)
set_option maxRecDepth 20000 in
theorem gX5_share_X5_partOf : GoodIn wsX5_share (va_wsS RX5 211 yX5_partOf wsX5_partOf) := goodIn_app (goodIn_of _ (by decide +kernel)) ggX5_share_X5_partOf
theorem dX5_share_0 : decode cX5_share 0 = .ok (.aload_n 0, 1) := by decide +kernel
theorem dX5_share_1 : decode cX5_share 1 = .ok (.getfield 23, 3) := by decide +kernel
theorem dX5_share_4 : decode cX5_share 4 = .ok (.iload_n 1, 1) := by decide +kernel
theorem dX5_share_5 : decode cX5_share 5 = .ok (.invokevirtual 90, 3) := by decide +kernel
theorem dX5_share_8 : decode cX5_share 8 = .ok (.ifCond .ne 5, 3) := by decide +kernel
theorem dX5_share_11 : decode cX5_share 11 = .ok (.iconst (-1), 1) := by decide +kernel
theorem dX5_share_12 : decode cX5_share 12 = .ok (.ireturn, 1) := by decide +kernel
theorem dX5_share_13 : decode cX5_share 13 = .ok (.iconst 0, 1) := by decide +kernel
theorem dX5_share_14 : decode cX5_share 14 = .ok (.istore_n 3, 1) := by decide +kernel
theorem dX5_share_15 : decode cX5_share 15 = .ok (.iconst 0, 1) := by decide +kernel
theorem dX5_share_16 : decode cX5_share 16 = .ok (.istore 4, 2) := by decide +kernel
theorem dX5_share_18 : decode cX5_share 18 = .ok (.iload 4, 2) := by decide +kernel
theorem dX5_share_20 : decode cX5_share 20 = .ok (.iconst 1, 1) := by decide +kernel
theorem dX5_share_21 : decode cX5_share 21 = .ok (.aload_n 0, 1) := by decide +kernel
theorem dX5_share_22 : decode cX5_share 22 = .ok (.getfield 23, 3) := by decide +kernel
theorem dX5_share_25 : decode cX5_share 25 = .ok (.getfield 84, 3) := by decide +kernel
theorem dX5_share_28 : decode cX5_share 28 = .ok (.ishl, 1) := by decide +kernel
theorem dX5_share_29 : decode cX5_share 29 = .ok (.if_icmp .ge 112, 3) := by decide +kernel
theorem dX5_share_32 : decode cX5_share 32 = .ok (.iload 4, 2) := by decide +kernel
theorem dX5_share_34 : decode cX5_share 34 = .ok (.bipush 15, 2) := by decide +kernel
theorem dX5_share_36 : decode cX5_share 36 = .ok (.if_icmp .gt 105, 3) := by decide +kernel
theorem dX5_share_39 : decode cX5_share 39 = .ok (.iload 4, 2) := by decide +kernel
theorem dX5_share_41 : decode cX5_share 41 = .ok (.iload_n 1, 1) := by decide +kernel
theorem dX5_share_42 : decode cX5_share 42 = .ok (.ishr, 1) := by decide +kernel
theorem dX5_share_43 : decode cX5_share 43 = .ok (.iconst 1, 1) := by decide +kernel
theorem dX5_share_44 : decode cX5_share 44 = .ok (.iand, 1) := by decide +kernel
theorem dX5_share_45 : decode cX5_share 45 = .ok (.ifCond .ne 90, 3) := by decide +kernel
theorem dX5_share_48 : decode cX5_share 48 = .ok (.iload 4, 2) := by decide +kernel
theorem dX5_share_50 : decode cX5_share 50 = .ok (.invokestatic 204, 3) := by decide +kernel
theorem dX5_share_53 : decode cX5_share 53 = .ok (.istore 5, 2) := by decide +kernel
theorem dX5_share_55 : decode cX5_share 55 = .ok (.getstatic 228, 3) := by decide +kernel
theorem dX5_share_58 : decode cX5_share 58 = .ok (.iload 5, 2) := by decide +kernel
theorem dX5_share_60 : decode cX5_share 60 = .ok (.invokestatic 97, 3) := by decide +kernel
theorem dX5_share_63 : decode cX5_share 63 = .ok (.getstatic 228, 3) := by decide +kernel
theorem dX5_share_66 : decode cX5_share 66 = .ok (.aload_n 0, 1) := by decide +kernel
theorem dX5_share_67 : decode cX5_share 67 = .ok (.getfield 23, 3) := by decide +kernel
theorem dX5_share_70 : decode cX5_share 70 = .ok (.getfield 84, 3) := by decide +kernel
theorem dX5_share_73 : decode cX5_share 73 = .ok (.iconst 1, 1) := by decide +kernel
theorem dX5_share_74 : decode cX5_share 74 = .ok (.isub, 1) := by decide +kernel
theorem dX5_share_75 : decode cX5_share 75 = .ok (.iload 5, 2) := by decide +kernel
theorem dX5_share_77 : decode cX5_share 77 = .ok (.isub, 1) := by decide +kernel
theorem dX5_share_78 : decode cX5_share 78 = .ok (.invokestatic 97, 3) := by decide +kernel
theorem dX5_share_81 : decode cX5_share 81 = .ok (.imul, 1) := by decide +kernel
theorem dX5_share_82 : decode cX5_share 82 = .ok (.istore 6, 2) := by decide +kernel
theorem dX5_share_84 : decode cX5_share 84 = .ok (.aload_n 0, 1) := by decide +kernel
theorem dX5_share_85 : decode cX5_share 85 = .ok (.getfield 30, 3) := by decide +kernel
theorem dX5_share_88 : decode cX5_share 88 = .ok (.aload_n 0, 1) := by decide +kernel
theorem dX5_share_89 : decode cX5_share 89 = .ok (.getfield 23, 3) := by decide +kernel
theorem dX5_share_92 : decode cX5_share 92 = .ok (.iload 4, 2) := by decide +kernel
theorem dX5_share_94 : decode cX5_share 94 = .ok (.invokevirtual 231, 3) := by decide +kernel
theorem dX5_share_97 : decode cX5_share 97 = .ok (.invokestatic 204, 3) := by decide +kernel
theorem dX5_share_100 : decode cX5_share 100 = .ok (.istore 7, 2) := by decide +kernel
theorem dX5_share_102 : decode cX5_share 102 = .ok (.aload_n 0, 1) := by decide +kernel
theorem dX5_share_103 : decode cX5_share 103 = .ok (.getfield 30, 3) := by decide +kernel
theorem dX5_share_106 : decode cX5_share 106 = .ok (.aload_n 0, 1) := by decide +kernel
theorem dX5_share_107 : decode cX5_share 107 = .ok (.getfield 23, 3) := by decide +kernel
theorem dX5_share_110 : decode cX5_share 110 = .ok (.iload 4, 2) := by decide +kernel
theorem dX5_share_112 : decode cX5_share 112 = .ok (.iconst 1, 1) := by decide +kernel
theorem dX5_share_113 : decode cX5_share 113 = .ok (.iload_n 1, 1) := by decide +kernel
theorem dX5_share_114 : decode cX5_share 114 = .ok (.ishl, 1) := by decide +kernel
theorem dX5_share_115 : decode cX5_share 115 = .ok (.ior, 1) := by decide +kernel
theorem dX5_share_116 : decode cX5_share 116 = .ok (.invokevirtual 231, 3) := by decide +kernel
theorem dX5_share_119 : decode cX5_share 119 = .ok (.invokestatic 204, 3) := by decide +kernel
theorem dX5_share_122 : decode cX5_share 122 = .ok (.istore 8, 2) := by decide +kernel
theorem dX5_share_124 : decode cX5_share 124 = .ok (.iload_n 3, 1) := by decide +kernel
theorem dX5_share_125 : decode cX5_share 125 = .ok (.iload 6, 2) := by decide +kernel
theorem dX5_share_127 : decode cX5_share 127 = .ok (.iload 7, 2) := by decide +kernel
theorem dX5_share_129 : decode cX5_share 129 = .ok (.iload 8, 2) := by decide +kernel
theorem dX5_share_131 : decode cX5_share 131 = .ok (.isub, 1) := by decide +kernel
theorem dX5_share_132 : decode cX5_share 132 = .ok (.imul, 1) := by decide +kernel
theorem dX5_share_133 : decode cX5_share 133 = .ok (.iadd, 1) := by decide +kernel
theorem dX5_share_134 : decode cX5_share 134 = .ok (.istore_n 3, 1) := by decide +kernel
theorem dX5_share_135 : decode cX5_share 135 = .ok (.iinc 4 1, 3) := by decide +kernel
theorem dX5_share_138 : decode cX5_share 138 = .ok (.goto (-120), 3) := by decide +kernel
theorem dX5_share_141 : decode cX5_share 141 = .ok (.iload_n 3, 1) := by decide +kernel
theorem dX5_share_142 : decode cX5_share 142 = .ok (.getstatic 228, 3) := by decide +kernel
theorem dX5_share_145 : decode cX5_share 145 = .ok (.aload_n 0, 1) := by decide +kernel
theorem dX5_share_146 : decode cX5_share 146 = .ok (.getfield 23, 3) := by decide +kernel
theorem dX5_share_149 : decode cX5_share 149 = .ok (.getfield 84, 3) := by decide +kernel
theorem dX5_share_152 : decode cX5_share 152 = .ok (.invokestatic 97, 3) := by decide +kernel
theorem dX5_share_155 : decode cX5_share 155 = .ok (.iload_n 2, 1) := by decide +kernel
theorem dX5_share_156 : decode cX5_share 156 = .ok (.invokestatic 211, 3) := by decide +kernel
theorem dX5_share_159 : decode cX5_share 159 = .ok (.ireturn, 1) := by decide +kernel
set_option maxRecDepth 20000 in
theorem ggX5_rests_X4_fitting : GoodIn wsX5_rests wsX4_fitting := goodIn_r _ [8, 9, 10, 11, 12, 13, 3, 14, 15, 16, 17, 18, 19, 20, 21, 22, 23, 24, 25, 26, 27, 28, 29, 59, 60, 61, 62, 63, 64, 54, 55, 56, 57, 58] (by decide +kernel) (by decide +kernel)
set_option maxRecDepth 20000 in
theorem gX5_rests_X4_fitting : GoodIn wsX5_rests (wsV RX5 106 RX4 yX4_fitting wsX4_fitting) := goodIn_app (goodIn_of _ (by decide +kernel)) ggX5_rests_X4_fitting
set_option maxRecDepth 20000 in
theorem ggX5_rests_X5_isBest : GoodIn wsX5_rests wsX5_isBest := goodIn_r _ [33, 2, 3, 34, 35, 11, 36, 37, 38, 39, 40, 41, 42, 43, 44, 45, 46, 47, 48, 49, 50, 51, 52, 53, 54, 55, 56, 57, 58] (by decide +kernel) (by decide +kernel)
set_option maxRecDepth 20000 in
theorem gX5_rests_X5_isBest : GoodIn wsX5_rests (wsV RX5 235 RX5 yX5_isBest wsX5_isBest) := goodIn_app (goodIn_of _ (by decide +kernel)) ggX5_rests_X5_isBest
theorem dX5_rests_0 : decode cX5_rests 0 = .ok (.iload_n 1, 1) := by decide +kernel
theorem dX5_rests_1 : decode cX5_rests 1 = .ok (.ifCond .lt 8, 3) := by decide +kernel
theorem dX5_rests_4 : decode cX5_rests 4 = .ok (.iload_n 1, 1) := by decide +kernel
theorem dX5_rests_5 : decode cX5_rests 5 = .ok (.iconst 1, 1) := by decide +kernel
theorem dX5_rests_6 : decode cX5_rests 6 = .ok (.if_icmp .le 6, 3) := by decide +kernel
theorem dX5_rests_9 : decode cX5_rests 9 = .ok (.bipush (-2), 2) := by decide +kernel
theorem dX5_rests_11 : decode cX5_rests 11 = .ok (.ireturn, 1) := by decide +kernel
theorem dX5_rests_12 : decode cX5_rests 12 = .ok (.aload_n 0, 1) := by decide +kernel
theorem dX5_rests_13 : decode cX5_rests 13 = .ok (.getfield 30, 3) := by decide +kernel
theorem dX5_rests_16 : decode cX5_rests 16 = .ok (.aload_n 0, 1) := by decide +kernel
theorem dX5_rests_17 : decode cX5_rests 17 = .ok (.getfield 23, 3) := by decide +kernel
theorem dX5_rests_20 : decode cX5_rests 20 = .ok (.invokevirtual 106, 3) := by decide +kernel
theorem dX5_rests_23 : decode cX5_rests 23 = .ok (.istore_n 2, 1) := by decide +kernel
theorem dX5_rests_24 : decode cX5_rests 24 = .ok (.iconst 0, 1) := by decide +kernel
theorem dX5_rests_25 : decode cX5_rests 25 = .ok (.istore_n 3, 1) := by decide +kernel
theorem dX5_rests_26 : decode cX5_rests 26 = .ok (.bipush (-9), 2) := by decide +kernel
theorem dX5_rests_28 : decode cX5_rests 28 = .ok (.istore 4, 2) := by decide +kernel
theorem dX5_rests_30 : decode cX5_rests 30 = .ok (.iconst 0, 1) := by decide +kernel
theorem dX5_rests_31 : decode cX5_rests 31 = .ok (.istore 5, 2) := by decide +kernel
theorem dX5_rests_33 : decode cX5_rests 33 = .ok (.iload 5, 2) := by decide +kernel
theorem dX5_rests_35 : decode cX5_rests 35 = .ok (.aload_n 0, 1) := by decide +kernel
theorem dX5_rests_36 : decode cX5_rests 36 = .ok (.getfield 23, 3) := by decide +kernel
theorem dX5_rests_39 : decode cX5_rests 39 = .ok (.getfield 84, 3) := by decide +kernel
theorem dX5_rests_42 : decode cX5_rests 42 = .ok (.if_icmp .gt 91, 3) := by decide +kernel
theorem dX5_rests_45 : decode cX5_rests 45 = .ok (.iload 5, 2) := by decide +kernel
