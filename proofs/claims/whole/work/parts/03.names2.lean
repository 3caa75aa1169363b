theorem dX5_rests_47 : decode cX5_rests 47 = .ok (.iconst 4, 1) := by decide +kernel
theorem dX5_rests_48 : decode cX5_rests 48 = .ok (.if_icmp .gt 85, 3) := by decide +kernel
theorem dX5_rests_51 : decode cX5_rests 51 = .ok (.iconst 0, 1) := by decide +kernel
theorem dX5_rests_52 : decode cX5_rests 52 = .ok (.istore 6, 2) := by decide +kernel
theorem dX5_rests_54 : decode cX5_rests 54 = .ok (.iload 6, 2) := by decide +kernel
theorem dX5_rests_56 : decode cX5_rests 56 = .ok (.aload_n 0, 1) := by decide +kernel
theorem dX5_rests_57 : decode cX5_rests 57 = .ok (.getfield 23, 3) := by decide +kernel
theorem dX5_rests_60 : decode cX5_rests 60 = .ok (.getfield 84, 3) := by decide +kernel
theorem dX5_rests_63 : decode cX5_rests 63 = .ok (.if_icmp .gt 64, 3) := by decide +kernel
theorem dX5_rests_66 : decode cX5_rests 66 = .ok (.iload 6, 2) := by decide +kernel
theorem dX5_rests_68 : decode cX5_rests 68 = .ok (.iconst 4, 1) := by decide +kernel
theorem dX5_rests_69 : decode cX5_rests 69 = .ok (.if_icmp .gt 58, 3) := by decide +kernel
theorem dX5_rests_72 : decode cX5_rests 72 = .ok (.aload_n 0, 1) := by decide +kernel
theorem dX5_rests_73 : decode cX5_rests 73 = .ok (.iload 5, 2) := by decide +kernel
theorem dX5_rests_75 : decode cX5_rests 75 = .ok (.iload 6, 2) := by decide +kernel
theorem dX5_rests_77 : decode cX5_rests 77 = .ok (.iload_n 2, 1) := by decide +kernel
theorem dX5_rests_78 : decode cX5_rests 78 = .ok (.invokevirtual 235, 3) := by decide +kernel
theorem dX5_rests_81 : decode cX5_rests 81 = .ok (.ifCond .eq 40, 3) := by decide +kernel
theorem dX5_rests_84 : decode cX5_rests 84 = .ok (.aload_n 0, 1) := by decide +kernel
theorem dX5_rests_85 : decode cX5_rests 85 = .ok (.iload 6, 2) := by decide +kernel
theorem dX5_rests_87 : decode cX5_rests 87 = .ok (.iload 5, 2) := by decide +kernel
theorem dX5_rests_89 : decode cX5_rests 89 = .ok (.iload_n 2, 1) := by decide +kernel
theorem dX5_rests_90 : decode cX5_rests 90 = .ok (.invokevirtual 235, 3) := by decide +kernel
theorem dX5_rests_93 : decode cX5_rests 93 = .ok (.ifCond .eq 28, 3) := by decide +kernel
theorem dX5_rests_96 : decode cX5_rests 96 = .ok (.iinc 3 1, 3) := by decide +kernel
theorem dX5_rests_99 : decode cX5_rests 99 = .ok (.iload 4, 2) := by decide +kernel
theorem dX5_rests_101 : decode cX5_rests 101 = .ok (.bipush (-9), 2) := by decide +kernel
theorem dX5_rests_103 : decode cX5_rests 103 = .ok (.if_icmp .ne 14, 3) := by decide +kernel
theorem dX5_rests_106 : decode cX5_rests 106 = .ok (.bipush 10, 2) := by decide +kernel
theorem dX5_rests_108 : decode cX5_rests 108 = .ok (.iload 5, 2) := by decide +kernel
theorem dX5_rests_110 : decode cX5_rests 110 = .ok (.imul, 1) := by decide +kernel
theorem dX5_rests_111 : decode cX5_rests 111 = .ok (.iload 6, 2) := by decide +kernel
theorem dX5_rests_113 : decode cX5_rests 113 = .ok (.iadd, 1) := by decide +kernel
theorem dX5_rests_114 : decode cX5_rests 114 = .ok (.goto 5, 3) := by decide +kernel
theorem dX5_rests_117 : decode cX5_rests 117 = .ok (.iload 4, 2) := by decide +kernel
theorem dX5_rests_119 : decode cX5_rests 119 = .ok (.istore 4, 2) := by decide +kernel
theorem dX5_rests_121 : decode cX5_rests 121 = .ok (.iinc 6 1, 3) := by decide +kernel
theorem dX5_rests_124 : decode cX5_rests 124 = .ok (.goto (-70), 3) := by decide +kernel
theorem dX5_rests_127 : decode cX5_rests 127 = .ok (.iinc 5 1, 3) := by decide +kernel
theorem dX5_rests_130 : decode cX5_rests 130 = .ok (.goto (-97), 3) := by decide +kernel
theorem dX5_rests_133 : decode cX5_rests 133 = .ok (.iload_n 1, 1) := by decide +kernel
theorem dX5_rests_134 : decode cX5_rests 134 = .ok (.ifCond .ne 7, 3) := by decide +kernel
theorem dX5_rests_137 : decode cX5_rests 137 = .ok (.iload_n 3, 1) := by decide +kernel
theorem dX5_rests_138 : decode cX5_rests 138 = .ok (.goto 5, 3) := by decide +kernel
theorem dX5_rests_141 : decode cX5_rests 141 = .ok (.iload 4, 2) := by decide +kernel
theorem dX5_rests_143 : decode cX5_rests 143 = .ok (.ireturn, 1) := by decide +kernel
set_option maxRecDepth 20000 in
theorem ggX5_isBest_X5_gainOf : GoodIn wsX5_isBest wsX5_gainOf := goodIn_r _ [6, 7, 8, 9, 10, 11, 12, 13] (by decide +kernel) (by decide +kernel)
set_option maxRecDepth 20000 in
theorem gX5_isBest_X5_gainOf : GoodIn wsX5_isBest (va_wsS RX5 239 yX5_gainOf wsX5_gainOf) := goodIn_app (goodIn_of _ (by decide +kernel)) ggX5_isBest_X5_gainOf
theorem dX5_isBest_0 : decode cX5_isBest 0 = .ok (.iload_n 1, 1) := by decide +kernel
theorem dX5_isBest_1 : decode cX5_isBest 1 = .ok (.iload_n 2, 1) := by decide +kernel
theorem dX5_isBest_2 : decode cX5_isBest 2 = .ok (.iload_n 3, 1) := by decide +kernel
theorem dX5_isBest_3 : decode cX5_isBest 3 = .ok (.invokestatic 239, 3) := by decide +kernel
theorem dX5_isBest_6 : decode cX5_isBest 6 = .ok (.istore 4, 2) := by decide +kernel
theorem dX5_isBest_8 : decode cX5_isBest 8 = .ok (.iconst 0, 1) := by decide +kernel
theorem dX5_isBest_9 : decode cX5_isBest 9 = .ok (.istore 5, 2) := by decide +kernel
theorem dX5_isBest_11 : decode cX5_isBest 11 = .ok (.iload 5, 2) := by decide +kernel
theorem dX5_isBest_13 : decode cX5_isBest 13 = .ok (.aload_n 0, 1) := by decide +kernel
theorem dX5_isBest_14 : decode cX5_isBest 14 = .ok (.getfield 23, 3) := by decide +kernel
theorem dX5_isBest_17 : decode cX5_isBest 17 = .ok (.getfield 84, 3) := by decide +kernel
theorem dX5_isBest_20 : decode cX5_isBest 20 = .ok (.if_icmp .gt 29, 3) := by decide +kernel
theorem dX5_isBest_23 : decode cX5_isBest 23 = .ok (.iload 5, 2) := by decide +kernel
theorem dX5_isBest_25 : decode cX5_isBest 25 = .ok (.iconst 4, 1) := by decide +kernel
theorem dX5_isBest_26 : decode cX5_isBest 26 = .ok (.if_icmp .gt 23, 3) := by decide +kernel
theorem dX5_isBest_29 : decode cX5_isBest 29 = .ok (.iload 5, 2) := by decide +kernel
theorem dX5_isBest_31 : decode cX5_isBest 31 = .ok (.iload_n 2, 1) := by decide +kernel
theorem dX5_isBest_32 : decode cX5_isBest 32 = .ok (.iload_n 3, 1) := by decide +kernel
theorem dX5_isBest_33 : decode cX5_isBest 33 = .ok (.invokestatic 239, 3) := by decide +kernel
theorem dX5_isBest_36 : decode cX5_isBest 36 = .ok (.iload 4, 2) := by decide +kernel
theorem dX5_isBest_38 : decode cX5_isBest 38 = .ok (.if_icmp .le 5, 3) := by decide +kernel
theorem dX5_isBest_41 : decode cX5_isBest 41 = .ok (.iconst 0, 1) := by decide +kernel
theorem dX5_isBest_42 : decode cX5_isBest 42 = .ok (.ireturn, 1) := by decide +kernel
theorem dX5_isBest_43 : decode cX5_isBest 43 = .ok (.iinc 5 1, 3) := by decide +kernel
theorem dX5_isBest_46 : decode cX5_isBest 46 = .ok (.goto (-35), 3) := by decide +kernel
theorem dX5_isBest_49 : decode cX5_isBest 49 = .ok (.iconst 1, 1) := by decide +kernel
theorem dX5_isBest_50 : decode cX5_isBest 50 = .ok (.ireturn, 1) := by decide +kernel
set_option maxRecDepth 20000 in
theorem ggX5_gainOf_J6_bitCount_0f7a4 : GoodIn wsX5_gainOf wsJ6_bitCount_0f7a4 := goodIn_r _ [4, 5, 6, 7] (by decide +kernel) (by decide +kernel)
set_option maxRecDepth 20000 in
theorem gX5_gainOf_J6_bitCount_0f7a4 : GoodIn wsX5_gainOf (va_wsS RX5 204 yJ6_bitCount_0f7a4 wsJ6_bitCount_0f7a4) := goodIn_app (goodIn_of _ (by decide +kernel)) ggX5_gainOf_J6_bitCount_0f7a4
theorem dX5_gainOf_0 : decode cX5_gainOf 0 = .ok (.iload_n 0, 1) := by decide +kernel
theorem dX5_gainOf_1 : decode cX5_gainOf 1 = .ok (.ifCond .ne 5, 3) := by decide +kernel
theorem dX5_gainOf_4 : decode cX5_gainOf 4 = .ok (.iconst 0, 1) := by decide +kernel
theorem dX5_gainOf_5 : decode cX5_gainOf 5 = .ok (.ireturn, 1) := by decide +kernel
theorem dX5_gainOf_6 : decode cX5_gainOf 6 = .ok (.iload_n 2, 1) := by decide +kernel
theorem dX5_gainOf_7 : decode cX5_gainOf 7 = .ok (.invokestatic 204, 3) := by decide +kernel
theorem dX5_gainOf_10 : decode cX5_gainOf 10 = .ok (.istore_n 3, 1) := by decide +kernel
theorem dX5_gainOf_11 : decode cX5_gainOf 11 = .ok (.iload_n 3, 1) := by decide +kernel
theorem dX5_gainOf_12 : decode cX5_gainOf 12 = .ok (.ifCond .eq 13, 3) := by decide +kernel
theorem dX5_gainOf_15 : decode cX5_gainOf 15 = .ok (.iload_n 2, 1) := by decide +kernel
theorem dX5_gainOf_16 : decode cX5_gainOf 16 = .ok (.iload_n 0, 1) := by decide +kernel
theorem dX5_gainOf_17 : decode cX5_gainOf 17 = .ok (.iconst 1, 1) := by decide +kernel
theorem dX5_gainOf_18 : decode cX5_gainOf 18 = .ok (.isub, 1) := by decide +kernel
theorem dX5_gainOf_19 : decode cX5_gainOf 19 = .ok (.ishr, 1) := by decide +kernel
theorem dX5_gainOf_20 : decode cX5_gainOf 20 = .ok (.iconst 1, 1) := by decide +kernel
theorem dX5_gainOf_21 : decode cX5_gainOf 21 = .ok (.iand, 1) := by decide +kernel
theorem dX5_gainOf_22 : decode cX5_gainOf 22 = .ok (.ifCond .ne 6, 3) := by decide +kernel
theorem dX5_gainOf_25 : decode cX5_gainOf 25 = .ok (.bipush (-2), 2) := by decide +kernel
theorem dX5_gainOf_27 : decode cX5_gainOf 27 = .ok (.ireturn, 1) := by decide +kernel
theorem dX5_gainOf_28 : decode cX5_gainOf 28 = .ok (.bipush 12, 2) := by decide +kernel
theorem dX5_gainOf_30 : decode cX5_gainOf 30 = .ok (.iload_n 3, 1) := by decide +kernel
theorem dX5_gainOf_31 : decode cX5_gainOf 31 = .ok (.idiv, 1) := by decide +kernel
theorem dX5_gainOf_32 : decode cX5_gainOf 32 = .ok (.istore 4, 2) := by decide +kernel
theorem dX5_gainOf_34 : decode cX5_gainOf 34 = .ok (.iload_n 0, 1) := by decide +kernel
theorem dX5_gainOf_35 : decode cX5_gainOf 35 = .ok (.iload_n 1, 1) := by decide +kernel
theorem dX5_gainOf_36 : decode cX5_gainOf 36 = .ok (.if_icmp .ne 10, 3) := by decide +kernel
theorem dX5_gainOf_39 : decode cX5_gainOf 39 = .ok (.iload 4, 2) := by decide +kernel
theorem dX5_gainOf_41 : decode cX5_gainOf 41 = .ok (.iconst 2, 1) := by decide +kernel
theorem dX5_gainOf_42 : decode cX5_gainOf 42 = .ok (.idiv, 1) := by decide +kernel
theorem dX5_gainOf_43 : decode cX5_gainOf 43 = .ok (.goto 5, 3) := by decide +kernel
theorem dX5_gainOf_46 : decode cX5_gainOf 46 = .ok (.iload 4, 2) := by decide +kernel
theorem dX5_gainOf_48 : decode cX5_gainOf 48 = .ok (.iconst 2, 1) := by decide +kernel
theorem dX5_gainOf_49 : decode cX5_gainOf 49 = .ok (.isub, 1) := by decide +kernel
theorem dX5_gainOf_50 : decode cX5_gainOf 50 = .ok (.ireturn, 1) := by decide +kernel
set_option maxRecDepth 20000 in
theorem ggX5_lost_X1_hasCasket : GoodIn wsX5_lost wsX1_hasCasket := goodIn_r _ [8, 9, 69, 70, 71, 72, 73] (by decide +kernel) (by decide +kernel)
set_option maxRecDepth 20000 in
theorem gX5_lost_X1_hasCasket : GoodIn wsX5_lost (wsV RX5 90 RX1 yX1_hasCasket wsX1_hasCasket) := goodIn_app (goodIn_of _ (by decide +kernel)) ggX5_lost_X1_hasCasket
set_option maxRecDepth 20000 in
theorem ggX5_lost_X4_fittingBy : GoodIn wsX5_lost wsX4_fittingBy := goodIn_r _ [14, 15, 16, 17, 18, 19, 2, 20, 21, 22, 23, 24, 25, 26, 27, 28, 29, 30, 31, 32, 33, 34, 35, 74, 75, 76, 77, 78, 79, 69, 70, 71, 72, 73] (by decide +kernel) (by decide +kernel)
set_option maxRecDepth 20000 in
theorem gX5_lost_X4_fittingBy : GoodIn wsX5_lost (wsV RX5 231 RX4 yX4_fittingBy wsX4_fittingBy) := goodIn_app (goodIn_of _ (by decide +kernel)) ggX5_lost_X4_fittingBy
set_option maxRecDepth 20000 in
theorem ggX5_lost_J6_bitCount_0f7a4 : GoodIn wsX5_lost wsJ6_bitCount_0f7a4 := goodIn_r _ [39, 40, 41, 42] (by decide +kernel) (by decide +kernel)
set_option maxRecDepth 20000 in
theorem gX5_lost_J6_bitCount_0f7a4 : GoodIn wsX5_lost (va_wsS RX5 204 yJ6_bitCount_0f7a4 wsJ6_bitCount_0f7a4) := goodIn_app (goodIn_of _ (by decide +kernel)) ggX5_lost_J6_bitCount_0f7a4
set_option maxRecDepth 20000 in
theorem ggX5_lost_X5_power : GoodIn wsX5_lost wsX5_power := goodIn_r _ [45] (by decide +kernel) (by decide +kernel)
set_option maxRecDepth 20000 in
theorem gX5_lost_X5_power : GoodIn wsX5_lost (va_wsS RX5 215 yX5_power wsX5_power) := goodIn_app (goodIn_of _ (by decide +kernel)) ggX5_lost_X5_power
set_option maxRecDepth 20000 in
theorem ggX5_lost_X5_partOf : GoodIn wsX5_lost wsX5_partOf := goodIn_r _ [48, 49, 50, 51, 52, 53, 54, 55, 56, 57, 17, 58] (by decide +kernel) (by decide +kernel)
set_option maxRecDepth 20000 in
theorem gX5_lost_X5_partOf : GoodIn wsX5_lost (va_wsS RX5 211 yX5_partOf wsX5_partOf) := goodIn_app (goodIn_of _ (by decide +kernel)) ggX5_lost_X5_partOf
theorem dX5_lost_0 : decode cX5_lost 0 = .ok (.aload_n 0, 1) := by decide +kernel
theorem dX5_lost_1 : decode cX5_lost 1 = .ok (.getfield 23, 3) := by decide +kernel
theorem dX5_lost_4 : decode cX5_lost 4 = .ok (.iload_n 1, 1) := by decide +kernel
theorem dX5_lost_5 : decode cX5_lost 5 = .ok (.invokevirtual 90, 3) := by decide +kernel
theorem dX5_lost_8 : decode cX5_lost 8 = .ok (.ifCond .ne 5, 3) := by decide +kernel
theorem dX5_lost_11 : decode cX5_lost 11 = .ok (.iconst (-1), 1) := by decide +kernel
theorem dX5_lost_12 : decode cX5_lost 12 = .ok (.ireturn, 1) := by decide +kernel
theorem dX5_lost_13 : decode cX5_lost 13 = .ok (.iload_n 2, 1) := by decide +kernel
theorem dX5_lost_14 : decode cX5_lost 14 = .ok (.ifCond .lt 9, 3) := by decide +kernel
theorem dX5_lost_17 : decode cX5_lost 17 = .ok (.iload_n 2, 1) := by decide +kernel
theorem dX5_lost_18 : decode cX5_lost 18 = .ok (.bipush 10, 2) := by decide +kernel
theorem dX5_lost_20 : decode cX5_lost 20 = .ok (.if_icmp .le 6, 3) := by decide +kernel
theorem dX5_lost_23 : decode cX5_lost 23 = .ok (.bipush (-2), 2) := by decide +kernel
theorem dX5_lost_25 : decode cX5_lost 25 = .ok (.ireturn, 1) := by decide +kernel
theorem dX5_lost_26 : decode cX5_lost 26 = .ok (.iconst 0, 1) := by decide +kernel
theorem dX5_lost_27 : decode cX5_lost 27 = .ok (.istore 4, 2) := by decide +kernel
theorem dX5_lost_29 : decode cX5_lost 29 = .ok (.iconst 0, 1) := by decide +kernel
theorem dX5_lost_30 : decode cX5_lost 30 = .ok (.istore 5, 2) := by decide +kernel
theorem dX5_lost_32 : decode cX5_lost 32 = .ok (.iload 5, 2) := by decide +kernel
theorem dX5_lost_34 : decode cX5_lost 34 = .ok (.iconst 1, 1) := by decide +kernel
theorem dX5_lost_35 : decode cX5_lost 35 = .ok (.aload_n 0, 1) := by decide +kernel
theorem dX5_lost_36 : decode cX5_lost 36 = .ok (.getfield 23, 3) := by decide +kernel
theorem dX5_lost_39 : decode cX5_lost 39 = .ok (.getfield 84, 3) := by decide +kernel
theorem dX5_lost_42 : decode cX5_lost 42 = .ok (.ishl, 1) := by decide +kernel
theorem dX5_lost_43 : decode cX5_lost 43 = .ok (.if_icmp .ge 71, 3) := by decide +kernel
theorem dX5_lost_46 : decode cX5_lost 46 = .ok (.iload 5, 2) := by decide +kernel
theorem dX5_lost_48 : decode cX5_lost 48 = .ok (.bipush 15, 2) := by decide +kernel
theorem dX5_lost_50 : decode cX5_lost 50 = .ok (.if_icmp .gt 64, 3) := by decide +kernel
theorem dX5_lost_53 : decode cX5_lost 53 = .ok (.aload_n 0, 1) := by decide +kernel
theorem dX5_lost_54 : decode cX5_lost 54 = .ok (.getfield 30, 3) := by decide +kernel
theorem dX5_lost_57 : decode cX5_lost 57 = .ok (.aload_n 0, 1) := by decide +kernel
theorem dX5_lost_58 : decode cX5_lost 58 = .ok (.getfield 23, 3) := by decide +kernel
theorem dX5_lost_61 : decode cX5_lost 61 = .ok (.iload 5, 2) := by decide +kernel
theorem dX5_lost_63 : decode cX5_lost 63 = .ok (.invokevirtual 231, 3) := by decide +kernel
theorem dX5_lost_66 : decode cX5_lost 66 = .ok (.iconst 1, 1) := by decide +kernel
theorem dX5_lost_67 : decode cX5_lost 67 = .ok (.iload_n 1, 1) := by decide +kernel
theorem dX5_lost_68 : decode cX5_lost 68 = .ok (.ishl, 1) := by decide +kernel
theorem dX5_lost_69 : decode cX5_lost 69 = .ok (.if_icmp .ne 39, 3) := by decide +kernel
theorem dX5_lost_72 : decode cX5_lost 72 = .ok (.iload 5, 2) := by decide +kernel
theorem dX5_lost_74 : decode cX5_lost 74 = .ok (.invokestatic 204, 3) := by decide +kernel
theorem dX5_lost_77 : decode cX5_lost 77 = .ok (.istore 6, 2) := by decide +kernel
theorem dX5_lost_79 : decode cX5_lost 79 = .ok (.iload 4, 2) := by decide +kernel
theorem dX5_lost_81 : decode cX5_lost 81 = .ok (.bipush 10, 2) := by decide +kernel
theorem dX5_lost_83 : decode cX5_lost 83 = .ok (.iload_n 2, 1) := by decide +kernel
theorem dX5_lost_84 : decode cX5_lost 84 = .ok (.isub, 1) := by decide +kernel
theorem dX5_lost_85 : decode cX5_lost 85 = .ok (.iload 6, 2) := by decide +kernel
theorem dX5_lost_87 : decode cX5_lost 87 = .ok (.invokestatic 215, 3) := by decide +kernel
theorem dX5_lost_90 : decode cX5_lost 90 = .ok (.iload_n 2, 1) := by decide +kernel
theorem dX5_lost_91 : decode cX5_lost 91 = .ok (.aload_n 0, 1) := by decide +kernel
theorem dX5_lost_92 : decode cX5_lost 92 = .ok (.getfield 23, 3) := by decide +kernel
theorem dX5_lost_95 : decode cX5_lost 95 = .ok (.getfield 84, 3) := by decide +kernel
theorem dX5_lost_98 : decode cX5_lost 98 = .ok (.iload 6, 2) := by decide +kernel
theorem dX5_lost_100 : decode cX5_lost 100 = .ok (.isub, 1) := by decide +kernel
theorem dX5_lost_101 : decode cX5_lost 101 = .ok (.invokestatic 215, 3) := by decide +kernel
theorem dX5_lost_104 : decode cX5_lost 104 = .ok (.imul, 1) := by decide +kernel
theorem dX5_lost_105 : decode cX5_lost 105 = .ok (.iadd, 1) := by decide +kernel
theorem dX5_lost_106 : decode cX5_lost 106 = .ok (.istore 4, 2) := by decide +kernel
theorem dX5_lost_108 : decode cX5_lost 108 = .ok (.iinc 5 1, 3) := by decide +kernel
theorem dX5_lost_111 : decode cX5_lost 111 = .ok (.goto (-79), 3) := by decide +kernel
theorem dX5_lost_114 : decode cX5_lost 114 = .ok (.iload 4, 2) := by decide +kernel
theorem dX5_lost_116 : decode cX5_lost 116 = .ok (.bipush 10, 2) := by decide +kernel
theorem dX5_lost_118 : decode cX5_lost 118 = .ok (.aload_n 0, 1) := by decide +kernel
theorem dX5_lost_119 : decode cX5_lost 119 = .ok (.getfield 23, 3) := by decide +kernel
theorem dX5_lost_122 : decode cX5_lost 122 = .ok (.getfield 84, 3) := by decide +kernel
theorem dX5_lost_125 : decode cX5_lost 125 = .ok (.invokestatic 215, 3) := by decide +kernel
theorem dX5_lost_128 : decode cX5_lost 128 = .ok (.iload_n 3, 1) := by decide +kernel
theorem dX5_lost_129 : decode cX5_lost 129 = .ok (.invokestatic 211, 3) := by decide +kernel
theorem dX5_lost_132 : decode cX5_lost 132 = .ok (.ireturn, 1) := by decide +kernel
theorem dX5_seed_0 : decode cX5_seed 0 = .ok (.aload_n 0, 1) := by decide +kernel
theorem dX5_seed_1 : decode cX5_seed 1 = .ok (.getfield 242, 3) := by decide +kernel
theorem dX5_seed_4 : decode cX5_seed 4 = .ok (.lstore_n 3, 1) := by decide +kernel
theorem dX5_seed_5 : decode cX5_seed 5 = .ok (.aload_n 0, 1) := by decide +kernel
theorem dX5_seed_6 : decode cX5_seed 6 = .ok (.lload_n 1, 1) := by decide +kernel
theorem dX5_seed_7 : decode cX5_seed 7 = .ok (.putfield 242, 3) := by decide +kernel
theorem dX5_seed_10 : decode cX5_seed 10 = .ok (.lload_n 3, 1) := by decide +kernel
theorem dX5_seed_11 : decode cX5_seed 11 = .ok (.lreturn, 1) := by decide +kernel
set_option maxRecDepth 20000 in
theorem ggX5_houses_X4_copyFrom : GoodIn wsX5_houses wsX4_copyFrom := goodIn_r _ [13, 14, 15, 16, 17, 18, 19, 20, 21, 22, 73, 74, 75, 76, 77, 78] (by decide +kernel) (by decide +kernel)
set_option maxRecDepth 20000 in
theorem gX5_houses_X4_copyFrom : GoodIn wsX5_houses (wsV RX5 74 RX4 yX4_copyFrom wsX4_copyFrom) := goodIn_app (goodIn_of _ (by decide +kernel)) ggX5_houses_X4_copyFrom
set_option maxRecDepth 20000 in
theorem ggX5_houses_X1_hasCasket : GoodIn wsX5_houses wsX1_hasCasket := goodIn_r _ [27, 28, 79, 80, 81, 82, 83] (by decide +kernel) (by decide +kernel)
set_option maxRecDepth 20000 in
theorem gX5_houses_X1_hasCasket : GoodIn wsX5_houses (wsV RX5 90 RX1 yX1_hasCasket wsX1_hasCasket) := goodIn_app (goodIn_of _ (by decide +kernel)) ggX5_houses_X1_hasCasket
set_option maxRecDepth 20000 in
theorem ggX5_houses_X5_put : GoodIn wsX5_houses wsX5_put := goodIn_r _ [31] (by decide +kernel) (by decide +kernel)
set_option maxRecDepth 20000 in
theorem gX5_houses_X5_put : GoodIn wsX5_houses (va_wsS RX5 58 yX5_put wsX5_put) := goodIn_app (goodIn_of _ (by decide +kernel)) ggX5_houses_X5_put
set_option maxRecDepth 20000 in
theorem ggX5_houses_X4_fitting : GoodIn wsX5_houses wsX4_fitting := goodIn_r _ [35, 14, 36, 21, 37, 38, 39, 40, 41, 42, 43, 44, 45, 46, 47, 48, 49, 50, 51, 52, 53, 54, 55, 73, 74, 75, 76, 77, 78, 79, 80, 81, 82, 83] (by decide +kernel) (by decide +kernel)
set_option maxRecDepth 20000 in
theorem gX5_houses_X4_fitting : GoodIn wsX5_houses (wsV RX5 106 RX4 yX4_fitting wsX4_fitting) := goodIn_app (goodIn_of _ (by decide +kernel)) ggX5_houses_X4_fitting
set_option maxRecDepth 20000 in
theorem ggX5_houses_J6_bitCount_0f7a4 : GoodIn wsX5_houses wsJ6_bitCount_0f7a4 := goodIn_r _ [59, 60, 61, 62] (by decide +kernel) (by decide +kernel)
set_option maxRecDepth 20000 in
theorem gX5_houses_J6_bitCount_0f7a4 : GoodIn wsX5_houses (va_wsS RX5 204 yJ6_bitCount_0f7a4 wsJ6_bitCount_0f7a4) := goodIn_app (goodIn_of _ (by decide +kernel)) ggX5_houses_J6_bitCount_0f7a4
theorem dX5_houses_0 : decode cX5_houses 0 = .ok (.iload_n 1, 1) := by decide +kernel
theorem dX5_houses_1 : decode cX5_houses 1 = .ok (.iconst 1, 1) := by decide +kernel
theorem dX5_houses_2 : decode cX5_houses 2 = .ok (.if_icmp .lt 9, 3) := by decide +kernel
theorem dX5_houses_5 : decode cX5_houses 5 = .ok (.iload_n 1, 1) := by decide +kernel
theorem dX5_houses_6 : decode cX5_houses 6 = .ok (.bipush 20, 2) := by decide +kernel
theorem dX5_houses_8 : decode cX5_houses 8 = .ok (.if_icmp .le 6, 3) := by decide +kernel
theorem dX5_houses_11 : decode cX5_houses 11 = .ok (.bipush (-2), 2) := by decide +kernel
theorem dX5_houses_13 : decode cX5_houses 13 = .ok (.ireturn, 1) := by decide +kernel
theorem dX5_houses_14 : decode cX5_houses 14 = .ok (.aload_n 0, 1) := by decide +kernel
theorem dX5_houses_15 : decode cX5_houses 15 = .ok (.getfield 34, 3) := by decide +kernel
theorem dX5_houses_18 : decode cX5_houses 18 = .ok (.aload_n 0, 1) := by decide +kernel
theorem dX5_houses_19 : decode cX5_houses 19 = .ok (.getfield 30, 3) := by decide +kernel
theorem dX5_houses_22 : decode cX5_houses 22 = .ok (.invokevirtual 74, 3) := by decide +kernel
theorem dX5_houses_25 : decode cX5_houses 25 = .ok (.iconst 0, 1) := by decide +kernel
theorem dX5_houses_26 : decode cX5_houses 26 = .ok (.istore_n 2, 1) := by decide +kernel
theorem dX5_houses_27 : decode cX5_houses 27 = .ok (.iconst 0, 1) := by decide +kernel
theorem dX5_houses_28 : decode cX5_houses 28 = .ok (.istore_n 3, 1) := by decide +kernel
theorem dX5_houses_29 : decode cX5_houses 29 = .ok (.iload_n 3, 1) := by decide +kernel
theorem dX5_houses_30 : decode cX5_houses 30 = .ok (.iload_n 1, 1) := by decide +kernel
theorem dX5_houses_31 : decode cX5_houses 31 = .ok (.if_icmp .ge 92, 3) := by decide +kernel
theorem dX5_houses_34 : decode cX5_houses 34 = .ok (.aload_n 0, 1) := by decide +kernel
theorem dX5_houses_35 : decode cX5_houses 35 = .ok (.aload_n 0, 1) := by decide +kernel
theorem dX5_houses_36 : decode cX5_houses 36 = .ok (.getfield 242, 3) := by decide +kernel
theorem dX5_houses_39 : decode cX5_houses 39 = .ok (.ldc2_w 246, 3) := by decide +kernel
theorem dX5_houses_42 : decode cX5_houses 42 = .ok (.lmul, 1) := by decide +kernel
theorem dX5_houses_43 : decode cX5_houses 43 = .ok (.ldc2_w 248, 3) := by decide +kernel
theorem dX5_houses_46 : decode cX5_houses 46 = .ok (.ladd, 1) := by decide +kernel
theorem dX5_houses_47 : decode cX5_houses 47 = .ok (.putfield 242, 3) := by decide +kernel
theorem dX5_houses_50 : decode cX5_houses 50 = .ok (.aload_n 0, 1) := by decide +kernel
theorem dX5_houses_51 : decode cX5_houses 51 = .ok (.getfield 242, 3) := by decide +kernel
theorem dX5_houses_54 : decode cX5_houses 54 = .ok (.bipush 33, 2) := by decide +kernel
theorem dX5_houses_56 : decode cX5_houses 56 = .ok (.lushr, 1) := by decide +kernel
theorem dX5_houses_57 : decode cX5_houses 57 = .ok (.ldc2_w 250, 3) := by decide +kernel
theorem dX5_houses_60 : decode cX5_houses 60 = .ok (.lrem, 1) := by decide +kernel
theorem dX5_houses_61 : decode cX5_houses 61 = .ok (.l2i, 1) := by decide +kernel
theorem dX5_houses_62 : decode cX5_houses 62 = .ok (.istore 4, 2) := by decide +kernel
theorem dX5_houses_64 : decode cX5_houses 64 = .ok (.iload 4, 2) := by decide +kernel
theorem dX5_houses_66 : decode cX5_houses 66 = .ok (.bipush 24, 2) := by decide +kernel
theorem dX5_houses_68 : decode cX5_houses 68 = .ok (.idiv, 1) := by decide +kernel
theorem dX5_houses_69 : decode cX5_houses 69 = .ok (.istore 5, 2) := by decide +kernel
theorem dX5_houses_71 : decode cX5_houses 71 = .ok (.aload_n 0, 1) := by decide +kernel
theorem dX5_houses_72 : decode cX5_houses 72 = .ok (.getfield 23, 3) := by decide +kernel
theorem dX5_houses_75 : decode cX5_houses 75 = .ok (.iload 5, 2) := by decide +kernel
theorem dX5_houses_77 : decode cX5_houses 77 = .ok (.invokevirtual 90, 3) := by decide +kernel
theorem dX5_houses_80 : decode cX5_houses 80 = .ok (.ifCond .eq 20, 3) := by decide +kernel
theorem dX5_houses_83 : decode cX5_houses 83 = .ok (.aload_n 0, 1) := by decide +kernel
theorem dX5_houses_84 : decode cX5_houses 84 = .ok (.getfield 34, 3) := by decide +kernel
theorem dX5_houses_87 : decode cX5_houses 87 = .ok (.getfield 100, 3) := by decide +kernel
theorem dX5_houses_90 : decode cX5_houses 90 = .ok (.iload 5, 2) := by decide +kernel
theorem dX5_houses_92 : decode cX5_houses 92 = .ok (.iload 4, 2) := by decide +kernel
theorem dX5_houses_94 : decode cX5_houses 94 = .ok (.bipush 24, 2) := by decide +kernel
theorem dX5_houses_96 : decode cX5_houses 96 = .ok (.irem, 1) := by decide +kernel
theorem dX5_houses_97 : decode cX5_houses 97 = .ok (.invokestatic 58, 3) := by decide +kernel
theorem dX5_houses_100 : decode cX5_houses 100 = .ok (.iload_n 2, 1) := by decide +kernel
theorem dX5_houses_101 : decode cX5_houses 101 = .ok (.aload_n 0, 1) := by decide +kernel
theorem dX5_houses_102 : decode cX5_houses 102 = .ok (.getfield 34, 3) := by decide +kernel
theorem dX5_houses_105 : decode cX5_houses 105 = .ok (.aload_n 0, 1) := by decide +kernel
theorem dX5_houses_106 : decode cX5_houses 106 = .ok (.getfield 23, 3) := by decide +kernel
theorem dX5_houses_109 : decode cX5_houses 109 = .ok (.invokevirtual 106, 3) := by decide +kernel
theorem dX5_houses_112 : decode cX5_houses 112 = .ok (.invokestatic 204, 3) := by decide +kernel
theorem dX5_houses_115 : decode cX5_houses 115 = .ok (.iadd, 1) := by decide +kernel
theorem dX5_houses_116 : decode cX5_houses 116 = .ok (.istore_n 2, 1) := by decide +kernel
theorem dX5_houses_117 : decode cX5_houses 117 = .ok (.iinc 3 1, 3) := by decide +kernel
theorem dX5_houses_120 : decode cX5_houses 120 = .ok (.goto (-91), 3) := by decide +kernel
theorem dX5_houses_123 : decode cX5_houses 123 = .ok (.iload_n 2, 1) := by decide +kernel
theorem dX5_houses_124 : decode cX5_houses 124 = .ok (.ireturn, 1) := by decide +kernel
set_option maxRecDepth 20000 in
theorem ggX5_keep_X5_slotOf : GoodIn wsX5_keep wsX5_slotOf := goodIn_r _ [9, 10, 11, 27, 28, 29, 30, 31, 32, 33, 34, 35, 36] (by decide +kernel) (by decide +kernel)
set_option maxRecDepth 20000 in
theorem gX5_keep_X5_slotOf : GoodIn wsX5_keep (wsV RX5 252 RX5 yX5_slotOf wsX5_slotOf) := goodIn_app (goodIn_of _ (by decide +kernel)) ggX5_keep_X5_slotOf
set_option maxRecDepth 20000 in
theorem ggX5_keep_X4_copyFrom : GoodIn wsX5_keep wsX4_copyFrom := goodIn_r _ [16, 17, 18, 19, 20, 21, 22, 23, 8, 24, 37, 38, 39, 40, 41, 42] (by decide +kernel) (by decide +kernel)
set_option maxRecDepth 20000 in
theorem gX5_keep_X4_copyFrom : GoodIn wsX5_keep (wsV RX5 74 RX4 yX4_copyFrom wsX4_copyFrom) := goodIn_app (goodIn_of _ (by decide +kernel)) ggX5_keep_X4_copyFrom
theorem dX5_keep_0 : decode cX5_keep 0 = .ok (.aload_n 0, 1) := by decide +kernel
theorem dX5_keep_1 : decode cX5_keep 1 = .ok (.iload_n 1, 1) := by decide +kernel
theorem dX5_keep_2 : decode cX5_keep 2 = .ok (.invokevirtual 252, 3) := by decide +kernel
theorem dX5_keep_5 : decode cX5_keep 5 = .ok (.astore_n 2, 1) := by decide +kernel
theorem dX5_keep_6 : decode cX5_keep 6 = .ok (.aload_n 2, 1) := by decide +kernel
theorem dX5_keep_7 : decode cX5_keep 7 = .ok (.ifnonnull 5, 3) := by decide +kernel
theorem dX5_keep_10 : decode cX5_keep 10 = .ok (.iconst (-1), 1) := by decide +kernel
theorem dX5_keep_11 : decode cX5_keep 11 = .ok (.ireturn, 1) := by decide +kernel
theorem dX5_keep_12 : decode cX5_keep 12 = .ok (.aload_n 2, 1) := by decide +kernel
theorem dX5_keep_13 : decode cX5_keep 13 = .ok (.getfield 256, 3) := by decide +kernel
theorem dX5_keep_16 : decode cX5_keep 16 = .ok (.aload_n 0, 1) := by decide +kernel
theorem dX5_keep_17 : decode cX5_keep 17 = .ok (.getfield 30, 3) := by decide +kernel
theorem dX5_keep_20 : decode cX5_keep 20 = .ok (.invokevirtual 74, 3) := by decide +kernel
theorem dX5_keep_23 : decode cX5_keep 23 = .ok (.aload_n 2, 1) := by decide +kernel
theorem dX5_keep_24 : decode cX5_keep 24 = .ok (.iconst 1, 1) := by decide +kernel
theorem dX5_keep_25 : decode cX5_keep 25 = .ok (.putfield 80, 3) := by decide +kernel
theorem dX5_keep_28 : decode cX5_keep 28 = .ok (.aload_n 0, 1) := by decide +kernel
theorem dX5_keep_29 : decode cX5_keep 29 = .ok (.getfield 30, 3) := by decide +kernel
theorem dX5_keep_32 : decode cX5_keep 32 = .ok (.getfield 134, 3) := by decide +kernel
theorem dX5_keep_35 : decode cX5_keep 35 = .ok (.ireturn, 1) := by decide +kernel
set_option maxRecDepth 20000 in
theorem ggX5_again_X5_slotOf : GoodIn wsX5_again wsX5_slotOf := goodIn_r _ [11, 12, 13, 29, 30, 31, 32, 33, 34, 35, 36, 37, 38] (by decide +kernel) (by decide +kernel)
set_option maxRecDepth 20000 in
theorem gX5_again_X5_slotOf : GoodIn wsX5_again (wsV RX5 252 RX5 yX5_slotOf wsX5_slotOf) := goodIn_app (goodIn_of _ (by decide +kernel)) ggX5_again_X5_slotOf
set_option maxRecDepth 20000 in
theorem ggX5_again_X4_copyFrom : GoodIn wsX5_again wsX4_copyFrom := goodIn_r _ [18, 19, 20, 21, 22, 23, 24, 25, 10, 26, 43, 44, 45, 46, 47, 48] (by decide +kernel) (by decide +kernel)
set_option maxRecDepth 20000 in
theorem gX5_again_X4_copyFrom : GoodIn wsX5_again (wsV RX5 74 RX4 yX4_copyFrom wsX4_copyFrom) := goodIn_app (goodIn_of _ (by decide +kernel)) ggX5_again_X4_copyFrom
theorem dX5_again_0 : decode cX5_again 0 = .ok (.aload_n 0, 1) := by decide +kernel
theorem dX5_again_1 : decode cX5_again 1 = .ok (.iload_n 1, 1) := by decide +kernel
theorem dX5_again_2 : decode cX5_again 2 = .ok (.invokevirtual 252, 3) := by decide +kernel
theorem dX5_again_5 : decode cX5_again 5 = .ok (.astore_n 2, 1) := by decide +kernel
theorem dX5_again_6 : decode cX5_again 6 = .ok (.aload_n 2, 1) := by decide +kernel
theorem dX5_again_7 : decode cX5_again 7 = .ok (.ifnonnull 5, 3) := by decide +kernel
theorem dX5_again_10 : decode cX5_again 10 = .ok (.iconst (-1), 1) := by decide +kernel
theorem dX5_again_11 : decode cX5_again 11 = .ok (.ireturn, 1) := by decide +kernel
theorem dX5_again_12 : decode cX5_again 12 = .ok (.aload_n 2, 1) := by decide +kernel
theorem dX5_again_13 : decode cX5_again 13 = .ok (.getfield 80, 3) := by decide +kernel
theorem dX5_again_16 : decode cX5_again 16 = .ok (.ifCond .ne 6, 3) := by decide +kernel
theorem dX5_again_19 : decode cX5_again 19 = .ok (.bipush (-3), 2) := by decide +kernel
theorem dX5_again_21 : decode cX5_again 21 = .ok (.ireturn, 1) := by decide +kernel
theorem dX5_again_22 : decode cX5_again 22 = .ok (.aload_n 0, 1) := by decide +kernel
theorem dX5_again_23 : decode cX5_again 23 = .ok (.getfield 30, 3) := by decide +kernel
theorem dX5_again_26 : decode cX5_again 26 = .ok (.aload_n 2, 1) := by decide +kernel
theorem dX5_again_27 : decode cX5_again 27 = .ok (.getfield 256, 3) := by decide +kernel
theorem dX5_again_30 : decode cX5_again 30 = .ok (.invokevirtual 74, 3) := by decide +kernel
theorem dX5_again_33 : decode cX5_again 33 = .ok (.aload_n 0, 1) := by decide +kernel
theorem dX5_again_34 : decode cX5_again 34 = .ok (.getfield 40, 3) := by decide +kernel
theorem dX5_again_37 : decode cX5_again 37 = .ok (.iconst 0, 1) := by decide +kernel
theorem dX5_again_38 : decode cX5_again 38 = .ok (.putfield 77, 3) := by decide +kernel
theorem dX5_again_41 : decode cX5_again 41 = .ok (.aload_n 0, 1) := by decide +kernel
theorem dX5_again_42 : decode cX5_again 42 = .ok (.getfield 30, 3) := by decide +kernel
theorem dX5_again_45 : decode cX5_again 45 = .ok (.getfield 134, 3) := by decide +kernel
theorem dX5_again_48 : decode cX5_again 48 = .ok (.ireturn, 1) := by decide +kernel
set_option maxRecDepth 20000 in
theorem ggX5_count_X4_fitting : GoodIn wsX5_count wsX4_fitting := goodIn_r _ [16, 17, 18, 19, 20, 21, 3, 5, 22, 23, 24, 25, 26, 27, 28, 29, 30, 31, 32, 33, 34, 35, 36, 63, 64, 65, 66, 67, 68, 58, 59, 60, 61, 62] (by decide +kernel) (by decide +kernel)
set_option maxRecDepth 20000 in
theorem gX5_count_X4_fitting : GoodIn wsX5_count (wsV RX5 106 RX4 yX4_fitting wsX4_fitting) := goodIn_app (goodIn_of _ (by decide +kernel)) ggX5_count_X4_fitting
set_option maxRecDepth 20000 in
theorem ggX5_count_X4_readings : GoodIn wsX5_count wsX4_readings := goodIn_r _ [40, 17, 18, 19, 20, 21, 3, 5, 22, 23, 24, 25, 26, 27, 28, 29, 30, 31, 32, 33, 34, 63, 64, 65, 66, 67, 68, 58, 59, 60, 61, 62] (by decide +kernel) (by decide +kernel)
set_option maxRecDepth 20000 in
theorem gX5_count_X4_readings : GoodIn wsX5_count (wsV RX5 110 RX4 yX4_readings wsX4_readings) := goodIn_app (goodIn_of _ (by decide +kernel)) ggX5_count_X4_readings
set_option maxRecDepth 20000 in
theorem ggX5_count_J13_bitCount_95d88 : GoodIn wsX5_count wsJ13_bitCount_95d88 := goodIn_r _ [44, 45, 46, 47] (by decide +kernel) (by decide +kernel)
set_option maxRecDepth 20000 in
theorem gX5_count_J13_bitCount_95d88 : GoodIn wsX5_count (va_wsS RX5 118 yJ13_bitCount_95d88 wsJ13_bitCount_95d88) := goodIn_app (goodIn_of _ (by decide +kernel)) ggX5_count_J13_bitCount_95d88
theorem dX5_count_0 : decode cX5_count 0 = .ok (.iload_n 1, 1) := by decide +kernel
theorem dX5_count_1 : decode cX5_count 1 = .ok (.tableswitch 151 0 9 #[55, 60, 68, 76, 84, 92, 104, 119, 127, 143], 55) := by decide +kernel
theorem dX5_count_56 : decode cX5_count 56 = .ok (.aload_n 0, 1) := by decide +kernel
theorem dX5_count_57 : decode cX5_count 57 = .ok (.getfield 54, 3) := by decide +kernel
theorem dX5_count_60 : decode cX5_count 60 = .ok (.ireturn, 1) := by decide +kernel
theorem dX5_count_61 : decode cX5_count 61 = .ok (.aload_n 0, 1) := by decide +kernel
theorem dX5_count_62 : decode cX5_count 62 = .ok (.getfield 23, 3) := by decide +kernel
theorem dX5_count_65 : decode cX5_count 65 = .ok (.getfield 84, 3) := by decide +kernel
theorem dX5_count_68 : decode cX5_count 68 = .ok (.ireturn, 1) := by decide +kernel
theorem dX5_count_69 : decode cX5_count 69 = .ok (.aload_n 0, 1) := by decide +kernel
theorem dX5_count_70 : decode cX5_count 70 = .ok (.getfield 23, 3) := by decide +kernel
theorem dX5_count_73 : decode cX5_count 73 = .ok (.getfield 87, 3) := by decide +kernel
theorem dX5_count_76 : decode cX5_count 76 = .ok (.ireturn, 1) := by decide +kernel
theorem dX5_count_77 : decode cX5_count 77 = .ok (.aload_n 0, 1) := by decide +kernel
theorem dX5_count_78 : decode cX5_count 78 = .ok (.getfield 23, 3) := by decide +kernel
theorem dX5_count_81 : decode cX5_count 81 = .ok (.getfield 257, 3) := by decide +kernel
theorem dX5_count_84 : decode cX5_count 84 = .ok (.ireturn, 1) := by decide +kernel
theorem dX5_count_85 : decode cX5_count 85 = .ok (.aload_n 0, 1) := by decide +kernel
theorem dX5_count_86 : decode cX5_count 86 = .ok (.getfield 30, 3) := by decide +kernel
theorem dX5_count_89 : decode cX5_count 89 = .ok (.getfield 155, 3) := by decide +kernel
theorem dX5_count_92 : decode cX5_count 92 = .ok (.ireturn, 1) := by decide +kernel
theorem dX5_count_93 : decode cX5_count 93 = .ok (.aload_n 0, 1) := by decide +kernel
theorem dX5_count_94 : decode cX5_count 94 = .ok (.getfield 30, 3) := by decide +kernel
theorem dX5_count_97 : decode cX5_count 97 = .ok (.aload_n 0, 1) := by decide +kernel
theorem dX5_count_98 : decode cX5_count 98 = .ok (.getfield 23, 3) := by decide +kernel
theorem dX5_count_101 : decode cX5_count 101 = .ok (.invokevirtual 106, 3) := by decide +kernel
theorem dX5_count_104 : decode cX5_count 104 = .ok (.ireturn, 1) := by decide +kernel
theorem dX5_count_105 : decode cX5_count 105 = .ok (.aload_n 0, 1) := by decide +kernel
theorem dX5_count_106 : decode cX5_count 106 = .ok (.getfield 30, 3) := by decide +kernel
theorem dX5_count_109 : decode cX5_count 109 = .ok (.aload_n 0, 1) := by decide +kernel
theorem dX5_count_110 : decode cX5_count 110 = .ok (.getfield 23, 3) := by decide +kernel
theorem dX5_count_113 : decode cX5_count 113 = .ok (.invokevirtual 110, 3) := by decide +kernel
theorem dX5_count_116 : decode cX5_count 116 = .ok (.invokestatic 118, 3) := by decide +kernel
theorem dX5_count_119 : decode cX5_count 119 = .ok (.ireturn, 1) := by decide +kernel
theorem dX5_count_120 : decode cX5_count 120 = .ok (.aload_n 0, 1) := by decide +kernel
theorem dX5_count_121 : decode cX5_count 121 = .ok (.getfield 30, 3) := by decide +kernel
theorem dX5_count_124 : decode cX5_count 124 = .ok (.getfield 134, 3) := by decide +kernel
theorem dX5_count_127 : decode cX5_count 127 = .ok (.ireturn, 1) := by decide +kernel
theorem dX5_count_128 : decode cX5_count 128 = .ok (.aload_n 0, 1) := by decide +kernel
theorem dX5_count_129 : decode cX5_count 129 = .ok (.getfield 30, 3) := by decide +kernel
theorem dX5_count_132 : decode cX5_count 132 = .ok (.getfield 260, 3) := by decide +kernel
theorem dX5_count_135 : decode cX5_count 135 = .ok (.ifCond .eq 7, 3) := by decide +kernel
theorem dX5_count_138 : decode cX5_count 138 = .ok (.iconst 1, 1) := by decide +kernel
theorem dX5_count_139 : decode cX5_count 139 = .ok (.goto 4, 3) := by decide +kernel
theorem dX5_count_142 : decode cX5_count 142 = .ok (.iconst 0, 1) := by decide +kernel
theorem dX5_count_143 : decode cX5_count 143 = .ok (.ireturn, 1) := by decide +kernel
theorem dX5_count_144 : decode cX5_count 144 = .ok (.aload_n 0, 1) := by decide +kernel
theorem dX5_count_145 : decode cX5_count 145 = .ok (.getfield 40, 3) := by decide +kernel
theorem dX5_count_148 : decode cX5_count 148 = .ok (.getfield 77, 3) := by decide +kernel
theorem dX5_count_151 : decode cX5_count 151 = .ok (.ireturn, 1) := by decide +kernel
theorem dX5_count_152 : decode cX5_count 152 = .ok (.bipush (-2), 2) := by decide +kernel
theorem dX5_count_154 : decode cX5_count 154 = .ok (.ireturn, 1) := by decide +kernel
theorem dX5_slotOf_0 : decode cX5_slotOf 0 = .ok (.iload_n 1, 1) := by decide +kernel
theorem dX5_slotOf_1 : decode cX5_slotOf 1 = .ok (.ifCond .ne 8, 3) := by decide +kernel
theorem dX5_slotOf_4 : decode cX5_slotOf 4 = .ok (.aload_n 0, 1) := by decide +kernel
theorem dX5_slotOf_5 : decode cX5_slotOf 5 = .ok (.getfield 47, 3) := by decide +kernel
theorem dX5_slotOf_8 : decode cX5_slotOf 8 = .ok (.areturn, 1) := by decide +kernel
theorem dX5_slotOf_9 : decode cX5_slotOf 9 = .ok (.iload_n 1, 1) := by decide +kernel
theorem dX5_slotOf_10 : decode cX5_slotOf 10 = .ok (.iconst 1, 1) := by decide +kernel
theorem dX5_slotOf_11 : decode cX5_slotOf 11 = .ok (.if_icmp .ne 10, 3) := by decide +kernel
theorem dX5_slotOf_14 : decode cX5_slotOf 14 = .ok (.aload_n 0, 1) := by decide +kernel
theorem dX5_slotOf_15 : decode cX5_slotOf 15 = .ok (.getfield 51, 3) := by decide +kernel
theorem dX5_slotOf_18 : decode cX5_slotOf 18 = .ok (.goto 4, 3) := by decide +kernel
theorem dX5_slotOf_21 : decode cX5_slotOf 21 = .ok (.aconst_null, 1) := by decide +kernel
theorem dX5_slotOf_22 : decode cX5_slotOf 22 = .ok (.areturn, 1) := by decide +kernel
theorem dX5_worldsWith_0 : decode cX5_worldsWith 0 = .ok (.iload_n 0, 1) := by decide +kernel
theorem dX5_worldsWith_1 : decode cX5_worldsWith 1 = .ok (.ifCond .lt 8, 3) := by decide +kernel
theorem dX5_worldsWith_4 : decode cX5_worldsWith 4 = .ok (.iload_n 0, 1) := by decide +kernel
theorem dX5_worldsWith_5 : decode cX5_worldsWith 5 = .ok (.iconst 4, 1) := by decide +kernel
theorem dX5_worldsWith_6 : decode cX5_worldsWith 6 = .ok (.if_icmp .lt 7, 3) := by decide +kernel
theorem dX5_worldsWith_9 : decode cX5_worldsWith 9 = .ok (.lconst 0, 1) := by decide +kernel
theorem dX5_worldsWith_10 : decode cX5_worldsWith 10 = .ok (.goto 11, 3) := by decide +kernel
theorem dX5_worldsWith_13 : decode cX5_worldsWith 13 = .ok (.ldc2_w 263, 3) := by decide +kernel
theorem dX5_worldsWith_16 : decode cX5_worldsWith 16 = .ok (.bipush 16, 2) := by decide +kernel
theorem dX5_worldsWith_18 : decode cX5_worldsWith 18 = .ok (.iload_n 0, 1) := by decide +kernel
theorem dX5_worldsWith_19 : decode cX5_worldsWith 19 = .ok (.imul, 1) := by decide +kernel
theorem dX5_worldsWith_20 : decode cX5_worldsWith 20 = .ok (.lshl, 1) := by decide +kernel
theorem dX5_worldsWith_21 : decode cX5_worldsWith 21 = .ok (.lreturn, 1) := by decide +kernel
set_option maxRecDepth 20000 in
theorem ggX5_agreeing_X5_worldsWith : GoodIn wsX5_agreeing wsX5_worldsWith := goodIn_r _ [6, 7] (by decide +kernel) (by decide +kernel)
set_option maxRecDepth 20000 in
theorem gX5_agreeing_X5_worldsWith : GoodIn wsX5_agreeing (va_wsS RX5 114 yX5_worldsWith wsX5_worldsWith) := goodIn_app (goodIn_of _ (by decide +kernel)) ggX5_agreeing_X5_worldsWith
set_option maxRecDepth 20000 in
theorem ggX5_agreeing_X5_maskAt : GoodIn wsX5_agreeing wsX5_maskAt := goodIn_r _ [10] (by decide +kernel) (by decide +kernel)
set_option maxRecDepth 20000 in
theorem gX5_agreeing_X5_maskAt : GoodIn wsX5_agreeing (va_wsS RX5 177 yX5_maskAt wsX5_maskAt) := goodIn_app (goodIn_of _ (by decide +kernel)) ggX5_agreeing_X5_maskAt
theorem dX5_agreeing_0 : decode cX5_agreeing 0 = .ok (.iload_n 1, 1) := by decide +kernel
theorem dX5_agreeing_1 : decode cX5_agreeing 1 = .ok (.iconst 4, 1) := by decide +kernel
theorem dX5_agreeing_2 : decode cX5_agreeing 2 = .ok (.idiv, 1) := by decide +kernel
theorem dX5_agreeing_3 : decode cX5_agreeing 3 = .ok (.istore_n 2, 1) := by decide +kernel
theorem dX5_agreeing_4 : decode cX5_agreeing 4 = .ok (.iload_n 1, 1) := by decide +kernel
theorem dX5_agreeing_5 : decode cX5_agreeing 5 = .ok (.iconst 4, 1) := by decide +kernel
theorem dX5_agreeing_6 : decode cX5_agreeing 6 = .ok (.irem, 1) := by decide +kernel
theorem dX5_agreeing_7 : decode cX5_agreeing 7 = .ok (.istore_n 3, 1) := by decide +kernel
theorem dX5_agreeing_8 : decode cX5_agreeing 8 = .ok (.iload_n 2, 1) := by decide +kernel
theorem dX5_agreeing_9 : decode cX5_agreeing 9 = .ok (.iconst 2, 1) := by decide +kernel
theorem dX5_agreeing_10 : decode cX5_agreeing 10 = .ok (.if_icmp .ge 12, 3) := by decide +kernel
theorem dX5_agreeing_13 : decode cX5_agreeing 13 = .ok (.iload_n 0, 1) := by decide +kernel
theorem dX5_agreeing_14 : decode cX5_agreeing 14 = .ok (.invokestatic 114, 3) := by decide +kernel
theorem dX5_agreeing_17 : decode cX5_agreeing 17 = .ok (.lstore 4, 2) := by decide +kernel
theorem dX5_agreeing_19 : decode cX5_agreeing 19 = .ok (.goto 24, 3) := by decide +kernel
theorem dX5_agreeing_22 : decode cX5_agreeing 22 = .ok (.iload_n 2, 1) := by decide +kernel
theorem dX5_agreeing_23 : decode cX5_agreeing 23 = .ok (.iconst 4, 1) := by decide +kernel
theorem dX5_agreeing_24 : decode cX5_agreeing 24 = .ok (.if_icmp .ge 10, 3) := by decide +kernel
theorem dX5_agreeing_27 : decode cX5_agreeing 27 = .ok (.iload_n 3, 1) := by decide +kernel
theorem dX5_agreeing_28 : decode cX5_agreeing 28 = .ok (.invokestatic 114, 3) := by decide +kernel
theorem dX5_agreeing_31 : decode cX5_agreeing 31 = .ok (.goto 10, 3) := by decide +kernel
theorem dX5_agreeing_34 : decode cX5_agreeing 34 = .ok (.getstatic 173, 3) := by decide +kernel
theorem dX5_agreeing_37 : decode cX5_agreeing 37 = .ok (.iload_n 3, 1) := by decide +kernel
theorem dX5_agreeing_38 : decode cX5_agreeing 38 = .ok (.invokestatic 177, 3) := by decide +kernel
theorem dX5_agreeing_41 : decode cX5_agreeing 41 = .ok (.lstore 4, 2) := by decide +kernel
theorem dX5_agreeing_43 : decode cX5_agreeing 43 = .ok (.iload_n 2, 1) := by decide +kernel
theorem dX5_agreeing_44 : decode cX5_agreeing 44 = .ok (.iconst 2, 1) := by decide +kernel
theorem dX5_agreeing_45 : decode cX5_agreeing 45 = .ok (.irem, 1) := by decide +kernel
theorem dX5_agreeing_46 : decode cX5_agreeing 46 = .ok (.ifCond .ne 8, 3) := by decide +kernel
theorem dX5_agreeing_49 : decode cX5_agreeing 49 = .ok (.lload 4, 2) := by decide +kernel
theorem dX5_agreeing_51 : decode cX5_agreeing 51 = .ok (.goto 9, 3) := by decide +kernel
theorem dX5_agreeing_54 : decode cX5_agreeing 54 = .ok (.lload 4, 2) := by decide +kernel
theorem dX5_agreeing_56 : decode cX5_agreeing 56 = .ok (.ldc2_w 184, 3) := by decide +kernel
theorem dX5_agreeing_59 : decode cX5_agreeing 59 = .ok (.lxor, 1) := by decide +kernel
theorem dX5_agreeing_60 : decode cX5_agreeing 60 = .ok (.lstore 6, 2) := by decide +kernel
theorem dX5_agreeing_62 : decode cX5_agreeing 62 = .ok (.lload 6, 2) := by decide +kernel
theorem dX5_agreeing_64 : decode cX5_agreeing 64 = .ok (.getstatic 173, 3) := by decide +kernel
theorem dX5_agreeing_67 : decode cX5_agreeing 67 = .ok (.iload_n 0, 1) := by decide +kernel
theorem dX5_agreeing_68 : decode cX5_agreeing 68 = .ok (.invokestatic 177, 3) := by decide +kernel
theorem dX5_agreeing_71 : decode cX5_agreeing 71 = .ok (.lxor, 1) := by decide +kernel
theorem dX5_agreeing_72 : decode cX5_agreeing 72 = .ok (.ldc2_w 184, 3) := by decide +kernel
theorem dX5_agreeing_75 : decode cX5_agreeing 75 = .ok (.lxor, 1) := by decide +kernel
theorem dX5_agreeing_76 : decode cX5_agreeing 76 = .ok (.lreturn, 1) := by decide +kernel
set_option maxRecDepth 20000 in
theorem ggX5_readingsOf_X5_maskAt : GoodIn wsX5_readingsOf wsX5_maskAt := goodIn_r _ [8] (by decide +kernel) (by decide +kernel)
set_option maxRecDepth 20000 in
theorem gX5_readingsOf_X5_maskAt : GoodIn wsX5_readingsOf (va_wsS RX5 177 yX5_maskAt wsX5_maskAt) := goodIn_app (goodIn_of _ (by decide +kernel)) ggX5_readingsOf_X5_maskAt
set_option maxRecDepth 20000 in
theorem ggX5_readingsOf_X5_agreeing : GoodIn wsX5_readingsOf wsX5_agreeing := goodIn_r _ [11, 12, 13, 14, 15, 7, 16, 17, 5, 6, 8] (by decide +kernel) (by decide +kernel)
set_option maxRecDepth 20000 in
theorem gX5_readingsOf_X5_agreeing : GoodIn wsX5_readingsOf (va_wsS RX5 193 yX5_agreeing wsX5_agreeing) := goodIn_app (goodIn_of _ (by decide +kernel)) ggX5_readingsOf_X5_agreeing
theorem dX5_readingsOf_0 : decode cX5_readingsOf 0 = .ok (.getstatic 265, 3) := by decide +kernel
theorem dX5_readingsOf_3 : decode cX5_readingsOf 3 = .ok (.aload_n 0, 1) := by decide +kernel
theorem dX5_readingsOf_4 : decode cX5_readingsOf 4 = .ok (.getfield 84, 3) := by decide +kernel
theorem dX5_readingsOf_7 : decode cX5_readingsOf 7 = .ok (.invokestatic 177, 3) := by decide +kernel
theorem dX5_readingsOf_10 : decode cX5_readingsOf 10 = .ok (.lstore_n 3, 1) := by decide +kernel
theorem dX5_readingsOf_11 : decode cX5_readingsOf 11 = .ok (.aload_n 0, 1) := by decide +kernel
theorem dX5_readingsOf_12 : decode cX5_readingsOf 12 = .ok (.getfield 257, 3) := by decide +kernel
theorem dX5_readingsOf_15 : decode cX5_readingsOf 15 = .ok (.bipush 9, 2) := by decide +kernel
theorem dX5_readingsOf_17 : decode cX5_readingsOf 17 = .ok (.if_icmp .eq 16, 3) := by decide +kernel
theorem dX5_readingsOf_20 : decode cX5_readingsOf 20 = .ok (.lload_n 3, 1) := by decide +kernel
theorem dX5_readingsOf_21 : decode cX5_readingsOf 21 = .ok (.getstatic 268, 3) := by decide +kernel
theorem dX5_readingsOf_24 : decode cX5_readingsOf 24 = .ok (.aload_n 0, 1) := by decide +kernel
theorem dX5_readingsOf_25 : decode cX5_readingsOf 25 = .ok (.getfield 257, 3) := by decide +kernel
theorem dX5_readingsOf_28 : decode cX5_readingsOf 28 = .ok (.invokestatic 177, 3) := by decide +kernel
theorem dX5_readingsOf_31 : decode cX5_readingsOf 31 = .ok (.land, 1) := by decide +kernel
theorem dX5_readingsOf_32 : decode cX5_readingsOf 32 = .ok (.lstore_n 3, 1) := by decide +kernel
theorem dX5_readingsOf_33 : decode cX5_readingsOf 33 = .ok (.iconst 0, 1) := by decide +kernel
theorem dX5_readingsOf_34 : decode cX5_readingsOf 34 = .ok (.istore 5, 2) := by decide +kernel
theorem dX5_readingsOf_36 : decode cX5_readingsOf 36 = .ok (.iload 5, 2) := by decide +kernel
theorem dX5_readingsOf_38 : decode cX5_readingsOf 38 = .ok (.aload_n 1, 1) := by decide +kernel
theorem dX5_readingsOf_39 : decode cX5_readingsOf 39 = .ok (.arraylength, 1) := by decide +kernel
theorem dX5_readingsOf_40 : decode cX5_readingsOf 40 = .ok (.if_icmp .ge 40, 3) := by decide +kernel
theorem dX5_readingsOf_43 : decode cX5_readingsOf 43 = .ok (.iload 5, 2) := by decide +kernel
theorem dX5_readingsOf_45 : decode cX5_readingsOf 45 = .ok (.aload_n 0, 1) := by decide +kernel
theorem dX5_readingsOf_46 : decode cX5_readingsOf 46 = .ok (.getfield 84, 3) := by decide +kernel
theorem dX5_readingsOf_49 : decode cX5_readingsOf 49 = .ok (.if_icmp .ge 31, 3) := by decide +kernel
theorem dX5_readingsOf_52 : decode cX5_readingsOf 52 = .ok (.iload_n 2, 1) := by decide +kernel
theorem dX5_readingsOf_53 : decode cX5_readingsOf 53 = .ok (.iload 5, 2) := by decide +kernel
theorem dX5_readingsOf_55 : decode cX5_readingsOf 55 = .ok (.ishr, 1) := by decide +kernel
theorem dX5_readingsOf_56 : decode cX5_readingsOf 56 = .ok (.iconst 1, 1) := by decide +kernel
theorem dX5_readingsOf_57 : decode cX5_readingsOf 57 = .ok (.iand, 1) := by decide +kernel
theorem dX5_readingsOf_58 : decode cX5_readingsOf 58 = .ok (.iconst 1, 1) := by decide +kernel
theorem dX5_readingsOf_59 : decode cX5_readingsOf 59 = .ok (.if_icmp .ne 15, 3) := by decide +kernel
theorem dX5_readingsOf_62 : decode cX5_readingsOf 62 = .ok (.lload_n 3, 1) := by decide +kernel
theorem dX5_readingsOf_63 : decode cX5_readingsOf 63 = .ok (.iload 5, 2) := by decide +kernel
theorem dX5_readingsOf_65 : decode cX5_readingsOf 65 = .ok (.aload_n 1, 1) := by decide +kernel
theorem dX5_readingsOf_66 : decode cX5_readingsOf 66 = .ok (.iload 5, 2) := by decide +kernel
theorem dX5_readingsOf_68 : decode cX5_readingsOf 68 = .ok (.iaload, 1) := by decide +kernel
theorem dX5_readingsOf_69 : decode cX5_readingsOf 69 = .ok (.invokestatic 193, 3) := by decide +kernel
theorem dX5_readingsOf_72 : decode cX5_readingsOf 72 = .ok (.land, 1) := by decide +kernel
theorem dX5_readingsOf_73 : decode cX5_readingsOf 73 = .ok (.lstore_n 3, 1) := by decide +kernel
theorem dX5_readingsOf_74 : decode cX5_readingsOf 74 = .ok (.iinc 5 1, 3) := by decide +kernel
theorem dX5_readingsOf_77 : decode cX5_readingsOf 77 = .ok (.goto (-41), 3) := by decide +kernel
theorem dX5_readingsOf_80 : decode cX5_readingsOf 80 = .ok (.lload_n 3, 1) := by decide +kernel
theorem dX5_readingsOf_81 : decode cX5_readingsOf 81 = .ok (.lreturn, 1) := by decide +kernel
set_option maxRecDepth 20000 in
theorem ggX5_fitsOf_X5_worldsWith : GoodIn wsX5_fitsOf wsX5_worldsWith := goodIn_r _ [4, 5] (by decide +kernel) (by decide +kernel)
set_option maxRecDepth 20000 in
theorem gX5_fitsOf_X5_worldsWith : GoodIn wsX5_fitsOf (va_wsS RX5 114 yX5_worldsWith wsX5_worldsWith) := goodIn_app (goodIn_of _ (by decide +kernel)) ggX5_fitsOf_X5_worldsWith
theorem dX5_fitsOf_0 : decode cX5_fitsOf 0 = .ok (.iconst 0, 1) := by decide +kernel
theorem dX5_fitsOf_1 : decode cX5_fitsOf 1 = .ok (.istore_n 2, 1) := by decide +kernel
theorem dX5_fitsOf_2 : decode cX5_fitsOf 2 = .ok (.iconst 0, 1) := by decide +kernel
theorem dX5_fitsOf_3 : decode cX5_fitsOf 3 = .ok (.istore_n 3, 1) := by decide +kernel
theorem dX5_fitsOf_4 : decode cX5_fitsOf 4 = .ok (.iload_n 3, 1) := by decide +kernel
theorem dX5_fitsOf_5 : decode cX5_fitsOf 5 = .ok (.iconst 4, 1) := by decide +kernel
theorem dX5_fitsOf_6 : decode cX5_fitsOf 6 = .ok (.if_icmp .ge 26, 3) := by decide +kernel
theorem dX5_fitsOf_9 : decode cX5_fitsOf 9 = .ok (.lload_n 0, 1) := by decide +kernel
theorem dX5_fitsOf_10 : decode cX5_fitsOf 10 = .ok (.iload_n 3, 1) := by decide +kernel
theorem dX5_fitsOf_11 : decode cX5_fitsOf 11 = .ok (.invokestatic 114, 3) := by decide +kernel
theorem dX5_fitsOf_14 : decode cX5_fitsOf 14 = .ok (.land, 1) := by decide +kernel
theorem dX5_fitsOf_15 : decode cX5_fitsOf 15 = .ok (.lconst 0, 1) := by decide +kernel
theorem dX5_fitsOf_16 : decode cX5_fitsOf 16 = .ok (.lcmp, 1) := by decide +kernel
theorem dX5_fitsOf_17 : decode cX5_fitsOf 17 = .ok (.ifCond .eq 9, 3) := by decide +kernel
theorem dX5_fitsOf_20 : decode cX5_fitsOf 20 = .ok (.iload_n 2, 1) := by decide +kernel
theorem dX5_fitsOf_21 : decode cX5_fitsOf 21 = .ok (.iconst 1, 1) := by decide +kernel
theorem dX5_fitsOf_22 : decode cX5_fitsOf 22 = .ok (.iload_n 3, 1) := by decide +kernel
theorem dX5_fitsOf_23 : decode cX5_fitsOf 23 = .ok (.ishl, 1) := by decide +kernel
theorem dX5_fitsOf_24 : decode cX5_fitsOf 24 = .ok (.ior, 1) := by decide +kernel
theorem dX5_fitsOf_25 : decode cX5_fitsOf 25 = .ok (.istore_n 2, 1) := by decide +kernel
theorem dX5_fitsOf_26 : decode cX5_fitsOf 26 = .ok (.iinc 3 1, 3) := by decide +kernel
theorem dX5_fitsOf_29 : decode cX5_fitsOf 29 = .ok (.goto (-25), 3) := by decide +kernel
theorem dX5_fitsOf_32 : decode cX5_fitsOf 32 = .ok (.iload_n 2, 1) := by decide +kernel
theorem dX5_fitsOf_33 : decode cX5_fitsOf 33 = .ok (.ireturn, 1) := by decide +kernel
theorem dX5_figuresOf_0 : decode cX5_figuresOf 0 = .ok (.bipush 10, 2) := by decide +kernel
theorem dX5_figuresOf_2 : decode cX5_figuresOf 2 = .ok (.iload_n 0, 1) := by decide +kernel
theorem dX5_figuresOf_3 : decode cX5_figuresOf 3 = .ok (.iconst 4, 1) := by decide +kernel
theorem dX5_figuresOf_4 : decode cX5_figuresOf 4 = .ok (.idiv, 1) := by decide +kernel
theorem dX5_figuresOf_5 : decode cX5_figuresOf 5 = .ok (.imul, 1) := by decide +kernel
theorem dX5_figuresOf_6 : decode cX5_figuresOf 6 = .ok (.iload_n 0, 1) := by decide +kernel
theorem dX5_figuresOf_7 : decode cX5_figuresOf 7 = .ok (.iconst 4, 1) := by decide +kernel
theorem dX5_figuresOf_8 : decode cX5_figuresOf 8 = .ok (.irem, 1) := by decide +kernel
theorem dX5_figuresOf_9 : decode cX5_figuresOf 9 = .ok (.iadd, 1) := by decide +kernel
theorem dX5_figuresOf_10 : decode cX5_figuresOf 10 = .ok (.ireturn, 1) := by decide +kernel
theorem dX5_power_0 : decode cX5_power 0 = .ok (.iconst 1, 1) := by decide +kernel
theorem dX5_power_1 : decode cX5_power 1 = .ok (.istore_n 2, 1) := by decide +kernel
theorem dX5_power_2 : decode cX5_power 2 = .ok (.iconst 0, 1) := by decide +kernel
theorem dX5_power_3 : decode cX5_power 3 = .ok (.istore_n 3, 1) := by decide +kernel
theorem dX5_power_4 : decode cX5_power 4 = .ok (.iload_n 3, 1) := by decide +kernel
theorem dX5_power_5 : decode cX5_power 5 = .ok (.iload_n 1, 1) := by decide +kernel
theorem dX5_power_6 : decode cX5_power 6 = .ok (.if_icmp .ge 13, 3) := by decide +kernel
theorem dX5_power_9 : decode cX5_power 9 = .ok (.iload_n 2, 1) := by decide +kernel
theorem dX5_power_10 : decode cX5_power 10 = .ok (.iload_n 0, 1) := by decide +kernel
theorem dX5_power_11 : decode cX5_power 11 = .ok (.imul, 1) := by decide +kernel
theorem dX5_power_12 : decode cX5_power 12 = .ok (.istore_n 2, 1) := by decide +kernel
theorem dX5_power_13 : decode cX5_power 13 = .ok (.iinc 3 1, 3) := by decide +kernel
theorem dX5_power_16 : decode cX5_power 16 = .ok (.goto (-12), 3) := by decide +kernel
theorem dX5_power_19 : decode cX5_power 19 = .ok (.iload_n 2, 1) := by decide +kernel
theorem dX5_power_20 : decode cX5_power 20 = .ok (.ireturn, 1) := by decide +kernel
set_option maxRecDepth 20000 in
theorem ggX5_partOf_X5_commonDivisor : GoodIn wsX5_partOf wsX5_commonDivisor := goodIn_r _ [11] (by decide +kernel) (by decide +kernel)
set_option maxRecDepth 20000 in
theorem gX5_partOf_X5_commonDivisor : GoodIn wsX5_partOf (va_wsS RX5 274 yX5_commonDivisor wsX5_commonDivisor) := goodIn_app (goodIn_of _ (by decide +kernel)) ggX5_partOf_X5_commonDivisor
theorem dX5_partOf_0 : decode cX5_partOf 0 = .ok (.iload_n 0, 1) := by decide +kernel
theorem dX5_partOf_1 : decode cX5_partOf 1 = .ok (.ifCond .eq 7, 3) := by decide +kernel
theorem dX5_partOf_4 : decode cX5_partOf 4 = .ok (.iload_n 1, 1) := by decide +kernel
theorem dX5_partOf_5 : decode cX5_partOf 5 = .ok (.ifCond .gt 13, 3) := by decide +kernel
theorem dX5_partOf_8 : decode cX5_partOf 8 = .ok (.iload_n 2, 1) := by decide +kernel
theorem dX5_partOf_9 : decode cX5_partOf 9 = .ok (.ifCond .eq 7, 3) := by decide +kernel
theorem dX5_partOf_12 : decode cX5_partOf 12 = .ok (.iconst 0, 1) := by decide +kernel
theorem dX5_partOf_13 : decode cX5_partOf 13 = .ok (.goto 4, 3) := by decide +kernel
theorem dX5_partOf_16 : decode cX5_partOf 16 = .ok (.iconst 1, 1) := by decide +kernel
theorem dX5_partOf_17 : decode cX5_partOf 17 = .ok (.ireturn, 1) := by decide +kernel
theorem dX5_partOf_18 : decode cX5_partOf 18 = .ok (.iconst 1, 1) := by decide +kernel
theorem dX5_partOf_19 : decode cX5_partOf 19 = .ok (.iload_n 0, 1) := by decide +kernel
theorem dX5_partOf_20 : decode cX5_partOf 20 = .ok (.invokestatic 271, 3) := by decide +kernel
theorem dX5_partOf_23 : decode cX5_partOf 23 = .ok (.iload_n 1, 1) := by decide +kernel
theorem dX5_partOf_24 : decode cX5_partOf 24 = .ok (.invokestatic 274, 3) := by decide +kernel
theorem dX5_partOf_27 : decode cX5_partOf 27 = .ok (.invokestatic 219, 3) := by decide +kernel
theorem dX5_partOf_30 : decode cX5_partOf 30 = .ok (.istore_n 3, 1) := by decide +kernel
theorem dX5_partOf_31 : decode cX5_partOf 31 = .ok (.iload_n 2, 1) := by decide +kernel
theorem dX5_partOf_32 : decode cX5_partOf 32 = .ok (.ifCond .eq 7, 3) := by decide +kernel
theorem dX5_partOf_35 : decode cX5_partOf 35 = .ok (.iload_n 0, 1) := by decide +kernel
theorem dX5_partOf_36 : decode cX5_partOf 36 = .ok (.goto 4, 3) := by decide +kernel
theorem dX5_partOf_39 : decode cX5_partOf 39 = .ok (.iload_n 1, 1) := by decide +kernel
theorem dX5_partOf_40 : decode cX5_partOf 40 = .ok (.iload_n 3, 1) := by decide +kernel
theorem dX5_partOf_41 : decode cX5_partOf 41 = .ok (.idiv, 1) := by decide +kernel
theorem dX5_partOf_42 : decode cX5_partOf 42 = .ok (.ireturn, 1) := by decide +kernel
theorem dX5_commonDivisor_0 : decode cX5_commonDivisor 0 = .ok (.iload_n 0, 1) := by decide +kernel
theorem dX5_commonDivisor_1 : decode cX5_commonDivisor 1 = .ok (.istore_n 2, 1) := by decide +kernel
theorem dX5_commonDivisor_2 : decode cX5_commonDivisor 2 = .ok (.iload_n 1, 1) := by decide +kernel
theorem dX5_commonDivisor_3 : decode cX5_commonDivisor 3 = .ok (.istore_n 3, 1) := by decide +kernel
theorem dX5_commonDivisor_4 : decode cX5_commonDivisor 4 = .ok (.iconst 0, 1) := by decide +kernel
theorem dX5_commonDivisor_5 : decode cX5_commonDivisor 5 = .ok (.istore 4, 2) := by decide +kernel
theorem dX5_commonDivisor_7 : decode cX5_commonDivisor 7 = .ok (.iload 4, 2) := by decide +kernel
theorem dX5_commonDivisor_9 : decode cX5_commonDivisor 9 = .ok (.bipush 64, 2) := by decide +kernel
theorem dX5_commonDivisor_11 : decode cX5_commonDivisor 11 = .ok (.if_icmp .ge 23, 3) := by decide +kernel
theorem dX5_commonDivisor_14 : decode cX5_commonDivisor 14 = .ok (.iload_n 3, 1) := by decide +kernel
theorem dX5_commonDivisor_15 : decode cX5_commonDivisor 15 = .ok (.ifCond .eq 19, 3) := by decide +kernel
theorem dX5_commonDivisor_18 : decode cX5_commonDivisor 18 = .ok (.iload_n 2, 1) := by decide +kernel
theorem dX5_commonDivisor_19 : decode cX5_commonDivisor 19 = .ok (.iload_n 3, 1) := by decide +kernel
theorem dX5_commonDivisor_20 : decode cX5_commonDivisor 20 = .ok (.irem, 1) := by decide +kernel
theorem dX5_commonDivisor_21 : decode cX5_commonDivisor 21 = .ok (.istore 5, 2) := by decide +kernel
theorem dX5_commonDivisor_23 : decode cX5_commonDivisor 23 = .ok (.iload_n 3, 1) := by decide +kernel
theorem dX5_commonDivisor_24 : decode cX5_commonDivisor 24 = .ok (.istore_n 2, 1) := by decide +kernel
theorem dX5_commonDivisor_25 : decode cX5_commonDivisor 25 = .ok (.iload 5, 2) := by decide +kernel
theorem dX5_commonDivisor_27 : decode cX5_commonDivisor 27 = .ok (.istore_n 3, 1) := by decide +kernel
theorem dX5_commonDivisor_28 : decode cX5_commonDivisor 28 = .ok (.iinc 4 1, 3) := by decide +kernel
theorem dX5_commonDivisor_31 : decode cX5_commonDivisor 31 = .ok (.goto (-24), 3) := by decide +kernel
theorem dX5_commonDivisor_34 : decode cX5_commonDivisor 34 = .ok (.iload_n 2, 1) := by decide +kernel
theorem dX5_commonDivisor_35 : decode cX5_commonDivisor 35 = .ok (.ireturn, 1) := by decide +kernel
theorem dX5_at_0 : decode cX5_at 0 = .ok (.iload_n 1, 1) := by decide +kernel
theorem dX5_at_1 : decode cX5_at 1 = .ok (.ifCond .lt 15, 3) := by decide +kernel
theorem dX5_at_4 : decode cX5_at 4 = .ok (.iload_n 1, 1) := by decide +kernel
theorem dX5_at_5 : decode cX5_at 5 = .ok (.aload_n 0, 1) := by decide +kernel
theorem dX5_at_6 : decode cX5_at 6 = .ok (.arraylength, 1) := by decide +kernel
theorem dX5_at_7 : decode cX5_at 7 = .ok (.if_icmp .ge 9, 3) := by decide +kernel
theorem dX5_at_10 : decode cX5_at 10 = .ok (.aload_n 0, 1) := by decide +kernel
theorem dX5_at_11 : decode cX5_at 11 = .ok (.iload_n 1, 1) := by decide +kernel
theorem dX5_at_12 : decode cX5_at 12 = .ok (.iaload, 1) := by decide +kernel
theorem dX5_at_13 : decode cX5_at 13 = .ok (.goto 4, 3) := by decide +kernel
theorem dX5_at_16 : decode cX5_at 16 = .ok (.iconst 0, 1) := by decide +kernel
theorem dX5_at_17 : decode cX5_at 17 = .ok (.ireturn, 1) := by decide +kernel
theorem dX5_maskAt_0 : decode cX5_maskAt 0 = .ok (.iload_n 1, 1) := by decide +kernel
theorem dX5_maskAt_1 : decode cX5_maskAt 1 = .ok (.ifCond .lt 15, 3) := by decide +kernel
theorem dX5_maskAt_4 : decode cX5_maskAt 4 = .ok (.iload_n 1, 1) := by decide +kernel
theorem dX5_maskAt_5 : decode cX5_maskAt 5 = .ok (.aload_n 0, 1) := by decide +kernel
theorem dX5_maskAt_6 : decode cX5_maskAt 6 = .ok (.arraylength, 1) := by decide +kernel
theorem dX5_maskAt_7 : decode cX5_maskAt 7 = .ok (.if_icmp .ge 9, 3) := by decide +kernel
theorem dX5_maskAt_10 : decode cX5_maskAt 10 = .ok (.aload_n 0, 1) := by decide +kernel
theorem dX5_maskAt_11 : decode cX5_maskAt 11 = .ok (.iload_n 1, 1) := by decide +kernel
theorem dX5_maskAt_12 : decode cX5_maskAt 12 = .ok (.laload, 1) := by decide +kernel
theorem dX5_maskAt_13 : decode cX5_maskAt 13 = .ok (.goto 4, 3) := by decide +kernel
theorem dX5_maskAt_16 : decode cX5_maskAt 16 = .ok (.lconst 0, 1) := by decide +kernel
theorem dX5_maskAt_17 : decode cX5_maskAt 17 = .ok (.lreturn, 1) := by decide +kernel
theorem dX5_put_0 : decode cX5_put 0 = .ok (.iload_n 1, 1) := by decide +kernel
theorem dX5_put_1 : decode cX5_put 1 = .ok (.ifCond .lt 13, 3) := by decide +kernel
theorem dX5_put_4 : decode cX5_put 4 = .ok (.iload_n 1, 1) := by decide +kernel
theorem dX5_put_5 : decode cX5_put 5 = .ok (.aload_n 0, 1) := by decide +kernel
theorem dX5_put_6 : decode cX5_put 6 = .ok (.arraylength, 1) := by decide +kernel
theorem dX5_put_7 : decode cX5_put 7 = .ok (.if_icmp .ge 7, 3) := by decide +kernel
theorem dX5_put_10 : decode cX5_put 10 = .ok (.aload_n 0, 1) := by decide +kernel
theorem dX5_put_11 : decode cX5_put 11 = .ok (.iload_n 1, 1) := by decide +kernel
theorem dX5_put_12 : decode cX5_put 12 = .ok (.iload_n 2, 1) := by decide +kernel
theorem dX5_put_13 : decode cX5_put 13 = .ok (.iastore, 1) := by decide +kernel
theorem dX5_put_14 : decode cX5_put 14 = .ok (.return_, 1) := by decide +kernel
theorem dX5_copyRow_0 : decode cX5_copyRow 0 = .ok (.iconst 0, 1) := by decide +kernel
theorem dX5_copyRow_1 : decode cX5_copyRow 1 = .ok (.istore_n 2, 1) := by decide +kernel
theorem dX5_copyRow_2 : decode cX5_copyRow 2 = .ok (.iload_n 2, 1) := by decide +kernel
theorem dX5_copyRow_3 : decode cX5_copyRow 3 = .ok (.aload_n 0, 1) := by decide +kernel
theorem dX5_copyRow_4 : decode cX5_copyRow 4 = .ok (.arraylength, 1) := by decide +kernel
theorem dX5_copyRow_5 : decode cX5_copyRow 5 = .ok (.if_icmp .ge 21, 3) := by decide +kernel
theorem dX5_copyRow_8 : decode cX5_copyRow 8 = .ok (.iload_n 2, 1) := by decide +kernel
theorem dX5_copyRow_9 : decode cX5_copyRow 9 = .ok (.aload_n 1, 1) := by decide +kernel
theorem dX5_copyRow_10 : decode cX5_copyRow 10 = .ok (.arraylength, 1) := by decide +kernel
theorem dX5_copyRow_11 : decode cX5_copyRow 11 = .ok (.if_icmp .ge 15, 3) := by decide +kernel
theorem dX5_copyRow_14 : decode cX5_copyRow 14 = .ok (.aload_n 1, 1) := by decide +kernel
theorem dX5_copyRow_15 : decode cX5_copyRow 15 = .ok (.iload_n 2, 1) := by decide +kernel
theorem dX5_copyRow_16 : decode cX5_copyRow 16 = .ok (.aload_n 0, 1) := by decide +kernel
theorem dX5_copyRow_17 : decode cX5_copyRow 17 = .ok (.iload_n 2, 1) := by decide +kernel
theorem dX5_copyRow_18 : decode cX5_copyRow 18 = .ok (.iaload, 1) := by decide +kernel
theorem dX5_copyRow_19 : decode cX5_copyRow 19 = .ok (.iastore, 1) := by decide +kernel
theorem dX5_copyRow_20 : decode cX5_copyRow 20 = .ok (.iinc 2 1, 3) := by decide +kernel
theorem dX5_copyRow_23 : decode cX5_copyRow 23 = .ok (.goto (-21), 3) := by decide +kernel
theorem dX5_copyRow_26 : decode cX5_copyRow 26 = .ok (.return_, 1) := by decide +kernel
theorem dX6_init_0 : decode cX6_init 0 = .ok (.aload_n 0, 1) := by decide +kernel
theorem dX6_init_1 : decode cX6_init 1 = .ok (.invokespecial 1, 3) := by decide +kernel
theorem dX6_init_4 : decode cX6_init 4 = .ok (.aload_n 0, 1) := by decide +kernel
theorem dX6_init_5 : decode cX6_init 5 = .ok (.iconst 4, 1) := by decide +kernel
theorem dX6_init_6 : decode cX6_init 6 = .ok (.newarray .int, 2) := by decide +kernel
theorem dX6_init_8 : decode cX6_init 8 = .ok (.putfield 7, 3) := by decide +kernel
theorem dX6_init_11 : decode cX6_init 11 = .ok (.aload_n 0, 1) := by decide +kernel
theorem dX6_init_12 : decode cX6_init 12 = .ok (.bipush 6, 2) := by decide +kernel
theorem dX6_init_14 : decode cX6_init 14 = .ok (.newarray .int, 2) := by decide +kernel
theorem dX6_init_16 : decode cX6_init 16 = .ok (.putfield 13, 3) := by decide +kernel
theorem dX6_init_19 : decode cX6_init 19 = .ok (.aload_n 0, 1) := by decide +kernel
theorem dX6_init_20 : decode cX6_init 20 = .ok (.bipush 36, 2) := by decide +kernel
theorem dX6_init_22 : decode cX6_init 22 = .ok (.newarray .int, 2) := by decide +kernel
theorem dX6_init_24 : decode cX6_init 24 = .ok (.putfield 16, 3) := by decide +kernel
theorem dX6_init_27 : decode cX6_init 27 = .ok (.aload_n 0, 1) := by decide +kernel
theorem dX6_init_28 : decode cX6_init 28 = .ok (.bipush 12, 2) := by decide +kernel
theorem dX6_init_30 : decode cX6_init 30 = .ok (.newarray .int, 2) := by decide +kernel
theorem dX6_init_32 : decode cX6_init 32 = .ok (.putfield 19, 3) := by decide +kernel
theorem dX6_init_35 : decode cX6_init 35 = .ok (.aload_n 0, 1) := by decide +kernel
theorem dX6_init_36 : decode cX6_init 36 = .ok (.bipush 6, 2) := by decide +kernel
theorem dX6_init_38 : decode cX6_init 38 = .ok (.newarray .int, 2) := by decide +kernel
theorem dX6_init_40 : decode cX6_init 40 = .ok (.putfield 22, 3) := by decide +kernel
theorem dX6_init_43 : decode cX6_init 43 = .ok (.aload_n 0, 1) := by decide +kernel
theorem dX6_init_44 : decode cX6_init 44 = .ok (.bipush 40, 2) := by decide +kernel
theorem dX6_init_46 : decode cX6_init 46 = .ok (.newarray .int, 2) := by decide +kernel
theorem dX6_init_48 : decode cX6_init 48 = .ok (.putfield 25, 3) := by decide +kernel
theorem dX6_init_51 : decode cX6_init 51 = .ok (.aload_n 0, 1) := by decide +kernel
theorem dX6_init_52 : decode cX6_init 52 = .ok (.sipush 252, 3) := by decide +kernel
theorem dX6_init_55 : decode cX6_init 55 = .ok (.newarray .int, 2) := by decide +kernel
theorem dX6_init_57 : decode cX6_init 57 = .ok (.putfield 28, 3) := by decide +kernel
theorem dX6_init_60 : decode cX6_init 60 = .ok (.aload_n 0, 1) := by decide +kernel
theorem dX6_init_61 : decode cX6_init 61 = .ok (.bipush 16, 2) := by decide +kernel
theorem dX6_init_63 : decode cX6_init 63 = .ok (.newarray .int, 2) := by decide +kernel
theorem dX6_init_65 : decode cX6_init 65 = .ok (.putfield 31, 3) := by decide +kernel
theorem dX6_init_68 : decode cX6_init 68 = .ok (.aload_n 0, 1) := by decide +kernel
theorem dX6_init_69 : decode cX6_init 69 = .ok (.iconst 2, 1) := by decide +kernel
theorem dX6_init_70 : decode cX6_init 70 = .ok (.newarray .boolean, 2) := by decide +kernel
theorem dX6_init_72 : decode cX6_init 72 = .ok (.putfield 34, 3) := by decide +kernel
theorem dX6_init_75 : decode cX6_init 75 = .ok (.aload_n 0, 1) := by decide +kernel
theorem dX6_init_76 : decode cX6_init 76 = .ok (.bipush 36, 2) := by decide +kernel
theorem dX6_init_78 : decode cX6_init 78 = .ok (.newarray .int, 2) := by decide +kernel
theorem dX6_init_80 : decode cX6_init 80 = .ok (.putfield 38, 3) := by decide +kernel
theorem dX6_init_83 : decode cX6_init 83 = .ok (.aload_n 0, 1) := by decide +kernel
theorem dX6_init_84 : decode cX6_init 84 = .ok (.bipush 9, 2) := by decide +kernel
theorem dX6_init_86 : decode cX6_init 86 = .ok (.putfield 41, 3) := by decide +kernel
theorem dX6_init_89 : decode cX6_init 89 = .ok (.aload_n 0, 1) := by decide +kernel
theorem dX6_init_90 : decode cX6_init 90 = .ok (.getfield 16, 3) := by decide +kernel
theorem dX6_init_93 : decode cX6_init 93 = .ok (.bipush 8, 2) := by decide +kernel
theorem dX6_init_95 : decode cX6_init 95 = .ok (.bipush (-9), 2) := by decide +kernel
theorem dX6_init_97 : decode cX6_init 97 = .ok (.iastore, 1) := by decide +kernel
theorem dX6_init_98 : decode cX6_init 98 = .ok (.return_, 1) := by decide +kernel
theorem dX6_in_0 : decode cX6_in 0 = .ok (.lload_n 0, 1) := by decide +kernel
theorem dX6_in_1 : decode cX6_in 1 = .ok (.lload_n 2, 1) := by decide +kernel
theorem dX6_in_2 : decode cX6_in 2 = .ok (.lcmp, 1) := by decide +kernel
theorem dX6_in_3 : decode cX6_in 3 = .ok (.ifCond .lt 14, 3) := by decide +kernel
theorem dX6_in_6 : decode cX6_in 6 = .ok (.lload_n 0, 1) := by decide +kernel
theorem dX6_in_7 : decode cX6_in 7 = .ok (.lload 4, 2) := by decide +kernel
theorem dX6_in_9 : decode cX6_in 9 = .ok (.lcmp, 1) := by decide +kernel
theorem dX6_in_10 : decode cX6_in 10 = .ok (.ifCond .gt 7, 3) := by decide +kernel
theorem dX6_in_13 : decode cX6_in 13 = .ok (.iconst 1, 1) := by decide +kernel
theorem dX6_in_14 : decode cX6_in 14 = .ok (.goto 4, 3) := by decide +kernel
theorem dX6_in_17 : decode cX6_in 17 = .ok (.iconst 0, 1) := by decide +kernel
theorem dX6_in_18 : decode cX6_in 18 = .ok (.ireturn, 1) := by decide +kernel
theorem dX6_has_0 : decode cX6_has 0 = .ok (.iload_n 0, 1) := by decide +kernel
theorem dX6_has_1 : decode cX6_has 1 = .ok (.iload_n 1, 1) := by decide +kernel
theorem dX6_has_2 : decode cX6_has 2 = .ok (.ishr, 1) := by decide +kernel
theorem dX6_has_3 : decode cX6_has 3 = .ok (.iconst 1, 1) := by decide +kernel
theorem dX6_has_4 : decode cX6_has 4 = .ok (.iand, 1) := by decide +kernel
theorem dX6_has_5 : decode cX6_has 5 = .ok (.iconst 1, 1) := by decide +kernel
theorem dX6_has_6 : decode cX6_has 6 = .ok (.if_icmp .ne 7, 3) := by decide +kernel
theorem dX6_has_9 : decode cX6_has 9 = .ok (.iconst 1, 1) := by decide +kernel
theorem dX6_has_10 : decode cX6_has 10 = .ok (.goto 4, 3) := by decide +kernel
theorem dX6_has_13 : decode cX6_has 13 = .ok (.iconst 0, 1) := by decide +kernel
theorem dX6_has_14 : decode cX6_has 14 = .ok (.ireturn, 1) := by decide +kernel
theorem dX6_ones_0 : decode cX6_ones 0 = .ok (.iconst 0, 1) := by decide +kernel
theorem dX6_ones_1 : decode cX6_ones 1 = .ok (.istore_n 1, 1) := by decide +kernel
theorem dX6_ones_2 : decode cX6_ones 2 = .ok (.iconst 0, 1) := by decide +kernel
theorem dX6_ones_3 : decode cX6_ones 3 = .ok (.istore_n 2, 1) := by decide +kernel
theorem dX6_ones_4 : decode cX6_ones 4 = .ok (.iload_n 2, 1) := by decide +kernel
theorem dX6_ones_5 : decode cX6_ones 5 = .ok (.iconst 4, 1) := by decide +kernel
theorem dX6_ones_6 : decode cX6_ones 6 = .ok (.if_icmp .ge 17, 3) := by decide +kernel
theorem dX6_ones_9 : decode cX6_ones 9 = .ok (.iload_n 1, 1) := by decide +kernel
theorem dX6_ones_10 : decode cX6_ones 10 = .ok (.iload_n 0, 1) := by decide +kernel
theorem dX6_ones_11 : decode cX6_ones 11 = .ok (.iload_n 2, 1) := by decide +kernel
theorem dX6_ones_12 : decode cX6_ones 12 = .ok (.ishr, 1) := by decide +kernel
theorem dX6_ones_13 : decode cX6_ones 13 = .ok (.iconst 1, 1) := by decide +kernel
theorem dX6_ones_14 : decode cX6_ones 14 = .ok (.iand, 1) := by decide +kernel
theorem dX6_ones_15 : decode cX6_ones 15 = .ok (.iadd, 1) := by decide +kernel
theorem dX6_ones_16 : decode cX6_ones 16 = .ok (.istore_n 1, 1) := by decide +kernel
theorem dX6_ones_17 : decode cX6_ones 17 = .ok (.iinc 2 1, 3) := by decide +kernel
theorem dX6_ones_20 : decode cX6_ones 20 = .ok (.goto (-16), 3) := by decide +kernel
theorem dX6_ones_23 : decode cX6_ones 23 = .ok (.iload_n 1, 1) := by decide +kernel
theorem dX6_ones_24 : decode cX6_ones 24 = .ok (.ireturn, 1) := by decide +kernel
set_option maxRecDepth 20000 in
theorem ggX6_write_X6_in : GoodIn wsX6_write wsX6_in := goodIn_r _ [7] (by decide +kernel) (by decide +kernel)
set_option maxRecDepth 20000 in
theorem gX6_write_X6_in : GoodIn wsX6_write (va_wsS RX6 47 yX6_in wsX6_in) := goodIn_app (goodIn_of _ (by decide +kernel)) ggX6_write_X6_in
theorem dX6_write_0 : decode cX6_write 0 = .ok (.iload_n 1, 1) := by decide +kernel
theorem dX6_write_1 : decode cX6_write 1 = .ok (.i2l, 1) := by decide +kernel
theorem dX6_write_2 : decode cX6_write 2 = .ok (.lconst 0, 1) := by decide +kernel
theorem dX6_write_3 : decode cX6_write 3 = .ok (.ldc2_w 45, 3) := by decide +kernel
theorem dX6_write_6 : decode cX6_write 6 = .ok (.invokestatic 47, 3) := by decide +kernel
theorem dX6_write_9 : decode cX6_write 9 = .ok (.ifCond .ne 6, 3) := by decide +kernel
theorem dX6_write_12 : decode cX6_write 12 = .ok (.bipush (-2), 2) := by decide +kernel
theorem dX6_write_14 : decode cX6_write 14 = .ok (.ireturn, 1) := by decide +kernel
theorem dX6_write_15 : decode cX6_write 15 = .ok (.aload_n 0, 1) := by decide +kernel
theorem dX6_write_16 : decode cX6_write 16 = .ok (.getfield 51, 3) := by decide +kernel
theorem dX6_write_19 : decode cX6_write 19 = .ok (.bipush 40, 2) := by decide +kernel
theorem dX6_write_21 : decode cX6_write 21 = .ok (.if_icmp .ne 6, 3) := by decide +kernel
theorem dX6_write_24 : decode cX6_write 24 = .ok (.bipush (-4), 2) := by decide +kernel
theorem dX6_write_26 : decode cX6_write 26 = .ok (.ireturn, 1) := by decide +kernel
theorem dX6_write_27 : decode cX6_write 27 = .ok (.aload_n 0, 1) := by decide +kernel
theorem dX6_write_28 : decode cX6_write 28 = .ok (.getfield 25, 3) := by decide +kernel
theorem dX6_write_31 : decode cX6_write 31 = .ok (.aload_n 0, 1) := by decide +kernel
theorem dX6_write_32 : decode cX6_write 32 = .ok (.getfield 51, 3) := by decide +kernel
theorem dX6_write_35 : decode cX6_write 35 = .ok (.iload_n 1, 1) := by decide +kernel
theorem dX6_write_36 : decode cX6_write 36 = .ok (.iastore, 1) := by decide +kernel
theorem dX6_write_37 : decode cX6_write 37 = .ok (.aload_n 0, 1) := by decide +kernel
theorem dX6_write_38 : decode cX6_write 38 = .ok (.dup, 1) := by decide +kernel
theorem dX6_write_39 : decode cX6_write 39 = .ok (.getfield 51, 3) := by decide +kernel
theorem dX6_write_42 : decode cX6_write 42 = .ok (.iconst 1, 1) := by decide +kernel
theorem dX6_write_43 : decode cX6_write 43 = .ok (.iadd, 1) := by decide +kernel
theorem dX6_write_44 : decode cX6_write 44 = .ok (.putfield 51, 3) := by decide +kernel
theorem dX6_write_47 : decode cX6_write 47 = .ok (.aload_n 0, 1) := by decide +kernel
theorem dX6_write_48 : decode cX6_write 48 = .ok (.getfield 51, 3) := by decide +kernel
theorem dX6_write_51 : decode cX6_write 51 = .ok (.ireturn, 1) := by decide +kernel
theorem dX6_wipe_0 : decode cX6_wipe 0 = .ok (.aload_n 0, 1) := by decide +kernel
theorem dX6_wipe_1 : decode cX6_wipe 1 = .ok (.getfield 51, 3) := by decide +kernel
theorem dX6_wipe_4 : decode cX6_wipe 4 = .ok (.istore_n 1, 1) := by decide +kernel
theorem dX6_wipe_5 : decode cX6_wipe 5 = .ok (.aload_n 0, 1) := by decide +kernel
theorem dX6_wipe_6 : decode cX6_wipe 6 = .ok (.iconst 0, 1) := by decide +kernel
theorem dX6_wipe_7 : decode cX6_wipe 7 = .ok (.putfield 51, 3) := by decide +kernel
theorem dX6_wipe_10 : decode cX6_wipe 10 = .ok (.iload_n 1, 1) := by decide +kernel
theorem dX6_wipe_11 : decode cX6_wipe 11 = .ok (.ireturn, 1) := by decide +kernel
set_option maxRecDepth 20000 in
theorem ggX6_figureOf_X6_in : GoodIn wsX6_figureOf wsX6_in := goodIn_r _ [9] (by decide +kernel) (by decide +kernel)
set_option maxRecDepth 20000 in
theorem gX6_figureOf_X6_in : GoodIn wsX6_figureOf (va_wsS RX6 47 yX6_in wsX6_in) := goodIn_app (goodIn_of _ (by decide +kernel)) ggX6_figureOf_X6_in
set_option maxRecDepth 20000 in
theorem ggX6_figureOf_X6_has : GoodIn wsX6_figureOf wsX6_has := goodIn_r _ [12] (by decide +kernel) (by decide +kernel)
set_option maxRecDepth 20000 in
theorem gX6_figureOf_X6_has : GoodIn wsX6_figureOf (va_wsS RX6 62 yX6_has wsX6_has) := goodIn_app (goodIn_of _ (by decide +kernel)) ggX6_figureOf_X6_has
theorem dX6_figureOf_0 : decode cX6_figureOf 0 = .ok (.aload_n 0, 1) := by decide +kernel
theorem dX6_figureOf_1 : decode cX6_figureOf 1 = .ok (.getfield 54, 3) := by decide +kernel
theorem dX6_figureOf_4 : decode cX6_figureOf 4 = .ok (.bipush (-9), 2) := by decide +kernel
theorem dX6_figureOf_6 : decode cX6_figureOf 6 = .ok (.if_icmp .ne 29, 3) := by decide +kernel
theorem dX6_figureOf_9 : decode cX6_figureOf 9 = .ok (.aload_n 0, 1) := by decide +kernel
theorem dX6_figureOf_10 : decode cX6_figureOf 10 = .ok (.getfield 57, 3) := by decide +kernel
theorem dX6_figureOf_13 : decode cX6_figureOf 13 = .ok (.aload_n 0, 1) := by decide +kernel
theorem dX6_figureOf_14 : decode cX6_figureOf 14 = .ok (.getfield 51, 3) := by decide +kernel
theorem dX6_figureOf_17 : decode cX6_figureOf 17 = .ok (.if_icmp .ge 18, 3) := by decide +kernel
theorem dX6_figureOf_20 : decode cX6_figureOf 20 = .ok (.aload_n 0, 1) := by decide +kernel
theorem dX6_figureOf_21 : decode cX6_figureOf 21 = .ok (.getfield 25, 3) := by decide +kernel
theorem dX6_figureOf_24 : decode cX6_figureOf 24 = .ok (.aload_n 0, 1) := by decide +kernel
theorem dX6_figureOf_25 : decode cX6_figureOf 25 = .ok (.getfield 57, 3) := by decide +kernel
theorem dX6_figureOf_28 : decode cX6_figureOf 28 = .ok (.iaload, 1) := by decide +kernel
theorem dX6_figureOf_29 : decode cX6_figureOf 29 = .ok (.bipush 48, 2) := by decide +kernel
theorem dX6_figureOf_31 : decode cX6_figureOf 31 = .ok (.isub, 1) := by decide +kernel
theorem dX6_figureOf_32 : decode cX6_figureOf 32 = .ok (.goto 5, 3) := by decide +kernel
theorem dX6_figureOf_35 : decode cX6_figureOf 35 = .ok (.bipush (-9), 2) := by decide +kernel
theorem dX6_figureOf_37 : decode cX6_figureOf 37 = .ok (.istore_n 2, 1) := by decide +kernel
theorem dX6_figureOf_38 : decode cX6_figureOf 38 = .ok (.iload_n 2, 1) := by decide +kernel
theorem dX6_figureOf_39 : decode cX6_figureOf 39 = .ok (.i2l, 1) := by decide +kernel
theorem dX6_figureOf_40 : decode cX6_figureOf 40 = .ok (.lconst 0, 1) := by decide +kernel
theorem dX6_figureOf_41 : decode cX6_figureOf 41 = .ok (.ldc2_w 60, 3) := by decide +kernel
theorem dX6_figureOf_44 : decode cX6_figureOf 44 = .ok (.invokestatic 47, 3) := by decide +kernel
theorem dX6_figureOf_47 : decode cX6_figureOf 47 = .ok (.ifCond .eq 11, 3) := by decide +kernel
theorem dX6_figureOf_50 : decode cX6_figureOf 50 = .ok (.iload_n 1, 1) := by decide +kernel
theorem dX6_figureOf_51 : decode cX6_figureOf 51 = .ok (.iload_n 2, 1) := by decide +kernel
theorem dX6_figureOf_52 : decode cX6_figureOf 52 = .ok (.invokestatic 62, 3) := by decide +kernel
theorem dX6_figureOf_55 : decode cX6_figureOf 55 = .ok (.ifCond .ne 29, 3) := by decide +kernel
theorem dX6_figureOf_58 : decode cX6_figureOf 58 = .ok (.aload_n 0, 1) := by decide +kernel
theorem dX6_figureOf_59 : decode cX6_figureOf 59 = .ok (.aload_n 0, 1) := by decide +kernel
theorem dX6_figureOf_60 : decode cX6_figureOf 60 = .ok (.getfield 54, 3) := by decide +kernel
theorem dX6_figureOf_63 : decode cX6_figureOf 63 = .ok (.bipush (-9), 2) := by decide +kernel
theorem dX6_figureOf_65 : decode cX6_figureOf 65 = .ok (.if_icmp .ne 10, 3) := by decide +kernel
theorem dX6_figureOf_68 : decode cX6_figureOf 68 = .ok (.aload_n 0, 1) := by decide +kernel
theorem dX6_figureOf_69 : decode cX6_figureOf 69 = .ok (.getfield 57, 3) := by decide +kernel
theorem dX6_figureOf_72 : decode cX6_figureOf 72 = .ok (.goto 7, 3) := by decide +kernel
theorem dX6_figureOf_75 : decode cX6_figureOf 75 = .ok (.aload_n 0, 1) := by decide +kernel
theorem dX6_figureOf_76 : decode cX6_figureOf 76 = .ok (.getfield 54, 3) := by decide +kernel
theorem dX6_figureOf_79 : decode cX6_figureOf 79 = .ok (.putfield 54, 3) := by decide +kernel
theorem dX6_figureOf_82 : decode cX6_figureOf 82 = .ok (.iconst 0, 1) := by decide +kernel
theorem dX6_figureOf_83 : decode cX6_figureOf 83 = .ok (.ireturn, 1) := by decide +kernel
theorem dX6_figureOf_84 : decode cX6_figureOf 84 = .ok (.aload_n 0, 1) := by decide +kernel
theorem dX6_figureOf_85 : decode cX6_figureOf 85 = .ok (.dup, 1) := by decide +kernel
theorem dX6_figureOf_86 : decode cX6_figureOf 86 = .ok (.getfield 57, 3) := by decide +kernel
theorem dX6_figureOf_89 : decode cX6_figureOf 89 = .ok (.iconst 1, 1) := by decide +kernel
theorem dX6_figureOf_90 : decode cX6_figureOf 90 = .ok (.iadd, 1) := by decide +kernel
theorem dX6_figureOf_91 : decode cX6_figureOf 91 = .ok (.putfield 57, 3) := by decide +kernel
theorem dX6_figureOf_94 : decode cX6_figureOf 94 = .ok (.iload_n 2, 1) := by decide +kernel
theorem dX6_figureOf_95 : decode cX6_figureOf 95 = .ok (.ireturn, 1) := by decide +kernel
set_option maxRecDepth 20000 in
theorem ggX6_readText_X6_figureOf : GoodIn wsX6_readText wsX6_figureOf := goodIn_r _ [13, 2, 1, 6, 7, 14, 15, 16, 12, 17, 18, 19, 20, 27, 28, 29, 30, 31, 32, 33, 34, 35, 36, 37, 38, 39, 40, 41, 42, 43, 44, 45, 46, 47, 48, 49, 50] (by decide +kernel) (by decide +kernel)
set_option maxRecDepth 20000 in
theorem gX6_readText_X6_figureOf : GoodIn wsX6_readText (wsV RX6 75 RX6 yX6_figureOf wsX6_figureOf) := goodIn_app (goodIn_of _ (by decide +kernel)) ggX6_readText_X6_figureOf
set_option maxRecDepth 20000 in
theorem ggX6_readText_X6_readPart : GoodIn wsX6_readText wsX6_readPart := goodIn_r _ [24, 5, 3, 1, 25, 4, 26, 2, 9, 10, 11, 12, 13, 6, 7, 14, 15, 16, 17, 18, 19, 20, 27, 28, 29, 30, 31, 32, 33, 34, 35, 36, 37, 38, 39, 40, 41, 42, 43, 44, 45, 46, 47, 48, 49, 50] (by decide +kernel) (by decide +kernel)
set_option maxRecDepth 20000 in
theorem gX6_readText_X6_readPart : GoodIn wsX6_readText (wsV RX6 82 RX6 yX6_readPart wsX6_readPart) := goodIn_app (goodIn_of _ (by decide +kernel)) ggX6_readText_X6_readPart
theorem dX6_readText_0 : decode cX6_readText 0 = .ok (.aload_n 0, 1) := by decide +kernel
theorem dX6_readText_1 : decode cX6_readText 1 = .ok (.iconst 0, 1) := by decide +kernel
theorem dX6_readText_2 : decode cX6_readText 2 = .ok (.putfield 57, 3) := by decide +kernel
theorem dX6_readText_5 : decode cX6_readText 5 = .ok (.aload_n 0, 1) := by decide +kernel
theorem dX6_readText_6 : decode cX6_readText 6 = .ok (.bipush (-9), 2) := by decide +kernel
theorem dX6_readText_8 : decode cX6_readText 8 = .ok (.putfield 54, 3) := by decide +kernel
theorem dX6_readText_11 : decode cX6_readText 11 = .ok (.aload_n 0, 1) := by decide +kernel
theorem dX6_readText_12 : decode cX6_readText 12 = .ok (.iconst 0, 1) := by decide +kernel
theorem dX6_readText_13 : decode cX6_readText 13 = .ok (.putfield 66, 3) := by decide +kernel
theorem dX6_readText_16 : decode cX6_readText 16 = .ok (.aload_n 0, 1) := by decide +kernel
theorem dX6_readText_17 : decode cX6_readText 17 = .ok (.iconst 0, 1) := by decide +kernel
theorem dX6_readText_18 : decode cX6_readText 18 = .ok (.putfield 69, 3) := by decide +kernel
theorem dX6_readText_21 : decode cX6_readText 21 = .ok (.aload_n 0, 1) := by decide +kernel
theorem dX6_readText_22 : decode cX6_readText 22 = .ok (.bipush (-9), 2) := by decide +kernel
theorem dX6_readText_24 : decode cX6_readText 24 = .ok (.putfield 72, 3) := by decide +kernel
theorem dX6_readText_27 : decode cX6_readText 27 = .ok (.aload_n 0, 1) := by decide +kernel
theorem dX6_readText_28 : decode cX6_readText 28 = .ok (.getfield 51, 3) := by decide +kernel
theorem dX6_readText_31 : decode cX6_readText 31 = .ok (.ifCond .eq 14, 3) := by decide +kernel
theorem dX6_readText_34 : decode cX6_readText 34 = .ok (.aload_n 0, 1) := by decide +kernel
theorem dX6_readText_35 : decode cX6_readText 35 = .ok (.getfield 25, 3) := by decide +kernel
theorem dX6_readText_38 : decode cX6_readText 38 = .ok (.iconst 0, 1) := by decide +kernel
theorem dX6_readText_39 : decode cX6_readText 39 = .ok (.iaload, 1) := by decide +kernel
theorem dX6_readText_40 : decode cX6_readText 40 = .ok (.bipush 71, 2) := by decide +kernel
theorem dX6_readText_42 : decode cX6_readText 42 = .ok (.if_icmp .eq 5, 3) := by decide +kernel
theorem dX6_readText_45 : decode cX6_readText 45 = .ok (.iconst 0, 1) := by decide +kernel
theorem dX6_readText_46 : decode cX6_readText 46 = .ok (.ireturn, 1) := by decide +kernel
theorem dX6_readText_47 : decode cX6_readText 47 = .ok (.aload_n 0, 1) := by decide +kernel
theorem dX6_readText_48 : decode cX6_readText 48 = .ok (.iconst 1, 1) := by decide +kernel
theorem dX6_readText_49 : decode cX6_readText 49 = .ok (.putfield 57, 3) := by decide +kernel
theorem dX6_readText_52 : decode cX6_readText 52 = .ok (.aload_n 0, 1) := by decide +kernel
theorem dX6_readText_53 : decode cX6_readText 53 = .ok (.aload_n 0, 1) := by decide +kernel
theorem dX6_readText_54 : decode cX6_readText 54 = .ok (.sipush 543, 3) := by decide +kernel
theorem dX6_readText_57 : decode cX6_readText 57 = .ok (.invokevirtual 75, 3) := by decide +kernel
theorem dX6_readText_60 : decode cX6_readText 60 = .ok (.putfield 79, 3) := by decide +kernel
theorem dX6_readText_63 : decode cX6_readText 63 = .ok (.aload_n 0, 1) := by decide +kernel
theorem dX6_readText_64 : decode cX6_readText 64 = .ok (.getfield 54, 3) := by decide +kernel
theorem dX6_readText_67 : decode cX6_readText 67 = .ok (.bipush (-9), 2) := by decide +kernel
theorem dX6_readText_69 : decode cX6_readText 69 = .ok (.if_icmp .ne 30, 3) := by decide +kernel
theorem dX6_readText_72 : decode cX6_readText 72 = .ok (.aload_n 0, 1) := by decide +kernel
theorem dX6_readText_73 : decode cX6_readText 73 = .ok (.getfield 57, 3) := by decide +kernel
theorem dX6_readText_76 : decode cX6_readText 76 = .ok (.aload_n 0, 1) := by decide +kernel
theorem dX6_readText_77 : decode cX6_readText 77 = .ok (.getfield 51, 3) := by decide +kernel
theorem dX6_readText_80 : decode cX6_readText 80 = .ok (.if_icmp .ge 19, 3) := by decide +kernel
theorem dX6_readText_83 : decode cX6_readText 83 = .ok (.aload_n 0, 1) := by decide +kernel
theorem dX6_readText_84 : decode cX6_readText 84 = .ok (.aload_n 0, 1) := by decide +kernel
theorem dX6_readText_85 : decode cX6_readText 85 = .ok (.getfield 25, 3) := by decide +kernel
theorem dX6_readText_88 : decode cX6_readText 88 = .ok (.aload_n 0, 1) := by decide +kernel
theorem dX6_readText_89 : decode cX6_readText 89 = .ok (.getfield 57, 3) := by decide +kernel
theorem dX6_readText_92 : decode cX6_readText 92 = .ok (.iaload, 1) := by decide +kernel
theorem dX6_readText_93 : decode cX6_readText 93 = .ok (.invokevirtual 82, 3) := by decide +kernel
theorem dX6_readText_96 : decode cX6_readText 96 = .ok (.goto (-33), 3) := by decide +kernel
theorem dX6_readText_99 : decode cX6_readText 99 = .ok (.aload_n 0, 1) := by decide +kernel
theorem dX6_readText_100 : decode cX6_readText 100 = .ok (.getfield 54, 3) := by decide +kernel
theorem dX6_readText_103 : decode cX6_readText 103 = .ok (.ireturn, 1) := by decide +kernel
set_option maxRecDepth 20000 in
theorem ggX6_readPart_X6_figureOf : GoodIn wsX6_readPart wsX6_figureOf := goodIn_r _ [12, 7, 3, 13, 14, 15, 16, 17, 11, 18, 19, 20, 21, 22, 23, 24, 25, 26, 27, 28, 29, 30, 31, 32, 33, 34, 35, 36, 37, 38, 39, 40, 41, 42, 43, 44, 45] (by decide +kernel) (by decide +kernel)
set_option maxRecDepth 20000 in
theorem gX6_readPart_X6_figureOf : GoodIn wsX6_readPart (wsV RX6 75 RX6 yX6_figureOf wsX6_figureOf) := goodIn_app (goodIn_of _ (by decide +kernel)) ggX6_readPart_X6_figureOf
theorem dX6_readPart_0 : decode cX6_readPart 0 = .ok (.iload_n 1, 1) := by decide +kernel
theorem dX6_readPart_1 : decode cX6_readPart 1 = .ok (.bipush 67, 2) := by decide +kernel
theorem dX6_readPart_3 : decode cX6_readPart 3 = .ok (.if_icmp .eq 18, 3) := by decide +kernel
theorem dX6_readPart_6 : decode cX6_readPart 6 = .ok (.iload_n 1, 1) := by decide +kernel
theorem dX6_readPart_7 : decode cX6_readPart 7 = .ok (.bipush 68, 2) := by decide +kernel
theorem dX6_readPart_9 : decode cX6_readPart 9 = .ok (.if_icmp .ne 16, 3) := by decide +kernel
theorem dX6_readPart_12 : decode cX6_readPart 12 = .ok (.aload_n 0, 1) := by decide +kernel
theorem dX6_readPart_13 : decode cX6_readPart 13 = .ok (.getfield 72, 3) := by decide +kernel
theorem dX6_readPart_16 : decode cX6_readPart 16 = .ok (.bipush (-9), 2) := by decide +kernel
theorem dX6_readPart_18 : decode cX6_readPart 18 = .ok (.if_icmp .ne 7, 3) := by decide +kernel
theorem dX6_readPart_21 : decode cX6_readPart 21 = .ok (.iconst 1, 1) := by decide +kernel
theorem dX6_readPart_22 : decode cX6_readPart 22 = .ok (.goto 4, 3) := by decide +kernel
theorem dX6_readPart_25 : decode cX6_readPart 25 = .ok (.iconst 0, 1) := by decide +kernel
theorem dX6_readPart_26 : decode cX6_readPart 26 = .ok (.istore_n 2, 1) := by decide +kernel
theorem dX6_readPart_27 : decode cX6_readPart 27 = .ok (.iload_n 2, 1) := by decide +kernel
theorem dX6_readPart_28 : decode cX6_readPart 28 = .ok (.ifCond .eq 110, 3) := by decide +kernel
theorem dX6_readPart_31 : decode cX6_readPart 31 = .ok (.aload_n 0, 1) := by decide +kernel
theorem dX6_readPart_32 : decode cX6_readPart 32 = .ok (.getfield 66, 3) := by decide +kernel
theorem dX6_readPart_35 : decode cX6_readPart 35 = .ok (.iconst 4, 1) := by decide +kernel
theorem dX6_readPart_36 : decode cX6_readPart 36 = .ok (.if_icmp .ge 102, 3) := by decide +kernel
theorem dX6_readPart_39 : decode cX6_readPart 39 = .ok (.aload_n 0, 1) := by decide +kernel
theorem dX6_readPart_40 : decode cX6_readPart 40 = .ok (.dup, 1) := by decide +kernel
theorem dX6_readPart_41 : decode cX6_readPart 41 = .ok (.getfield 57, 3) := by decide +kernel
theorem dX6_readPart_44 : decode cX6_readPart 44 = .ok (.iconst 1, 1) := by decide +kernel
theorem dX6_readPart_45 : decode cX6_readPart 45 = .ok (.iadd, 1) := by decide +kernel
theorem dX6_readPart_46 : decode cX6_readPart 46 = .ok (.putfield 57, 3) := by decide +kernel
theorem dX6_readPart_49 : decode cX6_readPart 49 = .ok (.aload_n 0, 1) := by decide +kernel
theorem dX6_readPart_50 : decode cX6_readPart 50 = .ok (.getfield 19, 3) := by decide +kernel
theorem dX6_readPart_53 : decode cX6_readPart 53 = .ok (.iconst 3, 1) := by decide +kernel
theorem dX6_readPart_54 : decode cX6_readPart 54 = .ok (.aload_n 0, 1) := by decide +kernel
theorem dX6_readPart_55 : decode cX6_readPart 55 = .ok (.getfield 66, 3) := by decide +kernel
theorem dX6_readPart_58 : decode cX6_readPart 58 = .ok (.imul, 1) := by decide +kernel
theorem dX6_readPart_59 : decode cX6_readPart 59 = .ok (.aload_n 0, 1) := by decide +kernel
theorem dX6_readPart_60 : decode cX6_readPart 60 = .ok (.bipush 15, 2) := by decide +kernel
theorem dX6_readPart_62 : decode cX6_readPart 62 = .ok (.invokevirtual 75, 3) := by decide +kernel
theorem dX6_readPart_65 : decode cX6_readPart 65 = .ok (.iastore, 1) := by decide +kernel
theorem dX6_readPart_66 : decode cX6_readPart 66 = .ok (.aload_n 0, 1) := by decide +kernel
theorem dX6_readPart_67 : decode cX6_readPart 67 = .ok (.getfield 19, 3) := by decide +kernel
theorem dX6_readPart_70 : decode cX6_readPart 70 = .ok (.iconst 3, 1) := by decide +kernel
theorem dX6_readPart_71 : decode cX6_readPart 71 = .ok (.aload_n 0, 1) := by decide +kernel
theorem dX6_readPart_72 : decode cX6_readPart 72 = .ok (.getfield 66, 3) := by decide +kernel
theorem dX6_readPart_75 : decode cX6_readPart 75 = .ok (.imul, 1) := by decide +kernel
theorem dX6_readPart_76 : decode cX6_readPart 76 = .ok (.iconst 1, 1) := by decide +kernel
theorem dX6_readPart_77 : decode cX6_readPart 77 = .ok (.iadd, 1) := by decide +kernel
theorem dX6_readPart_78 : decode cX6_readPart 78 = .ok (.aload_n 0, 1) := by decide +kernel
theorem dX6_readPart_79 : decode cX6_readPart 79 = .ok (.bipush 63, 2) := by decide +kernel
theorem dX6_readPart_81 : decode cX6_readPart 81 = .ok (.invokevirtual 75, 3) := by decide +kernel
theorem dX6_readPart_84 : decode cX6_readPart 84 = .ok (.iastore, 1) := by decide +kernel
theorem dX6_readPart_85 : decode cX6_readPart 85 = .ok (.aload_n 0, 1) := by decide +kernel
theorem dX6_readPart_86 : decode cX6_readPart 86 = .ok (.getfield 19, 3) := by decide +kernel
theorem dX6_readPart_89 : decode cX6_readPart 89 = .ok (.iconst 3, 1) := by decide +kernel
theorem dX6_readPart_90 : decode cX6_readPart 90 = .ok (.aload_n 0, 1) := by decide +kernel
theorem dX6_readPart_91 : decode cX6_readPart 91 = .ok (.getfield 66, 3) := by decide +kernel
theorem dX6_readPart_94 : decode cX6_readPart 94 = .ok (.imul, 1) := by decide +kernel
theorem dX6_readPart_95 : decode cX6_readPart 95 = .ok (.iconst 2, 1) := by decide +kernel
theorem dX6_readPart_96 : decode cX6_readPart 96 = .ok (.iadd, 1) := by decide +kernel
theorem dX6_readPart_97 : decode cX6_readPart 97 = .ok (.aload_n 0, 1) := by decide +kernel
theorem dX6_readPart_98 : decode cX6_readPart 98 = .ok (.bipush 15, 2) := by decide +kernel
theorem dX6_readPart_100 : decode cX6_readPart 100 = .ok (.invokevirtual 75, 3) := by decide +kernel
theorem dX6_readPart_103 : decode cX6_readPart 103 = .ok (.iastore, 1) := by decide +kernel
theorem dX6_readPart_104 : decode cX6_readPart 104 = .ok (.aload_n 0, 1) := by decide +kernel
theorem dX6_readPart_105 : decode cX6_readPart 105 = .ok (.iload_n 1, 1) := by decide +kernel
theorem dX6_readPart_106 : decode cX6_readPart 106 = .ok (.bipush 68, 2) := by decide +kernel
theorem dX6_readPart_108 : decode cX6_readPart 108 = .ok (.if_icmp .ne 10, 3) := by decide +kernel
theorem dX6_readPart_111 : decode cX6_readPart 111 = .ok (.aload_n 0, 1) := by decide +kernel
theorem dX6_readPart_112 : decode cX6_readPart 112 = .ok (.getfield 66, 3) := by decide +kernel
theorem dX6_readPart_115 : decode cX6_readPart 115 = .ok (.goto 7, 3) := by decide +kernel
theorem dX6_readPart_118 : decode cX6_readPart 118 = .ok (.aload_n 0, 1) := by decide +kernel
theorem dX6_readPart_119 : decode cX6_readPart 119 = .ok (.getfield 72, 3) := by decide +kernel
theorem dX6_readPart_122 : decode cX6_readPart 122 = .ok (.putfield 72, 3) := by decide +kernel
theorem dX6_readPart_125 : decode cX6_readPart 125 = .ok (.aload_n 0, 1) := by decide +kernel
theorem dX6_readPart_126 : decode cX6_readPart 126 = .ok (.dup, 1) := by decide +kernel
theorem dX6_readPart_127 : decode cX6_readPart 127 = .ok (.getfield 66, 3) := by decide +kernel
theorem dX6_readPart_130 : decode cX6_readPart 130 = .ok (.iconst 1, 1) := by decide +kernel
theorem dX6_readPart_131 : decode cX6_readPart 131 = .ok (.iadd, 1) := by decide +kernel
theorem dX6_readPart_132 : decode cX6_readPart 132 = .ok (.putfield 66, 3) := by decide +kernel
theorem dX6_readPart_135 : decode cX6_readPart 135 = .ok (.goto 64, 3) := by decide +kernel
theorem dX6_readPart_138 : decode cX6_readPart 138 = .ok (.iload_n 1, 1) := by decide +kernel
theorem dX6_readPart_139 : decode cX6_readPart 139 = .ok (.bipush 87, 2) := by decide +kernel
theorem dX6_readPart_141 : decode cX6_readPart 141 = .ok (.if_icmp .ne 50, 3) := by decide +kernel
theorem dX6_readPart_144 : decode cX6_readPart 144 = .ok (.aload_n 0, 1) := by decide +kernel
theorem dX6_readPart_145 : decode cX6_readPart 145 = .ok (.getfield 69, 3) := by decide +kernel
theorem dX6_readPart_148 : decode cX6_readPart 148 = .ok (.bipush 6, 2) := by decide +kernel
theorem dX6_readPart_150 : decode cX6_readPart 150 = .ok (.if_icmp .ge 41, 3) := by decide +kernel
theorem dX6_readPart_153 : decode cX6_readPart 153 = .ok (.aload_n 0, 1) := by decide +kernel
theorem dX6_readPart_154 : decode cX6_readPart 154 = .ok (.dup, 1) := by decide +kernel
theorem dX6_readPart_155 : decode cX6_readPart 155 = .ok (.getfield 57, 3) := by decide +kernel
theorem dX6_readPart_158 : decode cX6_readPart 158 = .ok (.iconst 1, 1) := by decide +kernel
theorem dX6_readPart_159 : decode cX6_readPart 159 = .ok (.iadd, 1) := by decide +kernel
theorem dX6_readPart_160 : decode cX6_readPart 160 = .ok (.putfield 57, 3) := by decide +kernel
theorem dX6_readPart_163 : decode cX6_readPart 163 = .ok (.aload_n 0, 1) := by decide +kernel
theorem dX6_readPart_164 : decode cX6_readPart 164 = .ok (.getfield 22, 3) := by decide +kernel
theorem dX6_readPart_167 : decode cX6_readPart 167 = .ok (.aload_n 0, 1) := by decide +kernel
theorem dX6_readPart_168 : decode cX6_readPart 168 = .ok (.getfield 69, 3) := by decide +kernel
theorem dX6_readPart_171 : decode cX6_readPart 171 = .ok (.aload_n 0, 1) := by decide +kernel
theorem dX6_readPart_172 : decode cX6_readPart 172 = .ok (.bipush 15, 2) := by decide +kernel
theorem dX6_readPart_174 : decode cX6_readPart 174 = .ok (.invokevirtual 75, 3) := by decide +kernel
theorem dX6_readPart_177 : decode cX6_readPart 177 = .ok (.iastore, 1) := by decide +kernel
theorem dX6_readPart_178 : decode cX6_readPart 178 = .ok (.aload_n 0, 1) := by decide +kernel
theorem dX6_readPart_179 : decode cX6_readPart 179 = .ok (.dup, 1) := by decide +kernel
theorem dX6_readPart_180 : decode cX6_readPart 180 = .ok (.getfield 69, 3) := by decide +kernel
theorem dX6_readPart_183 : decode cX6_readPart 183 = .ok (.iconst 1, 1) := by decide +kernel
theorem dX6_readPart_184 : decode cX6_readPart 184 = .ok (.iadd, 1) := by decide +kernel
theorem dX6_readPart_185 : decode cX6_readPart 185 = .ok (.putfield 69, 3) := by decide +kernel
theorem dX6_readPart_188 : decode cX6_readPart 188 = .ok (.goto 11, 3) := by decide +kernel
theorem dX6_readPart_191 : decode cX6_readPart 191 = .ok (.aload_n 0, 1) := by decide +kernel
theorem dX6_readPart_192 : decode cX6_readPart 192 = .ok (.aload_n 0, 1) := by decide +kernel
theorem dX6_readPart_193 : decode cX6_readPart 193 = .ok (.getfield 57, 3) := by decide +kernel
theorem dX6_readPart_196 : decode cX6_readPart 196 = .ok (.putfield 54, 3) := by decide +kernel
theorem dX6_readPart_199 : decode cX6_readPart 199 = .ok (.return_, 1) := by decide +kernel
set_option maxRecDepth 20000 in
theorem ggX6_fault_X6_readText : GoodIn wsX6_fault wsX6_readText := goodIn_r _ [5, 6, 7, 8, 9, 10, 11, 12, 13, 14, 15, 16, 4, 17, 18, 19, 20, 21, 22, 23, 24, 25, 26, 27, 28, 29, 30, 31, 32, 33, 34, 35, 36, 37, 38, 39, 40, 41, 42, 43, 44, 45, 46, 47, 48, 49, 50, 51, 52, 53, 54] (by decide +kernel) (by decide +kernel)
set_option maxRecDepth 20000 in
theorem gX6_fault_X6_readText : GoodIn wsX6_fault (wsV RX6 86 RX6 yX6_readText wsX6_readText) := goodIn_app (goodIn_of _ (by decide +kernel)) ggX6_fault_X6_readText
theorem dX6_fault_0 : decode cX6_fault 0 = .ok (.aload_n 0, 1) := by decide +kernel
theorem dX6_fault_1 : decode cX6_fault 1 = .ok (.invokevirtual 86, 3) := by decide +kernel
theorem dX6_fault_4 : decode cX6_fault 4 = .ok (.ireturn, 1) := by decide +kernel
set_option maxRecDepth 20000 in
theorem ggX6_house_X6_readText : GoodIn wsX6_house wsX6_readText := goodIn_r _ [19, 20, 21, 3, 5, 12, 22, 23, 1, 24, 25, 26, 18, 27, 28, 29, 30, 31, 32, 33, 34, 35, 36, 37, 38, 9, 11, 39, 40, 41, 42, 43, 44, 45, 46, 47, 48, 49, 50, 51, 52, 53, 54, 55, 56, 57, 58, 59, 60, 61, 62] (by decide +kernel) (by decide +kernel)
set_option maxRecDepth 20000 in
theorem gX6_house_X6_readText : GoodIn wsX6_house (wsV RX6 86 RX6 yX6_readText wsX6_readText) := goodIn_app (goodIn_of _ (by decide +kernel)) ggX6_house_X6_readText
theorem dX6_house_0 : decode cX6_house 0 = .ok (.aload_n 0, 1) := by decide +kernel
theorem dX6_house_1 : decode cX6_house 1 = .ok (.invokevirtual 86, 3) := by decide +kernel
theorem dX6_house_4 : decode cX6_house 4 = .ok (.bipush (-9), 2) := by decide +kernel
theorem dX6_house_6 : decode cX6_house 6 = .ok (.if_icmp .eq 6, 3) := by decide +kernel
theorem dX6_house_9 : decode cX6_house 9 = .ok (.bipush (-3), 2) := by decide +kernel
theorem dX6_house_11 : decode cX6_house 11 = .ok (.ireturn, 1) := by decide +kernel
theorem dX6_house_12 : decode cX6_house 12 = .ok (.aload_n 0, 1) := by decide +kernel
theorem dX6_house_13 : decode cX6_house 13 = .ok (.aload_n 0, 1) := by decide +kernel
theorem dX6_house_14 : decode cX6_house 14 = .ok (.getfield 79, 3) := by decide +kernel
