theorem dX0_init_0 : decode cX0_init 0 = .ok (.aload_n 0, 1) := by decide +kernel
theorem dX0_init_1 : decode cX0_init 1 = .ok (.invokespecial 3, 3) := by decide +kernel
theorem dX0_init_4 : decode cX0_init 4 = .ok (.aload_n 0, 1) := by decide +kernel
theorem dX0_init_5 : decode cX0_init 5 = .ok (.bipush 14, 2) := by decide +kernel
theorem dX0_init_7 : decode cX0_init 7 = .ok (.newarray .int, 2) := by decide +kernel
theorem dX0_init_9 : decode cX0_init 9 = .ok (.putfield 9, 3) := by decide +kernel
theorem dX0_init_12 : decode cX0_init 12 = .ok (.aload_n 0, 1) := by decide +kernel
theorem dX0_init_13 : decode cX0_init 13 = .ok (.bipush 14, 2) := by decide +kernel
theorem dX0_init_15 : decode cX0_init 15 = .ok (.newarray .int, 2) := by decide +kernel
theorem dX0_init_17 : decode cX0_init 17 = .ok (.putfield 15, 3) := by decide +kernel
theorem dX0_init_20 : decode cX0_init 20 = .ok (.aload_n 0, 1) := by decide +kernel
theorem dX0_init_21 : decode cX0_init 21 = .ok (.bipush 14, 2) := by decide +kernel
theorem dX0_init_23 : decode cX0_init 23 = .ok (.newarray .int, 2) := by decide +kernel
theorem dX0_init_25 : decode cX0_init 25 = .ok (.putfield 18, 3) := by decide +kernel
theorem dX0_init_28 : decode cX0_init 28 = .ok (.return_, 1) := by decide +kernel
set_option maxRecDepth 20000 in
theorem ggX0_add_X0_forgetFirst : GoodIn wsX0_add wsX0_forgetFirst := goodIn_r _ [8] (by decide +kernel) (by decide +kernel)
set_option maxRecDepth 20000 in
theorem gX0_add_X0_forgetFirst : GoodIn wsX0_add (va_wsS RX0 25 yX0_forgetFirst wsX0_forgetFirst) := goodIn_app (goodIn_of _ (by decide +kernel)) ggX0_add_X0_forgetFirst
set_option maxRecDepth 20000 in
theorem ggX0_add_X5_put : GoodIn wsX0_add wsX5_put := goodIn_r _ [11] (by decide +kernel) (by decide +kernel)
set_option maxRecDepth 20000 in
theorem gX0_add_X5_put_n29 : GoodIn wsX0_add (wsX5_put) := ggX0_add_X5_put
theorem dX0_add_0 : decode cX0_add 0 = .ok (.aload_n 0, 1) := by decide +kernel
theorem dX0_add_1 : decode cX0_add 1 = .ok (.getfield 21, 3) := by decide +kernel
theorem dX0_add_4 : decode cX0_add 4 = .ok (.bipush 14, 2) := by decide +kernel
theorem dX0_add_6 : decode cX0_add 6 = .ok (.if_icmp .lt 30, 3) := by decide +kernel
theorem dX0_add_9 : decode cX0_add 9 = .ok (.aload_n 0, 1) := by decide +kernel
theorem dX0_add_10 : decode cX0_add 10 = .ok (.getfield 9, 3) := by decide +kernel
theorem dX0_add_13 : decode cX0_add 13 = .ok (.invokestatic 25, 3) := by decide +kernel
theorem dX0_add_16 : decode cX0_add 16 = .ok (.aload_n 0, 1) := by decide +kernel
theorem dX0_add_17 : decode cX0_add 17 = .ok (.getfield 15, 3) := by decide +kernel
theorem dX0_add_20 : decode cX0_add 20 = .ok (.invokestatic 25, 3) := by decide +kernel
theorem dX0_add_23 : decode cX0_add 23 = .ok (.aload_n 0, 1) := by decide +kernel
theorem dX0_add_24 : decode cX0_add 24 = .ok (.getfield 18, 3) := by decide +kernel
theorem dX0_add_27 : decode cX0_add 27 = .ok (.invokestatic 25, 3) := by decide +kernel
theorem dX0_add_30 : decode cX0_add 30 = .ok (.aload_n 0, 1) := by decide +kernel
theorem dX0_add_31 : decode cX0_add 31 = .ok (.bipush 13, 2) := by decide +kernel
theorem dX0_add_33 : decode cX0_add 33 = .ok (.putfield 21, 3) := by decide +kernel
theorem dX0_add_36 : decode cX0_add 36 = .ok (.aload_n 0, 1) := by decide +kernel
theorem dX0_add_37 : decode cX0_add 37 = .ok (.getfield 9, 3) := by decide +kernel
theorem dX0_add_40 : decode cX0_add 40 = .ok (.aload_n 0, 1) := by decide +kernel
theorem dX0_add_41 : decode cX0_add 41 = .ok (.getfield 21, 3) := by decide +kernel
theorem dX0_add_44 : decode cX0_add 44 = .ok (.iload_n 1, 1) := by decide +kernel
theorem dX0_add_45 : decode cX0_add 45 = .ok (.invokestatic 29, 3) := by decide +kernel
theorem dX0_add_48 : decode cX0_add 48 = .ok (.aload_n 0, 1) := by decide +kernel
theorem dX0_add_49 : decode cX0_add 49 = .ok (.getfield 15, 3) := by decide +kernel
theorem dX0_add_52 : decode cX0_add 52 = .ok (.aload_n 0, 1) := by decide +kernel
theorem dX0_add_53 : decode cX0_add 53 = .ok (.getfield 21, 3) := by decide +kernel
theorem dX0_add_56 : decode cX0_add 56 = .ok (.iload_n 2, 1) := by decide +kernel
theorem dX0_add_57 : decode cX0_add 57 = .ok (.invokestatic 29, 3) := by decide +kernel
theorem dX0_add_60 : decode cX0_add 60 = .ok (.aload_n 0, 1) := by decide +kernel
theorem dX0_add_61 : decode cX0_add 61 = .ok (.getfield 18, 3) := by decide +kernel
theorem dX0_add_64 : decode cX0_add 64 = .ok (.aload_n 0, 1) := by decide +kernel
theorem dX0_add_65 : decode cX0_add 65 = .ok (.getfield 21, 3) := by decide +kernel
theorem dX0_add_68 : decode cX0_add 68 = .ok (.iload_n 3, 1) := by decide +kernel
theorem dX0_add_69 : decode cX0_add 69 = .ok (.invokestatic 29, 3) := by decide +kernel
theorem dX0_add_72 : decode cX0_add 72 = .ok (.aload_n 0, 1) := by decide +kernel
theorem dX0_add_73 : decode cX0_add 73 = .ok (.dup, 1) := by decide +kernel
theorem dX0_add_74 : decode cX0_add 74 = .ok (.getfield 21, 3) := by decide +kernel
theorem dX0_add_77 : decode cX0_add 77 = .ok (.iconst 1, 1) := by decide +kernel
theorem dX0_add_78 : decode cX0_add 78 = .ok (.iadd, 1) := by decide +kernel
theorem dX0_add_79 : decode cX0_add 79 = .ok (.putfield 21, 3) := by decide +kernel
theorem dX0_add_82 : decode cX0_add 82 = .ok (.return_, 1) := by decide +kernel
theorem dX0_forgetFirst_0 : decode cX0_forgetFirst 0 = .ok (.iconst 1, 1) := by decide +kernel
theorem dX0_forgetFirst_1 : decode cX0_forgetFirst 1 = .ok (.istore_n 1, 1) := by decide +kernel
theorem dX0_forgetFirst_2 : decode cX0_forgetFirst 2 = .ok (.iload_n 1, 1) := by decide +kernel
theorem dX0_forgetFirst_3 : decode cX0_forgetFirst 3 = .ok (.aload_n 0, 1) := by decide +kernel
theorem dX0_forgetFirst_4 : decode cX0_forgetFirst 4 = .ok (.arraylength, 1) := by decide +kernel
theorem dX0_forgetFirst_5 : decode cX0_forgetFirst 5 = .ok (.if_icmp .ge 17, 3) := by decide +kernel
theorem dX0_forgetFirst_8 : decode cX0_forgetFirst 8 = .ok (.aload_n 0, 1) := by decide +kernel
theorem dX0_forgetFirst_9 : decode cX0_forgetFirst 9 = .ok (.iload_n 1, 1) := by decide +kernel
theorem dX0_forgetFirst_10 : decode cX0_forgetFirst 10 = .ok (.iconst 1, 1) := by decide +kernel
theorem dX0_forgetFirst_11 : decode cX0_forgetFirst 11 = .ok (.isub, 1) := by decide +kernel
theorem dX0_forgetFirst_12 : decode cX0_forgetFirst 12 = .ok (.aload_n 0, 1) := by decide +kernel
theorem dX0_forgetFirst_13 : decode cX0_forgetFirst 13 = .ok (.iload_n 1, 1) := by decide +kernel
theorem dX0_forgetFirst_14 : decode cX0_forgetFirst 14 = .ok (.iaload, 1) := by decide +kernel
theorem dX0_forgetFirst_15 : decode cX0_forgetFirst 15 = .ok (.iastore, 1) := by decide +kernel
theorem dX0_forgetFirst_16 : decode cX0_forgetFirst 16 = .ok (.iinc 1 1, 3) := by decide +kernel
theorem dX0_forgetFirst_19 : decode cX0_forgetFirst 19 = .ok (.goto (-17), 3) := by decide +kernel
theorem dX0_forgetFirst_22 : decode cX0_forgetFirst 22 = .ok (.return_, 1) := by decide +kernel
theorem dX1_init_0 : decode cX1_init 0 = .ok (.aload_n 0, 1) := by decide +kernel
theorem dX1_init_1 : decode cX1_init 1 = .ok (.invokespecial 3, 3) := by decide +kernel
theorem dX1_init_4 : decode cX1_init 4 = .ok (.aload_n 0, 1) := by decide +kernel
theorem dX1_init_5 : decode cX1_init 5 = .ok (.bipush 9, 2) := by decide +kernel
theorem dX1_init_7 : decode cX1_init 7 = .ok (.putfield 9, 3) := by decide +kernel
theorem dX1_init_10 : decode cX1_init 10 = .ok (.aload_n 0, 1) := by decide +kernel
theorem dX1_init_11 : decode cX1_init 11 = .ok (.iconst 4, 1) := by decide +kernel
theorem dX1_init_12 : decode cX1_init 12 = .ok (.newarray .int, 2) := by decide +kernel
theorem dX1_init_14 : decode cX1_init 14 = .ok (.putfield 15, 3) := by decide +kernel
theorem dX1_init_17 : decode cX1_init 17 = .ok (.aload_n 0, 1) := by decide +kernel
theorem dX1_init_18 : decode cX1_init 18 = .ok (.bipush 6, 2) := by decide +kernel
theorem dX1_init_20 : decode cX1_init 20 = .ok (.newarray .int, 2) := by decide +kernel
theorem dX1_init_22 : decode cX1_init 22 = .ok (.putfield 19, 3) := by decide +kernel
theorem dX1_init_25 : decode cX1_init 25 = .ok (.return_, 1) := by decide +kernel
theorem dX1_hasCasket_0 : decode cX1_hasCasket 0 = .ok (.iload_n 1, 1) := by decide +kernel
theorem dX1_hasCasket_1 : decode cX1_hasCasket 1 = .ok (.ifCond .lt 15, 3) := by decide +kernel
theorem dX1_hasCasket_4 : decode cX1_hasCasket 4 = .ok (.iload_n 1, 1) := by decide +kernel
theorem dX1_hasCasket_5 : decode cX1_hasCasket 5 = .ok (.aload_n 0, 1) := by decide +kernel
theorem dX1_hasCasket_6 : decode cX1_hasCasket 6 = .ok (.getfield 22, 3) := by decide +kernel
theorem dX1_hasCasket_9 : decode cX1_hasCasket 9 = .ok (.if_icmp .ge 7, 3) := by decide +kernel
theorem dX1_hasCasket_12 : decode cX1_hasCasket 12 = .ok (.iconst 1, 1) := by decide +kernel
theorem dX1_hasCasket_13 : decode cX1_hasCasket 13 = .ok (.goto 4, 3) := by decide +kernel
theorem dX1_hasCasket_16 : decode cX1_hasCasket 16 = .ok (.iconst 0, 1) := by decide +kernel
theorem dX1_hasCasket_17 : decode cX1_hasCasket 17 = .ok (.ireturn, 1) := by decide +kernel
theorem dX1_hasWooer_0 : decode cX1_hasWooer 0 = .ok (.iload_n 1, 1) := by decide +kernel
theorem dX1_hasWooer_1 : decode cX1_hasWooer 1 = .ok (.ifCond .lt 15, 3) := by decide +kernel
theorem dX1_hasWooer_4 : decode cX1_hasWooer 4 = .ok (.iload_n 1, 1) := by decide +kernel
theorem dX1_hasWooer_5 : decode cX1_hasWooer 5 = .ok (.aload_n 0, 1) := by decide +kernel
theorem dX1_hasWooer_6 : decode cX1_hasWooer 6 = .ok (.getfield 25, 3) := by decide +kernel
theorem dX1_hasWooer_9 : decode cX1_hasWooer 9 = .ok (.if_icmp .ge 7, 3) := by decide +kernel
theorem dX1_hasWooer_12 : decode cX1_hasWooer 12 = .ok (.iconst 1, 1) := by decide +kernel
theorem dX1_hasWooer_13 : decode cX1_hasWooer 13 = .ok (.goto 4, 3) := by decide +kernel
theorem dX1_hasWooer_16 : decode cX1_hasWooer 16 = .ok (.iconst 0, 1) := by decide +kernel
theorem dX1_hasWooer_17 : decode cX1_hasWooer 17 = .ok (.ireturn, 1) := by decide +kernel
set_option maxRecDepth 20000 in
theorem ggX1_copyFrom_X5_copyRow : GoodIn wsX1_copyFrom wsX5_copyRow := goodIn_r _ [8] (by decide +kernel) (by decide +kernel)
set_option maxRecDepth 20000 in
theorem gX1_copyFrom_X5_copyRow_n28 : GoodIn wsX1_copyFrom (wsX5_copyRow) := ggX1_copyFrom_X5_copyRow
theorem dX1_copyFrom_0 : decode cX1_copyFrom 0 = .ok (.aload_n 0, 1) := by decide +kernel
theorem dX1_copyFrom_1 : decode cX1_copyFrom 1 = .ok (.aload_n 1, 1) := by decide +kernel
theorem dX1_copyFrom_2 : decode cX1_copyFrom 2 = .ok (.getfield 9, 3) := by decide +kernel
theorem dX1_copyFrom_5 : decode cX1_copyFrom 5 = .ok (.putfield 9, 3) := by decide +kernel
theorem dX1_copyFrom_8 : decode cX1_copyFrom 8 = .ok (.aload_n 0, 1) := by decide +kernel
theorem dX1_copyFrom_9 : decode cX1_copyFrom 9 = .ok (.aload_n 1, 1) := by decide +kernel
theorem dX1_copyFrom_10 : decode cX1_copyFrom 10 = .ok (.getfield 22, 3) := by decide +kernel
theorem dX1_copyFrom_13 : decode cX1_copyFrom 13 = .ok (.putfield 22, 3) := by decide +kernel
theorem dX1_copyFrom_16 : decode cX1_copyFrom 16 = .ok (.aload_n 0, 1) := by decide +kernel
theorem dX1_copyFrom_17 : decode cX1_copyFrom 17 = .ok (.aload_n 1, 1) := by decide +kernel
theorem dX1_copyFrom_18 : decode cX1_copyFrom 18 = .ok (.getfield 25, 3) := by decide +kernel
theorem dX1_copyFrom_21 : decode cX1_copyFrom 21 = .ok (.putfield 25, 3) := by decide +kernel
theorem dX1_copyFrom_24 : decode cX1_copyFrom 24 = .ok (.aload_n 1, 1) := by decide +kernel
theorem dX1_copyFrom_25 : decode cX1_copyFrom 25 = .ok (.getfield 15, 3) := by decide +kernel
theorem dX1_copyFrom_28 : decode cX1_copyFrom 28 = .ok (.aload_n 0, 1) := by decide +kernel
theorem dX1_copyFrom_29 : decode cX1_copyFrom 29 = .ok (.getfield 15, 3) := by decide +kernel
theorem dX1_copyFrom_32 : decode cX1_copyFrom 32 = .ok (.invokestatic 28, 3) := by decide +kernel
theorem dX1_copyFrom_35 : decode cX1_copyFrom 35 = .ok (.aload_n 1, 1) := by decide +kernel
theorem dX1_copyFrom_36 : decode cX1_copyFrom 36 = .ok (.getfield 19, 3) := by decide +kernel
theorem dX1_copyFrom_39 : decode cX1_copyFrom 39 = .ok (.aload_n 0, 1) := by decide +kernel
theorem dX1_copyFrom_40 : decode cX1_copyFrom 40 = .ok (.getfield 19, 3) := by decide +kernel
theorem dX1_copyFrom_43 : decode cX1_copyFrom 43 = .ok (.invokestatic 28, 3) := by decide +kernel
theorem dX1_copyFrom_46 : decode cX1_copyFrom 46 = .ok (.return_, 1) := by decide +kernel
set_option maxRecDepth 20000 in
theorem ggX1_pickOf_X1_dearestOf : GoodIn wsX1_pickOf wsX1_dearestOf := goodIn_r _ [6, 7, 14, 15, 16, 17, 18] (by decide +kernel) (by decide +kernel)
set_option maxRecDepth 20000 in
theorem gX1_pickOf_X1_dearestOf : GoodIn wsX1_pickOf (wsV RX1 32 RX1 yX1_dearestOf wsX1_dearestOf) := goodIn_app (goodIn_of _ (by decide +kernel)) ggX1_pickOf_X1_dearestOf
set_option maxRecDepth 20000 in
theorem ggX1_pickOf_X1_leastOf : GoodIn wsX1_pickOf wsX1_leastOf := goodIn_r _ [10] (by decide +kernel) (by decide +kernel)
set_option maxRecDepth 20000 in
theorem gX1_pickOf_X1_leastOf : GoodIn wsX1_pickOf (va_wsS RX1 36 yX1_leastOf wsX1_leastOf) := goodIn_app (goodIn_of _ (by decide +kernel)) ggX1_pickOf_X1_leastOf
set_option maxRecDepth 20000 in
theorem ggX1_pickOf_X1_greatestOf : GoodIn wsX1_pickOf wsX1_greatestOf := goodIn_r _ [13] (by decide +kernel) (by decide +kernel)
set_option maxRecDepth 20000 in
theorem gX1_pickOf_X1_greatestOf : GoodIn wsX1_pickOf (va_wsS RX1 39 yX1_greatestOf wsX1_greatestOf) := goodIn_app (goodIn_of _ (by decide +kernel)) ggX1_pickOf_X1_greatestOf
theorem dX1_pickOf_0 : decode cX1_pickOf 0 = .ok (.iconst 1, 1) := by decide +kernel
theorem dX1_pickOf_1 : decode cX1_pickOf 1 = .ok (.aload_n 0, 1) := by decide +kernel
theorem dX1_pickOf_2 : decode cX1_pickOf 2 = .ok (.getfield 22, 3) := by decide +kernel
theorem dX1_pickOf_5 : decode cX1_pickOf 5 = .ok (.ishl, 1) := by decide +kernel
theorem dX1_pickOf_6 : decode cX1_pickOf 6 = .ok (.iconst 1, 1) := by decide +kernel
theorem dX1_pickOf_7 : decode cX1_pickOf 7 = .ok (.isub, 1) := by decide +kernel
theorem dX1_pickOf_8 : decode cX1_pickOf 8 = .ok (.iload_n 3, 1) := by decide +kernel
theorem dX1_pickOf_9 : decode cX1_pickOf 9 = .ok (.iconst (-1), 1) := by decide +kernel
theorem dX1_pickOf_10 : decode cX1_pickOf 10 = .ok (.ixor, 1) := by decide +kernel
theorem dX1_pickOf_11 : decode cX1_pickOf 11 = .ok (.iand, 1) := by decide +kernel
theorem dX1_pickOf_12 : decode cX1_pickOf 12 = .ok (.istore 4, 2) := by decide +kernel
theorem dX1_pickOf_14 : decode cX1_pickOf 14 = .ok (.iload 4, 2) := by decide +kernel
theorem dX1_pickOf_16 : decode cX1_pickOf 16 = .ok (.iload_n 2, 1) := by decide +kernel
theorem dX1_pickOf_17 : decode cX1_pickOf 17 = .ok (.iand, 1) := by decide +kernel
theorem dX1_pickOf_18 : decode cX1_pickOf 18 = .ok (.istore 5, 2) := by decide +kernel
theorem dX1_pickOf_20 : decode cX1_pickOf 20 = .ok (.iload_n 1, 1) := by decide +kernel
theorem dX1_pickOf_21 : decode cX1_pickOf 21 = .ok (.iconst 1, 1) := by decide +kernel
theorem dX1_pickOf_22 : decode cX1_pickOf 22 = .ok (.if_icmp .ne 10, 3) := by decide +kernel
theorem dX1_pickOf_25 : decode cX1_pickOf 25 = .ok (.aload_n 0, 1) := by decide +kernel
theorem dX1_pickOf_26 : decode cX1_pickOf 26 = .ok (.iload 4, 2) := by decide +kernel
theorem dX1_pickOf_28 : decode cX1_pickOf 28 = .ok (.invokevirtual 32, 3) := by decide +kernel
theorem dX1_pickOf_31 : decode cX1_pickOf 31 = .ok (.ireturn, 1) := by decide +kernel
theorem dX1_pickOf_32 : decode cX1_pickOf 32 = .ok (.iload_n 1, 1) := by decide +kernel
theorem dX1_pickOf_33 : decode cX1_pickOf 33 = .ok (.iconst 2, 1) := by decide +kernel
theorem dX1_pickOf_34 : decode cX1_pickOf 34 = .ok (.if_icmp .ne 14, 3) := by decide +kernel
theorem dX1_pickOf_37 : decode cX1_pickOf 37 = .ok (.iload 5, 2) := by decide +kernel
theorem dX1_pickOf_39 : decode cX1_pickOf 39 = .ok (.ifCond .eq 9, 3) := by decide +kernel
theorem dX1_pickOf_42 : decode cX1_pickOf 42 = .ok (.iload 5, 2) := by decide +kernel
theorem dX1_pickOf_44 : decode cX1_pickOf 44 = .ok (.invokestatic 36, 3) := by decide +kernel
theorem dX1_pickOf_47 : decode cX1_pickOf 47 = .ok (.ireturn, 1) := by decide +kernel
theorem dX1_pickOf_48 : decode cX1_pickOf 48 = .ok (.iload_n 1, 1) := by decide +kernel
theorem dX1_pickOf_49 : decode cX1_pickOf 49 = .ok (.iconst 3, 1) := by decide +kernel
theorem dX1_pickOf_50 : decode cX1_pickOf 50 = .ok (.if_icmp .ne 14, 3) := by decide +kernel
theorem dX1_pickOf_53 : decode cX1_pickOf 53 = .ok (.iload 5, 2) := by decide +kernel
theorem dX1_pickOf_55 : decode cX1_pickOf 55 = .ok (.ifCond .eq 9, 3) := by decide +kernel
theorem dX1_pickOf_58 : decode cX1_pickOf 58 = .ok (.iload 5, 2) := by decide +kernel
theorem dX1_pickOf_60 : decode cX1_pickOf 60 = .ok (.invokestatic 39, 3) := by decide +kernel
theorem dX1_pickOf_63 : decode cX1_pickOf 63 = .ok (.ireturn, 1) := by decide +kernel
theorem dX1_pickOf_64 : decode cX1_pickOf 64 = .ok (.iload 4, 2) := by decide +kernel
theorem dX1_pickOf_66 : decode cX1_pickOf 66 = .ok (.invokestatic 36, 3) := by decide +kernel
theorem dX1_pickOf_69 : decode cX1_pickOf 69 = .ok (.ireturn, 1) := by decide +kernel
theorem dX1_dearestOf_0 : decode cX1_dearestOf 0 = .ok (.bipush (-9), 2) := by decide +kernel
theorem dX1_dearestOf_2 : decode cX1_dearestOf 2 = .ok (.istore_n 2, 1) := by decide +kernel
theorem dX1_dearestOf_3 : decode cX1_dearestOf 3 = .ok (.iconst 4, 1) := by decide +kernel
theorem dX1_dearestOf_4 : decode cX1_dearestOf 4 = .ok (.istore_n 3, 1) := by decide +kernel
theorem dX1_dearestOf_5 : decode cX1_dearestOf 5 = .ok (.iconst 0, 1) := by decide +kernel
theorem dX1_dearestOf_6 : decode cX1_dearestOf 6 = .ok (.istore 4, 2) := by decide +kernel
theorem dX1_dearestOf_8 : decode cX1_dearestOf 8 = .ok (.iload 4, 2) := by decide +kernel
theorem dX1_dearestOf_10 : decode cX1_dearestOf 10 = .ok (.aload_n 0, 1) := by decide +kernel
theorem dX1_dearestOf_11 : decode cX1_dearestOf 11 = .ok (.getfield 15, 3) := by decide +kernel
theorem dX1_dearestOf_14 : decode cX1_dearestOf 14 = .ok (.arraylength, 1) := by decide +kernel
theorem dX1_dearestOf_15 : decode cX1_dearestOf 15 = .ok (.if_icmp .ge 41, 3) := by decide +kernel
theorem dX1_dearestOf_18 : decode cX1_dearestOf 18 = .ok (.iload_n 1, 1) := by decide +kernel
theorem dX1_dearestOf_19 : decode cX1_dearestOf 19 = .ok (.iload 4, 2) := by decide +kernel
theorem dX1_dearestOf_21 : decode cX1_dearestOf 21 = .ok (.ishr, 1) := by decide +kernel
theorem dX1_dearestOf_22 : decode cX1_dearestOf 22 = .ok (.iconst 1, 1) := by decide +kernel
theorem dX1_dearestOf_23 : decode cX1_dearestOf 23 = .ok (.iand, 1) := by decide +kernel
theorem dX1_dearestOf_24 : decode cX1_dearestOf 24 = .ok (.iconst 1, 1) := by decide +kernel
theorem dX1_dearestOf_25 : decode cX1_dearestOf 25 = .ok (.if_icmp .ne 25, 3) := by decide +kernel
theorem dX1_dearestOf_28 : decode cX1_dearestOf 28 = .ok (.aload_n 0, 1) := by decide +kernel
theorem dX1_dearestOf_29 : decode cX1_dearestOf 29 = .ok (.getfield 15, 3) := by decide +kernel
theorem dX1_dearestOf_32 : decode cX1_dearestOf 32 = .ok (.iload 4, 2) := by decide +kernel
theorem dX1_dearestOf_34 : decode cX1_dearestOf 34 = .ok (.iaload, 1) := by decide +kernel
theorem dX1_dearestOf_35 : decode cX1_dearestOf 35 = .ok (.iload_n 3, 1) := by decide +kernel
theorem dX1_dearestOf_36 : decode cX1_dearestOf 36 = .ok (.if_icmp .ge 14, 3) := by decide +kernel
theorem dX1_dearestOf_39 : decode cX1_dearestOf 39 = .ok (.iload 4, 2) := by decide +kernel
theorem dX1_dearestOf_41 : decode cX1_dearestOf 41 = .ok (.istore_n 2, 1) := by decide +kernel
theorem dX1_dearestOf_42 : decode cX1_dearestOf 42 = .ok (.aload_n 0, 1) := by decide +kernel
theorem dX1_dearestOf_43 : decode cX1_dearestOf 43 = .ok (.getfield 15, 3) := by decide +kernel
theorem dX1_dearestOf_46 : decode cX1_dearestOf 46 = .ok (.iload 4, 2) := by decide +kernel
theorem dX1_dearestOf_48 : decode cX1_dearestOf 48 = .ok (.iaload, 1) := by decide +kernel
theorem dX1_dearestOf_49 : decode cX1_dearestOf 49 = .ok (.istore_n 3, 1) := by decide +kernel
theorem dX1_dearestOf_50 : decode cX1_dearestOf 50 = .ok (.iinc 4 1, 3) := by decide +kernel
theorem dX1_dearestOf_53 : decode cX1_dearestOf 53 = .ok (.goto (-45), 3) := by decide +kernel
theorem dX1_dearestOf_56 : decode cX1_dearestOf 56 = .ok (.iload_n 2, 1) := by decide +kernel
theorem dX1_dearestOf_57 : decode cX1_dearestOf 57 = .ok (.ireturn, 1) := by decide +kernel
theorem dX1_leastOf_0 : decode cX1_leastOf 0 = .ok (.iconst 0, 1) := by decide +kernel
theorem dX1_leastOf_1 : decode cX1_leastOf 1 = .ok (.istore_n 1, 1) := by decide +kernel
theorem dX1_leastOf_2 : decode cX1_leastOf 2 = .ok (.iload_n 1, 1) := by decide +kernel
theorem dX1_leastOf_3 : decode cX1_leastOf 3 = .ok (.iconst 4, 1) := by decide +kernel
theorem dX1_leastOf_4 : decode cX1_leastOf 4 = .ok (.if_icmp .ge 20, 3) := by decide +kernel
theorem dX1_leastOf_7 : decode cX1_leastOf 7 = .ok (.iload_n 0, 1) := by decide +kernel
theorem dX1_leastOf_8 : decode cX1_leastOf 8 = .ok (.iload_n 1, 1) := by decide +kernel
theorem dX1_leastOf_9 : decode cX1_leastOf 9 = .ok (.ishr, 1) := by decide +kernel
theorem dX1_leastOf_10 : decode cX1_leastOf 10 = .ok (.iconst 1, 1) := by decide +kernel
theorem dX1_leastOf_11 : decode cX1_leastOf 11 = .ok (.iand, 1) := by decide +kernel
theorem dX1_leastOf_12 : decode cX1_leastOf 12 = .ok (.iconst 1, 1) := by decide +kernel
theorem dX1_leastOf_13 : decode cX1_leastOf 13 = .ok (.if_icmp .ne 5, 3) := by decide +kernel
theorem dX1_leastOf_16 : decode cX1_leastOf 16 = .ok (.iload_n 1, 1) := by decide +kernel
theorem dX1_leastOf_17 : decode cX1_leastOf 17 = .ok (.ireturn, 1) := by decide +kernel
theorem dX1_leastOf_18 : decode cX1_leastOf 18 = .ok (.iinc 1 1, 3) := by decide +kernel
theorem dX1_leastOf_21 : decode cX1_leastOf 21 = .ok (.goto (-19), 3) := by decide +kernel
theorem dX1_leastOf_24 : decode cX1_leastOf 24 = .ok (.bipush (-9), 2) := by decide +kernel
theorem dX1_leastOf_26 : decode cX1_leastOf 26 = .ok (.ireturn, 1) := by decide +kernel
theorem dX1_greatestOf_0 : decode cX1_greatestOf 0 = .ok (.iconst 3, 1) := by decide +kernel
theorem dX1_greatestOf_1 : decode cX1_greatestOf 1 = .ok (.istore_n 1, 1) := by decide +kernel
theorem dX1_greatestOf_2 : decode cX1_greatestOf 2 = .ok (.iload_n 1, 1) := by decide +kernel
theorem dX1_greatestOf_3 : decode cX1_greatestOf 3 = .ok (.ifCond .lt 20, 3) := by decide +kernel
theorem dX1_greatestOf_6 : decode cX1_greatestOf 6 = .ok (.iload_n 0, 1) := by decide +kernel
theorem dX1_greatestOf_7 : decode cX1_greatestOf 7 = .ok (.iload_n 1, 1) := by decide +kernel
theorem dX1_greatestOf_8 : decode cX1_greatestOf 8 = .ok (.ishr, 1) := by decide +kernel
theorem dX1_greatestOf_9 : decode cX1_greatestOf 9 = .ok (.iconst 1, 1) := by decide +kernel
theorem dX1_greatestOf_10 : decode cX1_greatestOf 10 = .ok (.iand, 1) := by decide +kernel
theorem dX1_greatestOf_11 : decode cX1_greatestOf 11 = .ok (.iconst 1, 1) := by decide +kernel
theorem dX1_greatestOf_12 : decode cX1_greatestOf 12 = .ok (.if_icmp .ne 5, 3) := by decide +kernel
theorem dX1_greatestOf_15 : decode cX1_greatestOf 15 = .ok (.iload_n 1, 1) := by decide +kernel
theorem dX1_greatestOf_16 : decode cX1_greatestOf 16 = .ok (.ireturn, 1) := by decide +kernel
theorem dX1_greatestOf_17 : decode cX1_greatestOf 17 = .ok (.iinc 1 (-1), 3) := by decide +kernel
theorem dX1_greatestOf_20 : decode cX1_greatestOf 20 = .ok (.goto (-18), 3) := by decide +kernel
theorem dX1_greatestOf_23 : decode cX1_greatestOf 23 = .ok (.bipush (-9), 2) := by decide +kernel
theorem dX1_greatestOf_25 : decode cX1_greatestOf 25 = .ok (.ireturn, 1) := by decide +kernel
set_option maxRecDepth 20000 in
theorem ggX2_init_X1_init : GoodIn wsX2_init wsX1_init := goodIn_r _ [13, 14, 2, 3, 15, 16, 17, 18, 25, 26, 27, 28, 29] (by decide +kernel) (by decide +kernel)
set_option maxRecDepth 20000 in
theorem gX2_init_X1_init_n11 : GoodIn wsX2_init (wsX1_init) := ggX2_init_X1_init
set_option maxRecDepth 20000 in
theorem ggX2_init_X4_init : GoodIn wsX2_init wsX4_init := goodIn_r _ [20, 21, 2, 3, 16, 22, 23, 24, 34, 35, 36, 37, 38, 39] (by decide +kernel) (by decide +kernel)
set_option maxRecDepth 20000 in
theorem gX2_init_X4_init_n20 : GoodIn wsX2_init (wsX4_init) := ggX2_init_X4_init
theorem dX2_init_0 : decode cX2_init 0 = .ok (.aload_n 0, 1) := by decide +kernel
theorem dX2_init_1 : decode cX2_init 1 = .ok (.invokespecial 3, 3) := by decide +kernel
theorem dX2_init_4 : decode cX2_init 4 = .ok (.aload_n 0, 1) := by decide +kernel
theorem dX2_init_5 : decode cX2_init 5 = .ok (.new 9, 3) := by decide +kernel
theorem dX2_init_8 : decode cX2_init 8 = .ok (.dup, 1) := by decide +kernel
theorem dX2_init_9 : decode cX2_init 9 = .ok (.invokespecial 11, 3) := by decide +kernel
theorem dX2_init_12 : decode cX2_init 12 = .ok (.putfield 12, 3) := by decide +kernel
theorem dX2_init_15 : decode cX2_init 15 = .ok (.aload_n 0, 1) := by decide +kernel
theorem dX2_init_16 : decode cX2_init 16 = .ok (.new 18, 3) := by decide +kernel
theorem dX2_init_19 : decode cX2_init 19 = .ok (.dup, 1) := by decide +kernel
theorem dX2_init_20 : decode cX2_init 20 = .ok (.invokespecial 20, 3) := by decide +kernel
theorem dX2_init_23 : decode cX2_init 23 = .ok (.putfield 21, 3) := by decide +kernel
theorem dX2_init_26 : decode cX2_init 26 = .ok (.return_, 1) := by decide +kernel
set_option maxRecDepth 20000 in
theorem ggX2_firstFault_X2_begin : GoodIn wsX2_firstFault wsX2_begin := goodIn_r _ [6, 1, 7, 8, 9, 10, 11, 12, 13, 14, 15, 34, 35, 36, 37, 38, 39, 40, 41, 42, 43, 44, 45, 46, 47, 48] (by decide +kernel) (by decide +kernel)
set_option maxRecDepth 20000 in
theorem gX2_firstFault_X2_begin : GoodIn wsX2_firstFault (wsV RX2 25 RX2 yX2_begin wsX2_begin) := goodIn_app (goodIn_of _ (by decide +kernel)) ggX2_firstFault_X2_begin
set_option maxRecDepth 20000 in
theorem ggX2_firstFault_X2_takes : GoodIn wsX2_firstFault wsX2_takes := goodIn_r _ [19, 1, 7, 8, 20, 9, 21, 11, 22, 23, 10, 24, 25, 5, 26, 27, 28, 29, 30, 12, 31, 32, 33, 34, 35, 36, 37, 38, 39, 40, 41, 42, 43, 44, 45, 46, 47, 48] (by decide +kernel) (by decide +kernel)
set_option maxRecDepth 20000 in
theorem gX2_firstFault_X2_takes : GoodIn wsX2_firstFault (wsV RX2 28 RX2 yX2_takes wsX2_takes) := goodIn_app (goodIn_of _ (by decide +kernel)) ggX2_firstFault_X2_takes
theorem dX2_firstFault_0 : decode cX2_firstFault 0 = .ok (.aload_n 0, 1) := by decide +kernel
theorem dX2_firstFault_1 : decode cX2_firstFault 1 = .ok (.invokevirtual 25, 3) := by decide +kernel
theorem dX2_firstFault_4 : decode cX2_firstFault 4 = .ok (.iconst 0, 1) := by decide +kernel
theorem dX2_firstFault_5 : decode cX2_firstFault 5 = .ok (.istore_n 3, 1) := by decide +kernel
theorem dX2_firstFault_6 : decode cX2_firstFault 6 = .ok (.iload_n 3, 1) := by decide +kernel
theorem dX2_firstFault_7 : decode cX2_firstFault 7 = .ok (.iload_n 2, 1) := by decide +kernel
theorem dX2_firstFault_8 : decode cX2_firstFault 8 = .ok (.if_icmp .ge 27, 3) := by decide +kernel
theorem dX2_firstFault_11 : decode cX2_firstFault 11 = .ok (.iload_n 3, 1) := by decide +kernel
theorem dX2_firstFault_12 : decode cX2_firstFault 12 = .ok (.aload_n 1, 1) := by decide +kernel
theorem dX2_firstFault_13 : decode cX2_firstFault 13 = .ok (.arraylength, 1) := by decide +kernel
theorem dX2_firstFault_14 : decode cX2_firstFault 14 = .ok (.if_icmp .ge 21, 3) := by decide +kernel
theorem dX2_firstFault_17 : decode cX2_firstFault 17 = .ok (.aload_n 0, 1) := by decide +kernel
theorem dX2_firstFault_18 : decode cX2_firstFault 18 = .ok (.aload_n 1, 1) := by decide +kernel
theorem dX2_firstFault_19 : decode cX2_firstFault 19 = .ok (.iload_n 3, 1) := by decide +kernel
theorem dX2_firstFault_20 : decode cX2_firstFault 20 = .ok (.iaload, 1) := by decide +kernel
theorem dX2_firstFault_21 : decode cX2_firstFault 21 = .ok (.invokevirtual 28, 3) := by decide +kernel
theorem dX2_firstFault_24 : decode cX2_firstFault 24 = .ok (.ifCond .ne 5, 3) := by decide +kernel
theorem dX2_firstFault_27 : decode cX2_firstFault 27 = .ok (.iload_n 3, 1) := by decide +kernel
theorem dX2_firstFault_28 : decode cX2_firstFault 28 = .ok (.ireturn, 1) := by decide +kernel
theorem dX2_firstFault_29 : decode cX2_firstFault 29 = .ok (.iinc 3 1, 3) := by decide +kernel
theorem dX2_firstFault_32 : decode cX2_firstFault 32 = .ok (.goto (-26), 3) := by decide +kernel
theorem dX2_firstFault_35 : decode cX2_firstFault 35 = .ok (.aload_n 0, 1) := by decide +kernel
theorem dX2_firstFault_36 : decode cX2_firstFault 36 = .ok (.getfield 32, 3) := by decide +kernel
theorem dX2_firstFault_39 : decode cX2_firstFault 39 = .ok (.iconst 2, 1) := by decide +kernel
theorem dX2_firstFault_40 : decode cX2_firstFault 40 = .ok (.if_icmp .ne 8, 3) := by decide +kernel
theorem dX2_firstFault_43 : decode cX2_firstFault 43 = .ok (.bipush (-9), 2) := by decide +kernel
theorem dX2_firstFault_45 : decode cX2_firstFault 45 = .ok (.goto 4, 3) := by decide +kernel
theorem dX2_firstFault_48 : decode cX2_firstFault 48 = .ok (.iload_n 2, 1) := by decide +kernel
theorem dX2_firstFault_49 : decode cX2_firstFault 49 = .ok (.ireturn, 1) := by decide +kernel
theorem dX2_begin_0 : decode cX2_begin 0 = .ok (.aload_n 0, 1) := by decide +kernel
theorem dX2_begin_1 : decode cX2_begin 1 = .ok (.iconst 0, 1) := by decide +kernel
theorem dX2_begin_2 : decode cX2_begin 2 = .ok (.putfield 32, 3) := by decide +kernel
theorem dX2_begin_5 : decode cX2_begin 5 = .ok (.aload_n 0, 1) := by decide +kernel
theorem dX2_begin_6 : decode cX2_begin 6 = .ok (.getfield 12, 3) := by decide +kernel
theorem dX2_begin_9 : decode cX2_begin 9 = .ok (.bipush 9, 2) := by decide +kernel
theorem dX2_begin_11 : decode cX2_begin 11 = .ok (.putfield 36, 3) := by decide +kernel
theorem dX2_begin_14 : decode cX2_begin 14 = .ok (.aload_n 0, 1) := by decide +kernel
theorem dX2_begin_15 : decode cX2_begin 15 = .ok (.getfield 12, 3) := by decide +kernel
theorem dX2_begin_18 : decode cX2_begin 18 = .ok (.iconst 0, 1) := by decide +kernel
theorem dX2_begin_19 : decode cX2_begin 19 = .ok (.putfield 39, 3) := by decide +kernel
theorem dX2_begin_22 : decode cX2_begin 22 = .ok (.aload_n 0, 1) := by decide +kernel
theorem dX2_begin_23 : decode cX2_begin 23 = .ok (.getfield 12, 3) := by decide +kernel
theorem dX2_begin_26 : decode cX2_begin 26 = .ok (.iconst 0, 1) := by decide +kernel
theorem dX2_begin_27 : decode cX2_begin 27 = .ok (.putfield 42, 3) := by decide +kernel
theorem dX2_begin_30 : decode cX2_begin 30 = .ok (.aload_n 0, 1) := by decide +kernel
theorem dX2_begin_31 : decode cX2_begin 31 = .ok (.getfield 21, 3) := by decide +kernel
theorem dX2_begin_34 : decode cX2_begin 34 = .ok (.bipush (-9), 2) := by decide +kernel
theorem dX2_begin_36 : decode cX2_begin 36 = .ok (.putfield 45, 3) := by decide +kernel
theorem dX2_begin_39 : decode cX2_begin 39 = .ok (.aload_n 0, 1) := by decide +kernel
theorem dX2_begin_40 : decode cX2_begin 40 = .ok (.getfield 21, 3) := by decide +kernel
theorem dX2_begin_43 : decode cX2_begin 43 = .ok (.iconst 0, 1) := by decide +kernel
theorem dX2_begin_44 : decode cX2_begin 44 = .ok (.putfield 48, 3) := by decide +kernel
theorem dX2_begin_47 : decode cX2_begin 47 = .ok (.aload_n 0, 1) := by decide +kernel
theorem dX2_begin_48 : decode cX2_begin 48 = .ok (.getfield 21, 3) := by decide +kernel
theorem dX2_begin_51 : decode cX2_begin 51 = .ok (.iconst 0, 1) := by decide +kernel
theorem dX2_begin_52 : decode cX2_begin 52 = .ok (.putfield 51, 3) := by decide +kernel
theorem dX2_begin_55 : decode cX2_begin 55 = .ok (.aload_n 0, 1) := by decide +kernel
theorem dX2_begin_56 : decode cX2_begin 56 = .ok (.getfield 21, 3) := by decide +kernel
theorem dX2_begin_59 : decode cX2_begin 59 = .ok (.iconst 0, 1) := by decide +kernel
theorem dX2_begin_60 : decode cX2_begin 60 = .ok (.putfield 54, 3) := by decide +kernel
theorem dX2_begin_63 : decode cX2_begin 63 = .ok (.return_, 1) := by decide +kernel
set_option maxRecDepth 20000 in
theorem ggX2_takes_X2_isBelow : GoodIn wsX2_takes wsX2_isBelow := goodIn_r _ [14] (by decide +kernel) (by decide +kernel)
set_option maxRecDepth 20000 in
theorem gX2_takes_X2_isBelow : GoodIn wsX2_takes (va_wsS RX2 58 yX2_isBelow wsX2_isBelow) := goodIn_app (goodIn_of _ (by decide +kernel)) ggX2_takes_X2_isBelow
set_option maxRecDepth 20000 in
theorem ggX2_takes_X2_opensPart : GoodIn wsX2_takes wsX2_opensPart := goodIn_r _ [18, 1, 2, 10, 5, 7, 19, 23, 24, 25, 26, 27, 28, 29, 30, 31, 32, 33, 34, 35, 36, 37] (by decide +kernel) (by decide +kernel)
set_option maxRecDepth 20000 in
theorem gX2_takes_X2_opensPart : GoodIn wsX2_takes (wsV RX2 62 RX2 yX2_opensPart wsX2_opensPart) := goodIn_app (goodIn_of _ (by decide +kernel)) ggX2_takes_X2_opensPart
set_option maxRecDepth 20000 in
theorem ggX2_takes_X5_put : GoodIn wsX2_takes wsX5_put := goodIn_r _ [22] (by decide +kernel) (by decide +kernel)
set_option maxRecDepth 20000 in
theorem gX2_takes_X5_put_n69 : GoodIn wsX2_takes (wsX5_put) := ggX2_takes_X5_put
theorem dX2_takes_0 : decode cX2_takes 0 = .ok (.iload_n 1, 1) := by decide +kernel
theorem dX2_takes_1 : decode cX2_takes 1 = .ok (.bipush 48, 2) := by decide +kernel
theorem dX2_takes_3 : decode cX2_takes 3 = .ok (.isub, 1) := by decide +kernel
theorem dX2_takes_4 : decode cX2_takes 4 = .ok (.istore_n 2, 1) := by decide +kernel
theorem dX2_takes_5 : decode cX2_takes 5 = .ok (.aload_n 0, 1) := by decide +kernel
theorem dX2_takes_6 : decode cX2_takes 6 = .ok (.getfield 32, 3) := by decide +kernel
theorem dX2_takes_9 : decode cX2_takes 9 = .ok (.tableswitch 190 0 5 #[39, 56, 89, 95, 124, 141], 39) := by decide +kernel
theorem dX2_takes_48 : decode cX2_takes 48 = .ok (.aload_n 0, 1) := by decide +kernel
theorem dX2_takes_49 : decode cX2_takes 49 = .ok (.iconst 1, 1) := by decide +kernel
theorem dX2_takes_50 : decode cX2_takes 50 = .ok (.putfield 32, 3) := by decide +kernel
theorem dX2_takes_53 : decode cX2_takes 53 = .ok (.iload_n 1, 1) := by decide +kernel
theorem dX2_takes_54 : decode cX2_takes 54 = .ok (.bipush 71, 2) := by decide +kernel
theorem dX2_takes_56 : decode cX2_takes 56 = .ok (.if_icmp .ne 7, 3) := by decide +kernel
theorem dX2_takes_59 : decode cX2_takes 59 = .ok (.iconst 1, 1) := by decide +kernel
theorem dX2_takes_60 : decode cX2_takes 60 = .ok (.goto 4, 3) := by decide +kernel
theorem dX2_takes_63 : decode cX2_takes 63 = .ok (.iconst 0, 1) := by decide +kernel
theorem dX2_takes_64 : decode cX2_takes 64 = .ok (.ireturn, 1) := by decide +kernel
theorem dX2_takes_65 : decode cX2_takes 65 = .ok (.aload_n 0, 1) := by decide +kernel
theorem dX2_takes_66 : decode cX2_takes 66 = .ok (.getfield 12, 3) := by decide +kernel
theorem dX2_takes_69 : decode cX2_takes 69 = .ok (.iload_n 2, 1) := by decide +kernel
theorem dX2_takes_70 : decode cX2_takes 70 = .ok (.putfield 36, 3) := by decide +kernel
theorem dX2_takes_73 : decode cX2_takes 73 = .ok (.aload_n 0, 1) := by decide +kernel
theorem dX2_takes_74 : decode cX2_takes 74 = .ok (.iconst 2, 1) := by decide +kernel
theorem dX2_takes_75 : decode cX2_takes 75 = .ok (.putfield 32, 3) := by decide +kernel
theorem dX2_takes_78 : decode cX2_takes 78 = .ok (.iload_n 2, 1) := by decide +kernel
theorem dX2_takes_79 : decode cX2_takes 79 = .ok (.bipush 9, 2) := by decide +kernel
theorem dX2_takes_81 : decode cX2_takes 81 = .ok (.if_icmp .eq 11, 3) := by decide +kernel
theorem dX2_takes_84 : decode cX2_takes 84 = .ok (.iload_n 2, 1) := by decide +kernel
theorem dX2_takes_85 : decode cX2_takes 85 = .ok (.iconst 5, 1) := by decide +kernel
theorem dX2_takes_86 : decode cX2_takes 86 = .ok (.invokestatic 58, 3) := by decide +kernel
theorem dX2_takes_89 : decode cX2_takes 89 = .ok (.ifCond .eq 7, 3) := by decide +kernel
theorem dX2_takes_92 : decode cX2_takes 92 = .ok (.iconst 1, 1) := by decide +kernel
theorem dX2_takes_93 : decode cX2_takes 93 = .ok (.goto 4, 3) := by decide +kernel
theorem dX2_takes_96 : decode cX2_takes 96 = .ok (.iconst 0, 1) := by decide +kernel
theorem dX2_takes_97 : decode cX2_takes 97 = .ok (.ireturn, 1) := by decide +kernel
theorem dX2_takes_98 : decode cX2_takes 98 = .ok (.aload_n 0, 1) := by decide +kernel
theorem dX2_takes_99 : decode cX2_takes 99 = .ok (.iload_n 1, 1) := by decide +kernel
theorem dX2_takes_100 : decode cX2_takes 100 = .ok (.invokevirtual 62, 3) := by decide +kernel
theorem dX2_takes_103 : decode cX2_takes 103 = .ok (.ireturn, 1) := by decide +kernel
theorem dX2_takes_104 : decode cX2_takes 104 = .ok (.aload_n 0, 1) := by decide +kernel
theorem dX2_takes_105 : decode cX2_takes 105 = .ok (.getfield 12, 3) := by decide +kernel
theorem dX2_takes_108 : decode cX2_takes 108 = .ok (.getfield 65, 3) := by decide +kernel
theorem dX2_takes_111 : decode cX2_takes 111 = .ok (.aload_n 0, 1) := by decide +kernel
theorem dX2_takes_112 : decode cX2_takes 112 = .ok (.getfield 12, 3) := by decide +kernel
theorem dX2_takes_115 : decode cX2_takes 115 = .ok (.getfield 39, 3) := by decide +kernel
theorem dX2_takes_118 : decode cX2_takes 118 = .ok (.iload_n 2, 1) := by decide +kernel
theorem dX2_takes_119 : decode cX2_takes 119 = .ok (.invokestatic 69, 3) := by decide +kernel
theorem dX2_takes_122 : decode cX2_takes 122 = .ok (.aload_n 0, 1) := by decide +kernel
theorem dX2_takes_123 : decode cX2_takes 123 = .ok (.iconst 4, 1) := by decide +kernel
theorem dX2_takes_124 : decode cX2_takes 124 = .ok (.putfield 32, 3) := by decide +kernel
theorem dX2_takes_127 : decode cX2_takes 127 = .ok (.iload_n 2, 1) := by decide +kernel
theorem dX2_takes_128 : decode cX2_takes 128 = .ok (.iconst 4, 1) := by decide +kernel
theorem dX2_takes_129 : decode cX2_takes 129 = .ok (.invokestatic 58, 3) := by decide +kernel
theorem dX2_takes_132 : decode cX2_takes 132 = .ok (.ireturn, 1) := by decide +kernel
theorem dX2_takes_133 : decode cX2_takes 133 = .ok (.aload_n 0, 1) := by decide +kernel
theorem dX2_takes_134 : decode cX2_takes 134 = .ok (.iload_n 2, 1) := by decide +kernel
theorem dX2_takes_135 : decode cX2_takes 135 = .ok (.putfield 73, 3) := by decide +kernel
theorem dX2_takes_138 : decode cX2_takes 138 = .ok (.aload_n 0, 1) := by decide +kernel
theorem dX2_takes_139 : decode cX2_takes 139 = .ok (.iconst 5, 1) := by decide +kernel
theorem dX2_takes_140 : decode cX2_takes 140 = .ok (.putfield 32, 3) := by decide +kernel
theorem dX2_takes_143 : decode cX2_takes 143 = .ok (.iload_n 2, 1) := by decide +kernel
theorem dX2_takes_144 : decode cX2_takes 144 = .ok (.bipush 6, 2) := by decide +kernel
theorem dX2_takes_146 : decode cX2_takes 146 = .ok (.invokestatic 58, 3) := by decide +kernel
theorem dX2_takes_149 : decode cX2_takes 149 = .ok (.ireturn, 1) := by decide +kernel
theorem dX2_takes_150 : decode cX2_takes 150 = .ok (.aload_n 0, 1) := by decide +kernel
theorem dX2_takes_151 : decode cX2_takes 151 = .ok (.getfield 21, 3) := by decide +kernel
theorem dX2_takes_154 : decode cX2_takes 154 = .ok (.getfield 76, 3) := by decide +kernel
theorem dX2_takes_157 : decode cX2_takes 157 = .ok (.aload_n 0, 1) := by decide +kernel
theorem dX2_takes_158 : decode cX2_takes 158 = .ok (.getfield 12, 3) := by decide +kernel
theorem dX2_takes_161 : decode cX2_takes 161 = .ok (.getfield 39, 3) := by decide +kernel
theorem dX2_takes_164 : decode cX2_takes 164 = .ok (.iconst 4, 1) := by decide +kernel
theorem dX2_takes_165 : decode cX2_takes 165 = .ok (.aload_n 0, 1) := by decide +kernel
theorem dX2_takes_166 : decode cX2_takes 166 = .ok (.getfield 73, 3) := by decide +kernel
theorem dX2_takes_169 : decode cX2_takes 169 = .ok (.imul, 1) := by decide +kernel
theorem dX2_takes_170 : decode cX2_takes 170 = .ok (.iload_n 2, 1) := by decide +kernel
theorem dX2_takes_171 : decode cX2_takes 171 = .ok (.iadd, 1) := by decide +kernel
theorem dX2_takes_172 : decode cX2_takes 172 = .ok (.invokestatic 69, 3) := by decide +kernel
theorem dX2_takes_175 : decode cX2_takes 175 = .ok (.aload_n 0, 1) := by decide +kernel
theorem dX2_takes_176 : decode cX2_takes 176 = .ok (.getfield 12, 3) := by decide +kernel
theorem dX2_takes_179 : decode cX2_takes 179 = .ok (.dup, 1) := by decide +kernel
theorem dX2_takes_180 : decode cX2_takes 180 = .ok (.getfield 39, 3) := by decide +kernel
theorem dX2_takes_183 : decode cX2_takes 183 = .ok (.iconst 1, 1) := by decide +kernel
theorem dX2_takes_184 : decode cX2_takes 184 = .ok (.iadd, 1) := by decide +kernel
theorem dX2_takes_185 : decode cX2_takes 185 = .ok (.putfield 39, 3) := by decide +kernel
theorem dX2_takes_188 : decode cX2_takes 188 = .ok (.aload_n 0, 1) := by decide +kernel
theorem dX2_takes_189 : decode cX2_takes 189 = .ok (.iconst 2, 1) := by decide +kernel
theorem dX2_takes_190 : decode cX2_takes 190 = .ok (.putfield 32, 3) := by decide +kernel
theorem dX2_takes_193 : decode cX2_takes 193 = .ok (.iload_n 2, 1) := by decide +kernel
theorem dX2_takes_194 : decode cX2_takes 194 = .ok (.iconst 4, 1) := by decide +kernel
theorem dX2_takes_195 : decode cX2_takes 195 = .ok (.invokestatic 58, 3) := by decide +kernel
theorem dX2_takes_198 : decode cX2_takes 198 = .ok (.ireturn, 1) := by decide +kernel
theorem dX2_takes_199 : decode cX2_takes 199 = .ok (.aload_n 0, 1) := by decide +kernel
theorem dX2_takes_200 : decode cX2_takes 200 = .ok (.getfield 12, 3) := by decide +kernel
theorem dX2_takes_203 : decode cX2_takes 203 = .ok (.getfield 79, 3) := by decide +kernel
theorem dX2_takes_206 : decode cX2_takes 206 = .ok (.aload_n 0, 1) := by decide +kernel
theorem dX2_takes_207 : decode cX2_takes 207 = .ok (.getfield 12, 3) := by decide +kernel
theorem dX2_takes_210 : decode cX2_takes 210 = .ok (.getfield 42, 3) := by decide +kernel
theorem dX2_takes_213 : decode cX2_takes 213 = .ok (.iload_n 2, 1) := by decide +kernel
theorem dX2_takes_214 : decode cX2_takes 214 = .ok (.invokestatic 69, 3) := by decide +kernel
theorem dX2_takes_217 : decode cX2_takes 217 = .ok (.aload_n 0, 1) := by decide +kernel
theorem dX2_takes_218 : decode cX2_takes 218 = .ok (.getfield 12, 3) := by decide +kernel
theorem dX2_takes_221 : decode cX2_takes 221 = .ok (.dup, 1) := by decide +kernel
theorem dX2_takes_222 : decode cX2_takes 222 = .ok (.getfield 42, 3) := by decide +kernel
theorem dX2_takes_225 : decode cX2_takes 225 = .ok (.iconst 1, 1) := by decide +kernel
theorem dX2_takes_226 : decode cX2_takes 226 = .ok (.iadd, 1) := by decide +kernel
theorem dX2_takes_227 : decode cX2_takes 227 = .ok (.putfield 42, 3) := by decide +kernel
theorem dX2_takes_230 : decode cX2_takes 230 = .ok (.aload_n 0, 1) := by decide +kernel
theorem dX2_takes_231 : decode cX2_takes 231 = .ok (.iconst 2, 1) := by decide +kernel
theorem dX2_takes_232 : decode cX2_takes 232 = .ok (.putfield 32, 3) := by decide +kernel
theorem dX2_takes_235 : decode cX2_takes 235 = .ok (.iload_n 2, 1) := by decide +kernel
theorem dX2_takes_236 : decode cX2_takes 236 = .ok (.iconst 4, 1) := by decide +kernel
theorem dX2_takes_237 : decode cX2_takes 237 = .ok (.invokestatic 58, 3) := by decide +kernel
theorem dX2_takes_240 : decode cX2_takes 240 = .ok (.ireturn, 1) := by decide +kernel
theorem dX2_opensPart_0 : decode cX2_opensPart 0 = .ok (.iload_n 1, 1) := by decide +kernel
theorem dX2_opensPart_1 : decode cX2_opensPart 1 = .ok (.bipush 87, 2) := by decide +kernel
theorem dX2_opensPart_3 : decode cX2_opensPart 3 = .ok (.if_icmp .ne 27, 3) := by decide +kernel
theorem dX2_opensPart_6 : decode cX2_opensPart 6 = .ok (.aload_n 0, 1) := by decide +kernel
theorem dX2_opensPart_7 : decode cX2_opensPart 7 = .ok (.bipush 6, 2) := by decide +kernel
theorem dX2_opensPart_9 : decode cX2_opensPart 9 = .ok (.putfield 32, 3) := by decide +kernel
theorem dX2_opensPart_12 : decode cX2_opensPart 12 = .ok (.aload_n 0, 1) := by decide +kernel
theorem dX2_opensPart_13 : decode cX2_opensPart 13 = .ok (.getfield 12, 3) := by decide +kernel
theorem dX2_opensPart_16 : decode cX2_opensPart 16 = .ok (.getfield 42, 3) := by decide +kernel
theorem dX2_opensPart_19 : decode cX2_opensPart 19 = .ok (.bipush 6, 2) := by decide +kernel
theorem dX2_opensPart_21 : decode cX2_opensPart 21 = .ok (.if_icmp .ge 7, 3) := by decide +kernel
theorem dX2_opensPart_24 : decode cX2_opensPart 24 = .ok (.iconst 1, 1) := by decide +kernel
theorem dX2_opensPart_25 : decode cX2_opensPart 25 = .ok (.goto 4, 3) := by decide +kernel
theorem dX2_opensPart_28 : decode cX2_opensPart 28 = .ok (.iconst 0, 1) := by decide +kernel
theorem dX2_opensPart_29 : decode cX2_opensPart 29 = .ok (.ireturn, 1) := by decide +kernel
theorem dX2_opensPart_30 : decode cX2_opensPart 30 = .ok (.aload_n 0, 1) := by decide +kernel
theorem dX2_opensPart_31 : decode cX2_opensPart 31 = .ok (.iconst 3, 1) := by decide +kernel
theorem dX2_opensPart_32 : decode cX2_opensPart 32 = .ok (.putfield 32, 3) := by decide +kernel
theorem dX2_opensPart_35 : decode cX2_opensPart 35 = .ok (.aload_n 0, 1) := by decide +kernel
theorem dX2_opensPart_36 : decode cX2_opensPart 36 = .ok (.getfield 12, 3) := by decide +kernel
theorem dX2_opensPart_39 : decode cX2_opensPart 39 = .ok (.getfield 39, 3) := by decide +kernel
theorem dX2_opensPart_42 : decode cX2_opensPart 42 = .ok (.iconst 4, 1) := by decide +kernel
theorem dX2_opensPart_43 : decode cX2_opensPart 43 = .ok (.if_icmp .lt 5, 3) := by decide +kernel
theorem dX2_opensPart_46 : decode cX2_opensPart 46 = .ok (.iconst 0, 1) := by decide +kernel
theorem dX2_opensPart_47 : decode cX2_opensPart 47 = .ok (.ireturn, 1) := by decide +kernel
theorem dX2_opensPart_48 : decode cX2_opensPart 48 = .ok (.iload_n 1, 1) := by decide +kernel
theorem dX2_opensPart_49 : decode cX2_opensPart 49 = .ok (.bipush 68, 2) := by decide +kernel
theorem dX2_opensPart_51 : decode cX2_opensPart 51 = .ok (.if_icmp .ne 31, 3) := by decide +kernel
theorem dX2_opensPart_54 : decode cX2_opensPart 54 = .ok (.aload_n 0, 1) := by decide +kernel
theorem dX2_opensPart_55 : decode cX2_opensPart 55 = .ok (.getfield 21, 3) := by decide +kernel
theorem dX2_opensPart_58 : decode cX2_opensPart 58 = .ok (.getfield 45, 3) := by decide +kernel
theorem dX2_opensPart_61 : decode cX2_opensPart 61 = .ok (.bipush (-9), 2) := by decide +kernel
theorem dX2_opensPart_63 : decode cX2_opensPart 63 = .ok (.if_icmp .ne 19, 3) := by decide +kernel
theorem dX2_opensPart_66 : decode cX2_opensPart 66 = .ok (.aload_n 0, 1) := by decide +kernel
theorem dX2_opensPart_67 : decode cX2_opensPart 67 = .ok (.getfield 21, 3) := by decide +kernel
theorem dX2_opensPart_70 : decode cX2_opensPart 70 = .ok (.aload_n 0, 1) := by decide +kernel
theorem dX2_opensPart_71 : decode cX2_opensPart 71 = .ok (.getfield 12, 3) := by decide +kernel
theorem dX2_opensPart_74 : decode cX2_opensPart 74 = .ok (.getfield 39, 3) := by decide +kernel
theorem dX2_opensPart_77 : decode cX2_opensPart 77 = .ok (.putfield 45, 3) := by decide +kernel
theorem dX2_opensPart_80 : decode cX2_opensPart 80 = .ok (.iconst 1, 1) := by decide +kernel
theorem dX2_opensPart_81 : decode cX2_opensPart 81 = .ok (.ireturn, 1) := by decide +kernel
theorem dX2_opensPart_82 : decode cX2_opensPart 82 = .ok (.iload_n 1, 1) := by decide +kernel
theorem dX2_opensPart_83 : decode cX2_opensPart 83 = .ok (.bipush 67, 2) := by decide +kernel
theorem dX2_opensPart_85 : decode cX2_opensPart 85 = .ok (.if_icmp .ne 7, 3) := by decide +kernel
theorem dX2_opensPart_88 : decode cX2_opensPart 88 = .ok (.iconst 1, 1) := by decide +kernel
theorem dX2_opensPart_89 : decode cX2_opensPart 89 = .ok (.goto 4, 3) := by decide +kernel
theorem dX2_opensPart_92 : decode cX2_opensPart 92 = .ok (.iconst 0, 1) := by decide +kernel
theorem dX2_opensPart_93 : decode cX2_opensPart 93 = .ok (.ireturn, 1) := by decide +kernel
theorem dX2_isBelow_0 : decode cX2_isBelow 0 = .ok (.iload_n 0, 1) := by decide +kernel
theorem dX2_isBelow_1 : decode cX2_isBelow 1 = .ok (.ifCond .lt 12, 3) := by decide +kernel
theorem dX2_isBelow_4 : decode cX2_isBelow 4 = .ok (.iload_n 0, 1) := by decide +kernel
theorem dX2_isBelow_5 : decode cX2_isBelow 5 = .ok (.iload_n 1, 1) := by decide +kernel
theorem dX2_isBelow_6 : decode cX2_isBelow 6 = .ok (.if_icmp .ge 7, 3) := by decide +kernel
theorem dX2_isBelow_9 : decode cX2_isBelow 9 = .ok (.iconst 1, 1) := by decide +kernel
theorem dX2_isBelow_10 : decode cX2_isBelow 10 = .ok (.goto 4, 3) := by decide +kernel
theorem dX2_isBelow_13 : decode cX2_isBelow 13 = .ok (.iconst 0, 1) := by decide +kernel
theorem dX2_isBelow_14 : decode cX2_isBelow 14 = .ok (.ireturn, 1) := by decide +kernel
set_option maxRecDepth 20000 in
theorem ggX3_init_X4_init : GoodIn wsX3_init wsX4_init := goodIn_r _ [9, 10, 2, 3, 11, 12, 13, 14, 15, 16, 17, 18, 19, 20] (by decide +kernel) (by decide +kernel)
set_option maxRecDepth 20000 in
theorem gX3_init_X4_init_n9 : GoodIn wsX3_init (wsX4_init) := ggX3_init_X4_init
theorem dX3_init_0 : decode cX3_init 0 = .ok (.aload_n 0, 1) := by decide +kernel
theorem dX3_init_1 : decode cX3_init 1 = .ok (.invokespecial 1, 3) := by decide +kernel
theorem dX3_init_4 : decode cX3_init 4 = .ok (.aload_n 0, 1) := by decide +kernel
theorem dX3_init_5 : decode cX3_init 5 = .ok (.new 7, 3) := by decide +kernel
theorem dX3_init_8 : decode cX3_init 8 = .ok (.dup, 1) := by decide +kernel
theorem dX3_init_9 : decode cX3_init 9 = .ok (.invokespecial 9, 3) := by decide +kernel
theorem dX3_init_12 : decode cX3_init 12 = .ok (.putfield 10, 3) := by decide +kernel
theorem dX3_init_15 : decode cX3_init 15 = .ok (.return_, 1) := by decide +kernel
theorem dX4_init_0 : decode cX4_init 0 = .ok (.aload_n 0, 1) := by decide +kernel
theorem dX4_init_1 : decode cX4_init 1 = .ok (.invokespecial 3, 3) := by decide +kernel
theorem dX4_init_4 : decode cX4_init 4 = .ok (.aload_n 0, 1) := by decide +kernel
theorem dX4_init_5 : decode cX4_init 5 = .ok (.iconst 4, 1) := by decide +kernel
theorem dX4_init_6 : decode cX4_init 6 = .ok (.newarray .int, 2) := by decide +kernel
theorem dX4_init_8 : decode cX4_init 8 = .ok (.putfield 9, 3) := by decide +kernel
theorem dX4_init_11 : decode cX4_init 11 = .ok (.aload_n 0, 1) := by decide +kernel
theorem dX4_init_12 : decode cX4_init 12 = .ok (.bipush (-9), 2) := by decide +kernel
theorem dX4_init_14 : decode cX4_init 14 = .ok (.putfield 15, 3) := by decide +kernel
theorem dX4_init_17 : decode cX4_init 17 = .ok (.aload_n 0, 1) := by decide +kernel
theorem dX4_init_18 : decode cX4_init 18 = .ok (.bipush 6, 2) := by decide +kernel
theorem dX4_init_20 : decode cX4_init 20 = .ok (.newarray .int, 2) := by decide +kernel
theorem dX4_init_22 : decode cX4_init 22 = .ok (.putfield 19, 3) := by decide +kernel
theorem dX4_init_25 : decode cX4_init 25 = .ok (.return_, 1) := by decide +kernel
set_option maxRecDepth 20000 in
theorem ggX4_copyFrom_X5_copyRow : GoodIn wsX4_copyFrom wsX5_copyRow := goodIn_r _ [9] (by decide +kernel) (by decide +kernel)
set_option maxRecDepth 20000 in
theorem gX4_copyFrom_X5_copyRow_n22 : GoodIn wsX4_copyFrom (wsX5_copyRow) := ggX4_copyFrom_X5_copyRow
theorem dX4_copyFrom_0 : decode cX4_copyFrom 0 = .ok (.aload_n 1, 1) := by decide +kernel
theorem dX4_copyFrom_1 : decode cX4_copyFrom 1 = .ok (.getfield 9, 3) := by decide +kernel
theorem dX4_copyFrom_4 : decode cX4_copyFrom 4 = .ok (.aload_n 0, 1) := by decide +kernel
theorem dX4_copyFrom_5 : decode cX4_copyFrom 5 = .ok (.getfield 9, 3) := by decide +kernel
theorem dX4_copyFrom_8 : decode cX4_copyFrom 8 = .ok (.invokestatic 22, 3) := by decide +kernel
theorem dX4_copyFrom_11 : decode cX4_copyFrom 11 = .ok (.aload_n 0, 1) := by decide +kernel
theorem dX4_copyFrom_12 : decode cX4_copyFrom 12 = .ok (.aload_n 1, 1) := by decide +kernel
theorem dX4_copyFrom_13 : decode cX4_copyFrom 13 = .ok (.getfield 15, 3) := by decide +kernel
theorem dX4_copyFrom_16 : decode cX4_copyFrom 16 = .ok (.putfield 15, 3) := by decide +kernel
theorem dX4_copyFrom_19 : decode cX4_copyFrom 19 = .ok (.aload_n 0, 1) := by decide +kernel
theorem dX4_copyFrom_20 : decode cX4_copyFrom 20 = .ok (.aload_n 1, 1) := by decide +kernel
theorem dX4_copyFrom_21 : decode cX4_copyFrom 21 = .ok (.getfield 26, 3) := by decide +kernel
theorem dX4_copyFrom_24 : decode cX4_copyFrom 24 = .ok (.putfield 26, 3) := by decide +kernel
theorem dX4_copyFrom_27 : decode cX4_copyFrom 27 = .ok (.aload_n 0, 1) := by decide +kernel
theorem dX4_copyFrom_28 : decode cX4_copyFrom 28 = .ok (.aload_n 1, 1) := by decide +kernel
theorem dX4_copyFrom_29 : decode cX4_copyFrom 29 = .ok (.getfield 29, 3) := by decide +kernel
theorem dX4_copyFrom_32 : decode cX4_copyFrom 32 = .ok (.putfield 29, 3) := by decide +kernel
theorem dX4_copyFrom_35 : decode cX4_copyFrom 35 = .ok (.aload_n 0, 1) := by decide +kernel
theorem dX4_copyFrom_36 : decode cX4_copyFrom 36 = .ok (.aload_n 1, 1) := by decide +kernel
theorem dX4_copyFrom_37 : decode cX4_copyFrom 37 = .ok (.getfield 32, 3) := by decide +kernel
theorem dX4_copyFrom_40 : decode cX4_copyFrom 40 = .ok (.putfield 32, 3) := by decide +kernel
theorem dX4_copyFrom_43 : decode cX4_copyFrom 43 = .ok (.aload_n 1, 1) := by decide +kernel
theorem dX4_copyFrom_44 : decode cX4_copyFrom 44 = .ok (.getfield 19, 3) := by decide +kernel
theorem dX4_copyFrom_47 : decode cX4_copyFrom 47 = .ok (.aload_n 0, 1) := by decide +kernel
theorem dX4_copyFrom_48 : decode cX4_copyFrom 48 = .ok (.getfield 19, 3) := by decide +kernel
theorem dX4_copyFrom_51 : decode cX4_copyFrom 51 = .ok (.invokestatic 22, 3) := by decide +kernel
theorem dX4_copyFrom_54 : decode cX4_copyFrom 54 = .ok (.return_, 1) := by decide +kernel
set_option maxRecDepth 20000 in
theorem ggX4_readings_X5_readingsOf : GoodIn wsX4_readings wsX5_readingsOf := goodIn_r _ [4, 5, 6, 7, 8, 9, 10, 3, 11, 12, 13, 14, 15, 16, 17, 18, 19, 20, 27, 28, 29, 30, 31] (by decide +kernel) (by decide +kernel)
set_option maxRecDepth 20000 in
theorem gX4_readings_X5_readingsOf_n36 : GoodIn wsX4_readings (wsX5_readingsOf) := ggX4_readings_X5_readingsOf
theorem dX4_readings_0 : decode cX4_readings 0 = .ok (.aload_n 1, 1) := by decide +kernel
theorem dX4_readings_1 : decode cX4_readings 1 = .ok (.aload_n 0, 1) := by decide +kernel
theorem dX4_readings_2 : decode cX4_readings 2 = .ok (.getfield 9, 3) := by decide +kernel
theorem dX4_readings_5 : decode cX4_readings 5 = .ok (.bipush 15, 2) := by decide +kernel
theorem dX4_readings_7 : decode cX4_readings 7 = .ok (.invokestatic 36, 3) := by decide +kernel
theorem dX4_readings_10 : decode cX4_readings 10 = .ok (.lreturn, 1) := by decide +kernel
set_option maxRecDepth 20000 in
theorem ggX4_fitting_X5_readingsOf : GoodIn wsX4_fitting wsX5_readingsOf := goodIn_r _ [4, 5, 6, 7, 8, 9, 10, 3, 11, 12, 13, 14, 15, 16, 17, 18, 19, 20, 29, 30, 31, 32, 33] (by decide +kernel) (by decide +kernel)
set_option maxRecDepth 20000 in
theorem gX4_fitting_X5_readingsOf_n36 : GoodIn wsX4_fitting (wsX5_readingsOf) := ggX4_fitting_X5_readingsOf
set_option maxRecDepth 20000 in
theorem ggX4_fitting_X5_fitsOf : GoodIn wsX4_fitting wsX5_fitsOf := goodIn_r _ [22, 17, 18, 3, 19, 20] (by decide +kernel) (by decide +kernel)
set_option maxRecDepth 20000 in
theorem gX4_fitting_X5_fitsOf_n40 : GoodIn wsX4_fitting (wsX5_fitsOf) := ggX4_fitting_X5_fitsOf
theorem dX4_fitting_0 : decode cX4_fitting 0 = .ok (.aload_n 1, 1) := by decide +kernel
theorem dX4_fitting_1 : decode cX4_fitting 1 = .ok (.aload_n 0, 1) := by decide +kernel
theorem dX4_fitting_2 : decode cX4_fitting 2 = .ok (.getfield 9, 3) := by decide +kernel
theorem dX4_fitting_5 : decode cX4_fitting 5 = .ok (.bipush 15, 2) := by decide +kernel
theorem dX4_fitting_7 : decode cX4_fitting 7 = .ok (.invokestatic 36, 3) := by decide +kernel
theorem dX4_fitting_10 : decode cX4_fitting 10 = .ok (.invokestatic 40, 3) := by decide +kernel
theorem dX4_fitting_13 : decode cX4_fitting 13 = .ok (.ireturn, 1) := by decide +kernel
set_option maxRecDepth 20000 in
theorem ggX4_fittingBy_X5_readingsOf : GoodIn wsX4_fittingBy wsX5_readingsOf := goodIn_r _ [4, 5, 6, 7, 8, 9, 10, 3, 11, 12, 13, 14, 15, 16, 17, 18, 19, 20, 29, 30, 31, 32, 33] (by decide +kernel) (by decide +kernel)
set_option maxRecDepth 20000 in
theorem gX4_fittingBy_X5_readingsOf_n36 : GoodIn wsX4_fittingBy (wsX5_readingsOf) := ggX4_fittingBy_X5_readingsOf
set_option maxRecDepth 20000 in
theorem ggX4_fittingBy_X5_fitsOf : GoodIn wsX4_fittingBy wsX5_fitsOf := goodIn_r _ [22, 17, 18, 3, 19, 20] (by decide +kernel) (by decide +kernel)
set_option maxRecDepth 20000 in
theorem gX4_fittingBy_X5_fitsOf_n40 : GoodIn wsX4_fittingBy (wsX5_fitsOf) := ggX4_fittingBy_X5_fitsOf
theorem dX4_fittingBy_0 : decode cX4_fittingBy 0 = .ok (.aload_n 1, 1) := by decide +kernel
theorem dX4_fittingBy_1 : decode cX4_fittingBy 1 = .ok (.aload_n 0, 1) := by decide +kernel
theorem dX4_fittingBy_2 : decode cX4_fittingBy 2 = .ok (.getfield 9, 3) := by decide +kernel
theorem dX4_fittingBy_5 : decode cX4_fittingBy 5 = .ok (.iload_n 2, 1) := by decide +kernel
theorem dX4_fittingBy_6 : decode cX4_fittingBy 6 = .ok (.invokestatic 36, 3) := by decide +kernel
theorem dX4_fittingBy_9 : decode cX4_fittingBy 9 = .ok (.invokestatic 40, 3) := by decide +kernel
theorem dX4_fittingBy_12 : decode cX4_fittingBy 12 = .ok (.ireturn, 1) := by decide +kernel
theorem dX4_mayTry_0 : decode cX4_mayTry 0 = .ok (.aload_n 0, 1) := by decide +kernel
theorem dX4_mayTry_1 : decode cX4_mayTry 1 = .ok (.getfield 32, 3) := by decide +kernel
theorem dX4_mayTry_4 : decode cX4_mayTry 4 = .ok (.ifCond .ne 18, 3) := by decide +kernel
theorem dX4_mayTry_7 : decode cX4_mayTry 7 = .ok (.aload_n 0, 1) := by decide +kernel
theorem dX4_mayTry_8 : decode cX4_mayTry 8 = .ok (.getfield 29, 3) := by decide +kernel
theorem dX4_mayTry_11 : decode cX4_mayTry 11 = .ok (.aload_n 1, 1) := by decide +kernel
theorem dX4_mayTry_12 : decode cX4_mayTry 12 = .ok (.getfield 44, 3) := by decide +kernel
theorem dX4_mayTry_15 : decode cX4_mayTry 15 = .ok (.if_icmp .ge 7, 3) := by decide +kernel
theorem dX4_mayTry_18 : decode cX4_mayTry 18 = .ok (.iconst 1, 1) := by decide +kernel
theorem dX4_mayTry_19 : decode cX4_mayTry 19 = .ok (.goto 4, 3) := by decide +kernel
theorem dX4_mayTry_22 : decode cX4_mayTry 22 = .ok (.iconst 0, 1) := by decide +kernel
theorem dX4_mayTry_23 : decode cX4_mayTry 23 = .ok (.ireturn, 1) := by decide +kernel
set_option maxRecDepth 20000 in
theorem ggX4_tryNext_X5_at : GoodIn wsX4_tryNext wsX5_at := goodIn_r _ [9] (by decide +kernel) (by decide +kernel)
set_option maxRecDepth 20000 in
theorem gX4_tryNext_X5_at_n52 : GoodIn wsX4_tryNext (wsX5_at) := ggX4_tryNext_X5_at
set_option maxRecDepth 20000 in
theorem ggX4_tryNext_X4_fitting : GoodIn wsX4_tryNext wsX4_fitting := goodIn_r _ [14, 15, 16, 8, 17, 18, 19, 20, 21, 22, 23, 24, 25, 26, 27, 28, 29, 30, 31, 32, 33, 34, 35, 60, 61, 62, 63, 64, 65, 55, 56, 57, 58, 59] (by decide +kernel) (by decide +kernel)
set_option maxRecDepth 20000 in
theorem gX4_tryNext_X4_fitting : GoodIn wsX4_tryNext (wsV RX4 56 RX4 yX4_fitting wsX4_fitting) := goodIn_app (goodIn_of _ (by decide +kernel)) ggX4_tryNext_X4_fitting
set_option maxRecDepth 20000 in
theorem ggX4_tryNext_X1_pickOf : GoodIn wsX4_tryNext wsX1_pickOf := goodIn_r _ [40, 41, 42, 43, 44, 39, 45, 46, 47, 48, 49, 50, 51, 52, 55, 56, 57, 58, 59] (by decide +kernel) (by decide +kernel)
set_option maxRecDepth 20000 in
theorem gX4_tryNext_X1_pickOf : GoodIn wsX4_tryNext (wsV RX4 60 RX1 yX1_pickOf wsX1_pickOf) := goodIn_app (goodIn_of _ (by decide +kernel)) ggX4_tryNext_X1_pickOf
set_option maxRecDepth 20000 in
theorem ggX4_tryNext_X5_put : GoodIn wsX4_tryNext wsX5_put := goodIn_r _ [54] (by decide +kernel) (by decide +kernel)
set_option maxRecDepth 20000 in
theorem gX4_tryNext_X5_put_n64 : GoodIn wsX4_tryNext (wsX5_put) := ggX4_tryNext_X5_put
theorem dX4_tryNext_0 : decode cX4_tryNext 0 = .ok (.aload_n 1, 1) := by decide +kernel
theorem dX4_tryNext_1 : decode cX4_tryNext 1 = .ok (.aload_n 1, 1) := by decide +kernel
theorem dX4_tryNext_2 : decode cX4_tryNext 2 = .ok (.getfield 49, 3) := by decide +kernel
theorem dX4_tryNext_5 : decode cX4_tryNext 5 = .ok (.aload_n 0, 1) := by decide +kernel
theorem dX4_tryNext_6 : decode cX4_tryNext 6 = .ok (.getfield 29, 3) := by decide +kernel
theorem dX4_tryNext_9 : decode cX4_tryNext 9 = .ok (.invokestatic 52, 3) := by decide +kernel
theorem dX4_tryNext_12 : decode cX4_tryNext 12 = .ok (.aload_n 0, 1) := by decide +kernel
theorem dX4_tryNext_13 : decode cX4_tryNext 13 = .ok (.aload_n 1, 1) := by decide +kernel
theorem dX4_tryNext_14 : decode cX4_tryNext 14 = .ok (.invokevirtual 56, 3) := by decide +kernel
theorem dX4_tryNext_17 : decode cX4_tryNext 17 = .ok (.aload_n 0, 1) := by decide +kernel
theorem dX4_tryNext_18 : decode cX4_tryNext 18 = .ok (.getfield 26, 3) := by decide +kernel
theorem dX4_tryNext_21 : decode cX4_tryNext 21 = .ok (.invokevirtual 60, 3) := by decide +kernel
theorem dX4_tryNext_24 : decode cX4_tryNext 24 = .ok (.istore_n 2, 1) := by decide +kernel
theorem dX4_tryNext_25 : decode cX4_tryNext 25 = .ok (.aload_n 0, 1) := by decide +kernel
theorem dX4_tryNext_26 : decode cX4_tryNext 26 = .ok (.getfield 19, 3) := by decide +kernel
theorem dX4_tryNext_29 : decode cX4_tryNext 29 = .ok (.aload_n 0, 1) := by decide +kernel
theorem dX4_tryNext_30 : decode cX4_tryNext 30 = .ok (.getfield 29, 3) := by decide +kernel
theorem dX4_tryNext_33 : decode cX4_tryNext 33 = .ok (.iload_n 2, 1) := by decide +kernel
theorem dX4_tryNext_34 : decode cX4_tryNext 34 = .ok (.invokestatic 64, 3) := by decide +kernel
theorem dX4_tryNext_37 : decode cX4_tryNext 37 = .ok (.aload_n 0, 1) := by decide +kernel
theorem dX4_tryNext_38 : decode cX4_tryNext 38 = .ok (.dup, 1) := by decide +kernel
theorem dX4_tryNext_39 : decode cX4_tryNext 39 = .ok (.getfield 29, 3) := by decide +kernel
theorem dX4_tryNext_42 : decode cX4_tryNext 42 = .ok (.iconst 1, 1) := by decide +kernel
theorem dX4_tryNext_43 : decode cX4_tryNext 43 = .ok (.iadd, 1) := by decide +kernel
theorem dX4_tryNext_44 : decode cX4_tryNext 44 = .ok (.putfield 29, 3) := by decide +kernel
theorem dX4_tryNext_47 : decode cX4_tryNext 47 = .ok (.aload_n 0, 1) := by decide +kernel
theorem dX4_tryNext_48 : decode cX4_tryNext 48 = .ok (.iload_n 2, 1) := by decide +kernel
theorem dX4_tryNext_49 : decode cX4_tryNext 49 = .ok (.bipush (-9), 2) := by decide +kernel
theorem dX4_tryNext_51 : decode cX4_tryNext 51 = .ok (.if_icmp .eq 15, 3) := by decide +kernel
theorem dX4_tryNext_54 : decode cX4_tryNext 54 = .ok (.iload_n 2, 1) := by decide +kernel
theorem dX4_tryNext_55 : decode cX4_tryNext 55 = .ok (.aload_n 0, 1) := by decide +kernel
theorem dX4_tryNext_56 : decode cX4_tryNext 56 = .ok (.getfield 15, 3) := by decide +kernel
theorem dX4_tryNext_59 : decode cX4_tryNext 59 = .ok (.if_icmp .ne 7, 3) := by decide +kernel
theorem dX4_tryNext_62 : decode cX4_tryNext 62 = .ok (.iconst 1, 1) := by decide +kernel
theorem dX4_tryNext_63 : decode cX4_tryNext 63 = .ok (.goto 4, 3) := by decide +kernel
theorem dX4_tryNext_66 : decode cX4_tryNext 66 = .ok (.iconst 0, 1) := by decide +kernel
theorem dX4_tryNext_67 : decode cX4_tryNext 67 = .ok (.putfield 32, 3) := by decide +kernel
theorem dX4_tryNext_70 : decode cX4_tryNext 70 = .ok (.iload_n 2, 1) := by decide +kernel
theorem dX4_tryNext_71 : decode cX4_tryNext 71 = .ok (.ireturn, 1) := by decide +kernel
theorem dX4_turnSong_0 : decode cX4_turnSong 0 = .ok (.aload_n 0, 1) := by decide +kernel
theorem dX4_turnSong_1 : decode cX4_turnSong 1 = .ok (.dup, 1) := by decide +kernel
theorem dX4_turnSong_2 : decode cX4_turnSong 2 = .ok (.getfield 26, 3) := by decide +kernel
theorem dX4_turnSong_5 : decode cX4_turnSong 5 = .ok (.iconst 1, 1) := by decide +kernel
theorem dX4_turnSong_6 : decode cX4_turnSong 6 = .ok (.iload_n 1, 1) := by decide +kernel
theorem dX4_turnSong_7 : decode cX4_turnSong 7 = .ok (.ishl, 1) := by decide +kernel
theorem dX4_turnSong_8 : decode cX4_turnSong 8 = .ok (.ixor, 1) := by decide +kernel
theorem dX4_turnSong_9 : decode cX4_turnSong 9 = .ok (.putfield 26, 3) := by decide +kernel
theorem dX4_turnSong_12 : decode cX4_turnSong 12 = .ok (.return_, 1) := by decide +kernel
set_option maxRecDepth 20000 in
theorem ggX4_couldDo_X4_mayTry : GoodIn wsX4_couldDo wsX4_mayTry := goodIn_r _ [6, 7, 8, 9, 72, 73, 74, 75, 76, 77, 78, 79, 80, 81, 82] (by decide +kernel) (by decide +kernel)
set_option maxRecDepth 20000 in
theorem gX4_couldDo_X4_mayTry : GoodIn wsX4_couldDo (wsV RX4 68 RX4 yX4_mayTry wsX4_mayTry) := goodIn_app (goodIn_of _ (by decide +kernel)) ggX4_couldDo_X4_mayTry
set_option maxRecDepth 20000 in
theorem ggX4_couldDo_X4_tryNext : GoodIn wsX4_couldDo wsX4_tryNext := goodIn_r _ [13, 14, 8, 15, 16, 1, 7, 17, 18, 19, 20, 21, 22, 5, 23, 24, 25, 26, 27, 28, 29, 30, 31, 32, 33, 34, 35, 36, 37, 38, 39, 40, 41, 42, 43, 44, 45, 46, 47, 48, 49, 50, 51, 52, 53, 54, 55, 56, 57, 58, 59, 60, 61, 62, 63, 78, 79, 80, 81, 82, 72, 73, 74, 75, 76, 77] (by decide +kernel) (by decide +kernel)
set_option maxRecDepth 20000 in
theorem gX4_couldDo_X4_tryNext : GoodIn wsX4_couldDo (wsV RX4 72 RX4 yX4_tryNext wsX4_tryNext) := goodIn_app (goodIn_of _ (by decide +kernel)) ggX4_couldDo_X4_tryNext
set_option maxRecDepth 20000 in
theorem ggX4_couldDo_X1_hasCasket : GoodIn wsX4_couldDo wsX1_hasCasket := goodIn_r _ [67, 50, 78, 79, 80, 81, 82] (by decide +kernel) (by decide +kernel)
set_option maxRecDepth 20000 in
theorem gX4_couldDo_X1_hasCasket : GoodIn wsX4_couldDo (wsV RX4 75 RX1 yX1_hasCasket wsX1_hasCasket) := goodIn_app (goodIn_of _ (by decide +kernel)) ggX4_couldDo_X1_hasCasket
set_option maxRecDepth 20000 in
theorem ggX4_couldDo_X4_turnSong : GoodIn wsX4_couldDo wsX4_turnSong := goodIn_r _ [71, 15, 72, 73, 74, 75, 76, 77] (by decide +kernel) (by decide +kernel)
set_option maxRecDepth 20000 in
theorem gX4_couldDo_X4_turnSong : GoodIn wsX4_couldDo (wsV RX4 79 RX4 yX4_turnSong wsX4_turnSong) := goodIn_app (goodIn_of _ (by decide +kernel)) ggX4_couldDo_X4_turnSong
theorem dX4_couldDo_0 : decode cX4_couldDo 0 = .ok (.iload_n 2, 1) := by decide +kernel
theorem dX4_couldDo_1 : decode cX4_couldDo 1 = .ok (.ifCond .ne 25, 3) := by decide +kernel
theorem dX4_couldDo_4 : decode cX4_couldDo 4 = .ok (.iload_n 3, 1) := by decide +kernel
theorem dX4_couldDo_5 : decode cX4_couldDo 5 = .ok (.ifCond .ne 11, 3) := by decide +kernel
theorem dX4_couldDo_8 : decode cX4_couldDo 8 = .ok (.aload_n 0, 1) := by decide +kernel
theorem dX4_couldDo_9 : decode cX4_couldDo 9 = .ok (.aload_n 1, 1) := by decide +kernel
theorem dX4_couldDo_10 : decode cX4_couldDo 10 = .ok (.invokevirtual 68, 3) := by decide +kernel
theorem dX4_couldDo_13 : decode cX4_couldDo 13 = .ok (.ifCond .ne 5, 3) := by decide +kernel
theorem dX4_couldDo_16 : decode cX4_couldDo 16 = .ok (.iconst 0, 1) := by decide +kernel
theorem dX4_couldDo_17 : decode cX4_couldDo 17 = .ok (.ireturn, 1) := by decide +kernel
theorem dX4_couldDo_18 : decode cX4_couldDo 18 = .ok (.aload_n 0, 1) := by decide +kernel
theorem dX4_couldDo_19 : decode cX4_couldDo 19 = .ok (.aload_n 1, 1) := by decide +kernel
theorem dX4_couldDo_20 : decode cX4_couldDo 20 = .ok (.invokevirtual 72, 3) := by decide +kernel
theorem dX4_couldDo_23 : decode cX4_couldDo 23 = .ok (.pop, 1) := by decide +kernel
theorem dX4_couldDo_24 : decode cX4_couldDo 24 = .ok (.iconst 1, 1) := by decide +kernel
theorem dX4_couldDo_25 : decode cX4_couldDo 25 = .ok (.ireturn, 1) := by decide +kernel
theorem dX4_couldDo_26 : decode cX4_couldDo 26 = .ok (.aload_n 1, 1) := by decide +kernel
theorem dX4_couldDo_27 : decode cX4_couldDo 27 = .ok (.iload_n 3, 1) := by decide +kernel
theorem dX4_couldDo_28 : decode cX4_couldDo 28 = .ok (.invokevirtual 75, 3) := by decide +kernel
theorem dX4_couldDo_31 : decode cX4_couldDo 31 = .ok (.ifCond .ne 5, 3) := by decide +kernel
theorem dX4_couldDo_34 : decode cX4_couldDo 34 = .ok (.iconst 0, 1) := by decide +kernel
theorem dX4_couldDo_35 : decode cX4_couldDo 35 = .ok (.ireturn, 1) := by decide +kernel
theorem dX4_couldDo_36 : decode cX4_couldDo 36 = .ok (.iload_n 2, 1) := by decide +kernel
theorem dX4_couldDo_37 : decode cX4_couldDo 37 = .ok (.iconst 1, 1) := by decide +kernel
theorem dX4_couldDo_38 : decode cX4_couldDo 38 = .ok (.if_icmp .ne 26, 3) := by decide +kernel
theorem dX4_couldDo_41 : decode cX4_couldDo 41 = .ok (.aload_n 0, 1) := by decide +kernel
theorem dX4_couldDo_42 : decode cX4_couldDo 42 = .ok (.getfield 15, 3) := by decide +kernel
theorem dX4_couldDo_45 : decode cX4_couldDo 45 = .ok (.iload_n 3, 1) := by decide +kernel
theorem dX4_couldDo_46 : decode cX4_couldDo 46 = .ok (.if_icmp .eq 7, 3) := by decide +kernel
theorem dX4_couldDo_49 : decode cX4_couldDo 49 = .ok (.iconst 1, 1) := by decide +kernel
theorem dX4_couldDo_50 : decode cX4_couldDo 50 = .ok (.goto 4, 3) := by decide +kernel
theorem dX4_couldDo_53 : decode cX4_couldDo 53 = .ok (.iconst 0, 1) := by decide +kernel
theorem dX4_couldDo_54 : decode cX4_couldDo 54 = .ok (.istore 4, 2) := by decide +kernel
theorem dX4_couldDo_56 : decode cX4_couldDo 56 = .ok (.aload_n 0, 1) := by decide +kernel
theorem dX4_couldDo_57 : decode cX4_couldDo 57 = .ok (.iload_n 3, 1) := by decide +kernel
theorem dX4_couldDo_58 : decode cX4_couldDo 58 = .ok (.putfield 15, 3) := by decide +kernel
theorem dX4_couldDo_61 : decode cX4_couldDo 61 = .ok (.iload 4, 2) := by decide +kernel
theorem dX4_couldDo_63 : decode cX4_couldDo 63 = .ok (.ireturn, 1) := by decide +kernel
theorem dX4_couldDo_64 : decode cX4_couldDo 64 = .ok (.iload_n 2, 1) := by decide +kernel
theorem dX4_couldDo_65 : decode cX4_couldDo 65 = .ok (.iconst 2, 1) := by decide +kernel
theorem dX4_couldDo_66 : decode cX4_couldDo 66 = .ok (.if_icmp .ne 10, 3) := by decide +kernel
theorem dX4_couldDo_69 : decode cX4_couldDo 69 = .ok (.aload_n 0, 1) := by decide +kernel
theorem dX4_couldDo_70 : decode cX4_couldDo 70 = .ok (.iload_n 3, 1) := by decide +kernel
theorem dX4_couldDo_71 : decode cX4_couldDo 71 = .ok (.invokevirtual 79, 3) := by decide +kernel
theorem dX4_couldDo_74 : decode cX4_couldDo 74 = .ok (.iconst 1, 1) := by decide +kernel
theorem dX4_couldDo_75 : decode cX4_couldDo 75 = .ok (.ireturn, 1) := by decide +kernel
theorem dX4_couldDo_76 : decode cX4_couldDo 76 = .ok (.iconst 0, 1) := by decide +kernel
theorem dX4_couldDo_77 : decode cX4_couldDo 77 = .ok (.ireturn, 1) := by decide +kernel
set_option maxRecDepth 20000 in
theorem ggX4_takeBack_X5_put : GoodIn wsX4_takeBack wsX5_put := goodIn_r _ [11] (by decide +kernel) (by decide +kernel)
set_option maxRecDepth 20000 in
theorem gX4_takeBack_X5_put_n64 : GoodIn wsX4_takeBack (wsX5_put) := ggX4_takeBack_X5_put
set_option maxRecDepth 20000 in
theorem ggX4_takeBack_X4_turnSong : GoodIn wsX4_takeBack wsX4_turnSong := goodIn_r _ [16, 17, 18, 19, 20, 21, 22, 23] (by decide +kernel) (by decide +kernel)
set_option maxRecDepth 20000 in
theorem gX4_takeBack_X4_turnSong : GoodIn wsX4_takeBack (wsV RX4 79 RX4 yX4_turnSong wsX4_turnSong) := goodIn_app (goodIn_of _ (by decide +kernel)) ggX4_takeBack_X4_turnSong
theorem dX4_takeBack_0 : decode cX4_takeBack 0 = .ok (.iload_n 1, 1) := by decide +kernel
theorem dX4_takeBack_1 : decode cX4_takeBack 1 = .ok (.tableswitch 73 0 3 #[31, 65, 73, 53], 31) := by decide +kernel
theorem dX4_takeBack_32 : decode cX4_takeBack 32 = .ok (.aload_n 0, 1) := by decide +kernel
theorem dX4_takeBack_33 : decode cX4_takeBack 33 = .ok (.iconst 0, 1) := by decide +kernel
theorem dX4_takeBack_34 : decode cX4_takeBack 34 = .ok (.aload_n 0, 1) := by decide +kernel
theorem dX4_takeBack_35 : decode cX4_takeBack 35 = .ok (.getfield 29, 3) := by decide +kernel
theorem dX4_takeBack_38 : decode cX4_takeBack 38 = .ok (.iconst 1, 1) := by decide +kernel
theorem dX4_takeBack_39 : decode cX4_takeBack 39 = .ok (.isub, 1) := by decide +kernel
theorem dX4_takeBack_40 : decode cX4_takeBack 40 = .ok (.invokestatic 83, 3) := by decide +kernel
theorem dX4_takeBack_43 : decode cX4_takeBack 43 = .ok (.putfield 29, 3) := by decide +kernel
theorem dX4_takeBack_46 : decode cX4_takeBack 46 = .ok (.aload_n 0, 1) := by decide +kernel
theorem dX4_takeBack_47 : decode cX4_takeBack 47 = .ok (.iconst 0, 1) := by decide +kernel
theorem dX4_takeBack_48 : decode cX4_takeBack 48 = .ok (.putfield 32, 3) := by decide +kernel
theorem dX4_takeBack_51 : decode cX4_takeBack 51 = .ok (.goto 28, 3) := by decide +kernel
theorem dX4_takeBack_54 : decode cX4_takeBack 54 = .ok (.aload_n 0, 1) := by decide +kernel
theorem dX4_takeBack_55 : decode cX4_takeBack 55 = .ok (.getfield 9, 3) := by decide +kernel
theorem dX4_takeBack_58 : decode cX4_takeBack 58 = .ok (.iload_n 2, 1) := by decide +kernel
theorem dX4_takeBack_59 : decode cX4_takeBack 59 = .ok (.iload_n 3, 1) := by decide +kernel
theorem dX4_takeBack_60 : decode cX4_takeBack 60 = .ok (.invokestatic 64, 3) := by decide +kernel
theorem dX4_takeBack_63 : decode cX4_takeBack 63 = .ok (.goto 16, 3) := by decide +kernel
theorem dX4_takeBack_66 : decode cX4_takeBack 66 = .ok (.aload_n 0, 1) := by decide +kernel
theorem dX4_takeBack_67 : decode cX4_takeBack 67 = .ok (.iload_n 3, 1) := by decide +kernel
theorem dX4_takeBack_68 : decode cX4_takeBack 68 = .ok (.putfield 15, 3) := by decide +kernel
theorem dX4_takeBack_71 : decode cX4_takeBack 71 = .ok (.goto 8, 3) := by decide +kernel
theorem dX4_takeBack_74 : decode cX4_takeBack 74 = .ok (.aload_n 0, 1) := by decide +kernel
theorem dX4_takeBack_75 : decode cX4_takeBack 75 = .ok (.iload_n 2, 1) := by decide +kernel
theorem dX4_takeBack_76 : decode cX4_takeBack 76 = .ok (.invokevirtual 79, 3) := by decide +kernel
theorem dX4_takeBack_79 : decode cX4_takeBack 79 = .ok (.return_, 1) := by decide +kernel
set_option maxRecDepth 20000 in
theorem ggX5_init_X2_init : GoodIn wsX5_init wsX2_init := goodIn_r _ [29, 30, 2, 3, 31, 11, 12, 32, 33, 15, 16, 34, 35, 36, 37, 38, 4, 39, 40, 41, 42, 43, 44, 45, 46, 72, 73, 74, 75, 76, 68, 69, 70, 71, 77, 78, 79, 80, 81, 82] (by decide +kernel) (by decide +kernel)
set_option maxRecDepth 20000 in
theorem gX5_init_X2_init_n15 : GoodIn wsX5_init (wsX2_init) := ggX5_init_X2_init
set_option maxRecDepth 20000 in
theorem ggX5_init_X1_init : GoodIn wsX5_init wsX1_init := goodIn_r _ [36, 37, 2, 3, 38, 4, 39, 40, 72, 73, 74, 75, 76] (by decide +kernel) (by decide +kernel)
set_option maxRecDepth 20000 in
theorem gX5_init_X1_init_n22 : GoodIn wsX5_init (wsX1_init) := ggX5_init_X1_init
set_option maxRecDepth 20000 in
theorem ggX5_init_X4_init : GoodIn wsX5_init wsX4_init := goodIn_r _ [42, 43, 2, 3, 4, 44, 45, 46, 77, 78, 79, 80, 81, 82] (by decide +kernel) (by decide +kernel)
set_option maxRecDepth 20000 in
theorem gX5_init_X4_init_n29 : GoodIn wsX5_init (wsX4_init) := ggX5_init_X4_init
set_option maxRecDepth 20000 in
theorem ggX5_init_X0_init : GoodIn wsX5_init wsX0_init := goodIn_r _ [48, 49, 2, 3, 4, 50, 51, 52, 83, 84, 85, 86] (by decide +kernel) (by decide +kernel)
set_option maxRecDepth 20000 in
theorem gX5_init_X0_init_n39 : GoodIn wsX5_init (wsX0_init) := ggX5_init_X0_init
set_option maxRecDepth 20000 in
theorem ggX5_init_X3_init : GoodIn wsX5_init wsX3_init := goodIn_r _ [54, 55, 2, 3, 56, 15, 16, 57, 41, 42, 43, 4, 44, 45, 46, 77, 78, 79, 80, 81, 82, 87, 88] (by decide +kernel) (by decide +kernel)
set_option maxRecDepth 20000 in
theorem gX5_init_X3_init_n46 : GoodIn wsX5_init (wsX3_init) := ggX5_init_X3_init
theorem dX5_init_0 : decode cX5_init 0 = .ok (.aload_n 0, 1) := by decide +kernel
theorem dX5_init_1 : decode cX5_init 1 = .ok (.invokespecial 3, 3) := by decide +kernel
theorem dX5_init_4 : decode cX5_init 4 = .ok (.aload_n 0, 1) := by decide +kernel
theorem dX5_init_5 : decode cX5_init 5 = .ok (.bipush 40, 2) := by decide +kernel
theorem dX5_init_7 : decode cX5_init 7 = .ok (.newarray .int, 2) := by decide +kernel
theorem dX5_init_9 : decode cX5_init 9 = .ok (.putfield 9, 3) := by decide +kernel
theorem dX5_init_12 : decode cX5_init 12 = .ok (.aload_n 0, 1) := by decide +kernel
theorem dX5_init_13 : decode cX5_init 13 = .ok (.new 13, 3) := by decide +kernel
theorem dX5_init_16 : decode cX5_init 16 = .ok (.dup, 1) := by decide +kernel
theorem dX5_init_17 : decode cX5_init 17 = .ok (.invokespecial 15, 3) := by decide +kernel
theorem dX5_init_20 : decode cX5_init 20 = .ok (.putfield 16, 3) := by decide +kernel
theorem dX5_init_23 : decode cX5_init 23 = .ok (.aload_n 0, 1) := by decide +kernel
theorem dX5_init_24 : decode cX5_init 24 = .ok (.new 20, 3) := by decide +kernel
theorem dX5_init_27 : decode cX5_init 27 = .ok (.dup, 1) := by decide +kernel
theorem dX5_init_28 : decode cX5_init 28 = .ok (.invokespecial 22, 3) := by decide +kernel
theorem dX5_init_31 : decode cX5_init 31 = .ok (.putfield 23, 3) := by decide +kernel
theorem dX5_init_34 : decode cX5_init 34 = .ok (.aload_n 0, 1) := by decide +kernel
theorem dX5_init_35 : decode cX5_init 35 = .ok (.new 27, 3) := by decide +kernel
theorem dX5_init_38 : decode cX5_init 38 = .ok (.dup, 1) := by decide +kernel
theorem dX5_init_39 : decode cX5_init 39 = .ok (.invokespecial 29, 3) := by decide +kernel
theorem dX5_init_42 : decode cX5_init 42 = .ok (.putfield 30, 3) := by decide +kernel
theorem dX5_init_45 : decode cX5_init 45 = .ok (.aload_n 0, 1) := by decide +kernel
theorem dX5_init_46 : decode cX5_init 46 = .ok (.new 27, 3) := by decide +kernel
theorem dX5_init_49 : decode cX5_init 49 = .ok (.dup, 1) := by decide +kernel
theorem dX5_init_50 : decode cX5_init 50 = .ok (.invokespecial 29, 3) := by decide +kernel
theorem dX5_init_53 : decode cX5_init 53 = .ok (.putfield 34, 3) := by decide +kernel
theorem dX5_init_56 : decode cX5_init 56 = .ok (.aload_n 0, 1) := by decide +kernel
theorem dX5_init_57 : decode cX5_init 57 = .ok (.new 37, 3) := by decide +kernel
theorem dX5_init_60 : decode cX5_init 60 = .ok (.dup, 1) := by decide +kernel
theorem dX5_init_61 : decode cX5_init 61 = .ok (.invokespecial 39, 3) := by decide +kernel
theorem dX5_init_64 : decode cX5_init 64 = .ok (.putfield 40, 3) := by decide +kernel
theorem dX5_init_67 : decode cX5_init 67 = .ok (.aload_n 0, 1) := by decide +kernel
theorem dX5_init_68 : decode cX5_init 68 = .ok (.new 44, 3) := by decide +kernel
theorem dX5_init_71 : decode cX5_init 71 = .ok (.dup, 1) := by decide +kernel
theorem dX5_init_72 : decode cX5_init 72 = .ok (.invokespecial 46, 3) := by decide +kernel
theorem dX5_init_75 : decode cX5_init 75 = .ok (.putfield 47, 3) := by decide +kernel
theorem dX5_init_78 : decode cX5_init 78 = .ok (.aload_n 0, 1) := by decide +kernel
theorem dX5_init_79 : decode cX5_init 79 = .ok (.new 44, 3) := by decide +kernel
theorem dX5_init_82 : decode cX5_init 82 = .ok (.dup, 1) := by decide +kernel
theorem dX5_init_83 : decode cX5_init 83 = .ok (.invokespecial 46, 3) := by decide +kernel
theorem dX5_init_86 : decode cX5_init 86 = .ok (.putfield 51, 3) := by decide +kernel
theorem dX5_init_89 : decode cX5_init 89 = .ok (.return_, 1) := by decide +kernel
set_option maxRecDepth 20000 in
theorem ggX5_write_X5_put : GoodIn wsX5_write wsX5_put := goodIn_r _ [6] (by decide +kernel) (by decide +kernel)
set_option maxRecDepth 20000 in
theorem gX5_write_X5_put : GoodIn wsX5_write (va_wsS RX5 58 yX5_put wsX5_put) := goodIn_app (goodIn_of _ (by decide +kernel)) ggX5_write_X5_put
theorem dX5_write_0 : decode cX5_write 0 = .ok (.iload_n 1, 1) := by decide +kernel
theorem dX5_write_1 : decode cX5_write 1 = .ok (.ifCond .lt 10, 3) := by decide +kernel
theorem dX5_write_4 : decode cX5_write 4 = .ok (.iload_n 1, 1) := by decide +kernel
theorem dX5_write_5 : decode cX5_write 5 = .ok (.sipush 255, 3) := by decide +kernel
theorem dX5_write_8 : decode cX5_write 8 = .ok (.if_icmp .le 6, 3) := by decide +kernel
theorem dX5_write_11 : decode cX5_write 11 = .ok (.bipush (-2), 2) := by decide +kernel
theorem dX5_write_13 : decode cX5_write 13 = .ok (.ireturn, 1) := by decide +kernel
theorem dX5_write_14 : decode cX5_write 14 = .ok (.aload_n 0, 1) := by decide +kernel
theorem dX5_write_15 : decode cX5_write 15 = .ok (.getfield 54, 3) := by decide +kernel
theorem dX5_write_18 : decode cX5_write 18 = .ok (.bipush 40, 2) := by decide +kernel
theorem dX5_write_20 : decode cX5_write 20 = .ok (.if_icmp .lt 6, 3) := by decide +kernel
theorem dX5_write_23 : decode cX5_write 23 = .ok (.bipush (-4), 2) := by decide +kernel
theorem dX5_write_25 : decode cX5_write 25 = .ok (.ireturn, 1) := by decide +kernel
theorem dX5_write_26 : decode cX5_write 26 = .ok (.aload_n 0, 1) := by decide +kernel
theorem dX5_write_27 : decode cX5_write 27 = .ok (.getfield 9, 3) := by decide +kernel
theorem dX5_write_30 : decode cX5_write 30 = .ok (.aload_n 0, 1) := by decide +kernel
theorem dX5_write_31 : decode cX5_write 31 = .ok (.getfield 54, 3) := by decide +kernel
theorem dX5_write_34 : decode cX5_write 34 = .ok (.iload_n 1, 1) := by decide +kernel
theorem dX5_write_35 : decode cX5_write 35 = .ok (.invokestatic 58, 3) := by decide +kernel
theorem dX5_write_38 : decode cX5_write 38 = .ok (.aload_n 0, 1) := by decide +kernel
theorem dX5_write_39 : decode cX5_write 39 = .ok (.dup, 1) := by decide +kernel
theorem dX5_write_40 : decode cX5_write 40 = .ok (.getfield 54, 3) := by decide +kernel
theorem dX5_write_43 : decode cX5_write 43 = .ok (.iconst 1, 1) := by decide +kernel
theorem dX5_write_44 : decode cX5_write 44 = .ok (.iadd, 1) := by decide +kernel
theorem dX5_write_45 : decode cX5_write 45 = .ok (.putfield 54, 3) := by decide +kernel
theorem dX5_write_48 : decode cX5_write 48 = .ok (.aload_n 0, 1) := by decide +kernel
theorem dX5_write_49 : decode cX5_write 49 = .ok (.getfield 54, 3) := by decide +kernel
theorem dX5_write_52 : decode cX5_write 52 = .ok (.ireturn, 1) := by decide +kernel
theorem dX5_wipe_0 : decode cX5_wipe 0 = .ok (.aload_n 0, 1) := by decide +kernel
theorem dX5_wipe_1 : decode cX5_wipe 1 = .ok (.getfield 54, 3) := by decide +kernel
theorem dX5_wipe_4 : decode cX5_wipe 4 = .ok (.istore_n 1, 1) := by decide +kernel
theorem dX5_wipe_5 : decode cX5_wipe 5 = .ok (.aload_n 0, 1) := by decide +kernel
theorem dX5_wipe_6 : decode cX5_wipe 6 = .ok (.iconst 0, 1) := by decide +kernel
theorem dX5_wipe_7 : decode cX5_wipe 7 = .ok (.putfield 54, 3) := by decide +kernel
theorem dX5_wipe_10 : decode cX5_wipe 10 = .ok (.iload_n 1, 1) := by decide +kernel
theorem dX5_wipe_11 : decode cX5_wipe 11 = .ok (.ireturn, 1) := by decide +kernel
set_option maxRecDepth 20000 in
theorem ggX5_fault_X2_firstFault : GoodIn wsX5_fault wsX2_firstFault := goodIn_r _ [8, 9, 10, 11, 12, 7, 13, 14, 15, 16, 17, 18, 19, 20, 21, 22, 23, 24, 25, 26, 27, 28, 29, 30, 31, 32, 33, 34, 35, 36, 37, 38, 39, 40, 51, 52, 53, 54, 55, 56, 57, 58, 59, 60, 61, 62, 63, 64, 65] (by decide +kernel) (by decide +kernel)
set_option maxRecDepth 20000 in
theorem gX5_fault_X2_firstFault : GoodIn wsX5_fault (wsV RX5 62 RX2 yX2_firstFault wsX2_firstFault) := goodIn_app (goodIn_of _ (by decide +kernel)) ggX5_fault_X2_firstFault
theorem dX5_fault_0 : decode cX5_fault 0 = .ok (.aload_n 0, 1) := by decide +kernel
theorem dX5_fault_1 : decode cX5_fault 1 = .ok (.getfield 16, 3) := by decide +kernel
theorem dX5_fault_4 : decode cX5_fault 4 = .ok (.aload_n 0, 1) := by decide +kernel
theorem dX5_fault_5 : decode cX5_fault 5 = .ok (.getfield 9, 3) := by decide +kernel
theorem dX5_fault_8 : decode cX5_fault 8 = .ok (.aload_n 0, 1) := by decide +kernel
theorem dX5_fault_9 : decode cX5_fault 9 = .ok (.getfield 54, 3) := by decide +kernel
theorem dX5_fault_12 : decode cX5_fault 12 = .ok (.invokevirtual 62, 3) := by decide +kernel
theorem dX5_fault_15 : decode cX5_fault 15 = .ok (.ireturn, 1) := by decide +kernel
set_option maxRecDepth 20000 in
theorem ggX5_house_X2_firstFault : GoodIn wsX5_house wsX2_firstFault := goodIn_r _ [19, 20, 21, 22, 23, 18, 24, 25, 26, 27, 28, 29, 30, 31, 32, 33, 34, 35, 36, 37, 38, 39, 40, 41, 42, 43, 44, 45, 46, 47, 48, 49, 50, 51, 85, 86, 87, 88, 95, 96, 97, 98, 99, 100, 101, 102, 103, 104, 105] (by decide +kernel) (by decide +kernel)
set_option maxRecDepth 20000 in
theorem gX5_house_X2_firstFault : GoodIn wsX5_house (wsV RX5 62 RX2 yX2_firstFault wsX2_firstFault) := goodIn_app (goodIn_of _ (by decide +kernel)) ggX5_house_X2_firstFault
set_option maxRecDepth 20000 in
theorem ggX5_house_X1_copyFrom : GoodIn wsX5_house wsX1_copyFrom := goodIn_r _ [56, 57, 58, 59, 60, 61, 62, 50, 63, 95, 96, 97, 98, 99] (by decide +kernel) (by decide +kernel)
set_option maxRecDepth 20000 in
theorem gX5_house_X1_copyFrom : GoodIn wsX5_house (wsV RX5 67 RX1 yX1_copyFrom wsX1_copyFrom) := goodIn_app (goodIn_of _ (by decide +kernel)) ggX5_house_X1_copyFrom
set_option maxRecDepth 20000 in
theorem ggX5_house_X4_copyFrom : GoodIn wsX5_house wsX4_copyFrom := goodIn_r _ [68, 69, 70, 71, 72, 73, 74, 62, 50, 63, 100, 101, 102, 103, 104, 105] (by decide +kernel) (by decide +kernel)
set_option maxRecDepth 20000 in
theorem gX5_house_X4_copyFrom : GoodIn wsX5_house (wsV RX5 74 RX4 yX4_copyFrom wsX4_copyFrom) := goodIn_app (goodIn_of _ (by decide +kernel)) ggX5_house_X4_copyFrom
theorem dX5_house_0 : decode cX5_house 0 = .ok (.aload_n 0, 1) := by decide +kernel
theorem dX5_house_1 : decode cX5_house 1 = .ok (.getfield 16, 3) := by decide +kernel
theorem dX5_house_4 : decode cX5_house 4 = .ok (.aload_n 0, 1) := by decide +kernel
theorem dX5_house_5 : decode cX5_house 5 = .ok (.getfield 9, 3) := by decide +kernel
theorem dX5_house_8 : decode cX5_house 8 = .ok (.aload_n 0, 1) := by decide +kernel
theorem dX5_house_9 : decode cX5_house 9 = .ok (.getfield 54, 3) := by decide +kernel
theorem dX5_house_12 : decode cX5_house 12 = .ok (.invokevirtual 62, 3) := by decide +kernel
theorem dX5_house_15 : decode cX5_house 15 = .ok (.bipush (-9), 2) := by decide +kernel
theorem dX5_house_17 : decode cX5_house 17 = .ok (.if_icmp .eq 6, 3) := by decide +kernel
theorem dX5_house_20 : decode cX5_house 20 = .ok (.bipush (-3), 2) := by decide +kernel
theorem dX5_house_22 : decode cX5_house 22 = .ok (.ireturn, 1) := by decide +kernel
theorem dX5_house_23 : decode cX5_house 23 = .ok (.aload_n 0, 1) := by decide +kernel
theorem dX5_house_24 : decode cX5_house 24 = .ok (.getfield 23, 3) := by decide +kernel
theorem dX5_house_27 : decode cX5_house 27 = .ok (.aload_n 0, 1) := by decide +kernel
theorem dX5_house_28 : decode cX5_house 28 = .ok (.getfield 16, 3) := by decide +kernel
theorem dX5_house_31 : decode cX5_house 31 = .ok (.getfield 66, 3) := by decide +kernel
theorem dX5_house_34 : decode cX5_house 34 = .ok (.invokevirtual 67, 3) := by decide +kernel
theorem dX5_house_37 : decode cX5_house 37 = .ok (.aload_n 0, 1) := by decide +kernel
theorem dX5_house_38 : decode cX5_house 38 = .ok (.getfield 30, 3) := by decide +kernel
theorem dX5_house_41 : decode cX5_house 41 = .ok (.aload_n 0, 1) := by decide +kernel
theorem dX5_house_42 : decode cX5_house 42 = .ok (.getfield 16, 3) := by decide +kernel
theorem dX5_house_45 : decode cX5_house 45 = .ok (.getfield 71, 3) := by decide +kernel
theorem dX5_house_48 : decode cX5_house 48 = .ok (.invokevirtual 74, 3) := by decide +kernel
theorem dX5_house_51 : decode cX5_house 51 = .ok (.aload_n 0, 1) := by decide +kernel
theorem dX5_house_52 : decode cX5_house 52 = .ok (.getfield 40, 3) := by decide +kernel
theorem dX5_house_55 : decode cX5_house 55 = .ok (.iconst 0, 1) := by decide +kernel
theorem dX5_house_56 : decode cX5_house 56 = .ok (.putfield 77, 3) := by decide +kernel
theorem dX5_house_59 : decode cX5_house 59 = .ok (.aload_n 0, 1) := by decide +kernel
theorem dX5_house_60 : decode cX5_house 60 = .ok (.getfield 47, 3) := by decide +kernel
theorem dX5_house_63 : decode cX5_house 63 = .ok (.iconst 0, 1) := by decide +kernel
theorem dX5_house_64 : decode cX5_house 64 = .ok (.putfield 80, 3) := by decide +kernel
theorem dX5_house_67 : decode cX5_house 67 = .ok (.aload_n 0, 1) := by decide +kernel
theorem dX5_house_68 : decode cX5_house 68 = .ok (.getfield 51, 3) := by decide +kernel
theorem dX5_house_71 : decode cX5_house 71 = .ok (.iconst 0, 1) := by decide +kernel
theorem dX5_house_72 : decode cX5_house 72 = .ok (.putfield 80, 3) := by decide +kernel
theorem dX5_house_75 : decode cX5_house 75 = .ok (.bipush 10, 2) := by decide +kernel
theorem dX5_house_77 : decode cX5_house 77 = .ok (.aload_n 0, 1) := by decide +kernel
theorem dX5_house_78 : decode cX5_house 78 = .ok (.getfield 23, 3) := by decide +kernel
theorem dX5_house_81 : decode cX5_house 81 = .ok (.getfield 84, 3) := by decide +kernel
theorem dX5_house_84 : decode cX5_house 84 = .ok (.imul, 1) := by decide +kernel
theorem dX5_house_85 : decode cX5_house 85 = .ok (.aload_n 0, 1) := by decide +kernel
theorem dX5_house_86 : decode cX5_house 86 = .ok (.getfield 23, 3) := by decide +kernel
theorem dX5_house_89 : decode cX5_house 89 = .ok (.getfield 87, 3) := by decide +kernel
theorem dX5_house_92 : decode cX5_house 92 = .ok (.iadd, 1) := by decide +kernel
theorem dX5_house_93 : decode cX5_house 93 = .ok (.ireturn, 1) := by decide +kernel
set_option maxRecDepth 20000 in
theorem ggX5_casket_X1_hasCasket : GoodIn wsX5_casket wsX1_hasCasket := goodIn_r _ [10, 11, 63, 64, 65, 66, 67] (by decide +kernel) (by decide +kernel)
set_option maxRecDepth 20000 in
theorem gX5_casket_X1_hasCasket : GoodIn wsX5_casket (wsV RX5 90 RX1 yX1_hasCasket wsX1_hasCasket) := goodIn_app (goodIn_of _ (by decide +kernel)) ggX5_casket_X1_hasCasket
set_option maxRecDepth 20000 in
theorem ggX5_casket_X5_at : GoodIn wsX5_casket wsX5_at := goodIn_r _ [15] (by decide +kernel) (by decide +kernel)
set_option maxRecDepth 20000 in
theorem gX5_casket_X5_at : GoodIn wsX5_casket (va_wsS RX5 97 yX5_at wsX5_at) := goodIn_app (goodIn_of _ (by decide +kernel)) ggX5_casket_X5_at
set_option maxRecDepth 20000 in
theorem ggX5_casket_X4_fitting : GoodIn wsX5_casket wsX4_fitting := goodIn_r _ [20, 21, 22, 14, 23, 24, 25, 26, 27, 28, 29, 30, 31, 32, 33, 34, 35, 36, 37, 38, 39, 40, 41, 68, 69, 70, 71, 72, 73, 63, 64, 65, 66, 67] (by decide +kernel) (by decide +kernel)
set_option maxRecDepth 20000 in
theorem gX5_casket_X4_fitting : GoodIn wsX5_casket (wsV RX5 106 RX4 yX4_fitting wsX4_fitting) := goodIn_app (goodIn_of _ (by decide +kernel)) ggX5_casket_X4_fitting
set_option maxRecDepth 20000 in
theorem ggX5_casket_X4_readings : GoodIn wsX5_casket wsX4_readings := goodIn_r _ [45, 21, 22, 14, 23, 24, 25, 26, 27, 28, 29, 30, 31, 32, 33, 34, 35, 36, 37, 38, 39, 68, 69, 70, 71, 72, 73, 63, 64, 65, 66, 67] (by decide +kernel) (by decide +kernel)
set_option maxRecDepth 20000 in
theorem gX5_casket_X4_readings : GoodIn wsX5_casket (wsV RX5 110 RX4 yX4_readings wsX4_readings) := goodIn_app (goodIn_of _ (by decide +kernel)) ggX5_casket_X4_readings
set_option maxRecDepth 20000 in
theorem ggX5_casket_X5_worldsWith : GoodIn wsX5_casket wsX5_worldsWith := goodIn_r _ [38, 39] (by decide +kernel) (by decide +kernel)
set_option maxRecDepth 20000 in
theorem gX5_casket_X5_worldsWith : GoodIn wsX5_casket (va_wsS RX5 114 yX5_worldsWith wsX5_worldsWith) := goodIn_app (goodIn_of _ (by decide +kernel)) ggX5_casket_X5_worldsWith
set_option maxRecDepth 20000 in
theorem ggX5_casket_J13_bitCount_95d88 : GoodIn wsX5_casket wsJ13_bitCount_95d88 := goodIn_r _ [49, 50, 51, 52] (by decide +kernel) (by decide +kernel)
set_option maxRecDepth 20000 in
theorem gX5_casket_J13_bitCount_95d88 : GoodIn wsX5_casket (va_wsS RX5 118 yJ13_bitCount_95d88 wsJ13_bitCount_95d88) := goodIn_app (goodIn_of _ (by decide +kernel)) ggX5_casket_J13_bitCount_95d88
theorem dX5_casket_0 : decode cX5_casket 0 = .ok (.aload_n 0, 1) := by decide +kernel
theorem dX5_casket_1 : decode cX5_casket 1 = .ok (.getfield 23, 3) := by decide +kernel
theorem dX5_casket_4 : decode cX5_casket 4 = .ok (.iload_n 1, 1) := by decide +kernel
theorem dX5_casket_5 : decode cX5_casket 5 = .ok (.invokevirtual 90, 3) := by decide +kernel
theorem dX5_casket_8 : decode cX5_casket 8 = .ok (.ifCond .ne 5, 3) := by decide +kernel
theorem dX5_casket_11 : decode cX5_casket 11 = .ok (.iconst (-1), 1) := by decide +kernel
theorem dX5_casket_12 : decode cX5_casket 12 = .ok (.ireturn, 1) := by decide +kernel
theorem dX5_casket_13 : decode cX5_casket 13 = .ok (.iload_n 2, 1) := by decide +kernel
theorem dX5_casket_14 : decode cX5_casket 14 = .ok (.tableswitch 126 0 5 #[38, 50, 64, 78, 90, 106], 38) := by decide +kernel
theorem dX5_casket_52 : decode cX5_casket 52 = .ok (.aload_n 0, 1) := by decide +kernel
theorem dX5_casket_53 : decode cX5_casket 53 = .ok (.getfield 23, 3) := by decide +kernel
theorem dX5_casket_56 : decode cX5_casket 56 = .ok (.getfield 94, 3) := by decide +kernel
theorem dX5_casket_59 : decode cX5_casket 59 = .ok (.iload_n 1, 1) := by decide +kernel
theorem dX5_casket_60 : decode cX5_casket 60 = .ok (.invokestatic 97, 3) := by decide +kernel
theorem dX5_casket_63 : decode cX5_casket 63 = .ok (.ireturn, 1) := by decide +kernel
theorem dX5_casket_64 : decode cX5_casket 64 = .ok (.aload_n 0, 1) := by decide +kernel
theorem dX5_casket_65 : decode cX5_casket 65 = .ok (.getfield 30, 3) := by decide +kernel
theorem dX5_casket_68 : decode cX5_casket 68 = .ok (.getfield 100, 3) := by decide +kernel
theorem dX5_casket_71 : decode cX5_casket 71 = .ok (.iload_n 1, 1) := by decide +kernel
theorem dX5_casket_72 : decode cX5_casket 72 = .ok (.invokestatic 97, 3) := by decide +kernel
theorem dX5_casket_75 : decode cX5_casket 75 = .ok (.iconst 4, 1) := by decide +kernel
theorem dX5_casket_76 : decode cX5_casket 76 = .ok (.idiv, 1) := by decide +kernel
theorem dX5_casket_77 : decode cX5_casket 77 = .ok (.ireturn, 1) := by decide +kernel
theorem dX5_casket_78 : decode cX5_casket 78 = .ok (.aload_n 0, 1) := by decide +kernel
theorem dX5_casket_79 : decode cX5_casket 79 = .ok (.getfield 30, 3) := by decide +kernel
theorem dX5_casket_82 : decode cX5_casket 82 = .ok (.getfield 100, 3) := by decide +kernel
theorem dX5_casket_85 : decode cX5_casket 85 = .ok (.iload_n 1, 1) := by decide +kernel
theorem dX5_casket_86 : decode cX5_casket 86 = .ok (.invokestatic 97, 3) := by decide +kernel
theorem dX5_casket_89 : decode cX5_casket 89 = .ok (.iconst 4, 1) := by decide +kernel
theorem dX5_casket_90 : decode cX5_casket 90 = .ok (.irem, 1) := by decide +kernel
theorem dX5_casket_91 : decode cX5_casket 91 = .ok (.ireturn, 1) := by decide +kernel
theorem dX5_casket_92 : decode cX5_casket 92 = .ok (.aload_n 0, 1) := by decide +kernel
theorem dX5_casket_93 : decode cX5_casket 93 = .ok (.getfield 30, 3) := by decide +kernel
theorem dX5_casket_96 : decode cX5_casket 96 = .ok (.getfield 103, 3) := by decide +kernel
theorem dX5_casket_99 : decode cX5_casket 99 = .ok (.iload_n 1, 1) := by decide +kernel
theorem dX5_casket_100 : decode cX5_casket 100 = .ok (.ishr, 1) := by decide +kernel
theorem dX5_casket_101 : decode cX5_casket 101 = .ok (.iconst 1, 1) := by decide +kernel
theorem dX5_casket_102 : decode cX5_casket 102 = .ok (.iand, 1) := by decide +kernel
theorem dX5_casket_103 : decode cX5_casket 103 = .ok (.ireturn, 1) := by decide +kernel
theorem dX5_casket_104 : decode cX5_casket 104 = .ok (.aload_n 0, 1) := by decide +kernel
theorem dX5_casket_105 : decode cX5_casket 105 = .ok (.getfield 30, 3) := by decide +kernel
theorem dX5_casket_108 : decode cX5_casket 108 = .ok (.aload_n 0, 1) := by decide +kernel
theorem dX5_casket_109 : decode cX5_casket 109 = .ok (.getfield 23, 3) := by decide +kernel
theorem dX5_casket_112 : decode cX5_casket 112 = .ok (.invokevirtual 106, 3) := by decide +kernel
theorem dX5_casket_115 : decode cX5_casket 115 = .ok (.iload_n 1, 1) := by decide +kernel
theorem dX5_casket_116 : decode cX5_casket 116 = .ok (.ishr, 1) := by decide +kernel
theorem dX5_casket_117 : decode cX5_casket 117 = .ok (.iconst 1, 1) := by decide +kernel
theorem dX5_casket_118 : decode cX5_casket 118 = .ok (.iand, 1) := by decide +kernel
theorem dX5_casket_119 : decode cX5_casket 119 = .ok (.ireturn, 1) := by decide +kernel
theorem dX5_casket_120 : decode cX5_casket 120 = .ok (.aload_n 0, 1) := by decide +kernel
theorem dX5_casket_121 : decode cX5_casket 121 = .ok (.getfield 30, 3) := by decide +kernel
theorem dX5_casket_124 : decode cX5_casket 124 = .ok (.aload_n 0, 1) := by decide +kernel
theorem dX5_casket_125 : decode cX5_casket 125 = .ok (.getfield 23, 3) := by decide +kernel
theorem dX5_casket_128 : decode cX5_casket 128 = .ok (.invokevirtual 110, 3) := by decide +kernel
theorem dX5_casket_131 : decode cX5_casket 131 = .ok (.iload_n 1, 1) := by decide +kernel
theorem dX5_casket_132 : decode cX5_casket 132 = .ok (.invokestatic 114, 3) := by decide +kernel
theorem dX5_casket_135 : decode cX5_casket 135 = .ok (.land, 1) := by decide +kernel
theorem dX5_casket_136 : decode cX5_casket 136 = .ok (.invokestatic 118, 3) := by decide +kernel
theorem dX5_casket_139 : decode cX5_casket 139 = .ok (.ireturn, 1) := by decide +kernel
theorem dX5_casket_140 : decode cX5_casket 140 = .ok (.bipush (-2), 2) := by decide +kernel
theorem dX5_casket_142 : decode cX5_casket 142 = .ok (.ireturn, 1) := by decide +kernel
set_option maxRecDepth 20000 in
theorem ggX5_wooer_X1_hasWooer : GoodIn wsX5_wooer wsX1_hasWooer := goodIn_r _ [11, 12, 69, 70, 71, 72, 73] (by decide +kernel) (by decide +kernel)
set_option maxRecDepth 20000 in
theorem gX5_wooer_X1_hasWooer : GoodIn wsX5_wooer (wsV RX5 124 RX1 yX1_hasWooer wsX1_hasWooer) := goodIn_app (goodIn_of _ (by decide +kernel)) ggX5_wooer_X1_hasWooer
set_option maxRecDepth 20000 in
theorem ggX5_wooer_X5_at : GoodIn wsX5_wooer wsX5_at := goodIn_r _ [16] (by decide +kernel) (by decide +kernel)
set_option maxRecDepth 20000 in
theorem gX5_wooer_X5_at : GoodIn wsX5_wooer (va_wsS RX5 97 yX5_at wsX5_at) := goodIn_app (goodIn_of _ (by decide +kernel)) ggX5_wooer_X5_at
set_option maxRecDepth 20000 in
theorem ggX5_wooer_X4_fitting : GoodIn wsX5_wooer wsX4_fitting := goodIn_r _ [21, 22, 23, 15, 24, 25, 26, 27, 28, 29, 30, 31, 32, 33, 34, 35, 36, 37, 38, 39, 40, 41, 42, 74, 75, 76, 77, 78, 79, 69, 70, 71, 72, 73] (by decide +kernel) (by decide +kernel)
set_option maxRecDepth 20000 in
theorem gX5_wooer_X4_fitting : GoodIn wsX5_wooer (wsV RX5 106 RX4 yX4_fitting wsX4_fitting) := goodIn_app (goodIn_of _ (by decide +kernel)) ggX5_wooer_X4_fitting
set_option maxRecDepth 20000 in
theorem ggX5_wooer_X1_pickOf : GoodIn wsX5_wooer wsX1_pickOf := goodIn_r _ [46, 47, 48, 49, 50, 10, 51, 52, 53, 54, 55, 56, 57, 58, 69, 70, 71, 72, 73] (by decide +kernel) (by decide +kernel)
set_option maxRecDepth 20000 in
theorem gX5_wooer_X1_pickOf : GoodIn wsX5_wooer (wsV RX5 130 RX1 yX1_pickOf wsX1_pickOf) := goodIn_app (goodIn_of _ (by decide +kernel)) ggX5_wooer_X1_pickOf
theorem dX5_wooer_0 : decode cX5_wooer 0 = .ok (.aload_n 0, 1) := by decide +kernel
theorem dX5_wooer_1 : decode cX5_wooer 1 = .ok (.getfield 23, 3) := by decide +kernel
theorem dX5_wooer_4 : decode cX5_wooer 4 = .ok (.iload_n 1, 1) := by decide +kernel
theorem dX5_wooer_5 : decode cX5_wooer 5 = .ok (.invokevirtual 124, 3) := by decide +kernel
theorem dX5_wooer_8 : decode cX5_wooer 8 = .ok (.ifCond .ne 5, 3) := by decide +kernel
theorem dX5_wooer_11 : decode cX5_wooer 11 = .ok (.iconst (-1), 1) := by decide +kernel
theorem dX5_wooer_12 : decode cX5_wooer 12 = .ok (.ireturn, 1) := by decide +kernel
theorem dX5_wooer_13 : decode cX5_wooer 13 = .ok (.iload_n 2, 1) := by decide +kernel
theorem dX5_wooer_14 : decode cX5_wooer 14 = .ok (.tableswitch 103 0 2 #[26, 38, 75], 26) := by decide +kernel
theorem dX5_wooer_40 : decode cX5_wooer 40 = .ok (.aload_n 0, 1) := by decide +kernel
theorem dX5_wooer_41 : decode cX5_wooer 41 = .ok (.getfield 23, 3) := by decide +kernel
theorem dX5_wooer_44 : decode cX5_wooer 44 = .ok (.getfield 127, 3) := by decide +kernel
theorem dX5_wooer_47 : decode cX5_wooer 47 = .ok (.iload_n 1, 1) := by decide +kernel
theorem dX5_wooer_48 : decode cX5_wooer 48 = .ok (.invokestatic 97, 3) := by decide +kernel
theorem dX5_wooer_51 : decode cX5_wooer 51 = .ok (.ireturn, 1) := by decide +kernel
theorem dX5_wooer_52 : decode cX5_wooer 52 = .ok (.aload_n 0, 1) := by decide +kernel
theorem dX5_wooer_53 : decode cX5_wooer 53 = .ok (.getfield 23, 3) := by decide +kernel
theorem dX5_wooer_56 : decode cX5_wooer 56 = .ok (.aload_n 0, 1) := by decide +kernel
