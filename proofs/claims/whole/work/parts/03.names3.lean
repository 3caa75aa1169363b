theorem dX6_house_17 : decode cX6_house 17 = .ok (.putfield 41, 3) := by decide +kernel
theorem dX6_house_20 : decode cX6_house 20 = .ok (.aload_n 0, 1) := by decide +kernel
theorem dX6_house_21 : decode cX6_house 21 = .ok (.aload_n 0, 1) := by decide +kernel
theorem dX6_house_22 : decode cX6_house 22 = .ok (.getfield 66, 3) := by decide +kernel
theorem dX6_house_25 : decode cX6_house 25 = .ok (.putfield 90, 3) := by decide +kernel
theorem dX6_house_28 : decode cX6_house 28 = .ok (.aload_n 0, 1) := by decide +kernel
theorem dX6_house_29 : decode cX6_house 29 = .ok (.aload_n 0, 1) := by decide +kernel
theorem dX6_house_30 : decode cX6_house 30 = .ok (.getfield 69, 3) := by decide +kernel
theorem dX6_house_33 : decode cX6_house 33 = .ok (.putfield 93, 3) := by decide +kernel
theorem dX6_house_36 : decode cX6_house 36 = .ok (.iconst 0, 1) := by decide +kernel
theorem dX6_house_37 : decode cX6_house 37 = .ok (.istore_n 1, 1) := by decide +kernel
theorem dX6_house_38 : decode cX6_house 38 = .ok (.iload_n 1, 1) := by decide +kernel
theorem dX6_house_39 : decode cX6_house 39 = .ok (.bipush 18, 2) := by decide +kernel
theorem dX6_house_41 : decode cX6_house 41 = .ok (.if_icmp .ge 27, 3) := by decide +kernel
theorem dX6_house_44 : decode cX6_house 44 = .ok (.aload_n 0, 1) := by decide +kernel
theorem dX6_house_45 : decode cX6_house 45 = .ok (.getfield 16, 3) := by decide +kernel
theorem dX6_house_48 : decode cX6_house 48 = .ok (.iload_n 1, 1) := by decide +kernel
theorem dX6_house_49 : decode cX6_house 49 = .ok (.iload_n 1, 1) := by decide +kernel
theorem dX6_house_50 : decode cX6_house 50 = .ok (.bipush 12, 2) := by decide +kernel
theorem dX6_house_52 : decode cX6_house 52 = .ok (.if_icmp .ge 7, 3) := by decide +kernel
theorem dX6_house_55 : decode cX6_house 55 = .ok (.iconst 0, 1) := by decide +kernel
theorem dX6_house_56 : decode cX6_house 56 = .ok (.goto 5, 3) := by decide +kernel
theorem dX6_house_59 : decode cX6_house 59 = .ok (.bipush (-9), 2) := by decide +kernel
theorem dX6_house_61 : decode cX6_house 61 = .ok (.iastore, 1) := by decide +kernel
theorem dX6_house_62 : decode cX6_house 62 = .ok (.iinc 1 1, 3) := by decide +kernel
theorem dX6_house_65 : decode cX6_house 65 = .ok (.goto (-27), 3) := by decide +kernel
theorem dX6_house_68 : decode cX6_house 68 = .ok (.iconst 0, 1) := by decide +kernel
theorem dX6_house_69 : decode cX6_house 69 = .ok (.istore_n 1, 1) := by decide +kernel
theorem dX6_house_70 : decode cX6_house 70 = .ok (.iload_n 1, 1) := by decide +kernel
theorem dX6_house_71 : decode cX6_house 71 = .ok (.aload_n 0, 1) := by decide +kernel
theorem dX6_house_72 : decode cX6_house 72 = .ok (.getfield 90, 3) := by decide +kernel
theorem dX6_house_75 : decode cX6_house 75 = .ok (.if_icmp .ge 57, 3) := by decide +kernel
theorem dX6_house_78 : decode cX6_house 78 = .ok (.aload_n 0, 1) := by decide +kernel
theorem dX6_house_79 : decode cX6_house 79 = .ok (.getfield 7, 3) := by decide +kernel
theorem dX6_house_82 : decode cX6_house 82 = .ok (.iload_n 1, 1) := by decide +kernel
theorem dX6_house_83 : decode cX6_house 83 = .ok (.aload_n 0, 1) := by decide +kernel
theorem dX6_house_84 : decode cX6_house 84 = .ok (.getfield 19, 3) := by decide +kernel
theorem dX6_house_87 : decode cX6_house 87 = .ok (.iconst 3, 1) := by decide +kernel
theorem dX6_house_88 : decode cX6_house 88 = .ok (.iload_n 1, 1) := by decide +kernel
theorem dX6_house_89 : decode cX6_house 89 = .ok (.imul, 1) := by decide +kernel
theorem dX6_house_90 : decode cX6_house 90 = .ok (.iaload, 1) := by decide +kernel
theorem dX6_house_91 : decode cX6_house 91 = .ok (.iastore, 1) := by decide +kernel
theorem dX6_house_92 : decode cX6_house 92 = .ok (.aload_n 0, 1) := by decide +kernel
theorem dX6_house_93 : decode cX6_house 93 = .ok (.getfield 16, 3) := by decide +kernel
theorem dX6_house_96 : decode cX6_house 96 = .ok (.iload_n 1, 1) := by decide +kernel
theorem dX6_house_97 : decode cX6_house 97 = .ok (.aload_n 0, 1) := by decide +kernel
theorem dX6_house_98 : decode cX6_house 98 = .ok (.getfield 19, 3) := by decide +kernel
theorem dX6_house_101 : decode cX6_house 101 = .ok (.iconst 3, 1) := by decide +kernel
theorem dX6_house_102 : decode cX6_house 102 = .ok (.iload_n 1, 1) := by decide +kernel
theorem dX6_house_103 : decode cX6_house 103 = .ok (.imul, 1) := by decide +kernel
theorem dX6_house_104 : decode cX6_house 104 = .ok (.iconst 1, 1) := by decide +kernel
theorem dX6_house_105 : decode cX6_house 105 = .ok (.iadd, 1) := by decide +kernel
theorem dX6_house_106 : decode cX6_house 106 = .ok (.iaload, 1) := by decide +kernel
theorem dX6_house_107 : decode cX6_house 107 = .ok (.iastore, 1) := by decide +kernel
theorem dX6_house_108 : decode cX6_house 108 = .ok (.aload_n 0, 1) := by decide +kernel
theorem dX6_house_109 : decode cX6_house 109 = .ok (.getfield 16, 3) := by decide +kernel
theorem dX6_house_112 : decode cX6_house 112 = .ok (.iconst 4, 1) := by decide +kernel
theorem dX6_house_113 : decode cX6_house 113 = .ok (.iload_n 1, 1) := by decide +kernel
theorem dX6_house_114 : decode cX6_house 114 = .ok (.iadd, 1) := by decide +kernel
theorem dX6_house_115 : decode cX6_house 115 = .ok (.aload_n 0, 1) := by decide +kernel
theorem dX6_house_116 : decode cX6_house 116 = .ok (.getfield 19, 3) := by decide +kernel
theorem dX6_house_119 : decode cX6_house 119 = .ok (.iconst 3, 1) := by decide +kernel
theorem dX6_house_120 : decode cX6_house 120 = .ok (.iload_n 1, 1) := by decide +kernel
theorem dX6_house_121 : decode cX6_house 121 = .ok (.imul, 1) := by decide +kernel
theorem dX6_house_122 : decode cX6_house 122 = .ok (.iconst 2, 1) := by decide +kernel
theorem dX6_house_123 : decode cX6_house 123 = .ok (.iadd, 1) := by decide +kernel
theorem dX6_house_124 : decode cX6_house 124 = .ok (.iaload, 1) := by decide +kernel
theorem dX6_house_125 : decode cX6_house 125 = .ok (.iastore, 1) := by decide +kernel
theorem dX6_house_126 : decode cX6_house 126 = .ok (.iinc 1 1, 3) := by decide +kernel
theorem dX6_house_129 : decode cX6_house 129 = .ok (.goto (-59), 3) := by decide +kernel
theorem dX6_house_132 : decode cX6_house 132 = .ok (.iconst 0, 1) := by decide +kernel
theorem dX6_house_133 : decode cX6_house 133 = .ok (.istore_n 1, 1) := by decide +kernel
theorem dX6_house_134 : decode cX6_house 134 = .ok (.iload_n 1, 1) := by decide +kernel
theorem dX6_house_135 : decode cX6_house 135 = .ok (.aload_n 0, 1) := by decide +kernel
theorem dX6_house_136 : decode cX6_house 136 = .ok (.getfield 93, 3) := by decide +kernel
theorem dX6_house_139 : decode cX6_house 139 = .ok (.if_icmp .ge 21, 3) := by decide +kernel
theorem dX6_house_142 : decode cX6_house 142 = .ok (.aload_n 0, 1) := by decide +kernel
theorem dX6_house_143 : decode cX6_house 143 = .ok (.getfield 13, 3) := by decide +kernel
theorem dX6_house_146 : decode cX6_house 146 = .ok (.iload_n 1, 1) := by decide +kernel
theorem dX6_house_147 : decode cX6_house 147 = .ok (.aload_n 0, 1) := by decide +kernel
theorem dX6_house_148 : decode cX6_house 148 = .ok (.getfield 22, 3) := by decide +kernel
theorem dX6_house_151 : decode cX6_house 151 = .ok (.iload_n 1, 1) := by decide +kernel
theorem dX6_house_152 : decode cX6_house 152 = .ok (.iaload, 1) := by decide +kernel
theorem dX6_house_153 : decode cX6_house 153 = .ok (.iastore, 1) := by decide +kernel
theorem dX6_house_154 : decode cX6_house 154 = .ok (.iinc 1 1, 3) := by decide +kernel
theorem dX6_house_157 : decode cX6_house 157 = .ok (.goto (-23), 3) := by decide +kernel
theorem dX6_house_160 : decode cX6_house 160 = .ok (.aload_n 0, 1) := by decide +kernel
theorem dX6_house_161 : decode cX6_house 161 = .ok (.getfield 16, 3) := by decide +kernel
theorem dX6_house_164 : decode cX6_house 164 = .ok (.bipush 8, 2) := by decide +kernel
theorem dX6_house_166 : decode cX6_house 166 = .ok (.aload_n 0, 1) := by decide +kernel
theorem dX6_house_167 : decode cX6_house 167 = .ok (.getfield 72, 3) := by decide +kernel
theorem dX6_house_170 : decode cX6_house 170 = .ok (.iastore, 1) := by decide +kernel
theorem dX6_house_171 : decode cX6_house 171 = .ok (.aload_n 0, 1) := by decide +kernel
theorem dX6_house_172 : decode cX6_house 172 = .ok (.iconst 0, 1) := by decide +kernel
theorem dX6_house_173 : decode cX6_house 173 = .ok (.putfield 96, 3) := by decide +kernel
theorem dX6_house_176 : decode cX6_house 176 = .ok (.aload_n 0, 1) := by decide +kernel
theorem dX6_house_177 : decode cX6_house 177 = .ok (.getfield 34, 3) := by decide +kernel
theorem dX6_house_180 : decode cX6_house 180 = .ok (.iconst 0, 1) := by decide +kernel
theorem dX6_house_181 : decode cX6_house 181 = .ok (.iconst 0, 1) := by decide +kernel
theorem dX6_house_182 : decode cX6_house 182 = .ok (.bastore, 1) := by decide +kernel
theorem dX6_house_183 : decode cX6_house 183 = .ok (.aload_n 0, 1) := by decide +kernel
theorem dX6_house_184 : decode cX6_house 184 = .ok (.getfield 34, 3) := by decide +kernel
theorem dX6_house_187 : decode cX6_house 187 = .ok (.iconst 1, 1) := by decide +kernel
theorem dX6_house_188 : decode cX6_house 188 = .ok (.iconst 0, 1) := by decide +kernel
theorem dX6_house_189 : decode cX6_house 189 = .ok (.bastore, 1) := by decide +kernel
theorem dX6_house_190 : decode cX6_house 190 = .ok (.bipush 10, 2) := by decide +kernel
theorem dX6_house_192 : decode cX6_house 192 = .ok (.aload_n 0, 1) := by decide +kernel
theorem dX6_house_193 : decode cX6_house 193 = .ok (.getfield 90, 3) := by decide +kernel
theorem dX6_house_196 : decode cX6_house 196 = .ok (.imul, 1) := by decide +kernel
theorem dX6_house_197 : decode cX6_house 197 = .ok (.aload_n 0, 1) := by decide +kernel
theorem dX6_house_198 : decode cX6_house 198 = .ok (.getfield 93, 3) := by decide +kernel
theorem dX6_house_201 : decode cX6_house 201 = .ok (.iadd, 1) := by decide +kernel
theorem dX6_house_202 : decode cX6_house 202 = .ok (.ireturn, 1) := by decide +kernel
set_option maxRecDepth 20000 in
theorem ggX6_isCasket_X6_in : GoodIn wsX6_isCasket wsX6_in := goodIn_r _ [5] (by decide +kernel) (by decide +kernel)
set_option maxRecDepth 20000 in
theorem gX6_isCasket_X6_in : GoodIn wsX6_isCasket (va_wsS RX6 47 yX6_in wsX6_in) := goodIn_app (goodIn_of _ (by decide +kernel)) ggX6_isCasket_X6_in
theorem dX6_isCasket_0 : decode cX6_isCasket 0 = .ok (.iload_n 1, 1) := by decide +kernel
theorem dX6_isCasket_1 : decode cX6_isCasket 1 = .ok (.i2l, 1) := by decide +kernel
theorem dX6_isCasket_2 : decode cX6_isCasket 2 = .ok (.lconst 0, 1) := by decide +kernel
theorem dX6_isCasket_3 : decode cX6_isCasket 3 = .ok (.aload_n 0, 1) := by decide +kernel
theorem dX6_isCasket_4 : decode cX6_isCasket 4 = .ok (.getfield 90, 3) := by decide +kernel
theorem dX6_isCasket_7 : decode cX6_isCasket 7 = .ok (.iconst 1, 1) := by decide +kernel
theorem dX6_isCasket_8 : decode cX6_isCasket 8 = .ok (.isub, 1) := by decide +kernel
theorem dX6_isCasket_9 : decode cX6_isCasket 9 = .ok (.i2l, 1) := by decide +kernel
theorem dX6_isCasket_10 : decode cX6_isCasket 10 = .ok (.invokestatic 47, 3) := by decide +kernel
theorem dX6_isCasket_13 : decode cX6_isCasket 13 = .ok (.ireturn, 1) := by decide +kernel
set_option maxRecDepth 20000 in
theorem ggX6_isWooer_X6_in : GoodIn wsX6_isWooer wsX6_in := goodIn_r _ [5] (by decide +kernel) (by decide +kernel)
set_option maxRecDepth 20000 in
theorem gX6_isWooer_X6_in : GoodIn wsX6_isWooer (va_wsS RX6 47 yX6_in wsX6_in) := goodIn_app (goodIn_of _ (by decide +kernel)) ggX6_isWooer_X6_in
theorem dX6_isWooer_0 : decode cX6_isWooer 0 = .ok (.iload_n 1, 1) := by decide +kernel
theorem dX6_isWooer_1 : decode cX6_isWooer 1 = .ok (.i2l, 1) := by decide +kernel
theorem dX6_isWooer_2 : decode cX6_isWooer 2 = .ok (.lconst 0, 1) := by decide +kernel
theorem dX6_isWooer_3 : decode cX6_isWooer 3 = .ok (.aload_n 0, 1) := by decide +kernel
theorem dX6_isWooer_4 : decode cX6_isWooer 4 = .ok (.getfield 93, 3) := by decide +kernel
theorem dX6_isWooer_7 : decode cX6_isWooer 7 = .ok (.iconst 1, 1) := by decide +kernel
theorem dX6_isWooer_8 : decode cX6_isWooer 8 = .ok (.isub, 1) := by decide +kernel
theorem dX6_isWooer_9 : decode cX6_isWooer 9 = .ok (.i2l, 1) := by decide +kernel
theorem dX6_isWooer_10 : decode cX6_isWooer 10 = .ok (.invokestatic 47, 3) := by decide +kernel
theorem dX6_isWooer_13 : decode cX6_isWooer 13 = .ok (.ireturn, 1) := by decide +kernel
theorem dX6_all_0 : decode cX6_all 0 = .ok (.iconst 1, 1) := by decide +kernel
theorem dX6_all_1 : decode cX6_all 1 = .ok (.aload_n 0, 1) := by decide +kernel
theorem dX6_all_2 : decode cX6_all 2 = .ok (.getfield 90, 3) := by decide +kernel
theorem dX6_all_5 : decode cX6_all 5 = .ok (.ishl, 1) := by decide +kernel
theorem dX6_all_6 : decode cX6_all 6 = .ok (.iconst 1, 1) := by decide +kernel
theorem dX6_all_7 : decode cX6_all 7 = .ok (.isub, 1) := by decide +kernel
theorem dX6_all_8 : decode cX6_all 8 = .ok (.ireturn, 1) := by decide +kernel
set_option maxRecDepth 20000 in
theorem ggX6_says_X6_isCasket : GoodIn wsX6_says wsX6_isCasket := goodIn_r _ [6, 7, 8, 9, 5, 10, 14, 15, 16, 17, 18, 19, 20, 21, 22, 23, 24, 25, 26, 27, 28, 29, 30, 31, 32, 33, 34, 35, 36, 37] (by decide +kernel) (by decide +kernel)
set_option maxRecDepth 20000 in
theorem gX6_says_X6_isCasket : GoodIn wsX6_says (wsV RX6 99 RX6 yX6_isCasket wsX6_isCasket) := goodIn_app (goodIn_of _ (by decide +kernel)) ggX6_says_X6_isCasket
set_option maxRecDepth 20000 in
theorem ggX6_says_X6_has : GoodIn wsX6_says wsX6_has := goodIn_r _ [13] (by decide +kernel) (by decide +kernel)
set_option maxRecDepth 20000 in
theorem gX6_says_X6_has : GoodIn wsX6_says (va_wsS RX6 62 yX6_has wsX6_has) := goodIn_app (goodIn_of _ (by decide +kernel)) ggX6_says_X6_has
theorem dX6_says_0 : decode cX6_says 0 = .ok (.aload_n 0, 1) := by decide +kernel
theorem dX6_says_1 : decode cX6_says 1 = .ok (.getfield 16, 3) := by decide +kernel
theorem dX6_says_4 : decode cX6_says 4 = .ok (.bipush 18, 2) := by decide +kernel
theorem dX6_says_6 : decode cX6_says 6 = .ok (.iload_n 1, 1) := by decide +kernel
theorem dX6_says_7 : decode cX6_says 7 = .ok (.imul, 1) := by decide +kernel
theorem dX6_says_8 : decode cX6_says 8 = .ok (.iconst 4, 1) := by decide +kernel
theorem dX6_says_9 : decode cX6_says 9 = .ok (.iadd, 1) := by decide +kernel
theorem dX6_says_10 : decode cX6_says 10 = .ok (.iload_n 2, 1) := by decide +kernel
theorem dX6_says_11 : decode cX6_says 11 = .ok (.iadd, 1) := by decide +kernel
theorem dX6_says_12 : decode cX6_says 12 = .ok (.iaload, 1) := by decide +kernel
theorem dX6_says_13 : decode cX6_says 13 = .ok (.istore 5, 2) := by decide +kernel
theorem dX6_says_15 : decode cX6_says 15 = .ok (.aload_n 0, 1) := by decide +kernel
theorem dX6_says_16 : decode cX6_says 16 = .ok (.getfield 16, 3) := by decide +kernel
theorem dX6_says_19 : decode cX6_says 19 = .ok (.bipush 18, 2) := by decide +kernel
theorem dX6_says_21 : decode cX6_says 21 = .ok (.iload_n 1, 1) := by decide +kernel
theorem dX6_says_22 : decode cX6_says 22 = .ok (.imul, 1) := by decide +kernel
theorem dX6_says_23 : decode cX6_says 23 = .ok (.iload_n 2, 1) := by decide +kernel
theorem dX6_says_24 : decode cX6_says 24 = .ok (.iadd, 1) := by decide +kernel
theorem dX6_says_25 : decode cX6_says 25 = .ok (.iaload, 1) := by decide +kernel
theorem dX6_says_26 : decode cX6_says 26 = .ok (.tableswitch 105 0 4 #[34, 45, 56, 68, 80], 34) := by decide +kernel
theorem dX6_says_60 : decode cX6_says 60 = .ok (.iload_n 3, 1) := by decide +kernel
theorem dX6_says_61 : decode cX6_says 61 = .ok (.iload_n 2, 1) := by decide +kernel
theorem dX6_says_62 : decode cX6_says 62 = .ok (.if_icmp .ne 7, 3) := by decide +kernel
theorem dX6_says_65 : decode cX6_says 65 = .ok (.iconst 1, 1) := by decide +kernel
theorem dX6_says_66 : decode cX6_says 66 = .ok (.goto 4, 3) := by decide +kernel
theorem dX6_says_69 : decode cX6_says 69 = .ok (.iconst 0, 1) := by decide +kernel
theorem dX6_says_70 : decode cX6_says 70 = .ok (.ireturn, 1) := by decide +kernel
theorem dX6_says_71 : decode cX6_says 71 = .ok (.iload_n 3, 1) := by decide +kernel
theorem dX6_says_72 : decode cX6_says 72 = .ok (.iload_n 2, 1) := by decide +kernel
theorem dX6_says_73 : decode cX6_says 73 = .ok (.if_icmp .eq 7, 3) := by decide +kernel
theorem dX6_says_76 : decode cX6_says 76 = .ok (.iconst 1, 1) := by decide +kernel
theorem dX6_says_77 : decode cX6_says 77 = .ok (.goto 4, 3) := by decide +kernel
theorem dX6_says_80 : decode cX6_says 80 = .ok (.iconst 0, 1) := by decide +kernel
theorem dX6_says_81 : decode cX6_says 81 = .ok (.ireturn, 1) := by decide +kernel
theorem dX6_says_82 : decode cX6_says 82 = .ok (.iload_n 3, 1) := by decide +kernel
theorem dX6_says_83 : decode cX6_says 83 = .ok (.iload 5, 2) := by decide +kernel
theorem dX6_says_85 : decode cX6_says 85 = .ok (.if_icmp .ne 7, 3) := by decide +kernel
theorem dX6_says_88 : decode cX6_says 88 = .ok (.iconst 1, 1) := by decide +kernel
theorem dX6_says_89 : decode cX6_says 89 = .ok (.goto 4, 3) := by decide +kernel
theorem dX6_says_92 : decode cX6_says 92 = .ok (.iconst 0, 1) := by decide +kernel
theorem dX6_says_93 : decode cX6_says 93 = .ok (.ireturn, 1) := by decide +kernel
theorem dX6_says_94 : decode cX6_says 94 = .ok (.iload_n 3, 1) := by decide +kernel
theorem dX6_says_95 : decode cX6_says 95 = .ok (.iload 5, 2) := by decide +kernel
theorem dX6_says_97 : decode cX6_says 97 = .ok (.if_icmp .eq 7, 3) := by decide +kernel
theorem dX6_says_100 : decode cX6_says 100 = .ok (.iconst 1, 1) := by decide +kernel
theorem dX6_says_101 : decode cX6_says 101 = .ok (.goto 4, 3) := by decide +kernel
theorem dX6_says_104 : decode cX6_says 104 = .ok (.iconst 0, 1) := by decide +kernel
theorem dX6_says_105 : decode cX6_says 105 = .ok (.ireturn, 1) := by decide +kernel
theorem dX6_says_106 : decode cX6_says 106 = .ok (.aload_n 0, 1) := by decide +kernel
theorem dX6_says_107 : decode cX6_says 107 = .ok (.iload 5, 2) := by decide +kernel
theorem dX6_says_109 : decode cX6_says 109 = .ok (.invokevirtual 99, 3) := by decide +kernel
theorem dX6_says_112 : decode cX6_says 112 = .ok (.ifCond .eq 17, 3) := by decide +kernel
theorem dX6_says_115 : decode cX6_says 115 = .ok (.iload 4, 2) := by decide +kernel
theorem dX6_says_117 : decode cX6_says 117 = .ok (.iload 5, 2) := by decide +kernel
theorem dX6_says_119 : decode cX6_says 119 = .ok (.invokestatic 62, 3) := by decide +kernel
theorem dX6_says_122 : decode cX6_says 122 = .ok (.ifCond .eq 7, 3) := by decide +kernel
theorem dX6_says_125 : decode cX6_says 125 = .ok (.iconst 1, 1) := by decide +kernel
theorem dX6_says_126 : decode cX6_says 126 = .ok (.goto 4, 3) := by decide +kernel
theorem dX6_says_129 : decode cX6_says 129 = .ok (.iconst 0, 1) := by decide +kernel
theorem dX6_says_130 : decode cX6_says 130 = .ok (.ireturn, 1) := by decide +kernel
theorem dX6_says_131 : decode cX6_says 131 = .ok (.aload_n 0, 1) := by decide +kernel
theorem dX6_says_132 : decode cX6_says 132 = .ok (.iload 5, 2) := by decide +kernel
theorem dX6_says_134 : decode cX6_says 134 = .ok (.invokevirtual 99, 3) := by decide +kernel
theorem dX6_says_137 : decode cX6_says 137 = .ok (.ifCond .eq 13, 3) := by decide +kernel
theorem dX6_says_140 : decode cX6_says 140 = .ok (.iload 4, 2) := by decide +kernel
theorem dX6_says_142 : decode cX6_says 142 = .ok (.iload 5, 2) := by decide +kernel
theorem dX6_says_144 : decode cX6_says 144 = .ok (.invokestatic 62, 3) := by decide +kernel
theorem dX6_says_147 : decode cX6_says 147 = .ok (.ifCond .ne 7, 3) := by decide +kernel
theorem dX6_says_150 : decode cX6_says 150 = .ok (.iconst 1, 1) := by decide +kernel
theorem dX6_says_151 : decode cX6_says 151 = .ok (.goto 4, 3) := by decide +kernel
theorem dX6_says_154 : decode cX6_says 154 = .ok (.iconst 0, 1) := by decide +kernel
theorem dX6_says_155 : decode cX6_says 155 = .ok (.ireturn, 1) := by decide +kernel
set_option maxRecDepth 20000 in
theorem ggX6_isReading_X6_ones : GoodIn wsX6_isReading wsX6_ones := goodIn_r _ [6] (by decide +kernel) (by decide +kernel)
set_option maxRecDepth 20000 in
theorem gX6_isReading_X6_ones : GoodIn wsX6_isReading (va_wsS RX6 103 yX6_ones wsX6_ones) := goodIn_app (goodIn_of _ (by decide +kernel)) ggX6_isReading_X6_ones
set_option maxRecDepth 20000 in
theorem ggX6_isReading_X6_has : GoodIn wsX6_isReading wsX6_has := goodIn_r _ [9] (by decide +kernel) (by decide +kernel)
set_option maxRecDepth 20000 in
theorem gX6_isReading_X6_has : GoodIn wsX6_isReading (va_wsS RX6 62 yX6_has wsX6_has) := goodIn_app (goodIn_of _ (by decide +kernel)) ggX6_isReading_X6_has
set_option maxRecDepth 20000 in
theorem ggX6_isReading_X6_says : GoodIn wsX6_isReading wsX6_says := goodIn_r _ [13, 14, 15, 16, 17, 5, 18, 2, 19, 20, 21, 7, 8, 9, 22, 23, 24, 25, 26, 27, 28, 29, 30, 31, 32, 33, 34, 35, 36, 37, 38, 39, 40, 41, 42, 43, 44, 45] (by decide +kernel) (by decide +kernel)
set_option maxRecDepth 20000 in
theorem gX6_isReading_X6_says : GoodIn wsX6_isReading (wsV RX6 106 RX6 yX6_says wsX6_says) := goodIn_app (goodIn_of _ (by decide +kernel)) ggX6_isReading_X6_says
theorem dX6_isReading_0 : decode cX6_isReading 0 = .ok (.aload_n 0, 1) := by decide +kernel
theorem dX6_isReading_1 : decode cX6_isReading 1 = .ok (.getfield 41, 3) := by decide +kernel
theorem dX6_isReading_4 : decode cX6_isReading 4 = .ok (.bipush 9, 2) := by decide +kernel
theorem dX6_isReading_6 : decode cX6_isReading 6 = .ok (.if_icmp .eq 14, 3) := by decide +kernel
theorem dX6_isReading_9 : decode cX6_isReading 9 = .ok (.iload_n 3, 1) := by decide +kernel
theorem dX6_isReading_10 : decode cX6_isReading 10 = .ok (.invokestatic 103, 3) := by decide +kernel
theorem dX6_isReading_13 : decode cX6_isReading 13 = .ok (.aload_n 0, 1) := by decide +kernel
theorem dX6_isReading_14 : decode cX6_isReading 14 = .ok (.getfield 41, 3) := by decide +kernel
theorem dX6_isReading_17 : decode cX6_isReading 17 = .ok (.if_icmp .ne 7, 3) := by decide +kernel
theorem dX6_isReading_20 : decode cX6_isReading 20 = .ok (.iconst 1, 1) := by decide +kernel
theorem dX6_isReading_21 : decode cX6_isReading 21 = .ok (.goto 4, 3) := by decide +kernel
theorem dX6_isReading_24 : decode cX6_isReading 24 = .ok (.iconst 0, 1) := by decide +kernel
theorem dX6_isReading_25 : decode cX6_isReading 25 = .ok (.istore 5, 2) := by decide +kernel
theorem dX6_isReading_27 : decode cX6_isReading 27 = .ok (.iconst 0, 1) := by decide +kernel
theorem dX6_isReading_28 : decode cX6_isReading 28 = .ok (.istore 6, 2) := by decide +kernel
theorem dX6_isReading_30 : decode cX6_isReading 30 = .ok (.iload 6, 2) := by decide +kernel
theorem dX6_isReading_32 : decode cX6_isReading 32 = .ok (.aload_n 0, 1) := by decide +kernel
theorem dX6_isReading_33 : decode cX6_isReading 33 = .ok (.getfield 90, 3) := by decide +kernel
theorem dX6_isReading_36 : decode cX6_isReading 36 = .ok (.if_icmp .ge 49, 3) := by decide +kernel
theorem dX6_isReading_39 : decode cX6_isReading 39 = .ok (.iload 5, 2) := by decide +kernel
theorem dX6_isReading_41 : decode cX6_isReading 41 = .ok (.ifCond .eq 44, 3) := by decide +kernel
theorem dX6_isReading_44 : decode cX6_isReading 44 = .ok (.iload 4, 2) := by decide +kernel
theorem dX6_isReading_46 : decode cX6_isReading 46 = .ok (.iload 6, 2) := by decide +kernel
theorem dX6_isReading_48 : decode cX6_isReading 48 = .ok (.invokestatic 62, 3) := by decide +kernel
theorem dX6_isReading_51 : decode cX6_isReading 51 = .ok (.ifCond .eq 21, 3) := by decide +kernel
theorem dX6_isReading_54 : decode cX6_isReading 54 = .ok (.aload_n 0, 1) := by decide +kernel
theorem dX6_isReading_55 : decode cX6_isReading 55 = .ok (.iload_n 1, 1) := by decide +kernel
theorem dX6_isReading_56 : decode cX6_isReading 56 = .ok (.iload 6, 2) := by decide +kernel
theorem dX6_isReading_58 : decode cX6_isReading 58 = .ok (.iload_n 2, 1) := by decide +kernel
theorem dX6_isReading_59 : decode cX6_isReading 59 = .ok (.iload_n 3, 1) := by decide +kernel
theorem dX6_isReading_60 : decode cX6_isReading 60 = .ok (.invokevirtual 106, 3) := by decide +kernel
theorem dX6_isReading_63 : decode cX6_isReading 63 = .ok (.iload_n 3, 1) := by decide +kernel
theorem dX6_isReading_64 : decode cX6_isReading 64 = .ok (.iload 6, 2) := by decide +kernel
theorem dX6_isReading_66 : decode cX6_isReading 66 = .ok (.invokestatic 62, 3) := by decide +kernel
theorem dX6_isReading_69 : decode cX6_isReading 69 = .ok (.if_icmp .ne 7, 3) := by decide +kernel
theorem dX6_isReading_72 : decode cX6_isReading 72 = .ok (.iconst 1, 1) := by decide +kernel
theorem dX6_isReading_73 : decode cX6_isReading 73 = .ok (.goto 4, 3) := by decide +kernel
theorem dX6_isReading_76 : decode cX6_isReading 76 = .ok (.iconst 0, 1) := by decide +kernel
theorem dX6_isReading_77 : decode cX6_isReading 77 = .ok (.istore 5, 2) := by decide +kernel
theorem dX6_isReading_79 : decode cX6_isReading 79 = .ok (.iinc 6 1, 3) := by decide +kernel
theorem dX6_isReading_82 : decode cX6_isReading 82 = .ok (.goto (-52), 3) := by decide +kernel
theorem dX6_isReading_85 : decode cX6_isReading 85 = .ok (.iload 5, 2) := by decide +kernel
theorem dX6_isReading_87 : decode cX6_isReading 87 = .ok (.ireturn, 1) := by decide +kernel
set_option maxRecDepth 20000 in
theorem ggX6_readings_X6_all : GoodIn wsX6_readings wsX6_all := goodIn_r _ [5, 6, 30, 31, 32, 33, 34, 35, 36, 37, 38, 39, 40, 41, 42, 43, 44, 45, 46, 47, 48, 49, 50, 51, 52, 53] (by decide +kernel) (by decide +kernel)
set_option maxRecDepth 20000 in
theorem gX6_readings_X6_all : GoodIn wsX6_readings (wsV RX6 110 RX6 yX6_all wsX6_all) := goodIn_app (goodIn_of _ (by decide +kernel)) ggX6_readings_X6_all
set_option maxRecDepth 20000 in
theorem ggX6_readings_X6_isReading : GoodIn wsX6_readings wsX6_isReading := goodIn_r _ [10, 11, 6, 12, 13, 4, 14, 15, 16, 17, 18, 19, 20, 21, 22, 23, 24, 25, 26, 27, 28, 29, 30, 31, 32, 33, 34, 35, 36, 37, 38, 39, 40, 41, 42, 43, 44, 45, 46, 47, 48, 49, 50, 51, 52, 53] (by decide +kernel) (by decide +kernel)
set_option maxRecDepth 20000 in
theorem gX6_readings_X6_isReading : GoodIn wsX6_readings (wsV RX6 113 RX6 yX6_isReading wsX6_isReading) := goodIn_app (goodIn_of _ (by decide +kernel)) ggX6_readings_X6_isReading
theorem dX6_readings_0 : decode cX6_readings 0 = .ok (.iconst 0, 1) := by decide +kernel
theorem dX6_readings_1 : decode cX6_readings 1 = .ok (.istore 4, 2) := by decide +kernel
theorem dX6_readings_3 : decode cX6_readings 3 = .ok (.iconst 0, 1) := by decide +kernel
theorem dX6_readings_4 : decode cX6_readings 4 = .ok (.istore 5, 2) := by decide +kernel
theorem dX6_readings_6 : decode cX6_readings 6 = .ok (.iload 5, 2) := by decide +kernel
theorem dX6_readings_8 : decode cX6_readings 8 = .ok (.aload_n 0, 1) := by decide +kernel
theorem dX6_readings_9 : decode cX6_readings 9 = .ok (.invokevirtual 110, 3) := by decide +kernel
theorem dX6_readings_12 : decode cX6_readings 12 = .ok (.if_icmp .gt 31, 3) := by decide +kernel
theorem dX6_readings_15 : decode cX6_readings 15 = .ok (.iload 4, 2) := by decide +kernel
theorem dX6_readings_17 : decode cX6_readings 17 = .ok (.aload_n 0, 1) := by decide +kernel
theorem dX6_readings_18 : decode cX6_readings 18 = .ok (.iload_n 1, 1) := by decide +kernel
theorem dX6_readings_19 : decode cX6_readings 19 = .ok (.iload_n 2, 1) := by decide +kernel
theorem dX6_readings_20 : decode cX6_readings 20 = .ok (.iload 5, 2) := by decide +kernel
theorem dX6_readings_22 : decode cX6_readings 22 = .ok (.iload_n 3, 1) := by decide +kernel
theorem dX6_readings_23 : decode cX6_readings 23 = .ok (.invokevirtual 113, 3) := by decide +kernel
theorem dX6_readings_26 : decode cX6_readings 26 = .ok (.ifCond .eq 7, 3) := by decide +kernel
theorem dX6_readings_29 : decode cX6_readings 29 = .ok (.iconst 1, 1) := by decide +kernel
theorem dX6_readings_30 : decode cX6_readings 30 = .ok (.goto 4, 3) := by decide +kernel
theorem dX6_readings_33 : decode cX6_readings 33 = .ok (.iconst 0, 1) := by decide +kernel
theorem dX6_readings_34 : decode cX6_readings 34 = .ok (.iadd, 1) := by decide +kernel
theorem dX6_readings_35 : decode cX6_readings 35 = .ok (.istore 4, 2) := by decide +kernel
theorem dX6_readings_37 : decode cX6_readings 37 = .ok (.iinc 5 1, 3) := by decide +kernel
theorem dX6_readings_40 : decode cX6_readings 40 = .ok (.goto (-34), 3) := by decide +kernel
theorem dX6_readings_43 : decode cX6_readings 43 = .ok (.iload 4, 2) := by decide +kernel
theorem dX6_readings_45 : decode cX6_readings 45 = .ok (.ireturn, 1) := by decide +kernel
set_option maxRecDepth 20000 in
theorem ggX6_fitsOn_X6_readings : GoodIn wsX6_fitsOn wsX6_readings := goodIn_r _ [6, 7, 8, 9, 5, 10, 1, 11, 12, 13, 14, 15, 16, 17, 18, 19, 20, 21, 22, 23, 24, 25, 26, 27, 28, 29, 30, 31, 32, 33, 34, 35, 36, 37, 38, 39, 40, 41, 42, 43, 44, 45, 46, 47, 48, 49, 50, 51, 52, 53, 54, 55, 56, 57] (by decide +kernel) (by decide +kernel)
set_option maxRecDepth 20000 in
theorem gX6_fitsOn_X6_readings : GoodIn wsX6_fitsOn (wsV RX6 116 RX6 yX6_readings wsX6_readings) := goodIn_app (goodIn_of _ (by decide +kernel)) ggX6_fitsOn_X6_readings
theorem dX6_fitsOn_0 : decode cX6_fitsOn 0 = .ok (.iconst 0, 1) := by decide +kernel
theorem dX6_fitsOn_1 : decode cX6_fitsOn 1 = .ok (.istore_n 3, 1) := by decide +kernel
theorem dX6_fitsOn_2 : decode cX6_fitsOn 2 = .ok (.iconst 0, 1) := by decide +kernel
theorem dX6_fitsOn_3 : decode cX6_fitsOn 3 = .ok (.istore 4, 2) := by decide +kernel
theorem dX6_fitsOn_5 : decode cX6_fitsOn 5 = .ok (.iload 4, 2) := by decide +kernel
theorem dX6_fitsOn_7 : decode cX6_fitsOn 7 = .ok (.aload_n 0, 1) := by decide +kernel
theorem dX6_fitsOn_8 : decode cX6_fitsOn 8 = .ok (.getfield 90, 3) := by decide +kernel
theorem dX6_fitsOn_11 : decode cX6_fitsOn 11 = .ok (.if_icmp .ge 31, 3) := by decide +kernel
theorem dX6_fitsOn_14 : decode cX6_fitsOn 14 = .ok (.iload_n 3, 1) := by decide +kernel
theorem dX6_fitsOn_15 : decode cX6_fitsOn 15 = .ok (.aload_n 0, 1) := by decide +kernel
theorem dX6_fitsOn_16 : decode cX6_fitsOn 16 = .ok (.iload_n 1, 1) := by decide +kernel
theorem dX6_fitsOn_17 : decode cX6_fitsOn 17 = .ok (.iload 4, 2) := by decide +kernel
theorem dX6_fitsOn_19 : decode cX6_fitsOn 19 = .ok (.iload_n 2, 1) := by decide +kernel
theorem dX6_fitsOn_20 : decode cX6_fitsOn 20 = .ok (.invokevirtual 116, 3) := by decide +kernel
theorem dX6_fitsOn_23 : decode cX6_fitsOn 23 = .ok (.ifCond .le 10, 3) := by decide +kernel
theorem dX6_fitsOn_26 : decode cX6_fitsOn 26 = .ok (.iconst 1, 1) := by decide +kernel
theorem dX6_fitsOn_27 : decode cX6_fitsOn 27 = .ok (.iload 4, 2) := by decide +kernel
theorem dX6_fitsOn_29 : decode cX6_fitsOn 29 = .ok (.ishl, 1) := by decide +kernel
theorem dX6_fitsOn_30 : decode cX6_fitsOn 30 = .ok (.goto 4, 3) := by decide +kernel
theorem dX6_fitsOn_33 : decode cX6_fitsOn 33 = .ok (.iconst 0, 1) := by decide +kernel
theorem dX6_fitsOn_34 : decode cX6_fitsOn 34 = .ok (.ior, 1) := by decide +kernel
theorem dX6_fitsOn_35 : decode cX6_fitsOn 35 = .ok (.istore_n 3, 1) := by decide +kernel
theorem dX6_fitsOn_36 : decode cX6_fitsOn 36 = .ok (.iinc 4 1, 3) := by decide +kernel
theorem dX6_fitsOn_39 : decode cX6_fitsOn 39 = .ok (.goto (-34), 3) := by decide +kernel
theorem dX6_fitsOn_42 : decode cX6_fitsOn 42 = .ok (.iload_n 3, 1) := by decide +kernel
theorem dX6_fitsOn_43 : decode cX6_fitsOn 43 = .ok (.ireturn, 1) := by decide +kernel
set_option maxRecDepth 20000 in
theorem ggX6_leastOf_X6_has : GoodIn wsX6_leastOf wsX6_has := goodIn_r _ [4] (by decide +kernel) (by decide +kernel)
set_option maxRecDepth 20000 in
theorem gX6_leastOf_X6_has : GoodIn wsX6_leastOf (va_wsS RX6 62 yX6_has wsX6_has) := goodIn_app (goodIn_of _ (by decide +kernel)) ggX6_leastOf_X6_has
theorem dX6_leastOf_0 : decode cX6_leastOf 0 = .ok (.iconst 0, 1) := by decide +kernel
theorem dX6_leastOf_1 : decode cX6_leastOf 1 = .ok (.istore_n 2, 1) := by decide +kernel
theorem dX6_leastOf_2 : decode cX6_leastOf 2 = .ok (.iload_n 2, 1) := by decide +kernel
theorem dX6_leastOf_3 : decode cX6_leastOf 3 = .ok (.iconst 4, 1) := by decide +kernel
theorem dX6_leastOf_4 : decode cX6_leastOf 4 = .ok (.if_icmp .ge 19, 3) := by decide +kernel
theorem dX6_leastOf_7 : decode cX6_leastOf 7 = .ok (.iload_n 1, 1) := by decide +kernel
theorem dX6_leastOf_8 : decode cX6_leastOf 8 = .ok (.iload_n 2, 1) := by decide +kernel
theorem dX6_leastOf_9 : decode cX6_leastOf 9 = .ok (.invokestatic 62, 3) := by decide +kernel
theorem dX6_leastOf_12 : decode cX6_leastOf 12 = .ok (.ifCond .eq 5, 3) := by decide +kernel
theorem dX6_leastOf_15 : decode cX6_leastOf 15 = .ok (.iload_n 2, 1) := by decide +kernel
theorem dX6_leastOf_16 : decode cX6_leastOf 16 = .ok (.ireturn, 1) := by decide +kernel
theorem dX6_leastOf_17 : decode cX6_leastOf 17 = .ok (.iinc 2 1, 3) := by decide +kernel
theorem dX6_leastOf_20 : decode cX6_leastOf 20 = .ok (.goto (-18), 3) := by decide +kernel
theorem dX6_leastOf_23 : decode cX6_leastOf 23 = .ok (.bipush (-9), 2) := by decide +kernel
theorem dX6_leastOf_25 : decode cX6_leastOf 25 = .ok (.ireturn, 1) := by decide +kernel
set_option maxRecDepth 20000 in
theorem ggX6_picks_X6_all : GoodIn wsX6_picks wsX6_all := goodIn_r _ [7, 1, 15, 16, 17, 18, 19, 20, 21, 22, 23, 24, 25, 26, 27, 28, 29, 30, 31, 32, 33, 34, 35, 36, 37, 38] (by decide +kernel) (by decide +kernel)
set_option maxRecDepth 20000 in
theorem gX6_picks_X6_all : GoodIn wsX6_picks (wsV RX6 110 RX6 yX6_all wsX6_all) := goodIn_app (goodIn_of _ (by decide +kernel)) ggX6_picks_X6_all
set_option maxRecDepth 20000 in
theorem ggX6_picks_X6_has : GoodIn wsX6_picks wsX6_has := goodIn_r _ [10] (by decide +kernel) (by decide +kernel)
set_option maxRecDepth 20000 in
theorem gX6_picks_X6_has : GoodIn wsX6_picks (va_wsS RX6 62 yX6_has wsX6_has) := goodIn_app (goodIn_of _ (by decide +kernel)) ggX6_picks_X6_has
set_option maxRecDepth 20000 in
theorem ggX6_picks_X6_leastOf : GoodIn wsX6_picks wsX6_leastOf := goodIn_r _ [14, 8, 9, 6, 10] (by decide +kernel) (by decide +kernel)
set_option maxRecDepth 20000 in
theorem gX6_picks_X6_leastOf : GoodIn wsX6_picks (wsV RX6 120 RX6 yX6_leastOf wsX6_leastOf) := goodIn_app (goodIn_of _ (by decide +kernel)) ggX6_picks_X6_leastOf
theorem dX6_picks_0 : decode cX6_picks 0 = .ok (.aload_n 0, 1) := by decide +kernel
theorem dX6_picks_1 : decode cX6_picks 1 = .ok (.invokevirtual 110, 3) := by decide +kernel
theorem dX6_picks_4 : decode cX6_picks 4 = .ok (.iload_n 3, 1) := by decide +kernel
theorem dX6_picks_5 : decode cX6_picks 5 = .ok (.iconst (-1), 1) := by decide +kernel
theorem dX6_picks_6 : decode cX6_picks 6 = .ok (.ixor, 1) := by decide +kernel
theorem dX6_picks_7 : decode cX6_picks 7 = .ok (.iand, 1) := by decide +kernel
theorem dX6_picks_8 : decode cX6_picks 8 = .ok (.istore 4, 2) := by decide +kernel
theorem dX6_picks_10 : decode cX6_picks 10 = .ok (.iload 4, 2) := by decide +kernel
theorem dX6_picks_12 : decode cX6_picks 12 = .ok (.iload_n 2, 1) := by decide +kernel
theorem dX6_picks_13 : decode cX6_picks 13 = .ok (.iand, 1) := by decide +kernel
theorem dX6_picks_14 : decode cX6_picks 14 = .ok (.istore 5, 2) := by decide +kernel
theorem dX6_picks_16 : decode cX6_picks 16 = .ok (.iload_n 1, 1) := by decide +kernel
theorem dX6_picks_17 : decode cX6_picks 17 = .ok (.iconst 1, 1) := by decide +kernel
theorem dX6_picks_18 : decode cX6_picks 18 = .ok (.if_icmp .ne 71, 3) := by decide +kernel
theorem dX6_picks_21 : decode cX6_picks 21 = .ok (.bipush (-9), 2) := by decide +kernel
theorem dX6_picks_23 : decode cX6_picks 23 = .ok (.istore 6, 2) := by decide +kernel
theorem dX6_picks_25 : decode cX6_picks 25 = .ok (.iconst 0, 1) := by decide +kernel
theorem dX6_picks_26 : decode cX6_picks 26 = .ok (.istore 7, 2) := by decide +kernel
theorem dX6_picks_28 : decode cX6_picks 28 = .ok (.iload 7, 2) := by decide +kernel
theorem dX6_picks_30 : decode cX6_picks 30 = .ok (.aload_n 0, 1) := by decide +kernel
theorem dX6_picks_31 : decode cX6_picks 31 = .ok (.getfield 90, 3) := by decide +kernel
theorem dX6_picks_34 : decode cX6_picks 34 = .ok (.if_icmp .ge 52, 3) := by decide +kernel
theorem dX6_picks_37 : decode cX6_picks 37 = .ok (.iload 4, 2) := by decide +kernel
theorem dX6_picks_39 : decode cX6_picks 39 = .ok (.iload 7, 2) := by decide +kernel
theorem dX6_picks_41 : decode cX6_picks 41 = .ok (.invokestatic 62, 3) := by decide +kernel
theorem dX6_picks_44 : decode cX6_picks 44 = .ok (.ifCond .eq 32, 3) := by decide +kernel
theorem dX6_picks_47 : decode cX6_picks 47 = .ok (.iload 6, 2) := by decide +kernel
theorem dX6_picks_49 : decode cX6_picks 49 = .ok (.bipush (-9), 2) := by decide +kernel
theorem dX6_picks_51 : decode cX6_picks 51 = .ok (.if_icmp .eq 20, 3) := by decide +kernel
theorem dX6_picks_54 : decode cX6_picks 54 = .ok (.aload_n 0, 1) := by decide +kernel
theorem dX6_picks_55 : decode cX6_picks 55 = .ok (.getfield 7, 3) := by decide +kernel
theorem dX6_picks_58 : decode cX6_picks 58 = .ok (.iload 7, 2) := by decide +kernel
theorem dX6_picks_60 : decode cX6_picks 60 = .ok (.iaload, 1) := by decide +kernel
theorem dX6_picks_61 : decode cX6_picks 61 = .ok (.aload_n 0, 1) := by decide +kernel
theorem dX6_picks_62 : decode cX6_picks 62 = .ok (.getfield 7, 3) := by decide +kernel
theorem dX6_picks_65 : decode cX6_picks 65 = .ok (.iload 6, 2) := by decide +kernel
theorem dX6_picks_67 : decode cX6_picks 67 = .ok (.iaload, 1) := by decide +kernel
theorem dX6_picks_68 : decode cX6_picks 68 = .ok (.if_icmp .ge 8, 3) := by decide +kernel
theorem dX6_picks_71 : decode cX6_picks 71 = .ok (.iload 7, 2) := by decide +kernel
theorem dX6_picks_73 : decode cX6_picks 73 = .ok (.goto 5, 3) := by decide +kernel
theorem dX6_picks_76 : decode cX6_picks 76 = .ok (.iload 6, 2) := by decide +kernel
theorem dX6_picks_78 : decode cX6_picks 78 = .ok (.istore 6, 2) := by decide +kernel
theorem dX6_picks_80 : decode cX6_picks 80 = .ok (.iinc 7 1, 3) := by decide +kernel
theorem dX6_picks_83 : decode cX6_picks 83 = .ok (.goto (-55), 3) := by decide +kernel
theorem dX6_picks_86 : decode cX6_picks 86 = .ok (.iload 6, 2) := by decide +kernel
theorem dX6_picks_88 : decode cX6_picks 88 = .ok (.ireturn, 1) := by decide +kernel
theorem dX6_picks_89 : decode cX6_picks 89 = .ok (.iload_n 1, 1) := by decide +kernel
theorem dX6_picks_90 : decode cX6_picks 90 = .ok (.ifCond .eq 8, 3) := by decide +kernel
theorem dX6_picks_93 : decode cX6_picks 93 = .ok (.iload 5, 2) := by decide +kernel
theorem dX6_picks_95 : decode cX6_picks 95 = .ok (.ifCond .ne 10, 3) := by decide +kernel
theorem dX6_picks_98 : decode cX6_picks 98 = .ok (.aload_n 0, 1) := by decide +kernel
theorem dX6_picks_99 : decode cX6_picks 99 = .ok (.iload 4, 2) := by decide +kernel
theorem dX6_picks_101 : decode cX6_picks 101 = .ok (.invokevirtual 120, 3) := by decide +kernel
theorem dX6_picks_104 : decode cX6_picks 104 = .ok (.ireturn, 1) := by decide +kernel
theorem dX6_picks_105 : decode cX6_picks 105 = .ok (.aload_n 0, 1) := by decide +kernel
theorem dX6_picks_106 : decode cX6_picks 106 = .ok (.iload 5, 2) := by decide +kernel
theorem dX6_picks_108 : decode cX6_picks 108 = .ok (.invokevirtual 120, 3) := by decide +kernel
theorem dX6_picks_111 : decode cX6_picks 111 = .ok (.istore 6, 2) := by decide +kernel
theorem dX6_picks_113 : decode cX6_picks 113 = .ok (.iconst 0, 1) := by decide +kernel
theorem dX6_picks_114 : decode cX6_picks 114 = .ok (.istore 7, 2) := by decide +kernel
theorem dX6_picks_116 : decode cX6_picks 116 = .ok (.iload 7, 2) := by decide +kernel
theorem dX6_picks_118 : decode cX6_picks 118 = .ok (.aload_n 0, 1) := by decide +kernel
theorem dX6_picks_119 : decode cX6_picks 119 = .ok (.getfield 90, 3) := by decide +kernel
theorem dX6_picks_122 : decode cX6_picks 122 = .ok (.if_icmp .ge 33, 3) := by decide +kernel
theorem dX6_picks_125 : decode cX6_picks 125 = .ok (.iload_n 1, 1) := by decide +kernel
theorem dX6_picks_126 : decode cX6_picks 126 = .ok (.iconst 2, 1) := by decide +kernel
theorem dX6_picks_127 : decode cX6_picks 127 = .ok (.if_icmp .eq 28, 3) := by decide +kernel
theorem dX6_picks_130 : decode cX6_picks 130 = .ok (.iload 5, 2) := by decide +kernel
theorem dX6_picks_132 : decode cX6_picks 132 = .ok (.iload 7, 2) := by decide +kernel
theorem dX6_picks_134 : decode cX6_picks 134 = .ok (.invokestatic 62, 3) := by decide +kernel
theorem dX6_picks_137 : decode cX6_picks 137 = .ok (.ifCond .eq 8, 3) := by decide +kernel
theorem dX6_picks_140 : decode cX6_picks 140 = .ok (.iload 7, 2) := by decide +kernel
theorem dX6_picks_142 : decode cX6_picks 142 = .ok (.goto 5, 3) := by decide +kernel
theorem dX6_picks_145 : decode cX6_picks 145 = .ok (.iload 6, 2) := by decide +kernel
theorem dX6_picks_147 : decode cX6_picks 147 = .ok (.istore 6, 2) := by decide +kernel
theorem dX6_picks_149 : decode cX6_picks 149 = .ok (.iinc 7 1, 3) := by decide +kernel
theorem dX6_picks_152 : decode cX6_picks 152 = .ok (.goto (-36), 3) := by decide +kernel
theorem dX6_picks_155 : decode cX6_picks 155 = .ok (.iload 6, 2) := by decide +kernel
theorem dX6_picks_157 : decode cX6_picks 157 = .ok (.ireturn, 1) := by decide +kernel
set_option maxRecDepth 20000 in
theorem ggX6_casket_X6_isCasket : GoodIn wsX6_casket wsX6_isCasket := goodIn_r _ [7, 8, 9, 10, 6, 11, 35, 36, 37, 38, 39, 40, 41, 42, 43, 44, 45, 46, 47, 48, 49, 50, 51, 52, 53, 54, 55, 56, 57, 58] (by decide +kernel) (by decide +kernel)
set_option maxRecDepth 20000 in
theorem gX6_casket_X6_isCasket : GoodIn wsX6_casket (wsV RX6 99 RX6 yX6_isCasket wsX6_isCasket) := goodIn_app (goodIn_of _ (by decide +kernel)) ggX6_casket_X6_isCasket
set_option maxRecDepth 20000 in
theorem ggX6_casket_X6_all : GoodIn wsX6_casket wsX6_all := goodIn_r _ [15, 8, 35, 36, 37, 38, 39, 40, 41, 42, 43, 44, 45, 46, 47, 48, 49, 50, 51, 52, 53, 54, 55, 56, 57, 58] (by decide +kernel) (by decide +kernel)
set_option maxRecDepth 20000 in
theorem gX6_casket_X6_all : GoodIn wsX6_casket (wsV RX6 110 RX6 yX6_all wsX6_all) := goodIn_app (goodIn_of _ (by decide +kernel)) ggX6_casket_X6_all
set_option maxRecDepth 20000 in
theorem ggX6_casket_X6_readings : GoodIn wsX6_casket wsX6_readings := goodIn_r _ [19, 12, 13, 14, 6, 15, 8, 20, 21, 22, 23, 24, 25, 26, 27, 28, 29, 30, 31, 32, 33, 34, 2, 3, 4, 5, 7, 9, 10, 11, 35, 36, 37, 38, 39, 40, 41, 42, 43, 44, 45, 46, 47, 48, 49, 50, 51, 52, 53, 54, 55, 56, 57, 58] (by decide +kernel) (by decide +kernel)
set_option maxRecDepth 20000 in
theorem gX6_casket_X6_readings : GoodIn wsX6_casket (wsV RX6 116 RX6 yX6_readings wsX6_readings) := goodIn_app (goodIn_of _ (by decide +kernel)) ggX6_casket_X6_readings
theorem dX6_casket_0 : decode cX6_casket 0 = .ok (.aload_n 0, 1) := by decide +kernel
theorem dX6_casket_1 : decode cX6_casket 1 = .ok (.iload_n 1, 1) := by decide +kernel
theorem dX6_casket_2 : decode cX6_casket 2 = .ok (.invokevirtual 99, 3) := by decide +kernel
theorem dX6_casket_5 : decode cX6_casket 5 = .ok (.ifCond .ne 5, 3) := by decide +kernel
theorem dX6_casket_8 : decode cX6_casket 8 = .ok (.iconst (-1), 1) := by decide +kernel
theorem dX6_casket_9 : decode cX6_casket 9 = .ok (.ireturn, 1) := by decide +kernel
theorem dX6_casket_10 : decode cX6_casket 10 = .ok (.iload_n 2, 1) := by decide +kernel
theorem dX6_casket_11 : decode cX6_casket 11 = .ok (.tableswitch 102 0 5 #[37, 44, 51, 60, 72, 91], 37) := by decide +kernel
theorem dX6_casket_48 : decode cX6_casket 48 = .ok (.aload_n 0, 1) := by decide +kernel
theorem dX6_casket_49 : decode cX6_casket 49 = .ok (.getfield 7, 3) := by decide +kernel
theorem dX6_casket_52 : decode cX6_casket 52 = .ok (.iload_n 1, 1) := by decide +kernel
theorem dX6_casket_53 : decode cX6_casket 53 = .ok (.iaload, 1) := by decide +kernel
theorem dX6_casket_54 : decode cX6_casket 54 = .ok (.ireturn, 1) := by decide +kernel
theorem dX6_casket_55 : decode cX6_casket 55 = .ok (.aload_n 0, 1) := by decide +kernel
theorem dX6_casket_56 : decode cX6_casket 56 = .ok (.getfield 16, 3) := by decide +kernel
theorem dX6_casket_59 : decode cX6_casket 59 = .ok (.iload_n 1, 1) := by decide +kernel
theorem dX6_casket_60 : decode cX6_casket 60 = .ok (.iaload, 1) := by decide +kernel
theorem dX6_casket_61 : decode cX6_casket 61 = .ok (.ireturn, 1) := by decide +kernel
theorem dX6_casket_62 : decode cX6_casket 62 = .ok (.aload_n 0, 1) := by decide +kernel
theorem dX6_casket_63 : decode cX6_casket 63 = .ok (.getfield 16, 3) := by decide +kernel
theorem dX6_casket_66 : decode cX6_casket 66 = .ok (.iconst 4, 1) := by decide +kernel
theorem dX6_casket_67 : decode cX6_casket 67 = .ok (.iload_n 1, 1) := by decide +kernel
theorem dX6_casket_68 : decode cX6_casket 68 = .ok (.iadd, 1) := by decide +kernel
theorem dX6_casket_69 : decode cX6_casket 69 = .ok (.iaload, 1) := by decide +kernel
theorem dX6_casket_70 : decode cX6_casket 70 = .ok (.ireturn, 1) := by decide +kernel
theorem dX6_casket_71 : decode cX6_casket 71 = .ok (.aload_n 0, 1) := by decide +kernel
theorem dX6_casket_72 : decode cX6_casket 72 = .ok (.getfield 16, 3) := by decide +kernel
theorem dX6_casket_75 : decode cX6_casket 75 = .ok (.bipush 9, 2) := by decide +kernel
theorem dX6_casket_77 : decode cX6_casket 77 = .ok (.iaload, 1) := by decide +kernel
theorem dX6_casket_78 : decode cX6_casket 78 = .ok (.iload_n 1, 1) := by decide +kernel
theorem dX6_casket_79 : decode cX6_casket 79 = .ok (.ishr, 1) := by decide +kernel
theorem dX6_casket_80 : decode cX6_casket 80 = .ok (.iconst 1, 1) := by decide +kernel
theorem dX6_casket_81 : decode cX6_casket 81 = .ok (.iand, 1) := by decide +kernel
theorem dX6_casket_82 : decode cX6_casket 82 = .ok (.ireturn, 1) := by decide +kernel
theorem dX6_casket_83 : decode cX6_casket 83 = .ok (.aload_n 0, 1) := by decide +kernel
theorem dX6_casket_84 : decode cX6_casket 84 = .ok (.iconst 0, 1) := by decide +kernel
theorem dX6_casket_85 : decode cX6_casket 85 = .ok (.iload_n 1, 1) := by decide +kernel
theorem dX6_casket_86 : decode cX6_casket 86 = .ok (.aload_n 0, 1) := by decide +kernel
theorem dX6_casket_87 : decode cX6_casket 87 = .ok (.invokevirtual 110, 3) := by decide +kernel
theorem dX6_casket_90 : decode cX6_casket 90 = .ok (.invokevirtual 116, 3) := by decide +kernel
theorem dX6_casket_93 : decode cX6_casket 93 = .ok (.ifCond .le 7, 3) := by decide +kernel
theorem dX6_casket_96 : decode cX6_casket 96 = .ok (.iconst 1, 1) := by decide +kernel
theorem dX6_casket_97 : decode cX6_casket 97 = .ok (.goto 4, 3) := by decide +kernel
theorem dX6_casket_100 : decode cX6_casket 100 = .ok (.iconst 0, 1) := by decide +kernel
theorem dX6_casket_101 : decode cX6_casket 101 = .ok (.ireturn, 1) := by decide +kernel
theorem dX6_casket_102 : decode cX6_casket 102 = .ok (.aload_n 0, 1) := by decide +kernel
theorem dX6_casket_103 : decode cX6_casket 103 = .ok (.iconst 0, 1) := by decide +kernel
theorem dX6_casket_104 : decode cX6_casket 104 = .ok (.iload_n 1, 1) := by decide +kernel
theorem dX6_casket_105 : decode cX6_casket 105 = .ok (.aload_n 0, 1) := by decide +kernel
theorem dX6_casket_106 : decode cX6_casket 106 = .ok (.invokevirtual 110, 3) := by decide +kernel
theorem dX6_casket_109 : decode cX6_casket 109 = .ok (.invokevirtual 116, 3) := by decide +kernel
theorem dX6_casket_112 : decode cX6_casket 112 = .ok (.ireturn, 1) := by decide +kernel
theorem dX6_casket_113 : decode cX6_casket 113 = .ok (.bipush (-2), 2) := by decide +kernel
theorem dX6_casket_115 : decode cX6_casket 115 = .ok (.ireturn, 1) := by decide +kernel
set_option maxRecDepth 20000 in
theorem ggX6_wooer_X6_isWooer : GoodIn wsX6_wooer wsX6_isWooer := goodIn_r _ [7, 8, 9, 10, 6, 11, 53, 54, 55, 56, 57, 58, 59, 60, 61, 62, 63, 64, 65, 66, 67, 68, 69, 70, 71, 72, 73, 74, 75, 76] (by decide +kernel) (by decide +kernel)
set_option maxRecDepth 20000 in
theorem gX6_wooer_X6_isWooer : GoodIn wsX6_wooer (wsV RX6 123 RX6 yX6_isWooer wsX6_isWooer) := goodIn_app (goodIn_of _ (by decide +kernel)) ggX6_wooer_X6_isWooer
set_option maxRecDepth 20000 in
theorem ggX6_wooer_X6_all : GoodIn wsX6_wooer wsX6_all := goodIn_r _ [15, 16, 53, 54, 55, 56, 57, 58, 59, 60, 61, 62, 63, 64, 65, 66, 67, 68, 69, 70, 71, 72, 73, 74, 75, 76] (by decide +kernel) (by decide +kernel)
set_option maxRecDepth 20000 in
theorem gX6_wooer_X6_all : GoodIn wsX6_wooer (wsV RX6 110 RX6 yX6_all wsX6_all) := goodIn_app (goodIn_of _ (by decide +kernel)) ggX6_wooer_X6_all
set_option maxRecDepth 20000 in
theorem ggX6_wooer_X6_fitsOn : GoodIn wsX6_wooer wsX6_fitsOn := goodIn_r _ [20, 16, 21, 22, 23, 6, 24, 12, 13, 14, 15, 25, 26, 27, 28, 29, 30, 31, 32, 33, 34, 35, 36, 37, 38, 39, 2, 40, 41, 42, 43, 9, 10, 11, 53, 54, 55, 56, 57, 58, 59, 60, 61, 62, 63, 64, 65, 66, 67, 68, 69, 70, 71, 72, 73, 74, 75, 76] (by decide +kernel) (by decide +kernel)
set_option maxRecDepth 20000 in
theorem gX6_wooer_X6_fitsOn : GoodIn wsX6_wooer (wsV RX6 126 RX6 yX6_fitsOn wsX6_fitsOn) := goodIn_app (goodIn_of _ (by decide +kernel)) ggX6_wooer_X6_fitsOn
set_option maxRecDepth 20000 in
theorem ggX6_wooer_X6_picks : GoodIn wsX6_wooer wsX6_picks := goodIn_r _ [47, 16, 48, 12, 13, 14, 6, 15, 33, 34, 35, 49, 50, 51, 52, 53, 54, 55, 56, 57, 58, 59, 60, 61, 62, 63, 64, 65, 66, 67, 68, 69, 70, 71, 72, 73, 74, 75, 76] (by decide +kernel) (by decide +kernel)
set_option maxRecDepth 20000 in
theorem gX6_wooer_X6_picks : GoodIn wsX6_wooer (wsV RX6 130 RX6 yX6_picks wsX6_picks) := goodIn_app (goodIn_of _ (by decide +kernel)) ggX6_wooer_X6_picks
theorem dX6_wooer_0 : decode cX6_wooer 0 = .ok (.aload_n 0, 1) := by decide +kernel
theorem dX6_wooer_1 : decode cX6_wooer 1 = .ok (.iload_n 1, 1) := by decide +kernel
theorem dX6_wooer_2 : decode cX6_wooer 2 = .ok (.invokevirtual 123, 3) := by decide +kernel
theorem dX6_wooer_5 : decode cX6_wooer 5 = .ok (.ifCond .ne 5, 3) := by decide +kernel
theorem dX6_wooer_8 : decode cX6_wooer 8 = .ok (.iconst (-1), 1) := by decide +kernel
theorem dX6_wooer_9 : decode cX6_wooer 9 = .ok (.ireturn, 1) := by decide +kernel
theorem dX6_wooer_10 : decode cX6_wooer 10 = .ok (.iload_n 2, 1) := by decide +kernel
theorem dX6_wooer_11 : decode cX6_wooer 11 = .ok (.tableswitch 69 0 2 #[25, 32, 59], 25) := by decide +kernel
theorem dX6_wooer_36 : decode cX6_wooer 36 = .ok (.aload_n 0, 1) := by decide +kernel
theorem dX6_wooer_37 : decode cX6_wooer 37 = .ok (.getfield 13, 3) := by decide +kernel
theorem dX6_wooer_40 : decode cX6_wooer 40 = .ok (.iload_n 1, 1) := by decide +kernel
theorem dX6_wooer_41 : decode cX6_wooer 41 = .ok (.iaload, 1) := by decide +kernel
theorem dX6_wooer_42 : decode cX6_wooer 42 = .ok (.ireturn, 1) := by decide +kernel
theorem dX6_wooer_43 : decode cX6_wooer 43 = .ok (.aload_n 0, 1) := by decide +kernel
theorem dX6_wooer_44 : decode cX6_wooer 44 = .ok (.aload_n 0, 1) := by decide +kernel
theorem dX6_wooer_45 : decode cX6_wooer 45 = .ok (.getfield 13, 3) := by decide +kernel
theorem dX6_wooer_48 : decode cX6_wooer 48 = .ok (.iload_n 1, 1) := by decide +kernel
theorem dX6_wooer_49 : decode cX6_wooer 49 = .ok (.iaload, 1) := by decide +kernel
theorem dX6_wooer_50 : decode cX6_wooer 50 = .ok (.aload_n 0, 1) := by decide +kernel
theorem dX6_wooer_51 : decode cX6_wooer 51 = .ok (.iconst 0, 1) := by decide +kernel
theorem dX6_wooer_52 : decode cX6_wooer 52 = .ok (.aload_n 0, 1) := by decide +kernel
theorem dX6_wooer_53 : decode cX6_wooer 53 = .ok (.invokevirtual 110, 3) := by decide +kernel
theorem dX6_wooer_56 : decode cX6_wooer 56 = .ok (.invokevirtual 126, 3) := by decide +kernel
theorem dX6_wooer_59 : decode cX6_wooer 59 = .ok (.aload_n 0, 1) := by decide +kernel
theorem dX6_wooer_60 : decode cX6_wooer 60 = .ok (.getfield 16, 3) := by decide +kernel
theorem dX6_wooer_63 : decode cX6_wooer 63 = .ok (.bipush 9, 2) := by decide +kernel
theorem dX6_wooer_65 : decode cX6_wooer 65 = .ok (.iaload, 1) := by decide +kernel
theorem dX6_wooer_66 : decode cX6_wooer 66 = .ok (.invokevirtual 130, 3) := by decide +kernel
theorem dX6_wooer_69 : decode cX6_wooer 69 = .ok (.ireturn, 1) := by decide +kernel
theorem dX6_wooer_70 : decode cX6_wooer 70 = .ok (.aload_n 0, 1) := by decide +kernel
theorem dX6_wooer_71 : decode cX6_wooer 71 = .ok (.getfield 16, 3) := by decide +kernel
theorem dX6_wooer_74 : decode cX6_wooer 74 = .ok (.bipush 12, 2) := by decide +kernel
theorem dX6_wooer_76 : decode cX6_wooer 76 = .ok (.iload_n 1, 1) := by decide +kernel
theorem dX6_wooer_77 : decode cX6_wooer 77 = .ok (.iadd, 1) := by decide +kernel
theorem dX6_wooer_78 : decode cX6_wooer 78 = .ok (.iaload, 1) := by decide +kernel
theorem dX6_wooer_79 : decode cX6_wooer 79 = .ok (.ireturn, 1) := by decide +kernel
theorem dX6_wooer_80 : decode cX6_wooer 80 = .ok (.bipush (-2), 2) := by decide +kernel
theorem dX6_wooer_82 : decode cX6_wooer 82 = .ok (.ireturn, 1) := by decide +kernel
theorem dX6_keepAct_0 : decode cX6_keepAct 0 = .ok (.iconst 0, 1) := by decide +kernel
theorem dX6_keepAct_1 : decode cX6_keepAct 1 = .ok (.istore_n 1, 1) := by decide +kernel
theorem dX6_keepAct_2 : decode cX6_keepAct 2 = .ok (.iload_n 1, 1) := by decide +kernel
theorem dX6_keepAct_3 : decode cX6_keepAct 3 = .ok (.bipush 18, 2) := by decide +kernel
theorem dX6_keepAct_5 : decode cX6_keepAct 5 = .ok (.if_icmp .ge 29, 3) := by decide +kernel
theorem dX6_keepAct_8 : decode cX6_keepAct 8 = .ok (.aload_n 0, 1) := by decide +kernel
theorem dX6_keepAct_9 : decode cX6_keepAct 9 = .ok (.getfield 28, 3) := by decide +kernel
theorem dX6_keepAct_12 : decode cX6_keepAct 12 = .ok (.bipush 18, 2) := by decide +kernel
theorem dX6_keepAct_14 : decode cX6_keepAct 14 = .ok (.aload_n 0, 1) := by decide +kernel
theorem dX6_keepAct_15 : decode cX6_keepAct 15 = .ok (.getfield 133, 3) := by decide +kernel
theorem dX6_keepAct_18 : decode cX6_keepAct 18 = .ok (.imul, 1) := by decide +kernel
theorem dX6_keepAct_19 : decode cX6_keepAct 19 = .ok (.iload_n 1, 1) := by decide +kernel
theorem dX6_keepAct_20 : decode cX6_keepAct 20 = .ok (.iadd, 1) := by decide +kernel
theorem dX6_keepAct_21 : decode cX6_keepAct 21 = .ok (.aload_n 0, 1) := by decide +kernel
theorem dX6_keepAct_22 : decode cX6_keepAct 22 = .ok (.getfield 16, 3) := by decide +kernel
theorem dX6_keepAct_25 : decode cX6_keepAct 25 = .ok (.iload_n 1, 1) := by decide +kernel
theorem dX6_keepAct_26 : decode cX6_keepAct 26 = .ok (.iaload, 1) := by decide +kernel
theorem dX6_keepAct_27 : decode cX6_keepAct 27 = .ok (.iastore, 1) := by decide +kernel
theorem dX6_keepAct_28 : decode cX6_keepAct 28 = .ok (.iinc 1 1, 3) := by decide +kernel
theorem dX6_keepAct_31 : decode cX6_keepAct 31 = .ok (.goto (-29), 3) := by decide +kernel
theorem dX6_keepAct_34 : decode cX6_keepAct 34 = .ok (.aload_n 0, 1) := by decide +kernel
theorem dX6_keepAct_35 : decode cX6_keepAct 35 = .ok (.aload_n 0, 1) := by decide +kernel
theorem dX6_keepAct_36 : decode cX6_keepAct 36 = .ok (.getfield 133, 3) := by decide +kernel
theorem dX6_keepAct_39 : decode cX6_keepAct 39 = .ok (.iconst 1, 1) := by decide +kernel
theorem dX6_keepAct_40 : decode cX6_keepAct 40 = .ok (.iadd, 1) := by decide +kernel
theorem dX6_keepAct_41 : decode cX6_keepAct 41 = .ok (.bipush 14, 2) := by decide +kernel
theorem dX6_keepAct_43 : decode cX6_keepAct 43 = .ok (.irem, 1) := by decide +kernel
theorem dX6_keepAct_44 : decode cX6_keepAct 44 = .ok (.putfield 133, 3) := by decide +kernel
theorem dX6_keepAct_47 : decode cX6_keepAct 47 = .ok (.aload_n 0, 1) := by decide +kernel
theorem dX6_keepAct_48 : decode cX6_keepAct 48 = .ok (.aload_n 0, 1) := by decide +kernel
theorem dX6_keepAct_49 : decode cX6_keepAct 49 = .ok (.getfield 96, 3) := by decide +kernel
theorem dX6_keepAct_52 : decode cX6_keepAct 52 = .ok (.bipush 14, 2) := by decide +kernel
theorem dX6_keepAct_54 : decode cX6_keepAct 54 = .ok (.if_icmp .ge 12, 3) := by decide +kernel
theorem dX6_keepAct_57 : decode cX6_keepAct 57 = .ok (.aload_n 0, 1) := by decide +kernel
theorem dX6_keepAct_58 : decode cX6_keepAct 58 = .ok (.getfield 96, 3) := by decide +kernel
theorem dX6_keepAct_61 : decode cX6_keepAct 61 = .ok (.iconst 1, 1) := by decide +kernel
theorem dX6_keepAct_62 : decode cX6_keepAct 62 = .ok (.iadd, 1) := by decide +kernel
theorem dX6_keepAct_63 : decode cX6_keepAct 63 = .ok (.goto 5, 3) := by decide +kernel
theorem dX6_keepAct_66 : decode cX6_keepAct 66 = .ok (.bipush 14, 2) := by decide +kernel
theorem dX6_keepAct_68 : decode cX6_keepAct 68 = .ok (.putfield 96, 3) := by decide +kernel
theorem dX6_keepAct_71 : decode cX6_keepAct 71 = .ok (.return_, 1) := by decide +kernel
theorem dX6_canTry_0 : decode cX6_canTry 0 = .ok (.aload_n 0, 1) := by decide +kernel
theorem dX6_canTry_1 : decode cX6_canTry 1 = .ok (.getfield 16, 3) := by decide +kernel
theorem dX6_canTry_4 : decode cX6_canTry 4 = .ok (.bipush 18, 2) := by decide +kernel
theorem dX6_canTry_6 : decode cX6_canTry 6 = .ok (.iload_n 1, 1) := by decide +kernel
theorem dX6_canTry_7 : decode cX6_canTry 7 = .ok (.imul, 1) := by decide +kernel
theorem dX6_canTry_8 : decode cX6_canTry 8 = .ok (.bipush 10, 2) := by decide +kernel
theorem dX6_canTry_10 : decode cX6_canTry 10 = .ok (.iadd, 1) := by decide +kernel
theorem dX6_canTry_11 : decode cX6_canTry 11 = .ok (.iaload, 1) := by decide +kernel
theorem dX6_canTry_12 : decode cX6_canTry 12 = .ok (.aload_n 0, 1) := by decide +kernel
theorem dX6_canTry_13 : decode cX6_canTry 13 = .ok (.getfield 93, 3) := by decide +kernel
theorem dX6_canTry_16 : decode cX6_canTry 16 = .ok (.if_icmp .ge 22, 3) := by decide +kernel
theorem dX6_canTry_19 : decode cX6_canTry 19 = .ok (.aload_n 0, 1) := by decide +kernel
theorem dX6_canTry_20 : decode cX6_canTry 20 = .ok (.getfield 16, 3) := by decide +kernel
theorem dX6_canTry_23 : decode cX6_canTry 23 = .ok (.bipush 18, 2) := by decide +kernel
theorem dX6_canTry_25 : decode cX6_canTry 25 = .ok (.iload_n 1, 1) := by decide +kernel
theorem dX6_canTry_26 : decode cX6_canTry 26 = .ok (.imul, 1) := by decide +kernel
theorem dX6_canTry_27 : decode cX6_canTry 27 = .ok (.bipush 11, 2) := by decide +kernel
theorem dX6_canTry_29 : decode cX6_canTry 29 = .ok (.iadd, 1) := by decide +kernel
theorem dX6_canTry_30 : decode cX6_canTry 30 = .ok (.iaload, 1) := by decide +kernel
theorem dX6_canTry_31 : decode cX6_canTry 31 = .ok (.ifCond .ne 7, 3) := by decide +kernel
theorem dX6_canTry_34 : decode cX6_canTry 34 = .ok (.iconst 1, 1) := by decide +kernel
theorem dX6_canTry_35 : decode cX6_canTry 35 = .ok (.goto 4, 3) := by decide +kernel
theorem dX6_canTry_38 : decode cX6_canTry 38 = .ok (.iconst 0, 1) := by decide +kernel
theorem dX6_canTry_39 : decode cX6_canTry 39 = .ok (.ireturn, 1) := by decide +kernel
set_option maxRecDepth 20000 in
theorem ggX6_tryOn_X6_all : GoodIn wsX6_tryOn wsX6_all := goodIn_r _ [7, 8, 48, 49, 50, 51, 52, 53, 54, 55, 56, 57, 58, 59, 60, 61, 62, 63, 64, 65, 66, 67, 68, 69, 70, 71] (by decide +kernel) (by decide +kernel)
set_option maxRecDepth 20000 in
theorem gX6_tryOn_X6_all : GoodIn wsX6_tryOn (wsV RX6 110 RX6 yX6_all wsX6_all) := goodIn_app (goodIn_of _ (by decide +kernel)) ggX6_tryOn_X6_all
set_option maxRecDepth 20000 in
theorem ggX6_tryOn_X6_fitsOn : GoodIn wsX6_tryOn wsX6_fitsOn := goodIn_r _ [12, 8, 13, 14, 15, 6, 16, 3, 4, 5, 7, 17, 18, 19, 20, 21, 22, 23, 24, 25, 26, 27, 28, 29, 30, 31, 1, 32, 33, 34, 35, 36, 37, 38, 48, 49, 50, 51, 52, 53, 54, 55, 56, 57, 58, 59, 60, 61, 62, 63, 64, 65, 66, 67, 68, 69, 70, 71] (by decide +kernel) (by decide +kernel)
set_option maxRecDepth 20000 in
theorem gX6_tryOn_X6_fitsOn : GoodIn wsX6_tryOn (wsV RX6 126 RX6 yX6_fitsOn wsX6_fitsOn) := goodIn_app (goodIn_of _ (by decide +kernel)) ggX6_tryOn_X6_fitsOn
set_option maxRecDepth 20000 in
theorem ggX6_tryOn_X6_picks : GoodIn wsX6_tryOn wsX6_picks := goodIn_r _ [42, 8, 43, 3, 4, 5, 6, 7, 25, 26, 27, 44, 45, 46, 47, 48, 49, 50, 51, 52, 53, 54, 55, 56, 57, 58, 59, 60, 61, 62, 63, 64, 65, 66, 67, 68, 69, 70, 71] (by decide +kernel) (by decide +kernel)
set_option maxRecDepth 20000 in
theorem gX6_tryOn_X6_picks : GoodIn wsX6_tryOn (wsV RX6 130 RX6 yX6_picks wsX6_picks) := goodIn_app (goodIn_of _ (by decide +kernel)) ggX6_tryOn_X6_picks
theorem dX6_tryOn_0 : decode cX6_tryOn 0 = .ok (.bipush 18, 2) := by decide +kernel
theorem dX6_tryOn_2 : decode cX6_tryOn 2 = .ok (.iload_n 1, 1) := by decide +kernel
theorem dX6_tryOn_3 : decode cX6_tryOn 3 = .ok (.imul, 1) := by decide +kernel
theorem dX6_tryOn_4 : decode cX6_tryOn 4 = .ok (.istore_n 2, 1) := by decide +kernel
theorem dX6_tryOn_5 : decode cX6_tryOn 5 = .ok (.aload_n 0, 1) := by decide +kernel
theorem dX6_tryOn_6 : decode cX6_tryOn 6 = .ok (.getfield 16, 3) := by decide +kernel
theorem dX6_tryOn_9 : decode cX6_tryOn 9 = .ok (.iload_n 2, 1) := by decide +kernel
theorem dX6_tryOn_10 : decode cX6_tryOn 10 = .ok (.bipush 10, 2) := by decide +kernel
theorem dX6_tryOn_12 : decode cX6_tryOn 12 = .ok (.iadd, 1) := by decide +kernel
theorem dX6_tryOn_13 : decode cX6_tryOn 13 = .ok (.iaload, 1) := by decide +kernel
theorem dX6_tryOn_14 : decode cX6_tryOn 14 = .ok (.istore_n 3, 1) := by decide +kernel
theorem dX6_tryOn_15 : decode cX6_tryOn 15 = .ok (.aload_n 0, 1) := by decide +kernel
theorem dX6_tryOn_16 : decode cX6_tryOn 16 = .ok (.aload_n 0, 1) := by decide +kernel
theorem dX6_tryOn_17 : decode cX6_tryOn 17 = .ok (.getfield 13, 3) := by decide +kernel
theorem dX6_tryOn_20 : decode cX6_tryOn 20 = .ok (.iload_n 3, 1) := by decide +kernel
theorem dX6_tryOn_21 : decode cX6_tryOn 21 = .ok (.iaload, 1) := by decide +kernel
theorem dX6_tryOn_22 : decode cX6_tryOn 22 = .ok (.aload_n 0, 1) := by decide +kernel
theorem dX6_tryOn_23 : decode cX6_tryOn 23 = .ok (.iload_n 1, 1) := by decide +kernel
theorem dX6_tryOn_24 : decode cX6_tryOn 24 = .ok (.aload_n 0, 1) := by decide +kernel
theorem dX6_tryOn_25 : decode cX6_tryOn 25 = .ok (.invokevirtual 110, 3) := by decide +kernel
theorem dX6_tryOn_28 : decode cX6_tryOn 28 = .ok (.invokevirtual 126, 3) := by decide +kernel
theorem dX6_tryOn_31 : decode cX6_tryOn 31 = .ok (.aload_n 0, 1) := by decide +kernel
theorem dX6_tryOn_32 : decode cX6_tryOn 32 = .ok (.getfield 16, 3) := by decide +kernel
theorem dX6_tryOn_35 : decode cX6_tryOn 35 = .ok (.iload_n 2, 1) := by decide +kernel
theorem dX6_tryOn_36 : decode cX6_tryOn 36 = .ok (.bipush 9, 2) := by decide +kernel
theorem dX6_tryOn_38 : decode cX6_tryOn 38 = .ok (.iadd, 1) := by decide +kernel
theorem dX6_tryOn_39 : decode cX6_tryOn 39 = .ok (.iaload, 1) := by decide +kernel
theorem dX6_tryOn_40 : decode cX6_tryOn 40 = .ok (.invokevirtual 130, 3) := by decide +kernel
theorem dX6_tryOn_43 : decode cX6_tryOn 43 = .ok (.istore 4, 2) := by decide +kernel
theorem dX6_tryOn_45 : decode cX6_tryOn 45 = .ok (.aload_n 0, 1) := by decide +kernel
theorem dX6_tryOn_46 : decode cX6_tryOn 46 = .ok (.getfield 16, 3) := by decide +kernel
theorem dX6_tryOn_49 : decode cX6_tryOn 49 = .ok (.iload_n 2, 1) := by decide +kernel
theorem dX6_tryOn_50 : decode cX6_tryOn 50 = .ok (.bipush 12, 2) := by decide +kernel
theorem dX6_tryOn_52 : decode cX6_tryOn 52 = .ok (.iadd, 1) := by decide +kernel
theorem dX6_tryOn_53 : decode cX6_tryOn 53 = .ok (.iload_n 3, 1) := by decide +kernel
theorem dX6_tryOn_54 : decode cX6_tryOn 54 = .ok (.iadd, 1) := by decide +kernel
theorem dX6_tryOn_55 : decode cX6_tryOn 55 = .ok (.iload 4, 2) := by decide +kernel
theorem dX6_tryOn_57 : decode cX6_tryOn 57 = .ok (.iastore, 1) := by decide +kernel
theorem dX6_tryOn_58 : decode cX6_tryOn 58 = .ok (.aload_n 0, 1) := by decide +kernel
theorem dX6_tryOn_59 : decode cX6_tryOn 59 = .ok (.getfield 16, 3) := by decide +kernel
theorem dX6_tryOn_62 : decode cX6_tryOn 62 = .ok (.iload_n 2, 1) := by decide +kernel
theorem dX6_tryOn_63 : decode cX6_tryOn 63 = .ok (.bipush 11, 2) := by decide +kernel
theorem dX6_tryOn_65 : decode cX6_tryOn 65 = .ok (.iadd, 1) := by decide +kernel
theorem dX6_tryOn_66 : decode cX6_tryOn 66 = .ok (.iload 4, 2) := by decide +kernel
theorem dX6_tryOn_68 : decode cX6_tryOn 68 = .ok (.bipush (-9), 2) := by decide +kernel
theorem dX6_tryOn_70 : decode cX6_tryOn 70 = .ok (.if_icmp .eq 21, 3) := by decide +kernel
theorem dX6_tryOn_73 : decode cX6_tryOn 73 = .ok (.iload 4, 2) := by decide +kernel
theorem dX6_tryOn_75 : decode cX6_tryOn 75 = .ok (.aload_n 0, 1) := by decide +kernel
theorem dX6_tryOn_76 : decode cX6_tryOn 76 = .ok (.getfield 16, 3) := by decide +kernel
theorem dX6_tryOn_79 : decode cX6_tryOn 79 = .ok (.iload_n 2, 1) := by decide +kernel
theorem dX6_tryOn_80 : decode cX6_tryOn 80 = .ok (.bipush 8, 2) := by decide +kernel
theorem dX6_tryOn_82 : decode cX6_tryOn 82 = .ok (.iadd, 1) := by decide +kernel
theorem dX6_tryOn_83 : decode cX6_tryOn 83 = .ok (.iaload, 1) := by decide +kernel
theorem dX6_tryOn_84 : decode cX6_tryOn 84 = .ok (.if_icmp .ne 7, 3) := by decide +kernel
theorem dX6_tryOn_87 : decode cX6_tryOn 87 = .ok (.iconst 1, 1) := by decide +kernel
theorem dX6_tryOn_88 : decode cX6_tryOn 88 = .ok (.goto 4, 3) := by decide +kernel
theorem dX6_tryOn_91 : decode cX6_tryOn 91 = .ok (.iconst 0, 1) := by decide +kernel
theorem dX6_tryOn_92 : decode cX6_tryOn 92 = .ok (.iastore, 1) := by decide +kernel
theorem dX6_tryOn_93 : decode cX6_tryOn 93 = .ok (.aload_n 0, 1) := by decide +kernel
theorem dX6_tryOn_94 : decode cX6_tryOn 94 = .ok (.getfield 16, 3) := by decide +kernel
theorem dX6_tryOn_97 : decode cX6_tryOn 97 = .ok (.iload_n 2, 1) := by decide +kernel
theorem dX6_tryOn_98 : decode cX6_tryOn 98 = .ok (.bipush 10, 2) := by decide +kernel
theorem dX6_tryOn_100 : decode cX6_tryOn 100 = .ok (.iadd, 1) := by decide +kernel
theorem dX6_tryOn_101 : decode cX6_tryOn 101 = .ok (.dup2, 1) := by decide +kernel
theorem dX6_tryOn_102 : decode cX6_tryOn 102 = .ok (.iaload, 1) := by decide +kernel
theorem dX6_tryOn_103 : decode cX6_tryOn 103 = .ok (.iconst 1, 1) := by decide +kernel
theorem dX6_tryOn_104 : decode cX6_tryOn 104 = .ok (.iadd, 1) := by decide +kernel
theorem dX6_tryOn_105 : decode cX6_tryOn 105 = .ok (.iastore, 1) := by decide +kernel
theorem dX6_tryOn_106 : decode cX6_tryOn 106 = .ok (.iload 4, 2) := by decide +kernel
theorem dX6_tryOn_108 : decode cX6_tryOn 108 = .ok (.ireturn, 1) := by decide +kernel
set_option maxRecDepth 20000 in
theorem ggX6_attempt_X6_canTry : GoodIn wsX6_attempt wsX6_canTry := goodIn_r _ [5, 6, 7, 64, 65, 66, 67, 68, 69, 70, 71, 72, 73, 74, 75, 76, 77, 78, 79, 80, 81, 82, 83, 84, 85, 86, 87] (by decide +kernel) (by decide +kernel)
set_option maxRecDepth 20000 in
theorem gX6_attempt_X6_canTry : GoodIn wsX6_attempt (wsV RX6 136 RX6 yX6_canTry wsX6_canTry) := goodIn_app (goodIn_of _ (by decide +kernel)) ggX6_attempt_X6_canTry
set_option maxRecDepth 20000 in
theorem ggX6_attempt_X6_keepAct : GoodIn wsX6_attempt wsX6_keepAct := goodIn_r _ [11, 12, 13, 6, 14, 64, 65, 66, 67, 68, 69, 70, 71, 72, 73, 74, 75, 76, 77, 78, 79, 80, 81, 82, 83, 84, 85, 86, 87] (by decide +kernel) (by decide +kernel)
set_option maxRecDepth 20000 in
theorem gX6_attempt_X6_keepAct : GoodIn wsX6_attempt (wsV RX6 139 RX6 yX6_keepAct wsX6_keepAct) := goodIn_app (goodIn_of _ (by decide +kernel)) ggX6_attempt_X6_keepAct
set_option maxRecDepth 20000 in
theorem ggX6_attempt_X6_tryOn : GoodIn wsX6_attempt wsX6_tryOn := goodIn_r _ [18, 6, 19, 20, 21, 22, 4, 23, 24, 25, 26, 27, 28, 29, 30, 31, 32, 33, 34, 35, 36, 37, 38, 39, 40, 41, 42, 43, 44, 45, 46, 47, 48, 49, 50, 51, 52, 53, 54, 55, 56, 57, 58, 59, 60, 61, 62, 63, 64, 65, 66, 67, 68, 69, 70, 71, 72, 73, 74, 75, 76, 77, 78, 79, 80, 81, 82, 83, 84, 85, 86, 87] (by decide +kernel) (by decide +kernel)
set_option maxRecDepth 20000 in
theorem gX6_attempt_X6_tryOn : GoodIn wsX6_attempt (wsV RX6 142 RX6 yX6_tryOn wsX6_tryOn) := goodIn_app (goodIn_of _ (by decide +kernel)) ggX6_attempt_X6_tryOn
theorem dX6_attempt_0 : decode cX6_attempt 0 = .ok (.aload_n 0, 1) := by decide +kernel
theorem dX6_attempt_1 : decode cX6_attempt 1 = .ok (.iconst 0, 1) := by decide +kernel
theorem dX6_attempt_2 : decode cX6_attempt 2 = .ok (.invokevirtual 136, 3) := by decide +kernel
theorem dX6_attempt_5 : decode cX6_attempt 5 = .ok (.ifCond .ne 6, 3) := by decide +kernel
theorem dX6_attempt_8 : decode cX6_attempt 8 = .ok (.bipush (-3), 2) := by decide +kernel
theorem dX6_attempt_10 : decode cX6_attempt 10 = .ok (.ireturn, 1) := by decide +kernel
theorem dX6_attempt_11 : decode cX6_attempt 11 = .ok (.aload_n 0, 1) := by decide +kernel
theorem dX6_attempt_12 : decode cX6_attempt 12 = .ok (.invokevirtual 139, 3) := by decide +kernel
theorem dX6_attempt_15 : decode cX6_attempt 15 = .ok (.aload_n 0, 1) := by decide +kernel
theorem dX6_attempt_16 : decode cX6_attempt 16 = .ok (.iconst 0, 1) := by decide +kernel
theorem dX6_attempt_17 : decode cX6_attempt 17 = .ok (.invokevirtual 142, 3) := by decide +kernel
theorem dX6_attempt_20 : decode cX6_attempt 20 = .ok (.ireturn, 1) := by decide +kernel
set_option maxRecDepth 20000 in
theorem ggX6_mend_X6_isCasket : GoodIn wsX6_mend wsX6_isCasket := goodIn_r _ [8, 9, 10, 11, 7, 12, 20, 21, 22, 23, 24, 25, 26, 27, 28, 29, 30, 31, 32, 33, 34, 35, 36, 37, 38, 39, 40, 41, 42, 43] (by decide +kernel) (by decide +kernel)
set_option maxRecDepth 20000 in
theorem gX6_mend_X6_isCasket : GoodIn wsX6_mend (wsV RX6 99 RX6 yX6_isCasket wsX6_isCasket) := goodIn_app (goodIn_of _ (by decide +kernel)) ggX6_mend_X6_isCasket
set_option maxRecDepth 20000 in
theorem ggX6_mend_X6_in : GoodIn wsX6_mend wsX6_in := goodIn_r _ [12] (by decide +kernel) (by decide +kernel)
set_option maxRecDepth 20000 in
theorem gX6_mend_X6_in : GoodIn wsX6_mend (va_wsS RX6 47 yX6_in wsX6_in) := goodIn_app (goodIn_of _ (by decide +kernel)) ggX6_mend_X6_in
set_option maxRecDepth 20000 in
theorem ggX6_mend_X6_keepAct : GoodIn wsX6_mend wsX6_keepAct := goodIn_r _ [16, 17, 18, 3, 19, 20, 21, 22, 23, 24, 25, 26, 27, 28, 29, 30, 31, 32, 33, 34, 35, 36, 37, 38, 39, 40, 41, 42, 43] (by decide +kernel) (by decide +kernel)
set_option maxRecDepth 20000 in
theorem gX6_mend_X6_keepAct : GoodIn wsX6_mend (wsV RX6 139 RX6 yX6_keepAct wsX6_keepAct) := goodIn_app (goodIn_of _ (by decide +kernel)) ggX6_mend_X6_keepAct
theorem dX6_mend_0 : decode cX6_mend 0 = .ok (.aload_n 0, 1) := by decide +kernel
theorem dX6_mend_1 : decode cX6_mend 1 = .ok (.iload_n 1, 1) := by decide +kernel
theorem dX6_mend_2 : decode cX6_mend 2 = .ok (.invokevirtual 99, 3) := by decide +kernel
theorem dX6_mend_5 : decode cX6_mend 5 = .ok (.ifCond .ne 5, 3) := by decide +kernel
theorem dX6_mend_8 : decode cX6_mend 8 = .ok (.iconst (-1), 1) := by decide +kernel
theorem dX6_mend_9 : decode cX6_mend 9 = .ok (.ireturn, 1) := by decide +kernel
theorem dX6_mend_10 : decode cX6_mend 10 = .ok (.iload_n 2, 1) := by decide +kernel
theorem dX6_mend_11 : decode cX6_mend 11 = .ok (.i2l, 1) := by decide +kernel
theorem dX6_mend_12 : decode cX6_mend 12 = .ok (.lconst 0, 1) := by decide +kernel
theorem dX6_mend_13 : decode cX6_mend 13 = .ok (.ldc2_w 145, 3) := by decide +kernel
theorem dX6_mend_16 : decode cX6_mend 16 = .ok (.invokestatic 47, 3) := by decide +kernel
theorem dX6_mend_19 : decode cX6_mend 19 = .ok (.ifCond .eq 15, 3) := by decide +kernel
theorem dX6_mend_22 : decode cX6_mend 22 = .ok (.iload_n 3, 1) := by decide +kernel
theorem dX6_mend_23 : decode cX6_mend 23 = .ok (.i2l, 1) := by decide +kernel
theorem dX6_mend_24 : decode cX6_mend 24 = .ok (.lconst 0, 1) := by decide +kernel
theorem dX6_mend_25 : decode cX6_mend 25 = .ok (.ldc2_w 147, 3) := by decide +kernel
theorem dX6_mend_28 : decode cX6_mend 28 = .ok (.invokestatic 47, 3) := by decide +kernel
theorem dX6_mend_31 : decode cX6_mend 31 = .ok (.ifCond .ne 6, 3) := by decide +kernel
theorem dX6_mend_34 : decode cX6_mend 34 = .ok (.bipush (-2), 2) := by decide +kernel
theorem dX6_mend_36 : decode cX6_mend 36 = .ok (.ireturn, 1) := by decide +kernel
theorem dX6_mend_37 : decode cX6_mend 37 = .ok (.bipush 10, 2) := by decide +kernel
theorem dX6_mend_39 : decode cX6_mend 39 = .ok (.aload_n 0, 1) := by decide +kernel
theorem dX6_mend_40 : decode cX6_mend 40 = .ok (.getfield 16, 3) := by decide +kernel
theorem dX6_mend_43 : decode cX6_mend 43 = .ok (.iload_n 1, 1) := by decide +kernel
theorem dX6_mend_44 : decode cX6_mend 44 = .ok (.iaload, 1) := by decide +kernel
theorem dX6_mend_45 : decode cX6_mend 45 = .ok (.imul, 1) := by decide +kernel
theorem dX6_mend_46 : decode cX6_mend 46 = .ok (.aload_n 0, 1) := by decide +kernel
theorem dX6_mend_47 : decode cX6_mend 47 = .ok (.getfield 16, 3) := by decide +kernel
theorem dX6_mend_50 : decode cX6_mend 50 = .ok (.iconst 4, 1) := by decide +kernel
theorem dX6_mend_51 : decode cX6_mend 51 = .ok (.iload_n 1, 1) := by decide +kernel
theorem dX6_mend_52 : decode cX6_mend 52 = .ok (.iadd, 1) := by decide +kernel
theorem dX6_mend_53 : decode cX6_mend 53 = .ok (.iaload, 1) := by decide +kernel
theorem dX6_mend_54 : decode cX6_mend 54 = .ok (.iadd, 1) := by decide +kernel
theorem dX6_mend_55 : decode cX6_mend 55 = .ok (.istore 4, 2) := by decide +kernel
theorem dX6_mend_57 : decode cX6_mend 57 = .ok (.iload 4, 2) := by decide +kernel
theorem dX6_mend_59 : decode cX6_mend 59 = .ok (.bipush 10, 2) := by decide +kernel
theorem dX6_mend_61 : decode cX6_mend 61 = .ok (.iload_n 2, 1) := by decide +kernel
theorem dX6_mend_62 : decode cX6_mend 62 = .ok (.imul, 1) := by decide +kernel
theorem dX6_mend_63 : decode cX6_mend 63 = .ok (.iload_n 3, 1) := by decide +kernel
theorem dX6_mend_64 : decode cX6_mend 64 = .ok (.iadd, 1) := by decide +kernel
theorem dX6_mend_65 : decode cX6_mend 65 = .ok (.if_icmp .ne 6, 3) := by decide +kernel
theorem dX6_mend_68 : decode cX6_mend 68 = .ok (.bipush (-3), 2) := by decide +kernel
theorem dX6_mend_70 : decode cX6_mend 70 = .ok (.ireturn, 1) := by decide +kernel
theorem dX6_mend_71 : decode cX6_mend 71 = .ok (.aload_n 0, 1) := by decide +kernel
theorem dX6_mend_72 : decode cX6_mend 72 = .ok (.invokevirtual 139, 3) := by decide +kernel
theorem dX6_mend_75 : decode cX6_mend 75 = .ok (.aload_n 0, 1) := by decide +kernel
theorem dX6_mend_76 : decode cX6_mend 76 = .ok (.getfield 16, 3) := by decide +kernel
theorem dX6_mend_79 : decode cX6_mend 79 = .ok (.iload_n 1, 1) := by decide +kernel
theorem dX6_mend_80 : decode cX6_mend 80 = .ok (.iload_n 2, 1) := by decide +kernel
theorem dX6_mend_81 : decode cX6_mend 81 = .ok (.iastore, 1) := by decide +kernel
theorem dX6_mend_82 : decode cX6_mend 82 = .ok (.aload_n 0, 1) := by decide +kernel
theorem dX6_mend_83 : decode cX6_mend 83 = .ok (.getfield 16, 3) := by decide +kernel
theorem dX6_mend_86 : decode cX6_mend 86 = .ok (.iconst 4, 1) := by decide +kernel
theorem dX6_mend_87 : decode cX6_mend 87 = .ok (.iload_n 1, 1) := by decide +kernel
theorem dX6_mend_88 : decode cX6_mend 88 = .ok (.iadd, 1) := by decide +kernel
theorem dX6_mend_89 : decode cX6_mend 89 = .ok (.iload_n 3, 1) := by decide +kernel
theorem dX6_mend_90 : decode cX6_mend 90 = .ok (.iastore, 1) := by decide +kernel
theorem dX6_mend_91 : decode cX6_mend 91 = .ok (.iload 4, 2) := by decide +kernel
theorem dX6_mend_93 : decode cX6_mend 93 = .ok (.ireturn, 1) := by decide +kernel
set_option maxRecDepth 20000 in
theorem ggX6_move_X6_isCasket : GoodIn wsX6_move wsX6_isCasket := goodIn_r _ [6, 7, 8, 9, 5, 10, 18, 19, 20, 21, 22, 23, 24, 25, 26, 27, 28, 29, 30, 31, 32, 33, 34, 35, 36, 37, 38, 39, 40, 41] (by decide +kernel) (by decide +kernel)
set_option maxRecDepth 20000 in
theorem gX6_move_X6_isCasket : GoodIn wsX6_move (wsV RX6 99 RX6 yX6_isCasket wsX6_isCasket) := goodIn_app (goodIn_of _ (by decide +kernel)) ggX6_move_X6_isCasket
set_option maxRecDepth 20000 in
theorem ggX6_move_X6_keepAct : GoodIn wsX6_move wsX6_keepAct := goodIn_r _ [14, 15, 16, 1, 17, 18, 19, 20, 21, 22, 23, 24, 25, 26, 27, 28, 29, 30, 31, 32, 33, 34, 35, 36, 37, 38, 39, 40, 41] (by decide +kernel) (by decide +kernel)
set_option maxRecDepth 20000 in
theorem gX6_move_X6_keepAct : GoodIn wsX6_move (wsV RX6 139 RX6 yX6_keepAct wsX6_keepAct) := goodIn_app (goodIn_of _ (by decide +kernel)) ggX6_move_X6_keepAct
theorem dX6_move_0 : decode cX6_move 0 = .ok (.aload_n 0, 1) := by decide +kernel
theorem dX6_move_1 : decode cX6_move 1 = .ok (.iload_n 1, 1) := by decide +kernel
theorem dX6_move_2 : decode cX6_move 2 = .ok (.invokevirtual 99, 3) := by decide +kernel
theorem dX6_move_5 : decode cX6_move 5 = .ok (.ifCond .ne 5, 3) := by decide +kernel
theorem dX6_move_8 : decode cX6_move 8 = .ok (.iconst (-1), 1) := by decide +kernel
theorem dX6_move_9 : decode cX6_move 9 = .ok (.ireturn, 1) := by decide +kernel
theorem dX6_move_10 : decode cX6_move 10 = .ok (.aload_n 0, 1) := by decide +kernel
theorem dX6_move_11 : decode cX6_move 11 = .ok (.getfield 16, 3) := by decide +kernel
theorem dX6_move_14 : decode cX6_move 14 = .ok (.bipush 8, 2) := by decide +kernel
theorem dX6_move_16 : decode cX6_move 16 = .ok (.iaload, 1) := by decide +kernel
theorem dX6_move_17 : decode cX6_move 17 = .ok (.istore_n 2, 1) := by decide +kernel
theorem dX6_move_18 : decode cX6_move 18 = .ok (.iload_n 2, 1) := by decide +kernel
theorem dX6_move_19 : decode cX6_move 19 = .ok (.iload_n 1, 1) := by decide +kernel
theorem dX6_move_20 : decode cX6_move 20 = .ok (.if_icmp .ne 6, 3) := by decide +kernel
theorem dX6_move_23 : decode cX6_move 23 = .ok (.bipush (-3), 2) := by decide +kernel
theorem dX6_move_25 : decode cX6_move 25 = .ok (.ireturn, 1) := by decide +kernel
theorem dX6_move_26 : decode cX6_move 26 = .ok (.aload_n 0, 1) := by decide +kernel
theorem dX6_move_27 : decode cX6_move 27 = .ok (.invokevirtual 139, 3) := by decide +kernel
theorem dX6_move_30 : decode cX6_move 30 = .ok (.aload_n 0, 1) := by decide +kernel
theorem dX6_move_31 : decode cX6_move 31 = .ok (.getfield 16, 3) := by decide +kernel
theorem dX6_move_34 : decode cX6_move 34 = .ok (.bipush 8, 2) := by decide +kernel
theorem dX6_move_36 : decode cX6_move 36 = .ok (.iload_n 1, 1) := by decide +kernel
theorem dX6_move_37 : decode cX6_move 37 = .ok (.iastore, 1) := by decide +kernel
theorem dX6_move_38 : decode cX6_move 38 = .ok (.iload_n 2, 1) := by decide +kernel
theorem dX6_move_39 : decode cX6_move 39 = .ok (.ireturn, 1) := by decide +kernel
set_option maxRecDepth 20000 in
theorem ggX6_sing_X6_isCasket : GoodIn wsX6_sing wsX6_isCasket := goodIn_r _ [6, 7, 8, 9, 5, 10, 18, 19, 20, 21, 22, 23, 24, 25, 26, 27, 28, 29, 30, 31, 32, 33, 34, 35, 36, 37, 38, 39, 40, 41] (by decide +kernel) (by decide +kernel)
set_option maxRecDepth 20000 in
theorem gX6_sing_X6_isCasket : GoodIn wsX6_sing (wsV RX6 99 RX6 yX6_isCasket wsX6_isCasket) := goodIn_app (goodIn_of _ (by decide +kernel)) ggX6_sing_X6_isCasket
set_option maxRecDepth 20000 in
theorem ggX6_sing_X6_keepAct : GoodIn wsX6_sing wsX6_keepAct := goodIn_r _ [14, 15, 16, 1, 17, 18, 19, 20, 21, 22, 23, 24, 25, 26, 27, 28, 29, 30, 31, 32, 33, 34, 35, 36, 37, 38, 39, 40, 41] (by decide +kernel) (by decide +kernel)
set_option maxRecDepth 20000 in
theorem gX6_sing_X6_keepAct : GoodIn wsX6_sing (wsV RX6 139 RX6 yX6_keepAct wsX6_keepAct) := goodIn_app (goodIn_of _ (by decide +kernel)) ggX6_sing_X6_keepAct
theorem dX6_sing_0 : decode cX6_sing 0 = .ok (.aload_n 0, 1) := by decide +kernel
theorem dX6_sing_1 : decode cX6_sing 1 = .ok (.iload_n 1, 1) := by decide +kernel
theorem dX6_sing_2 : decode cX6_sing 2 = .ok (.invokevirtual 99, 3) := by decide +kernel
theorem dX6_sing_5 : decode cX6_sing 5 = .ok (.ifCond .ne 5, 3) := by decide +kernel
theorem dX6_sing_8 : decode cX6_sing 8 = .ok (.iconst (-1), 1) := by decide +kernel
theorem dX6_sing_9 : decode cX6_sing 9 = .ok (.ireturn, 1) := by decide +kernel
theorem dX6_sing_10 : decode cX6_sing 10 = .ok (.aload_n 0, 1) := by decide +kernel
theorem dX6_sing_11 : decode cX6_sing 11 = .ok (.invokevirtual 139, 3) := by decide +kernel
theorem dX6_sing_14 : decode cX6_sing 14 = .ok (.aload_n 0, 1) := by decide +kernel
theorem dX6_sing_15 : decode cX6_sing 15 = .ok (.getfield 16, 3) := by decide +kernel
theorem dX6_sing_18 : decode cX6_sing 18 = .ok (.bipush 9, 2) := by decide +kernel
theorem dX6_sing_20 : decode cX6_sing 20 = .ok (.dup2, 1) := by decide +kernel
theorem dX6_sing_21 : decode cX6_sing 21 = .ok (.iaload, 1) := by decide +kernel
theorem dX6_sing_22 : decode cX6_sing 22 = .ok (.iconst 1, 1) := by decide +kernel
theorem dX6_sing_23 : decode cX6_sing 23 = .ok (.iload_n 1, 1) := by decide +kernel
theorem dX6_sing_24 : decode cX6_sing 24 = .ok (.ishl, 1) := by decide +kernel
theorem dX6_sing_25 : decode cX6_sing 25 = .ok (.ixor, 1) := by decide +kernel
theorem dX6_sing_26 : decode cX6_sing 26 = .ok (.iastore, 1) := by decide +kernel
theorem dX6_sing_27 : decode cX6_sing 27 = .ok (.aload_n 0, 1) := by decide +kernel
theorem dX6_sing_28 : decode cX6_sing 28 = .ok (.getfield 16, 3) := by decide +kernel
theorem dX6_sing_31 : decode cX6_sing 31 = .ok (.bipush 9, 2) := by decide +kernel
theorem dX6_sing_33 : decode cX6_sing 33 = .ok (.iaload, 1) := by decide +kernel
theorem dX6_sing_34 : decode cX6_sing 34 = .ok (.iload_n 1, 1) := by decide +kernel
theorem dX6_sing_35 : decode cX6_sing 35 = .ok (.ishr, 1) := by decide +kernel
theorem dX6_sing_36 : decode cX6_sing 36 = .ok (.iconst 1, 1) := by decide +kernel
theorem dX6_sing_37 : decode cX6_sing 37 = .ok (.iand, 1) := by decide +kernel
theorem dX6_sing_38 : decode cX6_sing 38 = .ok (.ireturn, 1) := by decide +kernel
theorem dX6_undo_0 : decode cX6_undo 0 = .ok (.aload_n 0, 1) := by decide +kernel
theorem dX6_undo_1 : decode cX6_undo 1 = .ok (.getfield 96, 3) := by decide +kernel
theorem dX6_undo_4 : decode cX6_undo 4 = .ok (.ifCond .ne 6, 3) := by decide +kernel
theorem dX6_undo_7 : decode cX6_undo 7 = .ok (.bipush (-3), 2) := by decide +kernel
theorem dX6_undo_9 : decode cX6_undo 9 = .ok (.ireturn, 1) := by decide +kernel
theorem dX6_undo_10 : decode cX6_undo 10 = .ok (.aload_n 0, 1) := by decide +kernel
theorem dX6_undo_11 : decode cX6_undo 11 = .ok (.dup, 1) := by decide +kernel
theorem dX6_undo_12 : decode cX6_undo 12 = .ok (.getfield 96, 3) := by decide +kernel
theorem dX6_undo_15 : decode cX6_undo 15 = .ok (.iconst 1, 1) := by decide +kernel
theorem dX6_undo_16 : decode cX6_undo 16 = .ok (.isub, 1) := by decide +kernel
theorem dX6_undo_17 : decode cX6_undo 17 = .ok (.putfield 96, 3) := by decide +kernel
theorem dX6_undo_20 : decode cX6_undo 20 = .ok (.aload_n 0, 1) := by decide +kernel
theorem dX6_undo_21 : decode cX6_undo 21 = .ok (.aload_n 0, 1) := by decide +kernel
theorem dX6_undo_22 : decode cX6_undo 22 = .ok (.getfield 133, 3) := by decide +kernel
theorem dX6_undo_25 : decode cX6_undo 25 = .ok (.bipush 13, 2) := by decide +kernel
theorem dX6_undo_27 : decode cX6_undo 27 = .ok (.iadd, 1) := by decide +kernel
theorem dX6_undo_28 : decode cX6_undo 28 = .ok (.bipush 14, 2) := by decide +kernel
theorem dX6_undo_30 : decode cX6_undo 30 = .ok (.irem, 1) := by decide +kernel
theorem dX6_undo_31 : decode cX6_undo 31 = .ok (.putfield 133, 3) := by decide +kernel
theorem dX6_undo_34 : decode cX6_undo 34 = .ok (.iconst 0, 1) := by decide +kernel
theorem dX6_undo_35 : decode cX6_undo 35 = .ok (.istore_n 1, 1) := by decide +kernel
theorem dX6_undo_36 : decode cX6_undo 36 = .ok (.iload_n 1, 1) := by decide +kernel
theorem dX6_undo_37 : decode cX6_undo 37 = .ok (.bipush 18, 2) := by decide +kernel
theorem dX6_undo_39 : decode cX6_undo 39 = .ok (.if_icmp .ge 29, 3) := by decide +kernel
theorem dX6_undo_42 : decode cX6_undo 42 = .ok (.aload_n 0, 1) := by decide +kernel
theorem dX6_undo_43 : decode cX6_undo 43 = .ok (.getfield 16, 3) := by decide +kernel
theorem dX6_undo_46 : decode cX6_undo 46 = .ok (.iload_n 1, 1) := by decide +kernel
theorem dX6_undo_47 : decode cX6_undo 47 = .ok (.aload_n 0, 1) := by decide +kernel
theorem dX6_undo_48 : decode cX6_undo 48 = .ok (.getfield 28, 3) := by decide +kernel
theorem dX6_undo_51 : decode cX6_undo 51 = .ok (.bipush 18, 2) := by decide +kernel
theorem dX6_undo_53 : decode cX6_undo 53 = .ok (.aload_n 0, 1) := by decide +kernel
theorem dX6_undo_54 : decode cX6_undo 54 = .ok (.getfield 133, 3) := by decide +kernel
theorem dX6_undo_57 : decode cX6_undo 57 = .ok (.imul, 1) := by decide +kernel
theorem dX6_undo_58 : decode cX6_undo 58 = .ok (.iload_n 1, 1) := by decide +kernel
theorem dX6_undo_59 : decode cX6_undo 59 = .ok (.iadd, 1) := by decide +kernel
theorem dX6_undo_60 : decode cX6_undo 60 = .ok (.iaload, 1) := by decide +kernel
theorem dX6_undo_61 : decode cX6_undo 61 = .ok (.iastore, 1) := by decide +kernel
theorem dX6_undo_62 : decode cX6_undo 62 = .ok (.iinc 1 1, 3) := by decide +kernel
theorem dX6_undo_65 : decode cX6_undo 65 = .ok (.goto (-29), 3) := by decide +kernel
theorem dX6_undo_68 : decode cX6_undo 68 = .ok (.aload_n 0, 1) := by decide +kernel
theorem dX6_undo_69 : decode cX6_undo 69 = .ok (.getfield 96, 3) := by decide +kernel
theorem dX6_undo_72 : decode cX6_undo 72 = .ok (.ireturn, 1) := by decide +kernel
theorem dX6_layTrial_0 : decode cX6_layTrial 0 = .ok (.iconst 0, 1) := by decide +kernel
theorem dX6_layTrial_1 : decode cX6_layTrial 1 = .ok (.istore_n 1, 1) := by decide +kernel
theorem dX6_layTrial_2 : decode cX6_layTrial 2 = .ok (.iload_n 1, 1) := by decide +kernel
theorem dX6_layTrial_3 : decode cX6_layTrial 3 = .ok (.bipush 18, 2) := by decide +kernel
theorem dX6_layTrial_5 : decode cX6_layTrial 5 = .ok (.if_icmp .ge 24, 3) := by decide +kernel
theorem dX6_layTrial_8 : decode cX6_layTrial 8 = .ok (.aload_n 0, 1) := by decide +kernel
theorem dX6_layTrial_9 : decode cX6_layTrial 9 = .ok (.getfield 16, 3) := by decide +kernel
theorem dX6_layTrial_12 : decode cX6_layTrial 12 = .ok (.bipush 18, 2) := by decide +kernel
theorem dX6_layTrial_14 : decode cX6_layTrial 14 = .ok (.iload_n 1, 1) := by decide +kernel
theorem dX6_layTrial_15 : decode cX6_layTrial 15 = .ok (.iadd, 1) := by decide +kernel
theorem dX6_layTrial_16 : decode cX6_layTrial 16 = .ok (.aload_n 0, 1) := by decide +kernel
theorem dX6_layTrial_17 : decode cX6_layTrial 17 = .ok (.getfield 16, 3) := by decide +kernel
theorem dX6_layTrial_20 : decode cX6_layTrial 20 = .ok (.iload_n 1, 1) := by decide +kernel
theorem dX6_layTrial_21 : decode cX6_layTrial 21 = .ok (.iaload, 1) := by decide +kernel
theorem dX6_layTrial_22 : decode cX6_layTrial 22 = .ok (.iastore, 1) := by decide +kernel
theorem dX6_layTrial_23 : decode cX6_layTrial 23 = .ok (.iinc 1 1, 3) := by decide +kernel
theorem dX6_layTrial_26 : decode cX6_layTrial 26 = .ok (.goto (-24), 3) := by decide +kernel
theorem dX6_layTrial_29 : decode cX6_layTrial 29 = .ok (.return_, 1) := by decide +kernel
theorem dX6_layLine_0 : decode cX6_layLine 0 = .ok (.aload_n 0, 1) := by decide +kernel
theorem dX6_layLine_1 : decode cX6_layLine 1 = .ok (.getfield 16, 3) := by decide +kernel
theorem dX6_layLine_4 : decode cX6_layLine 4 = .ok (.bipush 18, 2) := by decide +kernel
theorem dX6_layLine_6 : decode cX6_layLine 6 = .ok (.iload_n 1, 1) := by decide +kernel
theorem dX6_layLine_7 : decode cX6_layLine 7 = .ok (.iadd, 1) := by decide +kernel
theorem dX6_layLine_8 : decode cX6_layLine 8 = .ok (.iload_n 2, 1) := by decide +kernel
theorem dX6_layLine_9 : decode cX6_layLine 9 = .ok (.iconst 4, 1) := by decide +kernel
theorem dX6_layLine_10 : decode cX6_layLine 10 = .ok (.idiv, 1) := by decide +kernel
theorem dX6_layLine_11 : decode cX6_layLine 11 = .ok (.iastore, 1) := by decide +kernel
theorem dX6_layLine_12 : decode cX6_layLine 12 = .ok (.aload_n 0, 1) := by decide +kernel
theorem dX6_layLine_13 : decode cX6_layLine 13 = .ok (.getfield 16, 3) := by decide +kernel
theorem dX6_layLine_16 : decode cX6_layLine 16 = .ok (.bipush 22, 2) := by decide +kernel
theorem dX6_layLine_18 : decode cX6_layLine 18 = .ok (.iload_n 1, 1) := by decide +kernel
theorem dX6_layLine_19 : decode cX6_layLine 19 = .ok (.iadd, 1) := by decide +kernel
theorem dX6_layLine_20 : decode cX6_layLine 20 = .ok (.iload_n 2, 1) := by decide +kernel
theorem dX6_layLine_21 : decode cX6_layLine 21 = .ok (.iconst 4, 1) := by decide +kernel
theorem dX6_layLine_22 : decode cX6_layLine 22 = .ok (.irem, 1) := by decide +kernel
theorem dX6_layLine_23 : decode cX6_layLine 23 = .ok (.iastore, 1) := by decide +kernel
theorem dX6_layLine_24 : decode cX6_layLine 24 = .ok (.return_, 1) := by decide +kernel
set_option maxRecDepth 20000 in
theorem ggX6_lines_X6_isCasket : GoodIn wsX6_lines wsX6_isCasket := goodIn_r _ [5, 6, 7, 8, 4, 9, 30, 31, 32, 33, 34, 35, 36, 37, 38, 39, 40, 41, 42, 43, 44, 45, 46, 47, 48, 49, 50, 51, 52, 53] (by decide +kernel) (by decide +kernel)
set_option maxRecDepth 20000 in
theorem gX6_lines_X6_isCasket : GoodIn wsX6_lines (wsV RX6 99 RX6 yX6_isCasket wsX6_isCasket) := goodIn_app (goodIn_of _ (by decide +kernel)) ggX6_lines_X6_isCasket
set_option maxRecDepth 20000 in
theorem ggX6_lines_X6_all : GoodIn wsX6_lines wsX6_all := goodIn_r _ [13, 6, 30, 31, 32, 33, 34, 35, 36, 37, 38, 39, 40, 41, 42, 43, 44, 45, 46, 47, 48, 49, 50, 51, 52, 53] (by decide +kernel) (by decide +kernel)
set_option maxRecDepth 20000 in
theorem gX6_lines_X6_all : GoodIn wsX6_lines (wsV RX6 110 RX6 yX6_all wsX6_all) := goodIn_app (goodIn_of _ (by decide +kernel)) ggX6_lines_X6_all
set_option maxRecDepth 20000 in
theorem ggX6_lines_X6_isReading : GoodIn wsX6_lines wsX6_isReading := goodIn_r _ [17, 18, 6, 19, 20, 4, 21, 22, 23, 24, 25, 26, 27, 28, 29, 1, 2, 3, 5, 7, 8, 9, 30, 31, 32, 33, 34, 35, 36, 37, 38, 39, 40, 41, 42, 43, 44, 45, 46, 47, 48, 49, 50, 51, 52, 53] (by decide +kernel) (by decide +kernel)
set_option maxRecDepth 20000 in
theorem gX6_lines_X6_isReading : GoodIn wsX6_lines (wsV RX6 113 RX6 yX6_isReading wsX6_isReading) := goodIn_app (goodIn_of _ (by decide +kernel)) ggX6_lines_X6_isReading
theorem dX6_lines_0 : decode cX6_lines 0 = .ok (.aload_n 0, 1) := by decide +kernel
theorem dX6_lines_1 : decode cX6_lines 1 = .ok (.iload_n 1, 1) := by decide +kernel
theorem dX6_lines_2 : decode cX6_lines 2 = .ok (.invokevirtual 99, 3) := by decide +kernel
theorem dX6_lines_5 : decode cX6_lines 5 = .ok (.ifCond .ne 5, 3) := by decide +kernel
theorem dX6_lines_8 : decode cX6_lines 8 = .ok (.iconst (-1), 1) := by decide +kernel
theorem dX6_lines_9 : decode cX6_lines 9 = .ok (.ireturn, 1) := by decide +kernel
theorem dX6_lines_10 : decode cX6_lines 10 = .ok (.iconst 0, 1) := by decide +kernel
theorem dX6_lines_11 : decode cX6_lines 11 = .ok (.istore_n 3, 1) := by decide +kernel
theorem dX6_lines_12 : decode cX6_lines 12 = .ok (.aload_n 0, 1) := by decide +kernel
theorem dX6_lines_13 : decode cX6_lines 13 = .ok (.invokevirtual 110, 3) := by decide +kernel
theorem dX6_lines_16 : decode cX6_lines 16 = .ok (.istore 4, 2) := by decide +kernel
theorem dX6_lines_18 : decode cX6_lines 18 = .ok (.iconst 0, 1) := by decide +kernel
theorem dX6_lines_19 : decode cX6_lines 19 = .ok (.istore 5, 2) := by decide +kernel
theorem dX6_lines_21 : decode cX6_lines 21 = .ok (.iconst 0, 1) := by decide +kernel
theorem dX6_lines_22 : decode cX6_lines 22 = .ok (.istore 6, 2) := by decide +kernel
theorem dX6_lines_24 : decode cX6_lines 24 = .ok (.iload 6, 2) := by decide +kernel
theorem dX6_lines_26 : decode cX6_lines 26 = .ok (.aload_n 0, 1) := by decide +kernel
theorem dX6_lines_27 : decode cX6_lines 27 = .ok (.invokevirtual 110, 3) := by decide +kernel
theorem dX6_lines_30 : decode cX6_lines 30 = .ok (.if_icmp .gt 41, 3) := by decide +kernel
theorem dX6_lines_33 : decode cX6_lines 33 = .ok (.aload_n 0, 1) := by decide +kernel
theorem dX6_lines_34 : decode cX6_lines 34 = .ok (.iconst 0, 1) := by decide +kernel
theorem dX6_lines_35 : decode cX6_lines 35 = .ok (.iload_n 1, 1) := by decide +kernel
theorem dX6_lines_36 : decode cX6_lines 36 = .ok (.iload 6, 2) := by decide +kernel
theorem dX6_lines_38 : decode cX6_lines 38 = .ok (.aload_n 0, 1) := by decide +kernel
theorem dX6_lines_39 : decode cX6_lines 39 = .ok (.invokevirtual 110, 3) := by decide +kernel
theorem dX6_lines_42 : decode cX6_lines 42 = .ok (.invokevirtual 113, 3) := by decide +kernel
theorem dX6_lines_45 : decode cX6_lines 45 = .ok (.ifCond .eq 20, 3) := by decide +kernel
theorem dX6_lines_48 : decode cX6_lines 48 = .ok (.iinc 3 1, 3) := by decide +kernel
theorem dX6_lines_51 : decode cX6_lines 51 = .ok (.iload 4, 2) := by decide +kernel
theorem dX6_lines_53 : decode cX6_lines 53 = .ok (.iload 6, 2) := by decide +kernel
theorem dX6_lines_55 : decode cX6_lines 55 = .ok (.iand, 1) := by decide +kernel
theorem dX6_lines_56 : decode cX6_lines 56 = .ok (.istore 4, 2) := by decide +kernel
theorem dX6_lines_58 : decode cX6_lines 58 = .ok (.iload 5, 2) := by decide +kernel
theorem dX6_lines_60 : decode cX6_lines 60 = .ok (.iload 6, 2) := by decide +kernel
theorem dX6_lines_62 : decode cX6_lines 62 = .ok (.ior, 1) := by decide +kernel
theorem dX6_lines_63 : decode cX6_lines 63 = .ok (.istore 5, 2) := by decide +kernel
theorem dX6_lines_65 : decode cX6_lines 65 = .ok (.iinc 6 1, 3) := by decide +kernel
theorem dX6_lines_68 : decode cX6_lines 68 = .ok (.goto (-44), 3) := by decide +kernel
theorem dX6_lines_71 : decode cX6_lines 71 = .ok (.iload_n 3, 1) := by decide +kernel
theorem dX6_lines_72 : decode cX6_lines 72 = .ok (.ifCond .ne 8, 3) := by decide +kernel
theorem dX6_lines_75 : decode cX6_lines 75 = .ok (.bipush (-9), 2) := by decide +kernel
theorem dX6_lines_77 : decode cX6_lines 77 = .ok (.goto 14, 3) := by decide +kernel
theorem dX6_lines_80 : decode cX6_lines 80 = .ok (.iload_n 2, 1) := by decide +kernel
theorem dX6_lines_81 : decode cX6_lines 81 = .ok (.ifCond .eq 8, 3) := by decide +kernel
theorem dX6_lines_84 : decode cX6_lines 84 = .ok (.iload 4, 2) := by decide +kernel
theorem dX6_lines_86 : decode cX6_lines 86 = .ok (.goto 5, 3) := by decide +kernel
theorem dX6_lines_89 : decode cX6_lines 89 = .ok (.iload 5, 2) := by decide +kernel
theorem dX6_lines_91 : decode cX6_lines 91 = .ok (.ireturn, 1) := by decide +kernel
set_option maxRecDepth 20000 in
theorem ggX6_isRiddle_X6_all : GoodIn wsX6_isRiddle wsX6_all := goodIn_r _ [6, 7, 47, 48, 49, 50, 51, 52, 53, 54, 55, 56, 57, 58, 59, 60, 61, 62, 63, 64, 65, 66, 67, 68, 69, 70] (by decide +kernel) (by decide +kernel)
set_option maxRecDepth 20000 in
theorem gX6_isRiddle_X6_all : GoodIn wsX6_isRiddle (wsV RX6 110 RX6 yX6_all wsX6_all) := goodIn_app (goodIn_of _ (by decide +kernel)) ggX6_isRiddle_X6_all
set_option maxRecDepth 20000 in
theorem ggX6_isRiddle_X6_fitsOn : GoodIn wsX6_isRiddle wsX6_fitsOn := goodIn_r _ [11, 7, 12, 13, 14, 5, 15, 2, 3, 4, 6, 16, 17, 18, 19, 20, 21, 22, 23, 24, 25, 26, 27, 28, 29, 30, 1, 31, 32, 33, 34, 35, 36, 37, 47, 48, 49, 50, 51, 52, 53, 54, 55, 56, 57, 58, 59, 60, 61, 62, 63, 64, 65, 66, 67, 68, 69, 70] (by decide +kernel) (by decide +kernel)
set_option maxRecDepth 20000 in
theorem gX6_isRiddle_X6_fitsOn : GoodIn wsX6_isRiddle (wsV RX6 126 RX6 yX6_fitsOn wsX6_fitsOn) := goodIn_app (goodIn_of _ (by decide +kernel)) ggX6_isRiddle_X6_fitsOn
set_option maxRecDepth 20000 in
theorem ggX6_isRiddle_X6_picks : GoodIn wsX6_isRiddle wsX6_picks := goodIn_r _ [41, 7, 42, 2, 3, 4, 5, 6, 24, 25, 26, 43, 44, 45, 46, 47, 48, 49, 50, 51, 52, 53, 54, 55, 56, 57, 58, 59, 60, 61, 62, 63, 64, 65, 66, 67, 68, 69, 70] (by decide +kernel) (by decide +kernel)
set_option maxRecDepth 20000 in
theorem gX6_isRiddle_X6_picks : GoodIn wsX6_isRiddle (wsV RX6 130 RX6 yX6_picks wsX6_picks) := goodIn_app (goodIn_of _ (by decide +kernel)) ggX6_isRiddle_X6_picks
set_option maxRecDepth 20000 in
theorem ggX6_isRiddle_X6_has : GoodIn wsX6_isRiddle wsX6_has := goodIn_r _ [26] (by decide +kernel) (by decide +kernel)
set_option maxRecDepth 20000 in
theorem gX6_isRiddle_X6_has : GoodIn wsX6_isRiddle (va_wsS RX6 62 yX6_has wsX6_has) := goodIn_app (goodIn_of _ (by decide +kernel)) ggX6_isRiddle_X6_has
theorem dX6_isRiddle_0 : decode cX6_isRiddle 0 = .ok (.aload_n 0, 1) := by decide +kernel
theorem dX6_isRiddle_1 : decode cX6_isRiddle 1 = .ok (.iconst 1, 1) := by decide +kernel
theorem dX6_isRiddle_2 : decode cX6_isRiddle 2 = .ok (.aload_n 0, 1) := by decide +kernel
theorem dX6_isRiddle_3 : decode cX6_isRiddle 3 = .ok (.invokevirtual 110, 3) := by decide +kernel
theorem dX6_isRiddle_6 : decode cX6_isRiddle 6 = .ok (.invokevirtual 126, 3) := by decide +kernel
theorem dX6_isRiddle_9 : decode cX6_isRiddle 9 = .ok (.istore_n 2, 1) := by decide +kernel
theorem dX6_isRiddle_10 : decode cX6_isRiddle 10 = .ok (.iconst 1, 1) := by decide +kernel
theorem dX6_isRiddle_11 : decode cX6_isRiddle 11 = .ok (.istore_n 3, 1) := by decide +kernel
theorem dX6_isRiddle_12 : decode cX6_isRiddle 12 = .ok (.iconst 0, 1) := by decide +kernel
theorem dX6_isRiddle_13 : decode cX6_isRiddle 13 = .ok (.istore 4, 2) := by decide +kernel
theorem dX6_isRiddle_15 : decode cX6_isRiddle 15 = .ok (.iload 4, 2) := by decide +kernel
theorem dX6_isRiddle_17 : decode cX6_isRiddle 17 = .ok (.iconst 4, 1) := by decide +kernel
theorem dX6_isRiddle_18 : decode cX6_isRiddle 18 = .ok (.if_icmp .ge 57, 3) := by decide +kernel
theorem dX6_isRiddle_21 : decode cX6_isRiddle 21 = .ok (.iload_n 3, 1) := by decide +kernel
theorem dX6_isRiddle_22 : decode cX6_isRiddle 22 = .ok (.ifCond .eq 45, 3) := by decide +kernel
theorem dX6_isRiddle_25 : decode cX6_isRiddle 25 = .ok (.aload_n 0, 1) := by decide +kernel
theorem dX6_isRiddle_26 : decode cX6_isRiddle 26 = .ok (.iload 4, 2) := by decide +kernel
theorem dX6_isRiddle_28 : decode cX6_isRiddle 28 = .ok (.iload_n 2, 1) := by decide +kernel
theorem dX6_isRiddle_29 : decode cX6_isRiddle 29 = .ok (.aload_n 0, 1) := by decide +kernel
theorem dX6_isRiddle_30 : decode cX6_isRiddle 30 = .ok (.getfield 16, 3) := by decide +kernel
theorem dX6_isRiddle_33 : decode cX6_isRiddle 33 = .ok (.bipush 9, 2) := by decide +kernel
theorem dX6_isRiddle_35 : decode cX6_isRiddle 35 = .ok (.iaload, 1) := by decide +kernel
theorem dX6_isRiddle_36 : decode cX6_isRiddle 36 = .ok (.invokevirtual 130, 3) := by decide +kernel
theorem dX6_isRiddle_39 : decode cX6_isRiddle 39 = .ok (.aload_n 0, 1) := by decide +kernel
theorem dX6_isRiddle_40 : decode cX6_isRiddle 40 = .ok (.getfield 16, 3) := by decide +kernel
theorem dX6_isRiddle_43 : decode cX6_isRiddle 43 = .ok (.bipush 8, 2) := by decide +kernel
theorem dX6_isRiddle_45 : decode cX6_isRiddle 45 = .ok (.iaload, 1) := by decide +kernel
theorem dX6_isRiddle_46 : decode cX6_isRiddle 46 = .ok (.if_icmp .ne 7, 3) := by decide +kernel
theorem dX6_isRiddle_49 : decode cX6_isRiddle 49 = .ok (.iconst 1, 1) := by decide +kernel
theorem dX6_isRiddle_50 : decode cX6_isRiddle 50 = .ok (.goto 4, 3) := by decide +kernel
theorem dX6_isRiddle_53 : decode cX6_isRiddle 53 = .ok (.iconst 0, 1) := by decide +kernel
theorem dX6_isRiddle_54 : decode cX6_isRiddle 54 = .ok (.iload_n 1, 1) := by decide +kernel
theorem dX6_isRiddle_55 : decode cX6_isRiddle 55 = .ok (.iload 4, 2) := by decide +kernel
theorem dX6_isRiddle_57 : decode cX6_isRiddle 57 = .ok (.invokestatic 62, 3) := by decide +kernel
theorem dX6_isRiddle_60 : decode cX6_isRiddle 60 = .ok (.if_icmp .ne 7, 3) := by decide +kernel
theorem dX6_isRiddle_63 : decode cX6_isRiddle 63 = .ok (.iconst 1, 1) := by decide +kernel
theorem dX6_isRiddle_64 : decode cX6_isRiddle 64 = .ok (.goto 4, 3) := by decide +kernel
theorem dX6_isRiddle_67 : decode cX6_isRiddle 67 = .ok (.iconst 0, 1) := by decide +kernel
theorem dX6_isRiddle_68 : decode cX6_isRiddle 68 = .ok (.istore_n 3, 1) := by decide +kernel
theorem dX6_isRiddle_69 : decode cX6_isRiddle 69 = .ok (.iinc 4 1, 3) := by decide +kernel
theorem dX6_isRiddle_72 : decode cX6_isRiddle 72 = .ok (.goto (-57), 3) := by decide +kernel
theorem dX6_isRiddle_75 : decode cX6_isRiddle 75 = .ok (.iload_n 3, 1) := by decide +kernel
theorem dX6_isRiddle_76 : decode cX6_isRiddle 76 = .ok (.ireturn, 1) := by decide +kernel
set_option maxRecDepth 20000 in
theorem ggX6_layRiddle_X6_layTrial : GoodIn wsX6_layRiddle wsX6_layTrial := goodIn_r _ [7, 8, 63, 64, 65, 66, 67, 68, 69, 70, 71, 72, 73, 74, 75, 76, 77, 78, 79, 80, 81, 82, 83, 84, 85, 86] (by decide +kernel) (by decide +kernel)
set_option maxRecDepth 20000 in
theorem gX6_layRiddle_X6_layTrial : GoodIn wsX6_layRiddle (wsV RX6 149 RX6 yX6_layTrial wsX6_layTrial) := goodIn_app (goodIn_of _ (by decide +kernel)) ggX6_layRiddle_X6_layTrial
set_option maxRecDepth 20000 in
theorem ggX6_layRiddle_X6_isRiddle : GoodIn wsX6_layRiddle wsX6_isRiddle := goodIn_r _ [12, 8, 13, 14, 15, 6, 16, 2, 17, 18, 19, 20, 21, 22, 23, 24, 25, 26, 27, 28, 29, 30, 31, 32, 33, 34, 35, 36, 37, 38, 39, 40, 41, 42, 43, 44, 45, 46, 47, 48, 49, 50, 51, 52, 53, 54, 55, 63, 64, 65, 66, 67, 68, 69, 70, 71, 72, 73, 74, 75, 76, 77, 78, 79, 80, 81, 82, 83, 84, 85, 86] (by decide +kernel) (by decide +kernel)
set_option maxRecDepth 20000 in
theorem gX6_layRiddle_X6_isRiddle : GoodIn wsX6_layRiddle (wsV RX6 155 RX6 yX6_isRiddle wsX6_isRiddle) := goodIn_app (goodIn_of _ (by decide +kernel)) ggX6_layRiddle_X6_isRiddle
set_option maxRecDepth 20000 in
theorem ggX6_layRiddle_X6_layLine : GoodIn wsX6_layRiddle wsX6_layLine := goodIn_r _ [59, 8, 63, 64, 65, 66, 67, 68, 69, 70, 71, 72, 73, 74, 75, 76, 77, 78, 79, 80, 81, 82, 83, 84, 85, 86] (by decide +kernel) (by decide +kernel)
set_option maxRecDepth 20000 in
theorem gX6_layRiddle_X6_layLine : GoodIn wsX6_layRiddle (wsV RX6 158 RX6 yX6_layLine wsX6_layLine) := goodIn_app (goodIn_of _ (by decide +kernel)) ggX6_layRiddle_X6_layLine
set_option maxRecDepth 20000 in
theorem ggX6_layRiddle_X6_told : GoodIn wsX6_layRiddle wsX6_told := goodIn_r _ [62] (by decide +kernel) (by decide +kernel)
set_option maxRecDepth 20000 in
theorem gX6_layRiddle_X6_told : GoodIn wsX6_layRiddle (va_wsS RX6 162 yX6_told wsX6_told) := goodIn_app (goodIn_of _ (by decide +kernel)) ggX6_layRiddle_X6_told
