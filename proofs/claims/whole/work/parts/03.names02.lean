theorem dX6_findWays_93 : decode cX6_findWays 93 = .ok (.iastore, 1) := by decide +kernel
theorem dX6_findWays_94 : decode cX6_findWays 94 = .ok (.aload_n 0, 1) := by decide +kernel
theorem dX6_findWays_95 : decode cX6_findWays 95 = .ok (.getfield 21, 3) := by decide +kernel
theorem dX6_findWays_98 : decode cX6_findWays 98 = .ok (.iconst 0, 1) := by decide +kernel
theorem dX6_findWays_99 : decode cX6_findWays 99 = .ok (.iconst 0, 1) := by decide +kernel
theorem dX6_findWays_100 : decode cX6_findWays 100 = .ok (.iastore, 1) := by decide +kernel
theorem dX6_findWays_101 : decode cX6_findWays 101 = .ok (.iconst 0, 1) := by decide +kernel
theorem dX6_findWays_102 : decode cX6_findWays 102 = .ok (.istore_n 2, 1) := by decide +kernel
theorem dX6_findWays_103 : decode cX6_findWays 103 = .ok (.iload_n 2, 1) := by decide +kernel
theorem dX6_findWays_104 : decode cX6_findWays 104 = .ok (.sipush 256, 3) := by decide +kernel
theorem dX6_findWays_107 : decode cX6_findWays 107 = .ok (.if_icmp .ge 84, 3) := by decide +kernel
theorem dX6_findWays_110 : decode cX6_findWays 110 = .ok (.iconst 0, 1) := by decide +kernel
theorem dX6_findWays_111 : decode cX6_findWays 111 = .ok (.istore_n 3, 1) := by decide +kernel
theorem dX6_findWays_112 : decode cX6_findWays 112 = .ok (.iload_n 3, 1) := by decide +kernel
theorem dX6_findWays_113 : decode cX6_findWays 113 = .ok (.bipush 8, 2) := by decide +kernel
theorem dX6_findWays_115 : decode cX6_findWays 115 = .ok (.if_icmp .ge 70, 3) := by decide +kernel
theorem dX6_findWays_118 : decode cX6_findWays 118 = .ok (.aload_n 0, 1) := by decide +kernel
theorem dX6_findWays_119 : decode cX6_findWays 119 = .ok (.getfield 18, 3) := by decide +kernel
theorem dX6_findWays_122 : decode cX6_findWays 122 = .ok (.iload_n 2, 1) := by decide +kernel
theorem dX6_findWays_123 : decode cX6_findWays 123 = .ok (.iaload, 1) := by decide +kernel
theorem dX6_findWays_124 : decode cX6_findWays 124 = .ok (.ifCond .le 61, 3) := by decide +kernel
theorem dX6_findWays_127 : decode cX6_findWays 127 = .ok (.aload_n 0, 1) := by decide +kernel
theorem dX6_findWays_128 : decode cX6_findWays 128 = .ok (.iload_n 2, 1) := by decide +kernel
theorem dX6_findWays_129 : decode cX6_findWays 129 = .ok (.iload_n 3, 1) := by decide +kernel
theorem dX6_findWays_130 : decode cX6_findWays 130 = .ok (.invokevirtual 72, 3) := by decide +kernel
theorem dX6_findWays_133 : decode cX6_findWays 133 = .ok (.ifCond .eq 46, 3) := by decide +kernel
theorem dX6_findWays_136 : decode cX6_findWays 136 = .ok (.iload_n 2, 1) := by decide +kernel
theorem dX6_findWays_137 : decode cX6_findWays 137 = .ok (.iconst 1, 1) := by decide +kernel
theorem dX6_findWays_138 : decode cX6_findWays 138 = .ok (.iload_n 3, 1) := by decide +kernel
theorem dX6_findWays_139 : decode cX6_findWays 139 = .ok (.ishl, 1) := by decide +kernel
theorem dX6_findWays_140 : decode cX6_findWays 140 = .ok (.ior, 1) := by decide +kernel
theorem dX6_findWays_141 : decode cX6_findWays 141 = .ok (.istore 4, 2) := by decide +kernel
theorem dX6_findWays_143 : decode cX6_findWays 143 = .ok (.aload_n 0, 1) := by decide +kernel
theorem dX6_findWays_144 : decode cX6_findWays 144 = .ok (.getfield 18, 3) := by decide +kernel
theorem dX6_findWays_147 : decode cX6_findWays 147 = .ok (.iload 4, 2) := by decide +kernel
theorem dX6_findWays_149 : decode cX6_findWays 149 = .ok (.dup2, 1) := by decide +kernel
theorem dX6_findWays_150 : decode cX6_findWays 150 = .ok (.iaload, 1) := by decide +kernel
theorem dX6_findWays_151 : decode cX6_findWays 151 = .ok (.aload_n 0, 1) := by decide +kernel
theorem dX6_findWays_152 : decode cX6_findWays 152 = .ok (.getfield 18, 3) := by decide +kernel
theorem dX6_findWays_155 : decode cX6_findWays 155 = .ok (.iload_n 2, 1) := by decide +kernel
theorem dX6_findWays_156 : decode cX6_findWays 156 = .ok (.iaload, 1) := by decide +kernel
theorem dX6_findWays_157 : decode cX6_findWays 157 = .ok (.iadd, 1) := by decide +kernel
theorem dX6_findWays_158 : decode cX6_findWays 158 = .ok (.iastore, 1) := by decide +kernel
theorem dX6_findWays_159 : decode cX6_findWays 159 = .ok (.aload_n 0, 1) := by decide +kernel
theorem dX6_findWays_160 : decode cX6_findWays 160 = .ok (.getfield 21, 3) := by decide +kernel
theorem dX6_findWays_163 : decode cX6_findWays 163 = .ok (.iload 4, 2) := by decide +kernel
theorem dX6_findWays_165 : decode cX6_findWays 165 = .ok (.aload_n 0, 1) := by decide +kernel
theorem dX6_findWays_166 : decode cX6_findWays 166 = .ok (.getfield 21, 3) := by decide +kernel
theorem dX6_findWays_169 : decode cX6_findWays 169 = .ok (.iload_n 2, 1) := by decide +kernel
theorem dX6_findWays_170 : decode cX6_findWays 170 = .ok (.iaload, 1) := by decide +kernel
theorem dX6_findWays_171 : decode cX6_findWays 171 = .ok (.aload_n 0, 1) := by decide +kernel
theorem dX6_findWays_172 : decode cX6_findWays 172 = .ok (.getfield 9, 3) := by decide +kernel
theorem dX6_findWays_175 : decode cX6_findWays 175 = .ok (.iload_n 3, 1) := by decide +kernel
theorem dX6_findWays_176 : decode cX6_findWays 176 = .ok (.iaload, 1) := by decide +kernel
theorem dX6_findWays_177 : decode cX6_findWays 177 = .ok (.iadd, 1) := by decide +kernel
theorem dX6_findWays_178 : decode cX6_findWays 178 = .ok (.iastore, 1) := by decide +kernel
theorem dX6_findWays_179 : decode cX6_findWays 179 = .ok (.iinc 3 1, 3) := by decide +kernel
theorem dX6_findWays_182 : decode cX6_findWays 182 = .ok (.goto (-70), 3) := by decide +kernel
theorem dX6_findWays_185 : decode cX6_findWays 185 = .ok (.iinc 2 1, 3) := by decide +kernel
theorem dX6_findWays_188 : decode cX6_findWays 188 = .ok (.goto (-85), 3) := by decide +kernel
theorem dX6_findWays_191 : decode cX6_findWays 191 = .ok (.return_, 1) := by decide +kernel
set_option maxRecDepth 20000 in
theorem ggX6_placesFor_X4_shownAt : GoodIn wsX6_placesFor wsX4_shownAt := goodIn_r _ [7, 8, 16, 17, 18, 19, 20, 21, 22, 23, 24, 25, 26, 27, 28] (by decide +kernel) (by decide +kernel)
set_option maxRecDepth 20000 in
theorem gX6_placesFor_X4_shownAt : GoodIn wsX6_placesFor (wsV RX6 86 RX4 yX4_shownAt wsX4_shownAt) := goodIn_app (goodIn_of _ (by decide +kernel)) ggX6_placesFor_X4_shownAt
set_option maxRecDepth 20000 in
theorem ggX6_placesFor_X9_at : GoodIn wsX6_placesFor wsX9_at := goodIn_r _ [13, 14, 15, 29, 30, 31] (by decide +kernel) (by decide +kernel)
set_option maxRecDepth 20000 in
theorem gX6_placesFor_X9_at : GoodIn wsX6_placesFor (wsV RX6 89 RX9 yX9_at wsX9_at) := goodIn_app (goodIn_of _ (by decide +kernel)) ggX6_placesFor_X9_at
theorem dX6_placesFor_0 : decode cX6_placesFor 0 = .ok (.iconst 0, 1) := by decide +kernel
theorem dX6_placesFor_1 : decode cX6_placesFor 1 = .ok (.istore_n 2, 1) := by decide +kernel
theorem dX6_placesFor_2 : decode cX6_placesFor 2 = .ok (.iconst 0, 1) := by decide +kernel
theorem dX6_placesFor_3 : decode cX6_placesFor 3 = .ok (.istore_n 3, 1) := by decide +kernel
theorem dX6_placesFor_4 : decode cX6_placesFor 4 = .ok (.iload_n 3, 1) := by decide +kernel
theorem dX6_placesFor_5 : decode cX6_placesFor 5 = .ok (.iload_n 1, 1) := by decide +kernel
theorem dX6_placesFor_6 : decode cX6_placesFor 6 = .ok (.iadd, 1) := by decide +kernel
theorem dX6_placesFor_7 : decode cX6_placesFor 7 = .ok (.aload_n 0, 1) := by decide +kernel
theorem dX6_placesFor_8 : decode cX6_placesFor 8 = .ok (.getfield 76, 3) := by decide +kernel
theorem dX6_placesFor_11 : decode cX6_placesFor 11 = .ok (.getfield 80, 3) := by decide +kernel
theorem dX6_placesFor_14 : decode cX6_placesFor 14 = .ok (.if_icmp .gt 57, 3) := by decide +kernel
theorem dX6_placesFor_17 : decode cX6_placesFor 17 = .ok (.iconst 0, 1) := by decide +kernel
theorem dX6_placesFor_18 : decode cX6_placesFor 18 = .ok (.istore 4, 2) := by decide +kernel
theorem dX6_placesFor_20 : decode cX6_placesFor 20 = .ok (.iload 4, 2) := by decide +kernel
theorem dX6_placesFor_22 : decode cX6_placesFor 22 = .ok (.iload_n 1, 1) := by decide +kernel
theorem dX6_placesFor_23 : decode cX6_placesFor 23 = .ok (.if_icmp .ge 30, 3) := by decide +kernel
theorem dX6_placesFor_26 : decode cX6_placesFor 26 = .ok (.aload_n 0, 1) := by decide +kernel
theorem dX6_placesFor_27 : decode cX6_placesFor 27 = .ok (.iload 4, 2) := by decide +kernel
theorem dX6_placesFor_29 : decode cX6_placesFor 29 = .ok (.invokevirtual 86, 3) := by decide +kernel
theorem dX6_placesFor_32 : decode cX6_placesFor 32 = .ok (.aload_n 0, 1) := by decide +kernel
theorem dX6_placesFor_33 : decode cX6_placesFor 33 = .ok (.getfield 76, 3) := by decide +kernel
theorem dX6_placesFor_36 : decode cX6_placesFor 36 = .ok (.iload_n 3, 1) := by decide +kernel
theorem dX6_placesFor_37 : decode cX6_placesFor 37 = .ok (.iload 4, 2) := by decide +kernel
theorem dX6_placesFor_39 : decode cX6_placesFor 39 = .ok (.iadd, 1) := by decide +kernel
theorem dX6_placesFor_40 : decode cX6_placesFor 40 = .ok (.iconst 0, 1) := by decide +kernel
theorem dX6_placesFor_41 : decode cX6_placesFor 41 = .ok (.invokevirtual 89, 3) := by decide +kernel
theorem dX6_placesFor_44 : decode cX6_placesFor 44 = .ok (.if_icmp .ne 9, 3) := by decide +kernel
theorem dX6_placesFor_47 : decode cX6_placesFor 47 = .ok (.iinc 4 1, 3) := by decide +kernel
theorem dX6_placesFor_50 : decode cX6_placesFor 50 = .ok (.goto (-30), 3) := by decide +kernel
theorem dX6_placesFor_53 : decode cX6_placesFor 53 = .ok (.iload 4, 2) := by decide +kernel
theorem dX6_placesFor_55 : decode cX6_placesFor 55 = .ok (.iload_n 1, 1) := by decide +kernel
theorem dX6_placesFor_56 : decode cX6_placesFor 56 = .ok (.if_icmp .ne 9, 3) := by decide +kernel
theorem dX6_placesFor_59 : decode cX6_placesFor 59 = .ok (.iload_n 2, 1) := by decide +kernel
theorem dX6_placesFor_60 : decode cX6_placesFor 60 = .ok (.iconst 1, 1) := by decide +kernel
theorem dX6_placesFor_61 : decode cX6_placesFor 61 = .ok (.iload_n 3, 1) := by decide +kernel
theorem dX6_placesFor_62 : decode cX6_placesFor 62 = .ok (.ishl, 1) := by decide +kernel
theorem dX6_placesFor_63 : decode cX6_placesFor 63 = .ok (.ior, 1) := by decide +kernel
theorem dX6_placesFor_64 : decode cX6_placesFor 64 = .ok (.istore_n 2, 1) := by decide +kernel
theorem dX6_placesFor_65 : decode cX6_placesFor 65 = .ok (.iinc 3 1, 3) := by decide +kernel
theorem dX6_placesFor_68 : decode cX6_placesFor 68 = .ok (.goto (-64), 3) := by decide +kernel
theorem dX6_placesFor_71 : decode cX6_placesFor 71 = .ok (.iload_n 2, 1) := by decide +kernel
theorem dX6_placesFor_72 : decode cX6_placesFor 72 = .ok (.ireturn, 1) := by decide +kernel
theorem dX6_canFollow_0 : decode cX6_canFollow 0 = .ok (.iload_n 1, 1) := by decide +kernel
theorem dX6_canFollow_1 : decode cX6_canFollow 1 = .ok (.iload_n 2, 1) := by decide +kernel
theorem dX6_canFollow_2 : decode cX6_canFollow 2 = .ok (.ishr, 1) := by decide +kernel
theorem dX6_canFollow_3 : decode cX6_canFollow 3 = .ok (.iconst 1, 1) := by decide +kernel
theorem dX6_canFollow_4 : decode cX6_canFollow 4 = .ok (.iand, 1) := by decide +kernel
theorem dX6_canFollow_5 : decode cX6_canFollow 5 = .ok (.ifCond .ne 26, 3) := by decide +kernel
theorem dX6_canFollow_8 : decode cX6_canFollow 8 = .ok (.aload_n 0, 1) := by decide +kernel
theorem dX6_canFollow_9 : decode cX6_canFollow 9 = .ok (.getfield 15, 3) := by decide +kernel
theorem dX6_canFollow_12 : decode cX6_canFollow 12 = .ok (.iload_n 2, 1) := by decide +kernel
theorem dX6_canFollow_13 : decode cX6_canFollow 13 = .ok (.iaload, 1) := by decide +kernel
theorem dX6_canFollow_14 : decode cX6_canFollow 14 = .ok (.aload_n 0, 1) := by decide +kernel
theorem dX6_canFollow_15 : decode cX6_canFollow 15 = .ok (.getfield 21, 3) := by decide +kernel
theorem dX6_canFollow_18 : decode cX6_canFollow 18 = .ok (.iload_n 1, 1) := by decide +kernel
theorem dX6_canFollow_19 : decode cX6_canFollow 19 = .ok (.iaload, 1) := by decide +kernel
theorem dX6_canFollow_20 : decode cX6_canFollow 20 = .ok (.ishr, 1) := by decide +kernel
theorem dX6_canFollow_21 : decode cX6_canFollow 21 = .ok (.iconst 1, 1) := by decide +kernel
theorem dX6_canFollow_22 : decode cX6_canFollow 22 = .ok (.iand, 1) := by decide +kernel
theorem dX6_canFollow_23 : decode cX6_canFollow 23 = .ok (.iconst 1, 1) := by decide +kernel
theorem dX6_canFollow_24 : decode cX6_canFollow 24 = .ok (.if_icmp .ne 7, 3) := by decide +kernel
theorem dX6_canFollow_27 : decode cX6_canFollow 27 = .ok (.iconst 1, 1) := by decide +kernel
theorem dX6_canFollow_28 : decode cX6_canFollow 28 = .ok (.goto 4, 3) := by decide +kernel
theorem dX6_canFollow_31 : decode cX6_canFollow 31 = .ok (.iconst 0, 1) := by decide +kernel
theorem dX6_canFollow_32 : decode cX6_canFollow 32 = .ok (.ireturn, 1) := by decide +kernel
set_option maxRecDepth 20000 in
theorem ggX6_findLacking_X6_leastBehind : GoodIn wsX6_findLacking wsX6_leastBehind := goodIn_r _ [8, 1, 9, 10, 11, 7, 12, 13, 3, 14, 15, 16, 17, 18, 19, 20, 21, 22, 23, 24] (by decide +kernel) (by decide +kernel)
set_option maxRecDepth 20000 in
theorem gX6_findLacking_X6_leastBehind : GoodIn wsX6_findLacking (wsV RX6 93 RX6 yX6_leastBehind wsX6_leastBehind) := goodIn_app (goodIn_of _ (by decide +kernel)) ggX6_findLacking_X6_leastBehind
theorem dX6_findLacking_0 : decode cX6_findLacking 0 = .ok (.sipush 255, 3) := by decide +kernel
theorem dX6_findLacking_3 : decode cX6_findLacking 3 = .ok (.istore_n 2, 1) := by decide +kernel
theorem dX6_findLacking_4 : decode cX6_findLacking 4 = .ok (.iload_n 2, 1) := by decide +kernel
theorem dX6_findLacking_5 : decode cX6_findLacking 5 = .ok (.ifCond .lt 50, 3) := by decide +kernel
theorem dX6_findLacking_8 : decode cX6_findLacking 8 = .ok (.aload_n 0, 1) := by decide +kernel
theorem dX6_findLacking_9 : decode cX6_findLacking 9 = .ok (.getfield 24, 3) := by decide +kernel
theorem dX6_findLacking_12 : decode cX6_findLacking 12 = .ok (.iload_n 2, 1) := by decide +kernel
theorem dX6_findLacking_13 : decode cX6_findLacking 13 = .ok (.iconst (-1), 1) := by decide +kernel
theorem dX6_findLacking_14 : decode cX6_findLacking 14 = .ok (.iastore, 1) := by decide +kernel
theorem dX6_findLacking_15 : decode cX6_findLacking 15 = .ok (.aload_n 0, 1) := by decide +kernel
theorem dX6_findLacking_16 : decode cX6_findLacking 16 = .ok (.getfield 18, 3) := by decide +kernel
theorem dX6_findLacking_19 : decode cX6_findLacking 19 = .ok (.iload_n 2, 1) := by decide +kernel
theorem dX6_findLacking_20 : decode cX6_findLacking 20 = .ok (.iaload, 1) := by decide +kernel
theorem dX6_findLacking_21 : decode cX6_findLacking 21 = .ok (.ifCond .le 28, 3) := by decide +kernel
theorem dX6_findLacking_24 : decode cX6_findLacking 24 = .ok (.aload_n 0, 1) := by decide +kernel
theorem dX6_findLacking_25 : decode cX6_findLacking 25 = .ok (.getfield 24, 3) := by decide +kernel
theorem dX6_findLacking_28 : decode cX6_findLacking 28 = .ok (.iload_n 2, 1) := by decide +kernel
theorem dX6_findLacking_29 : decode cX6_findLacking 29 = .ok (.aload_n 0, 1) := by decide +kernel
theorem dX6_findLacking_30 : decode cX6_findLacking 30 = .ok (.getfield 21, 3) := by decide +kernel
theorem dX6_findLacking_33 : decode cX6_findLacking 33 = .ok (.iload_n 2, 1) := by decide +kernel
theorem dX6_findLacking_34 : decode cX6_findLacking 34 = .ok (.iaload, 1) := by decide +kernel
theorem dX6_findLacking_35 : decode cX6_findLacking 35 = .ok (.iload_n 1, 1) := by decide +kernel
theorem dX6_findLacking_36 : decode cX6_findLacking 36 = .ok (.if_icmp .ne 7, 3) := by decide +kernel
theorem dX6_findLacking_39 : decode cX6_findLacking 39 = .ok (.iconst 0, 1) := by decide +kernel
theorem dX6_findLacking_40 : decode cX6_findLacking 40 = .ok (.goto 8, 3) := by decide +kernel
theorem dX6_findLacking_43 : decode cX6_findLacking 43 = .ok (.aload_n 0, 1) := by decide +kernel
theorem dX6_findLacking_44 : decode cX6_findLacking 44 = .ok (.iload_n 2, 1) := by decide +kernel
theorem dX6_findLacking_45 : decode cX6_findLacking 45 = .ok (.invokevirtual 93, 3) := by decide +kernel
theorem dX6_findLacking_48 : decode cX6_findLacking 48 = .ok (.iastore, 1) := by decide +kernel
theorem dX6_findLacking_49 : decode cX6_findLacking 49 = .ok (.iinc 2 (-1), 3) := by decide +kernel
theorem dX6_findLacking_52 : decode cX6_findLacking 52 = .ok (.goto (-48), 3) := by decide +kernel
theorem dX6_findLacking_55 : decode cX6_findLacking 55 = .ok (.return_, 1) := by decide +kernel
set_option maxRecDepth 20000 in
theorem ggX6_leastBehind_X6_canFollow : GoodIn wsX6_leastBehind wsX6_canFollow := goodIn_r _ [6, 7, 8, 9, 10, 11, 12, 13, 14, 15, 16, 17, 18, 19] (by decide +kernel) (by decide +kernel)
set_option maxRecDepth 20000 in
theorem gX6_leastBehind_X6_canFollow : GoodIn wsX6_leastBehind (wsV RX6 72 RX6 yX6_canFollow wsX6_canFollow) := goodIn_app (goodIn_of _ (by decide +kernel)) ggX6_leastBehind_X6_canFollow
theorem dX6_leastBehind_0 : decode cX6_leastBehind 0 = .ok (.iconst (-1), 1) := by decide +kernel
theorem dX6_leastBehind_1 : decode cX6_leastBehind 1 = .ok (.istore_n 2, 1) := by decide +kernel
theorem dX6_leastBehind_2 : decode cX6_leastBehind 2 = .ok (.iconst 0, 1) := by decide +kernel
theorem dX6_leastBehind_3 : decode cX6_leastBehind 3 = .ok (.istore_n 3, 1) := by decide +kernel
theorem dX6_leastBehind_4 : decode cX6_leastBehind 4 = .ok (.iload_n 3, 1) := by decide +kernel
theorem dX6_leastBehind_5 : decode cX6_leastBehind 5 = .ok (.bipush 8, 2) := by decide +kernel
theorem dX6_leastBehind_7 : decode cX6_leastBehind 7 = .ok (.if_icmp .ge 54, 3) := by decide +kernel
theorem dX6_leastBehind_10 : decode cX6_leastBehind 10 = .ok (.aload_n 0, 1) := by decide +kernel
theorem dX6_leastBehind_11 : decode cX6_leastBehind 11 = .ok (.iload_n 1, 1) := by decide +kernel
theorem dX6_leastBehind_12 : decode cX6_leastBehind 12 = .ok (.iload_n 3, 1) := by decide +kernel
theorem dX6_leastBehind_13 : decode cX6_leastBehind 13 = .ok (.invokevirtual 72, 3) := by decide +kernel
theorem dX6_leastBehind_16 : decode cX6_leastBehind 16 = .ok (.ifCond .eq 39, 3) := by decide +kernel
theorem dX6_leastBehind_19 : decode cX6_leastBehind 19 = .ok (.aload_n 0, 1) := by decide +kernel
theorem dX6_leastBehind_20 : decode cX6_leastBehind 20 = .ok (.getfield 24, 3) := by decide +kernel
theorem dX6_leastBehind_23 : decode cX6_leastBehind 23 = .ok (.iload_n 1, 1) := by decide +kernel
theorem dX6_leastBehind_24 : decode cX6_leastBehind 24 = .ok (.iconst 1, 1) := by decide +kernel
theorem dX6_leastBehind_25 : decode cX6_leastBehind 25 = .ok (.iload_n 3, 1) := by decide +kernel
theorem dX6_leastBehind_26 : decode cX6_leastBehind 26 = .ok (.ishl, 1) := by decide +kernel
theorem dX6_leastBehind_27 : decode cX6_leastBehind 27 = .ok (.ior, 1) := by decide +kernel
theorem dX6_leastBehind_28 : decode cX6_leastBehind 28 = .ok (.iaload, 1) := by decide +kernel
theorem dX6_leastBehind_29 : decode cX6_leastBehind 29 = .ok (.istore 4, 2) := by decide +kernel
theorem dX6_leastBehind_31 : decode cX6_leastBehind 31 = .ok (.iload 4, 2) := by decide +kernel
theorem dX6_leastBehind_33 : decode cX6_leastBehind 33 = .ok (.iconst (-1), 1) := by decide +kernel
theorem dX6_leastBehind_34 : decode cX6_leastBehind 34 = .ok (.if_icmp .eq 21, 3) := by decide +kernel
theorem dX6_leastBehind_37 : decode cX6_leastBehind 37 = .ok (.iload_n 2, 1) := by decide +kernel
theorem dX6_leastBehind_38 : decode cX6_leastBehind 38 = .ok (.iconst (-1), 1) := by decide +kernel
theorem dX6_leastBehind_39 : decode cX6_leastBehind 39 = .ok (.if_icmp .eq 11, 3) := by decide +kernel
theorem dX6_leastBehind_42 : decode cX6_leastBehind 42 = .ok (.iload 4, 2) := by decide +kernel
theorem dX6_leastBehind_44 : decode cX6_leastBehind 44 = .ok (.iconst 1, 1) := by decide +kernel
theorem dX6_leastBehind_45 : decode cX6_leastBehind 45 = .ok (.iadd, 1) := by decide +kernel
theorem dX6_leastBehind_46 : decode cX6_leastBehind 46 = .ok (.iload_n 2, 1) := by decide +kernel
theorem dX6_leastBehind_47 : decode cX6_leastBehind 47 = .ok (.if_icmp .ge 8, 3) := by decide +kernel
theorem dX6_leastBehind_50 : decode cX6_leastBehind 50 = .ok (.iload 4, 2) := by decide +kernel
theorem dX6_leastBehind_52 : decode cX6_leastBehind 52 = .ok (.iconst 1, 1) := by decide +kernel
theorem dX6_leastBehind_53 : decode cX6_leastBehind 53 = .ok (.iadd, 1) := by decide +kernel
theorem dX6_leastBehind_54 : decode cX6_leastBehind 54 = .ok (.istore_n 2, 1) := by decide +kernel
theorem dX6_leastBehind_55 : decode cX6_leastBehind 55 = .ok (.iinc 3 1, 3) := by decide +kernel
theorem dX6_leastBehind_58 : decode cX6_leastBehind 58 = .ok (.goto (-54), 3) := by decide +kernel
theorem dX6_leastBehind_61 : decode cX6_leastBehind 61 = .ok (.iload_n 2, 1) := by decide +kernel
theorem dX6_leastBehind_62 : decode cX6_leastBehind 62 = .ok (.ireturn, 1) := by decide +kernel
set_option maxRecDepth 20000 in
theorem ggX6_inFirstRow_X6_firstBehind : GoodIn wsX6_inFirstRow wsX6_firstBehind := goodIn_r _ [5, 6, 7, 8, 9, 4, 10, 11, 12, 13, 14, 15, 16, 17, 18, 19, 20, 21, 22, 23] (by decide +kernel) (by decide +kernel)
set_option maxRecDepth 20000 in
theorem gX6_inFirstRow_X6_firstBehind : GoodIn wsX6_inFirstRow (wsV RX6 96 RX6 yX6_firstBehind wsX6_firstBehind) := goodIn_app (goodIn_of _ (by decide +kernel)) ggX6_inFirstRow_X6_firstBehind
theorem dX6_inFirstRow_0 : decode cX6_inFirstRow 0 = .ok (.iconst 0, 1) := by decide +kernel
theorem dX6_inFirstRow_1 : decode cX6_inFirstRow 1 = .ok (.istore_n 2, 1) := by decide +kernel
theorem dX6_inFirstRow_2 : decode cX6_inFirstRow 2 = .ok (.iconst (-1), 1) := by decide +kernel
theorem dX6_inFirstRow_3 : decode cX6_inFirstRow 3 = .ok (.istore_n 3, 1) := by decide +kernel
theorem dX6_inFirstRow_4 : decode cX6_inFirstRow 4 = .ok (.iconst 0, 1) := by decide +kernel
theorem dX6_inFirstRow_5 : decode cX6_inFirstRow 5 = .ok (.istore 4, 2) := by decide +kernel
theorem dX6_inFirstRow_7 : decode cX6_inFirstRow 7 = .ok (.iload 4, 2) := by decide +kernel
theorem dX6_inFirstRow_9 : decode cX6_inFirstRow 9 = .ok (.iload_n 1, 1) := by decide +kernel
theorem dX6_inFirstRow_10 : decode cX6_inFirstRow 10 = .ok (.if_icmp .gt 36, 3) := by decide +kernel
theorem dX6_inFirstRow_13 : decode cX6_inFirstRow 13 = .ok (.iload 4, 2) := by decide +kernel
theorem dX6_inFirstRow_15 : decode cX6_inFirstRow 15 = .ok (.bipush 8, 2) := by decide +kernel
theorem dX6_inFirstRow_17 : decode cX6_inFirstRow 17 = .ok (.if_icmp .ge 29, 3) := by decide +kernel
theorem dX6_inFirstRow_20 : decode cX6_inFirstRow 20 = .ok (.aload_n 0, 1) := by decide +kernel
theorem dX6_inFirstRow_21 : decode cX6_inFirstRow 21 = .ok (.iload_n 2, 1) := by decide +kernel
theorem dX6_inFirstRow_22 : decode cX6_inFirstRow 22 = .ok (.invokevirtual 96, 3) := by decide +kernel
theorem dX6_inFirstRow_25 : decode cX6_inFirstRow 25 = .ok (.istore_n 3, 1) := by decide +kernel
theorem dX6_inFirstRow_26 : decode cX6_inFirstRow 26 = .ok (.iload_n 3, 1) := by decide +kernel
theorem dX6_inFirstRow_27 : decode cX6_inFirstRow 27 = .ok (.iconst (-1), 1) := by decide +kernel
theorem dX6_inFirstRow_28 : decode cX6_inFirstRow 28 = .ok (.if_icmp .ne 6, 3) := by decide +kernel
theorem dX6_inFirstRow_31 : decode cX6_inFirstRow 31 = .ok (.bipush (-5), 2) := by decide +kernel
theorem dX6_inFirstRow_33 : decode cX6_inFirstRow 33 = .ok (.ireturn, 1) := by decide +kernel
theorem dX6_inFirstRow_34 : decode cX6_inFirstRow 34 = .ok (.iload_n 2, 1) := by decide +kernel
theorem dX6_inFirstRow_35 : decode cX6_inFirstRow 35 = .ok (.iconst 1, 1) := by decide +kernel
theorem dX6_inFirstRow_36 : decode cX6_inFirstRow 36 = .ok (.iload_n 3, 1) := by decide +kernel
theorem dX6_inFirstRow_37 : decode cX6_inFirstRow 37 = .ok (.ishl, 1) := by decide +kernel
theorem dX6_inFirstRow_38 : decode cX6_inFirstRow 38 = .ok (.ior, 1) := by decide +kernel
theorem dX6_inFirstRow_39 : decode cX6_inFirstRow 39 = .ok (.istore_n 2, 1) := by decide +kernel
theorem dX6_inFirstRow_40 : decode cX6_inFirstRow 40 = .ok (.iinc 4 1, 3) := by decide +kernel
theorem dX6_inFirstRow_43 : decode cX6_inFirstRow 43 = .ok (.goto (-36), 3) := by decide +kernel
theorem dX6_inFirstRow_46 : decode cX6_inFirstRow 46 = .ok (.iload_n 3, 1) := by decide +kernel
theorem dX6_inFirstRow_47 : decode cX6_inFirstRow 47 = .ok (.ireturn, 1) := by decide +kernel
set_option maxRecDepth 20000 in
theorem ggX6_firstBehind_X6_canFollow : GoodIn wsX6_firstBehind wsX6_canFollow := goodIn_r _ [6, 7, 8, 9, 10, 11, 12, 13, 14, 15, 16, 17, 18, 19] (by decide +kernel) (by decide +kernel)
set_option maxRecDepth 20000 in
theorem gX6_firstBehind_X6_canFollow : GoodIn wsX6_firstBehind (wsV RX6 72 RX6 yX6_canFollow wsX6_canFollow) := goodIn_app (goodIn_of _ (by decide +kernel)) ggX6_firstBehind_X6_canFollow
theorem dX6_firstBehind_0 : decode cX6_firstBehind 0 = .ok (.iconst 0, 1) := by decide +kernel
theorem dX6_firstBehind_1 : decode cX6_firstBehind 1 = .ok (.istore_n 2, 1) := by decide +kernel
theorem dX6_firstBehind_2 : decode cX6_firstBehind 2 = .ok (.iload_n 2, 1) := by decide +kernel
theorem dX6_firstBehind_3 : decode cX6_firstBehind 3 = .ok (.bipush 8, 2) := by decide +kernel
theorem dX6_firstBehind_5 : decode cX6_firstBehind 5 = .ok (.if_icmp .ge 41, 3) := by decide +kernel
theorem dX6_firstBehind_8 : decode cX6_firstBehind 8 = .ok (.aload_n 0, 1) := by decide +kernel
theorem dX6_firstBehind_9 : decode cX6_firstBehind 9 = .ok (.iload_n 1, 1) := by decide +kernel
theorem dX6_firstBehind_10 : decode cX6_firstBehind 10 = .ok (.iload_n 2, 1) := by decide +kernel
theorem dX6_firstBehind_11 : decode cX6_firstBehind 11 = .ok (.invokevirtual 72, 3) := by decide +kernel
theorem dX6_firstBehind_14 : decode cX6_firstBehind 14 = .ok (.ifCond .eq 26, 3) := by decide +kernel
theorem dX6_firstBehind_17 : decode cX6_firstBehind 17 = .ok (.aload_n 0, 1) := by decide +kernel
theorem dX6_firstBehind_18 : decode cX6_firstBehind 18 = .ok (.getfield 24, 3) := by decide +kernel
theorem dX6_firstBehind_21 : decode cX6_firstBehind 21 = .ok (.iload_n 1, 1) := by decide +kernel
theorem dX6_firstBehind_22 : decode cX6_firstBehind 22 = .ok (.iconst 1, 1) := by decide +kernel
theorem dX6_firstBehind_23 : decode cX6_firstBehind 23 = .ok (.iload_n 2, 1) := by decide +kernel
theorem dX6_firstBehind_24 : decode cX6_firstBehind 24 = .ok (.ishl, 1) := by decide +kernel
theorem dX6_firstBehind_25 : decode cX6_firstBehind 25 = .ok (.ior, 1) := by decide +kernel
theorem dX6_firstBehind_26 : decode cX6_firstBehind 26 = .ok (.iaload, 1) := by decide +kernel
theorem dX6_firstBehind_27 : decode cX6_firstBehind 27 = .ok (.aload_n 0, 1) := by decide +kernel
theorem dX6_firstBehind_28 : decode cX6_firstBehind 28 = .ok (.getfield 24, 3) := by decide +kernel
theorem dX6_firstBehind_31 : decode cX6_firstBehind 31 = .ok (.iload_n 1, 1) := by decide +kernel
theorem dX6_firstBehind_32 : decode cX6_firstBehind 32 = .ok (.iaload, 1) := by decide +kernel
theorem dX6_firstBehind_33 : decode cX6_firstBehind 33 = .ok (.iconst 1, 1) := by decide +kernel
theorem dX6_firstBehind_34 : decode cX6_firstBehind 34 = .ok (.isub, 1) := by decide +kernel
theorem dX6_firstBehind_35 : decode cX6_firstBehind 35 = .ok (.if_icmp .ne 5, 3) := by decide +kernel
theorem dX6_firstBehind_38 : decode cX6_firstBehind 38 = .ok (.iload_n 2, 1) := by decide +kernel
theorem dX6_firstBehind_39 : decode cX6_firstBehind 39 = .ok (.ireturn, 1) := by decide +kernel
theorem dX6_firstBehind_40 : decode cX6_firstBehind 40 = .ok (.iinc 2 1, 3) := by decide +kernel
theorem dX6_firstBehind_43 : decode cX6_firstBehind 43 = .ok (.goto (-41), 3) := by decide +kernel
theorem dX6_firstBehind_46 : decode cX6_firstBehind 46 = .ok (.iconst (-1), 1) := by decide +kernel
theorem dX6_firstBehind_47 : decode cX6_firstBehind 47 = .ok (.ireturn, 1) := by decide +kernel
set_option maxRecDepth 20000 in
theorem ggX6_weigh_X4_hasLump : GoodIn wsX6_weigh wsX4_hasLump := goodIn_r _ [8, 9, 10, 129, 130, 131, 132, 133, 134, 135, 136, 137, 138, 139, 140, 141, 142, 143, 144] (by decide +kernel) (by decide +kernel)
set_option maxRecDepth 20000 in
theorem gX6_weigh_X4_hasLump : GoodIn wsX6_weigh (wsV RX6 50 RX4 yX4_hasLump wsX4_hasLump) := goodIn_app (goodIn_of _ (by decide +kernel)) ggX6_weigh_X4_hasLump
set_option maxRecDepth 20000 in
theorem ggX6_weigh_X9_at : GoodIn wsX6_weigh wsX9_at := goodIn_r _ [15, 16, 17, 142, 143, 144] (by decide +kernel) (by decide +kernel)
set_option maxRecDepth 20000 in
theorem gX6_weigh_X9_at : GoodIn wsX6_weigh (wsV RX6 89 RX9 yX9_at wsX9_at) := goodIn_app (goodIn_of _ (by decide +kernel)) ggX6_weigh_X9_at
set_option maxRecDepth 20000 in
theorem ggX6_weigh_X4_worth : GoodIn wsX6_weigh wsX4_worth := goodIn_r _ [21, 22, 23, 24, 25, 7, 26, 27, 28, 29, 30, 31, 9, 32, 33, 12, 13, 14, 15, 16, 17, 34, 35, 36, 37, 38, 39, 40, 41, 42, 43, 44, 45, 46, 47, 48, 49, 50, 51, 52, 53, 54, 55, 56, 57, 58, 59, 60, 61, 62, 63, 64, 65, 66, 67, 68, 69, 70, 71, 72, 73, 74, 75, 76, 77, 78, 79, 80, 81, 82, 83, 84, 85, 86, 87, 88, 89, 90, 91, 92, 93, 94, 95, 96, 97, 98, 99, 100, 101, 102, 103, 104, 105, 106, 107, 108, 109, 110, 111, 112, 113, 114, 115, 116, 117, 129, 130, 131, 132, 133, 134, 135, 136, 137, 138, 139, 140, 141, 142, 143, 144] (by decide +kernel) (by decide +kernel)
set_option maxRecDepth 20000 in
theorem gX6_weigh_X4_worth : GoodIn wsX6_weigh (wsV RX6 102 RX4 yX4_worth wsX4_worth) := goodIn_app (goodIn_of _ (by decide +kernel)) ggX6_weigh_X4_worth
theorem dX6_weigh_0 : decode cX6_weigh 0 = .ok (.iconst 0, 1) := by decide +kernel
theorem dX6_weigh_1 : decode cX6_weigh 1 = .ok (.istore_n 2, 1) := by decide +kernel
theorem dX6_weigh_2 : decode cX6_weigh 2 = .ok (.iload_n 2, 1) := by decide +kernel
theorem dX6_weigh_3 : decode cX6_weigh 3 = .ok (.bipush 8, 2) := by decide +kernel
theorem dX6_weigh_5 : decode cX6_weigh 5 = .ok (.if_icmp .ge 59, 3) := by decide +kernel
theorem dX6_weigh_8 : decode cX6_weigh 8 = .ok (.aload_n 1, 1) := by decide +kernel
theorem dX6_weigh_9 : decode cX6_weigh 9 = .ok (.iload_n 2, 1) := by decide +kernel
theorem dX6_weigh_10 : decode cX6_weigh 10 = .ok (.invokevirtual 50, 3) := by decide +kernel
theorem dX6_weigh_13 : decode cX6_weigh 13 = .ok (.istore_n 3, 1) := by decide +kernel
theorem dX6_weigh_14 : decode cX6_weigh 14 = .ok (.aload_n 0, 1) := by decide +kernel
theorem dX6_weigh_15 : decode cX6_weigh 15 = .ok (.getfield 27, 3) := by decide +kernel
theorem dX6_weigh_18 : decode cX6_weigh 18 = .ok (.iload_n 2, 1) := by decide +kernel
theorem dX6_weigh_19 : decode cX6_weigh 19 = .ok (.iload_n 3, 1) := by decide +kernel
theorem dX6_weigh_20 : decode cX6_weigh 20 = .ok (.ifCond .eq 17, 3) := by decide +kernel
theorem dX6_weigh_23 : decode cX6_weigh 23 = .ok (.iconst 2, 1) := by decide +kernel
theorem dX6_weigh_24 : decode cX6_weigh 24 = .ok (.aload_n 1, 1) := by decide +kernel
theorem dX6_weigh_25 : decode cX6_weigh 25 = .ok (.getfield 99, 3) := by decide +kernel
theorem dX6_weigh_28 : decode cX6_weigh 28 = .ok (.iload_n 2, 1) := by decide +kernel
theorem dX6_weigh_29 : decode cX6_weigh 29 = .ok (.iconst 2, 1) := by decide +kernel
theorem dX6_weigh_30 : decode cX6_weigh 30 = .ok (.invokevirtual 89, 3) := by decide +kernel
theorem dX6_weigh_33 : decode cX6_weigh 33 = .ok (.imul, 1) := by decide +kernel
theorem dX6_weigh_34 : decode cX6_weigh 34 = .ok (.goto 4, 3) := by decide +kernel
theorem dX6_weigh_37 : decode cX6_weigh 37 = .ok (.iconst 0, 1) := by decide +kernel
theorem dX6_weigh_38 : decode cX6_weigh 38 = .ok (.iastore, 1) := by decide +kernel
theorem dX6_weigh_39 : decode cX6_weigh 39 = .ok (.aload_n 0, 1) := by decide +kernel
theorem dX6_weigh_40 : decode cX6_weigh 40 = .ok (.getfield 30, 3) := by decide +kernel
theorem dX6_weigh_43 : decode cX6_weigh 43 = .ok (.iload_n 2, 1) := by decide +kernel
theorem dX6_weigh_44 : decode cX6_weigh 44 = .ok (.iload_n 3, 1) := by decide +kernel
theorem dX6_weigh_45 : decode cX6_weigh 45 = .ok (.ifCond .eq 11, 3) := by decide +kernel
theorem dX6_weigh_48 : decode cX6_weigh 48 = .ok (.aload_n 1, 1) := by decide +kernel
theorem dX6_weigh_49 : decode cX6_weigh 49 = .ok (.iload_n 2, 1) := by decide +kernel
theorem dX6_weigh_50 : decode cX6_weigh 50 = .ok (.invokevirtual 102, 3) := by decide +kernel
theorem dX6_weigh_53 : decode cX6_weigh 53 = .ok (.goto 4, 3) := by decide +kernel
theorem dX6_weigh_56 : decode cX6_weigh 56 = .ok (.iconst 0, 1) := by decide +kernel
theorem dX6_weigh_57 : decode cX6_weigh 57 = .ok (.iastore, 1) := by decide +kernel
theorem dX6_weigh_58 : decode cX6_weigh 58 = .ok (.iinc 2 1, 3) := by decide +kernel
theorem dX6_weigh_61 : decode cX6_weigh 61 = .ok (.goto (-59), 3) := by decide +kernel
theorem dX6_weigh_64 : decode cX6_weigh 64 = .ok (.return_, 1) := by decide +kernel
theorem dX6_worthOf_0 : decode cX6_worthOf 0 = .ok (.iload_n 1, 1) := by decide +kernel
theorem dX6_worthOf_1 : decode cX6_worthOf 1 = .ok (.ifCond .lt 21, 3) := by decide +kernel
theorem dX6_worthOf_4 : decode cX6_worthOf 4 = .ok (.iload_n 1, 1) := by decide +kernel
theorem dX6_worthOf_5 : decode cX6_worthOf 5 = .ok (.aload_n 0, 1) := by decide +kernel
theorem dX6_worthOf_6 : decode cX6_worthOf 6 = .ok (.getfield 30, 3) := by decide +kernel
theorem dX6_worthOf_9 : decode cX6_worthOf 9 = .ok (.arraylength, 1) := by decide +kernel
theorem dX6_worthOf_10 : decode cX6_worthOf 10 = .ok (.if_icmp .ge 12, 3) := by decide +kernel
theorem dX6_worthOf_13 : decode cX6_worthOf 13 = .ok (.aload_n 0, 1) := by decide +kernel
theorem dX6_worthOf_14 : decode cX6_worthOf 14 = .ok (.getfield 30, 3) := by decide +kernel
theorem dX6_worthOf_17 : decode cX6_worthOf 17 = .ok (.iload_n 1, 1) := by decide +kernel
theorem dX6_worthOf_18 : decode cX6_worthOf 18 = .ok (.iaload, 1) := by decide +kernel
theorem dX6_worthOf_19 : decode cX6_worthOf 19 = .ok (.goto 4, 3) := by decide +kernel
theorem dX6_worthOf_22 : decode cX6_worthOf 22 = .ok (.iconst 0, 1) := by decide +kernel
theorem dX6_worthOf_23 : decode cX6_worthOf 23 = .ok (.ireturn, 1) := by decide +kernel
set_option maxRecDepth 20000 in
theorem ggX6_bestFor_X6_sumOver : GoodIn wsX6_bestFor wsX6_sumOver := goodIn_r _ [7] (by decide +kernel) (by decide +kernel)
set_option maxRecDepth 20000 in
theorem gX6_bestFor_X6_sumOver : GoodIn wsX6_bestFor (va_wsS RX6 108 yX6_sumOver wsX6_sumOver) := goodIn_app (goodIn_of _ (by decide +kernel)) ggX6_bestFor_X6_sumOver
theorem dX6_bestFor_0 : decode cX6_bestFor 0 = .ok (.iconst 0, 1) := by decide +kernel
theorem dX6_bestFor_1 : decode cX6_bestFor 1 = .ok (.istore_n 3, 1) := by decide +kernel
theorem dX6_bestFor_2 : decode cX6_bestFor 2 = .ok (.aload_n 0, 1) := by decide +kernel
theorem dX6_bestFor_3 : decode cX6_bestFor 3 = .ok (.iconst 0, 1) := by decide +kernel
theorem dX6_bestFor_4 : decode cX6_bestFor 4 = .ok (.putfield 105, 3) := by decide +kernel
theorem dX6_bestFor_7 : decode cX6_bestFor 7 = .ok (.iconst 0, 1) := by decide +kernel
theorem dX6_bestFor_8 : decode cX6_bestFor 8 = .ok (.istore 4, 2) := by decide +kernel
theorem dX6_bestFor_10 : decode cX6_bestFor 10 = .ok (.iload 4, 2) := by decide +kernel
theorem dX6_bestFor_12 : decode cX6_bestFor 12 = .ok (.sipush 256, 3) := by decide +kernel
theorem dX6_bestFor_15 : decode cX6_bestFor 15 = .ok (.if_icmp .ge 58, 3) := by decide +kernel
theorem dX6_bestFor_18 : decode cX6_bestFor 18 = .ok (.iload 4, 2) := by decide +kernel
theorem dX6_bestFor_20 : decode cX6_bestFor 20 = .ok (.iload_n 2, 1) := by decide +kernel
theorem dX6_bestFor_21 : decode cX6_bestFor 21 = .ok (.iand, 1) := by decide +kernel
theorem dX6_bestFor_22 : decode cX6_bestFor 22 = .ok (.ifCond .ne 45, 3) := by decide +kernel
theorem dX6_bestFor_25 : decode cX6_bestFor 25 = .ok (.aload_n 0, 1) := by decide +kernel
theorem dX6_bestFor_26 : decode cX6_bestFor 26 = .ok (.getfield 27, 3) := by decide +kernel
theorem dX6_bestFor_29 : decode cX6_bestFor 29 = .ok (.iload 4, 2) := by decide +kernel
theorem dX6_bestFor_31 : decode cX6_bestFor 31 = .ok (.invokestatic 108, 3) := by decide +kernel
theorem dX6_bestFor_34 : decode cX6_bestFor 34 = .ok (.iload_n 1, 1) := by decide +kernel
theorem dX6_bestFor_35 : decode cX6_bestFor 35 = .ok (.if_icmp .gt 32, 3) := by decide +kernel
theorem dX6_bestFor_38 : decode cX6_bestFor 38 = .ok (.aload_n 0, 1) := by decide +kernel
theorem dX6_bestFor_39 : decode cX6_bestFor 39 = .ok (.getfield 30, 3) := by decide +kernel
theorem dX6_bestFor_42 : decode cX6_bestFor 42 = .ok (.iload 4, 2) := by decide +kernel
theorem dX6_bestFor_44 : decode cX6_bestFor 44 = .ok (.invokestatic 108, 3) := by decide +kernel
theorem dX6_bestFor_47 : decode cX6_bestFor 47 = .ok (.istore 5, 2) := by decide +kernel
theorem dX6_bestFor_49 : decode cX6_bestFor 49 = .ok (.iload 5, 2) := by decide +kernel
theorem dX6_bestFor_51 : decode cX6_bestFor 51 = .ok (.aload_n 0, 1) := by decide +kernel
theorem dX6_bestFor_52 : decode cX6_bestFor 52 = .ok (.getfield 105, 3) := by decide +kernel
theorem dX6_bestFor_55 : decode cX6_bestFor 55 = .ok (.if_icmp .le 12, 3) := by decide +kernel
theorem dX6_bestFor_58 : decode cX6_bestFor 58 = .ok (.aload_n 0, 1) := by decide +kernel
theorem dX6_bestFor_59 : decode cX6_bestFor 59 = .ok (.iload 5, 2) := by decide +kernel
theorem dX6_bestFor_61 : decode cX6_bestFor 61 = .ok (.putfield 105, 3) := by decide +kernel
theorem dX6_bestFor_64 : decode cX6_bestFor 64 = .ok (.iload 4, 2) := by decide +kernel
theorem dX6_bestFor_66 : decode cX6_bestFor 66 = .ok (.istore_n 3, 1) := by decide +kernel
theorem dX6_bestFor_67 : decode cX6_bestFor 67 = .ok (.iinc 4 1, 3) := by decide +kernel
theorem dX6_bestFor_70 : decode cX6_bestFor 70 = .ok (.goto (-60), 3) := by decide +kernel
theorem dX6_bestFor_73 : decode cX6_bestFor 73 = .ok (.iload_n 3, 1) := by decide +kernel
theorem dX6_bestFor_74 : decode cX6_bestFor 74 = .ok (.ireturn, 1) := by decide +kernel
theorem dX6_sumOver_0 : decode cX6_sumOver 0 = .ok (.iconst 0, 1) := by decide +kernel
theorem dX6_sumOver_1 : decode cX6_sumOver 1 = .ok (.istore_n 2, 1) := by decide +kernel
theorem dX6_sumOver_2 : decode cX6_sumOver 2 = .ok (.iconst 0, 1) := by decide +kernel
theorem dX6_sumOver_3 : decode cX6_sumOver 3 = .ok (.istore_n 3, 1) := by decide +kernel
theorem dX6_sumOver_4 : decode cX6_sumOver 4 = .ok (.iload_n 3, 1) := by decide +kernel
theorem dX6_sumOver_5 : decode cX6_sumOver 5 = .ok (.aload_n 0, 1) := by decide +kernel
theorem dX6_sumOver_6 : decode cX6_sumOver 6 = .ok (.arraylength, 1) := by decide +kernel
theorem dX6_sumOver_7 : decode cX6_sumOver 7 = .ok (.if_icmp .ge 24, 3) := by decide +kernel
theorem dX6_sumOver_10 : decode cX6_sumOver 10 = .ok (.iload_n 1, 1) := by decide +kernel
theorem dX6_sumOver_11 : decode cX6_sumOver 11 = .ok (.iload_n 3, 1) := by decide +kernel
theorem dX6_sumOver_12 : decode cX6_sumOver 12 = .ok (.ishr, 1) := by decide +kernel
theorem dX6_sumOver_13 : decode cX6_sumOver 13 = .ok (.iconst 1, 1) := by decide +kernel
theorem dX6_sumOver_14 : decode cX6_sumOver 14 = .ok (.iand, 1) := by decide +kernel
theorem dX6_sumOver_15 : decode cX6_sumOver 15 = .ok (.iconst 1, 1) := by decide +kernel
theorem dX6_sumOver_16 : decode cX6_sumOver 16 = .ok (.if_icmp .ne 9, 3) := by decide +kernel
theorem dX6_sumOver_19 : decode cX6_sumOver 19 = .ok (.iload_n 2, 1) := by decide +kernel
theorem dX6_sumOver_20 : decode cX6_sumOver 20 = .ok (.aload_n 0, 1) := by decide +kernel
theorem dX6_sumOver_21 : decode cX6_sumOver 21 = .ok (.iload_n 3, 1) := by decide +kernel
theorem dX6_sumOver_22 : decode cX6_sumOver 22 = .ok (.iaload, 1) := by decide +kernel
theorem dX6_sumOver_23 : decode cX6_sumOver 23 = .ok (.iadd, 1) := by decide +kernel
theorem dX6_sumOver_24 : decode cX6_sumOver 24 = .ok (.istore_n 2, 1) := by decide +kernel
theorem dX6_sumOver_25 : decode cX6_sumOver 25 = .ok (.iinc 3 1, 3) := by decide +kernel
theorem dX6_sumOver_28 : decode cX6_sumOver 28 = .ok (.goto (-24), 3) := by decide +kernel
theorem dX6_sumOver_31 : decode cX6_sumOver 31 = .ok (.iload_n 2, 1) := by decide +kernel
theorem dX6_sumOver_32 : decode cX6_sumOver 32 = .ok (.ireturn, 1) := by decide +kernel
set_option maxRecDepth 20000 in
theorem ggX6_ofCut_X6_findCuts : GoodIn wsX6_ofCut wsX6_findCuts := goodIn_r _ [9, 2, 3, 4, 10, 11, 8, 12, 13, 14, 15, 16, 30, 31, 32, 33, 34, 35, 36, 37, 38, 39, 40] (by decide +kernel) (by decide +kernel)
set_option maxRecDepth 20000 in
theorem gX6_ofCut_X6_findCuts : GoodIn wsX6_ofCut (wsV RX6 115 RX6 yX6_findCuts wsX6_findCuts) := goodIn_app (goodIn_of _ (by decide +kernel)) ggX6_ofCut_X6_findCuts
theorem dX6_ofCut_0 : decode cX6_ofCut 0 = .ok (.aload_n 0, 1) := by decide +kernel
theorem dX6_ofCut_1 : decode cX6_ofCut 1 = .ok (.aload_n 1, 1) := by decide +kernel
theorem dX6_ofCut_2 : decode cX6_ofCut 2 = .ok (.getfield 112, 3) := by decide +kernel
theorem dX6_ofCut_5 : decode cX6_ofCut 5 = .ok (.iload_n 2, 1) := by decide +kernel
theorem dX6_ofCut_6 : decode cX6_ofCut 6 = .ok (.invokevirtual 115, 3) := by decide +kernel
theorem dX6_ofCut_9 : decode cX6_ofCut 9 = .ok (.iload_n 3, 1) := by decide +kernel
theorem dX6_ofCut_10 : decode cX6_ofCut 10 = .ok (.bipush (-2), 2) := by decide +kernel
theorem dX6_ofCut_12 : decode cX6_ofCut 12 = .ok (.if_icmp .ne 10, 3) := by decide +kernel
theorem dX6_ofCut_15 : decode cX6_ofCut 15 = .ok (.aload_n 0, 1) := by decide +kernel
theorem dX6_ofCut_16 : decode cX6_ofCut 16 = .ok (.getfield 33, 3) := by decide +kernel
theorem dX6_ofCut_19 : decode cX6_ofCut 19 = .ok (.iconst 0, 1) := by decide +kernel
theorem dX6_ofCut_20 : decode cX6_ofCut 20 = .ok (.iaload, 1) := by decide +kernel
theorem dX6_ofCut_21 : decode cX6_ofCut 21 = .ok (.ireturn, 1) := by decide +kernel
theorem dX6_ofCut_22 : decode cX6_ofCut 22 = .ok (.iload_n 3, 1) := by decide +kernel
theorem dX6_ofCut_23 : decode cX6_ofCut 23 = .ok (.iconst (-1), 1) := by decide +kernel
theorem dX6_ofCut_24 : decode cX6_ofCut 24 = .ok (.if_icmp .ne 10, 3) := by decide +kernel
theorem dX6_ofCut_27 : decode cX6_ofCut 27 = .ok (.aload_n 0, 1) := by decide +kernel
theorem dX6_ofCut_28 : decode cX6_ofCut 28 = .ok (.getfield 36, 3) := by decide +kernel
theorem dX6_ofCut_31 : decode cX6_ofCut 31 = .ok (.iconst 0, 1) := by decide +kernel
theorem dX6_ofCut_32 : decode cX6_ofCut 32 = .ok (.iaload, 1) := by decide +kernel
theorem dX6_ofCut_33 : decode cX6_ofCut 33 = .ok (.ireturn, 1) := by decide +kernel
theorem dX6_ofCut_34 : decode cX6_ofCut 34 = .ok (.iload_n 3, 1) := by decide +kernel
theorem dX6_ofCut_35 : decode cX6_ofCut 35 = .ok (.aload_n 0, 1) := by decide +kernel
theorem dX6_ofCut_36 : decode cX6_ofCut 36 = .ok (.getfield 36, 3) := by decide +kernel
theorem dX6_ofCut_39 : decode cX6_ofCut 39 = .ok (.iconst 0, 1) := by decide +kernel
theorem dX6_ofCut_40 : decode cX6_ofCut 40 = .ok (.iaload, 1) := by decide +kernel
theorem dX6_ofCut_41 : decode cX6_ofCut 41 = .ok (.if_icmp .lt 6, 3) := by decide +kernel
theorem dX6_ofCut_44 : decode cX6_ofCut 44 = .ok (.bipush (-5), 2) := by decide +kernel
theorem dX6_ofCut_46 : decode cX6_ofCut 46 = .ok (.ireturn, 1) := by decide +kernel
theorem dX6_ofCut_47 : decode cX6_ofCut 47 = .ok (.iconst 0, 1) := by decide +kernel
theorem dX6_ofCut_48 : decode cX6_ofCut 48 = .ok (.istore 4, 2) := by decide +kernel
theorem dX6_ofCut_50 : decode cX6_ofCut 50 = .ok (.iconst 0, 1) := by decide +kernel
theorem dX6_ofCut_51 : decode cX6_ofCut 51 = .ok (.istore 5, 2) := by decide +kernel
theorem dX6_ofCut_53 : decode cX6_ofCut 53 = .ok (.iload 5, 2) := by decide +kernel
theorem dX6_ofCut_55 : decode cX6_ofCut 55 = .ok (.iload_n 3, 1) := by decide +kernel
theorem dX6_ofCut_56 : decode cX6_ofCut 56 = .ok (.if_icmp .ge 28, 3) := by decide +kernel
theorem dX6_ofCut_59 : decode cX6_ofCut 59 = .ok (.iload 4, 2) := by decide +kernel
theorem dX6_ofCut_61 : decode cX6_ofCut 61 = .ok (.bipush 12, 2) := by decide +kernel
theorem dX6_ofCut_63 : decode cX6_ofCut 63 = .ok (.if_icmp .ge 21, 3) := by decide +kernel
theorem dX6_ofCut_66 : decode cX6_ofCut 66 = .ok (.iload 4, 2) := by decide +kernel
theorem dX6_ofCut_68 : decode cX6_ofCut 68 = .ok (.aload_n 0, 1) := by decide +kernel
theorem dX6_ofCut_69 : decode cX6_ofCut 69 = .ok (.getfield 39, 3) := by decide +kernel
theorem dX6_ofCut_72 : decode cX6_ofCut 72 = .ok (.iload 4, 2) := by decide +kernel
theorem dX6_ofCut_74 : decode cX6_ofCut 74 = .ok (.iaload, 1) := by decide +kernel
theorem dX6_ofCut_75 : decode cX6_ofCut 75 = .ok (.iadd, 1) := by decide +kernel
theorem dX6_ofCut_76 : decode cX6_ofCut 76 = .ok (.istore 4, 2) := by decide +kernel
theorem dX6_ofCut_78 : decode cX6_ofCut 78 = .ok (.iinc 5 1, 3) := by decide +kernel
theorem dX6_ofCut_81 : decode cX6_ofCut 81 = .ok (.goto (-28), 3) := by decide +kernel
theorem dX6_ofCut_84 : decode cX6_ofCut 84 = .ok (.iload 4, 2) := by decide +kernel
theorem dX6_ofCut_86 : decode cX6_ofCut 86 = .ok (.bipush 12, 2) := by decide +kernel
theorem dX6_ofCut_88 : decode cX6_ofCut 88 = .ok (.if_icmp .ge 13, 3) := by decide +kernel
theorem dX6_ofCut_91 : decode cX6_ofCut 91 = .ok (.aload_n 0, 1) := by decide +kernel
theorem dX6_ofCut_92 : decode cX6_ofCut 92 = .ok (.getfield 39, 3) := by decide +kernel
theorem dX6_ofCut_95 : decode cX6_ofCut 95 = .ok (.iload 4, 2) := by decide +kernel
theorem dX6_ofCut_97 : decode cX6_ofCut 97 = .ok (.iaload, 1) := by decide +kernel
theorem dX6_ofCut_98 : decode cX6_ofCut 98 = .ok (.goto 5, 3) := by decide +kernel
theorem dX6_ofCut_101 : decode cX6_ofCut 101 = .ok (.bipush (-5), 2) := by decide +kernel
theorem dX6_ofCut_103 : decode cX6_ofCut 103 = .ok (.ireturn, 1) := by decide +kernel
set_option maxRecDepth 20000 in
theorem ggX6_findCuts_X6_wholeWithin : GoodIn wsX6_findCuts wsX6_wholeWithin := goodIn_r _ [7, 8, 9, 10, 11] (by decide +kernel) (by decide +kernel)
set_option maxRecDepth 20000 in
theorem gX6_findCuts_X6_wholeWithin : GoodIn wsX6_findCuts (va_wsS RX6 118 yX6_wholeWithin wsX6_wholeWithin) := goodIn_app (goodIn_of _ (by decide +kernel)) ggX6_findCuts_X6_wholeWithin
theorem dX6_findCuts_0 : decode cX6_findCuts 0 = .ok (.aload_n 0, 1) := by decide +kernel
theorem dX6_findCuts_1 : decode cX6_findCuts 1 = .ok (.getfield 33, 3) := by decide +kernel
theorem dX6_findCuts_4 : decode cX6_findCuts 4 = .ok (.bipush 12, 2) := by decide +kernel
theorem dX6_findCuts_6 : decode cX6_findCuts 6 = .ok (.iconst 0, 1) := by decide +kernel
theorem dX6_findCuts_7 : decode cX6_findCuts 7 = .ok (.iastore, 1) := by decide +kernel
theorem dX6_findCuts_8 : decode cX6_findCuts 8 = .ok (.aload_n 0, 1) := by decide +kernel
theorem dX6_findCuts_9 : decode cX6_findCuts 9 = .ok (.getfield 36, 3) := by decide +kernel
theorem dX6_findCuts_12 : decode cX6_findCuts 12 = .ok (.bipush 12, 2) := by decide +kernel
theorem dX6_findCuts_14 : decode cX6_findCuts 14 = .ok (.iconst 0, 1) := by decide +kernel
theorem dX6_findCuts_15 : decode cX6_findCuts 15 = .ok (.iastore, 1) := by decide +kernel
theorem dX6_findCuts_16 : decode cX6_findCuts 16 = .ok (.bipush 11, 2) := by decide +kernel
theorem dX6_findCuts_18 : decode cX6_findCuts 18 = .ok (.istore_n 3, 1) := by decide +kernel
theorem dX6_findCuts_19 : decode cX6_findCuts 19 = .ok (.iload_n 3, 1) := by decide +kernel
theorem dX6_findCuts_20 : decode cX6_findCuts 20 = .ok (.ifCond .lt 131, 3) := by decide +kernel
theorem dX6_findCuts_23 : decode cX6_findCuts 23 = .ok (.aload_n 0, 1) := by decide +kernel
theorem dX6_findCuts_24 : decode cX6_findCuts 24 = .ok (.getfield 33, 3) := by decide +kernel
theorem dX6_findCuts_27 : decode cX6_findCuts 27 = .ok (.iload_n 3, 1) := by decide +kernel
theorem dX6_findCuts_28 : decode cX6_findCuts 28 = .ok (.iconst (-1), 1) := by decide +kernel
theorem dX6_findCuts_29 : decode cX6_findCuts 29 = .ok (.iastore, 1) := by decide +kernel
theorem dX6_findCuts_30 : decode cX6_findCuts 30 = .ok (.iconst 1, 1) := by decide +kernel
theorem dX6_findCuts_31 : decode cX6_findCuts 31 = .ok (.istore 4, 2) := by decide +kernel
theorem dX6_findCuts_33 : decode cX6_findCuts 33 = .ok (.iload 4, 2) := by decide +kernel
theorem dX6_findCuts_35 : decode cX6_findCuts 35 = .ok (.iload_n 2, 1) := by decide +kernel
theorem dX6_findCuts_36 : decode cX6_findCuts 36 = .ok (.if_icmp .gt 109, 3) := by decide +kernel
theorem dX6_findCuts_39 : decode cX6_findCuts 39 = .ok (.iload_n 3, 1) := by decide +kernel
theorem dX6_findCuts_40 : decode cX6_findCuts 40 = .ok (.iload 4, 2) := by decide +kernel
theorem dX6_findCuts_42 : decode cX6_findCuts 42 = .ok (.iadd, 1) := by decide +kernel
theorem dX6_findCuts_43 : decode cX6_findCuts 43 = .ok (.bipush 12, 2) := by decide +kernel
theorem dX6_findCuts_45 : decode cX6_findCuts 45 = .ok (.if_icmp .gt 100, 3) := by decide +kernel
theorem dX6_findCuts_48 : decode cX6_findCuts 48 = .ok (.iload_n 3, 1) := by decide +kernel
theorem dX6_findCuts_49 : decode cX6_findCuts 49 = .ok (.iload 4, 2) := by decide +kernel
theorem dX6_findCuts_51 : decode cX6_findCuts 51 = .ok (.iadd, 1) := by decide +kernel
theorem dX6_findCuts_52 : decode cX6_findCuts 52 = .ok (.istore 5, 2) := by decide +kernel
theorem dX6_findCuts_54 : decode cX6_findCuts 54 = .ok (.aload_n 1, 1) := by decide +kernel
theorem dX6_findCuts_55 : decode cX6_findCuts 55 = .ok (.iload_n 3, 1) := by decide +kernel
theorem dX6_findCuts_56 : decode cX6_findCuts 56 = .ok (.iload 5, 2) := by decide +kernel
theorem dX6_findCuts_58 : decode cX6_findCuts 58 = .ok (.invokestatic 118, 3) := by decide +kernel
theorem dX6_findCuts_61 : decode cX6_findCuts 61 = .ok (.aload_n 0, 1) := by decide +kernel
theorem dX6_findCuts_62 : decode cX6_findCuts 62 = .ok (.getfield 33, 3) := by decide +kernel
theorem dX6_findCuts_65 : decode cX6_findCuts 65 = .ok (.iload 5, 2) := by decide +kernel
theorem dX6_findCuts_67 : decode cX6_findCuts 67 = .ok (.iaload, 1) := by decide +kernel
theorem dX6_findCuts_68 : decode cX6_findCuts 68 = .ok (.iadd, 1) := by decide +kernel
theorem dX6_findCuts_69 : decode cX6_findCuts 69 = .ok (.istore 6, 2) := by decide +kernel
theorem dX6_findCuts_71 : decode cX6_findCuts 71 = .ok (.iconst 1, 1) := by decide +kernel
theorem dX6_findCuts_72 : decode cX6_findCuts 72 = .ok (.aload_n 0, 1) := by decide +kernel
theorem dX6_findCuts_73 : decode cX6_findCuts 73 = .ok (.getfield 36, 3) := by decide +kernel
theorem dX6_findCuts_76 : decode cX6_findCuts 76 = .ok (.iload 5, 2) := by decide +kernel
theorem dX6_findCuts_78 : decode cX6_findCuts 78 = .ok (.iaload, 1) := by decide +kernel
theorem dX6_findCuts_79 : decode cX6_findCuts 79 = .ok (.iadd, 1) := by decide +kernel
theorem dX6_findCuts_80 : decode cX6_findCuts 80 = .ok (.istore 7, 2) := by decide +kernel
theorem dX6_findCuts_82 : decode cX6_findCuts 82 = .ok (.iload 6, 2) := by decide +kernel
theorem dX6_findCuts_84 : decode cX6_findCuts 84 = .ok (.aload_n 0, 1) := by decide +kernel
theorem dX6_findCuts_85 : decode cX6_findCuts 85 = .ok (.getfield 33, 3) := by decide +kernel
theorem dX6_findCuts_88 : decode cX6_findCuts 88 = .ok (.iload_n 3, 1) := by decide +kernel
theorem dX6_findCuts_89 : decode cX6_findCuts 89 = .ok (.iaload, 1) := by decide +kernel
theorem dX6_findCuts_90 : decode cX6_findCuts 90 = .ok (.if_icmp .gt 25, 3) := by decide +kernel
theorem dX6_findCuts_93 : decode cX6_findCuts 93 = .ok (.iload 6, 2) := by decide +kernel
theorem dX6_findCuts_95 : decode cX6_findCuts 95 = .ok (.aload_n 0, 1) := by decide +kernel
theorem dX6_findCuts_96 : decode cX6_findCuts 96 = .ok (.getfield 33, 3) := by decide +kernel
theorem dX6_findCuts_99 : decode cX6_findCuts 99 = .ok (.iload_n 3, 1) := by decide +kernel
theorem dX6_findCuts_100 : decode cX6_findCuts 100 = .ok (.iaload, 1) := by decide +kernel
theorem dX6_findCuts_101 : decode cX6_findCuts 101 = .ok (.if_icmp .ne 38, 3) := by decide +kernel
theorem dX6_findCuts_104 : decode cX6_findCuts 104 = .ok (.iload 7, 2) := by decide +kernel
theorem dX6_findCuts_106 : decode cX6_findCuts 106 = .ok (.aload_n 0, 1) := by decide +kernel
theorem dX6_findCuts_107 : decode cX6_findCuts 107 = .ok (.getfield 36, 3) := by decide +kernel
theorem dX6_findCuts_110 : decode cX6_findCuts 110 = .ok (.iload_n 3, 1) := by decide +kernel
theorem dX6_findCuts_111 : decode cX6_findCuts 111 = .ok (.iaload, 1) := by decide +kernel
theorem dX6_findCuts_112 : decode cX6_findCuts 112 = .ok (.if_icmp .ge 27, 3) := by decide +kernel
theorem dX6_findCuts_115 : decode cX6_findCuts 115 = .ok (.aload_n 0, 1) := by decide +kernel
theorem dX6_findCuts_116 : decode cX6_findCuts 116 = .ok (.getfield 33, 3) := by decide +kernel
theorem dX6_findCuts_119 : decode cX6_findCuts 119 = .ok (.iload_n 3, 1) := by decide +kernel
theorem dX6_findCuts_120 : decode cX6_findCuts 120 = .ok (.iload 6, 2) := by decide +kernel
theorem dX6_findCuts_122 : decode cX6_findCuts 122 = .ok (.iastore, 1) := by decide +kernel
theorem dX6_findCuts_123 : decode cX6_findCuts 123 = .ok (.aload_n 0, 1) := by decide +kernel
theorem dX6_findCuts_124 : decode cX6_findCuts 124 = .ok (.getfield 36, 3) := by decide +kernel
theorem dX6_findCuts_127 : decode cX6_findCuts 127 = .ok (.iload_n 3, 1) := by decide +kernel
theorem dX6_findCuts_128 : decode cX6_findCuts 128 = .ok (.iload 7, 2) := by decide +kernel
theorem dX6_findCuts_130 : decode cX6_findCuts 130 = .ok (.iastore, 1) := by decide +kernel
theorem dX6_findCuts_131 : decode cX6_findCuts 131 = .ok (.aload_n 0, 1) := by decide +kernel
theorem dX6_findCuts_132 : decode cX6_findCuts 132 = .ok (.getfield 39, 3) := by decide +kernel
theorem dX6_findCuts_135 : decode cX6_findCuts 135 = .ok (.iload_n 3, 1) := by decide +kernel
theorem dX6_findCuts_136 : decode cX6_findCuts 136 = .ok (.iload 4, 2) := by decide +kernel
theorem dX6_findCuts_138 : decode cX6_findCuts 138 = .ok (.iastore, 1) := by decide +kernel
theorem dX6_findCuts_139 : decode cX6_findCuts 139 = .ok (.iinc 4 1, 3) := by decide +kernel
theorem dX6_findCuts_142 : decode cX6_findCuts 142 = .ok (.goto (-109), 3) := by decide +kernel
theorem dX6_findCuts_145 : decode cX6_findCuts 145 = .ok (.iinc 3 (-1), 3) := by decide +kernel
theorem dX6_findCuts_148 : decode cX6_findCuts 148 = .ok (.goto (-129), 3) := by decide +kernel
theorem dX6_findCuts_151 : decode cX6_findCuts 151 = .ok (.return_, 1) := by decide +kernel
theorem dX6_wholeWithin_0 : decode cX6_wholeWithin 0 = .ok (.iconst 0, 1) := by decide +kernel
theorem dX6_wholeWithin_1 : decode cX6_wholeWithin 1 = .ok (.istore_n 3, 1) := by decide +kernel
theorem dX6_wholeWithin_2 : decode cX6_wholeWithin 2 = .ok (.iconst 0, 1) := by decide +kernel
theorem dX6_wholeWithin_3 : decode cX6_wholeWithin 3 = .ok (.istore 4, 2) := by decide +kernel
theorem dX6_wholeWithin_5 : decode cX6_wholeWithin 5 = .ok (.iload_n 1, 1) := by decide +kernel
theorem dX6_wholeWithin_6 : decode cX6_wholeWithin 6 = .ok (.iconst 0, 1) := by decide +kernel
theorem dX6_wholeWithin_7 : decode cX6_wholeWithin 7 = .ok (.invokestatic 122, 3) := by decide +kernel
theorem dX6_wholeWithin_10 : decode cX6_wholeWithin 10 = .ok (.istore 5, 2) := by decide +kernel
theorem dX6_wholeWithin_12 : decode cX6_wholeWithin 12 = .ok (.iload 5, 2) := by decide +kernel
theorem dX6_wholeWithin_14 : decode cX6_wholeWithin 14 = .ok (.iload_n 2, 1) := by decide +kernel
theorem dX6_wholeWithin_15 : decode cX6_wholeWithin 15 = .ok (.if_icmp .ge 88, 3) := by decide +kernel
theorem dX6_wholeWithin_18 : decode cX6_wholeWithin 18 = .ok (.iload 5, 2) := by decide +kernel
theorem dX6_wholeWithin_20 : decode cX6_wholeWithin 20 = .ok (.aload_n 0, 1) := by decide +kernel
theorem dX6_wholeWithin_21 : decode cX6_wholeWithin 21 = .ok (.arraylength, 1) := by decide +kernel
theorem dX6_wholeWithin_22 : decode cX6_wholeWithin 22 = .ok (.if_icmp .ge 81, 3) := by decide +kernel
theorem dX6_wholeWithin_25 : decode cX6_wholeWithin 25 = .ok (.iload 4, 2) := by decide +kernel
theorem dX6_wholeWithin_27 : decode cX6_wholeWithin 27 = .ok (.ifCond .ne 21, 3) := by decide +kernel
theorem dX6_wholeWithin_30 : decode cX6_wholeWithin 30 = .ok (.iload 5, 2) := by decide +kernel
theorem dX6_wholeWithin_32 : decode cX6_wholeWithin 32 = .ok (.ifCond .eq 16, 3) := by decide +kernel
theorem dX6_wholeWithin_35 : decode cX6_wholeWithin 35 = .ok (.aload_n 0, 1) := by decide +kernel
theorem dX6_wholeWithin_36 : decode cX6_wholeWithin 36 = .ok (.iload 5, 2) := by decide +kernel
theorem dX6_wholeWithin_38 : decode cX6_wholeWithin 38 = .ok (.iaload, 1) := by decide +kernel
theorem dX6_wholeWithin_39 : decode cX6_wholeWithin 39 = .ok (.aload_n 0, 1) := by decide +kernel
theorem dX6_wholeWithin_40 : decode cX6_wholeWithin 40 = .ok (.iload 5, 2) := by decide +kernel
theorem dX6_wholeWithin_42 : decode cX6_wholeWithin 42 = .ok (.iconst 1, 1) := by decide +kernel
theorem dX6_wholeWithin_43 : decode cX6_wholeWithin 43 = .ok (.isub, 1) := by decide +kernel
theorem dX6_wholeWithin_44 : decode cX6_wholeWithin 44 = .ok (.iaload, 1) := by decide +kernel
theorem dX6_wholeWithin_45 : decode cX6_wholeWithin 45 = .ok (.if_icmp .eq 7, 3) := by decide +kernel
theorem dX6_wholeWithin_48 : decode cX6_wholeWithin 48 = .ok (.iconst 1, 1) := by decide +kernel
theorem dX6_wholeWithin_49 : decode cX6_wholeWithin 49 = .ok (.goto 4, 3) := by decide +kernel
theorem dX6_wholeWithin_52 : decode cX6_wholeWithin 52 = .ok (.iconst 0, 1) := by decide +kernel
theorem dX6_wholeWithin_53 : decode cX6_wholeWithin 53 = .ok (.istore 4, 2) := by decide +kernel
theorem dX6_wholeWithin_55 : decode cX6_wholeWithin 55 = .ok (.iload 5, 2) := by decide +kernel
theorem dX6_wholeWithin_57 : decode cX6_wholeWithin 57 = .ok (.iconst 1, 1) := by decide +kernel
theorem dX6_wholeWithin_58 : decode cX6_wholeWithin 58 = .ok (.iadd, 1) := by decide +kernel
theorem dX6_wholeWithin_59 : decode cX6_wholeWithin 59 = .ok (.aload_n 0, 1) := by decide +kernel
theorem dX6_wholeWithin_60 : decode cX6_wholeWithin 60 = .ok (.arraylength, 1) := by decide +kernel
theorem dX6_wholeWithin_61 : decode cX6_wholeWithin 61 = .ok (.if_icmp .ge 16, 3) := by decide +kernel
theorem dX6_wholeWithin_64 : decode cX6_wholeWithin 64 = .ok (.aload_n 0, 1) := by decide +kernel
theorem dX6_wholeWithin_65 : decode cX6_wholeWithin 65 = .ok (.iload 5, 2) := by decide +kernel
theorem dX6_wholeWithin_67 : decode cX6_wholeWithin 67 = .ok (.iaload, 1) := by decide +kernel
theorem dX6_wholeWithin_68 : decode cX6_wholeWithin 68 = .ok (.aload_n 0, 1) := by decide +kernel
theorem dX6_wholeWithin_69 : decode cX6_wholeWithin 69 = .ok (.iload 5, 2) := by decide +kernel
theorem dX6_wholeWithin_71 : decode cX6_wholeWithin 71 = .ok (.iconst 1, 1) := by decide +kernel
theorem dX6_wholeWithin_72 : decode cX6_wholeWithin 72 = .ok (.iadd, 1) := by decide +kernel
theorem dX6_wholeWithin_73 : decode cX6_wholeWithin 73 = .ok (.iaload, 1) := by decide +kernel
theorem dX6_wholeWithin_74 : decode cX6_wholeWithin 74 = .ok (.if_icmp .eq 7, 3) := by decide +kernel
theorem dX6_wholeWithin_77 : decode cX6_wholeWithin 77 = .ok (.iconst 1, 1) := by decide +kernel
theorem dX6_wholeWithin_78 : decode cX6_wholeWithin 78 = .ok (.goto 4, 3) := by decide +kernel
theorem dX6_wholeWithin_81 : decode cX6_wholeWithin 81 = .ok (.iconst 0, 1) := by decide +kernel
theorem dX6_wholeWithin_82 : decode cX6_wholeWithin 82 = .ok (.istore 6, 2) := by decide +kernel
theorem dX6_wholeWithin_84 : decode cX6_wholeWithin 84 = .ok (.iload 4, 2) := by decide +kernel
theorem dX6_wholeWithin_86 : decode cX6_wholeWithin 86 = .ok (.ifCond .eq 11, 3) := by decide +kernel
theorem dX6_wholeWithin_89 : decode cX6_wholeWithin 89 = .ok (.iload 6, 2) := by decide +kernel
theorem dX6_wholeWithin_91 : decode cX6_wholeWithin 91 = .ok (.ifCond .eq 6, 3) := by decide +kernel
theorem dX6_wholeWithin_94 : decode cX6_wholeWithin 94 = .ok (.iinc 3 1, 3) := by decide +kernel
theorem dX6_wholeWithin_97 : decode cX6_wholeWithin 97 = .ok (.iinc 5 1, 3) := by decide +kernel
theorem dX6_wholeWithin_100 : decode cX6_wholeWithin 100 = .ok (.goto (-88), 3) := by decide +kernel
theorem dX6_wholeWithin_103 : decode cX6_wholeWithin 103 = .ok (.iload_n 3, 1) := by decide +kernel
theorem dX6_wholeWithin_104 : decode cX6_wholeWithin 104 = .ok (.ireturn, 1) := by decide +kernel
set_option maxRecDepth 20000 in
theorem ggX7_init_X5_init : GoodIn wsX7_init wsX5_init := goodIn_r _ [3, 4, 5, 6] (by decide +kernel) (by decide +kernel)
set_option maxRecDepth 20000 in
theorem gX7_init_X5_init_n1 : GoodIn wsX7_init (wsX5_init) := ggX7_init_X5_init
theorem dX7_init_0 : decode cX7_init 0 = .ok (.aload_n 0, 1) := by decide +kernel
theorem dX7_init_1 : decode cX7_init 1 = .ok (.invokespecial 1, 3) := by decide +kernel
theorem dX7_init_4 : decode cX7_init 4 = .ok (.return_, 1) := by decide +kernel
set_option maxRecDepth 20000 in
theorem ggX7_burnsFor_X5_burnsFor : GoodIn wsX7_burnsFor wsX5_burnsFor := goodIn_r _ [6] (by decide +kernel) (by decide +kernel)
set_option maxRecDepth 20000 in
theorem gX7_burnsFor_X5_burnsFor_s7 : GoodIn wsX7_burnsFor (va_wsSU RX7 7 yX5_burnsFor wsX5_burnsFor) := goodIn_app (goodIn_of _ (by decide +kernel)) ggX7_burnsFor_X5_burnsFor
theorem dX7_burnsFor_0 : decode cX7_burnsFor 0 = .ok (.aload_n 0, 1) := by decide +kernel
theorem dX7_burnsFor_1 : decode cX7_burnsFor 1 = .ok (.iload_n 1, 1) := by decide +kernel
theorem dX7_burnsFor_2 : decode cX7_burnsFor 2 = .ok (.invokespecial 7, 3) := by decide +kernel
theorem dX7_burnsFor_5 : decode cX7_burnsFor 5 = .ok (.iconst 1, 1) := by decide +kernel
theorem dX7_burnsFor_6 : decode cX7_burnsFor 6 = .ok (.iadd, 1) := by decide +kernel
theorem dX7_burnsFor_7 : decode cX7_burnsFor 7 = .ok (.iconst 2, 1) := by decide +kernel
theorem dX7_burnsFor_8 : decode cX7_burnsFor 8 = .ok (.idiv, 1) := by decide +kernel
theorem dX7_burnsFor_9 : decode cX7_burnsFor 9 = .ok (.ireturn, 1) := by decide +kernel
set_option maxRecDepth 20000 in
theorem ggX7_own_X5_own : GoodIn wsX7_own wsX5_own := goodIn_r _ [6] (by decide +kernel) (by decide +kernel)
set_option maxRecDepth 20000 in
theorem gX7_own_X5_own_s11 : GoodIn wsX7_own (va_wsSU RX7 11 yX5_own wsX5_own) := goodIn_app (goodIn_of _ (by decide +kernel)) ggX7_own_X5_own
theorem dX7_own_0 : decode cX7_own 0 = .ok (.aload_n 0, 1) := by decide +kernel
theorem dX7_own_1 : decode cX7_own 1 = .ok (.iload_n 1, 1) := by decide +kernel
theorem dX7_own_2 : decode cX7_own 2 = .ok (.iconst 2, 1) := by decide +kernel
theorem dX7_own_3 : decode cX7_own 3 = .ok (.iload_n 2, 1) := by decide +kernel
theorem dX7_own_4 : decode cX7_own 4 = .ok (.imul, 1) := by decide +kernel
theorem dX7_own_5 : decode cX7_own 5 = .ok (.invokespecial 11, 3) := by decide +kernel
theorem dX7_own_8 : decode cX7_own 8 = .ok (.ireturn, 1) := by decide +kernel
set_option maxRecDepth 20000 in
theorem ggX8_init_X3_init : GoodIn wsX8_init wsX3_init := goodIn_r _ [3, 4, 5, 6, 7, 8, 9] (by decide +kernel) (by decide +kernel)
set_option maxRecDepth 20000 in
theorem gX8_init_X3_init_n3 : GoodIn wsX8_init (wsX3_init) := ggX8_init_X3_init
theorem dX8_init_0 : decode cX8_init 0 = .ok (.aload_n 0, 1) := by decide +kernel
theorem dX8_init_1 : decode cX8_init 1 = .ok (.invokespecial 3, 3) := by decide +kernel
theorem dX8_init_4 : decode cX8_init 4 = .ok (.return_, 1) := by decide +kernel
set_option maxRecDepth 20000 in
theorem ggX8_own_X3_own : GoodIn wsX8_own wsX3_own := goodIn_r _ [6, 7, 8, 9, 10, 11, 12] (by decide +kernel) (by decide +kernel)
set_option maxRecDepth 20000 in
theorem gX8_own_X3_own_s9 : GoodIn wsX8_own (va_wsSU RX8 9 yX3_own wsX3_own) := goodIn_app (goodIn_of _ (by decide +kernel)) ggX8_own_X3_own
theorem dX8_own_0 : decode cX8_own 0 = .ok (.iload_n 2, 1) := by decide +kernel
theorem dX8_own_1 : decode cX8_own 1 = .ok (.iconst 2, 1) := by decide +kernel
theorem dX8_own_2 : decode cX8_own 2 = .ok (.irem, 1) := by decide +kernel
theorem dX8_own_3 : decode cX8_own 3 = .ok (.ifCond .ne 12, 3) := by decide +kernel
theorem dX8_own_6 : decode cX8_own 6 = .ok (.aload_n 0, 1) := by decide +kernel
theorem dX8_own_7 : decode cX8_own 7 = .ok (.iload_n 1, 1) := by decide +kernel
theorem dX8_own_8 : decode cX8_own 8 = .ok (.iload_n 2, 1) := by decide +kernel
theorem dX8_own_9 : decode cX8_own 9 = .ok (.invokespecial 9, 3) := by decide +kernel
theorem dX8_own_12 : decode cX8_own 12 = .ok (.goto 4, 3) := by decide +kernel
theorem dX8_own_15 : decode cX8_own 15 = .ok (.iconst (-1), 1) := by decide +kernel
theorem dX8_own_16 : decode cX8_own 16 = .ok (.ireturn, 1) := by decide +kernel
theorem dX9_init_0 : decode cX9_init 0 = .ok (.aload_n 0, 1) := by decide +kernel
theorem dX9_init_1 : decode cX9_init 1 = .ok (.invokespecial 3, 3) := by decide +kernel
theorem dX9_init_4 : decode cX9_init 4 = .ok (.aload_n 0, 1) := by decide +kernel
theorem dX9_init_5 : decode cX9_init 5 = .ok (.bipush 30, 2) := by decide +kernel
theorem dX9_init_7 : decode cX9_init 7 = .ok (.newarray .int, 2) := by decide +kernel
theorem dX9_init_9 : decode cX9_init 9 = .ok (.putfield 11, 3) := by decide +kernel
theorem dX9_init_12 : decode cX9_init 12 = .ok (.aload_n 0, 1) := by decide +kernel
theorem dX9_init_13 : decode cX9_init 13 = .ok (.iload_n 1, 1) := by decide +kernel
theorem dX9_init_14 : decode cX9_init 14 = .ok (.bipush 10, 2) := by decide +kernel
theorem dX9_init_16 : decode cX9_init 16 = .ok (.invokestatic 15, 3) := by decide +kernel
theorem dX9_init_19 : decode cX9_init 19 = .ok (.putfield 21, 3) := by decide +kernel
theorem dX9_init_22 : decode cX9_init 22 = .ok (.return_, 1) := by decide +kernel
theorem dX9_isFull_0 : decode cX9_isFull 0 = .ok (.aload_n 0, 1) := by decide +kernel
theorem dX9_isFull_1 : decode cX9_isFull 1 = .ok (.getfield 25, 3) := by decide +kernel
theorem dX9_isFull_4 : decode cX9_isFull 4 = .ok (.aload_n 0, 1) := by decide +kernel
theorem dX9_isFull_5 : decode cX9_isFull 5 = .ok (.getfield 21, 3) := by decide +kernel
theorem dX9_isFull_8 : decode cX9_isFull 8 = .ok (.if_icmp .lt 7, 3) := by decide +kernel
theorem dX9_isFull_11 : decode cX9_isFull 11 = .ok (.iconst 1, 1) := by decide +kernel
theorem dX9_isFull_12 : decode cX9_isFull 12 = .ok (.goto 4, 3) := by decide +kernel
theorem dX9_isFull_15 : decode cX9_isFull 15 = .ok (.iconst 0, 1) := by decide +kernel
theorem dX9_isFull_16 : decode cX9_isFull 16 = .ok (.ireturn, 1) := by decide +kernel
theorem dX9_at_0 : decode cX9_at 0 = .ok (.iload_n 1, 1) := by decide +kernel
theorem dX9_at_1 : decode cX9_at 1 = .ok (.ifCond .lt 26, 3) := by decide +kernel
theorem dX9_at_4 : decode cX9_at 4 = .ok (.iload_n 1, 1) := by decide +kernel
theorem dX9_at_5 : decode cX9_at 5 = .ok (.aload_n 0, 1) := by decide +kernel
theorem dX9_at_6 : decode cX9_at 6 = .ok (.getfield 25, 3) := by decide +kernel
theorem dX9_at_9 : decode cX9_at 9 = .ok (.if_icmp .ge 18, 3) := by decide +kernel
theorem dX9_at_12 : decode cX9_at 12 = .ok (.iload_n 1, 1) := by decide +kernel
theorem dX9_at_13 : decode cX9_at 13 = .ok (.bipush 10, 2) := by decide +kernel
theorem dX9_at_15 : decode cX9_at 15 = .ok (.if_icmp .ge 12, 3) := by decide +kernel
theorem dX9_at_18 : decode cX9_at 18 = .ok (.iload_n 2, 1) := by decide +kernel
theorem dX9_at_19 : decode cX9_at 19 = .ok (.ifCond .lt 8, 3) := by decide +kernel
theorem dX9_at_22 : decode cX9_at 22 = .ok (.iload_n 2, 1) := by decide +kernel
theorem dX9_at_23 : decode cX9_at 23 = .ok (.iconst 3, 1) := by decide +kernel
theorem dX9_at_24 : decode cX9_at 24 = .ok (.if_icmp .lt 5, 3) := by decide +kernel
theorem dX9_at_27 : decode cX9_at 27 = .ok (.iconst (-1), 1) := by decide +kernel
theorem dX9_at_28 : decode cX9_at 28 = .ok (.ireturn, 1) := by decide +kernel
theorem dX9_at_29 : decode cX9_at 29 = .ok (.aload_n 0, 1) := by decide +kernel
theorem dX9_at_30 : decode cX9_at 30 = .ok (.getfield 11, 3) := by decide +kernel
theorem dX9_at_33 : decode cX9_at 33 = .ok (.iload_n 1, 1) := by decide +kernel
theorem dX9_at_34 : decode cX9_at 34 = .ok (.iconst 3, 1) := by decide +kernel
theorem dX9_at_35 : decode cX9_at 35 = .ok (.imul, 1) := by decide +kernel
theorem dX9_at_36 : decode cX9_at 36 = .ok (.iload_n 2, 1) := by decide +kernel
theorem dX9_at_37 : decode cX9_at 37 = .ok (.iadd, 1) := by decide +kernel
theorem dX9_at_38 : decode cX9_at 38 = .ok (.iaload, 1) := by decide +kernel
theorem dX9_at_39 : decode cX9_at 39 = .ok (.ireturn, 1) := by decide +kernel
set_option maxRecDepth 20000 in
theorem ggX9_add_X9_isFull : GoodIn wsX9_add wsX9_isFull := goodIn_r _ [7, 1, 8, 9, 10, 11] (by decide +kernel) (by decide +kernel)
set_option maxRecDepth 20000 in
theorem gX9_add_X9_isFull : GoodIn wsX9_add (wsV RX9 28 RX9 yX9_isFull wsX9_isFull) := goodIn_app (goodIn_of _ (by decide +kernel)) ggX9_add_X9_isFull
theorem dX9_add_0 : decode cX9_add 0 = .ok (.aload_n 0, 1) := by decide +kernel
theorem dX9_add_1 : decode cX9_add 1 = .ok (.invokevirtual 28, 3) := by decide +kernel
theorem dX9_add_4 : decode cX9_add 4 = .ok (.ifCond .eq 6, 3) := by decide +kernel
theorem dX9_add_7 : decode cX9_add 7 = .ok (.bipush (-4), 2) := by decide +kernel
theorem dX9_add_9 : decode cX9_add 9 = .ok (.ireturn, 1) := by decide +kernel
theorem dX9_add_10 : decode cX9_add 10 = .ok (.aload_n 0, 1) := by decide +kernel
theorem dX9_add_11 : decode cX9_add 11 = .ok (.getfield 25, 3) := by decide +kernel
theorem dX9_add_14 : decode cX9_add 14 = .ok (.iconst 3, 1) := by decide +kernel
theorem dX9_add_15 : decode cX9_add 15 = .ok (.imul, 1) := by decide +kernel
theorem dX9_add_16 : decode cX9_add 16 = .ok (.istore 4, 2) := by decide +kernel
theorem dX9_add_18 : decode cX9_add 18 = .ok (.aload_n 0, 1) := by decide +kernel
theorem dX9_add_19 : decode cX9_add 19 = .ok (.getfield 11, 3) := by decide +kernel
theorem dX9_add_22 : decode cX9_add 22 = .ok (.iload 4, 2) := by decide +kernel
theorem dX9_add_24 : decode cX9_add 24 = .ok (.iload_n 1, 1) := by decide +kernel
theorem dX9_add_25 : decode cX9_add 25 = .ok (.iastore, 1) := by decide +kernel
theorem dX9_add_26 : decode cX9_add 26 = .ok (.aload_n 0, 1) := by decide +kernel
theorem dX9_add_27 : decode cX9_add 27 = .ok (.getfield 11, 3) := by decide +kernel
theorem dX9_add_30 : decode cX9_add 30 = .ok (.iload 4, 2) := by decide +kernel
theorem dX9_add_32 : decode cX9_add 32 = .ok (.iconst 1, 1) := by decide +kernel
theorem dX9_add_33 : decode cX9_add 33 = .ok (.iadd, 1) := by decide +kernel
theorem dX9_add_34 : decode cX9_add 34 = .ok (.iload_n 2, 1) := by decide +kernel
theorem dX9_add_35 : decode cX9_add 35 = .ok (.iastore, 1) := by decide +kernel
theorem dX9_add_36 : decode cX9_add 36 = .ok (.aload_n 0, 1) := by decide +kernel
theorem dX9_add_37 : decode cX9_add 37 = .ok (.getfield 11, 3) := by decide +kernel
theorem dX9_add_40 : decode cX9_add 40 = .ok (.iload 4, 2) := by decide +kernel
theorem dX9_add_42 : decode cX9_add 42 = .ok (.iconst 2, 1) := by decide +kernel
theorem dX9_add_43 : decode cX9_add 43 = .ok (.iadd, 1) := by decide +kernel
theorem dX9_add_44 : decode cX9_add 44 = .ok (.iload_n 3, 1) := by decide +kernel
theorem dX9_add_45 : decode cX9_add 45 = .ok (.iastore, 1) := by decide +kernel
theorem dX9_add_46 : decode cX9_add 46 = .ok (.aload_n 0, 1) := by decide +kernel
theorem dX9_add_47 : decode cX9_add 47 = .ok (.dup, 1) := by decide +kernel
theorem dX9_add_48 : decode cX9_add 48 = .ok (.getfield 25, 3) := by decide +kernel
theorem dX9_add_51 : decode cX9_add 51 = .ok (.iconst 1, 1) := by decide +kernel
theorem dX9_add_52 : decode cX9_add 52 = .ok (.iadd, 1) := by decide +kernel
theorem dX9_add_53 : decode cX9_add 53 = .ok (.putfield 25, 3) := by decide +kernel
theorem dX9_add_56 : decode cX9_add 56 = .ok (.aload_n 0, 1) := by decide +kernel
theorem dX9_add_57 : decode cX9_add 57 = .ok (.getfield 25, 3) := by decide +kernel
theorem dX9_add_60 : decode cX9_add 60 = .ok (.ireturn, 1) := by decide +kernel
theorem dX9_dropLast_0 : decode cX9_dropLast 0 = .ok (.aload_n 0, 1) := by decide +kernel
theorem dX9_dropLast_1 : decode cX9_dropLast 1 = .ok (.getfield 25, 3) := by decide +kernel
theorem dX9_dropLast_4 : decode cX9_dropLast 4 = .ok (.ifCond .le 13, 3) := by decide +kernel
theorem dX9_dropLast_7 : decode cX9_dropLast 7 = .ok (.aload_n 0, 1) := by decide +kernel
theorem dX9_dropLast_8 : decode cX9_dropLast 8 = .ok (.dup, 1) := by decide +kernel
theorem dX9_dropLast_9 : decode cX9_dropLast 9 = .ok (.getfield 25, 3) := by decide +kernel
theorem dX9_dropLast_12 : decode cX9_dropLast 12 = .ok (.iconst 1, 1) := by decide +kernel
theorem dX9_dropLast_13 : decode cX9_dropLast 13 = .ok (.isub, 1) := by decide +kernel
theorem dX9_dropLast_14 : decode cX9_dropLast 14 = .ok (.putfield 25, 3) := by decide +kernel
theorem dX9_dropLast_17 : decode cX9_dropLast 17 = .ok (.return_, 1) := by decide +kernel
theorem dX9_empty_0 : decode cX9_empty 0 = .ok (.aload_n 0, 1) := by decide +kernel
theorem dX9_empty_1 : decode cX9_empty 1 = .ok (.getfield 25, 3) := by decide +kernel
theorem dX9_empty_4 : decode cX9_empty 4 = .ok (.istore_n 1, 1) := by decide +kernel
theorem dX9_empty_5 : decode cX9_empty 5 = .ok (.aload_n 0, 1) := by decide +kernel
theorem dX9_empty_6 : decode cX9_empty 6 = .ok (.iconst 0, 1) := by decide +kernel
theorem dX9_empty_7 : decode cX9_empty 7 = .ok (.putfield 25, 3) := by decide +kernel
theorem dX9_empty_10 : decode cX9_empty 10 = .ok (.iload_n 1, 1) := by decide +kernel
theorem dX9_empty_11 : decode cX9_empty 11 = .ok (.ireturn, 1) := by decide +kernel
theorem dX9_copyRows_0 : decode cX9_copyRows 0 = .ok (.aload_n 1, 1) := by decide +kernel
theorem dX9_copyRows_1 : decode cX9_copyRows 1 = .ok (.getfield 11, 3) := by decide +kernel
theorem dX9_copyRows_4 : decode cX9_copyRows 4 = .ok (.iconst 0, 1) := by decide +kernel
theorem dX9_copyRows_5 : decode cX9_copyRows 5 = .ok (.aload_n 0, 1) := by decide +kernel
theorem dX9_copyRows_6 : decode cX9_copyRows 6 = .ok (.getfield 11, 3) := by decide +kernel
theorem dX9_copyRows_9 : decode cX9_copyRows 9 = .ok (.iconst 0, 1) := by decide +kernel
theorem dX9_copyRows_10 : decode cX9_copyRows 10 = .ok (.aload_n 0, 1) := by decide +kernel
theorem dX9_copyRows_11 : decode cX9_copyRows 11 = .ok (.getfield 11, 3) := by decide +kernel
theorem dX9_copyRows_14 : decode cX9_copyRows 14 = .ok (.arraylength, 1) := by decide +kernel
theorem dX9_copyRows_15 : decode cX9_copyRows 15 = .ok (.invokestatic 32, 3) := by decide +kernel
theorem dX9_copyRows_18 : decode cX9_copyRows 18 = .ok (.aload_n 0, 1) := by decide +kernel
theorem dX9_copyRows_19 : decode cX9_copyRows 19 = .ok (.aload_n 1, 1) := by decide +kernel
theorem dX9_copyRows_20 : decode cX9_copyRows 20 = .ok (.getfield 25, 3) := by decide +kernel
theorem dX9_copyRows_23 : decode cX9_copyRows 23 = .ok (.aload_n 0, 1) := by decide +kernel
theorem dX9_copyRows_24 : decode cX9_copyRows 24 = .ok (.getfield 21, 3) := by decide +kernel
theorem dX9_copyRows_27 : decode cX9_copyRows 27 = .ok (.invokestatic 15, 3) := by decide +kernel
theorem dX9_copyRows_30 : decode cX9_copyRows 30 = .ok (.putfield 25, 3) := by decide +kernel
theorem dX9_copyRows_33 : decode cX9_copyRows 33 = .ok (.return_, 1) := by decide +kernel
set_option maxRecDepth 20000 in
theorem ggX9_mixedRows_X9_at : GoodIn wsX9_mixedRows wsX9_at := goodIn_r _ [6, 1, 7, 12, 13, 14] (by decide +kernel) (by decide +kernel)
set_option maxRecDepth 20000 in
theorem gX9_mixedRows_X9_at : GoodIn wsX9_mixedRows (wsV RX9 38 RX9 yX9_at wsX9_at) := goodIn_app (goodIn_of _ (by decide +kernel)) ggX9_mixedRows_X9_at
set_option maxRecDepth 20000 in
theorem ggX9_mixedRows_X11_mixed : GoodIn wsX9_mixedRows wsX11_mixed := goodIn_r _ [10, 11] (by decide +kernel) (by decide +kernel)
set_option maxRecDepth 20000 in
theorem gX9_mixedRows_X11_mixed_n41 : GoodIn wsX9_mixedRows (wsX11_mixed) := ggX9_mixedRows_X11_mixed
theorem dX9_mixedRows_0 : decode cX9_mixedRows 0 = .ok (.lload_n 1, 1) := by decide +kernel
theorem dX9_mixedRows_1 : decode cX9_mixedRows 1 = .ok (.lstore 4, 2) := by decide +kernel
theorem dX9_mixedRows_3 : decode cX9_mixedRows 3 = .ok (.iconst 0, 1) := by decide +kernel
theorem dX9_mixedRows_4 : decode cX9_mixedRows 4 = .ok (.istore 6, 2) := by decide +kernel
theorem dX9_mixedRows_6 : decode cX9_mixedRows 6 = .ok (.iload 6, 2) := by decide +kernel
theorem dX9_mixedRows_8 : decode cX9_mixedRows 8 = .ok (.aload_n 0, 1) := by decide +kernel
theorem dX9_mixedRows_9 : decode cX9_mixedRows 9 = .ok (.getfield 25, 3) := by decide +kernel
theorem dX9_mixedRows_12 : decode cX9_mixedRows 12 = .ok (.if_icmp .ge 40, 3) := by decide +kernel
theorem dX9_mixedRows_15 : decode cX9_mixedRows 15 = .ok (.iconst 0, 1) := by decide +kernel
theorem dX9_mixedRows_16 : decode cX9_mixedRows 16 = .ok (.istore 7, 2) := by decide +kernel
theorem dX9_mixedRows_18 : decode cX9_mixedRows 18 = .ok (.iload 7, 2) := by decide +kernel
theorem dX9_mixedRows_20 : decode cX9_mixedRows 20 = .ok (.iload_n 3, 1) := by decide +kernel
theorem dX9_mixedRows_21 : decode cX9_mixedRows 21 = .ok (.if_icmp .ge 25, 3) := by decide +kernel
theorem dX9_mixedRows_24 : decode cX9_mixedRows 24 = .ok (.lload 4, 2) := by decide +kernel
theorem dX9_mixedRows_26 : decode cX9_mixedRows 26 = .ok (.aload_n 0, 1) := by decide +kernel
theorem dX9_mixedRows_27 : decode cX9_mixedRows 27 = .ok (.iload 6, 2) := by decide +kernel
theorem dX9_mixedRows_29 : decode cX9_mixedRows 29 = .ok (.iload 7, 2) := by decide +kernel
theorem dX9_mixedRows_31 : decode cX9_mixedRows 31 = .ok (.invokevirtual 38, 3) := by decide +kernel
theorem dX9_mixedRows_34 : decode cX9_mixedRows 34 = .ok (.i2l, 1) := by decide +kernel
theorem dX9_mixedRows_35 : decode cX9_mixedRows 35 = .ok (.invokestatic 41, 3) := by decide +kernel
theorem dX9_mixedRows_38 : decode cX9_mixedRows 38 = .ok (.lstore 4, 2) := by decide +kernel
theorem dX9_mixedRows_40 : decode cX9_mixedRows 40 = .ok (.iinc 7 1, 3) := by decide +kernel
theorem dX9_mixedRows_43 : decode cX9_mixedRows 43 = .ok (.goto (-25), 3) := by decide +kernel
theorem dX9_mixedRows_46 : decode cX9_mixedRows 46 = .ok (.iinc 6 1, 3) := by decide +kernel
theorem dX9_mixedRows_49 : decode cX9_mixedRows 49 = .ok (.goto (-43), 3) := by decide +kernel
theorem dX9_mixedRows_52 : decode cX9_mixedRows 52 = .ok (.lload 4, 2) := by decide +kernel
theorem dX9_mixedRows_54 : decode cX9_mixedRows 54 = .ok (.lreturn, 1) := by decide +kernel
