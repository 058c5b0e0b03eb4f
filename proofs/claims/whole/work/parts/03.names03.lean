theorem dX10_init_0 : decode cX10_init 0 = .ok (.aload_n 0, 1) := by decide +kernel
theorem dX10_init_1 : decode cX10_init 1 = .ok (.invokespecial 3, 3) := by decide +kernel
theorem dX10_init_4 : decode cX10_init 4 = .ok (.aload_n 0, 1) := by decide +kernel
theorem dX10_init_5 : decode cX10_init 5 = .ok (.sipush 150, 3) := by decide +kernel
theorem dX10_init_8 : decode cX10_init 8 = .ok (.newarray .byte, 2) := by decide +kernel
theorem dX10_init_10 : decode cX10_init 10 = .ok (.putfield 11, 3) := by decide +kernel
theorem dX10_init_13 : decode cX10_init 13 = .ok (.aload_n 0, 1) := by decide +kernel
theorem dX10_init_14 : decode cX10_init 14 = .ok (.iconst 3, 1) := by decide +kernel
theorem dX10_init_15 : decode cX10_init 15 = .ok (.newarray .int, 2) := by decide +kernel
theorem dX10_init_17 : decode cX10_init 17 = .ok (.putfield 15, 3) := by decide +kernel
theorem dX10_init_20 : decode cX10_init 20 = .ok (.return_, 1) := by decide +kernel
set_option maxRecDepth 20000 in
theorem ggX10_append_X11_within : GoodIn wsX10_append wsX11_within := goodIn_r _ [5] (by decide +kernel) (by decide +kernel)
set_option maxRecDepth 20000 in
theorem gX10_append_X11_within_n19 : GoodIn wsX10_append (wsX11_within) := ggX10_append_X11_within
theorem dX10_append_0 : decode cX10_append 0 = .ok (.iload_n 1, 1) := by decide +kernel
theorem dX10_append_1 : decode cX10_append 1 = .ok (.iconst 0, 1) := by decide +kernel
theorem dX10_append_2 : decode cX10_append 2 = .ok (.bipush 127, 2) := by decide +kernel
theorem dX10_append_4 : decode cX10_append 4 = .ok (.invokestatic 19, 3) := by decide +kernel
theorem dX10_append_7 : decode cX10_append 7 = .ok (.ifCond .ne 6, 3) := by decide +kernel
theorem dX10_append_10 : decode cX10_append 10 = .ok (.bipush (-2), 2) := by decide +kernel
theorem dX10_append_12 : decode cX10_append 12 = .ok (.ireturn, 1) := by decide +kernel
theorem dX10_append_13 : decode cX10_append 13 = .ok (.aload_n 0, 1) := by decide +kernel
theorem dX10_append_14 : decode cX10_append 14 = .ok (.getfield 23, 3) := by decide +kernel
theorem dX10_append_17 : decode cX10_append 17 = .ok (.sipush 150, 3) := by decide +kernel
theorem dX10_append_20 : decode cX10_append 20 = .ok (.if_icmp .lt 6, 3) := by decide +kernel
theorem dX10_append_23 : decode cX10_append 23 = .ok (.bipush (-4), 2) := by decide +kernel
theorem dX10_append_25 : decode cX10_append 25 = .ok (.ireturn, 1) := by decide +kernel
theorem dX10_append_26 : decode cX10_append 26 = .ok (.aload_n 0, 1) := by decide +kernel
theorem dX10_append_27 : decode cX10_append 27 = .ok (.getfield 11, 3) := by decide +kernel
theorem dX10_append_30 : decode cX10_append 30 = .ok (.aload_n 0, 1) := by decide +kernel
theorem dX10_append_31 : decode cX10_append 31 = .ok (.getfield 23, 3) := by decide +kernel
theorem dX10_append_34 : decode cX10_append 34 = .ok (.iload_n 1, 1) := by decide +kernel
theorem dX10_append_35 : decode cX10_append 35 = .ok (.i2b, 1) := by decide +kernel
theorem dX10_append_36 : decode cX10_append 36 = .ok (.bastore, 1) := by decide +kernel
theorem dX10_append_37 : decode cX10_append 37 = .ok (.aload_n 0, 1) := by decide +kernel
theorem dX10_append_38 : decode cX10_append 38 = .ok (.dup, 1) := by decide +kernel
theorem dX10_append_39 : decode cX10_append 39 = .ok (.getfield 23, 3) := by decide +kernel
theorem dX10_append_42 : decode cX10_append 42 = .ok (.iconst 1, 1) := by decide +kernel
theorem dX10_append_43 : decode cX10_append 43 = .ok (.iadd, 1) := by decide +kernel
theorem dX10_append_44 : decode cX10_append 44 = .ok (.putfield 23, 3) := by decide +kernel
theorem dX10_append_47 : decode cX10_append 47 = .ok (.aload_n 0, 1) := by decide +kernel
theorem dX10_append_48 : decode cX10_append 48 = .ok (.getfield 23, 3) := by decide +kernel
theorem dX10_append_51 : decode cX10_append 51 = .ok (.ireturn, 1) := by decide +kernel
theorem dX10_empty_0 : decode cX10_empty 0 = .ok (.aload_n 0, 1) := by decide +kernel
theorem dX10_empty_1 : decode cX10_empty 1 = .ok (.getfield 23, 3) := by decide +kernel
theorem dX10_empty_4 : decode cX10_empty 4 = .ok (.istore_n 1, 1) := by decide +kernel
theorem dX10_empty_5 : decode cX10_empty 5 = .ok (.aload_n 0, 1) := by decide +kernel
theorem dX10_empty_6 : decode cX10_empty 6 = .ok (.iconst 0, 1) := by decide +kernel
theorem dX10_empty_7 : decode cX10_empty 7 = .ok (.putfield 23, 3) := by decide +kernel
theorem dX10_empty_10 : decode cX10_empty 10 = .ok (.iload_n 1, 1) := by decide +kernel
theorem dX10_empty_11 : decode cX10_empty 11 = .ok (.ireturn, 1) := by decide +kernel
set_option maxRecDepth 20000 in
theorem ggX10_tell_X4_reset : GoodIn wsX10_tell wsX4_reset := goodIn_r _ [7, 8, 9, 10, 11, 12, 13, 14, 15, 16, 17, 18, 19, 20, 21, 22, 23, 24, 25, 26, 27, 28, 6, 29, 30, 31, 32, 163, 164, 165, 166, 167, 168, 169, 170, 171, 172, 173, 174, 175, 176, 177, 178] (by decide +kernel) (by decide +kernel)
set_option maxRecDepth 20000 in
theorem gX10_tell_X4_reset : GoodIn wsX10_tell (wsV RX10 27 RX4 yX4_reset wsX4_reset) := goodIn_app (goodIn_of _ (by decide +kernel)) ggX10_tell_X4_reset
set_option maxRecDepth 20000 in
theorem ggX10_tell_X10_nextToken : GoodIn wsX10_tell wsX10_nextToken := goodIn_r _ [37, 1, 38, 2, 39, 40, 41, 36, 42, 43, 44, 45, 46, 47, 48, 49, 50, 51, 52, 53, 54, 55, 56, 57, 58, 59, 157, 158, 159, 160, 161, 162] (by decide +kernel) (by decide +kernel)
set_option maxRecDepth 20000 in
theorem gX10_tell_X10_nextToken : GoodIn wsX10_tell (wsV RX10 35 RX10 yX10_nextToken wsX10_nextToken) := goodIn_app (goodIn_of _ (by decide +kernel)) ggX10_tell_X10_nextToken
set_option maxRecDepth 20000 in
theorem ggX10_tell_X10_wordHere : GoodIn wsX10_tell wsX10_wordHere := goodIn_r _ [63, 64, 65, 66, 36, 67, 1, 2, 68, 69, 70, 71, 72, 73, 74, 75, 76, 77, 78, 79, 39, 40, 41, 42, 38, 43, 80, 81, 82, 83, 84, 85, 86, 87, 88, 89, 90, 91, 92, 93, 94, 95, 96, 97, 98, 99, 100, 101, 102, 103, 104, 105, 106, 107, 108, 109, 110, 111, 112, 113, 114, 115, 116, 157, 158, 159, 160, 161, 162] (by decide +kernel) (by decide +kernel)
set_option maxRecDepth 20000 in
theorem gX10_tell_X10_wordHere : GoodIn wsX10_tell (wsV RX10 39 RX10 yX10_wordHere wsX10_wordHere) := goodIn_app (goodIn_of _ (by decide +kernel)) ggX10_tell_X10_wordHere
set_option maxRecDepth 20000 in
theorem ggX10_tell_X10_takeItem : GoodIn wsX10_tell wsX10_takeItem := goodIn_r _ [120, 121, 122, 59, 33, 34, 35, 36, 37, 1, 38, 2, 39, 40, 41, 42, 43, 44, 45, 46, 47, 48, 49, 50, 51, 52, 53, 54, 55, 56, 57, 58, 157, 158, 159, 160, 161, 162] (by decide +kernel) (by decide +kernel)
set_option maxRecDepth 20000 in
theorem gX10_tell_X10_takeItem : GoodIn wsX10_tell (wsV RX10 42 RX10 yX10_takeItem wsX10_takeItem) := goodIn_app (goodIn_of _ (by decide +kernel)) ggX10_tell_X10_takeItem
set_option maxRecDepth 20000 in
theorem ggX10_tell_X10_apply : GoodIn wsX10_tell wsX10_apply := goodIn_r _ [126, 122, 127, 128, 129, 6, 130, 8, 131, 49, 132, 133, 48, 50, 134, 135, 136, 137, 138, 139, 9, 140, 141, 142, 143, 10, 11, 144, 145, 146, 147, 148, 23, 149, 25, 150, 20, 21, 22, 24, 151, 152, 153, 154, 155, 156, 157, 158, 159, 160, 161, 162, 163, 164, 165, 166, 167, 168, 169, 170, 171, 172, 173, 174, 175, 176, 177, 178] (by decide +kernel) (by decide +kernel)
set_option maxRecDepth 20000 in
theorem gX10_tell_X10_apply : GoodIn wsX10_tell (wsV RX10 49 RX10 yX10_apply wsX10_apply) := goodIn_app (goodIn_of _ (by decide +kernel)) ggX10_tell_X10_apply
theorem dX10_tell_0 : decode cX10_tell 0 = .ok (.aload_n 1, 1) := by decide +kernel
theorem dX10_tell_1 : decode cX10_tell 1 = .ok (.invokevirtual 27, 3) := by decide +kernel
theorem dX10_tell_4 : decode cX10_tell 4 = .ok (.aload_n 0, 1) := by decide +kernel
theorem dX10_tell_5 : decode cX10_tell 5 = .ok (.iconst 0, 1) := by decide +kernel
theorem dX10_tell_6 : decode cX10_tell 6 = .ok (.putfield 32, 3) := by decide +kernel
theorem dX10_tell_9 : decode cX10_tell 9 = .ok (.iconst 0, 1) := by decide +kernel
theorem dX10_tell_10 : decode cX10_tell 10 = .ok (.istore_n 2, 1) := by decide +kernel
theorem dX10_tell_11 : decode cX10_tell 11 = .ok (.iconst (-1), 1) := by decide +kernel
theorem dX10_tell_12 : decode cX10_tell 12 = .ok (.istore_n 3, 1) := by decide +kernel
theorem dX10_tell_13 : decode cX10_tell 13 = .ok (.iconst 0, 1) := by decide +kernel
theorem dX10_tell_14 : decode cX10_tell 14 = .ok (.istore 4, 2) := by decide +kernel
theorem dX10_tell_16 : decode cX10_tell 16 = .ok (.iload 4, 2) := by decide +kernel
theorem dX10_tell_18 : decode cX10_tell 18 = .ok (.sipush 150, 3) := by decide +kernel
theorem dX10_tell_21 : decode cX10_tell 21 = .ok (.if_icmp .gt 108, 3) := by decide +kernel
theorem dX10_tell_24 : decode cX10_tell 24 = .ok (.aload_n 0, 1) := by decide +kernel
theorem dX10_tell_25 : decode cX10_tell 25 = .ok (.invokevirtual 35, 3) := by decide +kernel
theorem dX10_tell_28 : decode cX10_tell 28 = .ok (.istore 5, 2) := by decide +kernel
theorem dX10_tell_30 : decode cX10_tell 30 = .ok (.iload 5, 2) := by decide +kernel
theorem dX10_tell_32 : decode cX10_tell 32 = .ok (.iconst 4, 1) := by decide +kernel
theorem dX10_tell_33 : decode cX10_tell 33 = .ok (.if_icmp .ne 10, 3) := by decide +kernel
theorem dX10_tell_36 : decode cX10_tell 36 = .ok (.iload_n 2, 1) := by decide +kernel
theorem dX10_tell_37 : decode cX10_tell 37 = .ok (.ifCond .le 6, 3) := by decide +kernel
theorem dX10_tell_40 : decode cX10_tell 40 = .ok (.goto 89, 3) := by decide +kernel
theorem dX10_tell_43 : decode cX10_tell 43 = .ok (.iload 5, 2) := by decide +kernel
theorem dX10_tell_45 : decode cX10_tell 45 = .ok (.ifCond .ne 10, 3) := by decide +kernel
theorem dX10_tell_48 : decode cX10_tell 48 = .ok (.aload_n 0, 1) := by decide +kernel
theorem dX10_tell_49 : decode cX10_tell 49 = .ok (.invokevirtual 39, 3) := by decide +kernel
theorem dX10_tell_52 : decode cX10_tell 52 = .ok (.goto 4, 3) := by decide +kernel
theorem dX10_tell_55 : decode cX10_tell 55 = .ok (.iconst (-1), 1) := by decide +kernel
theorem dX10_tell_56 : decode cX10_tell 56 = .ok (.istore 6, 2) := by decide +kernel
theorem dX10_tell_58 : decode cX10_tell 58 = .ok (.iload 6, 2) := by decide +kernel
theorem dX10_tell_60 : decode cX10_tell 60 = .ok (.iconst (-1), 1) := by decide +kernel
theorem dX10_tell_61 : decode cX10_tell 61 = .ok (.if_icmp .eq 34, 3) := by decide +kernel
theorem dX10_tell_64 : decode cX10_tell 64 = .ok (.iload 6, 2) := by decide +kernel
theorem dX10_tell_66 : decode cX10_tell 66 = .ok (.ifCond .ne 7, 3) := by decide +kernel
theorem dX10_tell_69 : decode cX10_tell 69 = .ok (.iconst 1, 1) := by decide +kernel
theorem dX10_tell_70 : decode cX10_tell 70 = .ok (.goto 4, 3) := by decide +kernel
theorem dX10_tell_73 : decode cX10_tell 73 = .ok (.iconst 0, 1) := by decide +kernel
theorem dX10_tell_74 : decode cX10_tell 74 = .ok (.iload_n 2, 1) := by decide +kernel
theorem dX10_tell_75 : decode cX10_tell 75 = .ok (.ifCond .ne 7, 3) := by decide +kernel
theorem dX10_tell_78 : decode cX10_tell 78 = .ok (.iconst 1, 1) := by decide +kernel
theorem dX10_tell_79 : decode cX10_tell 79 = .ok (.goto 4, 3) := by decide +kernel
theorem dX10_tell_82 : decode cX10_tell 82 = .ok (.iconst 0, 1) := by decide +kernel
theorem dX10_tell_83 : decode cX10_tell 83 = .ok (.if_icmp .ne 12, 3) := by decide +kernel
theorem dX10_tell_86 : decode cX10_tell 86 = .ok (.aload_n 0, 1) := by decide +kernel
theorem dX10_tell_87 : decode cX10_tell 87 = .ok (.iload 6, 2) := by decide +kernel
theorem dX10_tell_89 : decode cX10_tell 89 = .ok (.invokevirtual 42, 3) := by decide +kernel
theorem dX10_tell_92 : decode cX10_tell 92 = .ok (.ifCond .ne 11, 3) := by decide +kernel
theorem dX10_tell_95 : decode cX10_tell 95 = .ok (.bipush (-10), 2) := by decide +kernel
theorem dX10_tell_97 : decode cX10_tell 97 = .ok (.aload_n 0, 1) := by decide +kernel
theorem dX10_tell_98 : decode cX10_tell 98 = .ok (.getfield 46, 3) := by decide +kernel
theorem dX10_tell_101 : decode cX10_tell 101 = .ok (.isub, 1) := by decide +kernel
theorem dX10_tell_102 : decode cX10_tell 102 = .ok (.ireturn, 1) := by decide +kernel
theorem dX10_tell_103 : decode cX10_tell 103 = .ok (.iload_n 3, 1) := by decide +kernel
theorem dX10_tell_104 : decode cX10_tell 104 = .ok (.iconst (-1), 1) := by decide +kernel
theorem dX10_tell_105 : decode cX10_tell 105 = .ok (.if_icmp .ne 15, 3) := by decide +kernel
theorem dX10_tell_108 : decode cX10_tell 108 = .ok (.aload_n 0, 1) := by decide +kernel
theorem dX10_tell_109 : decode cX10_tell 109 = .ok (.aload_n 1, 1) := by decide +kernel
theorem dX10_tell_110 : decode cX10_tell 110 = .ok (.iload 6, 2) := by decide +kernel
theorem dX10_tell_112 : decode cX10_tell 112 = .ok (.invokevirtual 49, 3) := by decide +kernel
theorem dX10_tell_115 : decode cX10_tell 115 = .ok (.ifCond .ge 5, 3) := by decide +kernel
theorem dX10_tell_118 : decode cX10_tell 118 = .ok (.iload_n 2, 1) := by decide +kernel
theorem dX10_tell_119 : decode cX10_tell 119 = .ok (.istore_n 3, 1) := by decide +kernel
theorem dX10_tell_120 : decode cX10_tell 120 = .ok (.iinc 2 1, 3) := by decide +kernel
theorem dX10_tell_123 : decode cX10_tell 123 = .ok (.iinc 4 1, 3) := by decide +kernel
theorem dX10_tell_126 : decode cX10_tell 126 = .ok (.goto (-110), 3) := by decide +kernel
theorem dX10_tell_129 : decode cX10_tell 129 = .ok (.iload_n 3, 1) := by decide +kernel
theorem dX10_tell_130 : decode cX10_tell 130 = .ok (.iconst (-1), 1) := by decide +kernel
theorem dX10_tell_131 : decode cX10_tell 131 = .ok (.if_icmp .ne 7, 3) := by decide +kernel
theorem dX10_tell_134 : decode cX10_tell 134 = .ok (.iload_n 2, 1) := by decide +kernel
theorem dX10_tell_135 : decode cX10_tell 135 = .ok (.goto 8, 3) := by decide +kernel
theorem dX10_tell_138 : decode cX10_tell 138 = .ok (.sipush (-1000), 3) := by decide +kernel
theorem dX10_tell_141 : decode cX10_tell 141 = .ok (.iload_n 3, 1) := by decide +kernel
theorem dX10_tell_142 : decode cX10_tell 142 = .ok (.isub, 1) := by decide +kernel
theorem dX10_tell_143 : decode cX10_tell 143 = .ok (.ireturn, 1) := by decide +kernel
set_option maxRecDepth 20000 in
theorem ggX10_takeItem_X10_nextToken : GoodIn wsX10_takeItem wsX10_nextToken := goodIn_r _ [8, 9, 10, 11, 12, 13, 14, 7, 15, 16, 17, 18, 19, 20, 21, 22, 23, 24, 25, 26, 27, 28, 29, 30, 31, 3, 32, 33, 34, 35, 36, 37] (by decide +kernel) (by decide +kernel)
set_option maxRecDepth 20000 in
theorem gX10_takeItem_X10_nextToken : GoodIn wsX10_takeItem (wsV RX10 35 RX10 yX10_nextToken wsX10_nextToken) := goodIn_app (goodIn_of _ (by decide +kernel)) ggX10_takeItem_X10_nextToken
theorem dX10_takeItem_0 : decode cX10_takeItem 0 = .ok (.iload_n 1, 1) := by decide +kernel
theorem dX10_takeItem_1 : decode cX10_takeItem 1 = .ok (.ifCond .lt 11, 3) := by decide +kernel
theorem dX10_takeItem_4 : decode cX10_takeItem 4 = .ok (.iload_n 1, 1) := by decide +kernel
theorem dX10_takeItem_5 : decode cX10_takeItem 5 = .ok (.getstatic 53, 3) := by decide +kernel
theorem dX10_takeItem_8 : decode cX10_takeItem 8 = .ok (.arraylength, 1) := by decide +kernel
theorem dX10_takeItem_9 : decode cX10_takeItem 9 = .ok (.if_icmp .lt 5, 3) := by decide +kernel
theorem dX10_takeItem_12 : decode cX10_takeItem 12 = .ok (.iconst 0, 1) := by decide +kernel
theorem dX10_takeItem_13 : decode cX10_takeItem 13 = .ok (.ireturn, 1) := by decide +kernel
theorem dX10_takeItem_14 : decode cX10_takeItem 14 = .ok (.iconst 0, 1) := by decide +kernel
theorem dX10_takeItem_15 : decode cX10_takeItem 15 = .ok (.istore_n 2, 1) := by decide +kernel
theorem dX10_takeItem_16 : decode cX10_takeItem 16 = .ok (.iload_n 2, 1) := by decide +kernel
theorem dX10_takeItem_17 : decode cX10_takeItem 17 = .ok (.getstatic 53, 3) := by decide +kernel
theorem dX10_takeItem_20 : decode cX10_takeItem 20 = .ok (.iload_n 1, 1) := by decide +kernel
theorem dX10_takeItem_21 : decode cX10_takeItem 21 = .ok (.iaload, 1) := by decide +kernel
theorem dX10_takeItem_22 : decode cX10_takeItem 22 = .ok (.if_icmp .ge 38, 3) := by decide +kernel
theorem dX10_takeItem_25 : decode cX10_takeItem 25 = .ok (.iload_n 2, 1) := by decide +kernel
theorem dX10_takeItem_26 : decode cX10_takeItem 26 = .ok (.aload_n 0, 1) := by decide +kernel
theorem dX10_takeItem_27 : decode cX10_takeItem 27 = .ok (.getfield 15, 3) := by decide +kernel
theorem dX10_takeItem_30 : decode cX10_takeItem 30 = .ok (.arraylength, 1) := by decide +kernel
theorem dX10_takeItem_31 : decode cX10_takeItem 31 = .ok (.if_icmp .ge 29, 3) := by decide +kernel
theorem dX10_takeItem_34 : decode cX10_takeItem 34 = .ok (.aload_n 0, 1) := by decide +kernel
theorem dX10_takeItem_35 : decode cX10_takeItem 35 = .ok (.invokevirtual 35, 3) := by decide +kernel
theorem dX10_takeItem_38 : decode cX10_takeItem 38 = .ok (.iconst 1, 1) := by decide +kernel
theorem dX10_takeItem_39 : decode cX10_takeItem 39 = .ok (.if_icmp .eq 5, 3) := by decide +kernel
theorem dX10_takeItem_42 : decode cX10_takeItem 42 = .ok (.iconst 0, 1) := by decide +kernel
theorem dX10_takeItem_43 : decode cX10_takeItem 43 = .ok (.ireturn, 1) := by decide +kernel
theorem dX10_takeItem_44 : decode cX10_takeItem 44 = .ok (.aload_n 0, 1) := by decide +kernel
theorem dX10_takeItem_45 : decode cX10_takeItem 45 = .ok (.getfield 15, 3) := by decide +kernel
theorem dX10_takeItem_48 : decode cX10_takeItem 48 = .ok (.iload_n 2, 1) := by decide +kernel
theorem dX10_takeItem_49 : decode cX10_takeItem 49 = .ok (.aload_n 0, 1) := by decide +kernel
theorem dX10_takeItem_50 : decode cX10_takeItem 50 = .ok (.getfield 56, 3) := by decide +kernel
theorem dX10_takeItem_53 : decode cX10_takeItem 53 = .ok (.iastore, 1) := by decide +kernel
theorem dX10_takeItem_54 : decode cX10_takeItem 54 = .ok (.iinc 2 1, 3) := by decide +kernel
theorem dX10_takeItem_57 : decode cX10_takeItem 57 = .ok (.goto (-41), 3) := by decide +kernel
theorem dX10_takeItem_60 : decode cX10_takeItem 60 = .ok (.aload_n 0, 1) := by decide +kernel
theorem dX10_takeItem_61 : decode cX10_takeItem 61 = .ok (.invokevirtual 35, 3) := by decide +kernel
theorem dX10_takeItem_64 : decode cX10_takeItem 64 = .ok (.iconst 2, 1) := by decide +kernel
theorem dX10_takeItem_65 : decode cX10_takeItem 65 = .ok (.if_icmp .ne 7, 3) := by decide +kernel
theorem dX10_takeItem_68 : decode cX10_takeItem 68 = .ok (.iconst 1, 1) := by decide +kernel
theorem dX10_takeItem_69 : decode cX10_takeItem 69 = .ok (.goto 4, 3) := by decide +kernel
theorem dX10_takeItem_72 : decode cX10_takeItem 72 = .ok (.iconst 0, 1) := by decide +kernel
theorem dX10_takeItem_73 : decode cX10_takeItem 73 = .ok (.ireturn, 1) := by decide +kernel
set_option maxRecDepth 20000 in
theorem ggX10_apply_X4_setWeather : GoodIn wsX10_apply wsX4_setWeather := goodIn_r _ [6, 7, 8, 9, 10, 11, 12, 13, 14, 15, 52, 53, 54, 55, 56, 57, 58, 59, 60, 61, 62, 63, 64] (by decide +kernel) (by decide +kernel)
set_option maxRecDepth 20000 in
theorem gX10_apply_X4_setWeather : GoodIn wsX10_apply (wsV RX10 59 RX4 yX4_setWeather wsX4_setWeather) := goodIn_app (goodIn_of _ (by decide +kernel)) ggX10_apply_X4_setWeather
set_option maxRecDepth 20000 in
theorem ggX10_apply_X4_setPrice : GoodIn wsX10_apply wsX4_setPrice := goodIn_r _ [19, 20, 14, 9, 15, 11, 12, 13, 52, 53, 54, 55, 56, 57, 58, 59, 60, 61, 62, 63, 64] (by decide +kernel) (by decide +kernel)
set_option maxRecDepth 20000 in
theorem gX10_apply_X4_setPrice : GoodIn wsX10_apply (wsV RX10 63 RX4 yX4_setPrice wsX4_setPrice) := goodIn_app (goodIn_of _ (by decide +kernel)) ggX10_apply_X4_setPrice
set_option maxRecDepth 20000 in
theorem ggX10_apply_X4_addLump : GoodIn wsX10_apply wsX4_addLump := goodIn_r _ [24, 25, 26, 12, 9, 13, 27, 28, 11, 29, 30, 31, 32, 33, 34, 35, 36, 37, 38, 39, 40, 41, 42, 43, 44, 45, 52, 53, 54, 55, 56, 57, 58, 59, 60, 61, 62, 63, 64, 65, 66, 67] (by decide +kernel) (by decide +kernel)
set_option maxRecDepth 20000 in
theorem gX10_apply_X4_addLump : GoodIn wsX10_apply (wsV RX10 66 RX4 yX4_addLump wsX4_addLump) := goodIn_app (goodIn_of _ (by decide +kernel)) ggX10_apply_X4_addLump
theorem dX10_apply_0 : decode cX10_apply 0 = .ok (.iload_n 2, 1) := by decide +kernel
theorem dX10_apply_1 : decode cX10_apply 1 = .ok (.tableswitch 84 1 3 #[27, 44, 61], 27) := by decide +kernel
theorem dX10_apply_28 : decode cX10_apply 28 = .ok (.aload_n 1, 1) := by decide +kernel
theorem dX10_apply_29 : decode cX10_apply 29 = .ok (.aload_n 0, 1) := by decide +kernel
theorem dX10_apply_30 : decode cX10_apply 30 = .ok (.getfield 15, 3) := by decide +kernel
theorem dX10_apply_33 : decode cX10_apply 33 = .ok (.iconst 0, 1) := by decide +kernel
theorem dX10_apply_34 : decode cX10_apply 34 = .ok (.iaload, 1) := by decide +kernel
theorem dX10_apply_35 : decode cX10_apply 35 = .ok (.aload_n 0, 1) := by decide +kernel
theorem dX10_apply_36 : decode cX10_apply 36 = .ok (.getfield 15, 3) := by decide +kernel
theorem dX10_apply_39 : decode cX10_apply 39 = .ok (.iconst 1, 1) := by decide +kernel
theorem dX10_apply_40 : decode cX10_apply 40 = .ok (.iaload, 1) := by decide +kernel
theorem dX10_apply_41 : decode cX10_apply 41 = .ok (.invokevirtual 59, 3) := by decide +kernel
theorem dX10_apply_44 : decode cX10_apply 44 = .ok (.ireturn, 1) := by decide +kernel
theorem dX10_apply_45 : decode cX10_apply 45 = .ok (.aload_n 1, 1) := by decide +kernel
theorem dX10_apply_46 : decode cX10_apply 46 = .ok (.aload_n 0, 1) := by decide +kernel
theorem dX10_apply_47 : decode cX10_apply 47 = .ok (.getfield 15, 3) := by decide +kernel
theorem dX10_apply_50 : decode cX10_apply 50 = .ok (.iconst 0, 1) := by decide +kernel
theorem dX10_apply_51 : decode cX10_apply 51 = .ok (.iaload, 1) := by decide +kernel
theorem dX10_apply_52 : decode cX10_apply 52 = .ok (.aload_n 0, 1) := by decide +kernel
theorem dX10_apply_53 : decode cX10_apply 53 = .ok (.getfield 15, 3) := by decide +kernel
theorem dX10_apply_56 : decode cX10_apply 56 = .ok (.iconst 1, 1) := by decide +kernel
theorem dX10_apply_57 : decode cX10_apply 57 = .ok (.iaload, 1) := by decide +kernel
theorem dX10_apply_58 : decode cX10_apply 58 = .ok (.invokevirtual 63, 3) := by decide +kernel
theorem dX10_apply_61 : decode cX10_apply 61 = .ok (.ireturn, 1) := by decide +kernel
theorem dX10_apply_62 : decode cX10_apply 62 = .ok (.aload_n 1, 1) := by decide +kernel
theorem dX10_apply_63 : decode cX10_apply 63 = .ok (.aload_n 0, 1) := by decide +kernel
theorem dX10_apply_64 : decode cX10_apply 64 = .ok (.getfield 15, 3) := by decide +kernel
theorem dX10_apply_67 : decode cX10_apply 67 = .ok (.iconst 0, 1) := by decide +kernel
theorem dX10_apply_68 : decode cX10_apply 68 = .ok (.iaload, 1) := by decide +kernel
theorem dX10_apply_69 : decode cX10_apply 69 = .ok (.aload_n 0, 1) := by decide +kernel
theorem dX10_apply_70 : decode cX10_apply 70 = .ok (.getfield 15, 3) := by decide +kernel
theorem dX10_apply_73 : decode cX10_apply 73 = .ok (.iconst 1, 1) := by decide +kernel
theorem dX10_apply_74 : decode cX10_apply 74 = .ok (.iaload, 1) := by decide +kernel
theorem dX10_apply_75 : decode cX10_apply 75 = .ok (.aload_n 0, 1) := by decide +kernel
theorem dX10_apply_76 : decode cX10_apply 76 = .ok (.getfield 15, 3) := by decide +kernel
theorem dX10_apply_79 : decode cX10_apply 79 = .ok (.iconst 2, 1) := by decide +kernel
theorem dX10_apply_80 : decode cX10_apply 80 = .ok (.iaload, 1) := by decide +kernel
theorem dX10_apply_81 : decode cX10_apply 81 = .ok (.invokevirtual 66, 3) := by decide +kernel
theorem dX10_apply_84 : decode cX10_apply 84 = .ok (.ireturn, 1) := by decide +kernel
theorem dX10_apply_85 : decode cX10_apply 85 = .ok (.iconst 0, 1) := by decide +kernel
theorem dX10_apply_86 : decode cX10_apply 86 = .ok (.ireturn, 1) := by decide +kernel
theorem dX10_byteAt_0 : decode cX10_byteAt 0 = .ok (.iload_n 1, 1) := by decide +kernel
theorem dX10_byteAt_1 : decode cX10_byteAt 1 = .ok (.ifCond .lt 29, 3) := by decide +kernel
theorem dX10_byteAt_4 : decode cX10_byteAt 4 = .ok (.iload_n 1, 1) := by decide +kernel
theorem dX10_byteAt_5 : decode cX10_byteAt 5 = .ok (.aload_n 0, 1) := by decide +kernel
theorem dX10_byteAt_6 : decode cX10_byteAt 6 = .ok (.getfield 23, 3) := by decide +kernel
theorem dX10_byteAt_9 : decode cX10_byteAt 9 = .ok (.if_icmp .ge 21, 3) := by decide +kernel
theorem dX10_byteAt_12 : decode cX10_byteAt 12 = .ok (.iload_n 1, 1) := by decide +kernel
theorem dX10_byteAt_13 : decode cX10_byteAt 13 = .ok (.aload_n 0, 1) := by decide +kernel
theorem dX10_byteAt_14 : decode cX10_byteAt 14 = .ok (.getfield 11, 3) := by decide +kernel
theorem dX10_byteAt_17 : decode cX10_byteAt 17 = .ok (.arraylength, 1) := by decide +kernel
theorem dX10_byteAt_18 : decode cX10_byteAt 18 = .ok (.if_icmp .ge 12, 3) := by decide +kernel
theorem dX10_byteAt_21 : decode cX10_byteAt 21 = .ok (.aload_n 0, 1) := by decide +kernel
theorem dX10_byteAt_22 : decode cX10_byteAt 22 = .ok (.getfield 11, 3) := by decide +kernel
theorem dX10_byteAt_25 : decode cX10_byteAt 25 = .ok (.iload_n 1, 1) := by decide +kernel
theorem dX10_byteAt_26 : decode cX10_byteAt 26 = .ok (.baload, 1) := by decide +kernel
theorem dX10_byteAt_27 : decode cX10_byteAt 27 = .ok (.goto 4, 3) := by decide +kernel
theorem dX10_byteAt_30 : decode cX10_byteAt 30 = .ok (.iconst (-1), 1) := by decide +kernel
theorem dX10_byteAt_31 : decode cX10_byteAt 31 = .ok (.ireturn, 1) := by decide +kernel
set_option maxRecDepth 20000 in
theorem ggX10_isLetter_X10_byteAt : GoodIn wsX10_isLetter wsX10_byteAt := goodIn_r _ [5, 6, 7, 11, 12, 13, 14, 15, 16] (by decide +kernel) (by decide +kernel)
set_option maxRecDepth 20000 in
theorem gX10_isLetter_X10_byteAt : GoodIn wsX10_isLetter (wsV RX10 70 RX10 yX10_byteAt wsX10_byteAt) := goodIn_app (goodIn_of _ (by decide +kernel)) ggX10_isLetter_X10_byteAt
set_option maxRecDepth 20000 in
theorem ggX10_isLetter_X11_within : GoodIn wsX10_isLetter wsX11_within := goodIn_r _ [10] (by decide +kernel) (by decide +kernel)
set_option maxRecDepth 20000 in
theorem gX10_isLetter_X11_within_n19 : GoodIn wsX10_isLetter (wsX11_within) := ggX10_isLetter_X11_within
theorem dX10_isLetter_0 : decode cX10_isLetter 0 = .ok (.aload_n 0, 1) := by decide +kernel
theorem dX10_isLetter_1 : decode cX10_isLetter 1 = .ok (.iload_n 1, 1) := by decide +kernel
theorem dX10_isLetter_2 : decode cX10_isLetter 2 = .ok (.invokevirtual 70, 3) := by decide +kernel
theorem dX10_isLetter_5 : decode cX10_isLetter 5 = .ok (.bipush 97, 2) := by decide +kernel
theorem dX10_isLetter_7 : decode cX10_isLetter 7 = .ok (.bipush 122, 2) := by decide +kernel
theorem dX10_isLetter_9 : decode cX10_isLetter 9 = .ok (.invokestatic 19, 3) := by decide +kernel
theorem dX10_isLetter_12 : decode cX10_isLetter 12 = .ok (.ireturn, 1) := by decide +kernel
set_option maxRecDepth 20000 in
theorem ggX10_isFigure_X10_byteAt : GoodIn wsX10_isFigure wsX10_byteAt := goodIn_r _ [5, 6, 7, 11, 12, 13, 14, 15, 16] (by decide +kernel) (by decide +kernel)
set_option maxRecDepth 20000 in
theorem gX10_isFigure_X10_byteAt : GoodIn wsX10_isFigure (wsV RX10 70 RX10 yX10_byteAt wsX10_byteAt) := goodIn_app (goodIn_of _ (by decide +kernel)) ggX10_isFigure_X10_byteAt
set_option maxRecDepth 20000 in
theorem ggX10_isFigure_X11_within : GoodIn wsX10_isFigure wsX11_within := goodIn_r _ [10] (by decide +kernel) (by decide +kernel)
set_option maxRecDepth 20000 in
theorem gX10_isFigure_X11_within_n19 : GoodIn wsX10_isFigure (wsX11_within) := ggX10_isFigure_X11_within
theorem dX10_isFigure_0 : decode cX10_isFigure 0 = .ok (.aload_n 0, 1) := by decide +kernel
theorem dX10_isFigure_1 : decode cX10_isFigure 1 = .ok (.iload_n 1, 1) := by decide +kernel
theorem dX10_isFigure_2 : decode cX10_isFigure 2 = .ok (.invokevirtual 70, 3) := by decide +kernel
theorem dX10_isFigure_5 : decode cX10_isFigure 5 = .ok (.bipush 48, 2) := by decide +kernel
theorem dX10_isFigure_7 : decode cX10_isFigure 7 = .ok (.bipush 57, 2) := by decide +kernel
theorem dX10_isFigure_9 : decode cX10_isFigure 9 = .ok (.invokestatic 19, 3) := by decide +kernel
theorem dX10_isFigure_12 : decode cX10_isFigure 12 = .ok (.ireturn, 1) := by decide +kernel
set_option maxRecDepth 20000 in
theorem ggX10_nextToken_X10_byteAt : GoodIn wsX10_nextToken wsX10_byteAt := goodIn_r _ [8, 2, 9, 26, 27, 28, 29, 30, 31] (by decide +kernel) (by decide +kernel)
set_option maxRecDepth 20000 in
theorem gX10_nextToken_X10_byteAt : GoodIn wsX10_nextToken (wsV RX10 70 RX10 yX10_byteAt wsX10_byteAt) := goodIn_app (goodIn_of _ (by decide +kernel)) ggX10_nextToken_X10_byteAt
set_option maxRecDepth 20000 in
theorem ggX10_nextToken_X10_isLetter : GoodIn wsX10_nextToken wsX10_isLetter := goodIn_r _ [13, 4, 5, 6, 7, 8, 2, 9, 14, 15, 16, 26, 27, 28, 29, 30, 31] (by decide +kernel) (by decide +kernel)
set_option maxRecDepth 20000 in
theorem gX10_nextToken_X10_isLetter : GoodIn wsX10_nextToken (wsV RX10 74 RX10 yX10_isLetter wsX10_isLetter) := goodIn_app (goodIn_of _ (by decide +kernel)) ggX10_nextToken_X10_isLetter
set_option maxRecDepth 20000 in
theorem ggX10_nextToken_X10_isFigure : GoodIn wsX10_nextToken wsX10_isFigure := goodIn_r _ [20, 4, 5, 6, 7, 8, 2, 9, 14, 15, 16, 26, 27, 28, 29, 30, 31] (by decide +kernel) (by decide +kernel)
set_option maxRecDepth 20000 in
theorem gX10_nextToken_X10_isFigure : GoodIn wsX10_nextToken (wsV RX10 77 RX10 yX10_isFigure wsX10_isFigure) := goodIn_app (goodIn_of _ (by decide +kernel)) ggX10_nextToken_X10_isFigure
set_option maxRecDepth 20000 in
theorem ggX10_nextToken_X10_takeNumber : GoodIn wsX10_nextToken wsX10_takeNumber := goodIn_r _ [24, 25, 1, 2, 3, 17, 18, 19, 7, 20, 4, 5, 6, 8, 9, 14, 15, 16, 26, 27, 28, 29, 30, 31] (by decide +kernel) (by decide +kernel)
set_option maxRecDepth 20000 in
theorem gX10_nextToken_X10_takeNumber : GoodIn wsX10_nextToken (wsV RX10 80 RX10 yX10_takeNumber wsX10_takeNumber) := goodIn_app (goodIn_of _ (by decide +kernel)) ggX10_nextToken_X10_takeNumber
theorem dX10_nextToken_0 : decode cX10_nextToken 0 = .ok (.aload_n 0, 1) := by decide +kernel
theorem dX10_nextToken_1 : decode cX10_nextToken 1 = .ok (.getfield 32, 3) := by decide +kernel
theorem dX10_nextToken_4 : decode cX10_nextToken 4 = .ok (.aload_n 0, 1) := by decide +kernel
theorem dX10_nextToken_5 : decode cX10_nextToken 5 = .ok (.getfield 23, 3) := by decide +kernel
theorem dX10_nextToken_8 : decode cX10_nextToken 8 = .ok (.if_icmp .ge 29, 3) := by decide +kernel
theorem dX10_nextToken_11 : decode cX10_nextToken 11 = .ok (.aload_n 0, 1) := by decide +kernel
theorem dX10_nextToken_12 : decode cX10_nextToken 12 = .ok (.aload_n 0, 1) := by decide +kernel
theorem dX10_nextToken_13 : decode cX10_nextToken 13 = .ok (.getfield 32, 3) := by decide +kernel
theorem dX10_nextToken_16 : decode cX10_nextToken 16 = .ok (.invokevirtual 70, 3) := by decide +kernel
theorem dX10_nextToken_19 : decode cX10_nextToken 19 = .ok (.bipush 32, 2) := by decide +kernel
theorem dX10_nextToken_21 : decode cX10_nextToken 21 = .ok (.if_icmp .ne 16, 3) := by decide +kernel
theorem dX10_nextToken_24 : decode cX10_nextToken 24 = .ok (.aload_n 0, 1) := by decide +kernel
theorem dX10_nextToken_25 : decode cX10_nextToken 25 = .ok (.dup, 1) := by decide +kernel
theorem dX10_nextToken_26 : decode cX10_nextToken 26 = .ok (.getfield 32, 3) := by decide +kernel
theorem dX10_nextToken_29 : decode cX10_nextToken 29 = .ok (.iconst 1, 1) := by decide +kernel
theorem dX10_nextToken_30 : decode cX10_nextToken 30 = .ok (.iadd, 1) := by decide +kernel
theorem dX10_nextToken_31 : decode cX10_nextToken 31 = .ok (.putfield 32, 3) := by decide +kernel
theorem dX10_nextToken_34 : decode cX10_nextToken 34 = .ok (.goto (-34), 3) := by decide +kernel
theorem dX10_nextToken_37 : decode cX10_nextToken 37 = .ok (.aload_n 0, 1) := by decide +kernel
theorem dX10_nextToken_38 : decode cX10_nextToken 38 = .ok (.aload_n 0, 1) := by decide +kernel
theorem dX10_nextToken_39 : decode cX10_nextToken 39 = .ok (.getfield 32, 3) := by decide +kernel
theorem dX10_nextToken_42 : decode cX10_nextToken 42 = .ok (.putfield 46, 3) := by decide +kernel
theorem dX10_nextToken_45 : decode cX10_nextToken 45 = .ok (.aload_n 0, 1) := by decide +kernel
theorem dX10_nextToken_46 : decode cX10_nextToken 46 = .ok (.getfield 32, 3) := by decide +kernel
theorem dX10_nextToken_49 : decode cX10_nextToken 49 = .ok (.aload_n 0, 1) := by decide +kernel
theorem dX10_nextToken_50 : decode cX10_nextToken 50 = .ok (.getfield 23, 3) := by decide +kernel
theorem dX10_nextToken_53 : decode cX10_nextToken 53 = .ok (.if_icmp .lt 5, 3) := by decide +kernel
theorem dX10_nextToken_56 : decode cX10_nextToken 56 = .ok (.iconst 4, 1) := by decide +kernel
theorem dX10_nextToken_57 : decode cX10_nextToken 57 = .ok (.ireturn, 1) := by decide +kernel
theorem dX10_nextToken_58 : decode cX10_nextToken 58 = .ok (.aload_n 0, 1) := by decide +kernel
theorem dX10_nextToken_59 : decode cX10_nextToken 59 = .ok (.aload_n 0, 1) := by decide +kernel
theorem dX10_nextToken_60 : decode cX10_nextToken 60 = .ok (.getfield 32, 3) := by decide +kernel
theorem dX10_nextToken_63 : decode cX10_nextToken 63 = .ok (.invokevirtual 74, 3) := by decide +kernel
theorem dX10_nextToken_66 : decode cX10_nextToken 66 = .ok (.ifCond .eq 40, 3) := by decide +kernel
theorem dX10_nextToken_69 : decode cX10_nextToken 69 = .ok (.aload_n 0, 1) := by decide +kernel
theorem dX10_nextToken_70 : decode cX10_nextToken 70 = .ok (.getfield 32, 3) := by decide +kernel
theorem dX10_nextToken_73 : decode cX10_nextToken 73 = .ok (.aload_n 0, 1) := by decide +kernel
theorem dX10_nextToken_74 : decode cX10_nextToken 74 = .ok (.getfield 23, 3) := by decide +kernel
theorem dX10_nextToken_77 : decode cX10_nextToken 77 = .ok (.if_icmp .ge 27, 3) := by decide +kernel
theorem dX10_nextToken_80 : decode cX10_nextToken 80 = .ok (.aload_n 0, 1) := by decide +kernel
theorem dX10_nextToken_81 : decode cX10_nextToken 81 = .ok (.aload_n 0, 1) := by decide +kernel
theorem dX10_nextToken_82 : decode cX10_nextToken 82 = .ok (.getfield 32, 3) := by decide +kernel
theorem dX10_nextToken_85 : decode cX10_nextToken 85 = .ok (.invokevirtual 74, 3) := by decide +kernel
theorem dX10_nextToken_88 : decode cX10_nextToken 88 = .ok (.ifCond .eq 16, 3) := by decide +kernel
theorem dX10_nextToken_91 : decode cX10_nextToken 91 = .ok (.aload_n 0, 1) := by decide +kernel
theorem dX10_nextToken_92 : decode cX10_nextToken 92 = .ok (.dup, 1) := by decide +kernel
theorem dX10_nextToken_93 : decode cX10_nextToken 93 = .ok (.getfield 32, 3) := by decide +kernel
theorem dX10_nextToken_96 : decode cX10_nextToken 96 = .ok (.iconst 1, 1) := by decide +kernel
theorem dX10_nextToken_97 : decode cX10_nextToken 97 = .ok (.iadd, 1) := by decide +kernel
theorem dX10_nextToken_98 : decode cX10_nextToken 98 = .ok (.putfield 32, 3) := by decide +kernel
theorem dX10_nextToken_101 : decode cX10_nextToken 101 = .ok (.goto (-32), 3) := by decide +kernel
theorem dX10_nextToken_104 : decode cX10_nextToken 104 = .ok (.iconst 0, 1) := by decide +kernel
theorem dX10_nextToken_105 : decode cX10_nextToken 105 = .ok (.ireturn, 1) := by decide +kernel
theorem dX10_nextToken_106 : decode cX10_nextToken 106 = .ok (.aload_n 0, 1) := by decide +kernel
theorem dX10_nextToken_107 : decode cX10_nextToken 107 = .ok (.aload_n 0, 1) := by decide +kernel
theorem dX10_nextToken_108 : decode cX10_nextToken 108 = .ok (.getfield 32, 3) := by decide +kernel
theorem dX10_nextToken_111 : decode cX10_nextToken 111 = .ok (.invokevirtual 77, 3) := by decide +kernel
theorem dX10_nextToken_114 : decode cX10_nextToken 114 = .ok (.ifCond .eq 8, 3) := by decide +kernel
theorem dX10_nextToken_117 : decode cX10_nextToken 117 = .ok (.aload_n 0, 1) := by decide +kernel
theorem dX10_nextToken_118 : decode cX10_nextToken 118 = .ok (.invokevirtual 80, 3) := by decide +kernel
theorem dX10_nextToken_121 : decode cX10_nextToken 121 = .ok (.ireturn, 1) := by decide +kernel
theorem dX10_nextToken_122 : decode cX10_nextToken 122 = .ok (.aload_n 0, 1) := by decide +kernel
theorem dX10_nextToken_123 : decode cX10_nextToken 123 = .ok (.dup, 1) := by decide +kernel
theorem dX10_nextToken_124 : decode cX10_nextToken 124 = .ok (.getfield 32, 3) := by decide +kernel
theorem dX10_nextToken_127 : decode cX10_nextToken 127 = .ok (.iconst 1, 1) := by decide +kernel
theorem dX10_nextToken_128 : decode cX10_nextToken 128 = .ok (.iadd, 1) := by decide +kernel
theorem dX10_nextToken_129 : decode cX10_nextToken 129 = .ok (.putfield 32, 3) := by decide +kernel
theorem dX10_nextToken_132 : decode cX10_nextToken 132 = .ok (.aload_n 0, 1) := by decide +kernel
theorem dX10_nextToken_133 : decode cX10_nextToken 133 = .ok (.aload_n 0, 1) := by decide +kernel
theorem dX10_nextToken_134 : decode cX10_nextToken 134 = .ok (.getfield 46, 3) := by decide +kernel
theorem dX10_nextToken_137 : decode cX10_nextToken 137 = .ok (.invokevirtual 70, 3) := by decide +kernel
theorem dX10_nextToken_140 : decode cX10_nextToken 140 = .ok (.bipush 59, 2) := by decide +kernel
theorem dX10_nextToken_142 : decode cX10_nextToken 142 = .ok (.if_icmp .ne 7, 3) := by decide +kernel
theorem dX10_nextToken_145 : decode cX10_nextToken 145 = .ok (.iconst 2, 1) := by decide +kernel
theorem dX10_nextToken_146 : decode cX10_nextToken 146 = .ok (.goto 4, 3) := by decide +kernel
theorem dX10_nextToken_149 : decode cX10_nextToken 149 = .ok (.iconst 3, 1) := by decide +kernel
theorem dX10_nextToken_150 : decode cX10_nextToken 150 = .ok (.ireturn, 1) := by decide +kernel
set_option maxRecDepth 20000 in
theorem ggX10_takeNumber_X10_isFigure : GoodIn wsX10_takeNumber wsX10_isFigure := goodIn_r _ [9, 10, 11, 12, 8, 13, 3, 14, 15, 16, 17, 18, 19, 20, 21, 22, 23] (by decide +kernel) (by decide +kernel)
set_option maxRecDepth 20000 in
theorem gX10_takeNumber_X10_isFigure : GoodIn wsX10_takeNumber (wsV RX10 77 RX10 yX10_isFigure wsX10_isFigure) := goodIn_app (goodIn_of _ (by decide +kernel)) ggX10_takeNumber_X10_isFigure
set_option maxRecDepth 20000 in
theorem ggX10_takeNumber_X10_byteAt : GoodIn wsX10_takeNumber wsX10_byteAt := goodIn_r _ [13, 3, 14, 18, 19, 20, 21, 22, 23] (by decide +kernel) (by decide +kernel)
set_option maxRecDepth 20000 in
theorem gX10_takeNumber_X10_byteAt : GoodIn wsX10_takeNumber (wsV RX10 70 RX10 yX10_byteAt wsX10_byteAt) := goodIn_app (goodIn_of _ (by decide +kernel)) ggX10_takeNumber_X10_byteAt
theorem dX10_takeNumber_0 : decode cX10_takeNumber 0 = .ok (.aload_n 0, 1) := by decide +kernel
theorem dX10_takeNumber_1 : decode cX10_takeNumber 1 = .ok (.iconst 0, 1) := by decide +kernel
theorem dX10_takeNumber_2 : decode cX10_takeNumber 2 = .ok (.putfield 56, 3) := by decide +kernel
theorem dX10_takeNumber_5 : decode cX10_takeNumber 5 = .ok (.aload_n 0, 1) := by decide +kernel
theorem dX10_takeNumber_6 : decode cX10_takeNumber 6 = .ok (.getfield 32, 3) := by decide +kernel
theorem dX10_takeNumber_9 : decode cX10_takeNumber 9 = .ok (.aload_n 0, 1) := by decide +kernel
theorem dX10_takeNumber_10 : decode cX10_takeNumber 10 = .ok (.getfield 23, 3) := by decide +kernel
theorem dX10_takeNumber_13 : decode cX10_takeNumber 13 = .ok (.if_icmp .ge 63, 3) := by decide +kernel
theorem dX10_takeNumber_16 : decode cX10_takeNumber 16 = .ok (.aload_n 0, 1) := by decide +kernel
theorem dX10_takeNumber_17 : decode cX10_takeNumber 17 = .ok (.aload_n 0, 1) := by decide +kernel
theorem dX10_takeNumber_18 : decode cX10_takeNumber 18 = .ok (.getfield 32, 3) := by decide +kernel
theorem dX10_takeNumber_21 : decode cX10_takeNumber 21 = .ok (.invokevirtual 77, 3) := by decide +kernel
theorem dX10_takeNumber_24 : decode cX10_takeNumber 24 = .ok (.ifCond .eq 52, 3) := by decide +kernel
theorem dX10_takeNumber_27 : decode cX10_takeNumber 27 = .ok (.aload_n 0, 1) := by decide +kernel
theorem dX10_takeNumber_28 : decode cX10_takeNumber 28 = .ok (.getfield 32, 3) := by decide +kernel
theorem dX10_takeNumber_31 : decode cX10_takeNumber 31 = .ok (.aload_n 0, 1) := by decide +kernel
theorem dX10_takeNumber_32 : decode cX10_takeNumber 32 = .ok (.getfield 46, 3) := by decide +kernel
theorem dX10_takeNumber_35 : decode cX10_takeNumber 35 = .ok (.isub, 1) := by decide +kernel
theorem dX10_takeNumber_36 : decode cX10_takeNumber 36 = .ok (.iconst 2, 1) := by decide +kernel
theorem dX10_takeNumber_37 : decode cX10_takeNumber 37 = .ok (.if_icmp .ge 26, 3) := by decide +kernel
theorem dX10_takeNumber_40 : decode cX10_takeNumber 40 = .ok (.aload_n 0, 1) := by decide +kernel
theorem dX10_takeNumber_41 : decode cX10_takeNumber 41 = .ok (.bipush 10, 2) := by decide +kernel
theorem dX10_takeNumber_43 : decode cX10_takeNumber 43 = .ok (.aload_n 0, 1) := by decide +kernel
theorem dX10_takeNumber_44 : decode cX10_takeNumber 44 = .ok (.getfield 56, 3) := by decide +kernel
theorem dX10_takeNumber_47 : decode cX10_takeNumber 47 = .ok (.imul, 1) := by decide +kernel
theorem dX10_takeNumber_48 : decode cX10_takeNumber 48 = .ok (.aload_n 0, 1) := by decide +kernel
theorem dX10_takeNumber_49 : decode cX10_takeNumber 49 = .ok (.aload_n 0, 1) := by decide +kernel
theorem dX10_takeNumber_50 : decode cX10_takeNumber 50 = .ok (.getfield 32, 3) := by decide +kernel
theorem dX10_takeNumber_53 : decode cX10_takeNumber 53 = .ok (.invokevirtual 70, 3) := by decide +kernel
theorem dX10_takeNumber_56 : decode cX10_takeNumber 56 = .ok (.iadd, 1) := by decide +kernel
theorem dX10_takeNumber_57 : decode cX10_takeNumber 57 = .ok (.bipush 48, 2) := by decide +kernel
theorem dX10_takeNumber_59 : decode cX10_takeNumber 59 = .ok (.isub, 1) := by decide +kernel
theorem dX10_takeNumber_60 : decode cX10_takeNumber 60 = .ok (.putfield 56, 3) := by decide +kernel
theorem dX10_takeNumber_63 : decode cX10_takeNumber 63 = .ok (.aload_n 0, 1) := by decide +kernel
theorem dX10_takeNumber_64 : decode cX10_takeNumber 64 = .ok (.dup, 1) := by decide +kernel
theorem dX10_takeNumber_65 : decode cX10_takeNumber 65 = .ok (.getfield 32, 3) := by decide +kernel
theorem dX10_takeNumber_68 : decode cX10_takeNumber 68 = .ok (.iconst 1, 1) := by decide +kernel
theorem dX10_takeNumber_69 : decode cX10_takeNumber 69 = .ok (.iadd, 1) := by decide +kernel
theorem dX10_takeNumber_70 : decode cX10_takeNumber 70 = .ok (.putfield 32, 3) := by decide +kernel
theorem dX10_takeNumber_73 : decode cX10_takeNumber 73 = .ok (.goto (-68), 3) := by decide +kernel
theorem dX10_takeNumber_76 : decode cX10_takeNumber 76 = .ok (.aload_n 0, 1) := by decide +kernel
theorem dX10_takeNumber_77 : decode cX10_takeNumber 77 = .ok (.getfield 32, 3) := by decide +kernel
theorem dX10_takeNumber_80 : decode cX10_takeNumber 80 = .ok (.aload_n 0, 1) := by decide +kernel
theorem dX10_takeNumber_81 : decode cX10_takeNumber 81 = .ok (.getfield 46, 3) := by decide +kernel
theorem dX10_takeNumber_84 : decode cX10_takeNumber 84 = .ok (.isub, 1) := by decide +kernel
theorem dX10_takeNumber_85 : decode cX10_takeNumber 85 = .ok (.iconst 2, 1) := by decide +kernel
theorem dX10_takeNumber_86 : decode cX10_takeNumber 86 = .ok (.if_icmp .le 7, 3) := by decide +kernel
theorem dX10_takeNumber_89 : decode cX10_takeNumber 89 = .ok (.iconst 3, 1) := by decide +kernel
theorem dX10_takeNumber_90 : decode cX10_takeNumber 90 = .ok (.goto 4, 3) := by decide +kernel
theorem dX10_takeNumber_93 : decode cX10_takeNumber 93 = .ok (.iconst 1, 1) := by decide +kernel
theorem dX10_takeNumber_94 : decode cX10_takeNumber 94 = .ok (.ireturn, 1) := by decide +kernel
set_option maxRecDepth 20000 in
theorem ggX10_wordHere_X10_isHere : GoodIn wsX10_wordHere wsX10_isHere := goodIn_r _ [5, 6, 7, 8, 9, 10, 11, 12, 13, 14, 15, 16, 17, 18, 19, 20, 21, 22, 4, 23, 24, 25, 26, 27, 28, 29, 30, 31, 32, 33, 34, 35, 36, 37, 38, 39, 40, 41, 42, 43, 44, 45, 46, 47, 48, 49, 50, 51, 52, 53, 54, 55, 56, 57, 58, 59, 60, 61, 62, 63, 64, 65, 66, 67, 68] (by decide +kernel) (by decide +kernel)
set_option maxRecDepth 20000 in
theorem gX10_wordHere_X10_isHere : GoodIn wsX10_wordHere (wsV RX10 85 RX10 yX10_isHere wsX10_isHere) := goodIn_app (goodIn_of _ (by decide +kernel)) ggX10_wordHere_X10_isHere
theorem dX10_wordHere_0 : decode cX10_wordHere 0 = .ok (.aload_n 0, 1) := by decide +kernel
theorem dX10_wordHere_1 : decode cX10_wordHere 1 = .ok (.ldc 83, 2) := by decide +kernel
theorem dX10_wordHere_3 : decode cX10_wordHere 3 = .ok (.invokevirtual 85, 3) := by decide +kernel
theorem dX10_wordHere_6 : decode cX10_wordHere 6 = .ok (.ifCond .eq 5, 3) := by decide +kernel
theorem dX10_wordHere_9 : decode cX10_wordHere 9 = .ok (.iconst 0, 1) := by decide +kernel
theorem dX10_wordHere_10 : decode cX10_wordHere 10 = .ok (.ireturn, 1) := by decide +kernel
theorem dX10_wordHere_11 : decode cX10_wordHere 11 = .ok (.aload_n 0, 1) := by decide +kernel
theorem dX10_wordHere_12 : decode cX10_wordHere 12 = .ok (.ldc 89, 2) := by decide +kernel
theorem dX10_wordHere_14 : decode cX10_wordHere 14 = .ok (.invokevirtual 85, 3) := by decide +kernel
theorem dX10_wordHere_17 : decode cX10_wordHere 17 = .ok (.ifCond .eq 5, 3) := by decide +kernel
theorem dX10_wordHere_20 : decode cX10_wordHere 20 = .ok (.iconst 1, 1) := by decide +kernel
theorem dX10_wordHere_21 : decode cX10_wordHere 21 = .ok (.ireturn, 1) := by decide +kernel
theorem dX10_wordHere_22 : decode cX10_wordHere 22 = .ok (.aload_n 0, 1) := by decide +kernel
theorem dX10_wordHere_23 : decode cX10_wordHere 23 = .ok (.ldc 91, 2) := by decide +kernel
theorem dX10_wordHere_25 : decode cX10_wordHere 25 = .ok (.invokevirtual 85, 3) := by decide +kernel
theorem dX10_wordHere_28 : decode cX10_wordHere 28 = .ok (.ifCond .eq 5, 3) := by decide +kernel
theorem dX10_wordHere_31 : decode cX10_wordHere 31 = .ok (.iconst 2, 1) := by decide +kernel
theorem dX10_wordHere_32 : decode cX10_wordHere 32 = .ok (.ireturn, 1) := by decide +kernel
theorem dX10_wordHere_33 : decode cX10_wordHere 33 = .ok (.aload_n 0, 1) := by decide +kernel
theorem dX10_wordHere_34 : decode cX10_wordHere 34 = .ok (.ldc 93, 2) := by decide +kernel
theorem dX10_wordHere_36 : decode cX10_wordHere 36 = .ok (.invokevirtual 85, 3) := by decide +kernel
theorem dX10_wordHere_39 : decode cX10_wordHere 39 = .ok (.ifCond .eq 7, 3) := by decide +kernel
theorem dX10_wordHere_42 : decode cX10_wordHere 42 = .ok (.iconst 3, 1) := by decide +kernel
theorem dX10_wordHere_43 : decode cX10_wordHere 43 = .ok (.goto 4, 3) := by decide +kernel
theorem dX10_wordHere_46 : decode cX10_wordHere 46 = .ok (.iconst (-1), 1) := by decide +kernel
theorem dX10_wordHere_47 : decode cX10_wordHere 47 = .ok (.ireturn, 1) := by decide +kernel
set_option maxRecDepth 20000 in
theorem ggX10_isHere_J0_length_8abf5 : GoodIn wsX10_isHere wsJ0_length_8abf5 := goodIn_r _ [7, 8, 9, 10, 11, 6, 12, 13, 14] (by decide +kernel) (by decide +kernel)
set_option maxRecDepth 20000 in
theorem gX10_isHere_J0_length_8abf5 : GoodIn wsX10_isHere (wsV RX10 95 RJ0 yJ0_length_8abf5 wsJ0_length_8abf5) := goodIn_app (goodIn_of _ (by decide +kernel)) ggX10_isHere_J0_length_8abf5
set_option maxRecDepth 20000 in
theorem ggX10_isHere_X10_byteAt : GoodIn wsX10_isHere wsX10_byteAt := goodIn_r _ [19, 20, 21, 59, 60, 61, 62, 63, 64] (by decide +kernel) (by decide +kernel)
set_option maxRecDepth 20000 in
theorem gX10_isHere_X10_byteAt : GoodIn wsX10_isHere (wsV RX10 70 RX10 yX10_byteAt wsX10_byteAt) := goodIn_app (goodIn_of _ (by decide +kernel)) ggX10_isHere_X10_byteAt
set_option maxRecDepth 20000 in
theorem ggX10_isHere_J0_charAt_5068e : GoodIn wsX10_isHere wsJ0_charAt_5068e := goodIn_r _ [25, 8, 26, 27, 28, 6, 29, 13, 14, 30, 31, 32, 33, 34, 35, 36, 37, 38, 39, 40, 41, 42, 43, 44, 45, 46, 47, 48, 49, 50, 51, 52, 53, 54, 55, 56, 57, 58] (by decide +kernel) (by decide +kernel)
set_option maxRecDepth 20000 in
theorem gX10_isHere_J0_charAt_5068e : GoodIn wsX10_isHere (wsV RX10 100 RJ0 yJ0_charAt_5068e wsJ0_charAt_5068e) := goodIn_app (goodIn_of _ (by decide +kernel)) ggX10_isHere_J0_charAt_5068e
theorem dX10_isHere_0 : decode cX10_isHere 0 = .ok (.aload_n 0, 1) := by decide +kernel
theorem dX10_isHere_1 : decode cX10_isHere 1 = .ok (.getfield 32, 3) := by decide +kernel
theorem dX10_isHere_4 : decode cX10_isHere 4 = .ok (.aload_n 0, 1) := by decide +kernel
theorem dX10_isHere_5 : decode cX10_isHere 5 = .ok (.getfield 46, 3) := by decide +kernel
theorem dX10_isHere_8 : decode cX10_isHere 8 = .ok (.isub, 1) := by decide +kernel
theorem dX10_isHere_9 : decode cX10_isHere 9 = .ok (.aload_n 1, 1) := by decide +kernel
theorem dX10_isHere_10 : decode cX10_isHere 10 = .ok (.invokevirtual 95, 3) := by decide +kernel
theorem dX10_isHere_13 : decode cX10_isHere 13 = .ok (.if_icmp .eq 5, 3) := by decide +kernel
theorem dX10_isHere_16 : decode cX10_isHere 16 = .ok (.iconst 0, 1) := by decide +kernel
theorem dX10_isHere_17 : decode cX10_isHere 17 = .ok (.ireturn, 1) := by decide +kernel
theorem dX10_isHere_18 : decode cX10_isHere 18 = .ok (.iconst 0, 1) := by decide +kernel
theorem dX10_isHere_19 : decode cX10_isHere 19 = .ok (.istore_n 2, 1) := by decide +kernel
theorem dX10_isHere_20 : decode cX10_isHere 20 = .ok (.iload_n 2, 1) := by decide +kernel
theorem dX10_isHere_21 : decode cX10_isHere 21 = .ok (.aload_n 1, 1) := by decide +kernel
theorem dX10_isHere_22 : decode cX10_isHere 22 = .ok (.invokevirtual 95, 3) := by decide +kernel
theorem dX10_isHere_25 : decode cX10_isHere 25 = .ok (.if_icmp .ge 29, 3) := by decide +kernel
theorem dX10_isHere_28 : decode cX10_isHere 28 = .ok (.aload_n 0, 1) := by decide +kernel
theorem dX10_isHere_29 : decode cX10_isHere 29 = .ok (.aload_n 0, 1) := by decide +kernel
theorem dX10_isHere_30 : decode cX10_isHere 30 = .ok (.getfield 46, 3) := by decide +kernel
theorem dX10_isHere_33 : decode cX10_isHere 33 = .ok (.iload_n 2, 1) := by decide +kernel
theorem dX10_isHere_34 : decode cX10_isHere 34 = .ok (.iadd, 1) := by decide +kernel
theorem dX10_isHere_35 : decode cX10_isHere 35 = .ok (.invokevirtual 70, 3) := by decide +kernel
theorem dX10_isHere_38 : decode cX10_isHere 38 = .ok (.aload_n 1, 1) := by decide +kernel
theorem dX10_isHere_39 : decode cX10_isHere 39 = .ok (.iload_n 2, 1) := by decide +kernel
theorem dX10_isHere_40 : decode cX10_isHere 40 = .ok (.invokevirtual 100, 3) := by decide +kernel
theorem dX10_isHere_43 : decode cX10_isHere 43 = .ok (.if_icmp .eq 5, 3) := by decide +kernel
theorem dX10_isHere_46 : decode cX10_isHere 46 = .ok (.iconst 0, 1) := by decide +kernel
theorem dX10_isHere_47 : decode cX10_isHere 47 = .ok (.ireturn, 1) := by decide +kernel
theorem dX10_isHere_48 : decode cX10_isHere 48 = .ok (.iinc 2 1, 3) := by decide +kernel
theorem dX10_isHere_51 : decode cX10_isHere 51 = .ok (.goto (-31), 3) := by decide +kernel
theorem dX10_isHere_54 : decode cX10_isHere 54 = .ok (.iconst 1, 1) := by decide +kernel
theorem dX10_isHere_55 : decode cX10_isHere 55 = .ok (.ireturn, 1) := by decide +kernel
set_option maxRecDepth 20000 in
theorem ggX11_init_X4_init : GoodIn wsX11_init wsX4_init := goodIn_r _ [28, 29, 2, 3, 30, 31, 32, 33, 34, 35, 36, 37, 38, 39, 40, 41, 42, 43, 44, 45, 46, 47, 48, 49, 50, 51, 52, 53, 54, 55, 56, 57, 58, 59, 60, 61, 62, 63, 64, 65, 66, 67, 68, 69, 70, 71, 72, 73, 74, 75, 76, 77, 78, 79, 80, 81, 82, 83, 84, 85, 86, 87, 88, 117, 118, 119, 120, 121, 122, 123, 124, 125, 126, 127, 128, 129, 165, 166, 167] (by decide +kernel) (by decide +kernel)
set_option maxRecDepth 20000 in
theorem gX11_init_X4_init : GoodIn wsX11_init (wsX4_init) := ggX11_init_X4_init
set_option maxRecDepth 20000 in
theorem ggX11_init_X10_init : GoodIn wsX11_init wsX10_init := goodIn_r _ [90, 91, 2, 3, 92, 93, 49, 94, 142, 143, 144, 145, 146, 147] (by decide +kernel) (by decide +kernel)
set_option maxRecDepth 20000 in
theorem gX11_init_X10_init_n29 : GoodIn wsX11_init (wsX10_init) := ggX11_init_X10_init
set_option maxRecDepth 20000 in
theorem ggX11_init_X6_init : GoodIn wsX11_init wsX6_init := goodIn_r _ [96, 97, 2, 3, 49, 98, 99, 100, 101, 102, 103, 104, 105, 106, 107, 148, 149, 150, 151, 152, 153, 154, 155, 156, 157, 158] (by decide +kernel) (by decide +kernel)
set_option maxRecDepth 20000 in
theorem gX11_init_X6_init_n36 : GoodIn wsX11_init (wsX6_init) := ggX11_init_X6_init
set_option maxRecDepth 20000 in
theorem ggX11_init_X2_init : GoodIn wsX11_init wsX2_init := goodIn_r _ [109, 110, 2, 3, 10, 111, 49, 112, 113, 114, 115, 116, 159, 160, 161, 162, 163, 164] (by decide +kernel) (by decide +kernel)
set_option maxRecDepth 20000 in
theorem gX11_init_X2_init_n43 : GoodIn wsX11_init (wsX2_init) := ggX11_init_X2_init
theorem dX11_init_0 : decode cX11_init 0 = .ok (.aload_n 0, 1) := by decide +kernel
theorem dX11_init_1 : decode cX11_init 1 = .ok (.invokespecial 3, 3) := by decide +kernel
theorem dX11_init_4 : decode cX11_init 4 = .ok (.aload_n 0, 1) := by decide +kernel
theorem dX11_init_5 : decode cX11_init 5 = .ok (.new 9, 3) := by decide +kernel
theorem dX11_init_8 : decode cX11_init 8 = .ok (.dup, 1) := by decide +kernel
theorem dX11_init_9 : decode cX11_init 9 = .ok (.invokespecial 11, 3) := by decide +kernel
theorem dX11_init_12 : decode cX11_init 12 = .ok (.putfield 12, 3) := by decide +kernel
theorem dX11_init_15 : decode cX11_init 15 = .ok (.aload_n 0, 1) := by decide +kernel
theorem dX11_init_16 : decode cX11_init 16 = .ok (.new 9, 3) := by decide +kernel
theorem dX11_init_19 : decode cX11_init 19 = .ok (.dup, 1) := by decide +kernel
theorem dX11_init_20 : decode cX11_init 20 = .ok (.invokespecial 11, 3) := by decide +kernel
theorem dX11_init_23 : decode cX11_init 23 = .ok (.putfield 16, 3) := by decide +kernel
theorem dX11_init_26 : decode cX11_init 26 = .ok (.aload_n 0, 1) := by decide +kernel
theorem dX11_init_27 : decode cX11_init 27 = .ok (.iconst 2, 1) := by decide +kernel
theorem dX11_init_28 : decode cX11_init 28 = .ok (.anewarray 9, 3) := by decide +kernel
theorem dX11_init_31 : decode cX11_init 31 = .ok (.putfield 19, 3) := by decide +kernel
theorem dX11_init_34 : decode cX11_init 34 = .ok (.iconst 0, 1) := by decide +kernel
theorem dX11_init_35 : decode cX11_init 35 = .ok (.istore_n 1, 1) := by decide +kernel
theorem dX11_init_36 : decode cX11_init 36 = .ok (.iload_n 1, 1) := by decide +kernel
theorem dX11_init_37 : decode cX11_init 37 = .ok (.aload_n 0, 1) := by decide +kernel
theorem dX11_init_38 : decode cX11_init 38 = .ok (.getfield 19, 3) := by decide +kernel
theorem dX11_init_41 : decode cX11_init 41 = .ok (.arraylength, 1) := by decide +kernel
theorem dX11_init_42 : decode cX11_init 42 = .ok (.if_icmp .ge 22, 3) := by decide +kernel
theorem dX11_init_45 : decode cX11_init 45 = .ok (.aload_n 0, 1) := by decide +kernel
theorem dX11_init_46 : decode cX11_init 46 = .ok (.getfield 19, 3) := by decide +kernel
theorem dX11_init_49 : decode cX11_init 49 = .ok (.iload_n 1, 1) := by decide +kernel
theorem dX11_init_50 : decode cX11_init 50 = .ok (.new 9, 3) := by decide +kernel
theorem dX11_init_53 : decode cX11_init 53 = .ok (.dup, 1) := by decide +kernel
theorem dX11_init_54 : decode cX11_init 54 = .ok (.invokespecial 11, 3) := by decide +kernel
theorem dX11_init_57 : decode cX11_init 57 = .ok (.aastore, 1) := by decide +kernel
theorem dX11_init_58 : decode cX11_init 58 = .ok (.iinc 1 1, 3) := by decide +kernel
theorem dX11_init_61 : decode cX11_init 61 = .ok (.goto (-25), 3) := by decide +kernel
theorem dX11_init_64 : decode cX11_init 64 = .ok (.aload_n 0, 1) := by decide +kernel
theorem dX11_init_65 : decode cX11_init 65 = .ok (.iconst 2, 1) := by decide +kernel
theorem dX11_init_66 : decode cX11_init 66 = .ok (.newarray .boolean, 2) := by decide +kernel
theorem dX11_init_68 : decode cX11_init 68 = .ok (.putfield 23, 3) := by decide +kernel
theorem dX11_init_71 : decode cX11_init 71 = .ok (.aload_n 0, 1) := by decide +kernel
theorem dX11_init_72 : decode cX11_init 72 = .ok (.new 27, 3) := by decide +kernel
theorem dX11_init_75 : decode cX11_init 75 = .ok (.dup, 1) := by decide +kernel
theorem dX11_init_76 : decode cX11_init 76 = .ok (.invokespecial 29, 3) := by decide +kernel
theorem dX11_init_79 : decode cX11_init 79 = .ok (.putfield 30, 3) := by decide +kernel
theorem dX11_init_82 : decode cX11_init 82 = .ok (.aload_n 0, 1) := by decide +kernel
theorem dX11_init_83 : decode cX11_init 83 = .ok (.new 34, 3) := by decide +kernel
theorem dX11_init_86 : decode cX11_init 86 = .ok (.dup, 1) := by decide +kernel
theorem dX11_init_87 : decode cX11_init 87 = .ok (.invokespecial 36, 3) := by decide +kernel
theorem dX11_init_90 : decode cX11_init 90 = .ok (.putfield 37, 3) := by decide +kernel
theorem dX11_init_93 : decode cX11_init 93 = .ok (.aload_n 0, 1) := by decide +kernel
theorem dX11_init_94 : decode cX11_init 94 = .ok (.new 41, 3) := by decide +kernel
theorem dX11_init_97 : decode cX11_init 97 = .ok (.dup, 1) := by decide +kernel
theorem dX11_init_98 : decode cX11_init 98 = .ok (.invokespecial 43, 3) := by decide +kernel
theorem dX11_init_101 : decode cX11_init 101 = .ok (.putfield 44, 3) := by decide +kernel
theorem dX11_init_104 : decode cX11_init 104 = .ok (.aload_n 0, 1) := by decide +kernel
theorem dX11_init_105 : decode cX11_init 105 = .ok (.lconst 0, 1) := by decide +kernel
theorem dX11_init_106 : decode cX11_init 106 = .ok (.putfield 48, 3) := by decide +kernel
theorem dX11_init_109 : decode cX11_init 109 = .ok (.aload_n 0, 1) := by decide +kernel
theorem dX11_init_110 : decode cX11_init 110 = .ok (.lconst 1, 1) := by decide +kernel
theorem dX11_init_111 : decode cX11_init 111 = .ok (.putfield 52, 3) := by decide +kernel
theorem dX11_init_114 : decode cX11_init 114 = .ok (.return_, 1) := by decide +kernel
set_option maxRecDepth 20000 in
theorem ggX11_pit_X4_reset : GoodIn wsX11_pit wsX4_reset := goodIn_r _ [8, 9, 10, 11, 12, 13, 14, 15, 16, 17, 18, 19, 20, 21, 22, 23, 24, 25, 26, 27, 28, 29, 7, 30, 31, 32, 33, 46, 47, 48, 49, 50, 51, 52, 53, 54, 55, 56, 57, 58, 59, 60, 61] (by decide +kernel) (by decide +kernel)
set_option maxRecDepth 20000 in
theorem gX11_pit_X4_reset : GoodIn wsX11_pit (wsV RX11 65 RX4 yX4_reset wsX4_reset) := goodIn_app (goodIn_of _ (by decide +kernel)) ggX11_pit_X4_reset
theorem dX11_pit_0 : decode cX11_pit 0 = .ok (.aload_n 0, 1) := by decide +kernel
theorem dX11_pit_1 : decode cX11_pit 1 = .ok (.getfield 12, 3) := by decide +kernel
theorem dX11_pit_4 : decode cX11_pit 4 = .ok (.getfield 55, 3) := by decide +kernel
theorem dX11_pit_7 : decode cX11_pit 7 = .ok (.getfield 59, 3) := by decide +kernel
theorem dX11_pit_10 : decode cX11_pit 10 = .ok (.istore_n 1, 1) := by decide +kernel
theorem dX11_pit_11 : decode cX11_pit 11 = .ok (.aload_n 0, 1) := by decide +kernel
theorem dX11_pit_12 : decode cX11_pit 12 = .ok (.getfield 12, 3) := by decide +kernel
theorem dX11_pit_15 : decode cX11_pit 15 = .ok (.invokevirtual 65, 3) := by decide +kernel
theorem dX11_pit_18 : decode cX11_pit 18 = .ok (.iload_n 1, 1) := by decide +kernel
theorem dX11_pit_19 : decode cX11_pit 19 = .ok (.ireturn, 1) := by decide +kernel
set_option maxRecDepth 20000 in
theorem ggX11_layer_X4_setWeather : GoodIn wsX11_layer wsX4_setWeather := goodIn_r _ [6, 7, 8, 9, 10, 11, 12, 13, 14, 15, 35, 36, 37, 38, 39, 40, 41, 42, 43, 44, 45, 46, 47] (by decide +kernel) (by decide +kernel)
set_option maxRecDepth 20000 in
theorem gX11_layer_X4_setWeather : GoodIn wsX11_layer (wsV RX11 68 RX4 yX4_setWeather wsX4_setWeather) := goodIn_app (goodIn_of _ (by decide +kernel)) ggX11_layer_X4_setWeather
set_option maxRecDepth 20000 in
theorem ggX11_layer_X11_counted : GoodIn wsX11_layer wsX11_counted := goodIn_r _ [19, 20, 21, 22, 23, 24, 25, 26, 27, 28, 29, 30, 31, 32, 33, 34] (by decide +kernel) (by decide +kernel)
set_option maxRecDepth 20000 in
theorem gX11_layer_X11_counted : GoodIn wsX11_layer (wsV RX11 72 RX11 yX11_counted wsX11_counted) := goodIn_app (goodIn_of _ (by decide +kernel)) ggX11_layer_X11_counted
theorem dX11_layer_0 : decode cX11_layer 0 = .ok (.aload_n 0, 1) := by decide +kernel
theorem dX11_layer_1 : decode cX11_layer 1 = .ok (.aload_n 0, 1) := by decide +kernel
theorem dX11_layer_2 : decode cX11_layer 2 = .ok (.getfield 12, 3) := by decide +kernel
theorem dX11_layer_5 : decode cX11_layer 5 = .ok (.iload_n 1, 1) := by decide +kernel
theorem dX11_layer_6 : decode cX11_layer 6 = .ok (.iload_n 2, 1) := by decide +kernel
theorem dX11_layer_7 : decode cX11_layer 7 = .ok (.invokevirtual 68, 3) := by decide +kernel
theorem dX11_layer_10 : decode cX11_layer 10 = .ok (.invokevirtual 72, 3) := by decide +kernel
theorem dX11_layer_13 : decode cX11_layer 13 = .ok (.ireturn, 1) := by decide +kernel
set_option maxRecDepth 20000 in
theorem ggX11_price_X4_setPrice : GoodIn wsX11_price wsX4_setPrice := goodIn_r _ [6, 7, 8, 9, 10, 11, 12, 13, 33, 34, 35, 36, 37, 38, 39, 40, 41, 42, 43, 44, 45] (by decide +kernel) (by decide +kernel)
set_option maxRecDepth 20000 in
theorem gX11_price_X4_setPrice : GoodIn wsX11_price (wsV RX11 76 RX4 yX4_setPrice wsX4_setPrice) := goodIn_app (goodIn_of _ (by decide +kernel)) ggX11_price_X4_setPrice
set_option maxRecDepth 20000 in
theorem ggX11_price_X11_counted : GoodIn wsX11_price wsX11_counted := goodIn_r _ [17, 18, 19, 20, 21, 22, 23, 24, 25, 26, 27, 28, 29, 30, 31, 32] (by decide +kernel) (by decide +kernel)
set_option maxRecDepth 20000 in
theorem gX11_price_X11_counted : GoodIn wsX11_price (wsV RX11 72 RX11 yX11_counted wsX11_counted) := goodIn_app (goodIn_of _ (by decide +kernel)) ggX11_price_X11_counted
theorem dX11_price_0 : decode cX11_price 0 = .ok (.aload_n 0, 1) := by decide +kernel
theorem dX11_price_1 : decode cX11_price 1 = .ok (.aload_n 0, 1) := by decide +kernel
theorem dX11_price_2 : decode cX11_price 2 = .ok (.getfield 12, 3) := by decide +kernel
theorem dX11_price_5 : decode cX11_price 5 = .ok (.iload_n 1, 1) := by decide +kernel
theorem dX11_price_6 : decode cX11_price 6 = .ok (.iload_n 2, 1) := by decide +kernel
theorem dX11_price_7 : decode cX11_price 7 = .ok (.invokevirtual 76, 3) := by decide +kernel
theorem dX11_price_10 : decode cX11_price 10 = .ok (.invokevirtual 72, 3) := by decide +kernel
theorem dX11_price_13 : decode cX11_price 13 = .ok (.ireturn, 1) := by decide +kernel
set_option maxRecDepth 20000 in
theorem ggX11_lump_X4_addLump : GoodIn wsX11_lump wsX4_addLump := goodIn_r _ [6, 7, 8, 9, 10, 11, 12, 13, 14, 15, 16, 17, 18, 19, 20, 21, 22, 23, 24, 25, 26, 27, 28, 29, 30, 31, 51, 52, 53, 54, 55, 56, 57, 58, 59, 60, 61, 62, 63, 64, 65, 66] (by decide +kernel) (by decide +kernel)
set_option maxRecDepth 20000 in
theorem gX11_lump_X4_addLump : GoodIn wsX11_lump (wsV RX11 79 RX4 yX4_addLump wsX4_addLump) := goodIn_app (goodIn_of _ (by decide +kernel)) ggX11_lump_X4_addLump
set_option maxRecDepth 20000 in
theorem ggX11_lump_X11_counted : GoodIn wsX11_lump wsX11_counted := goodIn_r _ [35, 36, 37, 38, 39, 40, 41, 42, 43, 44, 45, 46, 47, 48, 49, 50] (by decide +kernel) (by decide +kernel)
set_option maxRecDepth 20000 in
theorem gX11_lump_X11_counted : GoodIn wsX11_lump (wsV RX11 72 RX11 yX11_counted wsX11_counted) := goodIn_app (goodIn_of _ (by decide +kernel)) ggX11_lump_X11_counted
theorem dX11_lump_0 : decode cX11_lump 0 = .ok (.aload_n 0, 1) := by decide +kernel
theorem dX11_lump_1 : decode cX11_lump 1 = .ok (.aload_n 0, 1) := by decide +kernel
theorem dX11_lump_2 : decode cX11_lump 2 = .ok (.getfield 12, 3) := by decide +kernel
theorem dX11_lump_5 : decode cX11_lump 5 = .ok (.iload_n 1, 1) := by decide +kernel
theorem dX11_lump_6 : decode cX11_lump 6 = .ok (.iload_n 2, 1) := by decide +kernel
theorem dX11_lump_7 : decode cX11_lump 7 = .ok (.iload_n 3, 1) := by decide +kernel
theorem dX11_lump_8 : decode cX11_lump 8 = .ok (.invokevirtual 79, 3) := by decide +kernel
theorem dX11_lump_11 : decode cX11_lump 11 = .ok (.invokevirtual 72, 3) := by decide +kernel
theorem dX11_lump_14 : decode cX11_lump 14 = .ok (.ireturn, 1) := by decide +kernel
set_option maxRecDepth 20000 in
theorem ggX11_type_X10_append : GoodIn wsX11_type wsX10_append := goodIn_r _ [6, 7, 8, 9, 10, 11, 31, 32, 33, 34, 35, 36] (by decide +kernel) (by decide +kernel)
set_option maxRecDepth 20000 in
theorem gX11_type_X10_append : GoodIn wsX11_type (wsV RX11 83 RX10 yX10_append wsX10_append) := goodIn_app (goodIn_of _ (by decide +kernel)) ggX11_type_X10_append
set_option maxRecDepth 20000 in
theorem ggX11_type_X11_counted : GoodIn wsX11_type wsX11_counted := goodIn_r _ [15, 16, 17, 18, 19, 20, 21, 22, 23, 24, 25, 26, 27, 28, 29, 30] (by decide +kernel) (by decide +kernel)
set_option maxRecDepth 20000 in
theorem gX11_type_X11_counted : GoodIn wsX11_type (wsV RX11 72 RX11 yX11_counted wsX11_counted) := goodIn_app (goodIn_of _ (by decide +kernel)) ggX11_type_X11_counted
theorem dX11_type_0 : decode cX11_type 0 = .ok (.aload_n 0, 1) := by decide +kernel
theorem dX11_type_1 : decode cX11_type 1 = .ok (.aload_n 0, 1) := by decide +kernel
theorem dX11_type_2 : decode cX11_type 2 = .ok (.getfield 30, 3) := by decide +kernel
theorem dX11_type_5 : decode cX11_type 5 = .ok (.iload_n 1, 1) := by decide +kernel
theorem dX11_type_6 : decode cX11_type 6 = .ok (.invokevirtual 83, 3) := by decide +kernel
theorem dX11_type_9 : decode cX11_type 9 = .ok (.invokevirtual 72, 3) := by decide +kernel
theorem dX11_type_12 : decode cX11_type 12 = .ok (.ireturn, 1) := by decide +kernel
set_option maxRecDepth 20000 in
theorem ggX11_clear_X10_empty : GoodIn wsX11_clear wsX10_empty := goodIn_r _ [6, 7, 20, 21, 22, 23, 24, 25] (by decide +kernel) (by decide +kernel)
set_option maxRecDepth 20000 in
theorem gX11_clear_X10_empty : GoodIn wsX11_clear (wsV RX11 86 RX10 yX10_empty wsX10_empty) := goodIn_app (goodIn_of _ (by decide +kernel)) ggX11_clear_X10_empty
theorem dX11_clear_0 : decode cX11_clear 0 = .ok (.aload_n 0, 1) := by decide +kernel
theorem dX11_clear_1 : decode cX11_clear 1 = .ok (.getfield 30, 3) := by decide +kernel
theorem dX11_clear_4 : decode cX11_clear 4 = .ok (.invokevirtual 86, 3) := by decide +kernel
theorem dX11_clear_7 : decode cX11_clear 7 = .ok (.ireturn, 1) := by decide +kernel
set_option maxRecDepth 20000 in
theorem ggX11_read_X10_tell : GoodIn wsX11_read wsX10_tell := goodIn_r _ [8, 9, 10, 11, 12, 13, 14, 15, 16, 17, 18, 19, 20, 21, 22, 23, 24, 25, 26, 27, 28, 29, 30, 31, 32, 33, 34, 35, 36, 37, 38, 39, 40, 41, 42, 43, 7, 44, 45, 46, 47, 48, 49, 50, 51, 52, 53, 54, 55, 56, 57, 58, 59, 60, 61, 62, 63, 64, 65, 66, 67, 68, 69, 70, 71, 72, 73, 74, 75, 76, 77, 78, 79, 80, 81, 82, 83, 84, 85, 86, 87, 88, 89, 90, 91, 92, 93, 94, 95, 96, 97, 98, 99, 100, 101, 102, 103, 104, 105, 106, 107, 108, 109, 110, 111, 112, 113, 114, 115, 116, 117, 118, 119, 120, 121, 122, 123, 124, 125, 126, 127, 128, 129, 130, 131, 132, 133, 134, 135, 136, 137, 138, 139, 140, 141, 142, 143, 144, 145, 146, 147, 148, 149, 150, 151, 152, 153, 154, 155, 156, 157, 158, 159, 160, 161, 162, 163, 176, 177, 178, 179, 180, 181, 182, 183, 184, 185, 186, 187, 188, 189, 190, 191, 192, 193, 194, 195, 196, 197] (by decide +kernel) (by decide +kernel)
set_option maxRecDepth 20000 in
theorem gX11_read_X10_tell : GoodIn wsX11_read (wsV RX11 90 RX10 yX10_tell wsX10_tell) := goodIn_app (goodIn_of _ (by decide +kernel)) ggX11_read_X10_tell
theorem dX11_read_0 : decode cX11_read 0 = .ok (.aload_n 0, 1) := by decide +kernel
theorem dX11_read_1 : decode cX11_read 1 = .ok (.getfield 30, 3) := by decide +kernel
theorem dX11_read_4 : decode cX11_read 4 = .ok (.aload_n 0, 1) := by decide +kernel
theorem dX11_read_5 : decode cX11_read 5 = .ok (.getfield 16, 3) := by decide +kernel
theorem dX11_read_8 : decode cX11_read 8 = .ok (.invokevirtual 90, 3) := by decide +kernel
theorem dX11_read_11 : decode cX11_read 11 = .ok (.istore_n 1, 1) := by decide +kernel
theorem dX11_read_12 : decode cX11_read 12 = .ok (.iload_n 1, 1) := by decide +kernel
theorem dX11_read_13 : decode cX11_read 13 = .ok (.ifCond .le 21, 3) := by decide +kernel
theorem dX11_read_16 : decode cX11_read 16 = .ok (.aload_n 0, 1) := by decide +kernel
theorem dX11_read_17 : decode cX11_read 17 = .ok (.getfield 12, 3) := by decide +kernel
theorem dX11_read_20 : decode cX11_read 20 = .ok (.astore_n 2, 1) := by decide +kernel
theorem dX11_read_21 : decode cX11_read 21 = .ok (.aload_n 0, 1) := by decide +kernel
theorem dX11_read_22 : decode cX11_read 22 = .ok (.aload_n 0, 1) := by decide +kernel
theorem dX11_read_23 : decode cX11_read 23 = .ok (.getfield 16, 3) := by decide +kernel
theorem dX11_read_26 : decode cX11_read 26 = .ok (.putfield 12, 3) := by decide +kernel
theorem dX11_read_29 : decode cX11_read 29 = .ok (.aload_n 0, 1) := by decide +kernel
theorem dX11_read_30 : decode cX11_read 30 = .ok (.aload_n 2, 1) := by decide +kernel
theorem dX11_read_31 : decode cX11_read 31 = .ok (.putfield 16, 3) := by decide +kernel
theorem dX11_read_34 : decode cX11_read 34 = .ok (.iload_n 1, 1) := by decide +kernel
theorem dX11_read_35 : decode cX11_read 35 = .ok (.ireturn, 1) := by decide +kernel
set_option maxRecDepth 20000 in
theorem ggX11_burn_X4_hasLump : GoodIn wsX11_burn wsX4_hasLump := goodIn_r _ [6, 7, 8, 155, 156, 157, 158, 159, 160, 161, 162, 163, 164, 165, 166, 167, 168, 169, 170] (by decide +kernel) (by decide +kernel)
set_option maxRecDepth 20000 in
theorem gX11_burn_X4_hasLump : GoodIn wsX11_burn (wsV RX11 94 RX4 yX4_hasLump wsX4_hasLump) := goodIn_app (goodIn_of _ (by decide +kernel)) ggX11_burn_X4_hasLump
set_option maxRecDepth 20000 in
theorem ggX11_burn_X11_counted : GoodIn wsX11_burn wsX11_counted := goodIn_r _ [13, 14, 15, 16, 143, 144, 145, 146, 147, 148, 149, 150, 151, 152, 153, 154] (by decide +kernel) (by decide +kernel)
set_option maxRecDepth 20000 in
theorem gX11_burn_X11_counted : GoodIn wsX11_burn (wsV RX11 72 RX11 yX11_counted wsX11_counted) := goodIn_app (goodIn_of _ (by decide +kernel)) ggX11_burn_X11_counted
set_option maxRecDepth 20000 in
theorem ggX11_burn_X4_isBurnt : GoodIn wsX11_burn wsX4_isBurnt := goodIn_r _ [20, 21, 155, 156, 157, 158, 159, 160, 161, 162, 163, 164, 165, 166, 167] (by decide +kernel) (by decide +kernel)
set_option maxRecDepth 20000 in
theorem gX11_burn_X4_isBurnt : GoodIn wsX11_burn (wsV RX11 98 RX4 yX4_isBurnt wsX4_isBurnt) := goodIn_app (goodIn_of _ (by decide +kernel)) ggX11_burn_X4_isBurnt
set_option maxRecDepth 20000 in
theorem ggX11_burn_X4_worth : GoodIn wsX11_burn wsX4_worth := goodIn_r _ [25, 26, 27, 28, 29, 5, 30, 31, 32, 33, 34, 35, 7, 36, 37, 38, 39, 40, 41, 42, 43, 44, 45, 46, 47, 48, 49, 50, 51, 52, 53, 54, 55, 56, 57, 58, 59, 60, 61, 62, 63, 64, 65, 66, 67, 68, 69, 70, 71, 72, 73, 74, 75, 76, 77, 78, 79, 80, 81, 82, 83, 84, 85, 86, 87, 88, 89, 90, 91, 92, 93, 94, 95, 96, 97, 98, 99, 100, 101, 102, 103, 104, 105, 106, 107, 108, 109, 110, 111, 112, 113, 114, 115, 116, 12, 117, 118, 119, 120, 121, 122, 123, 124, 125, 126, 155, 156, 157, 158, 159, 160, 161, 162, 163, 164, 165, 166, 167, 168, 169, 170] (by decide +kernel) (by decide +kernel)
set_option maxRecDepth 20000 in
theorem gX11_burn_X4_worth : GoodIn wsX11_burn (wsV RX11 101 RX4 yX4_worth wsX4_worth) := goodIn_app (goodIn_of _ (by decide +kernel)) ggX11_burn_X4_worth
set_option maxRecDepth 20000 in
theorem ggX11_burn_X4_light : GoodIn wsX11_burn wsX4_light := goodIn_r _ [130, 131, 21, 132, 133, 134, 135, 136, 40, 137, 42, 43, 138, 139, 140, 141, 142, 32, 33, 34, 5, 35, 7, 36, 37, 38, 39, 41, 44, 45, 46, 47, 48, 49, 50, 51, 52, 53, 54, 55, 56, 57, 58, 59, 60, 61, 62, 63, 64, 65, 66, 67, 68, 69, 155, 156, 157, 158, 159, 160, 161, 162, 163, 164, 165, 166, 167, 168, 169, 170] (by decide +kernel) (by decide +kernel)
set_option maxRecDepth 20000 in
theorem gX11_burn_X4_light : GoodIn wsX11_burn (wsV RX11 104 RX4 yX4_light wsX4_light) := goodIn_app (goodIn_of _ (by decide +kernel)) ggX11_burn_X4_light
theorem dX11_burn_0 : decode cX11_burn 0 = .ok (.aload_n 0, 1) := by decide +kernel
theorem dX11_burn_1 : decode cX11_burn 1 = .ok (.getfield 12, 3) := by decide +kernel
theorem dX11_burn_4 : decode cX11_burn 4 = .ok (.iload_n 1, 1) := by decide +kernel
theorem dX11_burn_5 : decode cX11_burn 5 = .ok (.invokevirtual 94, 3) := by decide +kernel
theorem dX11_burn_8 : decode cX11_burn 8 = .ok (.ifCond .ne 10, 3) := by decide +kernel
theorem dX11_burn_11 : decode cX11_burn 11 = .ok (.aload_n 0, 1) := by decide +kernel
theorem dX11_burn_12 : decode cX11_burn 12 = .ok (.bipush (-2), 2) := by decide +kernel
theorem dX11_burn_14 : decode cX11_burn 14 = .ok (.invokevirtual 72, 3) := by decide +kernel
theorem dX11_burn_17 : decode cX11_burn 17 = .ok (.ireturn, 1) := by decide +kernel
theorem dX11_burn_18 : decode cX11_burn 18 = .ok (.aload_n 0, 1) := by decide +kernel
theorem dX11_burn_19 : decode cX11_burn 19 = .ok (.getfield 12, 3) := by decide +kernel
theorem dX11_burn_22 : decode cX11_burn 22 = .ok (.iload_n 1, 1) := by decide +kernel
theorem dX11_burn_23 : decode cX11_burn 23 = .ok (.invokevirtual 98, 3) := by decide +kernel
theorem dX11_burn_26 : decode cX11_burn 26 = .ok (.ifCond .eq 10, 3) := by decide +kernel
theorem dX11_burn_29 : decode cX11_burn 29 = .ok (.aload_n 0, 1) := by decide +kernel
theorem dX11_burn_30 : decode cX11_burn 30 = .ok (.bipush (-3), 2) := by decide +kernel
theorem dX11_burn_32 : decode cX11_burn 32 = .ok (.invokevirtual 72, 3) := by decide +kernel
theorem dX11_burn_35 : decode cX11_burn 35 = .ok (.ireturn, 1) := by decide +kernel
theorem dX11_burn_36 : decode cX11_burn 36 = .ok (.aload_n 0, 1) := by decide +kernel
theorem dX11_burn_37 : decode cX11_burn 37 = .ok (.getfield 12, 3) := by decide +kernel
theorem dX11_burn_40 : decode cX11_burn 40 = .ok (.iload_n 1, 1) := by decide +kernel
theorem dX11_burn_41 : decode cX11_burn 41 = .ok (.invokevirtual 101, 3) := by decide +kernel
theorem dX11_burn_44 : decode cX11_burn 44 = .ok (.istore_n 2, 1) := by decide +kernel
theorem dX11_burn_45 : decode cX11_burn 45 = .ok (.aload_n 0, 1) := by decide +kernel
theorem dX11_burn_46 : decode cX11_burn 46 = .ok (.getfield 12, 3) := by decide +kernel
theorem dX11_burn_49 : decode cX11_burn 49 = .ok (.iload_n 1, 1) := by decide +kernel
theorem dX11_burn_50 : decode cX11_burn 50 = .ok (.iload_n 2, 1) := by decide +kernel
theorem dX11_burn_51 : decode cX11_burn 51 = .ok (.invokevirtual 104, 3) := by decide +kernel
theorem dX11_burn_54 : decode cX11_burn 54 = .ok (.iload_n 2, 1) := by decide +kernel
theorem dX11_burn_55 : decode cX11_burn 55 = .ok (.ireturn, 1) := by decide +kernel
set_option maxRecDepth 20000 in
theorem ggX11_undo_X4_goBack : GoodIn wsX11_undo wsX4_goBack := goodIn_r _ [6, 7, 8, 9, 10, 11, 12, 13, 14, 15, 16, 17, 18, 19, 20, 21, 22, 43, 44, 45, 46, 47, 48, 49, 50, 51, 52, 53, 54, 55, 56, 57, 58] (by decide +kernel) (by decide +kernel)
set_option maxRecDepth 20000 in
theorem gX11_undo_X4_goBack : GoodIn wsX11_undo (wsV RX11 108 RX4 yX4_goBack wsX4_goBack) := goodIn_app (goodIn_of _ (by decide +kernel)) ggX11_undo_X4_goBack
set_option maxRecDepth 20000 in
theorem ggX11_undo_X11_counted : GoodIn wsX11_undo wsX11_counted := goodIn_r _ [27, 28, 29, 30, 31, 32, 33, 34, 35, 36, 37, 38, 39, 40, 41, 42] (by decide +kernel) (by decide +kernel)
set_option maxRecDepth 20000 in
theorem gX11_undo_X11_counted : GoodIn wsX11_undo (wsV RX11 72 RX11 yX11_counted wsX11_counted) := goodIn_app (goodIn_of _ (by decide +kernel)) ggX11_undo_X11_counted
theorem dX11_undo_0 : decode cX11_undo 0 = .ok (.aload_n 0, 1) := by decide +kernel
theorem dX11_undo_1 : decode cX11_undo 1 = .ok (.aload_n 0, 1) := by decide +kernel
theorem dX11_undo_2 : decode cX11_undo 2 = .ok (.getfield 12, 3) := by decide +kernel
theorem dX11_undo_5 : decode cX11_undo 5 = .ok (.invokevirtual 108, 3) := by decide +kernel
theorem dX11_undo_8 : decode cX11_undo 8 = .ok (.invokevirtual 72, 3) := by decide +kernel
theorem dX11_undo_11 : decode cX11_undo 11 = .ok (.ireturn, 1) := by decide +kernel
set_option maxRecDepth 20000 in
theorem ggX11_of_X4_hasLump : GoodIn wsX11_of wsX4_hasLump := goodIn_r _ [7, 8, 9, 143, 144, 145, 146, 147, 148, 149, 150, 151, 152, 153, 154, 155, 156, 157, 158] (by decide +kernel) (by decide +kernel)
set_option maxRecDepth 20000 in
theorem gX11_of_X4_hasLump : GoodIn wsX11_of (wsV RX11 94 RX4 yX4_hasLump wsX4_hasLump) := goodIn_app (goodIn_of _ (by decide +kernel)) ggX11_of_X4_hasLump
set_option maxRecDepth 20000 in
theorem ggX11_of_X11_counted : GoodIn wsX11_of wsX11_counted := goodIn_r _ [14, 15, 16, 17, 131, 132, 133, 134, 135, 136, 137, 138, 139, 140, 141, 142] (by decide +kernel) (by decide +kernel)
set_option maxRecDepth 20000 in
theorem gX11_of_X11_counted : GoodIn wsX11_of (wsV RX11 72 RX11 yX11_counted wsX11_counted) := goodIn_app (goodIn_of _ (by decide +kernel)) ggX11_of_X11_counted
set_option maxRecDepth 20000 in
theorem ggX11_of_X9_at : GoodIn wsX11_of wsX9_at := goodIn_r _ [22, 23, 24, 156, 157, 158] (by decide +kernel) (by decide +kernel)
set_option maxRecDepth 20000 in
theorem gX11_of_X9_at : GoodIn wsX11_of (wsV RX11 111 RX9 yX9_at wsX9_at) := goodIn_app (goodIn_of _ (by decide +kernel)) ggX11_of_X9_at
set_option maxRecDepth 20000 in
theorem ggX11_of_X4_isBurnt : GoodIn wsX11_of wsX4_isBurnt := goodIn_r _ [28, 29, 143, 144, 145, 146, 147, 148, 149, 150, 151, 152, 153, 154, 155] (by decide +kernel) (by decide +kernel)
set_option maxRecDepth 20000 in
theorem gX11_of_X4_isBurnt : GoodIn wsX11_of (wsV RX11 98 RX4 yX4_isBurnt wsX4_isBurnt) := goodIn_app (goodIn_of _ (by decide +kernel)) ggX11_of_X4_isBurnt
set_option maxRecDepth 20000 in
theorem ggX11_of_X4_steps : GoodIn wsX11_of wsX4_steps := goodIn_r _ [33, 8, 34, 35, 19, 20, 21, 22, 23, 24, 36, 37, 38, 39, 40, 41, 42, 43, 44, 45, 46, 47, 48, 49, 50, 51, 52, 53, 54, 55, 56, 57, 58, 59, 60, 61, 143, 144, 145, 146, 147, 148, 149, 150, 151, 152, 153, 154, 155, 156, 157, 158] (by decide +kernel) (by decide +kernel)
set_option maxRecDepth 20000 in
theorem gX11_of_X4_steps : GoodIn wsX11_of (wsV RX11 114 RX4 yX4_steps wsX4_steps) := goodIn_app (goodIn_of _ (by decide +kernel)) ggX11_of_X4_steps
set_option maxRecDepth 20000 in
theorem ggX11_of_X4_writeShown : GoodIn wsX11_of wsX4_writeShown := goodIn_r _ [65, 66, 67, 31, 32, 6, 33, 8, 34, 35, 19, 20, 21, 22, 23, 24, 36, 37, 38, 39, 40, 41, 42, 43, 44, 45, 46, 47, 48, 49, 50, 51, 52, 53, 54, 55, 56, 57, 58, 59, 60, 61, 68, 69, 70, 71, 72, 73, 74, 75, 76, 77, 78, 79, 80, 81, 82, 83, 84, 85, 86, 87, 88, 89, 90, 91, 92, 93, 94, 95, 96, 97, 98, 99, 100, 101, 102, 103, 104, 105, 106, 107, 108, 109, 110, 111, 112, 113, 114, 13, 115, 116, 117, 118, 143, 144, 145, 146, 147, 148, 149, 150, 151, 152, 153, 154, 155, 156, 157, 158] (by decide +kernel) (by decide +kernel)
set_option maxRecDepth 20000 in
theorem gX11_of_X4_writeShown : GoodIn wsX11_of (wsV RX11 117 RX4 yX4_writeShown wsX4_writeShown) := goodIn_app (goodIn_of _ (by decide +kernel)) ggX11_of_X4_writeShown
set_option maxRecDepth 20000 in
theorem ggX11_of_X4_worth : GoodIn wsX11_of wsX4_worth := goodIn_r _ [122, 123, 124, 63, 64, 6, 65, 66, 67, 31, 32, 33, 8, 34, 35, 19, 20, 21, 22, 23, 24, 36, 37, 38, 39, 40, 41, 42, 43, 44, 45, 46, 47, 48, 49, 50, 51, 52, 53, 54, 55, 56, 57, 58, 59, 60, 61, 68, 69, 70, 71, 72, 73, 74, 75, 76, 77, 78, 79, 80, 81, 82, 83, 84, 85, 86, 87, 88, 89, 90, 91, 92, 93, 94, 95, 96, 97, 98, 99, 100, 101, 102, 103, 104, 105, 106, 107, 108, 109, 110, 111, 112, 113, 114, 13, 115, 116, 117, 118, 125, 126, 127, 128, 129, 130, 143, 144, 145, 146, 147, 148, 149, 150, 151, 152, 153, 154, 155, 156, 157, 158] (by decide +kernel) (by decide +kernel)
set_option maxRecDepth 20000 in
theorem gX11_of_X4_worth : GoodIn wsX11_of (wsV RX11 101 RX4 yX4_worth wsX4_worth) := goodIn_app (goodIn_of _ (by decide +kernel)) ggX11_of_X4_worth
theorem dX11_of_0 : decode cX11_of 0 = .ok (.aload_n 0, 1) := by decide +kernel
theorem dX11_of_1 : decode cX11_of 1 = .ok (.getfield 12, 3) := by decide +kernel
theorem dX11_of_4 : decode cX11_of 4 = .ok (.iload_n 1, 1) := by decide +kernel
theorem dX11_of_5 : decode cX11_of 5 = .ok (.invokevirtual 94, 3) := by decide +kernel
theorem dX11_of_8 : decode cX11_of 8 = .ok (.ifCond .ne 10, 3) := by decide +kernel
theorem dX11_of_11 : decode cX11_of 11 = .ok (.aload_n 0, 1) := by decide +kernel
theorem dX11_of_12 : decode cX11_of 12 = .ok (.bipush (-2), 2) := by decide +kernel
theorem dX11_of_14 : decode cX11_of 14 = .ok (.invokevirtual 72, 3) := by decide +kernel
theorem dX11_of_17 : decode cX11_of 17 = .ok (.ireturn, 1) := by decide +kernel
theorem dX11_of_18 : decode cX11_of 18 = .ok (.iload_n 2, 1) := by decide +kernel
theorem dX11_of_19 : decode cX11_of 19 = .ok (.tableswitch 124 0 6 #[41, 54, 67, 80, 97, 106, 115], 41) := by decide +kernel
theorem dX11_of_60 : decode cX11_of 60 = .ok (.aload_n 0, 1) := by decide +kernel
theorem dX11_of_61 : decode cX11_of 61 = .ok (.getfield 12, 3) := by decide +kernel
theorem dX11_of_64 : decode cX11_of 64 = .ok (.getfield 55, 3) := by decide +kernel
theorem dX11_of_67 : decode cX11_of 67 = .ok (.iload_n 1, 1) := by decide +kernel
theorem dX11_of_68 : decode cX11_of 68 = .ok (.iconst 0, 1) := by decide +kernel
theorem dX11_of_69 : decode cX11_of 69 = .ok (.invokevirtual 111, 3) := by decide +kernel
theorem dX11_of_72 : decode cX11_of 72 = .ok (.ireturn, 1) := by decide +kernel
theorem dX11_of_73 : decode cX11_of 73 = .ok (.aload_n 0, 1) := by decide +kernel
theorem dX11_of_74 : decode cX11_of 74 = .ok (.getfield 12, 3) := by decide +kernel
theorem dX11_of_77 : decode cX11_of 77 = .ok (.getfield 55, 3) := by decide +kernel
theorem dX11_of_80 : decode cX11_of 80 = .ok (.iload_n 1, 1) := by decide +kernel
theorem dX11_of_81 : decode cX11_of 81 = .ok (.iconst 1, 1) := by decide +kernel
theorem dX11_of_82 : decode cX11_of 82 = .ok (.invokevirtual 111, 3) := by decide +kernel
theorem dX11_of_85 : decode cX11_of 85 = .ok (.ireturn, 1) := by decide +kernel
theorem dX11_of_86 : decode cX11_of 86 = .ok (.aload_n 0, 1) := by decide +kernel
theorem dX11_of_87 : decode cX11_of 87 = .ok (.getfield 12, 3) := by decide +kernel
theorem dX11_of_90 : decode cX11_of 90 = .ok (.getfield 55, 3) := by decide +kernel
theorem dX11_of_93 : decode cX11_of 93 = .ok (.iload_n 1, 1) := by decide +kernel
theorem dX11_of_94 : decode cX11_of 94 = .ok (.iconst 2, 1) := by decide +kernel
theorem dX11_of_95 : decode cX11_of 95 = .ok (.invokevirtual 111, 3) := by decide +kernel
theorem dX11_of_98 : decode cX11_of 98 = .ok (.ireturn, 1) := by decide +kernel
theorem dX11_of_99 : decode cX11_of 99 = .ok (.aload_n 0, 1) := by decide +kernel
theorem dX11_of_100 : decode cX11_of 100 = .ok (.getfield 12, 3) := by decide +kernel
theorem dX11_of_103 : decode cX11_of 103 = .ok (.iload_n 1, 1) := by decide +kernel
theorem dX11_of_104 : decode cX11_of 104 = .ok (.invokevirtual 98, 3) := by decide +kernel
theorem dX11_of_107 : decode cX11_of 107 = .ok (.ifCond .eq 7, 3) := by decide +kernel
theorem dX11_of_110 : decode cX11_of 110 = .ok (.iconst 1, 1) := by decide +kernel
theorem dX11_of_111 : decode cX11_of 111 = .ok (.goto 4, 3) := by decide +kernel
theorem dX11_of_114 : decode cX11_of 114 = .ok (.iconst 0, 1) := by decide +kernel
theorem dX11_of_115 : decode cX11_of 115 = .ok (.ireturn, 1) := by decide +kernel
theorem dX11_of_116 : decode cX11_of 116 = .ok (.aload_n 0, 1) := by decide +kernel
theorem dX11_of_117 : decode cX11_of 117 = .ok (.getfield 12, 3) := by decide +kernel
theorem dX11_of_120 : decode cX11_of 120 = .ok (.iload_n 1, 1) := by decide +kernel
theorem dX11_of_121 : decode cX11_of 121 = .ok (.invokevirtual 114, 3) := by decide +kernel
theorem dX11_of_124 : decode cX11_of 124 = .ok (.ireturn, 1) := by decide +kernel
theorem dX11_of_125 : decode cX11_of 125 = .ok (.aload_n 0, 1) := by decide +kernel
theorem dX11_of_126 : decode cX11_of 126 = .ok (.getfield 12, 3) := by decide +kernel
theorem dX11_of_129 : decode cX11_of 129 = .ok (.iload_n 1, 1) := by decide +kernel
theorem dX11_of_130 : decode cX11_of 130 = .ok (.invokevirtual 117, 3) := by decide +kernel
theorem dX11_of_133 : decode cX11_of 133 = .ok (.ireturn, 1) := by decide +kernel
theorem dX11_of_134 : decode cX11_of 134 = .ok (.aload_n 0, 1) := by decide +kernel
theorem dX11_of_135 : decode cX11_of 135 = .ok (.getfield 12, 3) := by decide +kernel
theorem dX11_of_138 : decode cX11_of 138 = .ok (.iload_n 1, 1) := by decide +kernel
theorem dX11_of_139 : decode cX11_of 139 = .ok (.invokevirtual 101, 3) := by decide +kernel
theorem dX11_of_142 : decode cX11_of 142 = .ok (.ireturn, 1) := by decide +kernel
theorem dX11_of_143 : decode cX11_of 143 = .ok (.aload_n 0, 1) := by decide +kernel
theorem dX11_of_144 : decode cX11_of 144 = .ok (.bipush (-2), 2) := by decide +kernel
theorem dX11_of_146 : decode cX11_of 146 = .ok (.invokevirtual 72, 3) := by decide +kernel
theorem dX11_of_149 : decode cX11_of 149 = .ok (.ireturn, 1) := by decide +kernel
set_option maxRecDepth 20000 in
theorem ggX11_shows_X4_hasLump : GoodIn wsX11_shows wsX4_hasLump := goodIn_r _ [6, 7, 8, 87, 88, 89, 90, 91, 92, 93, 94, 95, 96, 97, 98, 99, 100, 101, 102] (by decide +kernel) (by decide +kernel)
set_option maxRecDepth 20000 in
theorem gX11_shows_X4_hasLump : GoodIn wsX11_shows (wsV RX11 94 RX4 yX4_hasLump wsX4_hasLump) := goodIn_app (goodIn_of _ (by decide +kernel)) ggX11_shows_X4_hasLump
set_option maxRecDepth 20000 in
theorem ggX11_shows_X11_within : GoodIn wsX11_shows wsX11_within := goodIn_r _ [12] (by decide +kernel) (by decide +kernel)
set_option maxRecDepth 20000 in
theorem gX11_shows_X11_within : GoodIn wsX11_shows (va_wsS RX11 120 yX11_within wsX11_within) := goodIn_app (goodIn_of _ (by decide +kernel)) ggX11_shows_X11_within
set_option maxRecDepth 20000 in
theorem ggX11_shows_X11_counted : GoodIn wsX11_shows wsX11_counted := goodIn_r _ [16, 17, 18, 19, 75, 76, 77, 78, 79, 80, 81, 82, 83, 84, 85, 86] (by decide +kernel) (by decide +kernel)
set_option maxRecDepth 20000 in
theorem gX11_shows_X11_counted : GoodIn wsX11_shows (wsV RX11 72 RX11 yX11_counted wsX11_counted) := goodIn_app (goodIn_of _ (by decide +kernel)) ggX11_shows_X11_counted
set_option maxRecDepth 20000 in
theorem ggX11_shows_X4_layerShown : GoodIn wsX11_shows wsX4_layerShown := goodIn_r _ [23, 7, 24, 25, 26, 27, 28, 29, 30, 31, 32, 33, 34, 35, 36, 37, 38, 39, 40, 41, 42, 43, 44, 45, 46, 47, 48, 49, 50, 51, 52, 53, 54, 55, 56, 57, 58, 59, 60, 61, 62, 63, 64, 65, 66, 67, 68, 69, 70, 71, 72, 73, 5, 74, 87, 88, 89, 90, 91, 92, 93, 94, 95, 96, 97, 98, 99, 100, 101, 102] (by decide +kernel) (by decide +kernel)
set_option maxRecDepth 20000 in
theorem gX11_shows_X4_layerShown : GoodIn wsX11_shows (wsV RX11 124 RX4 yX4_layerShown wsX4_layerShown) := goodIn_app (goodIn_of _ (by decide +kernel)) ggX11_shows_X4_layerShown
theorem dX11_shows_0 : decode cX11_shows 0 = .ok (.aload_n 0, 1) := by decide +kernel
theorem dX11_shows_1 : decode cX11_shows 1 = .ok (.getfield 12, 3) := by decide +kernel
theorem dX11_shows_4 : decode cX11_shows 4 = .ok (.iload_n 1, 1) := by decide +kernel
theorem dX11_shows_5 : decode cX11_shows 5 = .ok (.invokevirtual 94, 3) := by decide +kernel
theorem dX11_shows_8 : decode cX11_shows 8 = .ok (.ifCond .eq 13, 3) := by decide +kernel
theorem dX11_shows_11 : decode cX11_shows 11 = .ok (.iload_n 2, 1) := by decide +kernel
theorem dX11_shows_12 : decode cX11_shows 12 = .ok (.iconst 0, 1) := by decide +kernel
theorem dX11_shows_13 : decode cX11_shows 13 = .ok (.bipush 20, 2) := by decide +kernel
theorem dX11_shows_15 : decode cX11_shows 15 = .ok (.invokestatic 120, 3) := by decide +kernel
theorem dX11_shows_18 : decode cX11_shows 18 = .ok (.ifCond .ne 10, 3) := by decide +kernel
theorem dX11_shows_21 : decode cX11_shows 21 = .ok (.aload_n 0, 1) := by decide +kernel
theorem dX11_shows_22 : decode cX11_shows 22 = .ok (.bipush (-2), 2) := by decide +kernel
theorem dX11_shows_24 : decode cX11_shows 24 = .ok (.invokevirtual 72, 3) := by decide +kernel
theorem dX11_shows_27 : decode cX11_shows 27 = .ok (.ireturn, 1) := by decide +kernel
theorem dX11_shows_28 : decode cX11_shows 28 = .ok (.aload_n 0, 1) := by decide +kernel
theorem dX11_shows_29 : decode cX11_shows 29 = .ok (.getfield 12, 3) := by decide +kernel
theorem dX11_shows_32 : decode cX11_shows 32 = .ok (.iload_n 1, 1) := by decide +kernel
theorem dX11_shows_33 : decode cX11_shows 33 = .ok (.iload_n 2, 1) := by decide +kernel
theorem dX11_shows_34 : decode cX11_shows 34 = .ok (.invokevirtual 124, 3) := by decide +kernel
theorem dX11_shows_37 : decode cX11_shows 37 = .ok (.ireturn, 1) := by decide +kernel
set_option maxRecDepth 20000 in
theorem ggX11_clash_X4_hasLump : GoodIn wsX11_clash wsX4_hasLump := goodIn_r _ [6, 7, 8, 122, 123, 124, 125, 126, 127, 128, 129, 130, 131, 132, 133, 134, 135, 136, 137] (by decide +kernel) (by decide +kernel)
set_option maxRecDepth 20000 in
theorem gX11_clash_X4_hasLump : GoodIn wsX11_clash (wsV RX11 94 RX4 yX4_hasLump wsX4_hasLump) := goodIn_app (goodIn_of _ (by decide +kernel)) ggX11_clash_X4_hasLump
set_option maxRecDepth 20000 in
theorem ggX11_clash_X11_within : GoodIn wsX11_clash wsX11_within := goodIn_r _ [12] (by decide +kernel) (by decide +kernel)
set_option maxRecDepth 20000 in
theorem gX11_clash_X11_within : GoodIn wsX11_clash (va_wsS RX11 120 yX11_within wsX11_within) := goodIn_app (goodIn_of _ (by decide +kernel)) ggX11_clash_X11_within
set_option maxRecDepth 20000 in
theorem ggX11_clash_X11_counted : GoodIn wsX11_clash wsX11_counted := goodIn_r _ [16, 17, 18, 19, 110, 111, 112, 113, 114, 115, 116, 117, 118, 119, 120, 121] (by decide +kernel) (by decide +kernel)
set_option maxRecDepth 20000 in
theorem gX11_clash_X11_counted : GoodIn wsX11_clash (wsV RX11 72 RX11 yX11_counted wsX11_counted) := goodIn_app (goodIn_of _ (by decide +kernel)) ggX11_clash_X11_counted
set_option maxRecDepth 20000 in
theorem ggX11_clash_X4_firstClash : GoodIn wsX11_clash wsX4_firstClash := goodIn_r _ [23, 24, 25, 26, 5, 27, 7, 28, 29, 30, 31, 32, 33, 34, 35, 36, 37, 38, 39, 40, 41, 42, 43, 44, 45, 46, 47, 48, 49, 50, 51, 52, 53, 54, 55, 56, 57, 58, 59, 60, 61, 62, 63, 64, 65, 66, 67, 68, 69, 70, 71, 72, 73, 74, 75, 76, 77, 78, 79, 80, 81, 82, 83, 84, 85, 86, 87, 88, 89, 90, 91, 92, 93, 94, 95, 96, 97, 98, 99, 100, 101, 102, 103, 104, 105, 106, 107, 108, 11, 109, 9, 10, 12, 122, 123, 124, 125, 126, 127, 128, 129, 130, 131, 132, 133, 134, 135, 136, 137] (by decide +kernel) (by decide +kernel)
set_option maxRecDepth 20000 in
theorem gX11_clash_X4_firstClash : GoodIn wsX11_clash (wsV RX11 127 RX4 yX4_firstClash wsX4_firstClash) := goodIn_app (goodIn_of _ (by decide +kernel)) ggX11_clash_X4_firstClash
theorem dX11_clash_0 : decode cX11_clash 0 = .ok (.aload_n 0, 1) := by decide +kernel
theorem dX11_clash_1 : decode cX11_clash 1 = .ok (.getfield 12, 3) := by decide +kernel
theorem dX11_clash_4 : decode cX11_clash 4 = .ok (.iload_n 1, 1) := by decide +kernel
theorem dX11_clash_5 : decode cX11_clash 5 = .ok (.invokevirtual 94, 3) := by decide +kernel
theorem dX11_clash_8 : decode cX11_clash 8 = .ok (.ifCond .eq 29, 3) := by decide +kernel
theorem dX11_clash_11 : decode cX11_clash 11 = .ok (.aload_n 0, 1) := by decide +kernel
theorem dX11_clash_12 : decode cX11_clash 12 = .ok (.getfield 12, 3) := by decide +kernel
theorem dX11_clash_15 : decode cX11_clash 15 = .ok (.iload_n 2, 1) := by decide +kernel
theorem dX11_clash_16 : decode cX11_clash 16 = .ok (.invokevirtual 94, 3) := by decide +kernel
theorem dX11_clash_19 : decode cX11_clash 19 = .ok (.ifCond .eq 18, 3) := by decide +kernel
theorem dX11_clash_22 : decode cX11_clash 22 = .ok (.iload_n 1, 1) := by decide +kernel
theorem dX11_clash_23 : decode cX11_clash 23 = .ok (.iload_n 2, 1) := by decide +kernel
theorem dX11_clash_24 : decode cX11_clash 24 = .ok (.if_icmp .eq 13, 3) := by decide +kernel
theorem dX11_clash_27 : decode cX11_clash 27 = .ok (.iload_n 3, 1) := by decide +kernel
