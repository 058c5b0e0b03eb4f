set_option maxRecDepth 20000 in
theorem gX11_isLayer_X11_within : GoodIn wsX11_isLayer (va_wsS RX11 120 yX11_within wsX11_within) := goodIn_app (goodIn_of _ (by decide +kernel)) ggX11_isLayer_X11_within
theorem dX11_isLayer_0 : decode cX11_isLayer 0 = .ok (.iload_n 0, 1) := by decide +kernel
theorem dX11_isLayer_1 : decode cX11_isLayer 1 = .ok (.iconst 0, 1) := by decide +kernel
theorem dX11_isLayer_2 : decode cX11_isLayer 2 = .ok (.bipush 11, 2) := by decide +kernel
theorem dX11_isLayer_4 : decode cX11_isLayer 4 = .ok (.invokestatic 120, 3) := by decide +kernel
theorem dX11_isLayer_7 : decode cX11_isLayer 7 = .ok (.ireturn, 1) := by decide +kernel
set_option maxRecDepth 20000 in
theorem ggX11_isWeather_X11_within : GoodIn wsX11_isWeather wsX11_within := goodIn_r _ [4] (by decide +kernel) (by decide +kernel)
set_option maxRecDepth 20000 in
theorem gX11_isWeather_X11_within : GoodIn wsX11_isWeather (va_wsS RX11 120 yX11_within wsX11_within) := goodIn_app (goodIn_of _ (by decide +kernel)) ggX11_isWeather_X11_within
theorem dX11_isWeather_0 : decode cX11_isWeather 0 = .ok (.iload_n 0, 1) := by decide +kernel
theorem dX11_isWeather_1 : decode cX11_isWeather 1 = .ok (.iconst 0, 1) := by decide +kernel
theorem dX11_isWeather_2 : decode cX11_isWeather 2 = .ok (.iconst 5, 1) := by decide +kernel
theorem dX11_isWeather_3 : decode cX11_isWeather 3 = .ok (.invokestatic 120, 3) := by decide +kernel
theorem dX11_isWeather_6 : decode cX11_isWeather 6 = .ok (.ireturn, 1) := by decide +kernel
set_option maxRecDepth 20000 in
theorem ggX11_isSize_X11_within : GoodIn wsX11_isSize wsX11_within := goodIn_r _ [4] (by decide +kernel) (by decide +kernel)
set_option maxRecDepth 20000 in
theorem gX11_isSize_X11_within : GoodIn wsX11_isSize (va_wsS RX11 120 yX11_within wsX11_within) := goodIn_app (goodIn_of _ (by decide +kernel)) ggX11_isSize_X11_within
theorem dX11_isSize_0 : decode cX11_isSize 0 = .ok (.iload_n 0, 1) := by decide +kernel
theorem dX11_isSize_1 : decode cX11_isSize 1 = .ok (.iconst 1, 1) := by decide +kernel
theorem dX11_isSize_2 : decode cX11_isSize 2 = .ok (.bipush 6, 2) := by decide +kernel
theorem dX11_isSize_4 : decode cX11_isSize 4 = .ok (.invokestatic 120, 3) := by decide +kernel
theorem dX11_isSize_7 : decode cX11_isSize 7 = .ok (.ireturn, 1) := by decide +kernel
theorem dX11_mixed_0 : decode cX11_mixed 0 = .ok (.ldc2_w 261, 3) := by decide +kernel
theorem dX11_mixed_3 : decode cX11_mixed 3 = .ok (.lload_n 0, 1) := by decide +kernel
theorem dX11_mixed_4 : decode cX11_mixed 4 = .ok (.lmul, 1) := by decide +kernel
theorem dX11_mixed_5 : decode cX11_mixed 5 = .ok (.lload_n 2, 1) := by decide +kernel
theorem dX11_mixed_6 : decode cX11_mixed 6 = .ok (.ladd, 1) := by decide +kernel
theorem dX11_mixed_7 : decode cX11_mixed 7 = .ok (.lreturn, 1) := by decide +kernel
set_option maxRecDepth 20000 in
theorem ggX12_init_X12_anew : GoodIn wsX12_init wsX12_anew := goodIn_r _ [27, 28, 29, 26, 30] (by decide +kernel) (by decide +kernel)
set_option maxRecDepth 20000 in
theorem gX12_init_X12_anew : GoodIn wsX12_init (va_wsS RX12 64 yX12_anew wsX12_anew) := goodIn_app (goodIn_of _ (by decide +kernel)) ggX12_init_X12_anew
theorem dX12_init_0 : decode cX12_init 0 = .ok (.aload_n 0, 1) := by decide +kernel
theorem dX12_init_1 : decode cX12_init 1 = .ok (.invokespecial 1, 3) := by decide +kernel
theorem dX12_init_4 : decode cX12_init 4 = .ok (.aload_n 0, 1) := by decide +kernel
theorem dX12_init_5 : decode cX12_init 5 = .ok (.iconst 3, 1) := by decide +kernel
theorem dX12_init_6 : decode cX12_init 6 = .ok (.newarray .int, 2) := by decide +kernel
theorem dX12_init_8 : decode cX12_init 8 = .ok (.putfield 7, 3) := by decide +kernel
theorem dX12_init_11 : decode cX12_init 11 = .ok (.aload_n 0, 1) := by decide +kernel
theorem dX12_init_12 : decode cX12_init 12 = .ok (.lconst 1, 1) := by decide +kernel
theorem dX12_init_13 : decode cX12_init 13 = .ok (.putfield 13, 3) := by decide +kernel
theorem dX12_init_16 : decode cX12_init 16 = .ok (.aload_n 0, 1) := by decide +kernel
theorem dX12_init_17 : decode cX12_init 17 = .ok (.bipush 126, 2) := by decide +kernel
theorem dX12_init_19 : decode cX12_init 19 = .ok (.newarray .int, 2) := by decide +kernel
theorem dX12_init_21 : decode cX12_init 21 = .ok (.putfield 17, 3) := by decide +kernel
theorem dX12_init_24 : decode cX12_init 24 = .ok (.aload_n 0, 1) := by decide +kernel
theorem dX12_init_25 : decode cX12_init 25 = .ok (.bipush 126, 2) := by decide +kernel
theorem dX12_init_27 : decode cX12_init 27 = .ok (.newarray .int, 2) := by decide +kernel
theorem dX12_init_29 : decode cX12_init 29 = .ok (.putfield 20, 3) := by decide +kernel
theorem dX12_init_32 : decode cX12_init 32 = .ok (.aload_n 0, 1) := by decide +kernel
theorem dX12_init_33 : decode cX12_init 33 = .ok (.sipush 150, 3) := by decide +kernel
theorem dX12_init_36 : decode cX12_init 36 = .ok (.newarray .int, 2) := by decide +kernel
theorem dX12_init_38 : decode cX12_init 38 = .ok (.putfield 23, 3) := by decide +kernel
theorem dX12_init_41 : decode cX12_init 41 = .ok (.aload_n 0, 1) := by decide +kernel
theorem dX12_init_42 : decode cX12_init 42 = .ok (.iconst 3, 1) := by decide +kernel
theorem dX12_init_43 : decode cX12_init 43 = .ok (.newarray .int, 2) := by decide +kernel
theorem dX12_init_45 : decode cX12_init 45 = .ok (.putfield 26, 3) := by decide +kernel
theorem dX12_init_48 : decode cX12_init 48 = .ok (.aload_n 0, 1) := by decide +kernel
theorem dX12_init_49 : decode cX12_init 49 = .ok (.sipush 256, 3) := by decide +kernel
theorem dX12_init_52 : decode cX12_init 52 = .ok (.newarray .int, 2) := by decide +kernel
theorem dX12_init_54 : decode cX12_init 54 = .ok (.putfield 29, 3) := by decide +kernel
theorem dX12_init_57 : decode cX12_init 57 = .ok (.aload_n 0, 1) := by decide +kernel
theorem dX12_init_58 : decode cX12_init 58 = .ok (.sipush 256, 3) := by decide +kernel
theorem dX12_init_61 : decode cX12_init 61 = .ok (.newarray .int, 2) := by decide +kernel
theorem dX12_init_63 : decode cX12_init 63 = .ok (.putfield 32, 3) := by decide +kernel
theorem dX12_init_66 : decode cX12_init 66 = .ok (.aload_n 0, 1) := by decide +kernel
theorem dX12_init_67 : decode cX12_init 67 = .ok (.sipush 256, 3) := by decide +kernel
theorem dX12_init_70 : decode cX12_init 70 = .ok (.newarray .int, 2) := by decide +kernel
theorem dX12_init_72 : decode cX12_init 72 = .ok (.putfield 35, 3) := by decide +kernel
theorem dX12_init_75 : decode cX12_init 75 = .ok (.aload_n 0, 1) := by decide +kernel
theorem dX12_init_76 : decode cX12_init 76 = .ok (.bipush 13, 2) := by decide +kernel
theorem dX12_init_78 : decode cX12_init 78 = .ok (.newarray .int, 2) := by decide +kernel
theorem dX12_init_80 : decode cX12_init 80 = .ok (.putfield 38, 3) := by decide +kernel
theorem dX12_init_83 : decode cX12_init 83 = .ok (.aload_n 0, 1) := by decide +kernel
theorem dX12_init_84 : decode cX12_init 84 = .ok (.bipush 13, 2) := by decide +kernel
theorem dX12_init_86 : decode cX12_init 86 = .ok (.newarray .int, 2) := by decide +kernel
theorem dX12_init_88 : decode cX12_init 88 = .ok (.putfield 41, 3) := by decide +kernel
theorem dX12_init_91 : decode cX12_init 91 = .ok (.aload_n 0, 1) := by decide +kernel
theorem dX12_init_92 : decode cX12_init 92 = .ok (.bipush 13, 2) := by decide +kernel
theorem dX12_init_94 : decode cX12_init 94 = .ok (.newarray .int, 2) := by decide +kernel
theorem dX12_init_96 : decode cX12_init 96 = .ok (.putfield 44, 3) := by decide +kernel
theorem dX12_init_99 : decode cX12_init 99 = .ok (.aload_n 0, 1) := by decide +kernel
theorem dX12_init_100 : decode cX12_init 100 = .ok (.bipush 7, 2) := by decide +kernel
theorem dX12_init_102 : decode cX12_init 102 = .ok (.newarray .int, 2) := by decide +kernel
theorem dX12_init_104 : decode cX12_init 104 = .ok (.putfield 47, 3) := by decide +kernel
theorem dX12_init_107 : decode cX12_init 107 = .ok (.aload_n 0, 1) := by decide +kernel
theorem dX12_init_108 : decode cX12_init 108 = .ok (.bipush 108, 2) := by decide +kernel
theorem dX12_init_110 : decode cX12_init 110 = .ok (.newarray .long, 2) := by decide +kernel
theorem dX12_init_112 : decode cX12_init 112 = .ok (.putfield 50, 3) := by decide +kernel
theorem dX12_init_115 : decode cX12_init 115 = .ok (.aload_n 0, 1) := by decide +kernel
theorem dX12_init_116 : decode cX12_init 116 = .ok (.bipush 108, 2) := by decide +kernel
theorem dX12_init_118 : decode cX12_init 118 = .ok (.newarray .long, 2) := by decide +kernel
theorem dX12_init_120 : decode cX12_init 120 = .ok (.putfield 54, 3) := by decide +kernel
theorem dX12_init_123 : decode cX12_init 123 = .ok (.aload_n 0, 1) := by decide +kernel
theorem dX12_init_124 : decode cX12_init 124 = .ok (.iconst 2, 1) := by decide +kernel
theorem dX12_init_125 : decode cX12_init 125 = .ok (.newarray .boolean, 2) := by decide +kernel
theorem dX12_init_127 : decode cX12_init 127 = .ok (.putfield 57, 3) := by decide +kernel
theorem dX12_init_130 : decode cX12_init 130 = .ok (.aload_n 0, 1) := by decide +kernel
theorem dX12_init_131 : decode cX12_init 131 = .ok (.sipush 252, 3) := by decide +kernel
theorem dX12_init_134 : decode cX12_init 134 = .ok (.newarray .int, 2) := by decide +kernel
theorem dX12_init_136 : decode cX12_init 136 = .ok (.putfield 61, 3) := by decide +kernel
theorem dX12_init_139 : decode cX12_init 139 = .ok (.aload_n 0, 1) := by decide +kernel
theorem dX12_init_140 : decode cX12_init 140 = .ok (.getfield 17, 3) := by decide +kernel
theorem dX12_init_143 : decode cX12_init 143 = .ok (.invokestatic 64, 3) := by decide +kernel
theorem dX12_init_146 : decode cX12_init 146 = .ok (.return_, 1) := by decide +kernel
theorem dX12_in_0 : decode cX12_in 0 = .ok (.iload_n 0, 1) := by decide +kernel
theorem dX12_in_1 : decode cX12_in 1 = .ok (.iload_n 1, 1) := by decide +kernel
theorem dX12_in_2 : decode cX12_in 2 = .ok (.if_icmp .lt 12, 3) := by decide +kernel
theorem dX12_in_5 : decode cX12_in 5 = .ok (.iload_n 0, 1) := by decide +kernel
theorem dX12_in_6 : decode cX12_in 6 = .ok (.iload_n 2, 1) := by decide +kernel
theorem dX12_in_7 : decode cX12_in 7 = .ok (.if_icmp .gt 7, 3) := by decide +kernel
theorem dX12_in_10 : decode cX12_in 10 = .ok (.iconst 1, 1) := by decide +kernel
theorem dX12_in_11 : decode cX12_in 11 = .ok (.goto 4, 3) := by decide +kernel
theorem dX12_in_14 : decode cX12_in 14 = .ok (.iconst 0, 1) := by decide +kernel
theorem dX12_in_15 : decode cX12_in 15 = .ok (.ireturn, 1) := by decide +kernel
theorem dX12_has_0 : decode cX12_has 0 = .ok (.iload_n 0, 1) := by decide +kernel
theorem dX12_has_1 : decode cX12_has 1 = .ok (.iload_n 1, 1) := by decide +kernel
theorem dX12_has_2 : decode cX12_has 2 = .ok (.ishr, 1) := by decide +kernel
theorem dX12_has_3 : decode cX12_has 3 = .ok (.iconst 1, 1) := by decide +kernel
theorem dX12_has_4 : decode cX12_has 4 = .ok (.iand, 1) := by decide +kernel
theorem dX12_has_5 : decode cX12_has 5 = .ok (.iconst 1, 1) := by decide +kernel
theorem dX12_has_6 : decode cX12_has 6 = .ok (.if_icmp .ne 7, 3) := by decide +kernel
theorem dX12_has_9 : decode cX12_has 9 = .ok (.iconst 1, 1) := by decide +kernel
theorem dX12_has_10 : decode cX12_has 10 = .ok (.goto 4, 3) := by decide +kernel
theorem dX12_has_13 : decode cX12_has 13 = .ok (.iconst 0, 1) := by decide +kernel
theorem dX12_has_14 : decode cX12_has 14 = .ok (.ireturn, 1) := by decide +kernel
theorem dX12_bits_0 : decode cX12_bits 0 = .ok (.iconst 0, 1) := by decide +kernel
theorem dX12_bits_1 : decode cX12_bits 1 = .ok (.istore_n 1, 1) := by decide +kernel
theorem dX12_bits_2 : decode cX12_bits 2 = .ok (.iload_n 0, 1) := by decide +kernel
theorem dX12_bits_3 : decode cX12_bits 3 = .ok (.istore_n 2, 1) := by decide +kernel
theorem dX12_bits_4 : decode cX12_bits 4 = .ok (.iload_n 2, 1) := by decide +kernel
theorem dX12_bits_5 : decode cX12_bits 5 = .ok (.ifCond .eq 15, 3) := by decide +kernel
theorem dX12_bits_8 : decode cX12_bits 8 = .ok (.iinc 1 1, 3) := by decide +kernel
theorem dX12_bits_11 : decode cX12_bits 11 = .ok (.iload_n 2, 1) := by decide +kernel
theorem dX12_bits_12 : decode cX12_bits 12 = .ok (.iload_n 2, 1) := by decide +kernel
theorem dX12_bits_13 : decode cX12_bits 13 = .ok (.iconst 1, 1) := by decide +kernel
theorem dX12_bits_14 : decode cX12_bits 14 = .ok (.isub, 1) := by decide +kernel
theorem dX12_bits_15 : decode cX12_bits 15 = .ok (.iand, 1) := by decide +kernel
theorem dX12_bits_16 : decode cX12_bits 16 = .ok (.istore_n 2, 1) := by decide +kernel
theorem dX12_bits_17 : decode cX12_bits 17 = .ok (.goto (-13), 3) := by decide +kernel
theorem dX12_bits_20 : decode cX12_bits 20 = .ok (.iload_n 1, 1) := by decide +kernel
theorem dX12_bits_21 : decode cX12_bits 21 = .ok (.ireturn, 1) := by decide +kernel
theorem dX12_bad_0 : decode cX12_bad 0 = .ok (.aload_n 0, 1) := by decide +kernel
theorem dX12_bad_1 : decode cX12_bad 1 = .ok (.getfield 7, 3) := by decide +kernel
theorem dX12_bad_4 : decode cX12_bad 4 = .ok (.iconst 0, 1) := by decide +kernel
theorem dX12_bad_5 : decode cX12_bad 5 = .ok (.dup2, 1) := by decide +kernel
theorem dX12_bad_6 : decode cX12_bad 6 = .ok (.iaload, 1) := by decide +kernel
theorem dX12_bad_7 : decode cX12_bad 7 = .ok (.iconst 1, 1) := by decide +kernel
theorem dX12_bad_8 : decode cX12_bad 8 = .ok (.iadd, 1) := by decide +kernel
theorem dX12_bad_9 : decode cX12_bad 9 = .ok (.iastore, 1) := by decide +kernel
theorem dX12_bad_10 : decode cX12_bad 10 = .ok (.bipush (-2), 2) := by decide +kernel
theorem dX12_bad_12 : decode cX12_bad 12 = .ok (.ireturn, 1) := by decide +kernel
theorem dX12_wrong_0 : decode cX12_wrong 0 = .ok (.aload_n 0, 1) := by decide +kernel
theorem dX12_wrong_1 : decode cX12_wrong 1 = .ok (.getfield 7, 3) := by decide +kernel
theorem dX12_wrong_4 : decode cX12_wrong 4 = .ok (.iconst 0, 1) := by decide +kernel
theorem dX12_wrong_5 : decode cX12_wrong 5 = .ok (.dup2, 1) := by decide +kernel
theorem dX12_wrong_6 : decode cX12_wrong 6 = .ok (.iaload, 1) := by decide +kernel
theorem dX12_wrong_7 : decode cX12_wrong 7 = .ok (.iconst 1, 1) := by decide +kernel
theorem dX12_wrong_8 : decode cX12_wrong 8 = .ok (.iadd, 1) := by decide +kernel
theorem dX12_wrong_9 : decode cX12_wrong 9 = .ok (.iastore, 1) := by decide +kernel
theorem dX12_wrong_10 : decode cX12_wrong 10 = .ok (.bipush (-10), 2) := by decide +kernel
theorem dX12_wrong_12 : decode cX12_wrong 12 = .ok (.ireturn, 1) := by decide +kernel
theorem dX12_no_0 : decode cX12_no 0 = .ok (.aload_n 0, 1) := by decide +kernel
theorem dX12_no_1 : decode cX12_no 1 = .ok (.getfield 7, 3) := by decide +kernel
theorem dX12_no_4 : decode cX12_no 4 = .ok (.iconst 1, 1) := by decide +kernel
theorem dX12_no_5 : decode cX12_no 5 = .ok (.dup2, 1) := by decide +kernel
theorem dX12_no_6 : decode cX12_no 6 = .ok (.iaload, 1) := by decide +kernel
theorem dX12_no_7 : decode cX12_no 7 = .ok (.iconst 1, 1) := by decide +kernel
theorem dX12_no_8 : decode cX12_no 8 = .ok (.iadd, 1) := by decide +kernel
theorem dX12_no_9 : decode cX12_no 9 = .ok (.iastore, 1) := by decide +kernel
theorem dX12_no_10 : decode cX12_no 10 = .ok (.bipush (-3), 2) := by decide +kernel
theorem dX12_no_12 : decode cX12_no 12 = .ok (.ireturn, 1) := by decide +kernel
theorem dX12_full_0 : decode cX12_full 0 = .ok (.aload_n 0, 1) := by decide +kernel
theorem dX12_full_1 : decode cX12_full 1 = .ok (.getfield 7, 3) := by decide +kernel
theorem dX12_full_4 : decode cX12_full 4 = .ok (.iconst 2, 1) := by decide +kernel
theorem dX12_full_5 : decode cX12_full 5 = .ok (.dup2, 1) := by decide +kernel
theorem dX12_full_6 : decode cX12_full 6 = .ok (.iaload, 1) := by decide +kernel
theorem dX12_full_7 : decode cX12_full 7 = .ok (.iconst 1, 1) := by decide +kernel
theorem dX12_full_8 : decode cX12_full 8 = .ok (.iadd, 1) := by decide +kernel
theorem dX12_full_9 : decode cX12_full 9 = .ok (.iastore, 1) := by decide +kernel
theorem dX12_full_10 : decode cX12_full 10 = .ok (.bipush (-4), 2) := by decide +kernel
theorem dX12_full_12 : decode cX12_full 12 = .ok (.ireturn, 1) := by decide +kernel
set_option maxRecDepth 20000 in
theorem ggX12_status_X12_in : GoodIn wsX12_status wsX12_in := goodIn_r _ [5] (by decide +kernel) (by decide +kernel)
set_option maxRecDepth 20000 in
theorem gX12_status_X12_in : GoodIn wsX12_status (va_wsS RX12 68 yX12_in wsX12_in) := goodIn_app (goodIn_of _ (by decide +kernel)) ggX12_status_X12_in
theorem dX12_status_0 : decode cX12_status 0 = .ok (.iload_n 1, 1) := by decide +kernel
theorem dX12_status_1 : decode cX12_status 1 = .ok (.iconst 0, 1) := by decide +kernel
theorem dX12_status_2 : decode cX12_status 2 = .ok (.iconst 2, 1) := by decide +kernel
theorem dX12_status_3 : decode cX12_status 3 = .ok (.invokestatic 68, 3) := by decide +kernel
theorem dX12_status_6 : decode cX12_status 6 = .ok (.ifCond .ne 15, 3) := by decide +kernel
theorem dX12_status_9 : decode cX12_status 9 = .ok (.aload_n 0, 1) := by decide +kernel
theorem dX12_status_10 : decode cX12_status 10 = .ok (.getfield 7, 3) := by decide +kernel
theorem dX12_status_13 : decode cX12_status 13 = .ok (.iconst 0, 1) := by decide +kernel
theorem dX12_status_14 : decode cX12_status 14 = .ok (.dup2, 1) := by decide +kernel
theorem dX12_status_15 : decode cX12_status 15 = .ok (.iaload, 1) := by decide +kernel
theorem dX12_status_16 : decode cX12_status 16 = .ok (.iconst 1, 1) := by decide +kernel
theorem dX12_status_17 : decode cX12_status 17 = .ok (.iadd, 1) := by decide +kernel
theorem dX12_status_18 : decode cX12_status 18 = .ok (.iastore, 1) := by decide +kernel
theorem dX12_status_19 : decode cX12_status 19 = .ok (.iconst (-1), 1) := by decide +kernel
theorem dX12_status_20 : decode cX12_status 20 = .ok (.ireturn, 1) := by decide +kernel
theorem dX12_status_21 : decode cX12_status 21 = .ok (.aload_n 0, 1) := by decide +kernel
theorem dX12_status_22 : decode cX12_status 22 = .ok (.getfield 7, 3) := by decide +kernel
theorem dX12_status_25 : decode cX12_status 25 = .ok (.iload_n 1, 1) := by decide +kernel
theorem dX12_status_26 : decode cX12_status 26 = .ok (.iaload, 1) := by decide +kernel
theorem dX12_status_27 : decode cX12_status 27 = .ok (.ireturn, 1) := by decide +kernel
set_option maxRecDepth 20000 in
theorem ggX12_part_X12_in : GoodIn wsX12_part wsX12_in := goodIn_r _ [6] (by decide +kernel) (by decide +kernel)
set_option maxRecDepth 20000 in
theorem gX12_part_X12_in : GoodIn wsX12_part (va_wsS RX12 68 yX12_in wsX12_in) := goodIn_app (goodIn_of _ (by decide +kernel)) ggX12_part_X12_in
set_option maxRecDepth 20000 in
theorem ggX12_part_X12_bad : GoodIn wsX12_part wsX12_bad := goodIn_r _ [10, 11, 12, 13, 14, 15, 16, 17, 18, 19, 20, 21, 22, 23, 24, 25, 26, 27, 28, 29, 30, 31, 32, 33, 34, 35, 36] (by decide +kernel) (by decide +kernel)
set_option maxRecDepth 20000 in
theorem gX12_part_X12_bad : GoodIn wsX12_part (wsV RX12 72 RX12 yX12_bad wsX12_bad) := goodIn_app (goodIn_of _ (by decide +kernel)) ggX12_part_X12_bad
theorem dX12_part_0 : decode cX12_part 0 = .ok (.iload_n 1, 1) := by decide +kernel
theorem dX12_part_1 : decode cX12_part 1 = .ok (.iconst 0, 1) := by decide +kernel
theorem dX12_part_2 : decode cX12_part 2 = .ok (.iconst 1, 1) := by decide +kernel
theorem dX12_part_3 : decode cX12_part 3 = .ok (.invokestatic 68, 3) := by decide +kernel
theorem dX12_part_6 : decode cX12_part 6 = .ok (.ifCond .ne 11, 3) := by decide +kernel
theorem dX12_part_9 : decode cX12_part 9 = .ok (.aload_n 0, 1) := by decide +kernel
theorem dX12_part_10 : decode cX12_part 10 = .ok (.invokevirtual 72, 3) := by decide +kernel
theorem dX12_part_13 : decode cX12_part 13 = .ok (.i2l, 1) := by decide +kernel
theorem dX12_part_14 : decode cX12_part 14 = .ok (.goto 18, 3) := by decide +kernel
theorem dX12_part_17 : decode cX12_part 17 = .ok (.iload_n 1, 1) := by decide +kernel
theorem dX12_part_18 : decode cX12_part 18 = .ok (.ifCond .ne 10, 3) := by decide +kernel
theorem dX12_part_21 : decode cX12_part 21 = .ok (.aload_n 0, 1) := by decide +kernel
theorem dX12_part_22 : decode cX12_part 22 = .ok (.getfield 76, 3) := by decide +kernel
theorem dX12_part_25 : decode cX12_part 25 = .ok (.goto 7, 3) := by decide +kernel
theorem dX12_part_28 : decode cX12_part 28 = .ok (.aload_n 0, 1) := by decide +kernel
theorem dX12_part_29 : decode cX12_part 29 = .ok (.getfield 13, 3) := by decide +kernel
theorem dX12_part_32 : decode cX12_part 32 = .ok (.lreturn, 1) := by decide +kernel
theorem dX12_fraction_0 : decode cX12_fraction 0 = .ok (.lload_n 1, 1) := by decide +kernel
theorem dX12_fraction_1 : decode cX12_fraction 1 = .ok (.lstore 5, 2) := by decide +kernel
theorem dX12_fraction_3 : decode cX12_fraction 3 = .ok (.lload_n 3, 1) := by decide +kernel
theorem dX12_fraction_4 : decode cX12_fraction 4 = .ok (.lstore 7, 2) := by decide +kernel
theorem dX12_fraction_6 : decode cX12_fraction 6 = .ok (.lload 7, 2) := by decide +kernel
theorem dX12_fraction_8 : decode cX12_fraction 8 = .ok (.lconst 0, 1) := by decide +kernel
theorem dX12_fraction_9 : decode cX12_fraction 9 = .ok (.lcmp, 1) := by decide +kernel
theorem dX12_fraction_10 : decode cX12_fraction 10 = .ok (.ifCond .eq 21, 3) := by decide +kernel
theorem dX12_fraction_13 : decode cX12_fraction 13 = .ok (.lload 5, 2) := by decide +kernel
theorem dX12_fraction_15 : decode cX12_fraction 15 = .ok (.lload 7, 2) := by decide +kernel
theorem dX12_fraction_17 : decode cX12_fraction 17 = .ok (.lrem, 1) := by decide +kernel
theorem dX12_fraction_18 : decode cX12_fraction 18 = .ok (.lstore 9, 2) := by decide +kernel
theorem dX12_fraction_20 : decode cX12_fraction 20 = .ok (.lload 7, 2) := by decide +kernel
theorem dX12_fraction_22 : decode cX12_fraction 22 = .ok (.lstore 5, 2) := by decide +kernel
theorem dX12_fraction_24 : decode cX12_fraction 24 = .ok (.lload 9, 2) := by decide +kernel
theorem dX12_fraction_26 : decode cX12_fraction 26 = .ok (.lstore 7, 2) := by decide +kernel
theorem dX12_fraction_28 : decode cX12_fraction 28 = .ok (.goto (-22), 3) := by decide +kernel
theorem dX12_fraction_31 : decode cX12_fraction 31 = .ok (.aload_n 0, 1) := by decide +kernel
theorem dX12_fraction_32 : decode cX12_fraction 32 = .ok (.lload_n 1, 1) := by decide +kernel
theorem dX12_fraction_33 : decode cX12_fraction 33 = .ok (.lload 5, 2) := by decide +kernel
theorem dX12_fraction_35 : decode cX12_fraction 35 = .ok (.ldiv, 1) := by decide +kernel
theorem dX12_fraction_36 : decode cX12_fraction 36 = .ok (.putfield 76, 3) := by decide +kernel
theorem dX12_fraction_39 : decode cX12_fraction 39 = .ok (.aload_n 0, 1) := by decide +kernel
theorem dX12_fraction_40 : decode cX12_fraction 40 = .ok (.lload_n 3, 1) := by decide +kernel
theorem dX12_fraction_41 : decode cX12_fraction 41 = .ok (.lload 5, 2) := by decide +kernel
theorem dX12_fraction_43 : decode cX12_fraction 43 = .ok (.ldiv, 1) := by decide +kernel
theorem dX12_fraction_44 : decode cX12_fraction 44 = .ok (.putfield 13, 3) := by decide +kernel
theorem dX12_fraction_47 : decode cX12_fraction 47 = .ok (.return_, 1) := by decide +kernel
set_option maxRecDepth 20000 in
theorem ggX12_anew_X12_in : GoodIn wsX12_anew wsX12_in := goodIn_r _ [4] (by decide +kernel) (by decide +kernel)
set_option maxRecDepth 20000 in
theorem gX12_anew_X12_in : GoodIn wsX12_anew (va_wsS RX12 68 yX12_in wsX12_in) := goodIn_app (goodIn_of _ (by decide +kernel)) ggX12_anew_X12_in
theorem dX12_anew_0 : decode cX12_anew 0 = .ok (.iconst 0, 1) := by decide +kernel
theorem dX12_anew_1 : decode cX12_anew 1 = .ok (.istore_n 1, 1) := by decide +kernel
theorem dX12_anew_2 : decode cX12_anew 2 = .ok (.iload_n 1, 1) := by decide +kernel
theorem dX12_anew_3 : decode cX12_anew 3 = .ok (.bipush 126, 2) := by decide +kernel
theorem dX12_anew_5 : decode cX12_anew 5 = .ok (.if_icmp .ge 28, 3) := by decide +kernel
theorem dX12_anew_8 : decode cX12_anew 8 = .ok (.aload_n 0, 1) := by decide +kernel
theorem dX12_anew_9 : decode cX12_anew 9 = .ok (.iload_n 1, 1) := by decide +kernel
theorem dX12_anew_10 : decode cX12_anew 10 = .ok (.iload_n 1, 1) := by decide +kernel
theorem dX12_anew_11 : decode cX12_anew 11 = .ok (.bipush 12, 2) := by decide +kernel
theorem dX12_anew_13 : decode cX12_anew 13 = .ok (.bipush 17, 2) := by decide +kernel
theorem dX12_anew_15 : decode cX12_anew 15 = .ok (.invokestatic 68, 3) := by decide +kernel
theorem dX12_anew_18 : decode cX12_anew 18 = .ok (.ifCond .eq 7, 3) := by decide +kernel
theorem dX12_anew_21 : decode cX12_anew 21 = .ok (.iconst 1, 1) := by decide +kernel
theorem dX12_anew_22 : decode cX12_anew 22 = .ok (.goto 4, 3) := by decide +kernel
theorem dX12_anew_25 : decode cX12_anew 25 = .ok (.iconst 0, 1) := by decide +kernel
theorem dX12_anew_26 : decode cX12_anew 26 = .ok (.iastore, 1) := by decide +kernel
theorem dX12_anew_27 : decode cX12_anew 27 = .ok (.iinc 1 1, 3) := by decide +kernel
theorem dX12_anew_30 : decode cX12_anew 30 = .ok (.goto (-28), 3) := by decide +kernel
theorem dX12_anew_33 : decode cX12_anew 33 = .ok (.aload_n 0, 1) := by decide +kernel
theorem dX12_anew_34 : decode cX12_anew 34 = .ok (.bipush 90, 2) := by decide +kernel
theorem dX12_anew_36 : decode cX12_anew 36 = .ok (.iconst 1, 1) := by decide +kernel
theorem dX12_anew_37 : decode cX12_anew 37 = .ok (.iastore, 1) := by decide +kernel
theorem dX12_anew_38 : decode cX12_anew 38 = .ok (.return_, 1) := by decide +kernel
set_option maxRecDepth 20000 in
theorem ggX12_pit_X12_anew : GoodIn wsX12_pit wsX12_anew := goodIn_r _ [5, 6, 7, 4, 8] (by decide +kernel) (by decide +kernel)
set_option maxRecDepth 20000 in
theorem gX12_pit_X12_anew : GoodIn wsX12_pit (va_wsS RX12 64 yX12_anew wsX12_anew) := goodIn_app (goodIn_of _ (by decide +kernel)) ggX12_pit_X12_anew
theorem dX12_pit_0 : decode cX12_pit 0 = .ok (.aload_n 0, 1) := by decide +kernel
theorem dX12_pit_1 : decode cX12_pit 1 = .ok (.getfield 17, 3) := by decide +kernel
theorem dX12_pit_4 : decode cX12_pit 4 = .ok (.bipush 50, 2) := by decide +kernel
theorem dX12_pit_6 : decode cX12_pit 6 = .ok (.iaload, 1) := by decide +kernel
theorem dX12_pit_7 : decode cX12_pit 7 = .ok (.istore_n 1, 1) := by decide +kernel
theorem dX12_pit_8 : decode cX12_pit 8 = .ok (.aload_n 0, 1) := by decide +kernel
theorem dX12_pit_9 : decode cX12_pit 9 = .ok (.getfield 17, 3) := by decide +kernel
theorem dX12_pit_12 : decode cX12_pit 12 = .ok (.invokestatic 64, 3) := by decide +kernel
theorem dX12_pit_15 : decode cX12_pit 15 = .ok (.iload_n 1, 1) := by decide +kernel
theorem dX12_pit_16 : decode cX12_pit 16 = .ok (.ireturn, 1) := by decide +kernel
set_option maxRecDepth 20000 in
theorem ggX12_layerOn_X12_in : GoodIn wsX12_layerOn wsX12_in := goodIn_r _ [4] (by decide +kernel) (by decide +kernel)
set_option maxRecDepth 20000 in
theorem gX12_layerOn_X12_in : GoodIn wsX12_layerOn (va_wsS RX12 68 yX12_in wsX12_in) := goodIn_app (goodIn_of _ (by decide +kernel)) ggX12_layerOn_X12_in
theorem dX12_layerOn_0 : decode cX12_layerOn 0 = .ok (.iload_n 1, 1) := by decide +kernel
theorem dX12_layerOn_1 : decode cX12_layerOn 1 = .ok (.iconst 0, 1) := by decide +kernel
theorem dX12_layerOn_2 : decode cX12_layerOn 2 = .ok (.bipush 11, 2) := by decide +kernel
theorem dX12_layerOn_4 : decode cX12_layerOn 4 = .ok (.invokestatic 68, 3) := by decide +kernel
theorem dX12_layerOn_7 : decode cX12_layerOn 7 = .ok (.ifCond .eq 12, 3) := by decide +kernel
theorem dX12_layerOn_10 : decode cX12_layerOn 10 = .ok (.iload_n 2, 1) := by decide +kernel
theorem dX12_layerOn_11 : decode cX12_layerOn 11 = .ok (.iconst 0, 1) := by decide +kernel
theorem dX12_layerOn_12 : decode cX12_layerOn 12 = .ok (.iconst 5, 1) := by decide +kernel
theorem dX12_layerOn_13 : decode cX12_layerOn 13 = .ok (.invokestatic 68, 3) := by decide +kernel
theorem dX12_layerOn_16 : decode cX12_layerOn 16 = .ok (.ifCond .ne 6, 3) := by decide +kernel
theorem dX12_layerOn_19 : decode cX12_layerOn 19 = .ok (.bipush (-2), 2) := by decide +kernel
theorem dX12_layerOn_21 : decode cX12_layerOn 21 = .ok (.ireturn, 1) := by decide +kernel
theorem dX12_layerOn_22 : decode cX12_layerOn 22 = .ok (.aload_n 0, 1) := by decide +kernel
theorem dX12_layerOn_23 : decode cX12_layerOn 23 = .ok (.iload_n 1, 1) := by decide +kernel
theorem dX12_layerOn_24 : decode cX12_layerOn 24 = .ok (.iaload, 1) := by decide +kernel
theorem dX12_layerOn_25 : decode cX12_layerOn 25 = .ok (.istore_n 3, 1) := by decide +kernel
theorem dX12_layerOn_26 : decode cX12_layerOn 26 = .ok (.aload_n 0, 1) := by decide +kernel
theorem dX12_layerOn_27 : decode cX12_layerOn 27 = .ok (.iload_n 1, 1) := by decide +kernel
theorem dX12_layerOn_28 : decode cX12_layerOn 28 = .ok (.iload_n 2, 1) := by decide +kernel
theorem dX12_layerOn_29 : decode cX12_layerOn 29 = .ok (.iastore, 1) := by decide +kernel
theorem dX12_layerOn_30 : decode cX12_layerOn 30 = .ok (.iload_n 3, 1) := by decide +kernel
theorem dX12_layerOn_31 : decode cX12_layerOn 31 = .ok (.ireturn, 1) := by decide +kernel
set_option maxRecDepth 20000 in
theorem ggX12_priceOn_X12_in : GoodIn wsX12_priceOn wsX12_in := goodIn_r _ [4] (by decide +kernel) (by decide +kernel)
set_option maxRecDepth 20000 in
theorem gX12_priceOn_X12_in : GoodIn wsX12_priceOn (va_wsS RX12 68 yX12_in wsX12_in) := goodIn_app (goodIn_of _ (by decide +kernel)) ggX12_priceOn_X12_in
theorem dX12_priceOn_0 : decode cX12_priceOn 0 = .ok (.iload_n 1, 1) := by decide +kernel
theorem dX12_priceOn_1 : decode cX12_priceOn 1 = .ok (.iconst 0, 1) := by decide +kernel
theorem dX12_priceOn_2 : decode cX12_priceOn 2 = .ok (.iconst 5, 1) := by decide +kernel
theorem dX12_priceOn_3 : decode cX12_priceOn 3 = .ok (.invokestatic 68, 3) := by decide +kernel
theorem dX12_priceOn_6 : decode cX12_priceOn 6 = .ok (.ifCond .eq 13, 3) := by decide +kernel
theorem dX12_priceOn_9 : decode cX12_priceOn 9 = .ok (.iload_n 2, 1) := by decide +kernel
theorem dX12_priceOn_10 : decode cX12_priceOn 10 = .ok (.iconst 0, 1) := by decide +kernel
theorem dX12_priceOn_11 : decode cX12_priceOn 11 = .ok (.bipush 9, 2) := by decide +kernel
theorem dX12_priceOn_13 : decode cX12_priceOn 13 = .ok (.invokestatic 68, 3) := by decide +kernel
theorem dX12_priceOn_16 : decode cX12_priceOn 16 = .ok (.ifCond .ne 6, 3) := by decide +kernel
theorem dX12_priceOn_19 : decode cX12_priceOn 19 = .ok (.bipush (-2), 2) := by decide +kernel
theorem dX12_priceOn_21 : decode cX12_priceOn 21 = .ok (.ireturn, 1) := by decide +kernel
theorem dX12_priceOn_22 : decode cX12_priceOn 22 = .ok (.aload_n 0, 1) := by decide +kernel
theorem dX12_priceOn_23 : decode cX12_priceOn 23 = .ok (.bipush 12, 2) := by decide +kernel
theorem dX12_priceOn_25 : decode cX12_priceOn 25 = .ok (.iload_n 1, 1) := by decide +kernel
theorem dX12_priceOn_26 : decode cX12_priceOn 26 = .ok (.iadd, 1) := by decide +kernel
theorem dX12_priceOn_27 : decode cX12_priceOn 27 = .ok (.iaload, 1) := by decide +kernel
theorem dX12_priceOn_28 : decode cX12_priceOn 28 = .ok (.istore_n 3, 1) := by decide +kernel
theorem dX12_priceOn_29 : decode cX12_priceOn 29 = .ok (.aload_n 0, 1) := by decide +kernel
theorem dX12_priceOn_30 : decode cX12_priceOn 30 = .ok (.bipush 12, 2) := by decide +kernel
theorem dX12_priceOn_32 : decode cX12_priceOn 32 = .ok (.iload_n 1, 1) := by decide +kernel
theorem dX12_priceOn_33 : decode cX12_priceOn 33 = .ok (.iadd, 1) := by decide +kernel
theorem dX12_priceOn_34 : decode cX12_priceOn 34 = .ok (.iload_n 2, 1) := by decide +kernel
theorem dX12_priceOn_35 : decode cX12_priceOn 35 = .ok (.iastore, 1) := by decide +kernel
theorem dX12_priceOn_36 : decode cX12_priceOn 36 = .ok (.iload_n 3, 1) := by decide +kernel
theorem dX12_priceOn_37 : decode cX12_priceOn 37 = .ok (.ireturn, 1) := by decide +kernel
set_option maxRecDepth 20000 in
theorem ggX12_lumpOn_X12_in : GoodIn wsX12_lumpOn wsX12_in := goodIn_r _ [4] (by decide +kernel) (by decide +kernel)
set_option maxRecDepth 20000 in
theorem gX12_lumpOn_X12_in : GoodIn wsX12_lumpOn (va_wsS RX12 68 yX12_in wsX12_in) := goodIn_app (goodIn_of _ (by decide +kernel)) ggX12_lumpOn_X12_in
theorem dX12_lumpOn_0 : decode cX12_lumpOn 0 = .ok (.iload_n 1, 1) := by decide +kernel
theorem dX12_lumpOn_1 : decode cX12_lumpOn 1 = .ok (.iconst 0, 1) := by decide +kernel
theorem dX12_lumpOn_2 : decode cX12_lumpOn 2 = .ok (.iconst 5, 1) := by decide +kernel
theorem dX12_lumpOn_3 : decode cX12_lumpOn 3 = .ok (.invokestatic 68, 3) := by decide +kernel
theorem dX12_lumpOn_6 : decode cX12_lumpOn 6 = .ok (.ifCond .eq 31, 3) := by decide +kernel
theorem dX12_lumpOn_9 : decode cX12_lumpOn 9 = .ok (.iload_n 2, 1) := by decide +kernel
theorem dX12_lumpOn_10 : decode cX12_lumpOn 10 = .ok (.iconst 0, 1) := by decide +kernel
theorem dX12_lumpOn_11 : decode cX12_lumpOn 11 = .ok (.bipush 11, 2) := by decide +kernel
theorem dX12_lumpOn_13 : decode cX12_lumpOn 13 = .ok (.invokestatic 68, 3) := by decide +kernel
theorem dX12_lumpOn_16 : decode cX12_lumpOn 16 = .ok (.ifCond .eq 21, 3) := by decide +kernel
theorem dX12_lumpOn_19 : decode cX12_lumpOn 19 = .ok (.iload_n 3, 1) := by decide +kernel
theorem dX12_lumpOn_20 : decode cX12_lumpOn 20 = .ok (.iconst 1, 1) := by decide +kernel
theorem dX12_lumpOn_21 : decode cX12_lumpOn 21 = .ok (.bipush 6, 2) := by decide +kernel
theorem dX12_lumpOn_23 : decode cX12_lumpOn 23 = .ok (.invokestatic 68, 3) := by decide +kernel
theorem dX12_lumpOn_26 : decode cX12_lumpOn 26 = .ok (.ifCond .eq 11, 3) := by decide +kernel
theorem dX12_lumpOn_29 : decode cX12_lumpOn 29 = .ok (.iload_n 2, 1) := by decide +kernel
theorem dX12_lumpOn_30 : decode cX12_lumpOn 30 = .ok (.iload_n 3, 1) := by decide +kernel
theorem dX12_lumpOn_31 : decode cX12_lumpOn 31 = .ok (.iadd, 1) := by decide +kernel
theorem dX12_lumpOn_32 : decode cX12_lumpOn 32 = .ok (.bipush 12, 2) := by decide +kernel
theorem dX12_lumpOn_34 : decode cX12_lumpOn 34 = .ok (.if_icmp .le 6, 3) := by decide +kernel
theorem dX12_lumpOn_37 : decode cX12_lumpOn 37 = .ok (.bipush (-2), 2) := by decide +kernel
theorem dX12_lumpOn_39 : decode cX12_lumpOn 39 = .ok (.ireturn, 1) := by decide +kernel
theorem dX12_lumpOn_40 : decode cX12_lumpOn 40 = .ok (.aload_n 0, 1) := by decide +kernel
theorem dX12_lumpOn_41 : decode cX12_lumpOn 41 = .ok (.bipush 50, 2) := by decide +kernel
theorem dX12_lumpOn_43 : decode cX12_lumpOn 43 = .ok (.iaload, 1) := by decide +kernel
theorem dX12_lumpOn_44 : decode cX12_lumpOn 44 = .ok (.bipush 8, 2) := by decide +kernel
theorem dX12_lumpOn_46 : decode cX12_lumpOn 46 = .ok (.if_icmp .ne 6, 3) := by decide +kernel
theorem dX12_lumpOn_49 : decode cX12_lumpOn 49 = .ok (.bipush (-4), 2) := by decide +kernel
theorem dX12_lumpOn_51 : decode cX12_lumpOn 51 = .ok (.ireturn, 1) := by decide +kernel
theorem dX12_lumpOn_52 : decode cX12_lumpOn 52 = .ok (.bipush 18, 2) := by decide +kernel
theorem dX12_lumpOn_54 : decode cX12_lumpOn 54 = .ok (.iconst 4, 1) := by decide +kernel
theorem dX12_lumpOn_55 : decode cX12_lumpOn 55 = .ok (.aload_n 0, 1) := by decide +kernel
theorem dX12_lumpOn_56 : decode cX12_lumpOn 56 = .ok (.bipush 50, 2) := by decide +kernel
theorem dX12_lumpOn_58 : decode cX12_lumpOn 58 = .ok (.iaload, 1) := by decide +kernel
theorem dX12_lumpOn_59 : decode cX12_lumpOn 59 = .ok (.imul, 1) := by decide +kernel
theorem dX12_lumpOn_60 : decode cX12_lumpOn 60 = .ok (.iadd, 1) := by decide +kernel
theorem dX12_lumpOn_61 : decode cX12_lumpOn 61 = .ok (.istore 4, 2) := by decide +kernel
theorem dX12_lumpOn_63 : decode cX12_lumpOn 63 = .ok (.aload_n 0, 1) := by decide +kernel
theorem dX12_lumpOn_64 : decode cX12_lumpOn 64 = .ok (.iload 4, 2) := by decide +kernel
theorem dX12_lumpOn_66 : decode cX12_lumpOn 66 = .ok (.iload_n 1, 1) := by decide +kernel
theorem dX12_lumpOn_67 : decode cX12_lumpOn 67 = .ok (.iastore, 1) := by decide +kernel
theorem dX12_lumpOn_68 : decode cX12_lumpOn 68 = .ok (.aload_n 0, 1) := by decide +kernel
theorem dX12_lumpOn_69 : decode cX12_lumpOn 69 = .ok (.iload 4, 2) := by decide +kernel
theorem dX12_lumpOn_71 : decode cX12_lumpOn 71 = .ok (.iconst 1, 1) := by decide +kernel
theorem dX12_lumpOn_72 : decode cX12_lumpOn 72 = .ok (.iadd, 1) := by decide +kernel
theorem dX12_lumpOn_73 : decode cX12_lumpOn 73 = .ok (.iload_n 2, 1) := by decide +kernel
theorem dX12_lumpOn_74 : decode cX12_lumpOn 74 = .ok (.iastore, 1) := by decide +kernel
theorem dX12_lumpOn_75 : decode cX12_lumpOn 75 = .ok (.aload_n 0, 1) := by decide +kernel
theorem dX12_lumpOn_76 : decode cX12_lumpOn 76 = .ok (.iload 4, 2) := by decide +kernel
theorem dX12_lumpOn_78 : decode cX12_lumpOn 78 = .ok (.iconst 2, 1) := by decide +kernel
theorem dX12_lumpOn_79 : decode cX12_lumpOn 79 = .ok (.iadd, 1) := by decide +kernel
theorem dX12_lumpOn_80 : decode cX12_lumpOn 80 = .ok (.iload_n 3, 1) := by decide +kernel
theorem dX12_lumpOn_81 : decode cX12_lumpOn 81 = .ok (.iastore, 1) := by decide +kernel
theorem dX12_lumpOn_82 : decode cX12_lumpOn 82 = .ok (.aload_n 0, 1) := by decide +kernel
theorem dX12_lumpOn_83 : decode cX12_lumpOn 83 = .ok (.iload 4, 2) := by decide +kernel
theorem dX12_lumpOn_85 : decode cX12_lumpOn 85 = .ok (.iconst 3, 1) := by decide +kernel
theorem dX12_lumpOn_86 : decode cX12_lumpOn 86 = .ok (.iadd, 1) := by decide +kernel
theorem dX12_lumpOn_87 : decode cX12_lumpOn 87 = .ok (.iconst 0, 1) := by decide +kernel
theorem dX12_lumpOn_88 : decode cX12_lumpOn 88 = .ok (.iastore, 1) := by decide +kernel
theorem dX12_lumpOn_89 : decode cX12_lumpOn 89 = .ok (.aload_n 0, 1) := by decide +kernel
theorem dX12_lumpOn_90 : decode cX12_lumpOn 90 = .ok (.bipush 53, 2) := by decide +kernel
theorem dX12_lumpOn_92 : decode cX12_lumpOn 92 = .ok (.iconst 0, 1) := by decide +kernel
theorem dX12_lumpOn_93 : decode cX12_lumpOn 93 = .ok (.iastore, 1) := by decide +kernel
theorem dX12_lumpOn_94 : decode cX12_lumpOn 94 = .ok (.aload_n 0, 1) := by decide +kernel
theorem dX12_lumpOn_95 : decode cX12_lumpOn 95 = .ok (.bipush 50, 2) := by decide +kernel
theorem dX12_lumpOn_97 : decode cX12_lumpOn 97 = .ok (.dup2, 1) := by decide +kernel
theorem dX12_lumpOn_98 : decode cX12_lumpOn 98 = .ok (.iaload, 1) := by decide +kernel
theorem dX12_lumpOn_99 : decode cX12_lumpOn 99 = .ok (.iconst 1, 1) := by decide +kernel
theorem dX12_lumpOn_100 : decode cX12_lumpOn 100 = .ok (.iadd, 1) := by decide +kernel
theorem dX12_lumpOn_101 : decode cX12_lumpOn 101 = .ok (.iastore, 1) := by decide +kernel
theorem dX12_lumpOn_102 : decode cX12_lumpOn 102 = .ok (.aload_n 0, 1) := by decide +kernel
theorem dX12_lumpOn_103 : decode cX12_lumpOn 103 = .ok (.bipush 50, 2) := by decide +kernel
theorem dX12_lumpOn_105 : decode cX12_lumpOn 105 = .ok (.iaload, 1) := by decide +kernel
theorem dX12_lumpOn_106 : decode cX12_lumpOn 106 = .ok (.iconst 1, 1) := by decide +kernel
theorem dX12_lumpOn_107 : decode cX12_lumpOn 107 = .ok (.isub, 1) := by decide +kernel
theorem dX12_lumpOn_108 : decode cX12_lumpOn 108 = .ok (.ireturn, 1) := by decide +kernel
set_option maxRecDepth 20000 in
theorem ggX12_layer_X12_layerOn : GoodIn wsX12_layer wsX12_layerOn := goodIn_r _ [5, 6, 7, 4, 8] (by decide +kernel) (by decide +kernel)
set_option maxRecDepth 20000 in
theorem gX12_layer_X12_layerOn : GoodIn wsX12_layer (va_wsS RX12 79 yX12_layerOn wsX12_layerOn) := goodIn_app (goodIn_of _ (by decide +kernel)) ggX12_layer_X12_layerOn
set_option maxRecDepth 20000 in
theorem ggX12_layer_X12_bad : GoodIn wsX12_layer wsX12_bad := goodIn_r _ [12, 13, 14, 15, 16, 17, 18, 19, 20, 21, 22, 23, 24, 25, 26, 27, 28, 29, 30, 31, 32, 33, 34, 35, 36, 37, 38] (by decide +kernel) (by decide +kernel)
set_option maxRecDepth 20000 in
theorem gX12_layer_X12_bad : GoodIn wsX12_layer (wsV RX12 72 RX12 yX12_bad wsX12_bad) := goodIn_app (goodIn_of _ (by decide +kernel)) ggX12_layer_X12_bad
theorem dX12_layer_0 : decode cX12_layer 0 = .ok (.aload_n 0, 1) := by decide +kernel
theorem dX12_layer_1 : decode cX12_layer 1 = .ok (.getfield 17, 3) := by decide +kernel
theorem dX12_layer_4 : decode cX12_layer 4 = .ok (.iload_n 1, 1) := by decide +kernel
theorem dX12_layer_5 : decode cX12_layer 5 = .ok (.iload_n 2, 1) := by decide +kernel
theorem dX12_layer_6 : decode cX12_layer 6 = .ok (.invokestatic 79, 3) := by decide +kernel
theorem dX12_layer_9 : decode cX12_layer 9 = .ok (.istore_n 3, 1) := by decide +kernel
theorem dX12_layer_10 : decode cX12_layer 10 = .ok (.iload_n 3, 1) := by decide +kernel
theorem dX12_layer_11 : decode cX12_layer 11 = .ok (.bipush (-2), 2) := by decide +kernel
theorem dX12_layer_13 : decode cX12_layer 13 = .ok (.if_icmp .ne 10, 3) := by decide +kernel
theorem dX12_layer_16 : decode cX12_layer 16 = .ok (.aload_n 0, 1) := by decide +kernel
theorem dX12_layer_17 : decode cX12_layer 17 = .ok (.invokevirtual 72, 3) := by decide +kernel
theorem dX12_layer_20 : decode cX12_layer 20 = .ok (.goto 4, 3) := by decide +kernel
theorem dX12_layer_23 : decode cX12_layer 23 = .ok (.iload_n 3, 1) := by decide +kernel
theorem dX12_layer_24 : decode cX12_layer 24 = .ok (.ireturn, 1) := by decide +kernel
set_option maxRecDepth 20000 in
theorem ggX12_price_X12_priceOn : GoodIn wsX12_price wsX12_priceOn := goodIn_r _ [5, 6, 7, 4, 8] (by decide +kernel) (by decide +kernel)
set_option maxRecDepth 20000 in
theorem gX12_price_X12_priceOn : GoodIn wsX12_price (va_wsS RX12 83 yX12_priceOn wsX12_priceOn) := goodIn_app (goodIn_of _ (by decide +kernel)) ggX12_price_X12_priceOn
set_option maxRecDepth 20000 in
theorem ggX12_price_X12_bad : GoodIn wsX12_price wsX12_bad := goodIn_r _ [12, 13, 14, 15, 16, 17, 18, 19, 20, 21, 22, 23, 24, 25, 26, 27, 28, 29, 30, 31, 32, 33, 34, 35, 36, 37, 38] (by decide +kernel) (by decide +kernel)
set_option maxRecDepth 20000 in
theorem gX12_price_X12_bad : GoodIn wsX12_price (wsV RX12 72 RX12 yX12_bad wsX12_bad) := goodIn_app (goodIn_of _ (by decide +kernel)) ggX12_price_X12_bad
theorem dX12_price_0 : decode cX12_price 0 = .ok (.aload_n 0, 1) := by decide +kernel
theorem dX12_price_1 : decode cX12_price 1 = .ok (.getfield 17, 3) := by decide +kernel
theorem dX12_price_4 : decode cX12_price 4 = .ok (.iload_n 1, 1) := by decide +kernel
theorem dX12_price_5 : decode cX12_price 5 = .ok (.iload_n 2, 1) := by decide +kernel
theorem dX12_price_6 : decode cX12_price 6 = .ok (.invokestatic 83, 3) := by decide +kernel
theorem dX12_price_9 : decode cX12_price 9 = .ok (.istore_n 3, 1) := by decide +kernel
theorem dX12_price_10 : decode cX12_price 10 = .ok (.iload_n 3, 1) := by decide +kernel
theorem dX12_price_11 : decode cX12_price 11 = .ok (.bipush (-2), 2) := by decide +kernel
theorem dX12_price_13 : decode cX12_price 13 = .ok (.if_icmp .ne 10, 3) := by decide +kernel
theorem dX12_price_16 : decode cX12_price 16 = .ok (.aload_n 0, 1) := by decide +kernel
theorem dX12_price_17 : decode cX12_price 17 = .ok (.invokevirtual 72, 3) := by decide +kernel
theorem dX12_price_20 : decode cX12_price 20 = .ok (.goto 4, 3) := by decide +kernel
theorem dX12_price_23 : decode cX12_price 23 = .ok (.iload_n 3, 1) := by decide +kernel
theorem dX12_price_24 : decode cX12_price 24 = .ok (.ireturn, 1) := by decide +kernel
set_option maxRecDepth 20000 in
theorem ggX12_lump_X12_lumpOn : GoodIn wsX12_lump wsX12_lumpOn := goodIn_r _ [5, 6, 7, 4, 8] (by decide +kernel) (by decide +kernel)
set_option maxRecDepth 20000 in
theorem gX12_lump_X12_lumpOn : GoodIn wsX12_lump (va_wsS RX12 86 yX12_lumpOn wsX12_lumpOn) := goodIn_app (goodIn_of _ (by decide +kernel)) ggX12_lump_X12_lumpOn
set_option maxRecDepth 20000 in
theorem ggX12_lump_X12_bad : GoodIn wsX12_lump wsX12_bad := goodIn_r _ [12, 13, 18, 19, 20, 21, 22, 23, 24, 25, 26, 27, 28, 29, 30, 31, 32, 33, 34, 35, 36, 37, 38, 39, 40, 41, 42] (by decide +kernel) (by decide +kernel)
set_option maxRecDepth 20000 in
theorem gX12_lump_X12_bad : GoodIn wsX12_lump (wsV RX12 72 RX12 yX12_bad wsX12_bad) := goodIn_app (goodIn_of _ (by decide +kernel)) ggX12_lump_X12_bad
set_option maxRecDepth 20000 in
theorem ggX12_lump_X12_full : GoodIn wsX12_lump wsX12_full := goodIn_r _ [17, 13, 18, 19, 20, 21, 22, 23, 24, 25, 26, 27, 28, 29, 30, 31, 32, 33, 34, 35, 36, 37, 38, 39, 40, 41, 42] (by decide +kernel) (by decide +kernel)
set_option maxRecDepth 20000 in
theorem gX12_lump_X12_full : GoodIn wsX12_lump (wsV RX12 90 RX12 yX12_full wsX12_full) := goodIn_app (goodIn_of _ (by decide +kernel)) ggX12_lump_X12_full
theorem dX12_lump_0 : decode cX12_lump 0 = .ok (.aload_n 0, 1) := by decide +kernel
theorem dX12_lump_1 : decode cX12_lump 1 = .ok (.getfield 17, 3) := by decide +kernel
theorem dX12_lump_4 : decode cX12_lump 4 = .ok (.iload_n 1, 1) := by decide +kernel
theorem dX12_lump_5 : decode cX12_lump 5 = .ok (.iload_n 2, 1) := by decide +kernel
theorem dX12_lump_6 : decode cX12_lump 6 = .ok (.iload_n 3, 1) := by decide +kernel
theorem dX12_lump_7 : decode cX12_lump 7 = .ok (.invokestatic 86, 3) := by decide +kernel
theorem dX12_lump_10 : decode cX12_lump 10 = .ok (.istore 4, 2) := by decide +kernel
theorem dX12_lump_12 : decode cX12_lump 12 = .ok (.iload 4, 2) := by decide +kernel
theorem dX12_lump_14 : decode cX12_lump 14 = .ok (.bipush (-2), 2) := by decide +kernel
theorem dX12_lump_16 : decode cX12_lump 16 = .ok (.if_icmp .ne 10, 3) := by decide +kernel
theorem dX12_lump_19 : decode cX12_lump 19 = .ok (.aload_n 0, 1) := by decide +kernel
theorem dX12_lump_20 : decode cX12_lump 20 = .ok (.invokevirtual 72, 3) := by decide +kernel
theorem dX12_lump_23 : decode cX12_lump 23 = .ok (.goto 19, 3) := by decide +kernel
theorem dX12_lump_26 : decode cX12_lump 26 = .ok (.iload 4, 2) := by decide +kernel
theorem dX12_lump_28 : decode cX12_lump 28 = .ok (.bipush (-4), 2) := by decide +kernel
theorem dX12_lump_30 : decode cX12_lump 30 = .ok (.if_icmp .ne 10, 3) := by decide +kernel
theorem dX12_lump_33 : decode cX12_lump 33 = .ok (.aload_n 0, 1) := by decide +kernel
theorem dX12_lump_34 : decode cX12_lump 34 = .ok (.invokevirtual 90, 3) := by decide +kernel
theorem dX12_lump_37 : decode cX12_lump 37 = .ok (.goto 5, 3) := by decide +kernel
theorem dX12_lump_40 : decode cX12_lump 40 = .ok (.iload 4, 2) := by decide +kernel
theorem dX12_lump_42 : decode cX12_lump 42 = .ok (.ireturn, 1) := by decide +kernel
set_option maxRecDepth 20000 in
theorem ggX12_type_X12_in : GoodIn wsX12_type wsX12_in := goodIn_r _ [6] (by decide +kernel) (by decide +kernel)
set_option maxRecDepth 20000 in
theorem gX12_type_X12_in : GoodIn wsX12_type (va_wsS RX12 68 yX12_in wsX12_in) := goodIn_app (goodIn_of _ (by decide +kernel)) ggX12_type_X12_in
set_option maxRecDepth 20000 in
theorem ggX12_type_X12_bad : GoodIn wsX12_type wsX12_bad := goodIn_r _ [10, 11, 16, 17, 18, 19, 20, 21, 22, 23, 24, 25, 26, 27, 28, 29, 30, 31, 32, 33, 34, 35, 36, 37, 38, 39, 40] (by decide +kernel) (by decide +kernel)
set_option maxRecDepth 20000 in
theorem gX12_type_X12_bad : GoodIn wsX12_type (wsV RX12 72 RX12 yX12_bad wsX12_bad) := goodIn_app (goodIn_of _ (by decide +kernel)) ggX12_type_X12_bad
set_option maxRecDepth 20000 in
theorem ggX12_type_X12_full : GoodIn wsX12_type wsX12_full := goodIn_r _ [15, 11, 16, 17, 18, 19, 20, 21, 22, 23, 24, 25, 26, 27, 28, 29, 30, 31, 32, 33, 34, 35, 36, 37, 38, 39, 40] (by decide +kernel) (by decide +kernel)
set_option maxRecDepth 20000 in
theorem gX12_type_X12_full : GoodIn wsX12_type (wsV RX12 90 RX12 yX12_full wsX12_full) := goodIn_app (goodIn_of _ (by decide +kernel)) ggX12_type_X12_full
theorem dX12_type_0 : decode cX12_type 0 = .ok (.iload_n 1, 1) := by decide +kernel
theorem dX12_type_1 : decode cX12_type 1 = .ok (.iconst 0, 1) := by decide +kernel
theorem dX12_type_2 : decode cX12_type 2 = .ok (.bipush 127, 2) := by decide +kernel
theorem dX12_type_4 : decode cX12_type 4 = .ok (.invokestatic 68, 3) := by decide +kernel
theorem dX12_type_7 : decode cX12_type 7 = .ok (.ifCond .ne 8, 3) := by decide +kernel
theorem dX12_type_10 : decode cX12_type 10 = .ok (.aload_n 0, 1) := by decide +kernel
theorem dX12_type_11 : decode cX12_type 11 = .ok (.invokevirtual 72, 3) := by decide +kernel
theorem dX12_type_14 : decode cX12_type 14 = .ok (.ireturn, 1) := by decide +kernel
theorem dX12_type_15 : decode cX12_type 15 = .ok (.aload_n 0, 1) := by decide +kernel
theorem dX12_type_16 : decode cX12_type 16 = .ok (.getfield 93, 3) := by decide +kernel
theorem dX12_type_19 : decode cX12_type 19 = .ok (.sipush 150, 3) := by decide +kernel
theorem dX12_type_22 : decode cX12_type 22 = .ok (.if_icmp .ne 8, 3) := by decide +kernel
theorem dX12_type_25 : decode cX12_type 25 = .ok (.aload_n 0, 1) := by decide +kernel
theorem dX12_type_26 : decode cX12_type 26 = .ok (.invokevirtual 90, 3) := by decide +kernel
theorem dX12_type_29 : decode cX12_type 29 = .ok (.ireturn, 1) := by decide +kernel
theorem dX12_type_30 : decode cX12_type 30 = .ok (.aload_n 0, 1) := by decide +kernel
theorem dX12_type_31 : decode cX12_type 31 = .ok (.getfield 23, 3) := by decide +kernel
theorem dX12_type_34 : decode cX12_type 34 = .ok (.aload_n 0, 1) := by decide +kernel
theorem dX12_type_35 : decode cX12_type 35 = .ok (.getfield 93, 3) := by decide +kernel
theorem dX12_type_38 : decode cX12_type 38 = .ok (.iload_n 1, 1) := by decide +kernel
theorem dX12_type_39 : decode cX12_type 39 = .ok (.iastore, 1) := by decide +kernel
theorem dX12_type_40 : decode cX12_type 40 = .ok (.aload_n 0, 1) := by decide +kernel
theorem dX12_type_41 : decode cX12_type 41 = .ok (.dup, 1) := by decide +kernel
theorem dX12_type_42 : decode cX12_type 42 = .ok (.getfield 93, 3) := by decide +kernel
theorem dX12_type_45 : decode cX12_type 45 = .ok (.iconst 1, 1) := by decide +kernel
theorem dX12_type_46 : decode cX12_type 46 = .ok (.iadd, 1) := by decide +kernel
theorem dX12_type_47 : decode cX12_type 47 = .ok (.putfield 93, 3) := by decide +kernel
theorem dX12_type_50 : decode cX12_type 50 = .ok (.aload_n 0, 1) := by decide +kernel
theorem dX12_type_51 : decode cX12_type 51 = .ok (.getfield 93, 3) := by decide +kernel
theorem dX12_type_54 : decode cX12_type 54 = .ok (.ireturn, 1) := by decide +kernel
theorem dX12_clear_0 : decode cX12_clear 0 = .ok (.aload_n 0, 1) := by decide +kernel
theorem dX12_clear_1 : decode cX12_clear 1 = .ok (.getfield 93, 3) := by decide +kernel
theorem dX12_clear_4 : decode cX12_clear 4 = .ok (.istore_n 1, 1) := by decide +kernel
theorem dX12_clear_5 : decode cX12_clear 5 = .ok (.aload_n 0, 1) := by decide +kernel
theorem dX12_clear_6 : decode cX12_clear 6 = .ok (.iconst 0, 1) := by decide +kernel
theorem dX12_clear_7 : decode cX12_clear 7 = .ok (.putfield 93, 3) := by decide +kernel
theorem dX12_clear_10 : decode cX12_clear 10 = .ok (.iload_n 1, 1) := by decide +kernel
theorem dX12_clear_11 : decode cX12_clear 11 = .ok (.ireturn, 1) := by decide +kernel
theorem dX12_byteAt_0 : decode cX12_byteAt 0 = .ok (.iload_n 1, 1) := by decide +kernel
theorem dX12_byteAt_1 : decode cX12_byteAt 1 = .ok (.aload_n 0, 1) := by decide +kernel
theorem dX12_byteAt_2 : decode cX12_byteAt 2 = .ok (.getfield 93, 3) := by decide +kernel
theorem dX12_byteAt_5 : decode cX12_byteAt 5 = .ok (.if_icmp .ge 12, 3) := by decide +kernel
theorem dX12_byteAt_8 : decode cX12_byteAt 8 = .ok (.aload_n 0, 1) := by decide +kernel
theorem dX12_byteAt_9 : decode cX12_byteAt 9 = .ok (.getfield 23, 3) := by decide +kernel
theorem dX12_byteAt_12 : decode cX12_byteAt 12 = .ok (.iload_n 1, 1) := by decide +kernel
theorem dX12_byteAt_13 : decode cX12_byteAt 13 = .ok (.iaload, 1) := by decide +kernel
theorem dX12_byteAt_14 : decode cX12_byteAt 14 = .ok (.goto 4, 3) := by decide +kernel
theorem dX12_byteAt_17 : decode cX12_byteAt 17 = .ok (.iconst (-1), 1) := by decide +kernel
theorem dX12_byteAt_18 : decode cX12_byteAt 18 = .ok (.ireturn, 1) := by decide +kernel
set_option maxRecDepth 20000 in
theorem ggX12_isWord_X12_byteAt : GoodIn wsX12_isWord wsX12_byteAt := goodIn_r _ [5, 6, 7, 8, 9, 10, 11, 12, 13, 14, 15, 16, 17, 18, 19, 20, 21, 22, 23, 24, 25, 26, 27, 28, 29, 30, 31, 32] (by decide +kernel) (by decide +kernel)
set_option maxRecDepth 20000 in
theorem gX12_isWord_X12_byteAt : GoodIn wsX12_isWord (wsV RX12 97 RX12 yX12_byteAt wsX12_byteAt) := goodIn_app (goodIn_of _ (by decide +kernel)) ggX12_isWord_X12_byteAt
theorem dX12_isWord_0 : decode cX12_isWord 0 = .ok (.iload_n 2, 1) := by decide +kernel
theorem dX12_isWord_1 : decode cX12_isWord 1 = .ok (.iload 6, 2) := by decide +kernel
theorem dX12_isWord_3 : decode cX12_isWord 3 = .ok (.ifCond .ge 7, 3) := by decide +kernel
theorem dX12_isWord_6 : decode cX12_isWord 6 = .ok (.iconst 3, 1) := by decide +kernel
theorem dX12_isWord_7 : decode cX12_isWord 7 = .ok (.goto 13, 3) := by decide +kernel
theorem dX12_isWord_10 : decode cX12_isWord 10 = .ok (.iload 7, 2) := by decide +kernel
theorem dX12_isWord_12 : decode cX12_isWord 12 = .ok (.ifCond .ge 7, 3) := by decide +kernel
theorem dX12_isWord_15 : decode cX12_isWord 15 = .ok (.iconst 4, 1) := by decide +kernel
theorem dX12_isWord_16 : decode cX12_isWord 16 = .ok (.goto 4, 3) := by decide +kernel
theorem dX12_isWord_19 : decode cX12_isWord 19 = .ok (.iconst 5, 1) := by decide +kernel
theorem dX12_isWord_20 : decode cX12_isWord 20 = .ok (.if_icmp .ne 40, 3) := by decide +kernel
theorem dX12_isWord_23 : decode cX12_isWord 23 = .ok (.aload_n 0, 1) := by decide +kernel
theorem dX12_isWord_24 : decode cX12_isWord 24 = .ok (.iload_n 1, 1) := by decide +kernel
theorem dX12_isWord_25 : decode cX12_isWord 25 = .ok (.invokevirtual 97, 3) := by decide +kernel
theorem dX12_isWord_28 : decode cX12_isWord 28 = .ok (.iload_n 3, 1) := by decide +kernel
theorem dX12_isWord_29 : decode cX12_isWord 29 = .ok (.if_icmp .ne 31, 3) := by decide +kernel
theorem dX12_isWord_32 : decode cX12_isWord 32 = .ok (.aload_n 0, 1) := by decide +kernel
theorem dX12_isWord_33 : decode cX12_isWord 33 = .ok (.iload_n 1, 1) := by decide +kernel
theorem dX12_isWord_34 : decode cX12_isWord 34 = .ok (.iconst 1, 1) := by decide +kernel
theorem dX12_isWord_35 : decode cX12_isWord 35 = .ok (.iadd, 1) := by decide +kernel
theorem dX12_isWord_36 : decode cX12_isWord 36 = .ok (.invokevirtual 97, 3) := by decide +kernel
theorem dX12_isWord_39 : decode cX12_isWord 39 = .ok (.iload 4, 2) := by decide +kernel
theorem dX12_isWord_41 : decode cX12_isWord 41 = .ok (.if_icmp .ne 19, 3) := by decide +kernel
theorem dX12_isWord_44 : decode cX12_isWord 44 = .ok (.aload_n 0, 1) := by decide +kernel
theorem dX12_isWord_45 : decode cX12_isWord 45 = .ok (.iload_n 1, 1) := by decide +kernel
theorem dX12_isWord_46 : decode cX12_isWord 46 = .ok (.iconst 2, 1) := by decide +kernel
theorem dX12_isWord_47 : decode cX12_isWord 47 = .ok (.iadd, 1) := by decide +kernel
theorem dX12_isWord_48 : decode cX12_isWord 48 = .ok (.invokevirtual 97, 3) := by decide +kernel
theorem dX12_isWord_51 : decode cX12_isWord 51 = .ok (.iload 5, 2) := by decide +kernel
theorem dX12_isWord_53 : decode cX12_isWord 53 = .ok (.if_icmp .ne 7, 3) := by decide +kernel
theorem dX12_isWord_56 : decode cX12_isWord 56 = .ok (.iconst 1, 1) := by decide +kernel
theorem dX12_isWord_57 : decode cX12_isWord 57 = .ok (.goto 4, 3) := by decide +kernel
theorem dX12_isWord_60 : decode cX12_isWord 60 = .ok (.iconst 0, 1) := by decide +kernel
theorem dX12_isWord_61 : decode cX12_isWord 61 = .ok (.istore 8, 2) := by decide +kernel
theorem dX12_isWord_63 : decode cX12_isWord 63 = .ok (.iload 8, 2) := by decide +kernel
theorem dX12_isWord_65 : decode cX12_isWord 65 = .ok (.ifCond .eq 41, 3) := by decide +kernel
theorem dX12_isWord_68 : decode cX12_isWord 68 = .ok (.iload 6, 2) := by decide +kernel
theorem dX12_isWord_70 : decode cX12_isWord 70 = .ok (.ifCond .lt 15, 3) := by decide +kernel
theorem dX12_isWord_73 : decode cX12_isWord 73 = .ok (.aload_n 0, 1) := by decide +kernel
theorem dX12_isWord_74 : decode cX12_isWord 74 = .ok (.iload_n 1, 1) := by decide +kernel
theorem dX12_isWord_75 : decode cX12_isWord 75 = .ok (.iconst 3, 1) := by decide +kernel
theorem dX12_isWord_76 : decode cX12_isWord 76 = .ok (.iadd, 1) := by decide +kernel
theorem dX12_isWord_77 : decode cX12_isWord 77 = .ok (.invokevirtual 97, 3) := by decide +kernel
theorem dX12_isWord_80 : decode cX12_isWord 80 = .ok (.iload 6, 2) := by decide +kernel
theorem dX12_isWord_82 : decode cX12_isWord 82 = .ok (.if_icmp .ne 24, 3) := by decide +kernel
theorem dX12_isWord_85 : decode cX12_isWord 85 = .ok (.iload 7, 2) := by decide +kernel
theorem dX12_isWord_87 : decode cX12_isWord 87 = .ok (.ifCond .lt 15, 3) := by decide +kernel
theorem dX12_isWord_90 : decode cX12_isWord 90 = .ok (.aload_n 0, 1) := by decide +kernel
theorem dX12_isWord_91 : decode cX12_isWord 91 = .ok (.iload_n 1, 1) := by decide +kernel
theorem dX12_isWord_92 : decode cX12_isWord 92 = .ok (.iconst 4, 1) := by decide +kernel
theorem dX12_isWord_93 : decode cX12_isWord 93 = .ok (.iadd, 1) := by decide +kernel
theorem dX12_isWord_94 : decode cX12_isWord 94 = .ok (.invokevirtual 97, 3) := by decide +kernel
theorem dX12_isWord_97 : decode cX12_isWord 97 = .ok (.iload 7, 2) := by decide +kernel
theorem dX12_isWord_99 : decode cX12_isWord 99 = .ok (.if_icmp .ne 7, 3) := by decide +kernel
theorem dX12_isWord_102 : decode cX12_isWord 102 = .ok (.iconst 1, 1) := by decide +kernel
theorem dX12_isWord_103 : decode cX12_isWord 103 = .ok (.goto 4, 3) := by decide +kernel
theorem dX12_isWord_106 : decode cX12_isWord 106 = .ok (.iconst 0, 1) := by decide +kernel
theorem dX12_isWord_107 : decode cX12_isWord 107 = .ok (.ireturn, 1) := by decide +kernel
set_option maxRecDepth 20000 in
theorem ggX12_wordOf_X12_isWord : GoodIn wsX12_wordOf wsX12_isWord := goodIn_r _ [5, 6, 7, 8, 4, 9, 10, 11, 12, 13, 14, 15, 16, 17, 18, 19, 20, 21, 22, 23, 24, 25, 26, 27, 28, 29, 30, 31, 32, 33, 34, 35, 36] (by decide +kernel) (by decide +kernel)
set_option maxRecDepth 20000 in
theorem gX12_wordOf_X12_isWord : GoodIn wsX12_wordOf (wsV RX12 101 RX12 yX12_isWord wsX12_isWord) := goodIn_app (goodIn_of _ (by decide +kernel)) ggX12_wordOf_X12_isWord
theorem dX12_wordOf_0 : decode cX12_wordOf 0 = .ok (.aload_n 0, 1) := by decide +kernel
theorem dX12_wordOf_1 : decode cX12_wordOf 1 = .ok (.iload_n 1, 1) := by decide +kernel
theorem dX12_wordOf_2 : decode cX12_wordOf 2 = .ok (.iload_n 2, 1) := by decide +kernel
theorem dX12_wordOf_3 : decode cX12_wordOf 3 = .ok (.bipush 112, 2) := by decide +kernel
theorem dX12_wordOf_5 : decode cX12_wordOf 5 = .ok (.bipush 105, 2) := by decide +kernel
theorem dX12_wordOf_7 : decode cX12_wordOf 7 = .ok (.bipush 116, 2) := by decide +kernel
theorem dX12_wordOf_9 : decode cX12_wordOf 9 = .ok (.iconst (-1), 1) := by decide +kernel
theorem dX12_wordOf_10 : decode cX12_wordOf 10 = .ok (.iconst (-1), 1) := by decide +kernel
theorem dX12_wordOf_11 : decode cX12_wordOf 11 = .ok (.invokevirtual 101, 3) := by decide +kernel
theorem dX12_wordOf_14 : decode cX12_wordOf 14 = .ok (.ifCond .eq 5, 3) := by decide +kernel
theorem dX12_wordOf_17 : decode cX12_wordOf 17 = .ok (.iconst 4, 1) := by decide +kernel
theorem dX12_wordOf_18 : decode cX12_wordOf 18 = .ok (.ireturn, 1) := by decide +kernel
theorem dX12_wordOf_19 : decode cX12_wordOf 19 = .ok (.aload_n 0, 1) := by decide +kernel
theorem dX12_wordOf_20 : decode cX12_wordOf 20 = .ok (.iload_n 1, 1) := by decide +kernel
theorem dX12_wordOf_21 : decode cX12_wordOf 21 = .ok (.iload_n 2, 1) := by decide +kernel
theorem dX12_wordOf_22 : decode cX12_wordOf 22 = .ok (.bipush 108, 2) := by decide +kernel
theorem dX12_wordOf_24 : decode cX12_wordOf 24 = .ok (.bipush 97, 2) := by decide +kernel
theorem dX12_wordOf_26 : decode cX12_wordOf 26 = .ok (.bipush 121, 2) := by decide +kernel
theorem dX12_wordOf_28 : decode cX12_wordOf 28 = .ok (.bipush 101, 2) := by decide +kernel
theorem dX12_wordOf_30 : decode cX12_wordOf 30 = .ok (.bipush 114, 2) := by decide +kernel
theorem dX12_wordOf_32 : decode cX12_wordOf 32 = .ok (.invokevirtual 101, 3) := by decide +kernel
theorem dX12_wordOf_35 : decode cX12_wordOf 35 = .ok (.ifCond .eq 5, 3) := by decide +kernel
theorem dX12_wordOf_38 : decode cX12_wordOf 38 = .ok (.iconst 5, 1) := by decide +kernel
theorem dX12_wordOf_39 : decode cX12_wordOf 39 = .ok (.ireturn, 1) := by decide +kernel
theorem dX12_wordOf_40 : decode cX12_wordOf 40 = .ok (.aload_n 0, 1) := by decide +kernel
theorem dX12_wordOf_41 : decode cX12_wordOf 41 = .ok (.iload_n 1, 1) := by decide +kernel
theorem dX12_wordOf_42 : decode cX12_wordOf 42 = .ok (.iload_n 2, 1) := by decide +kernel
theorem dX12_wordOf_43 : decode cX12_wordOf 43 = .ok (.bipush 112, 2) := by decide +kernel
theorem dX12_wordOf_45 : decode cX12_wordOf 45 = .ok (.bipush 114, 2) := by decide +kernel
theorem dX12_wordOf_47 : decode cX12_wordOf 47 = .ok (.bipush 105, 2) := by decide +kernel
theorem dX12_wordOf_49 : decode cX12_wordOf 49 = .ok (.bipush 99, 2) := by decide +kernel
theorem dX12_wordOf_51 : decode cX12_wordOf 51 = .ok (.bipush 101, 2) := by decide +kernel
theorem dX12_wordOf_53 : decode cX12_wordOf 53 = .ok (.invokevirtual 101, 3) := by decide +kernel
theorem dX12_wordOf_56 : decode cX12_wordOf 56 = .ok (.ifCond .eq 6, 3) := by decide +kernel
theorem dX12_wordOf_59 : decode cX12_wordOf 59 = .ok (.bipush 6, 2) := by decide +kernel
theorem dX12_wordOf_61 : decode cX12_wordOf 61 = .ok (.ireturn, 1) := by decide +kernel
theorem dX12_wordOf_62 : decode cX12_wordOf 62 = .ok (.aload_n 0, 1) := by decide +kernel
theorem dX12_wordOf_63 : decode cX12_wordOf 63 = .ok (.iload_n 1, 1) := by decide +kernel
theorem dX12_wordOf_64 : decode cX12_wordOf 64 = .ok (.iload_n 2, 1) := by decide +kernel
theorem dX12_wordOf_65 : decode cX12_wordOf 65 = .ok (.bipush 108, 2) := by decide +kernel
theorem dX12_wordOf_67 : decode cX12_wordOf 67 = .ok (.bipush 117, 2) := by decide +kernel
theorem dX12_wordOf_69 : decode cX12_wordOf 69 = .ok (.bipush 109, 2) := by decide +kernel
theorem dX12_wordOf_71 : decode cX12_wordOf 71 = .ok (.bipush 112, 2) := by decide +kernel
theorem dX12_wordOf_73 : decode cX12_wordOf 73 = .ok (.iconst (-1), 1) := by decide +kernel
theorem dX12_wordOf_74 : decode cX12_wordOf 74 = .ok (.invokevirtual 101, 3) := by decide +kernel
theorem dX12_wordOf_77 : decode cX12_wordOf 77 = .ok (.ifCond .eq 8, 3) := by decide +kernel
theorem dX12_wordOf_80 : decode cX12_wordOf 80 = .ok (.bipush 7, 2) := by decide +kernel
theorem dX12_wordOf_82 : decode cX12_wordOf 82 = .ok (.goto 4, 3) := by decide +kernel
theorem dX12_wordOf_85 : decode cX12_wordOf 85 = .ok (.iconst 1, 1) := by decide +kernel
theorem dX12_wordOf_86 : decode cX12_wordOf 86 = .ok (.ireturn, 1) := by decide +kernel
set_option maxRecDepth 20000 in
theorem ggX12_next_X12_byteAt : GoodIn wsX12_next wsX12_byteAt := goodIn_r _ [9, 10, 11, 23, 24, 25, 26, 27, 28, 29, 30, 31, 32, 33, 34, 35, 36, 37, 38, 39, 40, 41, 42, 43, 44, 45, 46, 47] (by decide +kernel) (by decide +kernel)
set_option maxRecDepth 20000 in
theorem gX12_next_X12_byteAt : GoodIn wsX12_next (wsV RX12 97 RX12 yX12_byteAt wsX12_byteAt) := goodIn_app (goodIn_of _ (by decide +kernel)) ggX12_next_X12_byteAt
set_option maxRecDepth 20000 in
theorem ggX12_next_X12_in : GoodIn wsX12_next wsX12_in := goodIn_r _ [14] (by decide +kernel) (by decide +kernel)
set_option maxRecDepth 20000 in
theorem gX12_next_X12_in : GoodIn wsX12_next (va_wsS RX12 68 yX12_in wsX12_in) := goodIn_app (goodIn_of _ (by decide +kernel)) ggX12_next_X12_in
set_option maxRecDepth 20000 in
theorem ggX12_next_X12_wordOf : GoodIn wsX12_next wsX12_wordOf := goodIn_r _ [18, 19, 20, 21, 8, 22, 5, 6, 7, 9, 10, 11, 23, 24, 25, 26, 27, 28, 29, 30, 31, 32, 33, 34, 35, 36, 37, 38, 39, 40, 41, 42, 43, 44, 45, 46, 47] (by decide +kernel) (by decide +kernel)
set_option maxRecDepth 20000 in
theorem gX12_next_X12_wordOf : GoodIn wsX12_next (wsV RX12 111 RX12 yX12_wordOf wsX12_wordOf) := goodIn_app (goodIn_of _ (by decide +kernel)) ggX12_next_X12_wordOf
theorem dX12_next_0 : decode cX12_next 0 = .ok (.iload_n 1, 1) := by decide +kernel
theorem dX12_next_1 : decode cX12_next 1 = .ok (.istore_n 2, 1) := by decide +kernel
theorem dX12_next_2 : decode cX12_next 2 = .ok (.aload_n 0, 1) := by decide +kernel
theorem dX12_next_3 : decode cX12_next 3 = .ok (.iload_n 2, 1) := by decide +kernel
theorem dX12_next_4 : decode cX12_next 4 = .ok (.invokevirtual 97, 3) := by decide +kernel
theorem dX12_next_7 : decode cX12_next 7 = .ok (.bipush 32, 2) := by decide +kernel
theorem dX12_next_9 : decode cX12_next 9 = .ok (.if_icmp .ne 9, 3) := by decide +kernel
theorem dX12_next_12 : decode cX12_next 12 = .ok (.iinc 2 1, 3) := by decide +kernel
theorem dX12_next_15 : decode cX12_next 15 = .ok (.goto (-13), 3) := by decide +kernel
theorem dX12_next_18 : decode cX12_next 18 = .ok (.aload_n 0, 1) := by decide +kernel
theorem dX12_next_19 : decode cX12_next 19 = .ok (.iload_n 2, 1) := by decide +kernel
theorem dX12_next_20 : decode cX12_next 20 = .ok (.putfield 105, 3) := by decide +kernel
theorem dX12_next_23 : decode cX12_next 23 = .ok (.iload_n 2, 1) := by decide +kernel
theorem dX12_next_24 : decode cX12_next 24 = .ok (.istore_n 3, 1) := by decide +kernel
theorem dX12_next_25 : decode cX12_next 25 = .ok (.aload_n 0, 1) := by decide +kernel
theorem dX12_next_26 : decode cX12_next 26 = .ok (.iload_n 2, 1) := by decide +kernel
theorem dX12_next_27 : decode cX12_next 27 = .ok (.invokevirtual 97, 3) := by decide +kernel
theorem dX12_next_30 : decode cX12_next 30 = .ok (.ifCond .ge 11, 3) := by decide +kernel
theorem dX12_next_33 : decode cX12_next 33 = .ok (.aload_n 0, 1) := by decide +kernel
theorem dX12_next_34 : decode cX12_next 34 = .ok (.iconst 0, 1) := by decide +kernel
theorem dX12_next_35 : decode cX12_next 35 = .ok (.putfield 108, 3) := by decide +kernel
theorem dX12_next_38 : decode cX12_next 38 = .ok (.goto 175, 3) := by decide +kernel
theorem dX12_next_41 : decode cX12_next 41 = .ok (.aload_n 0, 1) := by decide +kernel
theorem dX12_next_42 : decode cX12_next 42 = .ok (.iload_n 2, 1) := by decide +kernel
theorem dX12_next_43 : decode cX12_next 43 = .ok (.invokevirtual 97, 3) := by decide +kernel
theorem dX12_next_46 : decode cX12_next 46 = .ok (.bipush 59, 2) := by decide +kernel
theorem dX12_next_48 : decode cX12_next 48 = .ok (.if_icmp .ne 15, 3) := by decide +kernel
theorem dX12_next_51 : decode cX12_next 51 = .ok (.aload_n 0, 1) := by decide +kernel
theorem dX12_next_52 : decode cX12_next 52 = .ok (.iconst 3, 1) := by decide +kernel
theorem dX12_next_53 : decode cX12_next 53 = .ok (.putfield 108, 3) := by decide +kernel
theorem dX12_next_56 : decode cX12_next 56 = .ok (.iload_n 2, 1) := by decide +kernel
theorem dX12_next_57 : decode cX12_next 57 = .ok (.iconst 1, 1) := by decide +kernel
theorem dX12_next_58 : decode cX12_next 58 = .ok (.iadd, 1) := by decide +kernel
theorem dX12_next_59 : decode cX12_next 59 = .ok (.istore_n 3, 1) := by decide +kernel
theorem dX12_next_60 : decode cX12_next 60 = .ok (.goto 153, 3) := by decide +kernel
theorem dX12_next_63 : decode cX12_next 63 = .ok (.aload_n 0, 1) := by decide +kernel
theorem dX12_next_64 : decode cX12_next 64 = .ok (.iload_n 2, 1) := by decide +kernel
theorem dX12_next_65 : decode cX12_next 65 = .ok (.invokevirtual 97, 3) := by decide +kernel
theorem dX12_next_68 : decode cX12_next 68 = .ok (.bipush 97, 2) := by decide +kernel
theorem dX12_next_70 : decode cX12_next 70 = .ok (.bipush 122, 2) := by decide +kernel
theorem dX12_next_72 : decode cX12_next 72 = .ok (.invokestatic 68, 3) := by decide +kernel
theorem dX12_next_75 : decode cX12_next 75 = .ok (.ifCond .eq 39, 3) := by decide +kernel
theorem dX12_next_78 : decode cX12_next 78 = .ok (.aload_n 0, 1) := by decide +kernel
theorem dX12_next_79 : decode cX12_next 79 = .ok (.iload_n 3, 1) := by decide +kernel
theorem dX12_next_80 : decode cX12_next 80 = .ok (.invokevirtual 97, 3) := by decide +kernel
theorem dX12_next_83 : decode cX12_next 83 = .ok (.bipush 97, 2) := by decide +kernel
theorem dX12_next_85 : decode cX12_next 85 = .ok (.bipush 122, 2) := by decide +kernel
theorem dX12_next_87 : decode cX12_next 87 = .ok (.invokestatic 68, 3) := by decide +kernel
theorem dX12_next_90 : decode cX12_next 90 = .ok (.ifCond .eq 9, 3) := by decide +kernel
theorem dX12_next_93 : decode cX12_next 93 = .ok (.iinc 3 1, 3) := by decide +kernel
theorem dX12_next_96 : decode cX12_next 96 = .ok (.goto (-18), 3) := by decide +kernel
theorem dX12_next_99 : decode cX12_next 99 = .ok (.aload_n 0, 1) := by decide +kernel
theorem dX12_next_100 : decode cX12_next 100 = .ok (.aload_n 0, 1) := by decide +kernel
theorem dX12_next_101 : decode cX12_next 101 = .ok (.iload_n 2, 1) := by decide +kernel
theorem dX12_next_102 : decode cX12_next 102 = .ok (.iload_n 3, 1) := by decide +kernel
theorem dX12_next_103 : decode cX12_next 103 = .ok (.iload_n 2, 1) := by decide +kernel
theorem dX12_next_104 : decode cX12_next 104 = .ok (.isub, 1) := by decide +kernel
theorem dX12_next_105 : decode cX12_next 105 = .ok (.invokevirtual 111, 3) := by decide +kernel
theorem dX12_next_108 : decode cX12_next 108 = .ok (.putfield 108, 3) := by decide +kernel
theorem dX12_next_111 : decode cX12_next 111 = .ok (.goto 102, 3) := by decide +kernel
theorem dX12_next_114 : decode cX12_next 114 = .ok (.aload_n 0, 1) := by decide +kernel
theorem dX12_next_115 : decode cX12_next 115 = .ok (.iload_n 2, 1) := by decide +kernel
theorem dX12_next_116 : decode cX12_next 116 = .ok (.invokevirtual 97, 3) := by decide +kernel
theorem dX12_next_119 : decode cX12_next 119 = .ok (.bipush 48, 2) := by decide +kernel
theorem dX12_next_121 : decode cX12_next 121 = .ok (.bipush 57, 2) := by decide +kernel
theorem dX12_next_123 : decode cX12_next 123 = .ok (.invokestatic 68, 3) := by decide +kernel
theorem dX12_next_126 : decode cX12_next 126 = .ok (.ifCond .eq 82, 3) := by decide +kernel
theorem dX12_next_129 : decode cX12_next 129 = .ok (.aload_n 0, 1) := by decide +kernel
theorem dX12_next_130 : decode cX12_next 130 = .ok (.iconst 0, 1) := by decide +kernel
theorem dX12_next_131 : decode cX12_next 131 = .ok (.putfield 115, 3) := by decide +kernel
theorem dX12_next_134 : decode cX12_next 134 = .ok (.aload_n 0, 1) := by decide +kernel
theorem dX12_next_135 : decode cX12_next 135 = .ok (.iload_n 3, 1) := by decide +kernel
theorem dX12_next_136 : decode cX12_next 136 = .ok (.invokevirtual 97, 3) := by decide +kernel
theorem dX12_next_139 : decode cX12_next 139 = .ok (.bipush 48, 2) := by decide +kernel
theorem dX12_next_141 : decode cX12_next 141 = .ok (.bipush 57, 2) := by decide +kernel
theorem dX12_next_143 : decode cX12_next 143 = .ok (.invokestatic 68, 3) := by decide +kernel
theorem dX12_next_146 : decode cX12_next 146 = .ok (.ifCond .eq 43, 3) := by decide +kernel
theorem dX12_next_149 : decode cX12_next 149 = .ok (.aload_n 0, 1) := by decide +kernel
theorem dX12_next_150 : decode cX12_next 150 = .ok (.iload_n 3, 1) := by decide +kernel
theorem dX12_next_151 : decode cX12_next 151 = .ok (.iload_n 2, 1) := by decide +kernel
theorem dX12_next_152 : decode cX12_next 152 = .ok (.isub, 1) := by decide +kernel
theorem dX12_next_153 : decode cX12_next 153 = .ok (.iconst 2, 1) := by decide +kernel
theorem dX12_next_154 : decode cX12_next 154 = .ok (.if_icmp .ge 22, 3) := by decide +kernel
theorem dX12_next_157 : decode cX12_next 157 = .ok (.bipush 10, 2) := by decide +kernel
theorem dX12_next_159 : decode cX12_next 159 = .ok (.aload_n 0, 1) := by decide +kernel
theorem dX12_next_160 : decode cX12_next 160 = .ok (.getfield 115, 3) := by decide +kernel
theorem dX12_next_163 : decode cX12_next 163 = .ok (.imul, 1) := by decide +kernel
theorem dX12_next_164 : decode cX12_next 164 = .ok (.aload_n 0, 1) := by decide +kernel
theorem dX12_next_165 : decode cX12_next 165 = .ok (.iload_n 3, 1) := by decide +kernel
theorem dX12_next_166 : decode cX12_next 166 = .ok (.invokevirtual 97, 3) := by decide +kernel
theorem dX12_next_169 : decode cX12_next 169 = .ok (.iadd, 1) := by decide +kernel
theorem dX12_next_170 : decode cX12_next 170 = .ok (.bipush 48, 2) := by decide +kernel
theorem dX12_next_172 : decode cX12_next 172 = .ok (.isub, 1) := by decide +kernel
theorem dX12_next_173 : decode cX12_next 173 = .ok (.goto 7, 3) := by decide +kernel
theorem dX12_next_176 : decode cX12_next 176 = .ok (.aload_n 0, 1) := by decide +kernel
theorem dX12_next_177 : decode cX12_next 177 = .ok (.getfield 115, 3) := by decide +kernel
theorem dX12_next_180 : decode cX12_next 180 = .ok (.putfield 115, 3) := by decide +kernel
theorem dX12_next_183 : decode cX12_next 183 = .ok (.iinc 3 1, 3) := by decide +kernel
theorem dX12_next_186 : decode cX12_next 186 = .ok (.goto (-52), 3) := by decide +kernel
theorem dX12_next_189 : decode cX12_next 189 = .ok (.aload_n 0, 1) := by decide +kernel
theorem dX12_next_190 : decode cX12_next 190 = .ok (.iload_n 3, 1) := by decide +kernel
theorem dX12_next_191 : decode cX12_next 191 = .ok (.iload_n 2, 1) := by decide +kernel
theorem dX12_next_192 : decode cX12_next 192 = .ok (.isub, 1) := by decide +kernel
theorem dX12_next_193 : decode cX12_next 193 = .ok (.iconst 2, 1) := by decide +kernel
theorem dX12_next_194 : decode cX12_next 194 = .ok (.if_icmp .le 7, 3) := by decide +kernel
theorem dX12_next_197 : decode cX12_next 197 = .ok (.iconst 1, 1) := by decide +kernel
theorem dX12_next_198 : decode cX12_next 198 = .ok (.goto 4, 3) := by decide +kernel
theorem dX12_next_201 : decode cX12_next 201 = .ok (.iconst 2, 1) := by decide +kernel
theorem dX12_next_202 : decode cX12_next 202 = .ok (.putfield 108, 3) := by decide +kernel
theorem dX12_next_205 : decode cX12_next 205 = .ok (.goto 8, 3) := by decide +kernel
theorem dX12_next_208 : decode cX12_next 208 = .ok (.aload_n 0, 1) := by decide +kernel
theorem dX12_next_209 : decode cX12_next 209 = .ok (.iconst 1, 1) := by decide +kernel
theorem dX12_next_210 : decode cX12_next 210 = .ok (.putfield 108, 3) := by decide +kernel
theorem dX12_next_213 : decode cX12_next 213 = .ok (.aload_n 0, 1) := by decide +kernel
theorem dX12_next_214 : decode cX12_next 214 = .ok (.iload_n 3, 1) := by decide +kernel
theorem dX12_next_215 : decode cX12_next 215 = .ok (.putfield 118, 3) := by decide +kernel
theorem dX12_next_218 : decode cX12_next 218 = .ok (.return_, 1) := by decide +kernel
set_option maxRecDepth 20000 in
theorem ggX12_reads_X12_next : GoodIn wsX12_reads wsX12_next := goodIn_r _ [10, 11, 1, 5, 3, 12, 13, 14, 9, 15, 16, 17, 18, 19, 20, 21, 22, 23, 24, 25, 26, 27, 28, 29, 30, 31, 32, 33, 34, 35, 36, 37, 38, 39, 40, 41, 42, 43, 44, 45, 46, 47, 48, 49, 50, 51, 52, 53] (by decide +kernel) (by decide +kernel)
set_option maxRecDepth 20000 in
theorem gX12_reads_X12_next : GoodIn wsX12_reads (wsV RX12 121 RX12 yX12_next wsX12_next) := goodIn_app (goodIn_of _ (by decide +kernel)) ggX12_reads_X12_next
theorem dX12_reads_0 : decode cX12_reads 0 = .ok (.aload_n 0, 1) := by decide +kernel
theorem dX12_reads_1 : decode cX12_reads 1 = .ok (.iload_n 1, 1) := by decide +kernel
theorem dX12_reads_2 : decode cX12_reads 2 = .ok (.invokevirtual 121, 3) := by decide +kernel
theorem dX12_reads_5 : decode cX12_reads 5 = .ok (.iload_n 2, 1) := by decide +kernel
theorem dX12_reads_6 : decode cX12_reads 6 = .ok (.ifCond .eq 19, 3) := by decide +kernel
theorem dX12_reads_9 : decode cX12_reads 9 = .ok (.aload_n 0, 1) := by decide +kernel
theorem dX12_reads_10 : decode cX12_reads 10 = .ok (.getfield 108, 3) := by decide +kernel
theorem dX12_reads_13 : decode cX12_reads 13 = .ok (.iconst 4, 1) := by decide +kernel
theorem dX12_reads_14 : decode cX12_reads 14 = .ok (.if_icmp .ne 7, 3) := by decide +kernel
theorem dX12_reads_17 : decode cX12_reads 17 = .ok (.iconst 1, 1) := by decide +kernel
theorem dX12_reads_18 : decode cX12_reads 18 = .ok (.goto 38, 3) := by decide +kernel
theorem dX12_reads_21 : decode cX12_reads 21 = .ok (.iconst 0, 1) := by decide +kernel
theorem dX12_reads_22 : decode cX12_reads 22 = .ok (.goto 34, 3) := by decide +kernel
theorem dX12_reads_25 : decode cX12_reads 25 = .ok (.aload_n 0, 1) := by decide +kernel
theorem dX12_reads_26 : decode cX12_reads 26 = .ok (.getfield 108, 3) := by decide +kernel
theorem dX12_reads_29 : decode cX12_reads 29 = .ok (.iconst 5, 1) := by decide +kernel
theorem dX12_reads_30 : decode cX12_reads 30 = .ok (.if_icmp .eq 21, 3) := by decide +kernel
theorem dX12_reads_33 : decode cX12_reads 33 = .ok (.aload_n 0, 1) := by decide +kernel
theorem dX12_reads_34 : decode cX12_reads 34 = .ok (.getfield 108, 3) := by decide +kernel
theorem dX12_reads_37 : decode cX12_reads 37 = .ok (.bipush 6, 2) := by decide +kernel
theorem dX12_reads_39 : decode cX12_reads 39 = .ok (.if_icmp .eq 12, 3) := by decide +kernel
theorem dX12_reads_42 : decode cX12_reads 42 = .ok (.aload_n 0, 1) := by decide +kernel
theorem dX12_reads_43 : decode cX12_reads 43 = .ok (.getfield 108, 3) := by decide +kernel
theorem dX12_reads_46 : decode cX12_reads 46 = .ok (.bipush 7, 2) := by decide +kernel
theorem dX12_reads_48 : decode cX12_reads 48 = .ok (.if_icmp .ne 7, 3) := by decide +kernel
theorem dX12_reads_51 : decode cX12_reads 51 = .ok (.iconst 1, 1) := by decide +kernel
theorem dX12_reads_52 : decode cX12_reads 52 = .ok (.goto 4, 3) := by decide +kernel
theorem dX12_reads_55 : decode cX12_reads 55 = .ok (.iconst 0, 1) := by decide +kernel
theorem dX12_reads_56 : decode cX12_reads 56 = .ok (.istore_n 3, 1) := by decide +kernel
