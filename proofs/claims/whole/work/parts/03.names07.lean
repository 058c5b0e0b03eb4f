theorem dX12_agree_60 : decode cX12_agree 60 = .ok (.iload_n 2, 1) := by decide +kernel
theorem dX12_agree_61 : decode cX12_agree 61 = .ok (.ireturn, 1) := by decide +kernel
set_option maxRecDepth 20000 in
theorem ggX12_evening_X12_in : GoodIn wsX12_evening wsX12_in := goodIn_r _ [5] (by decide +kernel) (by decide +kernel)
set_option maxRecDepth 20000 in
theorem gX12_evening_X12_in : GoodIn wsX12_evening (va_wsS RX12 68 yX12_in wsX12_in) := goodIn_app (goodIn_of _ (by decide +kernel)) ggX12_evening_X12_in
set_option maxRecDepth 20000 in
theorem ggX12_evening_X12_bad : GoodIn wsX12_evening wsX12_bad := goodIn_r _ [9, 10, 15, 16, 17, 18, 19, 20, 21, 22, 23, 24, 25, 26, 27, 28, 29, 30, 31, 32, 33, 34, 35, 36, 37, 38, 39] (by decide +kernel) (by decide +kernel)
set_option maxRecDepth 20000 in
theorem gX12_evening_X12_bad : GoodIn wsX12_evening (wsV RX12 72 RX12 yX12_bad wsX12_bad) := goodIn_app (goodIn_of _ (by decide +kernel)) ggX12_evening_X12_bad
set_option maxRecDepth 20000 in
theorem ggX12_evening_X12_full : GoodIn wsX12_evening wsX12_full := goodIn_r _ [14, 10, 15, 16, 17, 18, 19, 20, 21, 22, 23, 24, 25, 26, 27, 28, 29, 30, 31, 32, 33, 34, 35, 36, 37, 38, 39] (by decide +kernel) (by decide +kernel)
set_option maxRecDepth 20000 in
theorem gX12_evening_X12_full : GoodIn wsX12_evening (wsV RX12 90 RX12 yX12_full wsX12_full) := goodIn_app (goodIn_of _ (by decide +kernel)) ggX12_evening_X12_full
theorem dX12_evening_0 : decode cX12_evening 0 = .ok (.iload_n 1, 1) := by decide +kernel
theorem dX12_evening_1 : decode cX12_evening 1 = .ok (.iconst 0, 1) := by decide +kernel
theorem dX12_evening_2 : decode cX12_evening 2 = .ok (.iconst 5, 1) := by decide +kernel
theorem dX12_evening_3 : decode cX12_evening 3 = .ok (.invokestatic 68, 3) := by decide +kernel
theorem dX12_evening_6 : decode cX12_evening 6 = .ok (.ifCond .ne 8, 3) := by decide +kernel
theorem dX12_evening_9 : decode cX12_evening 9 = .ok (.aload_n 0, 1) := by decide +kernel
theorem dX12_evening_10 : decode cX12_evening 10 = .ok (.invokevirtual 72, 3) := by decide +kernel
theorem dX12_evening_13 : decode cX12_evening 13 = .ok (.ireturn, 1) := by decide +kernel
theorem dX12_evening_14 : decode cX12_evening 14 = .ok (.aload_n 0, 1) := by decide +kernel
theorem dX12_evening_15 : decode cX12_evening 15 = .ok (.getfield 17, 3) := by decide +kernel
theorem dX12_evening_18 : decode cX12_evening 18 = .ok (.bipush 78, 2) := by decide +kernel
theorem dX12_evening_20 : decode cX12_evening 20 = .ok (.iaload, 1) := by decide +kernel
theorem dX12_evening_21 : decode cX12_evening 21 = .ok (.bipush 10, 2) := by decide +kernel
theorem dX12_evening_23 : decode cX12_evening 23 = .ok (.if_icmp .ne 8, 3) := by decide +kernel
theorem dX12_evening_26 : decode cX12_evening 26 = .ok (.aload_n 0, 1) := by decide +kernel
theorem dX12_evening_27 : decode cX12_evening 27 = .ok (.invokevirtual 90, 3) := by decide +kernel
theorem dX12_evening_30 : decode cX12_evening 30 = .ok (.ireturn, 1) := by decide +kernel
theorem dX12_evening_31 : decode cX12_evening 31 = .ok (.aload_n 0, 1) := by decide +kernel
theorem dX12_evening_32 : decode cX12_evening 32 = .ok (.getfield 17, 3) := by decide +kernel
theorem dX12_evening_35 : decode cX12_evening 35 = .ok (.bipush 79, 2) := by decide +kernel
theorem dX12_evening_37 : decode cX12_evening 37 = .ok (.aload_n 0, 1) := by decide +kernel
theorem dX12_evening_38 : decode cX12_evening 38 = .ok (.getfield 17, 3) := by decide +kernel
theorem dX12_evening_41 : decode cX12_evening 41 = .ok (.bipush 78, 2) := by decide +kernel
theorem dX12_evening_43 : decode cX12_evening 43 = .ok (.iaload, 1) := by decide +kernel
theorem dX12_evening_44 : decode cX12_evening 44 = .ok (.iadd, 1) := by decide +kernel
theorem dX12_evening_45 : decode cX12_evening 45 = .ok (.iload_n 1, 1) := by decide +kernel
theorem dX12_evening_46 : decode cX12_evening 46 = .ok (.iastore, 1) := by decide +kernel
theorem dX12_evening_47 : decode cX12_evening 47 = .ok (.aload_n 0, 1) := by decide +kernel
theorem dX12_evening_48 : decode cX12_evening 48 = .ok (.getfield 17, 3) := by decide +kernel
theorem dX12_evening_51 : decode cX12_evening 51 = .ok (.bipush 78, 2) := by decide +kernel
theorem dX12_evening_53 : decode cX12_evening 53 = .ok (.dup2, 1) := by decide +kernel
theorem dX12_evening_54 : decode cX12_evening 54 = .ok (.iaload, 1) := by decide +kernel
theorem dX12_evening_55 : decode cX12_evening 55 = .ok (.iconst 1, 1) := by decide +kernel
theorem dX12_evening_56 : decode cX12_evening 56 = .ok (.iadd, 1) := by decide +kernel
theorem dX12_evening_57 : decode cX12_evening 57 = .ok (.iastore, 1) := by decide +kernel
theorem dX12_evening_58 : decode cX12_evening 58 = .ok (.aload_n 0, 1) := by decide +kernel
theorem dX12_evening_59 : decode cX12_evening 59 = .ok (.getfield 17, 3) := by decide +kernel
theorem dX12_evening_62 : decode cX12_evening 62 = .ok (.bipush 78, 2) := by decide +kernel
theorem dX12_evening_64 : decode cX12_evening 64 = .ok (.iaload, 1) := by decide +kernel
theorem dX12_evening_65 : decode cX12_evening 65 = .ok (.ireturn, 1) := by decide +kernel
theorem dX12_dark_0 : decode cX12_dark 0 = .ok (.aload_n 0, 1) := by decide +kernel
theorem dX12_dark_1 : decode cX12_dark 1 = .ok (.getfield 17, 3) := by decide +kernel
theorem dX12_dark_4 : decode cX12_dark 4 = .ok (.bipush 78, 2) := by decide +kernel
theorem dX12_dark_6 : decode cX12_dark 6 = .ok (.iaload, 1) := by decide +kernel
theorem dX12_dark_7 : decode cX12_dark 7 = .ok (.istore_n 1, 1) := by decide +kernel
theorem dX12_dark_8 : decode cX12_dark 8 = .ok (.aload_n 0, 1) := by decide +kernel
theorem dX12_dark_9 : decode cX12_dark 9 = .ok (.getfield 17, 3) := by decide +kernel
theorem dX12_dark_12 : decode cX12_dark 12 = .ok (.bipush 78, 2) := by decide +kernel
theorem dX12_dark_14 : decode cX12_dark 14 = .ok (.iconst 0, 1) := by decide +kernel
theorem dX12_dark_15 : decode cX12_dark 15 = .ok (.iastore, 1) := by decide +kernel
theorem dX12_dark_16 : decode cX12_dark 16 = .ok (.iload_n 1, 1) := by decide +kernel
theorem dX12_dark_17 : decode cX12_dark 17 = .ok (.ireturn, 1) := by decide +kernel
set_option maxRecDepth 20000 in
theorem ggX12_allShown_X12_has : GoodIn wsX12_allShown wsX12_has := goodIn_r _ [5] (by decide +kernel) (by decide +kernel)
set_option maxRecDepth 20000 in
theorem gX12_allShown_X12_has : GoodIn wsX12_allShown (va_wsS RX12 175 yX12_has wsX12_has) := goodIn_app (goodIn_of _ (by decide +kernel)) ggX12_allShown_X12_has
set_option maxRecDepth 20000 in
theorem ggX12_allShown_X12_showMany : GoodIn wsX12_allShown wsX12_showMany := goodIn_r _ [9, 10, 11, 12, 4, 13, 14, 15, 16, 17, 1, 18, 19, 20, 21, 22, 23, 24, 25, 26, 27, 28, 29, 30, 31, 32, 33, 34, 35, 36, 37, 38, 39, 40, 41, 42, 43, 44, 45, 46, 47, 48, 49, 50, 51, 52, 53, 54, 55, 56, 57, 58, 59] (by decide +kernel) (by decide +kernel)
set_option maxRecDepth 20000 in
theorem gX12_allShown_X12_showMany : GoodIn wsX12_allShown (wsV RX12 169 RX12 yX12_showMany wsX12_showMany) := goodIn_app (goodIn_of _ (by decide +kernel)) ggX12_allShown_X12_showMany
theorem dX12_allShown_0 : decode cX12_allShown 0 = .ok (.iconst 0, 1) := by decide +kernel
theorem dX12_allShown_1 : decode cX12_allShown 1 = .ok (.istore_n 2, 1) := by decide +kernel
theorem dX12_allShown_2 : decode cX12_allShown 2 = .ok (.iconst 0, 1) := by decide +kernel
theorem dX12_allShown_3 : decode cX12_allShown 3 = .ok (.istore_n 3, 1) := by decide +kernel
theorem dX12_allShown_4 : decode cX12_allShown 4 = .ok (.iload_n 3, 1) := by decide +kernel
theorem dX12_allShown_5 : decode cX12_allShown 5 = .ok (.aload_n 0, 1) := by decide +kernel
theorem dX12_allShown_6 : decode cX12_allShown 6 = .ok (.getfield 17, 3) := by decide +kernel
theorem dX12_allShown_9 : decode cX12_allShown 9 = .ok (.bipush 50, 2) := by decide +kernel
theorem dX12_allShown_11 : decode cX12_allShown 11 = .ok (.iaload, 1) := by decide +kernel
theorem dX12_allShown_12 : decode cX12_allShown 12 = .ok (.if_icmp .ge 29, 3) := by decide +kernel
theorem dX12_allShown_15 : decode cX12_allShown 15 = .ok (.iload_n 2, 1) := by decide +kernel
theorem dX12_allShown_16 : decode cX12_allShown 16 = .ok (.iload_n 1, 1) := by decide +kernel
theorem dX12_allShown_17 : decode cX12_allShown 17 = .ok (.iload_n 3, 1) := by decide +kernel
theorem dX12_allShown_18 : decode cX12_allShown 18 = .ok (.invokestatic 175, 3) := by decide +kernel
theorem dX12_allShown_21 : decode cX12_allShown 21 = .ok (.ifCond .eq 11, 3) := by decide +kernel
theorem dX12_allShown_24 : decode cX12_allShown 24 = .ok (.aload_n 0, 1) := by decide +kernel
theorem dX12_allShown_25 : decode cX12_allShown 25 = .ok (.iload_n 3, 1) := by decide +kernel
theorem dX12_allShown_26 : decode cX12_allShown 26 = .ok (.invokevirtual 169, 3) := by decide +kernel
theorem dX12_allShown_29 : decode cX12_allShown 29 = .ok (.goto 4, 3) := by decide +kernel
theorem dX12_allShown_32 : decode cX12_allShown 32 = .ok (.iconst 0, 1) := by decide +kernel
theorem dX12_allShown_33 : decode cX12_allShown 33 = .ok (.iadd, 1) := by decide +kernel
theorem dX12_allShown_34 : decode cX12_allShown 34 = .ok (.istore_n 2, 1) := by decide +kernel
theorem dX12_allShown_35 : decode cX12_allShown 35 = .ok (.iinc 3 1, 3) := by decide +kernel
theorem dX12_allShown_38 : decode cX12_allShown 38 = .ok (.goto (-34), 3) := by decide +kernel
theorem dX12_allShown_41 : decode cX12_allShown 41 = .ok (.iload_n 2, 1) := by decide +kernel
theorem dX12_allShown_42 : decode cX12_allShown 42 = .ok (.ireturn, 1) := by decide +kernel
set_option maxRecDepth 20000 in
theorem ggX12_isNext_X12_burns : GoodIn wsX12_isNext wsX12_burns := goodIn_r _ [6, 7, 8, 9, 5, 10, 1, 11, 12, 13, 28, 29, 30, 31, 32, 33, 34, 35, 36, 37, 38, 39, 40, 41, 42, 43, 44, 45, 46, 47, 48, 49, 50, 51, 52] (by decide +kernel) (by decide +kernel)
set_option maxRecDepth 20000 in
theorem gX12_isNext_X12_burns : GoodIn wsX12_isNext (wsV RX12 150 RX12 yX12_burns wsX12_burns) := goodIn_app (goodIn_of _ (by decide +kernel)) ggX12_isNext_X12_burns
set_option maxRecDepth 20000 in
theorem ggX12_isNext_X12_weatherOf : GoodIn wsX12_isNext wsX12_weatherOf := goodIn_r _ [17, 7, 8, 9, 5, 10, 1, 18, 19, 20, 21, 22, 23, 24, 11, 12, 13, 25, 26, 27, 28, 29, 30, 31, 32, 33, 34, 35, 36, 37, 38, 39, 40, 41, 42, 43, 44, 45, 46, 47, 48, 49, 50, 51, 52] (by decide +kernel) (by decide +kernel)
set_option maxRecDepth 20000 in
theorem gX12_isNext_X12_weatherOf : GoodIn wsX12_isNext (wsV RX12 153 RX12 yX12_weatherOf wsX12_weatherOf) := goodIn_app (goodIn_of _ (by decide +kernel)) ggX12_isNext_X12_weatherOf
theorem dX12_isNext_0 : decode cX12_isNext 0 = .ok (.iload_n 2, 1) := by decide +kernel
theorem dX12_isNext_1 : decode cX12_isNext 1 = .ok (.istore_n 3, 1) := by decide +kernel
theorem dX12_isNext_2 : decode cX12_isNext 2 = .ok (.iconst 1, 1) := by decide +kernel
theorem dX12_isNext_3 : decode cX12_isNext 3 = .ok (.istore 4, 2) := by decide +kernel
theorem dX12_isNext_5 : decode cX12_isNext 5 = .ok (.iconst 0, 1) := by decide +kernel
theorem dX12_isNext_6 : decode cX12_isNext 6 = .ok (.istore 5, 2) := by decide +kernel
theorem dX12_isNext_8 : decode cX12_isNext 8 = .ok (.iload 5, 2) := by decide +kernel
theorem dX12_isNext_10 : decode cX12_isNext 10 = .ok (.aload_n 0, 1) := by decide +kernel
theorem dX12_isNext_11 : decode cX12_isNext 11 = .ok (.iload_n 1, 1) := by decide +kernel
theorem dX12_isNext_12 : decode cX12_isNext 12 = .ok (.invokevirtual 150, 3) := by decide +kernel
theorem dX12_isNext_15 : decode cX12_isNext 15 = .ok (.if_icmp .ge 64, 3) := by decide +kernel
theorem dX12_isNext_18 : decode cX12_isNext 18 = .ok (.iload 4, 2) := by decide +kernel
theorem dX12_isNext_20 : decode cX12_isNext 20 = .ok (.ifCond .eq 59, 3) := by decide +kernel
theorem dX12_isNext_23 : decode cX12_isNext 23 = .ok (.aload_n 0, 1) := by decide +kernel
theorem dX12_isNext_24 : decode cX12_isNext 24 = .ok (.iload_n 1, 1) := by decide +kernel
theorem dX12_isNext_25 : decode cX12_isNext 25 = .ok (.iload 5, 2) := by decide +kernel
theorem dX12_isNext_27 : decode cX12_isNext 27 = .ok (.invokevirtual 153, 3) := by decide +kernel
theorem dX12_isNext_30 : decode cX12_isNext 30 = .ok (.istore 6, 2) := by decide +kernel
theorem dX12_isNext_32 : decode cX12_isNext 32 = .ok (.iload 6, 2) := by decide +kernel
theorem dX12_isNext_34 : decode cX12_isNext 34 = .ok (.iconst (-1), 1) := by decide +kernel
theorem dX12_isNext_35 : decode cX12_isNext 35 = .ok (.if_icmp .eq 38, 3) := by decide +kernel
theorem dX12_isNext_38 : decode cX12_isNext 38 = .ok (.iload_n 3, 1) := by decide +kernel
theorem dX12_isNext_39 : decode cX12_isNext 39 = .ok (.aload_n 0, 1) := by decide +kernel
theorem dX12_isNext_40 : decode cX12_isNext 40 = .ok (.getfield 17, 3) := by decide +kernel
theorem dX12_isNext_43 : decode cX12_isNext 43 = .ok (.bipush 78, 2) := by decide +kernel
theorem dX12_isNext_45 : decode cX12_isNext 45 = .ok (.iaload, 1) := by decide +kernel
theorem dX12_isNext_46 : decode cX12_isNext 46 = .ok (.if_icmp .ge 21, 3) := by decide +kernel
theorem dX12_isNext_49 : decode cX12_isNext 49 = .ok (.aload_n 0, 1) := by decide +kernel
theorem dX12_isNext_50 : decode cX12_isNext 50 = .ok (.getfield 17, 3) := by decide +kernel
theorem dX12_isNext_53 : decode cX12_isNext 53 = .ok (.bipush 79, 2) := by decide +kernel
theorem dX12_isNext_55 : decode cX12_isNext 55 = .ok (.iload_n 3, 1) := by decide +kernel
theorem dX12_isNext_56 : decode cX12_isNext 56 = .ok (.iadd, 1) := by decide +kernel
theorem dX12_isNext_57 : decode cX12_isNext 57 = .ok (.iaload, 1) := by decide +kernel
theorem dX12_isNext_58 : decode cX12_isNext 58 = .ok (.iload 6, 2) := by decide +kernel
theorem dX12_isNext_60 : decode cX12_isNext 60 = .ok (.if_icmp .ne 7, 3) := by decide +kernel
theorem dX12_isNext_63 : decode cX12_isNext 63 = .ok (.iconst 1, 1) := by decide +kernel
theorem dX12_isNext_64 : decode cX12_isNext 64 = .ok (.goto 4, 3) := by decide +kernel
theorem dX12_isNext_67 : decode cX12_isNext 67 = .ok (.iconst 0, 1) := by decide +kernel
theorem dX12_isNext_68 : decode cX12_isNext 68 = .ok (.istore 4, 2) := by decide +kernel
theorem dX12_isNext_70 : decode cX12_isNext 70 = .ok (.iinc 3 1, 3) := by decide +kernel
theorem dX12_isNext_73 : decode cX12_isNext 73 = .ok (.iinc 5 1, 3) := by decide +kernel
theorem dX12_isNext_76 : decode cX12_isNext 76 = .ok (.goto (-68), 3) := by decide +kernel
theorem dX12_isNext_79 : decode cX12_isNext 79 = .ok (.iload 4, 2) := by decide +kernel
theorem dX12_isNext_81 : decode cX12_isNext 81 = .ok (.ireturn, 1) := by decide +kernel
set_option maxRecDepth 20000 in
theorem ggX12_canFollow_X12_has : GoodIn wsX12_canFollow wsX12_has := goodIn_r _ [5] (by decide +kernel) (by decide +kernel)
set_option maxRecDepth 20000 in
theorem gX12_canFollow_X12_has : GoodIn wsX12_canFollow (va_wsS RX12 175 yX12_has wsX12_has) := goodIn_app (goodIn_of _ (by decide +kernel)) ggX12_canFollow_X12_has
set_option maxRecDepth 20000 in
theorem ggX12_canFollow_X12_isBurnt : GoodIn wsX12_canFollow wsX12_isBurnt := goodIn_r _ [9, 10, 11, 12, 4, 13, 14, 40, 41, 42, 43, 44, 45, 46, 47, 48, 49, 50, 51, 52, 53, 54, 55, 56, 57, 58, 59, 60, 61, 62, 63, 64] (by decide +kernel) (by decide +kernel)
set_option maxRecDepth 20000 in
theorem gX12_canFollow_X12_isBurnt : GoodIn wsX12_canFollow (wsV RX12 160 RX12 yX12_isBurnt wsX12_isBurnt) := goodIn_app (goodIn_of _ (by decide +kernel)) ggX12_canFollow_X12_isBurnt
set_option maxRecDepth 20000 in
theorem ggX12_canFollow_X12_isNext : GoodIn wsX12_canFollow wsX12_isNext := goodIn_r _ [18, 14, 19, 20, 21, 4, 22, 10, 11, 12, 13, 23, 24, 25, 26, 27, 28, 29, 30, 31, 32, 33, 34, 35, 36, 37, 38, 39, 40, 41, 42, 43, 44, 45, 46, 47, 48, 49, 50, 51, 52, 53, 54, 55, 56, 57, 58, 59, 60, 61, 62, 63, 64] (by decide +kernel) (by decide +kernel)
set_option maxRecDepth 20000 in
theorem gX12_canFollow_X12_isNext : GoodIn wsX12_canFollow (wsV RX12 179 RX12 yX12_isNext wsX12_isNext) := goodIn_app (goodIn_of _ (by decide +kernel)) ggX12_canFollow_X12_isNext
theorem dX12_canFollow_0 : decode cX12_canFollow 0 = .ok (.iload_n 1, 1) := by decide +kernel
theorem dX12_canFollow_1 : decode cX12_canFollow 1 = .ok (.iload_n 2, 1) := by decide +kernel
theorem dX12_canFollow_2 : decode cX12_canFollow 2 = .ok (.invokestatic 175, 3) := by decide +kernel
theorem dX12_canFollow_5 : decode cX12_canFollow 5 = .ok (.ifCond .ne 29, 3) := by decide +kernel
theorem dX12_canFollow_8 : decode cX12_canFollow 8 = .ok (.aload_n 0, 1) := by decide +kernel
theorem dX12_canFollow_9 : decode cX12_canFollow 9 = .ok (.iload_n 2, 1) := by decide +kernel
theorem dX12_canFollow_10 : decode cX12_canFollow 10 = .ok (.invokevirtual 160, 3) := by decide +kernel
theorem dX12_canFollow_13 : decode cX12_canFollow 13 = .ok (.ifCond .ne 21, 3) := by decide +kernel
theorem dX12_canFollow_16 : decode cX12_canFollow 16 = .ok (.aload_n 0, 1) := by decide +kernel
theorem dX12_canFollow_17 : decode cX12_canFollow 17 = .ok (.iload_n 2, 1) := by decide +kernel
theorem dX12_canFollow_18 : decode cX12_canFollow 18 = .ok (.aload_n 0, 1) := by decide +kernel
theorem dX12_canFollow_19 : decode cX12_canFollow 19 = .ok (.getfield 29, 3) := by decide +kernel
theorem dX12_canFollow_22 : decode cX12_canFollow 22 = .ok (.iload_n 1, 1) := by decide +kernel
theorem dX12_canFollow_23 : decode cX12_canFollow 23 = .ok (.iaload, 1) := by decide +kernel
theorem dX12_canFollow_24 : decode cX12_canFollow 24 = .ok (.invokevirtual 179, 3) := by decide +kernel
theorem dX12_canFollow_27 : decode cX12_canFollow 27 = .ok (.ifCond .eq 7, 3) := by decide +kernel
theorem dX12_canFollow_30 : decode cX12_canFollow 30 = .ok (.iconst 1, 1) := by decide +kernel
theorem dX12_canFollow_31 : decode cX12_canFollow 31 = .ok (.goto 4, 3) := by decide +kernel
theorem dX12_canFollow_34 : decode cX12_canFollow 34 = .ok (.iconst 0, 1) := by decide +kernel
theorem dX12_canFollow_35 : decode cX12_canFollow 35 = .ok (.ireturn, 1) := by decide +kernel
set_option maxRecDepth 20000 in
theorem ggX12_layEvening_X12_allShown : GoodIn wsX12_layEvening wsX12_allShown := goodIn_r _ [10, 1, 11, 12, 9, 13, 14, 15, 16, 17, 18, 19, 20, 21, 22, 23, 24, 25, 26, 27, 28, 29, 30, 31, 32, 33, 34, 35, 36, 37, 38, 39, 40, 41, 42, 55, 56, 57, 58, 59, 60, 61, 62, 63, 64, 65, 66, 67, 68, 69, 70, 71, 72, 73, 74, 75, 76, 77, 78, 79] (by decide +kernel) (by decide +kernel)
set_option maxRecDepth 20000 in
theorem gX12_layEvening_X12_allShown : GoodIn wsX12_layEvening (wsV RX12 182 RX12 yX12_allShown wsX12_allShown) := goodIn_app (goodIn_of _ (by decide +kernel)) ggX12_layEvening_X12_allShown
set_option maxRecDepth 20000 in
theorem ggX12_layEvening_X12_canFollow : GoodIn wsX12_layEvening wsX12_canFollow := goodIn_r _ [46, 2, 11, 12, 9, 13, 47, 48, 49, 50, 22, 23, 24, 25, 1, 51, 52, 53, 54, 18, 19, 20, 21, 26, 27, 28, 29, 30, 31, 32, 33, 34, 35, 36, 37, 38, 39, 40, 41, 42, 55, 56, 57, 58, 59, 60, 61, 62, 63, 64, 65, 66, 67, 68, 69, 70, 71, 72, 73, 74, 75, 76, 77, 78, 79] (by decide +kernel) (by decide +kernel)
set_option maxRecDepth 20000 in
theorem gX12_layEvening_X12_canFollow : GoodIn wsX12_layEvening (wsV RX12 185 RX12 yX12_canFollow wsX12_canFollow) := goodIn_app (goodIn_of _ (by decide +kernel)) ggX12_layEvening_X12_canFollow
theorem dX12_layEvening_0 : decode cX12_layEvening 0 = .ok (.iconst 1, 1) := by decide +kernel
theorem dX12_layEvening_1 : decode cX12_layEvening 1 = .ok (.aload_n 0, 1) := by decide +kernel
theorem dX12_layEvening_2 : decode cX12_layEvening 2 = .ok (.getfield 17, 3) := by decide +kernel
theorem dX12_layEvening_5 : decode cX12_layEvening 5 = .ok (.bipush 50, 2) := by decide +kernel
theorem dX12_layEvening_7 : decode cX12_layEvening 7 = .ok (.iaload, 1) := by decide +kernel
theorem dX12_layEvening_8 : decode cX12_layEvening 8 = .ok (.ishl, 1) := by decide +kernel
theorem dX12_layEvening_9 : decode cX12_layEvening 9 = .ok (.istore_n 1, 1) := by decide +kernel
theorem dX12_layEvening_10 : decode cX12_layEvening 10 = .ok (.iconst 0, 1) := by decide +kernel
theorem dX12_layEvening_11 : decode cX12_layEvening 11 = .ok (.istore_n 2, 1) := by decide +kernel
theorem dX12_layEvening_12 : decode cX12_layEvening 12 = .ok (.iload_n 2, 1) := by decide +kernel
theorem dX12_layEvening_13 : decode cX12_layEvening 13 = .ok (.iload_n 1, 1) := by decide +kernel
theorem dX12_layEvening_14 : decode cX12_layEvening 14 = .ok (.if_icmp .ge 35, 3) := by decide +kernel
theorem dX12_layEvening_17 : decode cX12_layEvening 17 = .ok (.aload_n 0, 1) := by decide +kernel
theorem dX12_layEvening_18 : decode cX12_layEvening 18 = .ok (.getfield 29, 3) := by decide +kernel
theorem dX12_layEvening_21 : decode cX12_layEvening 21 = .ok (.iload_n 2, 1) := by decide +kernel
theorem dX12_layEvening_22 : decode cX12_layEvening 22 = .ok (.aload_n 0, 1) := by decide +kernel
theorem dX12_layEvening_23 : decode cX12_layEvening 23 = .ok (.iload_n 2, 1) := by decide +kernel
theorem dX12_layEvening_24 : decode cX12_layEvening 24 = .ok (.invokevirtual 182, 3) := by decide +kernel
theorem dX12_layEvening_27 : decode cX12_layEvening 27 = .ok (.iastore, 1) := by decide +kernel
theorem dX12_layEvening_28 : decode cX12_layEvening 28 = .ok (.aload_n 0, 1) := by decide +kernel
theorem dX12_layEvening_29 : decode cX12_layEvening 29 = .ok (.getfield 32, 3) := by decide +kernel
theorem dX12_layEvening_32 : decode cX12_layEvening 32 = .ok (.iload_n 2, 1) := by decide +kernel
theorem dX12_layEvening_33 : decode cX12_layEvening 33 = .ok (.iload_n 2, 1) := by decide +kernel
theorem dX12_layEvening_34 : decode cX12_layEvening 34 = .ok (.ifCond .ne 7, 3) := by decide +kernel
theorem dX12_layEvening_37 : decode cX12_layEvening 37 = .ok (.iconst 1, 1) := by decide +kernel
theorem dX12_layEvening_38 : decode cX12_layEvening 38 = .ok (.goto 4, 3) := by decide +kernel
theorem dX12_layEvening_41 : decode cX12_layEvening 41 = .ok (.iconst 0, 1) := by decide +kernel
theorem dX12_layEvening_42 : decode cX12_layEvening 42 = .ok (.iastore, 1) := by decide +kernel
theorem dX12_layEvening_43 : decode cX12_layEvening 43 = .ok (.iinc 2 1, 3) := by decide +kernel
theorem dX12_layEvening_46 : decode cX12_layEvening 46 = .ok (.goto (-34), 3) := by decide +kernel
theorem dX12_layEvening_49 : decode cX12_layEvening 49 = .ok (.iconst 0, 1) := by decide +kernel
theorem dX12_layEvening_50 : decode cX12_layEvening 50 = .ok (.istore_n 2, 1) := by decide +kernel
theorem dX12_layEvening_51 : decode cX12_layEvening 51 = .ok (.iload_n 2, 1) := by decide +kernel
theorem dX12_layEvening_52 : decode cX12_layEvening 52 = .ok (.iload_n 1, 1) := by decide +kernel
theorem dX12_layEvening_53 : decode cX12_layEvening 53 = .ok (.if_icmp .ge 65, 3) := by decide +kernel
theorem dX12_layEvening_56 : decode cX12_layEvening 56 = .ok (.iconst 0, 1) := by decide +kernel
theorem dX12_layEvening_57 : decode cX12_layEvening 57 = .ok (.istore_n 3, 1) := by decide +kernel
theorem dX12_layEvening_58 : decode cX12_layEvening 58 = .ok (.iload_n 3, 1) := by decide +kernel
theorem dX12_layEvening_59 : decode cX12_layEvening 59 = .ok (.aload_n 0, 1) := by decide +kernel
theorem dX12_layEvening_60 : decode cX12_layEvening 60 = .ok (.getfield 17, 3) := by decide +kernel
theorem dX12_layEvening_63 : decode cX12_layEvening 63 = .ok (.bipush 50, 2) := by decide +kernel
theorem dX12_layEvening_65 : decode cX12_layEvening 65 = .ok (.iaload, 1) := by decide +kernel
theorem dX12_layEvening_66 : decode cX12_layEvening 66 = .ok (.if_icmp .ge 46, 3) := by decide +kernel
theorem dX12_layEvening_69 : decode cX12_layEvening 69 = .ok (.aload_n 0, 1) := by decide +kernel
theorem dX12_layEvening_70 : decode cX12_layEvening 70 = .ok (.getfield 32, 3) := by decide +kernel
theorem dX12_layEvening_73 : decode cX12_layEvening 73 = .ok (.iload_n 2, 1) := by decide +kernel
theorem dX12_layEvening_74 : decode cX12_layEvening 74 = .ok (.iaload, 1) := by decide +kernel
theorem dX12_layEvening_75 : decode cX12_layEvening 75 = .ok (.ifCond .le 37, 3) := by decide +kernel
theorem dX12_layEvening_78 : decode cX12_layEvening 78 = .ok (.aload_n 0, 1) := by decide +kernel
theorem dX12_layEvening_79 : decode cX12_layEvening 79 = .ok (.iload_n 2, 1) := by decide +kernel
theorem dX12_layEvening_80 : decode cX12_layEvening 80 = .ok (.iload_n 3, 1) := by decide +kernel
theorem dX12_layEvening_81 : decode cX12_layEvening 81 = .ok (.invokevirtual 185, 3) := by decide +kernel
theorem dX12_layEvening_84 : decode cX12_layEvening 84 = .ok (.ifCond .eq 22, 3) := by decide +kernel
theorem dX12_layEvening_87 : decode cX12_layEvening 87 = .ok (.aload_n 0, 1) := by decide +kernel
theorem dX12_layEvening_88 : decode cX12_layEvening 88 = .ok (.getfield 32, 3) := by decide +kernel
theorem dX12_layEvening_91 : decode cX12_layEvening 91 = .ok (.iload_n 2, 1) := by decide +kernel
theorem dX12_layEvening_92 : decode cX12_layEvening 92 = .ok (.iconst 1, 1) := by decide +kernel
theorem dX12_layEvening_93 : decode cX12_layEvening 93 = .ok (.iload_n 3, 1) := by decide +kernel
theorem dX12_layEvening_94 : decode cX12_layEvening 94 = .ok (.ishl, 1) := by decide +kernel
theorem dX12_layEvening_95 : decode cX12_layEvening 95 = .ok (.ior, 1) := by decide +kernel
theorem dX12_layEvening_96 : decode cX12_layEvening 96 = .ok (.dup2, 1) := by decide +kernel
theorem dX12_layEvening_97 : decode cX12_layEvening 97 = .ok (.iaload, 1) := by decide +kernel
theorem dX12_layEvening_98 : decode cX12_layEvening 98 = .ok (.aload_n 0, 1) := by decide +kernel
theorem dX12_layEvening_99 : decode cX12_layEvening 99 = .ok (.getfield 32, 3) := by decide +kernel
theorem dX12_layEvening_102 : decode cX12_layEvening 102 = .ok (.iload_n 2, 1) := by decide +kernel
theorem dX12_layEvening_103 : decode cX12_layEvening 103 = .ok (.iaload, 1) := by decide +kernel
theorem dX12_layEvening_104 : decode cX12_layEvening 104 = .ok (.iadd, 1) := by decide +kernel
theorem dX12_layEvening_105 : decode cX12_layEvening 105 = .ok (.iastore, 1) := by decide +kernel
theorem dX12_layEvening_106 : decode cX12_layEvening 106 = .ok (.iinc 3 1, 3) := by decide +kernel
theorem dX12_layEvening_109 : decode cX12_layEvening 109 = .ok (.goto (-51), 3) := by decide +kernel
theorem dX12_layEvening_112 : decode cX12_layEvening 112 = .ok (.iinc 2 1, 3) := by decide +kernel
theorem dX12_layEvening_115 : decode cX12_layEvening 115 = .ok (.goto (-64), 3) := by decide +kernel
theorem dX12_layEvening_118 : decode cX12_layEvening 118 = .ok (.iload_n 1, 1) := by decide +kernel
theorem dX12_layEvening_119 : decode cX12_layEvening 119 = .ok (.iconst 1, 1) := by decide +kernel
theorem dX12_layEvening_120 : decode cX12_layEvening 120 = .ok (.isub, 1) := by decide +kernel
theorem dX12_layEvening_121 : decode cX12_layEvening 121 = .ok (.istore_n 2, 1) := by decide +kernel
theorem dX12_layEvening_122 : decode cX12_layEvening 122 = .ok (.iload_n 2, 1) := by decide +kernel
theorem dX12_layEvening_123 : decode cX12_layEvening 123 = .ok (.ifCond .lt 113, 3) := by decide +kernel
theorem dX12_layEvening_126 : decode cX12_layEvening 126 = .ok (.aload_n 0, 1) := by decide +kernel
theorem dX12_layEvening_127 : decode cX12_layEvening 127 = .ok (.getfield 35, 3) := by decide +kernel
theorem dX12_layEvening_130 : decode cX12_layEvening 130 = .ok (.iload_n 2, 1) := by decide +kernel
theorem dX12_layEvening_131 : decode cX12_layEvening 131 = .ok (.aload_n 0, 1) := by decide +kernel
theorem dX12_layEvening_132 : decode cX12_layEvening 132 = .ok (.getfield 29, 3) := by decide +kernel
theorem dX12_layEvening_135 : decode cX12_layEvening 135 = .ok (.iload_n 2, 1) := by decide +kernel
theorem dX12_layEvening_136 : decode cX12_layEvening 136 = .ok (.iaload, 1) := by decide +kernel
theorem dX12_layEvening_137 : decode cX12_layEvening 137 = .ok (.aload_n 0, 1) := by decide +kernel
theorem dX12_layEvening_138 : decode cX12_layEvening 138 = .ok (.getfield 17, 3) := by decide +kernel
theorem dX12_layEvening_141 : decode cX12_layEvening 141 = .ok (.bipush 78, 2) := by decide +kernel
theorem dX12_layEvening_143 : decode cX12_layEvening 143 = .ok (.iaload, 1) := by decide +kernel
theorem dX12_layEvening_144 : decode cX12_layEvening 144 = .ok (.if_icmp .ne 7, 3) := by decide +kernel
theorem dX12_layEvening_147 : decode cX12_layEvening 147 = .ok (.iconst 0, 1) := by decide +kernel
theorem dX12_layEvening_148 : decode cX12_layEvening 148 = .ok (.goto 5, 3) := by decide +kernel
theorem dX12_layEvening_151 : decode cX12_layEvening 151 = .ok (.ldc 188, 2) := by decide +kernel
theorem dX12_layEvening_153 : decode cX12_layEvening 153 = .ok (.iastore, 1) := by decide +kernel
theorem dX12_layEvening_154 : decode cX12_layEvening 154 = .ok (.iconst 0, 1) := by decide +kernel
theorem dX12_layEvening_155 : decode cX12_layEvening 155 = .ok (.istore_n 3, 1) := by decide +kernel
theorem dX12_layEvening_156 : decode cX12_layEvening 156 = .ok (.iload_n 3, 1) := by decide +kernel
theorem dX12_layEvening_157 : decode cX12_layEvening 157 = .ok (.aload_n 0, 1) := by decide +kernel
theorem dX12_layEvening_158 : decode cX12_layEvening 158 = .ok (.getfield 17, 3) := by decide +kernel
theorem dX12_layEvening_161 : decode cX12_layEvening 161 = .ok (.bipush 50, 2) := by decide +kernel
theorem dX12_layEvening_163 : decode cX12_layEvening 163 = .ok (.iaload, 1) := by decide +kernel
theorem dX12_layEvening_164 : decode cX12_layEvening 164 = .ok (.if_icmp .ge 66, 3) := by decide +kernel
theorem dX12_layEvening_167 : decode cX12_layEvening 167 = .ok (.aload_n 0, 1) := by decide +kernel
theorem dX12_layEvening_168 : decode cX12_layEvening 168 = .ok (.getfield 35, 3) := by decide +kernel
theorem dX12_layEvening_171 : decode cX12_layEvening 171 = .ok (.iload_n 2, 1) := by decide +kernel
theorem dX12_layEvening_172 : decode cX12_layEvening 172 = .ok (.iaload, 1) := by decide +kernel
theorem dX12_layEvening_173 : decode cX12_layEvening 173 = .ok (.ifCond .le 57, 3) := by decide +kernel
theorem dX12_layEvening_176 : decode cX12_layEvening 176 = .ok (.aload_n 0, 1) := by decide +kernel
theorem dX12_layEvening_177 : decode cX12_layEvening 177 = .ok (.iload_n 2, 1) := by decide +kernel
theorem dX12_layEvening_178 : decode cX12_layEvening 178 = .ok (.iload_n 3, 1) := by decide +kernel
theorem dX12_layEvening_179 : decode cX12_layEvening 179 = .ok (.invokevirtual 185, 3) := by decide +kernel
theorem dX12_layEvening_182 : decode cX12_layEvening 182 = .ok (.ifCond .eq 42, 3) := by decide +kernel
theorem dX12_layEvening_185 : decode cX12_layEvening 185 = .ok (.aload_n 0, 1) := by decide +kernel
theorem dX12_layEvening_186 : decode cX12_layEvening 186 = .ok (.getfield 35, 3) := by decide +kernel
theorem dX12_layEvening_189 : decode cX12_layEvening 189 = .ok (.iload_n 2, 1) := by decide +kernel
theorem dX12_layEvening_190 : decode cX12_layEvening 190 = .ok (.iconst 1, 1) := by decide +kernel
theorem dX12_layEvening_191 : decode cX12_layEvening 191 = .ok (.iload_n 3, 1) := by decide +kernel
theorem dX12_layEvening_192 : decode cX12_layEvening 192 = .ok (.ishl, 1) := by decide +kernel
theorem dX12_layEvening_193 : decode cX12_layEvening 193 = .ok (.ior, 1) := by decide +kernel
theorem dX12_layEvening_194 : decode cX12_layEvening 194 = .ok (.iaload, 1) := by decide +kernel
theorem dX12_layEvening_195 : decode cX12_layEvening 195 = .ok (.iconst 1, 1) := by decide +kernel
theorem dX12_layEvening_196 : decode cX12_layEvening 196 = .ok (.iadd, 1) := by decide +kernel
theorem dX12_layEvening_197 : decode cX12_layEvening 197 = .ok (.aload_n 0, 1) := by decide +kernel
theorem dX12_layEvening_198 : decode cX12_layEvening 198 = .ok (.getfield 35, 3) := by decide +kernel
theorem dX12_layEvening_201 : decode cX12_layEvening 201 = .ok (.iload_n 2, 1) := by decide +kernel
theorem dX12_layEvening_202 : decode cX12_layEvening 202 = .ok (.iaload, 1) := by decide +kernel
theorem dX12_layEvening_203 : decode cX12_layEvening 203 = .ok (.if_icmp .ge 21, 3) := by decide +kernel
theorem dX12_layEvening_206 : decode cX12_layEvening 206 = .ok (.aload_n 0, 1) := by decide +kernel
theorem dX12_layEvening_207 : decode cX12_layEvening 207 = .ok (.getfield 35, 3) := by decide +kernel
theorem dX12_layEvening_210 : decode cX12_layEvening 210 = .ok (.iload_n 2, 1) := by decide +kernel
theorem dX12_layEvening_211 : decode cX12_layEvening 211 = .ok (.aload_n 0, 1) := by decide +kernel
theorem dX12_layEvening_212 : decode cX12_layEvening 212 = .ok (.getfield 35, 3) := by decide +kernel
theorem dX12_layEvening_215 : decode cX12_layEvening 215 = .ok (.iload_n 2, 1) := by decide +kernel
theorem dX12_layEvening_216 : decode cX12_layEvening 216 = .ok (.iconst 1, 1) := by decide +kernel
theorem dX12_layEvening_217 : decode cX12_layEvening 217 = .ok (.iload_n 3, 1) := by decide +kernel
theorem dX12_layEvening_218 : decode cX12_layEvening 218 = .ok (.ishl, 1) := by decide +kernel
theorem dX12_layEvening_219 : decode cX12_layEvening 219 = .ok (.ior, 1) := by decide +kernel
theorem dX12_layEvening_220 : decode cX12_layEvening 220 = .ok (.iaload, 1) := by decide +kernel
theorem dX12_layEvening_221 : decode cX12_layEvening 221 = .ok (.iconst 1, 1) := by decide +kernel
theorem dX12_layEvening_222 : decode cX12_layEvening 222 = .ok (.iadd, 1) := by decide +kernel
theorem dX12_layEvening_223 : decode cX12_layEvening 223 = .ok (.iastore, 1) := by decide +kernel
theorem dX12_layEvening_224 : decode cX12_layEvening 224 = .ok (.iinc 3 1, 3) := by decide +kernel
theorem dX12_layEvening_227 : decode cX12_layEvening 227 = .ok (.goto (-71), 3) := by decide +kernel
theorem dX12_layEvening_230 : decode cX12_layEvening 230 = .ok (.iinc 2 (-1), 3) := by decide +kernel
theorem dX12_layEvening_233 : decode cX12_layEvening 233 = .ok (.goto (-111), 3) := by decide +kernel
theorem dX12_layEvening_236 : decode cX12_layEvening 236 = .ok (.return_, 1) := by decide +kernel
set_option maxRecDepth 20000 in
theorem ggX12_fewest_X12_wrong : GoodIn wsX12_fewest wsX12_wrong := goodIn_r _ [7, 8, 64, 65, 66, 67, 68, 69, 70, 71, 72, 73, 74, 75, 76, 77, 78, 79, 80, 81, 82, 83, 84, 85, 86, 87, 88] (by decide +kernel) (by decide +kernel)
set_option maxRecDepth 20000 in
theorem gX12_fewest_X12_wrong : GoodIn wsX12_fewest (wsV RX12 189 RX12 yX12_wrong wsX12_wrong) := goodIn_app (goodIn_of _ (by decide +kernel)) ggX12_fewest_X12_wrong
set_option maxRecDepth 20000 in
theorem ggX12_fewest_X12_layEvening : GoodIn wsX12_fewest wsX12_layEvening := goodIn_r _ [12, 13, 14, 15, 1, 2, 16, 17, 18, 6, 19, 20, 21, 22, 23, 24, 25, 26, 27, 28, 29, 30, 31, 32, 33, 34, 35, 36, 37, 38, 39, 40, 41, 42, 43, 44, 45, 46, 47, 48, 49, 50, 51, 52, 53, 54, 55, 56, 57, 58, 59, 60, 61, 62, 63, 64, 65, 66, 67, 68, 69, 70, 71, 72, 73, 74, 75, 76, 77, 78, 79, 80, 81, 82, 83, 84, 85, 86, 87, 88] (by decide +kernel) (by decide +kernel)
set_option maxRecDepth 20000 in
theorem gX12_fewest_X12_layEvening : GoodIn wsX12_fewest (wsV RX12 192 RX12 yX12_layEvening wsX12_layEvening) := goodIn_app (goodIn_of _ (by decide +kernel)) ggX12_fewest_X12_layEvening
set_option maxRecDepth 20000 in
theorem ggX12_fewest_X12_canFollow : GoodIn wsX12_fewest wsX12_canFollow := goodIn_r _ [55, 14, 20, 21, 6, 22, 56, 57, 58, 59, 31, 32, 33, 34, 13, 60, 61, 62, 63, 27, 28, 29, 30, 35, 36, 37, 38, 39, 40, 41, 42, 43, 44, 45, 46, 47, 48, 49, 50, 51, 64, 65, 66, 67, 68, 69, 70, 71, 72, 73, 74, 75, 76, 77, 78, 79, 80, 81, 82, 83, 84, 85, 86, 87, 88] (by decide +kernel) (by decide +kernel)
set_option maxRecDepth 20000 in
theorem gX12_fewest_X12_canFollow : GoodIn wsX12_fewest (wsV RX12 185 RX12 yX12_canFollow wsX12_canFollow) := goodIn_app (goodIn_of _ (by decide +kernel)) ggX12_fewest_X12_canFollow
theorem dX12_fewest_0 : decode cX12_fewest 0 = .ok (.iload_n 1, 1) := by decide +kernel
theorem dX12_fewest_1 : decode cX12_fewest 1 = .ok (.iconst (-1), 1) := by decide +kernel
theorem dX12_fewest_2 : decode cX12_fewest 2 = .ok (.if_icmp .ge 8, 3) := by decide +kernel
theorem dX12_fewest_5 : decode cX12_fewest 5 = .ok (.aload_n 0, 1) := by decide +kernel
theorem dX12_fewest_6 : decode cX12_fewest 6 = .ok (.invokevirtual 189, 3) := by decide +kernel
theorem dX12_fewest_9 : decode cX12_fewest 9 = .ok (.ireturn, 1) := by decide +kernel
theorem dX12_fewest_10 : decode cX12_fewest 10 = .ok (.aload_n 0, 1) := by decide +kernel
theorem dX12_fewest_11 : decode cX12_fewest 11 = .ok (.invokevirtual 192, 3) := by decide +kernel
theorem dX12_fewest_14 : decode cX12_fewest 14 = .ok (.aload_n 0, 1) := by decide +kernel
theorem dX12_fewest_15 : decode cX12_fewest 15 = .ok (.getfield 35, 3) := by decide +kernel
theorem dX12_fewest_18 : decode cX12_fewest 18 = .ok (.iconst 0, 1) := by decide +kernel
theorem dX12_fewest_19 : decode cX12_fewest 19 = .ok (.iaload, 1) := by decide +kernel
theorem dX12_fewest_20 : decode cX12_fewest 20 = .ok (.ldc 188, 2) := by decide +kernel
theorem dX12_fewest_22 : decode cX12_fewest 22 = .ok (.if_icmp .ge 13, 3) := by decide +kernel
theorem dX12_fewest_25 : decode cX12_fewest 25 = .ok (.iload_n 1, 1) := by decide +kernel
theorem dX12_fewest_26 : decode cX12_fewest 26 = .ok (.aload_n 0, 1) := by decide +kernel
theorem dX12_fewest_27 : decode cX12_fewest 27 = .ok (.getfield 35, 3) := by decide +kernel
theorem dX12_fewest_30 : decode cX12_fewest 30 = .ok (.iconst 0, 1) := by decide +kernel
theorem dX12_fewest_31 : decode cX12_fewest 31 = .ok (.iaload, 1) := by decide +kernel
theorem dX12_fewest_32 : decode cX12_fewest 32 = .ok (.if_icmp .lt 6, 3) := by decide +kernel
theorem dX12_fewest_35 : decode cX12_fewest 35 = .ok (.bipush (-5), 2) := by decide +kernel
theorem dX12_fewest_37 : decode cX12_fewest 37 = .ok (.ireturn, 1) := by decide +kernel
theorem dX12_fewest_38 : decode cX12_fewest 38 = .ok (.iload_n 1, 1) := by decide +kernel
theorem dX12_fewest_39 : decode cX12_fewest 39 = .ok (.iconst (-1), 1) := by decide +kernel
theorem dX12_fewest_40 : decode cX12_fewest 40 = .ok (.if_icmp .ne 10, 3) := by decide +kernel
theorem dX12_fewest_43 : decode cX12_fewest 43 = .ok (.aload_n 0, 1) := by decide +kernel
theorem dX12_fewest_44 : decode cX12_fewest 44 = .ok (.getfield 35, 3) := by decide +kernel
theorem dX12_fewest_47 : decode cX12_fewest 47 = .ok (.iconst 0, 1) := by decide +kernel
theorem dX12_fewest_48 : decode cX12_fewest 48 = .ok (.iaload, 1) := by decide +kernel
theorem dX12_fewest_49 : decode cX12_fewest 49 = .ok (.ireturn, 1) := by decide +kernel
theorem dX12_fewest_50 : decode cX12_fewest 50 = .ok (.iconst 0, 1) := by decide +kernel
theorem dX12_fewest_51 : decode cX12_fewest 51 = .ok (.istore_n 2, 1) := by decide +kernel
theorem dX12_fewest_52 : decode cX12_fewest 52 = .ok (.iconst 0, 1) := by decide +kernel
theorem dX12_fewest_53 : decode cX12_fewest 53 = .ok (.istore_n 3, 1) := by decide +kernel
theorem dX12_fewest_54 : decode cX12_fewest 54 = .ok (.iconst 0, 1) := by decide +kernel
theorem dX12_fewest_55 : decode cX12_fewest 55 = .ok (.istore 4, 2) := by decide +kernel
theorem dX12_fewest_57 : decode cX12_fewest 57 = .ok (.iload 4, 2) := by decide +kernel
theorem dX12_fewest_59 : decode cX12_fewest 59 = .ok (.iload_n 1, 1) := by decide +kernel
theorem dX12_fewest_60 : decode cX12_fewest 60 = .ok (.if_icmp .gt 53, 3) := by decide +kernel
theorem dX12_fewest_63 : decode cX12_fewest 63 = .ok (.iconst 0, 1) := by decide +kernel
theorem dX12_fewest_64 : decode cX12_fewest 64 = .ok (.istore_n 3, 1) := by decide +kernel
theorem dX12_fewest_65 : decode cX12_fewest 65 = .ok (.aload_n 0, 1) := by decide +kernel
theorem dX12_fewest_66 : decode cX12_fewest 66 = .ok (.iload_n 2, 1) := by decide +kernel
theorem dX12_fewest_67 : decode cX12_fewest 67 = .ok (.iload_n 3, 1) := by decide +kernel
theorem dX12_fewest_68 : decode cX12_fewest 68 = .ok (.invokevirtual 185, 3) := by decide +kernel
theorem dX12_fewest_71 : decode cX12_fewest 71 = .ok (.ifCond .eq 24, 3) := by decide +kernel
theorem dX12_fewest_74 : decode cX12_fewest 74 = .ok (.aload_n 0, 1) := by decide +kernel
theorem dX12_fewest_75 : decode cX12_fewest 75 = .ok (.getfield 35, 3) := by decide +kernel
theorem dX12_fewest_78 : decode cX12_fewest 78 = .ok (.iload_n 2, 1) := by decide +kernel
theorem dX12_fewest_79 : decode cX12_fewest 79 = .ok (.iconst 1, 1) := by decide +kernel
theorem dX12_fewest_80 : decode cX12_fewest 80 = .ok (.iload_n 3, 1) := by decide +kernel
theorem dX12_fewest_81 : decode cX12_fewest 81 = .ok (.ishl, 1) := by decide +kernel
theorem dX12_fewest_82 : decode cX12_fewest 82 = .ok (.ior, 1) := by decide +kernel
theorem dX12_fewest_83 : decode cX12_fewest 83 = .ok (.iaload, 1) := by decide +kernel
theorem dX12_fewest_84 : decode cX12_fewest 84 = .ok (.iconst 1, 1) := by decide +kernel
theorem dX12_fewest_85 : decode cX12_fewest 85 = .ok (.iadd, 1) := by decide +kernel
theorem dX12_fewest_86 : decode cX12_fewest 86 = .ok (.aload_n 0, 1) := by decide +kernel
theorem dX12_fewest_87 : decode cX12_fewest 87 = .ok (.getfield 35, 3) := by decide +kernel
theorem dX12_fewest_90 : decode cX12_fewest 90 = .ok (.iload_n 2, 1) := by decide +kernel
theorem dX12_fewest_91 : decode cX12_fewest 91 = .ok (.iaload, 1) := by decide +kernel
theorem dX12_fewest_92 : decode cX12_fewest 92 = .ok (.if_icmp .eq 9, 3) := by decide +kernel
theorem dX12_fewest_95 : decode cX12_fewest 95 = .ok (.iinc 3 1, 3) := by decide +kernel
theorem dX12_fewest_98 : decode cX12_fewest 98 = .ok (.goto (-33), 3) := by decide +kernel
theorem dX12_fewest_101 : decode cX12_fewest 101 = .ok (.iload_n 2, 1) := by decide +kernel
theorem dX12_fewest_102 : decode cX12_fewest 102 = .ok (.iconst 1, 1) := by decide +kernel
theorem dX12_fewest_103 : decode cX12_fewest 103 = .ok (.iload_n 3, 1) := by decide +kernel
theorem dX12_fewest_104 : decode cX12_fewest 104 = .ok (.ishl, 1) := by decide +kernel
theorem dX12_fewest_105 : decode cX12_fewest 105 = .ok (.ior, 1) := by decide +kernel
theorem dX12_fewest_106 : decode cX12_fewest 106 = .ok (.istore_n 2, 1) := by decide +kernel
theorem dX12_fewest_107 : decode cX12_fewest 107 = .ok (.iinc 4 1, 3) := by decide +kernel
theorem dX12_fewest_110 : decode cX12_fewest 110 = .ok (.goto (-53), 3) := by decide +kernel
theorem dX12_fewest_113 : decode cX12_fewest 113 = .ok (.iload_n 3, 1) := by decide +kernel
theorem dX12_fewest_114 : decode cX12_fewest 114 = .ok (.ireturn, 1) := by decide +kernel
set_option maxRecDepth 20000 in
theorem ggX12_rows_X12_layEvening : GoodIn wsX12_rows wsX12_layEvening := goodIn_r _ [8, 1, 2, 3, 9, 10, 11, 12, 13, 7, 14, 15, 16, 17, 18, 19, 20, 21, 22, 23, 24, 25, 26, 27, 28, 29, 30, 31, 32, 33, 34, 35, 36, 37, 38, 39, 40, 41, 42, 43, 44, 45, 46, 47, 48, 49, 50, 51, 52, 53, 54, 55, 56, 57, 58, 59, 60, 61, 62, 63, 64, 65, 66, 67, 68, 69, 70, 71, 72, 73, 74, 75, 76, 77, 78, 79, 80, 81, 82, 83] (by decide +kernel) (by decide +kernel)
set_option maxRecDepth 20000 in
theorem gX12_rows_X12_layEvening : GoodIn wsX12_rows (wsV RX12 192 RX12 yX12_layEvening wsX12_layEvening) := goodIn_app (goodIn_of _ (by decide +kernel)) ggX12_rows_X12_layEvening
theorem dX12_rows_0 : decode cX12_rows 0 = .ok (.aload_n 0, 1) := by decide +kernel
theorem dX12_rows_1 : decode cX12_rows 1 = .ok (.invokevirtual 192, 3) := by decide +kernel
theorem dX12_rows_4 : decode cX12_rows 4 = .ok (.iconst 0, 1) := by decide +kernel
theorem dX12_rows_5 : decode cX12_rows 5 = .ok (.istore_n 1, 1) := by decide +kernel
theorem dX12_rows_6 : decode cX12_rows 6 = .ok (.iconst 0, 1) := by decide +kernel
theorem dX12_rows_7 : decode cX12_rows 7 = .ok (.istore_n 2, 1) := by decide +kernel
theorem dX12_rows_8 : decode cX12_rows 8 = .ok (.iload_n 2, 1) := by decide +kernel
theorem dX12_rows_9 : decode cX12_rows 9 = .ok (.iconst 1, 1) := by decide +kernel
theorem dX12_rows_10 : decode cX12_rows 10 = .ok (.aload_n 0, 1) := by decide +kernel
theorem dX12_rows_11 : decode cX12_rows 11 = .ok (.getfield 17, 3) := by decide +kernel
theorem dX12_rows_14 : decode cX12_rows 14 = .ok (.bipush 50, 2) := by decide +kernel
theorem dX12_rows_16 : decode cX12_rows 16 = .ok (.iaload, 1) := by decide +kernel
theorem dX12_rows_17 : decode cX12_rows 17 = .ok (.ishl, 1) := by decide +kernel
theorem dX12_rows_18 : decode cX12_rows 18 = .ok (.if_icmp .ge 38, 3) := by decide +kernel
theorem dX12_rows_21 : decode cX12_rows 21 = .ok (.iload_n 1, 1) := by decide +kernel
theorem dX12_rows_22 : decode cX12_rows 22 = .ok (.aload_n 0, 1) := by decide +kernel
theorem dX12_rows_23 : decode cX12_rows 23 = .ok (.getfield 29, 3) := by decide +kernel
theorem dX12_rows_26 : decode cX12_rows 26 = .ok (.iload_n 2, 1) := by decide +kernel
theorem dX12_rows_27 : decode cX12_rows 27 = .ok (.iaload, 1) := by decide +kernel
theorem dX12_rows_28 : decode cX12_rows 28 = .ok (.aload_n 0, 1) := by decide +kernel
theorem dX12_rows_29 : decode cX12_rows 29 = .ok (.getfield 17, 3) := by decide +kernel
theorem dX12_rows_32 : decode cX12_rows 32 = .ok (.bipush 78, 2) := by decide +kernel
theorem dX12_rows_34 : decode cX12_rows 34 = .ok (.iaload, 1) := by decide +kernel
theorem dX12_rows_35 : decode cX12_rows 35 = .ok (.if_icmp .ne 12, 3) := by decide +kernel
theorem dX12_rows_38 : decode cX12_rows 38 = .ok (.aload_n 0, 1) := by decide +kernel
theorem dX12_rows_39 : decode cX12_rows 39 = .ok (.getfield 32, 3) := by decide +kernel
theorem dX12_rows_42 : decode cX12_rows 42 = .ok (.iload_n 2, 1) := by decide +kernel
theorem dX12_rows_43 : decode cX12_rows 43 = .ok (.iaload, 1) := by decide +kernel
theorem dX12_rows_44 : decode cX12_rows 44 = .ok (.goto 4, 3) := by decide +kernel
theorem dX12_rows_47 : decode cX12_rows 47 = .ok (.iconst 0, 1) := by decide +kernel
theorem dX12_rows_48 : decode cX12_rows 48 = .ok (.iadd, 1) := by decide +kernel
theorem dX12_rows_49 : decode cX12_rows 49 = .ok (.istore_n 1, 1) := by decide +kernel
theorem dX12_rows_50 : decode cX12_rows 50 = .ok (.iinc 2 1, 3) := by decide +kernel
theorem dX12_rows_53 : decode cX12_rows 53 = .ok (.goto (-45), 3) := by decide +kernel
theorem dX12_rows_56 : decode cX12_rows 56 = .ok (.iload_n 1, 1) := by decide +kernel
theorem dX12_rows_57 : decode cX12_rows 57 = .ok (.ireturn, 1) := by decide +kernel
set_option maxRecDepth 20000 in
theorem ggX12_best_X12_in : GoodIn wsX12_best wsX12_in := goodIn_r _ [5] (by decide +kernel) (by decide +kernel)
set_option maxRecDepth 20000 in
theorem gX12_best_X12_in : GoodIn wsX12_best (va_wsS RX12 68 yX12_in wsX12_in) := goodIn_app (goodIn_of _ (by decide +kernel)) ggX12_best_X12_in
set_option maxRecDepth 20000 in
theorem ggX12_best_X12_bad : GoodIn wsX12_best wsX12_bad := goodIn_r _ [9, 10, 44, 45, 46, 47, 48, 49, 50, 51, 52, 53, 54, 55, 56, 57, 58, 59, 60, 61, 62, 63, 64, 65, 66, 67, 68] (by decide +kernel) (by decide +kernel)
set_option maxRecDepth 20000 in
theorem gX12_best_X12_bad : GoodIn wsX12_best (wsV RX12 72 RX12 yX12_bad wsX12_bad) := goodIn_app (goodIn_of _ (by decide +kernel)) ggX12_best_X12_bad
set_option maxRecDepth 20000 in
theorem ggX12_best_X12_has : GoodIn wsX12_best wsX12_has := goodIn_r _ [13] (by decide +kernel) (by decide +kernel)
set_option maxRecDepth 20000 in
theorem gX12_best_X12_has : GoodIn wsX12_best (va_wsS RX12 175 yX12_has wsX12_has) := goodIn_app (goodIn_of _ (by decide +kernel)) ggX12_best_X12_has
set_option maxRecDepth 20000 in
theorem ggX12_best_X12_isBurnt : GoodIn wsX12_best wsX12_isBurnt := goodIn_r _ [17, 18, 19, 20, 4, 21, 1, 44, 45, 46, 47, 48, 49, 50, 51, 52, 53, 54, 55, 56, 57, 58, 59, 60, 61, 62, 63, 64, 65, 66, 67, 68] (by decide +kernel) (by decide +kernel)
set_option maxRecDepth 20000 in
theorem gX12_best_X12_isBurnt : GoodIn wsX12_best (wsV RX12 160 RX12 yX12_isBurnt wsX12_isBurnt) := goodIn_app (goodIn_of _ (by decide +kernel)) ggX12_best_X12_isBurnt
set_option maxRecDepth 20000 in
theorem ggX12_best_X12_lumpAt : GoodIn wsX12_best wsX12_lumpAt := goodIn_r _ [21, 1, 44, 45, 46, 47, 48, 49, 50, 51, 52, 53, 54, 55, 56, 57, 58, 59, 60, 61, 62, 63, 64, 65, 66, 67, 68] (by decide +kernel) (by decide +kernel)
set_option maxRecDepth 20000 in
theorem gX12_best_X12_lumpAt : GoodIn wsX12_best (wsV RX12 143 RX12 yX12_lumpAt wsX12_lumpAt) := goodIn_app (goodIn_of _ (by decide +kernel)) ggX12_best_X12_lumpAt
set_option maxRecDepth 20000 in
theorem ggX12_best_X12_worth : GoodIn wsX12_best wsX12_worth := goodIn_r _ [25, 1, 26, 27, 28, 4, 29, 18, 19, 20, 21, 30, 31, 32, 33, 34, 35, 36, 37, 38, 39, 40, 41, 42, 43, 2, 3, 5, 44, 45, 46, 47, 48, 49, 50, 51, 52, 53, 54, 55, 56, 57, 58, 59, 60, 61, 62, 63, 64, 65, 66, 67, 68] (by decide +kernel) (by decide +kernel)
set_option maxRecDepth 20000 in
theorem gX12_best_X12_worth : GoodIn wsX12_best (wsV RX12 166 RX12 yX12_worth wsX12_worth) := goodIn_app (goodIn_of _ (by decide +kernel)) ggX12_best_X12_worth
theorem dX12_best_0 : decode cX12_best 0 = .ok (.iload_n 1, 1) := by decide +kernel
theorem dX12_best_1 : decode cX12_best 1 = .ok (.iconst 0, 1) := by decide +kernel
theorem dX12_best_2 : decode cX12_best 2 = .ok (.bipush 99, 2) := by decide +kernel
theorem dX12_best_4 : decode cX12_best 4 = .ok (.invokestatic 68, 3) := by decide +kernel
theorem dX12_best_7 : decode cX12_best 7 = .ok (.ifCond .eq 12, 3) := by decide +kernel
theorem dX12_best_10 : decode cX12_best 10 = .ok (.iload_n 2, 1) := by decide +kernel
theorem dX12_best_11 : decode cX12_best 11 = .ok (.iconst 0, 1) := by decide +kernel
theorem dX12_best_12 : decode cX12_best 12 = .ok (.iconst 1, 1) := by decide +kernel
theorem dX12_best_13 : decode cX12_best 13 = .ok (.invokestatic 68, 3) := by decide +kernel
theorem dX12_best_16 : decode cX12_best 16 = .ok (.ifCond .ne 8, 3) := by decide +kernel
theorem dX12_best_19 : decode cX12_best 19 = .ok (.aload_n 0, 1) := by decide +kernel
theorem dX12_best_20 : decode cX12_best 20 = .ok (.invokevirtual 72, 3) := by decide +kernel
theorem dX12_best_23 : decode cX12_best 23 = .ok (.ireturn, 1) := by decide +kernel
theorem dX12_best_24 : decode cX12_best 24 = .ok (.iconst 0, 1) := by decide +kernel
theorem dX12_best_25 : decode cX12_best 25 = .ok (.istore_n 3, 1) := by decide +kernel
theorem dX12_best_26 : decode cX12_best 26 = .ok (.iconst 0, 1) := by decide +kernel
theorem dX12_best_27 : decode cX12_best 27 = .ok (.istore 4, 2) := by decide +kernel
theorem dX12_best_29 : decode cX12_best 29 = .ok (.iconst 0, 1) := by decide +kernel
theorem dX12_best_30 : decode cX12_best 30 = .ok (.istore 5, 2) := by decide +kernel
theorem dX12_best_32 : decode cX12_best 32 = .ok (.iload 5, 2) := by decide +kernel
theorem dX12_best_34 : decode cX12_best 34 = .ok (.iconst 1, 1) := by decide +kernel
theorem dX12_best_35 : decode cX12_best 35 = .ok (.aload_n 0, 1) := by decide +kernel
theorem dX12_best_36 : decode cX12_best 36 = .ok (.getfield 17, 3) := by decide +kernel
theorem dX12_best_39 : decode cX12_best 39 = .ok (.bipush 50, 2) := by decide +kernel
theorem dX12_best_41 : decode cX12_best 41 = .ok (.iaload, 1) := by decide +kernel
theorem dX12_best_42 : decode cX12_best 42 = .ok (.ishl, 1) := by decide +kernel
theorem dX12_best_43 : decode cX12_best 43 = .ok (.if_icmp .ge 120, 3) := by decide +kernel
theorem dX12_best_46 : decode cX12_best 46 = .ok (.iconst 0, 1) := by decide +kernel
theorem dX12_best_47 : decode cX12_best 47 = .ok (.istore 6, 2) := by decide +kernel
theorem dX12_best_49 : decode cX12_best 49 = .ok (.iconst 0, 1) := by decide +kernel
theorem dX12_best_50 : decode cX12_best 50 = .ok (.istore 7, 2) := by decide +kernel
theorem dX12_best_52 : decode cX12_best 52 = .ok (.iconst 1, 1) := by decide +kernel
theorem dX12_best_53 : decode cX12_best 53 = .ok (.istore 8, 2) := by decide +kernel
theorem dX12_best_55 : decode cX12_best 55 = .ok (.iconst 0, 1) := by decide +kernel
theorem dX12_best_56 : decode cX12_best 56 = .ok (.istore 9, 2) := by decide +kernel
theorem dX12_best_58 : decode cX12_best 58 = .ok (.iload 9, 2) := by decide +kernel
theorem dX12_best_60 : decode cX12_best 60 = .ok (.aload_n 0, 1) := by decide +kernel
theorem dX12_best_61 : decode cX12_best 61 = .ok (.getfield 17, 3) := by decide +kernel
theorem dX12_best_64 : decode cX12_best 64 = .ok (.bipush 50, 2) := by decide +kernel
theorem dX12_best_66 : decode cX12_best 66 = .ok (.iaload, 1) := by decide +kernel
theorem dX12_best_67 : decode cX12_best 67 = .ok (.if_icmp .ge 65, 3) := by decide +kernel
theorem dX12_best_70 : decode cX12_best 70 = .ok (.iload 5, 2) := by decide +kernel
theorem dX12_best_72 : decode cX12_best 72 = .ok (.iload 9, 2) := by decide +kernel
theorem dX12_best_74 : decode cX12_best 74 = .ok (.invokestatic 175, 3) := by decide +kernel
theorem dX12_best_77 : decode cX12_best 77 = .ok (.ifCond .eq 49, 3) := by decide +kernel
theorem dX12_best_80 : decode cX12_best 80 = .ok (.iload 8, 2) := by decide +kernel
theorem dX12_best_82 : decode cX12_best 82 = .ok (.ifCond .eq 16, 3) := by decide +kernel
theorem dX12_best_85 : decode cX12_best 85 = .ok (.aload_n 0, 1) := by decide +kernel
theorem dX12_best_86 : decode cX12_best 86 = .ok (.iload 9, 2) := by decide +kernel
theorem dX12_best_88 : decode cX12_best 88 = .ok (.invokevirtual 160, 3) := by decide +kernel
theorem dX12_best_91 : decode cX12_best 91 = .ok (.ifCond .ne 7, 3) := by decide +kernel
theorem dX12_best_94 : decode cX12_best 94 = .ok (.iconst 1, 1) := by decide +kernel
theorem dX12_best_95 : decode cX12_best 95 = .ok (.goto 4, 3) := by decide +kernel
theorem dX12_best_98 : decode cX12_best 98 = .ok (.iconst 0, 1) := by decide +kernel
theorem dX12_best_99 : decode cX12_best 99 = .ok (.istore 8, 2) := by decide +kernel
theorem dX12_best_101 : decode cX12_best 101 = .ok (.iload 6, 2) := by decide +kernel
theorem dX12_best_103 : decode cX12_best 103 = .ok (.iconst 2, 1) := by decide +kernel
theorem dX12_best_104 : decode cX12_best 104 = .ok (.aload_n 0, 1) := by decide +kernel
theorem dX12_best_105 : decode cX12_best 105 = .ok (.iload 9, 2) := by decide +kernel
theorem dX12_best_107 : decode cX12_best 107 = .ok (.iconst 2, 1) := by decide +kernel
theorem dX12_best_108 : decode cX12_best 108 = .ok (.invokevirtual 143, 3) := by decide +kernel
theorem dX12_best_111 : decode cX12_best 111 = .ok (.imul, 1) := by decide +kernel
theorem dX12_best_112 : decode cX12_best 112 = .ok (.iadd, 1) := by decide +kernel
theorem dX12_best_113 : decode cX12_best 113 = .ok (.istore 6, 2) := by decide +kernel
theorem dX12_best_115 : decode cX12_best 115 = .ok (.iload 7, 2) := by decide +kernel
theorem dX12_best_117 : decode cX12_best 117 = .ok (.aload_n 0, 1) := by decide +kernel
theorem dX12_best_118 : decode cX12_best 118 = .ok (.iload 9, 2) := by decide +kernel
theorem dX12_best_120 : decode cX12_best 120 = .ok (.invokevirtual 166, 3) := by decide +kernel
theorem dX12_best_123 : decode cX12_best 123 = .ok (.iadd, 1) := by decide +kernel
theorem dX12_best_124 : decode cX12_best 124 = .ok (.istore 7, 2) := by decide +kernel
theorem dX12_best_126 : decode cX12_best 126 = .ok (.iinc 9 1, 3) := by decide +kernel
theorem dX12_best_129 : decode cX12_best 129 = .ok (.goto (-71), 3) := by decide +kernel
theorem dX12_best_132 : decode cX12_best 132 = .ok (.iload 8, 2) := by decide +kernel
theorem dX12_best_134 : decode cX12_best 134 = .ok (.ifCond .eq 23, 3) := by decide +kernel
theorem dX12_best_137 : decode cX12_best 137 = .ok (.iload 6, 2) := by decide +kernel
theorem dX12_best_139 : decode cX12_best 139 = .ok (.iload_n 1, 1) := by decide +kernel
theorem dX12_best_140 : decode cX12_best 140 = .ok (.if_icmp .gt 17, 3) := by decide +kernel
theorem dX12_best_143 : decode cX12_best 143 = .ok (.iload 7, 2) := by decide +kernel
theorem dX12_best_145 : decode cX12_best 145 = .ok (.iload 4, 2) := by decide +kernel
theorem dX12_best_147 : decode cX12_best 147 = .ok (.if_icmp .le 10, 3) := by decide +kernel
theorem dX12_best_150 : decode cX12_best 150 = .ok (.iload 5, 2) := by decide +kernel
theorem dX12_best_152 : decode cX12_best 152 = .ok (.istore_n 3, 1) := by decide +kernel
theorem dX12_best_153 : decode cX12_best 153 = .ok (.iload 7, 2) := by decide +kernel
theorem dX12_best_155 : decode cX12_best 155 = .ok (.istore 4, 2) := by decide +kernel
theorem dX12_best_157 : decode cX12_best 157 = .ok (.iinc 5 1, 3) := by decide +kernel
theorem dX12_best_160 : decode cX12_best 160 = .ok (.goto (-128), 3) := by decide +kernel
theorem dX12_best_163 : decode cX12_best 163 = .ok (.iload_n 2, 1) := by decide +kernel
theorem dX12_best_164 : decode cX12_best 164 = .ok (.ifCond .ne 7, 3) := by decide +kernel
theorem dX12_best_167 : decode cX12_best 167 = .ok (.iload_n 3, 1) := by decide +kernel
theorem dX12_best_168 : decode cX12_best 168 = .ok (.goto 5, 3) := by decide +kernel
theorem dX12_best_171 : decode cX12_best 171 = .ok (.iload 4, 2) := by decide +kernel
theorem dX12_best_173 : decode cX12_best 173 = .ok (.ireturn, 1) := by decide +kernel
theorem dX12_begins_0 : decode cX12_begins 0 = .ok (.iload_n 1, 1) := by decide +kernel
theorem dX12_begins_1 : decode cX12_begins 1 = .ok (.ifCond .eq 26, 3) := by decide +kernel
theorem dX12_begins_4 : decode cX12_begins 4 = .ok (.iload_n 1, 1) := by decide +kernel
theorem dX12_begins_5 : decode cX12_begins 5 = .ok (.bipush 12, 2) := by decide +kernel
theorem dX12_begins_7 : decode cX12_begins 7 = .ok (.if_icmp .eq 20, 3) := by decide +kernel
theorem dX12_begins_10 : decode cX12_begins 10 = .ok (.aload_n 0, 1) := by decide +kernel
theorem dX12_begins_11 : decode cX12_begins 11 = .ok (.getfield 17, 3) := by decide +kernel
theorem dX12_begins_14 : decode cX12_begins 14 = .ok (.iload_n 1, 1) := by decide +kernel
theorem dX12_begins_15 : decode cX12_begins 15 = .ok (.iaload, 1) := by decide +kernel
theorem dX12_begins_16 : decode cX12_begins 16 = .ok (.aload_n 0, 1) := by decide +kernel
theorem dX12_begins_17 : decode cX12_begins 17 = .ok (.getfield 17, 3) := by decide +kernel
theorem dX12_begins_20 : decode cX12_begins 20 = .ok (.iload_n 1, 1) := by decide +kernel
theorem dX12_begins_21 : decode cX12_begins 21 = .ok (.iconst 1, 1) := by decide +kernel
theorem dX12_begins_22 : decode cX12_begins 22 = .ok (.isub, 1) := by decide +kernel
theorem dX12_begins_23 : decode cX12_begins 23 = .ok (.iaload, 1) := by decide +kernel
theorem dX12_begins_24 : decode cX12_begins 24 = .ok (.if_icmp .eq 7, 3) := by decide +kernel
theorem dX12_begins_27 : decode cX12_begins 27 = .ok (.iconst 1, 1) := by decide +kernel
theorem dX12_begins_28 : decode cX12_begins 28 = .ok (.goto 4, 3) := by decide +kernel
theorem dX12_begins_31 : decode cX12_begins 31 = .ok (.iconst 0, 1) := by decide +kernel
theorem dX12_begins_32 : decode cX12_begins 32 = .ok (.ireturn, 1) := by decide +kernel
set_option maxRecDepth 20000 in
theorem ggX12_whole_X12_begins : GoodIn wsX12_whole wsX12_begins := goodIn_r _ [5, 6, 7, 8, 9, 10, 11, 12, 13, 14, 15, 16, 17, 18, 19, 20, 21, 22, 23, 24, 25, 26, 27, 28, 29, 30, 31] (by decide +kernel) (by decide +kernel)
set_option maxRecDepth 20000 in
theorem gX12_whole_X12_begins : GoodIn wsX12_whole (wsV RX12 195 RX12 yX12_begins wsX12_begins) := goodIn_app (goodIn_of _ (by decide +kernel)) ggX12_whole_X12_begins
theorem dX12_whole_0 : decode cX12_whole 0 = .ok (.iconst 0, 1) := by decide +kernel
theorem dX12_whole_1 : decode cX12_whole 1 = .ok (.istore_n 3, 1) := by decide +kernel
theorem dX12_whole_2 : decode cX12_whole 2 = .ok (.iconst (-1), 1) := by decide +kernel
theorem dX12_whole_3 : decode cX12_whole 3 = .ok (.istore 4, 2) := by decide +kernel
theorem dX12_whole_5 : decode cX12_whole 5 = .ok (.iload_n 1, 1) := by decide +kernel
theorem dX12_whole_6 : decode cX12_whole 6 = .ok (.istore 5, 2) := by decide +kernel
theorem dX12_whole_8 : decode cX12_whole 8 = .ok (.iload 5, 2) := by decide +kernel
theorem dX12_whole_10 : decode cX12_whole 10 = .ok (.iload_n 2, 1) := by decide +kernel
theorem dX12_whole_11 : decode cX12_whole 11 = .ok (.if_icmp .gt 36, 3) := by decide +kernel
theorem dX12_whole_14 : decode cX12_whole 14 = .ok (.aload_n 0, 1) := by decide +kernel
theorem dX12_whole_15 : decode cX12_whole 15 = .ok (.iload 5, 2) := by decide +kernel
theorem dX12_whole_17 : decode cX12_whole 17 = .ok (.invokevirtual 195, 3) := by decide +kernel
theorem dX12_whole_20 : decode cX12_whole 20 = .ok (.ifCond .eq 21, 3) := by decide +kernel
theorem dX12_whole_23 : decode cX12_whole 23 = .ok (.iload_n 3, 1) := by decide +kernel
theorem dX12_whole_24 : decode cX12_whole 24 = .ok (.iload 4, 2) := by decide +kernel
theorem dX12_whole_26 : decode cX12_whole 26 = .ok (.iconst (-1), 1) := by decide +kernel
theorem dX12_whole_27 : decode cX12_whole 27 = .ok (.if_icmp .ne 7, 3) := by decide +kernel
theorem dX12_whole_30 : decode cX12_whole 30 = .ok (.iconst 0, 1) := by decide +kernel
theorem dX12_whole_31 : decode cX12_whole 31 = .ok (.goto 4, 3) := by decide +kernel
theorem dX12_whole_34 : decode cX12_whole 34 = .ok (.iconst 1, 1) := by decide +kernel
theorem dX12_whole_35 : decode cX12_whole 35 = .ok (.iadd, 1) := by decide +kernel
theorem dX12_whole_36 : decode cX12_whole 36 = .ok (.istore_n 3, 1) := by decide +kernel
theorem dX12_whole_37 : decode cX12_whole 37 = .ok (.iload 5, 2) := by decide +kernel
theorem dX12_whole_39 : decode cX12_whole 39 = .ok (.istore 4, 2) := by decide +kernel
theorem dX12_whole_41 : decode cX12_whole 41 = .ok (.iinc 5 1, 3) := by decide +kernel
theorem dX12_whole_44 : decode cX12_whole 44 = .ok (.goto (-36), 3) := by decide +kernel
theorem dX12_whole_47 : decode cX12_whole 47 = .ok (.iload_n 3, 1) := by decide +kernel
theorem dX12_whole_48 : decode cX12_whole 48 = .ok (.ireturn, 1) := by decide +kernel
set_option maxRecDepth 20000 in
theorem ggX12_layCuts_X12_whole : GoodIn wsX12_layCuts wsX12_whole := goodIn_r _ [8, 9, 10, 11, 7, 12, 13, 14, 15, 16, 17, 18, 19, 20, 21, 22, 23, 24, 25, 26, 27, 28, 29, 30, 31, 32, 33, 34, 35, 36, 37, 38] (by decide +kernel) (by decide +kernel)
set_option maxRecDepth 20000 in
theorem gX12_layCuts_X12_whole : GoodIn wsX12_layCuts (wsV RX12 198 RX12 yX12_whole wsX12_whole) := goodIn_app (goodIn_of _ (by decide +kernel)) ggX12_layCuts_X12_whole
theorem dX12_layCuts_0 : decode cX12_layCuts 0 = .ok (.aload_n 0, 1) := by decide +kernel
theorem dX12_layCuts_1 : decode cX12_layCuts 1 = .ok (.getfield 38, 3) := by decide +kernel
theorem dX12_layCuts_4 : decode cX12_layCuts 4 = .ok (.bipush 12, 2) := by decide +kernel
theorem dX12_layCuts_6 : decode cX12_layCuts 6 = .ok (.iconst 0, 1) := by decide +kernel
theorem dX12_layCuts_7 : decode cX12_layCuts 7 = .ok (.iastore, 1) := by decide +kernel
theorem dX12_layCuts_8 : decode cX12_layCuts 8 = .ok (.aload_n 0, 1) := by decide +kernel
theorem dX12_layCuts_9 : decode cX12_layCuts 9 = .ok (.getfield 41, 3) := by decide +kernel
theorem dX12_layCuts_12 : decode cX12_layCuts 12 = .ok (.bipush 12, 2) := by decide +kernel
theorem dX12_layCuts_14 : decode cX12_layCuts 14 = .ok (.iconst 0, 1) := by decide +kernel
theorem dX12_layCuts_15 : decode cX12_layCuts 15 = .ok (.iastore, 1) := by decide +kernel
theorem dX12_layCuts_16 : decode cX12_layCuts 16 = .ok (.bipush 11, 2) := by decide +kernel
theorem dX12_layCuts_18 : decode cX12_layCuts 18 = .ok (.istore_n 2, 1) := by decide +kernel
theorem dX12_layCuts_19 : decode cX12_layCuts 19 = .ok (.iload_n 2, 1) := by decide +kernel
theorem dX12_layCuts_20 : decode cX12_layCuts 20 = .ok (.ifCond .lt 124, 3) := by decide +kernel
theorem dX12_layCuts_23 : decode cX12_layCuts 23 = .ok (.aload_n 0, 1) := by decide +kernel
theorem dX12_layCuts_24 : decode cX12_layCuts 24 = .ok (.getfield 38, 3) := by decide +kernel
theorem dX12_layCuts_27 : decode cX12_layCuts 27 = .ok (.iload_n 2, 1) := by decide +kernel
theorem dX12_layCuts_28 : decode cX12_layCuts 28 = .ok (.iconst (-1), 1) := by decide +kernel
theorem dX12_layCuts_29 : decode cX12_layCuts 29 = .ok (.iastore, 1) := by decide +kernel
theorem dX12_layCuts_30 : decode cX12_layCuts 30 = .ok (.iconst 1, 1) := by decide +kernel
theorem dX12_layCuts_31 : decode cX12_layCuts 31 = .ok (.istore_n 3, 1) := by decide +kernel
theorem dX12_layCuts_32 : decode cX12_layCuts 32 = .ok (.iload_n 3, 1) := by decide +kernel
theorem dX12_layCuts_33 : decode cX12_layCuts 33 = .ok (.iload_n 1, 1) := by decide +kernel
theorem dX12_layCuts_34 : decode cX12_layCuts 34 = .ok (.if_icmp .gt 104, 3) := by decide +kernel
theorem dX12_layCuts_37 : decode cX12_layCuts 37 = .ok (.iload_n 2, 1) := by decide +kernel
theorem dX12_layCuts_38 : decode cX12_layCuts 38 = .ok (.iload_n 3, 1) := by decide +kernel
theorem dX12_layCuts_39 : decode cX12_layCuts 39 = .ok (.iadd, 1) := by decide +kernel
theorem dX12_layCuts_40 : decode cX12_layCuts 40 = .ok (.bipush 12, 2) := by decide +kernel
theorem dX12_layCuts_42 : decode cX12_layCuts 42 = .ok (.if_icmp .gt 96, 3) := by decide +kernel
theorem dX12_layCuts_45 : decode cX12_layCuts 45 = .ok (.aload_n 0, 1) := by decide +kernel
theorem dX12_layCuts_46 : decode cX12_layCuts 46 = .ok (.iload_n 2, 1) := by decide +kernel
theorem dX12_layCuts_47 : decode cX12_layCuts 47 = .ok (.iload_n 2, 1) := by decide +kernel
theorem dX12_layCuts_48 : decode cX12_layCuts 48 = .ok (.iload_n 3, 1) := by decide +kernel
theorem dX12_layCuts_49 : decode cX12_layCuts 49 = .ok (.iadd, 1) := by decide +kernel
theorem dX12_layCuts_50 : decode cX12_layCuts 50 = .ok (.invokevirtual 198, 3) := by decide +kernel
theorem dX12_layCuts_53 : decode cX12_layCuts 53 = .ok (.aload_n 0, 1) := by decide +kernel
theorem dX12_layCuts_54 : decode cX12_layCuts 54 = .ok (.getfield 38, 3) := by decide +kernel
theorem dX12_layCuts_57 : decode cX12_layCuts 57 = .ok (.iload_n 2, 1) := by decide +kernel
theorem dX12_layCuts_58 : decode cX12_layCuts 58 = .ok (.iload_n 3, 1) := by decide +kernel
theorem dX12_layCuts_59 : decode cX12_layCuts 59 = .ok (.iadd, 1) := by decide +kernel
theorem dX12_layCuts_60 : decode cX12_layCuts 60 = .ok (.iaload, 1) := by decide +kernel
theorem dX12_layCuts_61 : decode cX12_layCuts 61 = .ok (.iadd, 1) := by decide +kernel
theorem dX12_layCuts_62 : decode cX12_layCuts 62 = .ok (.istore 4, 2) := by decide +kernel
theorem dX12_layCuts_64 : decode cX12_layCuts 64 = .ok (.iconst 1, 1) := by decide +kernel
theorem dX12_layCuts_65 : decode cX12_layCuts 65 = .ok (.aload_n 0, 1) := by decide +kernel
theorem dX12_layCuts_66 : decode cX12_layCuts 66 = .ok (.getfield 41, 3) := by decide +kernel
theorem dX12_layCuts_69 : decode cX12_layCuts 69 = .ok (.iload_n 2, 1) := by decide +kernel
theorem dX12_layCuts_70 : decode cX12_layCuts 70 = .ok (.iload_n 3, 1) := by decide +kernel
theorem dX12_layCuts_71 : decode cX12_layCuts 71 = .ok (.iadd, 1) := by decide +kernel
theorem dX12_layCuts_72 : decode cX12_layCuts 72 = .ok (.iaload, 1) := by decide +kernel
theorem dX12_layCuts_73 : decode cX12_layCuts 73 = .ok (.iadd, 1) := by decide +kernel
theorem dX12_layCuts_74 : decode cX12_layCuts 74 = .ok (.istore 5, 2) := by decide +kernel
theorem dX12_layCuts_76 : decode cX12_layCuts 76 = .ok (.iload 4, 2) := by decide +kernel
theorem dX12_layCuts_78 : decode cX12_layCuts 78 = .ok (.aload_n 0, 1) := by decide +kernel
theorem dX12_layCuts_79 : decode cX12_layCuts 79 = .ok (.getfield 38, 3) := by decide +kernel
theorem dX12_layCuts_82 : decode cX12_layCuts 82 = .ok (.iload_n 2, 1) := by decide +kernel
theorem dX12_layCuts_83 : decode cX12_layCuts 83 = .ok (.iaload, 1) := by decide +kernel
theorem dX12_layCuts_84 : decode cX12_layCuts 84 = .ok (.if_icmp .gt 25, 3) := by decide +kernel
theorem dX12_layCuts_87 : decode cX12_layCuts 87 = .ok (.iload 4, 2) := by decide +kernel
theorem dX12_layCuts_89 : decode cX12_layCuts 89 = .ok (.aload_n 0, 1) := by decide +kernel
theorem dX12_layCuts_90 : decode cX12_layCuts 90 = .ok (.getfield 38, 3) := by decide +kernel
theorem dX12_layCuts_93 : decode cX12_layCuts 93 = .ok (.iload_n 2, 1) := by decide +kernel
theorem dX12_layCuts_94 : decode cX12_layCuts 94 = .ok (.iaload, 1) := by decide +kernel
theorem dX12_layCuts_95 : decode cX12_layCuts 95 = .ok (.if_icmp .ne 37, 3) := by decide +kernel
theorem dX12_layCuts_98 : decode cX12_layCuts 98 = .ok (.iload 5, 2) := by decide +kernel
theorem dX12_layCuts_100 : decode cX12_layCuts 100 = .ok (.aload_n 0, 1) := by decide +kernel
theorem dX12_layCuts_101 : decode cX12_layCuts 101 = .ok (.getfield 41, 3) := by decide +kernel
theorem dX12_layCuts_104 : decode cX12_layCuts 104 = .ok (.iload_n 2, 1) := by decide +kernel
theorem dX12_layCuts_105 : decode cX12_layCuts 105 = .ok (.iaload, 1) := by decide +kernel
theorem dX12_layCuts_106 : decode cX12_layCuts 106 = .ok (.if_icmp .ge 26, 3) := by decide +kernel
theorem dX12_layCuts_109 : decode cX12_layCuts 109 = .ok (.aload_n 0, 1) := by decide +kernel
theorem dX12_layCuts_110 : decode cX12_layCuts 110 = .ok (.getfield 38, 3) := by decide +kernel
theorem dX12_layCuts_113 : decode cX12_layCuts 113 = .ok (.iload_n 2, 1) := by decide +kernel
theorem dX12_layCuts_114 : decode cX12_layCuts 114 = .ok (.iload 4, 2) := by decide +kernel
theorem dX12_layCuts_116 : decode cX12_layCuts 116 = .ok (.iastore, 1) := by decide +kernel
theorem dX12_layCuts_117 : decode cX12_layCuts 117 = .ok (.aload_n 0, 1) := by decide +kernel
theorem dX12_layCuts_118 : decode cX12_layCuts 118 = .ok (.getfield 41, 3) := by decide +kernel
theorem dX12_layCuts_121 : decode cX12_layCuts 121 = .ok (.iload_n 2, 1) := by decide +kernel
theorem dX12_layCuts_122 : decode cX12_layCuts 122 = .ok (.iload 5, 2) := by decide +kernel
theorem dX12_layCuts_124 : decode cX12_layCuts 124 = .ok (.iastore, 1) := by decide +kernel
theorem dX12_layCuts_125 : decode cX12_layCuts 125 = .ok (.aload_n 0, 1) := by decide +kernel
theorem dX12_layCuts_126 : decode cX12_layCuts 126 = .ok (.getfield 44, 3) := by decide +kernel
theorem dX12_layCuts_129 : decode cX12_layCuts 129 = .ok (.iload_n 2, 1) := by decide +kernel
theorem dX12_layCuts_130 : decode cX12_layCuts 130 = .ok (.iload_n 3, 1) := by decide +kernel
theorem dX12_layCuts_131 : decode cX12_layCuts 131 = .ok (.iastore, 1) := by decide +kernel
theorem dX12_layCuts_132 : decode cX12_layCuts 132 = .ok (.iinc 3 1, 3) := by decide +kernel
theorem dX12_layCuts_135 : decode cX12_layCuts 135 = .ok (.goto (-103), 3) := by decide +kernel
theorem dX12_layCuts_138 : decode cX12_layCuts 138 = .ok (.iinc 2 (-1), 3) := by decide +kernel
theorem dX12_layCuts_141 : decode cX12_layCuts 141 = .ok (.goto (-122), 3) := by decide +kernel
theorem dX12_layCuts_144 : decode cX12_layCuts 144 = .ok (.return_, 1) := by decide +kernel
set_option maxRecDepth 20000 in
theorem ggX12_cut_X12_in : GoodIn wsX12_cut wsX12_in := goodIn_r _ [7] (by decide +kernel) (by decide +kernel)
set_option maxRecDepth 20000 in
theorem gX12_cut_X12_in : GoodIn wsX12_cut (va_wsS RX12 68 yX12_in wsX12_in) := goodIn_app (goodIn_of _ (by decide +kernel)) ggX12_cut_X12_in
set_option maxRecDepth 20000 in
theorem ggX12_cut_X12_wrong : GoodIn wsX12_cut wsX12_wrong := goodIn_r _ [11, 12, 26, 27, 28, 29, 30, 31, 32, 33, 34, 35, 36, 37, 38, 39, 40, 41, 42, 43, 44, 45, 46, 47, 48, 49, 50] (by decide +kernel) (by decide +kernel)
set_option maxRecDepth 20000 in
theorem gX12_cut_X12_wrong : GoodIn wsX12_cut (wsV RX12 189 RX12 yX12_wrong wsX12_wrong) := goodIn_app (goodIn_of _ (by decide +kernel)) ggX12_cut_X12_wrong
set_option maxRecDepth 20000 in
theorem ggX12_cut_X12_layCuts : GoodIn wsX12_cut wsX12_layCuts := goodIn_r _ [16, 2, 1, 3, 17, 18, 19, 6, 20, 21, 22, 23, 24, 25, 26, 27, 28, 29, 30, 31, 32, 33, 34, 35, 36, 37, 38, 39, 40, 41, 42, 43, 44, 45, 46, 47, 48, 49, 50] (by decide +kernel) (by decide +kernel)
set_option maxRecDepth 20000 in
theorem gX12_cut_X12_layCuts : GoodIn wsX12_cut (wsV RX12 201 RX12 yX12_layCuts wsX12_layCuts) := goodIn_app (goodIn_of _ (by decide +kernel)) ggX12_cut_X12_layCuts
theorem dX12_cut_0 : decode cX12_cut 0 = .ok (.iload_n 1, 1) := by decide +kernel
theorem dX12_cut_1 : decode cX12_cut 1 = .ok (.iconst 1, 1) := by decide +kernel
theorem dX12_cut_2 : decode cX12_cut 2 = .ok (.bipush 6, 2) := by decide +kernel
theorem dX12_cut_4 : decode cX12_cut 4 = .ok (.invokestatic 68, 3) := by decide +kernel
theorem dX12_cut_7 : decode cX12_cut 7 = .ok (.ifCond .eq 9, 3) := by decide +kernel
theorem dX12_cut_10 : decode cX12_cut 10 = .ok (.iload_n 2, 1) := by decide +kernel
theorem dX12_cut_11 : decode cX12_cut 11 = .ok (.bipush (-2), 2) := by decide +kernel
theorem dX12_cut_13 : decode cX12_cut 13 = .ok (.if_icmp .ge 8, 3) := by decide +kernel
theorem dX12_cut_16 : decode cX12_cut 16 = .ok (.aload_n 0, 1) := by decide +kernel
theorem dX12_cut_17 : decode cX12_cut 17 = .ok (.invokevirtual 189, 3) := by decide +kernel
theorem dX12_cut_20 : decode cX12_cut 20 = .ok (.ireturn, 1) := by decide +kernel
theorem dX12_cut_21 : decode cX12_cut 21 = .ok (.aload_n 0, 1) := by decide +kernel
theorem dX12_cut_22 : decode cX12_cut 22 = .ok (.iload_n 1, 1) := by decide +kernel
theorem dX12_cut_23 : decode cX12_cut 23 = .ok (.invokevirtual 201, 3) := by decide +kernel
theorem dX12_cut_26 : decode cX12_cut 26 = .ok (.iload_n 2, 1) := by decide +kernel
theorem dX12_cut_27 : decode cX12_cut 27 = .ok (.ifCond .ge 24, 3) := by decide +kernel
theorem dX12_cut_30 : decode cX12_cut 30 = .ok (.iload_n 2, 1) := by decide +kernel
theorem dX12_cut_31 : decode cX12_cut 31 = .ok (.iconst (-1), 1) := by decide +kernel
theorem dX12_cut_32 : decode cX12_cut 32 = .ok (.if_icmp .ne 12, 3) := by decide +kernel
theorem dX12_cut_35 : decode cX12_cut 35 = .ok (.aload_n 0, 1) := by decide +kernel
theorem dX12_cut_36 : decode cX12_cut 36 = .ok (.getfield 41, 3) := by decide +kernel
theorem dX12_cut_39 : decode cX12_cut 39 = .ok (.iconst 0, 1) := by decide +kernel
theorem dX12_cut_40 : decode cX12_cut 40 = .ok (.iaload, 1) := by decide +kernel
theorem dX12_cut_41 : decode cX12_cut 41 = .ok (.goto 9, 3) := by decide +kernel
theorem dX12_cut_44 : decode cX12_cut 44 = .ok (.aload_n 0, 1) := by decide +kernel
theorem dX12_cut_45 : decode cX12_cut 45 = .ok (.getfield 38, 3) := by decide +kernel
theorem dX12_cut_48 : decode cX12_cut 48 = .ok (.iconst 0, 1) := by decide +kernel
theorem dX12_cut_49 : decode cX12_cut 49 = .ok (.iaload, 1) := by decide +kernel
theorem dX12_cut_50 : decode cX12_cut 50 = .ok (.ireturn, 1) := by decide +kernel
theorem dX12_cut_51 : decode cX12_cut 51 = .ok (.iload_n 2, 1) := by decide +kernel
theorem dX12_cut_52 : decode cX12_cut 52 = .ok (.aload_n 0, 1) := by decide +kernel
theorem dX12_cut_53 : decode cX12_cut 53 = .ok (.getfield 41, 3) := by decide +kernel
theorem dX12_cut_56 : decode cX12_cut 56 = .ok (.iconst 0, 1) := by decide +kernel
theorem dX12_cut_57 : decode cX12_cut 57 = .ok (.iaload, 1) := by decide +kernel
theorem dX12_cut_58 : decode cX12_cut 58 = .ok (.if_icmp .lt 6, 3) := by decide +kernel
theorem dX12_cut_61 : decode cX12_cut 61 = .ok (.bipush (-5), 2) := by decide +kernel
theorem dX12_cut_63 : decode cX12_cut 63 = .ok (.ireturn, 1) := by decide +kernel
theorem dX12_cut_64 : decode cX12_cut 64 = .ok (.iconst 0, 1) := by decide +kernel
theorem dX12_cut_65 : decode cX12_cut 65 = .ok (.istore_n 3, 1) := by decide +kernel
theorem dX12_cut_66 : decode cX12_cut 66 = .ok (.iconst 0, 1) := by decide +kernel
theorem dX12_cut_67 : decode cX12_cut 67 = .ok (.istore 4, 2) := by decide +kernel
theorem dX12_cut_69 : decode cX12_cut 69 = .ok (.iload 4, 2) := by decide +kernel
theorem dX12_cut_71 : decode cX12_cut 71 = .ok (.iload_n 2, 1) := by decide +kernel
theorem dX12_cut_72 : decode cX12_cut 72 = .ok (.if_icmp .ge 18, 3) := by decide +kernel
theorem dX12_cut_75 : decode cX12_cut 75 = .ok (.iload_n 3, 1) := by decide +kernel
theorem dX12_cut_76 : decode cX12_cut 76 = .ok (.aload_n 0, 1) := by decide +kernel
theorem dX12_cut_77 : decode cX12_cut 77 = .ok (.getfield 44, 3) := by decide +kernel
theorem dX12_cut_80 : decode cX12_cut 80 = .ok (.iload_n 3, 1) := by decide +kernel
theorem dX12_cut_81 : decode cX12_cut 81 = .ok (.iaload, 1) := by decide +kernel
theorem dX12_cut_82 : decode cX12_cut 82 = .ok (.iadd, 1) := by decide +kernel
theorem dX12_cut_83 : decode cX12_cut 83 = .ok (.istore_n 3, 1) := by decide +kernel
theorem dX12_cut_84 : decode cX12_cut 84 = .ok (.iinc 4 1, 3) := by decide +kernel
theorem dX12_cut_87 : decode cX12_cut 87 = .ok (.goto (-18), 3) := by decide +kernel
theorem dX12_cut_90 : decode cX12_cut 90 = .ok (.aload_n 0, 1) := by decide +kernel
theorem dX12_cut_91 : decode cX12_cut 91 = .ok (.getfield 44, 3) := by decide +kernel
theorem dX12_cut_94 : decode cX12_cut 94 = .ok (.iload_n 3, 1) := by decide +kernel
theorem dX12_cut_95 : decode cX12_cut 95 = .ok (.iaload, 1) := by decide +kernel
theorem dX12_cut_96 : decode cX12_cut 96 = .ok (.ireturn, 1) := by decide +kernel
set_option maxRecDepth 20000 in
theorem ggX12_seen_X12_in : GoodIn wsX12_seen wsX12_in := goodIn_r _ [5] (by decide +kernel) (by decide +kernel)
set_option maxRecDepth 20000 in
theorem gX12_seen_X12_in : GoodIn wsX12_seen (va_wsS RX12 68 yX12_in wsX12_in) := goodIn_app (goodIn_of _ (by decide +kernel)) ggX12_seen_X12_in
set_option maxRecDepth 20000 in
theorem ggX12_seen_X12_bad : GoodIn wsX12_seen wsX12_bad := goodIn_r _ [9, 10, 15, 16, 17, 18, 19, 20, 21, 22, 23, 24, 25, 26, 27, 28, 29, 30, 31, 32, 33, 34, 35, 36, 37, 38, 39] (by decide +kernel) (by decide +kernel)
set_option maxRecDepth 20000 in
theorem gX12_seen_X12_bad : GoodIn wsX12_seen (wsV RX12 72 RX12 yX12_bad wsX12_bad) := goodIn_app (goodIn_of _ (by decide +kernel)) ggX12_seen_X12_bad
set_option maxRecDepth 20000 in
theorem ggX12_seen_X12_full : GoodIn wsX12_seen wsX12_full := goodIn_r _ [14, 10, 15, 16, 17, 18, 19, 20, 21, 22, 23, 24, 25, 26, 27, 28, 29, 30, 31, 32, 33, 34, 35, 36, 37, 38, 39] (by decide +kernel) (by decide +kernel)
set_option maxRecDepth 20000 in
theorem gX12_seen_X12_full : GoodIn wsX12_seen (wsV RX12 90 RX12 yX12_full wsX12_full) := goodIn_app (goodIn_of _ (by decide +kernel)) ggX12_seen_X12_full
theorem dX12_seen_0 : decode cX12_seen 0 = .ok (.iload_n 1, 1) := by decide +kernel
theorem dX12_seen_1 : decode cX12_seen 1 = .ok (.iconst 1, 1) := by decide +kernel
theorem dX12_seen_2 : decode cX12_seen 2 = .ok (.bipush 6, 2) := by decide +kernel
theorem dX12_seen_4 : decode cX12_seen 4 = .ok (.invokestatic 68, 3) := by decide +kernel
theorem dX12_seen_7 : decode cX12_seen 7 = .ok (.ifCond .eq 22, 3) := by decide +kernel
theorem dX12_seen_10 : decode cX12_seen 10 = .ok (.iload_n 2, 1) := by decide +kernel
theorem dX12_seen_11 : decode cX12_seen 11 = .ok (.iconst 0, 1) := by decide +kernel
theorem dX12_seen_12 : decode cX12_seen 12 = .ok (.bipush 12, 2) := by decide +kernel
theorem dX12_seen_14 : decode cX12_seen 14 = .ok (.invokestatic 68, 3) := by decide +kernel
theorem dX12_seen_17 : decode cX12_seen 17 = .ok (.ifCond .eq 12, 3) := by decide +kernel
theorem dX12_seen_20 : decode cX12_seen 20 = .ok (.iload_n 3, 1) := by decide +kernel
theorem dX12_seen_21 : decode cX12_seen 21 = .ok (.iconst (-1), 1) := by decide +kernel
theorem dX12_seen_22 : decode cX12_seen 22 = .ok (.iconst 5, 1) := by decide +kernel
theorem dX12_seen_23 : decode cX12_seen 23 = .ok (.invokestatic 68, 3) := by decide +kernel
theorem dX12_seen_26 : decode cX12_seen 26 = .ok (.ifCond .ne 8, 3) := by decide +kernel
theorem dX12_seen_29 : decode cX12_seen 29 = .ok (.aload_n 0, 1) := by decide +kernel
theorem dX12_seen_30 : decode cX12_seen 30 = .ok (.invokevirtual 72, 3) := by decide +kernel
theorem dX12_seen_33 : decode cX12_seen 33 = .ok (.ireturn, 1) := by decide +kernel
theorem dX12_seen_34 : decode cX12_seen 34 = .ok (.aload_n 0, 1) := by decide +kernel
theorem dX12_seen_35 : decode cX12_seen 35 = .ok (.getfield 17, 3) := by decide +kernel
theorem dX12_seen_38 : decode cX12_seen 38 = .ok (.bipush 89, 2) := by decide +kernel
theorem dX12_seen_40 : decode cX12_seen 40 = .ok (.iaload, 1) := by decide +kernel
theorem dX12_seen_41 : decode cX12_seen 41 = .ok (.bipush 8, 2) := by decide +kernel
theorem dX12_seen_43 : decode cX12_seen 43 = .ok (.if_icmp .ne 8, 3) := by decide +kernel
theorem dX12_seen_46 : decode cX12_seen 46 = .ok (.aload_n 0, 1) := by decide +kernel
theorem dX12_seen_47 : decode cX12_seen 47 = .ok (.invokevirtual 90, 3) := by decide +kernel
theorem dX12_seen_50 : decode cX12_seen 50 = .ok (.ireturn, 1) := by decide +kernel
theorem dX12_seen_51 : decode cX12_seen 51 = .ok (.aload_n 0, 1) := by decide +kernel
theorem dX12_seen_52 : decode cX12_seen 52 = .ok (.getfield 17, 3) := by decide +kernel
theorem dX12_seen_55 : decode cX12_seen 55 = .ok (.bipush 90, 2) := by decide +kernel
theorem dX12_seen_57 : decode cX12_seen 57 = .ok (.iload_n 1, 1) := by decide +kernel
theorem dX12_seen_58 : decode cX12_seen 58 = .ok (.iastore, 1) := by decide +kernel
theorem dX12_seen_59 : decode cX12_seen 59 = .ok (.aload_n 0, 1) := by decide +kernel
theorem dX12_seen_60 : decode cX12_seen 60 = .ok (.getfield 17, 3) := by decide +kernel
theorem dX12_seen_63 : decode cX12_seen 63 = .ok (.bipush 91, 2) := by decide +kernel
theorem dX12_seen_65 : decode cX12_seen 65 = .ok (.iconst 2, 1) := by decide +kernel
theorem dX12_seen_66 : decode cX12_seen 66 = .ok (.aload_n 0, 1) := by decide +kernel
theorem dX12_seen_67 : decode cX12_seen 67 = .ok (.getfield 17, 3) := by decide +kernel
theorem dX12_seen_70 : decode cX12_seen 70 = .ok (.bipush 89, 2) := by decide +kernel
theorem dX12_seen_72 : decode cX12_seen 72 = .ok (.iaload, 1) := by decide +kernel
theorem dX12_seen_73 : decode cX12_seen 73 = .ok (.imul, 1) := by decide +kernel
theorem dX12_seen_74 : decode cX12_seen 74 = .ok (.iadd, 1) := by decide +kernel
theorem dX12_seen_75 : decode cX12_seen 75 = .ok (.iload_n 2, 1) := by decide +kernel
theorem dX12_seen_76 : decode cX12_seen 76 = .ok (.iastore, 1) := by decide +kernel
theorem dX12_seen_77 : decode cX12_seen 77 = .ok (.aload_n 0, 1) := by decide +kernel
theorem dX12_seen_78 : decode cX12_seen 78 = .ok (.getfield 17, 3) := by decide +kernel
theorem dX12_seen_81 : decode cX12_seen 81 = .ok (.bipush 91, 2) := by decide +kernel
theorem dX12_seen_83 : decode cX12_seen 83 = .ok (.iconst 2, 1) := by decide +kernel
theorem dX12_seen_84 : decode cX12_seen 84 = .ok (.aload_n 0, 1) := by decide +kernel
theorem dX12_seen_85 : decode cX12_seen 85 = .ok (.getfield 17, 3) := by decide +kernel
theorem dX12_seen_88 : decode cX12_seen 88 = .ok (.bipush 89, 2) := by decide +kernel
theorem dX12_seen_90 : decode cX12_seen 90 = .ok (.iaload, 1) := by decide +kernel
theorem dX12_seen_91 : decode cX12_seen 91 = .ok (.imul, 1) := by decide +kernel
