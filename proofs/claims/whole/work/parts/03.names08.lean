theorem dX12_seen_92 : decode cX12_seen 92 = .ok (.iadd, 1) := by decide +kernel
theorem dX12_seen_93 : decode cX12_seen 93 = .ok (.iconst 1, 1) := by decide +kernel
theorem dX12_seen_94 : decode cX12_seen 94 = .ok (.iadd, 1) := by decide +kernel
theorem dX12_seen_95 : decode cX12_seen 95 = .ok (.iload_n 3, 1) := by decide +kernel
theorem dX12_seen_96 : decode cX12_seen 96 = .ok (.iastore, 1) := by decide +kernel
theorem dX12_seen_97 : decode cX12_seen 97 = .ok (.aload_n 0, 1) := by decide +kernel
theorem dX12_seen_98 : decode cX12_seen 98 = .ok (.getfield 17, 3) := by decide +kernel
theorem dX12_seen_101 : decode cX12_seen 101 = .ok (.bipush 89, 2) := by decide +kernel
theorem dX12_seen_103 : decode cX12_seen 103 = .ok (.dup2, 1) := by decide +kernel
theorem dX12_seen_104 : decode cX12_seen 104 = .ok (.iaload, 1) := by decide +kernel
theorem dX12_seen_105 : decode cX12_seen 105 = .ok (.iconst 1, 1) := by decide +kernel
theorem dX12_seen_106 : decode cX12_seen 106 = .ok (.iadd, 1) := by decide +kernel
theorem dX12_seen_107 : decode cX12_seen 107 = .ok (.iastore, 1) := by decide +kernel
theorem dX12_seen_108 : decode cX12_seen 108 = .ok (.aload_n 0, 1) := by decide +kernel
theorem dX12_seen_109 : decode cX12_seen 109 = .ok (.getfield 17, 3) := by decide +kernel
theorem dX12_seen_112 : decode cX12_seen 112 = .ok (.bipush 89, 2) := by decide +kernel
theorem dX12_seen_114 : decode cX12_seen 114 = .ok (.iaload, 1) := by decide +kernel
theorem dX12_seen_115 : decode cX12_seen 115 = .ok (.ireturn, 1) := by decide +kernel
theorem dX12_forget_0 : decode cX12_forget 0 = .ok (.aload_n 0, 1) := by decide +kernel
theorem dX12_forget_1 : decode cX12_forget 1 = .ok (.getfield 17, 3) := by decide +kernel
theorem dX12_forget_4 : decode cX12_forget 4 = .ok (.bipush 89, 2) := by decide +kernel
theorem dX12_forget_6 : decode cX12_forget 6 = .ok (.iaload, 1) := by decide +kernel
theorem dX12_forget_7 : decode cX12_forget 7 = .ok (.aload_n 0, 1) := by decide +kernel
theorem dX12_forget_8 : decode cX12_forget 8 = .ok (.getfield 17, 3) := by decide +kernel
theorem dX12_forget_11 : decode cX12_forget 11 = .ok (.bipush 107, 2) := by decide +kernel
theorem dX12_forget_13 : decode cX12_forget 13 = .ok (.iaload, 1) := by decide +kernel
theorem dX12_forget_14 : decode cX12_forget 14 = .ok (.iadd, 1) := by decide +kernel
theorem dX12_forget_15 : decode cX12_forget 15 = .ok (.istore_n 1, 1) := by decide +kernel
theorem dX12_forget_16 : decode cX12_forget 16 = .ok (.aload_n 0, 1) := by decide +kernel
theorem dX12_forget_17 : decode cX12_forget 17 = .ok (.getfield 17, 3) := by decide +kernel
theorem dX12_forget_20 : decode cX12_forget 20 = .ok (.bipush 89, 2) := by decide +kernel
theorem dX12_forget_22 : decode cX12_forget 22 = .ok (.iconst 0, 1) := by decide +kernel
theorem dX12_forget_23 : decode cX12_forget 23 = .ok (.iastore, 1) := by decide +kernel
theorem dX12_forget_24 : decode cX12_forget 24 = .ok (.aload_n 0, 1) := by decide +kernel
theorem dX12_forget_25 : decode cX12_forget 25 = .ok (.getfield 17, 3) := by decide +kernel
theorem dX12_forget_28 : decode cX12_forget 28 = .ok (.bipush 107, 2) := by decide +kernel
theorem dX12_forget_30 : decode cX12_forget 30 = .ok (.iconst 0, 1) := by decide +kernel
theorem dX12_forget_31 : decode cX12_forget 31 = .ok (.iastore, 1) := by decide +kernel
theorem dX12_forget_32 : decode cX12_forget 32 = .ok (.aload_n 0, 1) := by decide +kernel
theorem dX12_forget_33 : decode cX12_forget 33 = .ok (.getfield 17, 3) := by decide +kernel
theorem dX12_forget_36 : decode cX12_forget 36 = .ok (.bipush 90, 2) := by decide +kernel
theorem dX12_forget_38 : decode cX12_forget 38 = .ok (.iconst 1, 1) := by decide +kernel
theorem dX12_forget_39 : decode cX12_forget 39 = .ok (.iastore, 1) := by decide +kernel
theorem dX12_forget_40 : decode cX12_forget 40 = .ok (.iload_n 1, 1) := by decide +kernel
theorem dX12_forget_41 : decode cX12_forget 41 = .ok (.ireturn, 1) := by decide +kernel
set_option maxRecDepth 20000 in
theorem ggX12_isFit_X12_weatherBy : GoodIn wsX12_isFit wsX12_weatherBy := goodIn_r _ [6, 1, 7, 8, 5, 9, 10, 11, 12, 13, 14, 15, 16, 17, 18, 19, 20, 21, 22, 23, 24, 25, 26, 27, 28, 29, 30, 31, 32, 33, 34, 35, 36, 37, 38, 39, 40] (by decide +kernel) (by decide +kernel)
set_option maxRecDepth 20000 in
theorem gX12_isFit_X12_weatherBy : GoodIn wsX12_isFit (wsV RX12 146 RX12 yX12_weatherBy wsX12_weatherBy) := goodIn_app (goodIn_of _ (by decide +kernel)) ggX12_isFit_X12_weatherBy
theorem dX12_isFit_0 : decode cX12_isFit 0 = .ok (.iload_n 2, 1) := by decide +kernel
theorem dX12_isFit_1 : decode cX12_isFit 1 = .ok (.aload_n 0, 1) := by decide +kernel
theorem dX12_isFit_2 : decode cX12_isFit 2 = .ok (.getfield 17, 3) := by decide +kernel
theorem dX12_isFit_5 : decode cX12_isFit 5 = .ok (.bipush 90, 2) := by decide +kernel
theorem dX12_isFit_7 : decode cX12_isFit 7 = .ok (.iaload, 1) := by decide +kernel
theorem dX12_isFit_8 : decode cX12_isFit 8 = .ok (.iadd, 1) := by decide +kernel
theorem dX12_isFit_9 : decode cX12_isFit 9 = .ok (.bipush 12, 2) := by decide +kernel
theorem dX12_isFit_11 : decode cX12_isFit 11 = .ok (.if_icmp .gt 7, 3) := by decide +kernel
theorem dX12_isFit_14 : decode cX12_isFit 14 = .ok (.iconst 1, 1) := by decide +kernel
theorem dX12_isFit_15 : decode cX12_isFit 15 = .ok (.goto 4, 3) := by decide +kernel
theorem dX12_isFit_18 : decode cX12_isFit 18 = .ok (.iconst 0, 1) := by decide +kernel
theorem dX12_isFit_19 : decode cX12_isFit 19 = .ok (.istore_n 3, 1) := by decide +kernel
theorem dX12_isFit_20 : decode cX12_isFit 20 = .ok (.iconst 0, 1) := by decide +kernel
theorem dX12_isFit_21 : decode cX12_isFit 21 = .ok (.istore 4, 2) := by decide +kernel
theorem dX12_isFit_23 : decode cX12_isFit 23 = .ok (.iload 4, 2) := by decide +kernel
theorem dX12_isFit_25 : decode cX12_isFit 25 = .ok (.aload_n 0, 1) := by decide +kernel
theorem dX12_isFit_26 : decode cX12_isFit 26 = .ok (.getfield 17, 3) := by decide +kernel
theorem dX12_isFit_29 : decode cX12_isFit 29 = .ok (.bipush 89, 2) := by decide +kernel
theorem dX12_isFit_31 : decode cX12_isFit 31 = .ok (.iaload, 1) := by decide +kernel
theorem dX12_isFit_32 : decode cX12_isFit 32 = .ok (.if_icmp .ge 61, 3) := by decide +kernel
theorem dX12_isFit_35 : decode cX12_isFit 35 = .ok (.iload_n 3, 1) := by decide +kernel
theorem dX12_isFit_36 : decode cX12_isFit 36 = .ok (.ifCond .eq 57, 3) := by decide +kernel
theorem dX12_isFit_39 : decode cX12_isFit 39 = .ok (.aload_n 0, 1) := by decide +kernel
theorem dX12_isFit_40 : decode cX12_isFit 40 = .ok (.iload_n 1, 1) := by decide +kernel
theorem dX12_isFit_41 : decode cX12_isFit 41 = .ok (.iload_n 2, 1) := by decide +kernel
theorem dX12_isFit_42 : decode cX12_isFit 42 = .ok (.aload_n 0, 1) := by decide +kernel
theorem dX12_isFit_43 : decode cX12_isFit 43 = .ok (.getfield 17, 3) := by decide +kernel
theorem dX12_isFit_46 : decode cX12_isFit 46 = .ok (.bipush 90, 2) := by decide +kernel
theorem dX12_isFit_48 : decode cX12_isFit 48 = .ok (.iaload, 1) := by decide +kernel
theorem dX12_isFit_49 : decode cX12_isFit 49 = .ok (.aload_n 0, 1) := by decide +kernel
theorem dX12_isFit_50 : decode cX12_isFit 50 = .ok (.getfield 17, 3) := by decide +kernel
theorem dX12_isFit_53 : decode cX12_isFit 53 = .ok (.bipush 91, 2) := by decide +kernel
theorem dX12_isFit_55 : decode cX12_isFit 55 = .ok (.iconst 2, 1) := by decide +kernel
theorem dX12_isFit_56 : decode cX12_isFit 56 = .ok (.iload 4, 2) := by decide +kernel
theorem dX12_isFit_58 : decode cX12_isFit 58 = .ok (.imul, 1) := by decide +kernel
theorem dX12_isFit_59 : decode cX12_isFit 59 = .ok (.iadd, 1) := by decide +kernel
theorem dX12_isFit_60 : decode cX12_isFit 60 = .ok (.iaload, 1) := by decide +kernel
theorem dX12_isFit_61 : decode cX12_isFit 61 = .ok (.invokevirtual 146, 3) := by decide +kernel
theorem dX12_isFit_64 : decode cX12_isFit 64 = .ok (.aload_n 0, 1) := by decide +kernel
theorem dX12_isFit_65 : decode cX12_isFit 65 = .ok (.getfield 17, 3) := by decide +kernel
theorem dX12_isFit_68 : decode cX12_isFit 68 = .ok (.bipush 91, 2) := by decide +kernel
theorem dX12_isFit_70 : decode cX12_isFit 70 = .ok (.iconst 2, 1) := by decide +kernel
theorem dX12_isFit_71 : decode cX12_isFit 71 = .ok (.iload 4, 2) := by decide +kernel
theorem dX12_isFit_73 : decode cX12_isFit 73 = .ok (.imul, 1) := by decide +kernel
theorem dX12_isFit_74 : decode cX12_isFit 74 = .ok (.iadd, 1) := by decide +kernel
theorem dX12_isFit_75 : decode cX12_isFit 75 = .ok (.iconst 1, 1) := by decide +kernel
theorem dX12_isFit_76 : decode cX12_isFit 76 = .ok (.iadd, 1) := by decide +kernel
theorem dX12_isFit_77 : decode cX12_isFit 77 = .ok (.iaload, 1) := by decide +kernel
theorem dX12_isFit_78 : decode cX12_isFit 78 = .ok (.if_icmp .ne 7, 3) := by decide +kernel
theorem dX12_isFit_81 : decode cX12_isFit 81 = .ok (.iconst 1, 1) := by decide +kernel
theorem dX12_isFit_82 : decode cX12_isFit 82 = .ok (.goto 4, 3) := by decide +kernel
theorem dX12_isFit_85 : decode cX12_isFit 85 = .ok (.iconst 0, 1) := by decide +kernel
theorem dX12_isFit_86 : decode cX12_isFit 86 = .ok (.istore_n 3, 1) := by decide +kernel
theorem dX12_isFit_87 : decode cX12_isFit 87 = .ok (.iinc 4 1, 3) := by decide +kernel
theorem dX12_isFit_90 : decode cX12_isFit 90 = .ok (.goto (-67), 3) := by decide +kernel
theorem dX12_isFit_93 : decode cX12_isFit 93 = .ok (.iload_n 3, 1) := by decide +kernel
theorem dX12_isFit_94 : decode cX12_isFit 94 = .ok (.ireturn, 1) := by decide +kernel
set_option maxRecDepth 20000 in
theorem ggX12_fits_X12_in : GoodIn wsX12_fits wsX12_in := goodIn_r _ [4] (by decide +kernel) (by decide +kernel)
set_option maxRecDepth 20000 in
theorem gX12_fits_X12_in : GoodIn wsX12_fits (va_wsS RX12 68 yX12_in wsX12_in) := goodIn_app (goodIn_of _ (by decide +kernel)) ggX12_fits_X12_in
set_option maxRecDepth 20000 in
theorem ggX12_fits_X12_wrong : GoodIn wsX12_fits wsX12_wrong := goodIn_r _ [8, 9, 25, 26, 27, 28, 29, 30, 31, 32, 33, 34, 35, 36, 37, 38, 39, 40, 41, 42, 43, 44, 45, 46, 47, 48, 49] (by decide +kernel) (by decide +kernel)
set_option maxRecDepth 20000 in
theorem gX12_fits_X12_wrong : GoodIn wsX12_fits (wsV RX12 189 RX12 yX12_wrong wsX12_wrong) := goodIn_app (goodIn_of _ (by decide +kernel)) ggX12_fits_X12_wrong
set_option maxRecDepth 20000 in
theorem ggX12_fits_X12_isFit : GoodIn wsX12_fits wsX12_isFit := goodIn_r _ [13, 14, 15, 16, 17, 3, 18, 19, 20, 21, 22, 23, 24, 1, 2, 4, 25, 26, 27, 28, 29, 30, 31, 32, 33, 34, 35, 36, 37, 38, 39, 40, 41, 42, 43, 44, 45, 46, 47, 48, 49] (by decide +kernel) (by decide +kernel)
set_option maxRecDepth 20000 in
theorem gX12_fits_X12_isFit : GoodIn wsX12_fits (wsV RX12 204 RX12 yX12_isFit wsX12_isFit) := goodIn_app (goodIn_of _ (by decide +kernel)) ggX12_fits_X12_isFit
theorem dX12_fits_0 : decode cX12_fits 0 = .ok (.iload_n 1, 1) := by decide +kernel
theorem dX12_fits_1 : decode cX12_fits 1 = .ok (.iconst 0, 1) := by decide +kernel
theorem dX12_fits_2 : decode cX12_fits 2 = .ok (.iconst 1, 1) := by decide +kernel
theorem dX12_fits_3 : decode cX12_fits 3 = .ok (.invokestatic 68, 3) := by decide +kernel
theorem dX12_fits_6 : decode cX12_fits 6 = .ok (.ifCond .ne 8, 3) := by decide +kernel
theorem dX12_fits_9 : decode cX12_fits 9 = .ok (.aload_n 0, 1) := by decide +kernel
theorem dX12_fits_10 : decode cX12_fits 10 = .ok (.invokevirtual 189, 3) := by decide +kernel
theorem dX12_fits_13 : decode cX12_fits 13 = .ok (.ireturn, 1) := by decide +kernel
theorem dX12_fits_14 : decode cX12_fits 14 = .ok (.iconst 0, 1) := by decide +kernel
theorem dX12_fits_15 : decode cX12_fits 15 = .ok (.istore_n 2, 1) := by decide +kernel
theorem dX12_fits_16 : decode cX12_fits 16 = .ok (.iconst (-1), 1) := by decide +kernel
theorem dX12_fits_17 : decode cX12_fits 17 = .ok (.istore_n 3, 1) := by decide +kernel
theorem dX12_fits_18 : decode cX12_fits 18 = .ok (.iconst 0, 1) := by decide +kernel
theorem dX12_fits_19 : decode cX12_fits 19 = .ok (.istore 4, 2) := by decide +kernel
theorem dX12_fits_21 : decode cX12_fits 21 = .ok (.iload 4, 2) := by decide +kernel
theorem dX12_fits_23 : decode cX12_fits 23 = .ok (.bipush 72, 2) := by decide +kernel
theorem dX12_fits_25 : decode cX12_fits 25 = .ok (.if_icmp .ge 40, 3) := by decide +kernel
theorem dX12_fits_28 : decode cX12_fits 28 = .ok (.aload_n 0, 1) := by decide +kernel
theorem dX12_fits_29 : decode cX12_fits 29 = .ok (.iload 4, 2) := by decide +kernel
theorem dX12_fits_31 : decode cX12_fits 31 = .ok (.bipush 12, 2) := by decide +kernel
theorem dX12_fits_33 : decode cX12_fits 33 = .ok (.idiv, 1) := by decide +kernel
theorem dX12_fits_34 : decode cX12_fits 34 = .ok (.iload 4, 2) := by decide +kernel
theorem dX12_fits_36 : decode cX12_fits 36 = .ok (.bipush 12, 2) := by decide +kernel
theorem dX12_fits_38 : decode cX12_fits 38 = .ok (.irem, 1) := by decide +kernel
theorem dX12_fits_39 : decode cX12_fits 39 = .ok (.invokevirtual 204, 3) := by decide +kernel
theorem dX12_fits_42 : decode cX12_fits 42 = .ok (.ifCond .eq 17, 3) := by decide +kernel
theorem dX12_fits_45 : decode cX12_fits 45 = .ok (.iload_n 2, 1) := by decide +kernel
theorem dX12_fits_46 : decode cX12_fits 46 = .ok (.ifCond .ne 8, 3) := by decide +kernel
theorem dX12_fits_49 : decode cX12_fits 49 = .ok (.iload 4, 2) := by decide +kernel
theorem dX12_fits_51 : decode cX12_fits 51 = .ok (.goto 4, 3) := by decide +kernel
theorem dX12_fits_54 : decode cX12_fits 54 = .ok (.iload_n 3, 1) := by decide +kernel
theorem dX12_fits_55 : decode cX12_fits 55 = .ok (.istore_n 3, 1) := by decide +kernel
theorem dX12_fits_56 : decode cX12_fits 56 = .ok (.iinc 2 1, 3) := by decide +kernel
theorem dX12_fits_59 : decode cX12_fits 59 = .ok (.iinc 4 1, 3) := by decide +kernel
theorem dX12_fits_62 : decode cX12_fits 62 = .ok (.goto (-41), 3) := by decide +kernel
theorem dX12_fits_65 : decode cX12_fits 65 = .ok (.iload_n 1, 1) := by decide +kernel
theorem dX12_fits_66 : decode cX12_fits 66 = .ok (.ifCond .ne 7, 3) := by decide +kernel
theorem dX12_fits_69 : decode cX12_fits 69 = .ok (.iload_n 2, 1) := by decide +kernel
theorem dX12_fits_70 : decode cX12_fits 70 = .ok (.goto 4, 3) := by decide +kernel
theorem dX12_fits_73 : decode cX12_fits 73 = .ok (.iload_n 3, 1) := by decide +kernel
theorem dX12_fits_74 : decode cX12_fits 74 = .ok (.ireturn, 1) := by decide +kernel
set_option maxRecDepth 20000 in
theorem ggX12_look_X12_isFit : GoodIn wsX12_look wsX12_isFit := goodIn_r _ [8, 3, 9, 10, 11, 7, 12, 13, 14, 15, 16, 17, 18, 19, 20, 21, 22, 23, 24, 25, 26, 27, 28, 29, 30, 31, 32, 33, 34, 35, 36, 37, 38, 39, 40, 41, 42, 43, 44, 45, 46] (by decide +kernel) (by decide +kernel)
set_option maxRecDepth 20000 in
theorem gX12_look_X12_isFit : GoodIn wsX12_look (wsV RX12 204 RX12 yX12_isFit wsX12_isFit) := goodIn_app (goodIn_of _ (by decide +kernel)) ggX12_look_X12_isFit
set_option maxRecDepth 20000 in
theorem ggX12_look_X12_weatherBy : GoodIn wsX12_look wsX12_weatherBy := goodIn_r _ [12, 3, 13, 14, 7, 15, 16, 17, 18, 19, 20, 21, 22, 23, 24, 25, 26, 27, 28, 29, 30, 31, 32, 33, 34, 35, 36, 37, 38, 39, 40, 41, 42, 43, 44, 45, 46] (by decide +kernel) (by decide +kernel)
set_option maxRecDepth 20000 in
theorem gX12_look_X12_weatherBy : GoodIn wsX12_look (wsV RX12 146 RX12 yX12_weatherBy wsX12_weatherBy) := goodIn_app (goodIn_of _ (by decide +kernel)) ggX12_look_X12_weatherBy
theorem dX12_look_0 : decode cX12_look 0 = .ok (.iconst (-1), 1) := by decide +kernel
theorem dX12_look_1 : decode cX12_look 1 = .ok (.istore_n 1, 1) := by decide +kernel
theorem dX12_look_2 : decode cX12_look 2 = .ok (.ldc 188, 2) := by decide +kernel
theorem dX12_look_4 : decode cX12_look 4 = .ok (.istore_n 2, 1) := by decide +kernel
theorem dX12_look_5 : decode cX12_look 5 = .ok (.iconst 0, 1) := by decide +kernel
theorem dX12_look_6 : decode cX12_look 6 = .ok (.istore_n 3, 1) := by decide +kernel
theorem dX12_look_7 : decode cX12_look 7 = .ok (.iload_n 3, 1) := by decide +kernel
theorem dX12_look_8 : decode cX12_look 8 = .ok (.bipush 13, 2) := by decide +kernel
theorem dX12_look_10 : decode cX12_look 10 = .ok (.if_icmp .ge 148, 3) := by decide +kernel
theorem dX12_look_13 : decode cX12_look 13 = .ok (.iconst 0, 1) := by decide +kernel
theorem dX12_look_14 : decode cX12_look 14 = .ok (.istore 4, 2) := by decide +kernel
theorem dX12_look_16 : decode cX12_look 16 = .ok (.iload 4, 2) := by decide +kernel
theorem dX12_look_18 : decode cX12_look 18 = .ok (.bipush 7, 2) := by decide +kernel
theorem dX12_look_20 : decode cX12_look 20 = .ok (.if_icmp .ge 17, 3) := by decide +kernel
theorem dX12_look_23 : decode cX12_look 23 = .ok (.aload_n 0, 1) := by decide +kernel
theorem dX12_look_24 : decode cX12_look 24 = .ok (.getfield 47, 3) := by decide +kernel
theorem dX12_look_27 : decode cX12_look 27 = .ok (.iload 4, 2) := by decide +kernel
theorem dX12_look_29 : decode cX12_look 29 = .ok (.iconst 0, 1) := by decide +kernel
theorem dX12_look_30 : decode cX12_look 30 = .ok (.iastore, 1) := by decide +kernel
theorem dX12_look_31 : decode cX12_look 31 = .ok (.iinc 4 1, 3) := by decide +kernel
theorem dX12_look_34 : decode cX12_look 34 = .ok (.goto (-18), 3) := by decide +kernel
theorem dX12_look_37 : decode cX12_look 37 = .ok (.iconst 0, 1) := by decide +kernel
theorem dX12_look_38 : decode cX12_look 38 = .ok (.istore 4, 2) := by decide +kernel
theorem dX12_look_40 : decode cX12_look 40 = .ok (.iconst 0, 1) := by decide +kernel
theorem dX12_look_41 : decode cX12_look 41 = .ok (.istore 5, 2) := by decide +kernel
theorem dX12_look_43 : decode cX12_look 43 = .ok (.iload 5, 2) := by decide +kernel
theorem dX12_look_45 : decode cX12_look 45 = .ok (.bipush 72, 2) := by decide +kernel
theorem dX12_look_47 : decode cX12_look 47 = .ok (.if_icmp .ge 89, 3) := by decide +kernel
theorem dX12_look_50 : decode cX12_look 50 = .ok (.aload_n 0, 1) := by decide +kernel
theorem dX12_look_51 : decode cX12_look 51 = .ok (.iload 5, 2) := by decide +kernel
theorem dX12_look_53 : decode cX12_look 53 = .ok (.bipush 12, 2) := by decide +kernel
theorem dX12_look_55 : decode cX12_look 55 = .ok (.idiv, 1) := by decide +kernel
theorem dX12_look_56 : decode cX12_look 56 = .ok (.iload 5, 2) := by decide +kernel
theorem dX12_look_58 : decode cX12_look 58 = .ok (.bipush 12, 2) := by decide +kernel
theorem dX12_look_60 : decode cX12_look 60 = .ok (.irem, 1) := by decide +kernel
theorem dX12_look_61 : decode cX12_look 61 = .ok (.invokevirtual 204, 3) := by decide +kernel
theorem dX12_look_64 : decode cX12_look 64 = .ok (.ifCond .eq 66, 3) := by decide +kernel
theorem dX12_look_67 : decode cX12_look 67 = .ok (.iconst 1, 1) := by decide +kernel
theorem dX12_look_68 : decode cX12_look 68 = .ok (.aload_n 0, 1) := by decide +kernel
theorem dX12_look_69 : decode cX12_look 69 = .ok (.iload 5, 2) := by decide +kernel
theorem dX12_look_71 : decode cX12_look 71 = .ok (.bipush 12, 2) := by decide +kernel
theorem dX12_look_73 : decode cX12_look 73 = .ok (.idiv, 1) := by decide +kernel
theorem dX12_look_74 : decode cX12_look 74 = .ok (.iload 5, 2) := by decide +kernel
theorem dX12_look_76 : decode cX12_look 76 = .ok (.bipush 12, 2) := by decide +kernel
theorem dX12_look_78 : decode cX12_look 78 = .ok (.irem, 1) := by decide +kernel
theorem dX12_look_79 : decode cX12_look 79 = .ok (.aload_n 0, 1) := by decide +kernel
theorem dX12_look_80 : decode cX12_look 80 = .ok (.getfield 17, 3) := by decide +kernel
theorem dX12_look_83 : decode cX12_look 83 = .ok (.bipush 90, 2) := by decide +kernel
theorem dX12_look_85 : decode cX12_look 85 = .ok (.iaload, 1) := by decide +kernel
theorem dX12_look_86 : decode cX12_look 86 = .ok (.iload_n 3, 1) := by decide +kernel
theorem dX12_look_87 : decode cX12_look 87 = .ok (.invokevirtual 146, 3) := by decide +kernel
theorem dX12_look_90 : decode cX12_look 90 = .ok (.iadd, 1) := by decide +kernel
theorem dX12_look_91 : decode cX12_look 91 = .ok (.istore 6, 2) := by decide +kernel
theorem dX12_look_93 : decode cX12_look 93 = .ok (.aload_n 0, 1) := by decide +kernel
theorem dX12_look_94 : decode cX12_look 94 = .ok (.getfield 47, 3) := by decide +kernel
theorem dX12_look_97 : decode cX12_look 97 = .ok (.iload 6, 2) := by decide +kernel
theorem dX12_look_99 : decode cX12_look 99 = .ok (.dup2, 1) := by decide +kernel
theorem dX12_look_100 : decode cX12_look 100 = .ok (.iaload, 1) := by decide +kernel
theorem dX12_look_101 : decode cX12_look 101 = .ok (.iconst 1, 1) := by decide +kernel
theorem dX12_look_102 : decode cX12_look 102 = .ok (.iadd, 1) := by decide +kernel
theorem dX12_look_103 : decode cX12_look 103 = .ok (.iastore, 1) := by decide +kernel
theorem dX12_look_104 : decode cX12_look 104 = .ok (.aload_n 0, 1) := by decide +kernel
theorem dX12_look_105 : decode cX12_look 105 = .ok (.getfield 47, 3) := by decide +kernel
theorem dX12_look_108 : decode cX12_look 108 = .ok (.iload 6, 2) := by decide +kernel
theorem dX12_look_110 : decode cX12_look 110 = .ok (.iaload, 1) := by decide +kernel
theorem dX12_look_111 : decode cX12_look 111 = .ok (.iload 4, 2) := by decide +kernel
theorem dX12_look_113 : decode cX12_look 113 = .ok (.if_icmp .le 13, 3) := by decide +kernel
theorem dX12_look_116 : decode cX12_look 116 = .ok (.aload_n 0, 1) := by decide +kernel
theorem dX12_look_117 : decode cX12_look 117 = .ok (.getfield 47, 3) := by decide +kernel
theorem dX12_look_120 : decode cX12_look 120 = .ok (.iload 6, 2) := by decide +kernel
theorem dX12_look_122 : decode cX12_look 122 = .ok (.iaload, 1) := by decide +kernel
theorem dX12_look_123 : decode cX12_look 123 = .ok (.goto 5, 3) := by decide +kernel
theorem dX12_look_126 : decode cX12_look 126 = .ok (.iload 4, 2) := by decide +kernel
theorem dX12_look_128 : decode cX12_look 128 = .ok (.istore 4, 2) := by decide +kernel
theorem dX12_look_130 : decode cX12_look 130 = .ok (.iinc 5 1, 3) := by decide +kernel
theorem dX12_look_133 : decode cX12_look 133 = .ok (.goto (-90), 3) := by decide +kernel
theorem dX12_look_136 : decode cX12_look 136 = .ok (.iload 4, 2) := by decide +kernel
theorem dX12_look_138 : decode cX12_look 138 = .ok (.ifCond .le 14, 3) := by decide +kernel
theorem dX12_look_141 : decode cX12_look 141 = .ok (.iload 4, 2) := by decide +kernel
theorem dX12_look_143 : decode cX12_look 143 = .ok (.iload_n 2, 1) := by decide +kernel
theorem dX12_look_144 : decode cX12_look 144 = .ok (.if_icmp .ge 8, 3) := by decide +kernel
theorem dX12_look_147 : decode cX12_look 147 = .ok (.iload_n 3, 1) := by decide +kernel
theorem dX12_look_148 : decode cX12_look 148 = .ok (.istore_n 1, 1) := by decide +kernel
theorem dX12_look_149 : decode cX12_look 149 = .ok (.iload 4, 2) := by decide +kernel
theorem dX12_look_151 : decode cX12_look 151 = .ok (.istore_n 2, 1) := by decide +kernel
theorem dX12_look_152 : decode cX12_look 152 = .ok (.iinc 3 1, 3) := by decide +kernel
theorem dX12_look_155 : decode cX12_look 155 = .ok (.goto (-148), 3) := by decide +kernel
theorem dX12_look_158 : decode cX12_look 158 = .ok (.iload_n 1, 1) := by decide +kernel
theorem dX12_look_159 : decode cX12_look 159 = .ok (.ireturn, 1) := by decide +kernel
set_option maxRecDepth 20000 in
theorem ggX12_glimpse_X12_in : GoodIn wsX12_glimpse wsX12_in := goodIn_r _ [5] (by decide +kernel) (by decide +kernel)
set_option maxRecDepth 20000 in
theorem gX12_glimpse_X12_in : GoodIn wsX12_glimpse (va_wsS RX12 68 yX12_in wsX12_in) := goodIn_app (goodIn_of _ (by decide +kernel)) ggX12_glimpse_X12_in
set_option maxRecDepth 20000 in
theorem ggX12_glimpse_X12_bad : GoodIn wsX12_glimpse wsX12_bad := goodIn_r _ [9, 10, 15, 16, 17, 18, 19, 20, 21, 22, 23, 24, 25, 26, 27, 28, 29, 30, 31, 32, 33, 34, 35, 36, 37, 38, 39] (by decide +kernel) (by decide +kernel)
set_option maxRecDepth 20000 in
theorem gX12_glimpse_X12_bad : GoodIn wsX12_glimpse (wsV RX12 72 RX12 yX12_bad wsX12_bad) := goodIn_app (goodIn_of _ (by decide +kernel)) ggX12_glimpse_X12_bad
set_option maxRecDepth 20000 in
theorem ggX12_glimpse_X12_full : GoodIn wsX12_glimpse wsX12_full := goodIn_r _ [14, 10, 15, 16, 17, 18, 19, 20, 21, 22, 23, 24, 25, 26, 27, 28, 29, 30, 31, 32, 33, 34, 35, 36, 37, 38, 39] (by decide +kernel) (by decide +kernel)
set_option maxRecDepth 20000 in
theorem gX12_glimpse_X12_full : GoodIn wsX12_glimpse (wsV RX12 90 RX12 yX12_full wsX12_full) := goodIn_app (goodIn_of _ (by decide +kernel)) ggX12_glimpse_X12_full
theorem dX12_glimpse_0 : decode cX12_glimpse 0 = .ok (.iload_n 1, 1) := by decide +kernel
theorem dX12_glimpse_1 : decode cX12_glimpse 1 = .ok (.iconst 0, 1) := by decide +kernel
theorem dX12_glimpse_2 : decode cX12_glimpse 2 = .ok (.bipush 11, 2) := by decide +kernel
theorem dX12_glimpse_4 : decode cX12_glimpse 4 = .ok (.invokestatic 68, 3) := by decide +kernel
theorem dX12_glimpse_7 : decode cX12_glimpse 7 = .ok (.ifCond .eq 22, 3) := by decide +kernel
theorem dX12_glimpse_10 : decode cX12_glimpse 10 = .ok (.iload_n 2, 1) := by decide +kernel
theorem dX12_glimpse_11 : decode cX12_glimpse 11 = .ok (.iconst 0, 1) := by decide +kernel
theorem dX12_glimpse_12 : decode cX12_glimpse 12 = .ok (.bipush 8, 2) := by decide +kernel
theorem dX12_glimpse_14 : decode cX12_glimpse 14 = .ok (.invokestatic 68, 3) := by decide +kernel
theorem dX12_glimpse_17 : decode cX12_glimpse 17 = .ok (.ifCond .eq 12, 3) := by decide +kernel
theorem dX12_glimpse_20 : decode cX12_glimpse 20 = .ok (.iload_n 3, 1) := by decide +kernel
theorem dX12_glimpse_21 : decode cX12_glimpse 21 = .ok (.iconst 0, 1) := by decide +kernel
theorem dX12_glimpse_22 : decode cX12_glimpse 22 = .ok (.iconst 1, 1) := by decide +kernel
theorem dX12_glimpse_23 : decode cX12_glimpse 23 = .ok (.invokestatic 68, 3) := by decide +kernel
theorem dX12_glimpse_26 : decode cX12_glimpse 26 = .ok (.ifCond .ne 8, 3) := by decide +kernel
theorem dX12_glimpse_29 : decode cX12_glimpse 29 = .ok (.aload_n 0, 1) := by decide +kernel
theorem dX12_glimpse_30 : decode cX12_glimpse 30 = .ok (.invokevirtual 72, 3) := by decide +kernel
theorem dX12_glimpse_33 : decode cX12_glimpse 33 = .ok (.ireturn, 1) := by decide +kernel
theorem dX12_glimpse_34 : decode cX12_glimpse 34 = .ok (.aload_n 0, 1) := by decide +kernel
theorem dX12_glimpse_35 : decode cX12_glimpse 35 = .ok (.getfield 17, 3) := by decide +kernel
theorem dX12_glimpse_38 : decode cX12_glimpse 38 = .ok (.bipush 107, 2) := by decide +kernel
theorem dX12_glimpse_40 : decode cX12_glimpse 40 = .ok (.iaload, 1) := by decide +kernel
theorem dX12_glimpse_41 : decode cX12_glimpse 41 = .ok (.bipush 6, 2) := by decide +kernel
theorem dX12_glimpse_43 : decode cX12_glimpse 43 = .ok (.if_icmp .ne 8, 3) := by decide +kernel
theorem dX12_glimpse_46 : decode cX12_glimpse 46 = .ok (.aload_n 0, 1) := by decide +kernel
theorem dX12_glimpse_47 : decode cX12_glimpse 47 = .ok (.invokevirtual 90, 3) := by decide +kernel
theorem dX12_glimpse_50 : decode cX12_glimpse 50 = .ok (.ireturn, 1) := by decide +kernel
theorem dX12_glimpse_51 : decode cX12_glimpse 51 = .ok (.bipush 108, 2) := by decide +kernel
theorem dX12_glimpse_53 : decode cX12_glimpse 53 = .ok (.iconst 3, 1) := by decide +kernel
theorem dX12_glimpse_54 : decode cX12_glimpse 54 = .ok (.aload_n 0, 1) := by decide +kernel
theorem dX12_glimpse_55 : decode cX12_glimpse 55 = .ok (.getfield 17, 3) := by decide +kernel
theorem dX12_glimpse_58 : decode cX12_glimpse 58 = .ok (.bipush 107, 2) := by decide +kernel
theorem dX12_glimpse_60 : decode cX12_glimpse 60 = .ok (.iaload, 1) := by decide +kernel
theorem dX12_glimpse_61 : decode cX12_glimpse 61 = .ok (.imul, 1) := by decide +kernel
theorem dX12_glimpse_62 : decode cX12_glimpse 62 = .ok (.iadd, 1) := by decide +kernel
theorem dX12_glimpse_63 : decode cX12_glimpse 63 = .ok (.istore 4, 2) := by decide +kernel
theorem dX12_glimpse_65 : decode cX12_glimpse 65 = .ok (.aload_n 0, 1) := by decide +kernel
theorem dX12_glimpse_66 : decode cX12_glimpse 66 = .ok (.getfield 17, 3) := by decide +kernel
theorem dX12_glimpse_69 : decode cX12_glimpse 69 = .ok (.iload 4, 2) := by decide +kernel
theorem dX12_glimpse_71 : decode cX12_glimpse 71 = .ok (.iload_n 1, 1) := by decide +kernel
theorem dX12_glimpse_72 : decode cX12_glimpse 72 = .ok (.iastore, 1) := by decide +kernel
theorem dX12_glimpse_73 : decode cX12_glimpse 73 = .ok (.aload_n 0, 1) := by decide +kernel
theorem dX12_glimpse_74 : decode cX12_glimpse 74 = .ok (.getfield 17, 3) := by decide +kernel
theorem dX12_glimpse_77 : decode cX12_glimpse 77 = .ok (.iload 4, 2) := by decide +kernel
theorem dX12_glimpse_79 : decode cX12_glimpse 79 = .ok (.iconst 1, 1) := by decide +kernel
theorem dX12_glimpse_80 : decode cX12_glimpse 80 = .ok (.iadd, 1) := by decide +kernel
theorem dX12_glimpse_81 : decode cX12_glimpse 81 = .ok (.iload_n 2, 1) := by decide +kernel
theorem dX12_glimpse_82 : decode cX12_glimpse 82 = .ok (.iastore, 1) := by decide +kernel
theorem dX12_glimpse_83 : decode cX12_glimpse 83 = .ok (.aload_n 0, 1) := by decide +kernel
theorem dX12_glimpse_84 : decode cX12_glimpse 84 = .ok (.getfield 17, 3) := by decide +kernel
theorem dX12_glimpse_87 : decode cX12_glimpse 87 = .ok (.iload 4, 2) := by decide +kernel
theorem dX12_glimpse_89 : decode cX12_glimpse 89 = .ok (.iconst 2, 1) := by decide +kernel
theorem dX12_glimpse_90 : decode cX12_glimpse 90 = .ok (.iadd, 1) := by decide +kernel
theorem dX12_glimpse_91 : decode cX12_glimpse 91 = .ok (.iload_n 3, 1) := by decide +kernel
theorem dX12_glimpse_92 : decode cX12_glimpse 92 = .ok (.iastore, 1) := by decide +kernel
theorem dX12_glimpse_93 : decode cX12_glimpse 93 = .ok (.aload_n 0, 1) := by decide +kernel
theorem dX12_glimpse_94 : decode cX12_glimpse 94 = .ok (.getfield 17, 3) := by decide +kernel
theorem dX12_glimpse_97 : decode cX12_glimpse 97 = .ok (.bipush 107, 2) := by decide +kernel
theorem dX12_glimpse_99 : decode cX12_glimpse 99 = .ok (.dup2, 1) := by decide +kernel
theorem dX12_glimpse_100 : decode cX12_glimpse 100 = .ok (.iaload, 1) := by decide +kernel
theorem dX12_glimpse_101 : decode cX12_glimpse 101 = .ok (.iconst 1, 1) := by decide +kernel
theorem dX12_glimpse_102 : decode cX12_glimpse 102 = .ok (.iadd, 1) := by decide +kernel
theorem dX12_glimpse_103 : decode cX12_glimpse 103 = .ok (.iastore, 1) := by decide +kernel
theorem dX12_glimpse_104 : decode cX12_glimpse 104 = .ok (.aload_n 0, 1) := by decide +kernel
theorem dX12_glimpse_105 : decode cX12_glimpse 105 = .ok (.getfield 17, 3) := by decide +kernel
theorem dX12_glimpse_108 : decode cX12_glimpse 108 = .ok (.bipush 107, 2) := by decide +kernel
theorem dX12_glimpse_110 : decode cX12_glimpse 110 = .ok (.iaload, 1) := by decide +kernel
theorem dX12_glimpse_111 : decode cX12_glimpse 111 = .ok (.ireturn, 1) := by decide +kernel
theorem dX12_canBe_0 : decode cX12_canBe 0 = .ok (.iconst 1, 1) := by decide +kernel
theorem dX12_canBe_1 : decode cX12_canBe 1 = .ok (.istore_n 3, 1) := by decide +kernel
theorem dX12_canBe_2 : decode cX12_canBe 2 = .ok (.iconst 0, 1) := by decide +kernel
theorem dX12_canBe_3 : decode cX12_canBe 3 = .ok (.istore 4, 2) := by decide +kernel
theorem dX12_canBe_5 : decode cX12_canBe 5 = .ok (.iload 4, 2) := by decide +kernel
theorem dX12_canBe_7 : decode cX12_canBe 7 = .ok (.aload_n 0, 1) := by decide +kernel
theorem dX12_canBe_8 : decode cX12_canBe 8 = .ok (.getfield 17, 3) := by decide +kernel
theorem dX12_canBe_11 : decode cX12_canBe 11 = .ok (.bipush 107, 2) := by decide +kernel
theorem dX12_canBe_13 : decode cX12_canBe 13 = .ok (.iaload, 1) := by decide +kernel
theorem dX12_canBe_14 : decode cX12_canBe 14 = .ok (.if_icmp .ge 78, 3) := by decide +kernel
theorem dX12_canBe_17 : decode cX12_canBe 17 = .ok (.bipush 108, 2) := by decide +kernel
theorem dX12_canBe_19 : decode cX12_canBe 19 = .ok (.iconst 3, 1) := by decide +kernel
theorem dX12_canBe_20 : decode cX12_canBe 20 = .ok (.iload 4, 2) := by decide +kernel
theorem dX12_canBe_22 : decode cX12_canBe 22 = .ok (.imul, 1) := by decide +kernel
theorem dX12_canBe_23 : decode cX12_canBe 23 = .ok (.iadd, 1) := by decide +kernel
theorem dX12_canBe_24 : decode cX12_canBe 24 = .ok (.istore 5, 2) := by decide +kernel
theorem dX12_canBe_26 : decode cX12_canBe 26 = .ok (.iload_n 3, 1) := by decide +kernel
theorem dX12_canBe_27 : decode cX12_canBe 27 = .ok (.ifCond .eq 57, 3) := by decide +kernel
theorem dX12_canBe_30 : decode cX12_canBe 30 = .ok (.aload_n 0, 1) := by decide +kernel
theorem dX12_canBe_31 : decode cX12_canBe 31 = .ok (.getfield 17, 3) := by decide +kernel
theorem dX12_canBe_34 : decode cX12_canBe 34 = .ok (.iload 5, 2) := by decide +kernel
theorem dX12_canBe_36 : decode cX12_canBe 36 = .ok (.iaload, 1) := by decide +kernel
theorem dX12_canBe_37 : decode cX12_canBe 37 = .ok (.iload_n 1, 1) := by decide +kernel
theorem dX12_canBe_38 : decode cX12_canBe 38 = .ok (.if_icmp .ne 42, 3) := by decide +kernel
theorem dX12_canBe_41 : decode cX12_canBe 41 = .ok (.aload_n 0, 1) := by decide +kernel
theorem dX12_canBe_42 : decode cX12_canBe 42 = .ok (.getfield 17, 3) := by decide +kernel
theorem dX12_canBe_45 : decode cX12_canBe 45 = .ok (.iload 5, 2) := by decide +kernel
theorem dX12_canBe_47 : decode cX12_canBe 47 = .ok (.iconst 1, 1) := by decide +kernel
theorem dX12_canBe_48 : decode cX12_canBe 48 = .ok (.iadd, 1) := by decide +kernel
theorem dX12_canBe_49 : decode cX12_canBe 49 = .ok (.iaload, 1) := by decide +kernel
theorem dX12_canBe_50 : decode cX12_canBe 50 = .ok (.iload_n 2, 1) := by decide +kernel
theorem dX12_canBe_51 : decode cX12_canBe 51 = .ok (.if_icmp .ne 7, 3) := by decide +kernel
theorem dX12_canBe_54 : decode cX12_canBe 54 = .ok (.iconst 1, 1) := by decide +kernel
theorem dX12_canBe_55 : decode cX12_canBe 55 = .ok (.goto 4, 3) := by decide +kernel
theorem dX12_canBe_58 : decode cX12_canBe 58 = .ok (.iconst 0, 1) := by decide +kernel
theorem dX12_canBe_59 : decode cX12_canBe 59 = .ok (.aload_n 0, 1) := by decide +kernel
theorem dX12_canBe_60 : decode cX12_canBe 60 = .ok (.getfield 17, 3) := by decide +kernel
theorem dX12_canBe_63 : decode cX12_canBe 63 = .ok (.iload 5, 2) := by decide +kernel
theorem dX12_canBe_65 : decode cX12_canBe 65 = .ok (.iconst 2, 1) := by decide +kernel
theorem dX12_canBe_66 : decode cX12_canBe 66 = .ok (.iadd, 1) := by decide +kernel
theorem dX12_canBe_67 : decode cX12_canBe 67 = .ok (.iaload, 1) := by decide +kernel
theorem dX12_canBe_68 : decode cX12_canBe 68 = .ok (.iconst 1, 1) := by decide +kernel
theorem dX12_canBe_69 : decode cX12_canBe 69 = .ok (.if_icmp .ne 7, 3) := by decide +kernel
theorem dX12_canBe_72 : decode cX12_canBe 72 = .ok (.iconst 1, 1) := by decide +kernel
theorem dX12_canBe_73 : decode cX12_canBe 73 = .ok (.goto 4, 3) := by decide +kernel
theorem dX12_canBe_76 : decode cX12_canBe 76 = .ok (.iconst 0, 1) := by decide +kernel
theorem dX12_canBe_77 : decode cX12_canBe 77 = .ok (.if_icmp .ne 7, 3) := by decide +kernel
theorem dX12_canBe_80 : decode cX12_canBe 80 = .ok (.iconst 1, 1) := by decide +kernel
theorem dX12_canBe_81 : decode cX12_canBe 81 = .ok (.goto 4, 3) := by decide +kernel
theorem dX12_canBe_84 : decode cX12_canBe 84 = .ok (.iconst 0, 1) := by decide +kernel
theorem dX12_canBe_85 : decode cX12_canBe 85 = .ok (.istore_n 3, 1) := by decide +kernel
theorem dX12_canBe_86 : decode cX12_canBe 86 = .ok (.iinc 4 1, 3) := by decide +kernel
theorem dX12_canBe_89 : decode cX12_canBe 89 = .ok (.goto (-84), 3) := by decide +kernel
theorem dX12_canBe_92 : decode cX12_canBe 92 = .ok (.iload_n 3, 1) := by decide +kernel
theorem dX12_canBe_93 : decode cX12_canBe 93 = .ok (.ireturn, 1) := by decide +kernel
theorem dX12_isBeside_0 : decode cX12_isBeside 0 = .ok (.iload_n 0, 1) := by decide +kernel
theorem dX12_isBeside_1 : decode cX12_isBeside 1 = .ok (.iconst 3, 1) := by decide +kernel
theorem dX12_isBeside_2 : decode cX12_isBeside 2 = .ok (.idiv, 1) := by decide +kernel
theorem dX12_isBeside_3 : decode cX12_isBeside 3 = .ok (.iload_n 1, 1) := by decide +kernel
theorem dX12_isBeside_4 : decode cX12_isBeside 4 = .ok (.iconst 3, 1) := by decide +kernel
theorem dX12_isBeside_5 : decode cX12_isBeside 5 = .ok (.idiv, 1) := by decide +kernel
theorem dX12_isBeside_6 : decode cX12_isBeside 6 = .ok (.isub, 1) := by decide +kernel
theorem dX12_isBeside_7 : decode cX12_isBeside 7 = .ok (.istore_n 2, 1) := by decide +kernel
theorem dX12_isBeside_8 : decode cX12_isBeside 8 = .ok (.iload_n 0, 1) := by decide +kernel
theorem dX12_isBeside_9 : decode cX12_isBeside 9 = .ok (.iconst 3, 1) := by decide +kernel
theorem dX12_isBeside_10 : decode cX12_isBeside 10 = .ok (.irem, 1) := by decide +kernel
theorem dX12_isBeside_11 : decode cX12_isBeside 11 = .ok (.iload_n 1, 1) := by decide +kernel
theorem dX12_isBeside_12 : decode cX12_isBeside 12 = .ok (.iconst 3, 1) := by decide +kernel
theorem dX12_isBeside_13 : decode cX12_isBeside 13 = .ok (.irem, 1) := by decide +kernel
theorem dX12_isBeside_14 : decode cX12_isBeside 14 = .ok (.isub, 1) := by decide +kernel
theorem dX12_isBeside_15 : decode cX12_isBeside 15 = .ok (.istore_n 3, 1) := by decide +kernel
theorem dX12_isBeside_16 : decode cX12_isBeside 16 = .ok (.iload_n 2, 1) := by decide +kernel
theorem dX12_isBeside_17 : decode cX12_isBeside 17 = .ok (.iload_n 2, 1) := by decide +kernel
theorem dX12_isBeside_18 : decode cX12_isBeside 18 = .ok (.imul, 1) := by decide +kernel
theorem dX12_isBeside_19 : decode cX12_isBeside 19 = .ok (.iload_n 3, 1) := by decide +kernel
theorem dX12_isBeside_20 : decode cX12_isBeside 20 = .ok (.iload_n 3, 1) := by decide +kernel
theorem dX12_isBeside_21 : decode cX12_isBeside 21 = .ok (.imul, 1) := by decide +kernel
theorem dX12_isBeside_22 : decode cX12_isBeside 22 = .ok (.iadd, 1) := by decide +kernel
theorem dX12_isBeside_23 : decode cX12_isBeside 23 = .ok (.iconst 1, 1) := by decide +kernel
theorem dX12_isBeside_24 : decode cX12_isBeside 24 = .ok (.if_icmp .gt 7, 3) := by decide +kernel
theorem dX12_isBeside_27 : decode cX12_isBeside 27 = .ok (.iconst 1, 1) := by decide +kernel
theorem dX12_isBeside_28 : decode cX12_isBeside 28 = .ok (.goto 4, 3) := by decide +kernel
theorem dX12_isBeside_31 : decode cX12_isBeside 31 = .ok (.iconst 0, 1) := by decide +kernel
theorem dX12_isBeside_32 : decode cX12_isBeside 32 = .ok (.ireturn, 1) := by decide +kernel
set_option maxRecDepth 20000 in
theorem ggX12_layWalks_X12_isBeside : GoodIn wsX12_layWalks wsX12_isBeside := goodIn_r _ [6] (by decide +kernel) (by decide +kernel)
set_option maxRecDepth 20000 in
theorem gX12_layWalks_X12_isBeside : GoodIn wsX12_layWalks (va_wsS RX12 207 yX12_isBeside wsX12_isBeside) := goodIn_app (goodIn_of _ (by decide +kernel)) ggX12_layWalks_X12_isBeside
set_option maxRecDepth 20000 in
theorem ggX12_layWalks_X12_canBe : GoodIn wsX12_layWalks wsX12_canBe := goodIn_r _ [10, 11, 12, 13, 14, 15, 16, 17, 18, 19, 20, 21, 22, 23, 24, 25, 26, 27, 28, 29, 30, 31, 32, 33, 34, 35, 36] (by decide +kernel) (by decide +kernel)
set_option maxRecDepth 20000 in
theorem gX12_layWalks_X12_canBe : GoodIn wsX12_layWalks (wsV RX12 210 RX12 yX12_canBe wsX12_canBe) := goodIn_app (goodIn_of _ (by decide +kernel)) ggX12_layWalks_X12_canBe
theorem dX12_layWalks_0 : decode cX12_layWalks 0 = .ok (.iconst 0, 1) := by decide +kernel
theorem dX12_layWalks_1 : decode cX12_layWalks 1 = .ok (.istore_n 1, 1) := by decide +kernel
theorem dX12_layWalks_2 : decode cX12_layWalks 2 = .ok (.iload_n 1, 1) := by decide +kernel
theorem dX12_layWalks_3 : decode cX12_layWalks 3 = .ok (.bipush 12, 2) := by decide +kernel
theorem dX12_layWalks_5 : decode cX12_layWalks 5 = .ok (.if_icmp .ge 108, 3) := by decide +kernel
theorem dX12_layWalks_8 : decode cX12_layWalks 8 = .ok (.iconst 0, 1) := by decide +kernel
theorem dX12_layWalks_9 : decode cX12_layWalks 9 = .ok (.istore_n 2, 1) := by decide +kernel
theorem dX12_layWalks_10 : decode cX12_layWalks 10 = .ok (.iload_n 2, 1) := by decide +kernel
theorem dX12_layWalks_11 : decode cX12_layWalks 11 = .ok (.bipush 9, 2) := by decide +kernel
theorem dX12_layWalks_13 : decode cX12_layWalks 13 = .ok (.if_icmp .ge 94, 3) := by decide +kernel
theorem dX12_layWalks_16 : decode cX12_layWalks 16 = .ok (.iload_n 1, 1) := by decide +kernel
theorem dX12_layWalks_17 : decode cX12_layWalks 17 = .ok (.ifCond .ne 7, 3) := by decide +kernel
theorem dX12_layWalks_20 : decode cX12_layWalks 20 = .ok (.lconst 1, 1) := by decide +kernel
theorem dX12_layWalks_21 : decode cX12_layWalks 21 = .ok (.goto 4, 3) := by decide +kernel
theorem dX12_layWalks_24 : decode cX12_layWalks 24 = .ok (.lconst 0, 1) := by decide +kernel
theorem dX12_layWalks_25 : decode cX12_layWalks 25 = .ok (.lstore_n 3, 1) := by decide +kernel
theorem dX12_layWalks_26 : decode cX12_layWalks 26 = .ok (.iconst 0, 1) := by decide +kernel
theorem dX12_layWalks_27 : decode cX12_layWalks 27 = .ok (.istore 5, 2) := by decide +kernel
theorem dX12_layWalks_29 : decode cX12_layWalks 29 = .ok (.iload 5, 2) := by decide +kernel
theorem dX12_layWalks_31 : decode cX12_layWalks 31 = .ok (.bipush 9, 2) := by decide +kernel
theorem dX12_layWalks_33 : decode cX12_layWalks 33 = .ok (.if_icmp .ge 43, 3) := by decide +kernel
theorem dX12_layWalks_36 : decode cX12_layWalks 36 = .ok (.iload_n 1, 1) := by decide +kernel
theorem dX12_layWalks_37 : decode cX12_layWalks 37 = .ok (.ifCond .le 39, 3) := by decide +kernel
theorem dX12_layWalks_40 : decode cX12_layWalks 40 = .ok (.lload_n 3, 1) := by decide +kernel
theorem dX12_layWalks_41 : decode cX12_layWalks 41 = .ok (.iload 5, 2) := by decide +kernel
theorem dX12_layWalks_43 : decode cX12_layWalks 43 = .ok (.iload_n 2, 1) := by decide +kernel
theorem dX12_layWalks_44 : decode cX12_layWalks 44 = .ok (.invokestatic 207, 3) := by decide +kernel
theorem dX12_layWalks_47 : decode cX12_layWalks 47 = .ok (.ifCond .eq 20, 3) := by decide +kernel
theorem dX12_layWalks_50 : decode cX12_layWalks 50 = .ok (.aload_n 0, 1) := by decide +kernel
theorem dX12_layWalks_51 : decode cX12_layWalks 51 = .ok (.getfield 50, 3) := by decide +kernel
theorem dX12_layWalks_54 : decode cX12_layWalks 54 = .ok (.bipush 9, 2) := by decide +kernel
theorem dX12_layWalks_56 : decode cX12_layWalks 56 = .ok (.iload_n 1, 1) := by decide +kernel
theorem dX12_layWalks_57 : decode cX12_layWalks 57 = .ok (.iconst 1, 1) := by decide +kernel
theorem dX12_layWalks_58 : decode cX12_layWalks 58 = .ok (.isub, 1) := by decide +kernel
theorem dX12_layWalks_59 : decode cX12_layWalks 59 = .ok (.imul, 1) := by decide +kernel
theorem dX12_layWalks_60 : decode cX12_layWalks 60 = .ok (.iload 5, 2) := by decide +kernel
theorem dX12_layWalks_62 : decode cX12_layWalks 62 = .ok (.iadd, 1) := by decide +kernel
theorem dX12_layWalks_63 : decode cX12_layWalks 63 = .ok (.laload, 1) := by decide +kernel
theorem dX12_layWalks_64 : decode cX12_layWalks 64 = .ok (.goto 4, 3) := by decide +kernel
theorem dX12_layWalks_67 : decode cX12_layWalks 67 = .ok (.lconst 0, 1) := by decide +kernel
theorem dX12_layWalks_68 : decode cX12_layWalks 68 = .ok (.ladd, 1) := by decide +kernel
theorem dX12_layWalks_69 : decode cX12_layWalks 69 = .ok (.lstore_n 3, 1) := by decide +kernel
theorem dX12_layWalks_70 : decode cX12_layWalks 70 = .ok (.iinc 5 1, 3) := by decide +kernel
theorem dX12_layWalks_73 : decode cX12_layWalks 73 = .ok (.goto (-44), 3) := by decide +kernel
theorem dX12_layWalks_76 : decode cX12_layWalks 76 = .ok (.aload_n 0, 1) := by decide +kernel
theorem dX12_layWalks_77 : decode cX12_layWalks 77 = .ok (.getfield 50, 3) := by decide +kernel
theorem dX12_layWalks_80 : decode cX12_layWalks 80 = .ok (.bipush 9, 2) := by decide +kernel
theorem dX12_layWalks_82 : decode cX12_layWalks 82 = .ok (.iload_n 1, 1) := by decide +kernel
theorem dX12_layWalks_83 : decode cX12_layWalks 83 = .ok (.imul, 1) := by decide +kernel
theorem dX12_layWalks_84 : decode cX12_layWalks 84 = .ok (.iload_n 2, 1) := by decide +kernel
theorem dX12_layWalks_85 : decode cX12_layWalks 85 = .ok (.iadd, 1) := by decide +kernel
theorem dX12_layWalks_86 : decode cX12_layWalks 86 = .ok (.aload_n 0, 1) := by decide +kernel
theorem dX12_layWalks_87 : decode cX12_layWalks 87 = .ok (.iload_n 1, 1) := by decide +kernel
theorem dX12_layWalks_88 : decode cX12_layWalks 88 = .ok (.iload_n 2, 1) := by decide +kernel
theorem dX12_layWalks_89 : decode cX12_layWalks 89 = .ok (.invokevirtual 210, 3) := by decide +kernel
theorem dX12_layWalks_92 : decode cX12_layWalks 92 = .ok (.ifCond .eq 7, 3) := by decide +kernel
theorem dX12_layWalks_95 : decode cX12_layWalks 95 = .ok (.lload_n 3, 1) := by decide +kernel
theorem dX12_layWalks_96 : decode cX12_layWalks 96 = .ok (.goto 4, 3) := by decide +kernel
theorem dX12_layWalks_99 : decode cX12_layWalks 99 = .ok (.lconst 0, 1) := by decide +kernel
theorem dX12_layWalks_100 : decode cX12_layWalks 100 = .ok (.lastore, 1) := by decide +kernel
theorem dX12_layWalks_101 : decode cX12_layWalks 101 = .ok (.iinc 2 1, 3) := by decide +kernel
theorem dX12_layWalks_104 : decode cX12_layWalks 104 = .ok (.goto (-94), 3) := by decide +kernel
theorem dX12_layWalks_107 : decode cX12_layWalks 107 = .ok (.iinc 1 1, 3) := by decide +kernel
theorem dX12_layWalks_110 : decode cX12_layWalks 110 = .ok (.goto (-108), 3) := by decide +kernel
theorem dX12_layWalks_113 : decode cX12_layWalks 113 = .ok (.bipush 11, 2) := by decide +kernel
theorem dX12_layWalks_115 : decode cX12_layWalks 115 = .ok (.istore_n 1, 1) := by decide +kernel
theorem dX12_layWalks_116 : decode cX12_layWalks 116 = .ok (.iload_n 1, 1) := by decide +kernel
theorem dX12_layWalks_117 : decode cX12_layWalks 117 = .ok (.ifCond .lt 112, 3) := by decide +kernel
theorem dX12_layWalks_120 : decode cX12_layWalks 120 = .ok (.iconst 0, 1) := by decide +kernel
theorem dX12_layWalks_121 : decode cX12_layWalks 121 = .ok (.istore_n 2, 1) := by decide +kernel
theorem dX12_layWalks_122 : decode cX12_layWalks 122 = .ok (.iload_n 2, 1) := by decide +kernel
theorem dX12_layWalks_123 : decode cX12_layWalks 123 = .ok (.bipush 9, 2) := by decide +kernel
theorem dX12_layWalks_125 : decode cX12_layWalks 125 = .ok (.if_icmp .ge 98, 3) := by decide +kernel
theorem dX12_layWalks_128 : decode cX12_layWalks 128 = .ok (.iload_n 1, 1) := by decide +kernel
theorem dX12_layWalks_129 : decode cX12_layWalks 129 = .ok (.bipush 11, 2) := by decide +kernel
theorem dX12_layWalks_131 : decode cX12_layWalks 131 = .ok (.if_icmp .ne 7, 3) := by decide +kernel
theorem dX12_layWalks_134 : decode cX12_layWalks 134 = .ok (.lconst 1, 1) := by decide +kernel
theorem dX12_layWalks_135 : decode cX12_layWalks 135 = .ok (.goto 4, 3) := by decide +kernel
theorem dX12_layWalks_138 : decode cX12_layWalks 138 = .ok (.lconst 0, 1) := by decide +kernel
theorem dX12_layWalks_139 : decode cX12_layWalks 139 = .ok (.lstore_n 3, 1) := by decide +kernel
theorem dX12_layWalks_140 : decode cX12_layWalks 140 = .ok (.iconst 0, 1) := by decide +kernel
theorem dX12_layWalks_141 : decode cX12_layWalks 141 = .ok (.istore 5, 2) := by decide +kernel
theorem dX12_layWalks_143 : decode cX12_layWalks 143 = .ok (.iload 5, 2) := by decide +kernel
theorem dX12_layWalks_145 : decode cX12_layWalks 145 = .ok (.bipush 9, 2) := by decide +kernel
theorem dX12_layWalks_147 : decode cX12_layWalks 147 = .ok (.if_icmp .ge 45, 3) := by decide +kernel
theorem dX12_layWalks_150 : decode cX12_layWalks 150 = .ok (.iload_n 1, 1) := by decide +kernel
theorem dX12_layWalks_151 : decode cX12_layWalks 151 = .ok (.bipush 11, 2) := by decide +kernel
theorem dX12_layWalks_153 : decode cX12_layWalks 153 = .ok (.if_icmp .ge 39, 3) := by decide +kernel
theorem dX12_layWalks_156 : decode cX12_layWalks 156 = .ok (.lload_n 3, 1) := by decide +kernel
theorem dX12_layWalks_157 : decode cX12_layWalks 157 = .ok (.iload_n 2, 1) := by decide +kernel
theorem dX12_layWalks_158 : decode cX12_layWalks 158 = .ok (.iload 5, 2) := by decide +kernel
theorem dX12_layWalks_160 : decode cX12_layWalks 160 = .ok (.invokestatic 207, 3) := by decide +kernel
theorem dX12_layWalks_163 : decode cX12_layWalks 163 = .ok (.ifCond .eq 20, 3) := by decide +kernel
theorem dX12_layWalks_166 : decode cX12_layWalks 166 = .ok (.aload_n 0, 1) := by decide +kernel
theorem dX12_layWalks_167 : decode cX12_layWalks 167 = .ok (.getfield 54, 3) := by decide +kernel
theorem dX12_layWalks_170 : decode cX12_layWalks 170 = .ok (.bipush 9, 2) := by decide +kernel
theorem dX12_layWalks_172 : decode cX12_layWalks 172 = .ok (.iload_n 1, 1) := by decide +kernel
theorem dX12_layWalks_173 : decode cX12_layWalks 173 = .ok (.iconst 1, 1) := by decide +kernel
theorem dX12_layWalks_174 : decode cX12_layWalks 174 = .ok (.iadd, 1) := by decide +kernel
theorem dX12_layWalks_175 : decode cX12_layWalks 175 = .ok (.imul, 1) := by decide +kernel
theorem dX12_layWalks_176 : decode cX12_layWalks 176 = .ok (.iload 5, 2) := by decide +kernel
theorem dX12_layWalks_178 : decode cX12_layWalks 178 = .ok (.iadd, 1) := by decide +kernel
theorem dX12_layWalks_179 : decode cX12_layWalks 179 = .ok (.laload, 1) := by decide +kernel
theorem dX12_layWalks_180 : decode cX12_layWalks 180 = .ok (.goto 4, 3) := by decide +kernel
theorem dX12_layWalks_183 : decode cX12_layWalks 183 = .ok (.lconst 0, 1) := by decide +kernel
theorem dX12_layWalks_184 : decode cX12_layWalks 184 = .ok (.ladd, 1) := by decide +kernel
theorem dX12_layWalks_185 : decode cX12_layWalks 185 = .ok (.lstore_n 3, 1) := by decide +kernel
theorem dX12_layWalks_186 : decode cX12_layWalks 186 = .ok (.iinc 5 1, 3) := by decide +kernel
theorem dX12_layWalks_189 : decode cX12_layWalks 189 = .ok (.goto (-46), 3) := by decide +kernel
theorem dX12_layWalks_192 : decode cX12_layWalks 192 = .ok (.aload_n 0, 1) := by decide +kernel
theorem dX12_layWalks_193 : decode cX12_layWalks 193 = .ok (.getfield 54, 3) := by decide +kernel
theorem dX12_layWalks_196 : decode cX12_layWalks 196 = .ok (.bipush 9, 2) := by decide +kernel
theorem dX12_layWalks_198 : decode cX12_layWalks 198 = .ok (.iload_n 1, 1) := by decide +kernel
theorem dX12_layWalks_199 : decode cX12_layWalks 199 = .ok (.imul, 1) := by decide +kernel
theorem dX12_layWalks_200 : decode cX12_layWalks 200 = .ok (.iload_n 2, 1) := by decide +kernel
theorem dX12_layWalks_201 : decode cX12_layWalks 201 = .ok (.iadd, 1) := by decide +kernel
theorem dX12_layWalks_202 : decode cX12_layWalks 202 = .ok (.aload_n 0, 1) := by decide +kernel
theorem dX12_layWalks_203 : decode cX12_layWalks 203 = .ok (.iload_n 1, 1) := by decide +kernel
theorem dX12_layWalks_204 : decode cX12_layWalks 204 = .ok (.iload_n 2, 1) := by decide +kernel
theorem dX12_layWalks_205 : decode cX12_layWalks 205 = .ok (.invokevirtual 210, 3) := by decide +kernel
theorem dX12_layWalks_208 : decode cX12_layWalks 208 = .ok (.ifCond .eq 7, 3) := by decide +kernel
theorem dX12_layWalks_211 : decode cX12_layWalks 211 = .ok (.lload_n 3, 1) := by decide +kernel
theorem dX12_layWalks_212 : decode cX12_layWalks 212 = .ok (.goto 4, 3) := by decide +kernel
theorem dX12_layWalks_215 : decode cX12_layWalks 215 = .ok (.lconst 0, 1) := by decide +kernel
theorem dX12_layWalks_216 : decode cX12_layWalks 216 = .ok (.lastore, 1) := by decide +kernel
theorem dX12_layWalks_217 : decode cX12_layWalks 217 = .ok (.iinc 2 1, 3) := by decide +kernel
theorem dX12_layWalks_220 : decode cX12_layWalks 220 = .ok (.goto (-98), 3) := by decide +kernel
theorem dX12_layWalks_223 : decode cX12_layWalks 223 = .ok (.iinc 1 (-1), 3) := by decide +kernel
theorem dX12_layWalks_226 : decode cX12_layWalks 226 = .ok (.goto (-110), 3) := by decide +kernel
theorem dX12_layWalks_229 : decode cX12_layWalks 229 = .ok (.return_, 1) := by decide +kernel
set_option maxRecDepth 20000 in
theorem ggX12_walks_X12_layWalks : GoodIn wsX12_walks wsX12_layWalks := goodIn_r _ [6, 7, 1, 8, 9, 5, 10, 11, 12, 13, 14, 15, 16, 17, 18, 19, 20, 21, 22, 23, 24, 25, 26, 27, 28, 29, 30, 31, 32, 33, 34, 35, 36, 37, 38, 39, 40] (by decide +kernel) (by decide +kernel)
set_option maxRecDepth 20000 in
theorem gX12_walks_X12_layWalks : GoodIn wsX12_walks (wsV RX12 213 RX12 yX12_layWalks wsX12_layWalks) := goodIn_app (goodIn_of _ (by decide +kernel)) ggX12_walks_X12_layWalks
theorem dX12_walks_0 : decode cX12_walks 0 = .ok (.aload_n 0, 1) := by decide +kernel
theorem dX12_walks_1 : decode cX12_walks 1 = .ok (.invokevirtual 213, 3) := by decide +kernel
theorem dX12_walks_4 : decode cX12_walks 4 = .ok (.lconst 0, 1) := by decide +kernel
theorem dX12_walks_5 : decode cX12_walks 5 = .ok (.lstore_n 1, 1) := by decide +kernel
theorem dX12_walks_6 : decode cX12_walks 6 = .ok (.iconst 0, 1) := by decide +kernel
theorem dX12_walks_7 : decode cX12_walks 7 = .ok (.istore_n 3, 1) := by decide +kernel
theorem dX12_walks_8 : decode cX12_walks 8 = .ok (.iload_n 3, 1) := by decide +kernel
theorem dX12_walks_9 : decode cX12_walks 9 = .ok (.bipush 9, 2) := by decide +kernel
theorem dX12_walks_11 : decode cX12_walks 11 = .ok (.if_icmp .ge 18, 3) := by decide +kernel
theorem dX12_walks_14 : decode cX12_walks 14 = .ok (.lload_n 1, 1) := by decide +kernel
theorem dX12_walks_15 : decode cX12_walks 15 = .ok (.aload_n 0, 1) := by decide +kernel
theorem dX12_walks_16 : decode cX12_walks 16 = .ok (.getfield 54, 3) := by decide +kernel
theorem dX12_walks_19 : decode cX12_walks 19 = .ok (.iload_n 3, 1) := by decide +kernel
theorem dX12_walks_20 : decode cX12_walks 20 = .ok (.laload, 1) := by decide +kernel
theorem dX12_walks_21 : decode cX12_walks 21 = .ok (.ladd, 1) := by decide +kernel
theorem dX12_walks_22 : decode cX12_walks 22 = .ok (.lstore_n 1, 1) := by decide +kernel
theorem dX12_walks_23 : decode cX12_walks 23 = .ok (.iinc 3 1, 3) := by decide +kernel
theorem dX12_walks_26 : decode cX12_walks 26 = .ok (.goto (-18), 3) := by decide +kernel
theorem dX12_walks_29 : decode cX12_walks 29 = .ok (.lload_n 1, 1) := by decide +kernel
theorem dX12_walks_30 : decode cX12_walks 30 = .ok (.lreturn, 1) := by decide +kernel
theorem dX12_placesOf_0 : decode cX12_placesOf 0 = .ok (.iconst 0, 1) := by decide +kernel
theorem dX12_placesOf_1 : decode cX12_placesOf 1 = .ok (.istore_n 2, 1) := by decide +kernel
theorem dX12_placesOf_2 : decode cX12_placesOf 2 = .ok (.iconst 0, 1) := by decide +kernel
theorem dX12_placesOf_3 : decode cX12_placesOf 3 = .ok (.istore_n 3, 1) := by decide +kernel
theorem dX12_placesOf_4 : decode cX12_placesOf 4 = .ok (.iload_n 3, 1) := by decide +kernel
theorem dX12_placesOf_5 : decode cX12_placesOf 5 = .ok (.bipush 9, 2) := by decide +kernel
theorem dX12_placesOf_7 : decode cX12_placesOf 7 = .ok (.if_icmp .ge 51, 3) := by decide +kernel
theorem dX12_placesOf_10 : decode cX12_placesOf 10 = .ok (.iload_n 2, 1) := by decide +kernel
theorem dX12_placesOf_11 : decode cX12_placesOf 11 = .ok (.aload_n 0, 1) := by decide +kernel
theorem dX12_placesOf_12 : decode cX12_placesOf 12 = .ok (.getfield 50, 3) := by decide +kernel
theorem dX12_placesOf_15 : decode cX12_placesOf 15 = .ok (.bipush 9, 2) := by decide +kernel
theorem dX12_placesOf_17 : decode cX12_placesOf 17 = .ok (.iload_n 1, 1) := by decide +kernel
theorem dX12_placesOf_18 : decode cX12_placesOf 18 = .ok (.imul, 1) := by decide +kernel
theorem dX12_placesOf_19 : decode cX12_placesOf 19 = .ok (.iload_n 3, 1) := by decide +kernel
theorem dX12_placesOf_20 : decode cX12_placesOf 20 = .ok (.iadd, 1) := by decide +kernel
theorem dX12_placesOf_21 : decode cX12_placesOf 21 = .ok (.laload, 1) := by decide +kernel
theorem dX12_placesOf_22 : decode cX12_placesOf 22 = .ok (.lconst 0, 1) := by decide +kernel
theorem dX12_placesOf_23 : decode cX12_placesOf 23 = .ok (.lcmp, 1) := by decide +kernel
theorem dX12_placesOf_24 : decode cX12_placesOf 24 = .ok (.ifCond .le 25, 3) := by decide +kernel
theorem dX12_placesOf_27 : decode cX12_placesOf 27 = .ok (.aload_n 0, 1) := by decide +kernel
theorem dX12_placesOf_28 : decode cX12_placesOf 28 = .ok (.getfield 54, 3) := by decide +kernel
theorem dX12_placesOf_31 : decode cX12_placesOf 31 = .ok (.bipush 9, 2) := by decide +kernel
theorem dX12_placesOf_33 : decode cX12_placesOf 33 = .ok (.iload_n 1, 1) := by decide +kernel
theorem dX12_placesOf_34 : decode cX12_placesOf 34 = .ok (.imul, 1) := by decide +kernel
theorem dX12_placesOf_35 : decode cX12_placesOf 35 = .ok (.iload_n 3, 1) := by decide +kernel
theorem dX12_placesOf_36 : decode cX12_placesOf 36 = .ok (.iadd, 1) := by decide +kernel
theorem dX12_placesOf_37 : decode cX12_placesOf 37 = .ok (.laload, 1) := by decide +kernel
theorem dX12_placesOf_38 : decode cX12_placesOf 38 = .ok (.lconst 0, 1) := by decide +kernel
theorem dX12_placesOf_39 : decode cX12_placesOf 39 = .ok (.lcmp, 1) := by decide +kernel
theorem dX12_placesOf_40 : decode cX12_placesOf 40 = .ok (.ifCond .le 9, 3) := by decide +kernel
theorem dX12_placesOf_43 : decode cX12_placesOf 43 = .ok (.iconst 1, 1) := by decide +kernel
theorem dX12_placesOf_44 : decode cX12_placesOf 44 = .ok (.iload_n 3, 1) := by decide +kernel
theorem dX12_placesOf_45 : decode cX12_placesOf 45 = .ok (.ishl, 1) := by decide +kernel
theorem dX12_placesOf_46 : decode cX12_placesOf 46 = .ok (.goto 4, 3) := by decide +kernel
theorem dX12_placesOf_49 : decode cX12_placesOf 49 = .ok (.iconst 0, 1) := by decide +kernel
theorem dX12_placesOf_50 : decode cX12_placesOf 50 = .ok (.ior, 1) := by decide +kernel
theorem dX12_placesOf_51 : decode cX12_placesOf 51 = .ok (.istore_n 2, 1) := by decide +kernel
theorem dX12_placesOf_52 : decode cX12_placesOf 52 = .ok (.iinc 3 1, 3) := by decide +kernel
theorem dX12_placesOf_55 : decode cX12_placesOf 55 = .ok (.goto (-51), 3) := by decide +kernel
theorem dX12_placesOf_58 : decode cX12_placesOf 58 = .ok (.iload_n 2, 1) := by decide +kernel
theorem dX12_placesOf_59 : decode cX12_placesOf 59 = .ok (.ireturn, 1) := by decide +kernel
set_option maxRecDepth 20000 in
theorem ggX12_places_X12_in : GoodIn wsX12_places wsX12_in := goodIn_r _ [4] (by decide +kernel) (by decide +kernel)
set_option maxRecDepth 20000 in
theorem gX12_places_X12_in : GoodIn wsX12_places (va_wsS RX12 68 yX12_in wsX12_in) := goodIn_app (goodIn_of _ (by decide +kernel)) ggX12_places_X12_in
set_option maxRecDepth 20000 in
theorem ggX12_places_X12_bad : GoodIn wsX12_places wsX12_bad := goodIn_r _ [8, 9, 28, 29, 30, 31, 32, 33, 34, 35, 36, 37, 38, 39, 40, 41, 42, 43, 44, 45, 46, 47, 48, 49, 50, 51, 52] (by decide +kernel) (by decide +kernel)
set_option maxRecDepth 20000 in
theorem gX12_places_X12_bad : GoodIn wsX12_places (wsV RX12 72 RX12 yX12_bad wsX12_bad) := goodIn_app (goodIn_of _ (by decide +kernel)) ggX12_places_X12_bad
set_option maxRecDepth 20000 in
theorem ggX12_places_X12_layWalks : GoodIn wsX12_places wsX12_layWalks := goodIn_r _ [13, 14, 15, 16, 17, 3, 18, 19, 20, 21, 22, 23, 28, 29, 30, 31, 32, 33, 34, 35, 36, 37, 38, 39, 40, 41, 42, 43, 44, 45, 46, 47, 48, 49, 50, 51, 52] (by decide +kernel) (by decide +kernel)
set_option maxRecDepth 20000 in
theorem gX12_places_X12_layWalks : GoodIn wsX12_places (wsV RX12 213 RX12 yX12_layWalks wsX12_layWalks) := goodIn_app (goodIn_of _ (by decide +kernel)) ggX12_places_X12_layWalks
set_option maxRecDepth 20000 in
theorem ggX12_places_X12_placesOf : GoodIn wsX12_places wsX12_placesOf := goodIn_r _ [27, 14, 15, 28, 29, 30, 31, 32, 33, 34, 35, 36, 37, 38, 39, 40, 41, 42, 43, 44, 45, 46, 47, 48, 49, 50, 51, 52] (by decide +kernel) (by decide +kernel)
set_option maxRecDepth 20000 in
theorem gX12_places_X12_placesOf : GoodIn wsX12_places (wsV RX12 216 RX12 yX12_placesOf wsX12_placesOf) := goodIn_app (goodIn_of _ (by decide +kernel)) ggX12_places_X12_placesOf
theorem dX12_places_0 : decode cX12_places 0 = .ok (.iload_n 1, 1) := by decide +kernel
theorem dX12_places_1 : decode cX12_places 1 = .ok (.iconst 0, 1) := by decide +kernel
theorem dX12_places_2 : decode cX12_places 2 = .ok (.bipush 11, 2) := by decide +kernel
theorem dX12_places_4 : decode cX12_places 4 = .ok (.invokestatic 68, 3) := by decide +kernel
theorem dX12_places_7 : decode cX12_places 7 = .ok (.ifCond .ne 8, 3) := by decide +kernel
theorem dX12_places_10 : decode cX12_places 10 = .ok (.aload_n 0, 1) := by decide +kernel
theorem dX12_places_11 : decode cX12_places 11 = .ok (.invokevirtual 72, 3) := by decide +kernel
theorem dX12_places_14 : decode cX12_places 14 = .ok (.ireturn, 1) := by decide +kernel
theorem dX12_places_15 : decode cX12_places 15 = .ok (.aload_n 0, 1) := by decide +kernel
theorem dX12_places_16 : decode cX12_places 16 = .ok (.invokevirtual 213, 3) := by decide +kernel
theorem dX12_places_19 : decode cX12_places 19 = .ok (.aload_n 0, 1) := by decide +kernel
theorem dX12_places_20 : decode cX12_places 20 = .ok (.iload_n 1, 1) := by decide +kernel
theorem dX12_places_21 : decode cX12_places 21 = .ok (.invokevirtual 216, 3) := by decide +kernel
theorem dX12_places_24 : decode cX12_places 24 = .ok (.ireturn, 1) := by decide +kernel
set_option maxRecDepth 20000 in
theorem ggX12_leftTo_X12_layWalks : GoodIn wsX12_leftTo wsX12_layWalks := goodIn_r _ [5, 6, 7, 8, 9, 4, 10, 11, 12, 13, 14, 15, 23, 24, 25, 26, 27, 28, 29, 30, 31, 32, 33, 34, 35, 36, 37, 38, 39, 40, 41, 42, 43, 44, 45, 46, 47] (by decide +kernel) (by decide +kernel)
set_option maxRecDepth 20000 in
theorem gX12_leftTo_X12_layWalks : GoodIn wsX12_leftTo (wsV RX12 213 RX12 yX12_layWalks wsX12_layWalks) := goodIn_app (goodIn_of _ (by decide +kernel)) ggX12_leftTo_X12_layWalks
set_option maxRecDepth 20000 in
theorem ggX12_leftTo_X12_placesOf : GoodIn wsX12_leftTo wsX12_placesOf := goodIn_r _ [19, 6, 7, 23, 24, 25, 26, 27, 28, 29, 30, 31, 32, 33, 34, 35, 36, 37, 38, 39, 40, 41, 42, 43, 44, 45, 46, 47] (by decide +kernel) (by decide +kernel)
set_option maxRecDepth 20000 in
theorem gX12_leftTo_X12_placesOf : GoodIn wsX12_leftTo (wsV RX12 216 RX12 yX12_placesOf wsX12_placesOf) := goodIn_app (goodIn_of _ (by decide +kernel)) ggX12_leftTo_X12_placesOf
set_option maxRecDepth 20000 in
theorem ggX12_leftTo_X12_bits : GoodIn wsX12_leftTo wsX12_bits := goodIn_r _ [22] (by decide +kernel) (by decide +kernel)
set_option maxRecDepth 20000 in
theorem gX12_leftTo_X12_bits : GoodIn wsX12_leftTo (va_wsS RX12 219 yX12_bits wsX12_bits) := goodIn_app (goodIn_of _ (by decide +kernel)) ggX12_leftTo_X12_bits
theorem dX12_leftTo_0 : decode cX12_leftTo 0 = .ok (.aload_n 0, 1) := by decide +kernel
theorem dX12_leftTo_1 : decode cX12_leftTo 1 = .ok (.invokevirtual 213, 3) := by decide +kernel
theorem dX12_leftTo_4 : decode cX12_leftTo 4 = .ok (.iconst (-1), 1) := by decide +kernel
theorem dX12_leftTo_5 : decode cX12_leftTo 5 = .ok (.istore_n 1, 1) := by decide +kernel
theorem dX12_leftTo_6 : decode cX12_leftTo 6 = .ok (.iconst 0, 1) := by decide +kernel
theorem dX12_leftTo_7 : decode cX12_leftTo 7 = .ok (.istore_n 2, 1) := by decide +kernel
theorem dX12_leftTo_8 : decode cX12_leftTo 8 = .ok (.iconst 0, 1) := by decide +kernel
theorem dX12_leftTo_9 : decode cX12_leftTo 9 = .ok (.istore_n 3, 1) := by decide +kernel
theorem dX12_leftTo_10 : decode cX12_leftTo 10 = .ok (.iload_n 3, 1) := by decide +kernel
theorem dX12_leftTo_11 : decode cX12_leftTo 11 = .ok (.bipush 12, 2) := by decide +kernel
theorem dX12_leftTo_13 : decode cX12_leftTo 13 = .ok (.if_icmp .ge 44, 3) := by decide +kernel
theorem dX12_leftTo_16 : decode cX12_leftTo 16 = .ok (.aload_n 0, 1) := by decide +kernel
theorem dX12_leftTo_17 : decode cX12_leftTo 17 = .ok (.iload_n 3, 1) := by decide +kernel
theorem dX12_leftTo_18 : decode cX12_leftTo 18 = .ok (.invokevirtual 216, 3) := by decide +kernel
theorem dX12_leftTo_21 : decode cX12_leftTo 21 = .ok (.invokestatic 219, 3) := by decide +kernel
theorem dX12_leftTo_24 : decode cX12_leftTo 24 = .ok (.istore 4, 2) := by decide +kernel
theorem dX12_leftTo_26 : decode cX12_leftTo 26 = .ok (.iload 4, 2) := by decide +kernel
theorem dX12_leftTo_28 : decode cX12_leftTo 28 = .ok (.iload_n 2, 1) := by decide +kernel
theorem dX12_leftTo_29 : decode cX12_leftTo 29 = .ok (.if_icmp .le 7, 3) := by decide +kernel
theorem dX12_leftTo_32 : decode cX12_leftTo 32 = .ok (.iload_n 3, 1) := by decide +kernel
theorem dX12_leftTo_33 : decode cX12_leftTo 33 = .ok (.goto 4, 3) := by decide +kernel
theorem dX12_leftTo_36 : decode cX12_leftTo 36 = .ok (.iload_n 1, 1) := by decide +kernel
theorem dX12_leftTo_37 : decode cX12_leftTo 37 = .ok (.istore_n 1, 1) := by decide +kernel
theorem dX12_leftTo_38 : decode cX12_leftTo 38 = .ok (.iload 4, 2) := by decide +kernel
theorem dX12_leftTo_40 : decode cX12_leftTo 40 = .ok (.iload_n 2, 1) := by decide +kernel
theorem dX12_leftTo_41 : decode cX12_leftTo 41 = .ok (.if_icmp .le 8, 3) := by decide +kernel
theorem dX12_leftTo_44 : decode cX12_leftTo 44 = .ok (.iload 4, 2) := by decide +kernel
theorem dX12_leftTo_46 : decode cX12_leftTo 46 = .ok (.goto 4, 3) := by decide +kernel
theorem dX12_leftTo_49 : decode cX12_leftTo 49 = .ok (.iload_n 2, 1) := by decide +kernel
theorem dX12_leftTo_50 : decode cX12_leftTo 50 = .ok (.istore_n 2, 1) := by decide +kernel
theorem dX12_leftTo_51 : decode cX12_leftTo 51 = .ok (.iinc 3 1, 3) := by decide +kernel
theorem dX12_leftTo_54 : decode cX12_leftTo 54 = .ok (.goto (-44), 3) := by decide +kernel
theorem dX12_leftTo_57 : decode cX12_leftTo 57 = .ok (.iload_n 1, 1) := by decide +kernel
theorem dX12_leftTo_58 : decode cX12_leftTo 58 = .ok (.ireturn, 1) := by decide +kernel
set_option maxRecDepth 20000 in
theorem ggX12_odds_X12_isLump : GoodIn wsX12_odds wsX12_isLump := goodIn_r _ [6, 7, 8, 9, 5, 10, 44, 45, 46, 47, 48, 49, 50, 51, 52, 53, 54, 55, 56, 57, 58, 59, 60, 61, 62, 63, 64, 65, 66, 67, 68] (by decide +kernel) (by decide +kernel)
set_option maxRecDepth 20000 in
theorem gX12_odds_X12_isLump : GoodIn wsX12_odds (wsV RX12 156 RX12 yX12_isLump wsX12_isLump) := goodIn_app (goodIn_of _ (by decide +kernel)) ggX12_odds_X12_isLump
set_option maxRecDepth 20000 in
theorem ggX12_odds_X12_in : GoodIn wsX12_odds wsX12_in := goodIn_r _ [10] (by decide +kernel) (by decide +kernel)
set_option maxRecDepth 20000 in
theorem gX12_odds_X12_in : GoodIn wsX12_odds (va_wsS RX12 68 yX12_in wsX12_in) := goodIn_app (goodIn_of _ (by decide +kernel)) ggX12_odds_X12_in
set_option maxRecDepth 20000 in
theorem ggX12_odds_X12_bad : GoodIn wsX12_odds wsX12_bad := goodIn_r _ [14, 15, 44, 45, 46, 47, 48, 49, 50, 51, 52, 53, 54, 55, 56, 57, 58, 59, 60, 61, 62, 63, 64, 65, 66, 67, 68] (by decide +kernel) (by decide +kernel)
set_option maxRecDepth 20000 in
theorem gX12_odds_X12_bad : GoodIn wsX12_odds (wsV RX12 72 RX12 yX12_bad wsX12_bad) := goodIn_app (goodIn_of _ (by decide +kernel)) ggX12_odds_X12_bad
set_option maxRecDepth 20000 in
theorem ggX12_odds_X12_burns : GoodIn wsX12_odds wsX12_burns := goodIn_r _ [19, 20, 21, 22, 5, 23, 7, 24, 25, 26, 44, 45, 46, 47, 48, 49, 50, 51, 52, 53, 54, 55, 56, 57, 58, 59, 60, 61, 62, 63, 64, 65, 66, 67, 68] (by decide +kernel) (by decide +kernel)
set_option maxRecDepth 20000 in
theorem gX12_odds_X12_burns : GoodIn wsX12_odds (wsV RX12 150 RX12 yX12_burns wsX12_burns) := goodIn_app (goodIn_of _ (by decide +kernel)) ggX12_odds_X12_burns
set_option maxRecDepth 20000 in
theorem ggX12_odds_X12_weatherOf : GoodIn wsX12_odds wsX12_weatherOf := goodIn_r _ [30, 20, 21, 22, 5, 23, 7, 31, 32, 33, 34, 35, 36, 37, 24, 25, 26, 8, 9, 10, 44, 45, 46, 47, 48, 49, 50, 51, 52, 53, 54, 55, 56, 57, 58, 59, 60, 61, 62, 63, 64, 65, 66, 67, 68] (by decide +kernel) (by decide +kernel)
set_option maxRecDepth 20000 in
theorem gX12_odds_X12_weatherOf : GoodIn wsX12_odds (wsV RX12 153 RX12 yX12_weatherOf wsX12_weatherOf) := goodIn_app (goodIn_of _ (by decide +kernel)) ggX12_odds_X12_weatherOf
set_option maxRecDepth 20000 in
theorem ggX12_odds_X12_fraction : GoodIn wsX12_odds wsX12_fraction := goodIn_r _ [41, 42, 43, 44, 45, 46, 47, 48, 49, 50, 51, 52, 53, 54, 55, 56, 57, 58, 59, 60, 61, 62, 63, 64, 65, 66, 67, 68] (by decide +kernel) (by decide +kernel)
set_option maxRecDepth 20000 in
theorem gX12_odds_X12_fraction : GoodIn wsX12_odds (wsV RX12 224 RX12 yX12_fraction wsX12_fraction) := goodIn_app (goodIn_of _ (by decide +kernel)) ggX12_odds_X12_fraction
theorem dX12_odds_0 : decode cX12_odds 0 = .ok (.aload_n 0, 1) := by decide +kernel
theorem dX12_odds_1 : decode cX12_odds 1 = .ok (.iload_n 1, 1) := by decide +kernel
theorem dX12_odds_2 : decode cX12_odds 2 = .ok (.invokevirtual 156, 3) := by decide +kernel
theorem dX12_odds_5 : decode cX12_odds 5 = .ok (.ifCond .eq 22, 3) := by decide +kernel
theorem dX12_odds_8 : decode cX12_odds 8 = .ok (.iload_n 2, 1) := by decide +kernel
theorem dX12_odds_9 : decode cX12_odds 9 = .ok (.iconst 0, 1) := by decide +kernel
theorem dX12_odds_10 : decode cX12_odds 10 = .ok (.iconst 5, 1) := by decide +kernel
theorem dX12_odds_11 : decode cX12_odds 11 = .ok (.invokestatic 68, 3) := by decide +kernel
theorem dX12_odds_14 : decode cX12_odds 14 = .ok (.ifCond .eq 13, 3) := by decide +kernel
theorem dX12_odds_17 : decode cX12_odds 17 = .ok (.iload_n 3, 1) := by decide +kernel
theorem dX12_odds_18 : decode cX12_odds 18 = .ok (.iconst 0, 1) := by decide +kernel
theorem dX12_odds_19 : decode cX12_odds 19 = .ok (.bipush 10, 2) := by decide +kernel
theorem dX12_odds_21 : decode cX12_odds 21 = .ok (.invokestatic 68, 3) := by decide +kernel
theorem dX12_odds_24 : decode cX12_odds 24 = .ok (.ifCond .ne 8, 3) := by decide +kernel
theorem dX12_odds_27 : decode cX12_odds 27 = .ok (.aload_n 0, 1) := by decide +kernel
theorem dX12_odds_28 : decode cX12_odds 28 = .ok (.invokevirtual 72, 3) := by decide +kernel
theorem dX12_odds_31 : decode cX12_odds 31 = .ok (.ireturn, 1) := by decide +kernel
theorem dX12_odds_32 : decode cX12_odds 32 = .ok (.iconst 0, 1) := by decide +kernel
theorem dX12_odds_33 : decode cX12_odds 33 = .ok (.istore 4, 2) := by decide +kernel
theorem dX12_odds_35 : decode cX12_odds 35 = .ok (.iload 4, 2) := by decide +kernel
theorem dX12_odds_37 : decode cX12_odds 37 = .ok (.aload_n 0, 1) := by decide +kernel
theorem dX12_odds_38 : decode cX12_odds 38 = .ok (.iload_n 1, 1) := by decide +kernel
theorem dX12_odds_39 : decode cX12_odds 39 = .ok (.invokevirtual 150, 3) := by decide +kernel
theorem dX12_odds_42 : decode cX12_odds 42 = .ok (.if_icmp .ge 20, 3) := by decide +kernel
theorem dX12_odds_45 : decode cX12_odds 45 = .ok (.aload_n 0, 1) := by decide +kernel
theorem dX12_odds_46 : decode cX12_odds 46 = .ok (.iload_n 1, 1) := by decide +kernel
theorem dX12_odds_47 : decode cX12_odds 47 = .ok (.iload 4, 2) := by decide +kernel
theorem dX12_odds_49 : decode cX12_odds 49 = .ok (.invokevirtual 153, 3) := by decide +kernel
theorem dX12_odds_52 : decode cX12_odds 52 = .ok (.iload_n 2, 1) := by decide +kernel
theorem dX12_odds_53 : decode cX12_odds 53 = .ok (.if_icmp .eq 9, 3) := by decide +kernel
theorem dX12_odds_56 : decode cX12_odds 56 = .ok (.iinc 4 1, 3) := by decide +kernel
theorem dX12_odds_59 : decode cX12_odds 59 = .ok (.goto (-24), 3) := by decide +kernel
theorem dX12_odds_62 : decode cX12_odds 62 = .ok (.iload 4, 2) := by decide +kernel
theorem dX12_odds_64 : decode cX12_odds 64 = .ok (.aload_n 0, 1) := by decide +kernel
theorem dX12_odds_65 : decode cX12_odds 65 = .ok (.iload_n 1, 1) := by decide +kernel
theorem dX12_odds_66 : decode cX12_odds 66 = .ok (.invokevirtual 150, 3) := by decide +kernel
theorem dX12_odds_69 : decode cX12_odds 69 = .ok (.if_icmp .ge 7, 3) := by decide +kernel
theorem dX12_odds_72 : decode cX12_odds 72 = .ok (.lconst 1, 1) := by decide +kernel
theorem dX12_odds_73 : decode cX12_odds 73 = .ok (.goto 4, 3) := by decide +kernel
theorem dX12_odds_76 : decode cX12_odds 76 = .ok (.lconst 0, 1) := by decide +kernel
theorem dX12_odds_77 : decode cX12_odds 77 = .ok (.lstore 5, 2) := by decide +kernel
theorem dX12_odds_79 : decode cX12_odds 79 = .ok (.lconst 1, 1) := by decide +kernel
theorem dX12_odds_80 : decode cX12_odds 80 = .ok (.lstore 7, 2) := by decide +kernel
theorem dX12_odds_82 : decode cX12_odds 82 = .ok (.iconst 0, 1) := by decide +kernel
theorem dX12_odds_83 : decode cX12_odds 83 = .ok (.istore 9, 2) := by decide +kernel
theorem dX12_odds_85 : decode cX12_odds 85 = .ok (.iload 9, 2) := by decide +kernel
theorem dX12_odds_87 : decode cX12_odds 87 = .ok (.iload 4, 2) := by decide +kernel
theorem dX12_odds_89 : decode cX12_odds 89 = .ok (.if_icmp .gt 34, 3) := by decide +kernel
theorem dX12_odds_92 : decode cX12_odds 92 = .ok (.lload 5, 2) := by decide +kernel
theorem dX12_odds_94 : decode cX12_odds 94 = .ok (.lconst 0, 1) := by decide +kernel
theorem dX12_odds_95 : decode cX12_odds 95 = .ok (.lcmp, 1) := by decide +kernel
theorem dX12_odds_96 : decode cX12_odds 96 = .ok (.ifCond .le 27, 3) := by decide +kernel
theorem dX12_odds_99 : decode cX12_odds 99 = .ok (.lload 5, 2) := by decide +kernel
theorem dX12_odds_101 : decode cX12_odds 101 = .ok (.bipush 10, 2) := by decide +kernel
theorem dX12_odds_103 : decode cX12_odds 103 = .ok (.iload_n 3, 1) := by decide +kernel
theorem dX12_odds_104 : decode cX12_odds 104 = .ok (.isub, 1) := by decide +kernel
theorem dX12_odds_105 : decode cX12_odds 105 = .ok (.i2l, 1) := by decide +kernel
theorem dX12_odds_106 : decode cX12_odds 106 = .ok (.lmul, 1) := by decide +kernel
theorem dX12_odds_107 : decode cX12_odds 107 = .ok (.lstore 5, 2) := by decide +kernel
theorem dX12_odds_109 : decode cX12_odds 109 = .ok (.lload 7, 2) := by decide +kernel
theorem dX12_odds_111 : decode cX12_odds 111 = .ok (.ldc2_w 222, 3) := by decide +kernel
theorem dX12_odds_114 : decode cX12_odds 114 = .ok (.lmul, 1) := by decide +kernel
theorem dX12_odds_115 : decode cX12_odds 115 = .ok (.lstore 7, 2) := by decide +kernel
theorem dX12_odds_117 : decode cX12_odds 117 = .ok (.iinc 9 1, 3) := by decide +kernel
theorem dX12_odds_120 : decode cX12_odds 120 = .ok (.goto (-35), 3) := by decide +kernel
theorem dX12_odds_123 : decode cX12_odds 123 = .ok (.aload_n 0, 1) := by decide +kernel
theorem dX12_odds_124 : decode cX12_odds 124 = .ok (.lload 5, 2) := by decide +kernel
theorem dX12_odds_126 : decode cX12_odds 126 = .ok (.lload 7, 2) := by decide +kernel
theorem dX12_odds_128 : decode cX12_odds 128 = .ok (.invokevirtual 224, 3) := by decide +kernel
theorem dX12_odds_131 : decode cX12_odds 131 = .ok (.iconst 1, 1) := by decide +kernel
theorem dX12_odds_132 : decode cX12_odds 132 = .ok (.ireturn, 1) := by decide +kernel
set_option maxRecDepth 20000 in
theorem ggX12_drawn_X12_in : GoodIn wsX12_drawn wsX12_in := goodIn_r _ [10] (by decide +kernel) (by decide +kernel)
set_option maxRecDepth 20000 in
theorem gX12_drawn_X12_in : GoodIn wsX12_drawn (va_wsS RX12 68 yX12_in wsX12_in) := goodIn_app (goodIn_of _ (by decide +kernel)) ggX12_drawn_X12_in
set_option maxRecDepth 20000 in
theorem ggX12_drawn_X12_bad : GoodIn wsX12_drawn wsX12_bad := goodIn_r _ [14, 15, 47, 48, 49, 50, 51, 52, 53, 54, 55, 56, 57, 58, 59, 60, 61, 62, 63, 64, 65, 66, 67, 68, 69, 70, 71] (by decide +kernel) (by decide +kernel)
set_option maxRecDepth 20000 in
theorem gX12_drawn_X12_bad : GoodIn wsX12_drawn (wsV RX12 72 RX12 yX12_bad wsX12_bad) := goodIn_app (goodIn_of _ (by decide +kernel)) ggX12_drawn_X12_bad
set_option maxRecDepth 20000 in
theorem ggX12_drawn_X12_isLump : GoodIn wsX12_drawn wsX12_isLump := goodIn_r _ [19, 20, 7, 8, 9, 10, 47, 48, 49, 50, 51, 52, 53, 54, 55, 56, 57, 58, 59, 60, 61, 62, 63, 64, 65, 66, 67, 68, 69, 70, 71] (by decide +kernel) (by decide +kernel)
set_option maxRecDepth 20000 in
theorem gX12_drawn_X12_isLump : GoodIn wsX12_drawn (wsV RX12 156 RX12 yX12_isLump wsX12_isLump) := goodIn_app (goodIn_of _ (by decide +kernel)) ggX12_drawn_X12_isLump
set_option maxRecDepth 20000 in
theorem ggX12_drawn_X12_worth : GoodIn wsX12_drawn wsX12_worth := goodIn_r _ [24, 20, 25, 26, 27, 9, 28, 29, 30, 31, 32, 33, 34, 35, 36, 37, 38, 39, 40, 41, 42, 43, 44, 45, 46, 7, 8, 10, 47, 48, 49, 50, 51, 52, 53, 54, 55, 56, 57, 58, 59, 60, 61, 62, 63, 64, 65, 66, 67, 68, 69, 70, 71] (by decide +kernel) (by decide +kernel)
set_option maxRecDepth 20000 in
theorem gX12_drawn_X12_worth : GoodIn wsX12_drawn (wsV RX12 166 RX12 yX12_worth wsX12_worth) := goodIn_app (goodIn_of _ (by decide +kernel)) ggX12_drawn_X12_worth
theorem dX12_drawn_0 : decode cX12_drawn 0 = .ok (.iload_n 1, 1) := by decide +kernel
theorem dX12_drawn_1 : decode cX12_drawn 1 = .ok (.iconst 0, 1) := by decide +kernel
theorem dX12_drawn_2 : decode cX12_drawn 2 = .ok (.ldc 228, 2) := by decide +kernel
theorem dX12_drawn_4 : decode cX12_drawn 4 = .ok (.invokestatic 68, 3) := by decide +kernel
theorem dX12_drawn_7 : decode cX12_drawn 7 = .ok (.ifCond .eq 13, 3) := by decide +kernel
theorem dX12_drawn_10 : decode cX12_drawn 10 = .ok (.iload_n 2, 1) := by decide +kernel
theorem dX12_drawn_11 : decode cX12_drawn 11 = .ok (.iconst 0, 1) := by decide +kernel
theorem dX12_drawn_12 : decode cX12_drawn 12 = .ok (.bipush 60, 2) := by decide +kernel
theorem dX12_drawn_14 : decode cX12_drawn 14 = .ok (.invokestatic 68, 3) := by decide +kernel
theorem dX12_drawn_17 : decode cX12_drawn 17 = .ok (.ifCond .ne 8, 3) := by decide +kernel
theorem dX12_drawn_20 : decode cX12_drawn 20 = .ok (.aload_n 0, 1) := by decide +kernel
theorem dX12_drawn_21 : decode cX12_drawn 21 = .ok (.invokevirtual 72, 3) := by decide +kernel
theorem dX12_drawn_24 : decode cX12_drawn 24 = .ok (.ireturn, 1) := by decide +kernel
theorem dX12_drawn_25 : decode cX12_drawn 25 = .ok (.iload_n 1, 1) := by decide +kernel
theorem dX12_drawn_26 : decode cX12_drawn 26 = .ok (.i2l, 1) := by decide +kernel
theorem dX12_drawn_27 : decode cX12_drawn 27 = .ok (.lstore_n 3, 1) := by decide +kernel
theorem dX12_drawn_28 : decode cX12_drawn 28 = .ok (.iconst 0, 1) := by decide +kernel
theorem dX12_drawn_29 : decode cX12_drawn 29 = .ok (.istore 5, 2) := by decide +kernel
theorem dX12_drawn_31 : decode cX12_drawn 31 = .ok (.iconst 0, 1) := by decide +kernel
theorem dX12_drawn_32 : decode cX12_drawn 32 = .ok (.istore 6, 2) := by decide +kernel
theorem dX12_drawn_34 : decode cX12_drawn 34 = .ok (.iload 6, 2) := by decide +kernel
theorem dX12_drawn_36 : decode cX12_drawn 36 = .ok (.iload_n 2, 1) := by decide +kernel
theorem dX12_drawn_37 : decode cX12_drawn 37 = .ok (.if_icmp .ge 59, 3) := by decide +kernel
theorem dX12_drawn_40 : decode cX12_drawn 40 = .ok (.lload_n 3, 1) := by decide +kernel
theorem dX12_drawn_41 : decode cX12_drawn 41 = .ok (.ldc2_w 229, 3) := by decide +kernel
theorem dX12_drawn_44 : decode cX12_drawn 44 = .ok (.lmul, 1) := by decide +kernel
theorem dX12_drawn_45 : decode cX12_drawn 45 = .ok (.ldc2_w 231, 3) := by decide +kernel
theorem dX12_drawn_48 : decode cX12_drawn 48 = .ok (.ladd, 1) := by decide +kernel
theorem dX12_drawn_49 : decode cX12_drawn 49 = .ok (.ldc2_w 233, 3) := by decide +kernel
theorem dX12_drawn_52 : decode cX12_drawn 52 = .ok (.lrem, 1) := by decide +kernel
theorem dX12_drawn_53 : decode cX12_drawn 53 = .ok (.lstore_n 3, 1) := by decide +kernel
theorem dX12_drawn_54 : decode cX12_drawn 54 = .ok (.lload_n 3, 1) := by decide +kernel
theorem dX12_drawn_55 : decode cX12_drawn 55 = .ok (.ldc2_w 235, 3) := by decide +kernel
theorem dX12_drawn_58 : decode cX12_drawn 58 = .ok (.ldiv, 1) := by decide +kernel
theorem dX12_drawn_59 : decode cX12_drawn 59 = .ok (.ldc2_w 237, 3) := by decide +kernel
theorem dX12_drawn_62 : decode cX12_drawn 62 = .ok (.lrem, 1) := by decide +kernel
theorem dX12_drawn_63 : decode cX12_drawn 63 = .ok (.l2i, 1) := by decide +kernel
theorem dX12_drawn_64 : decode cX12_drawn 64 = .ok (.istore 7, 2) := by decide +kernel
theorem dX12_drawn_66 : decode cX12_drawn 66 = .ok (.iload 5, 2) := by decide +kernel
theorem dX12_drawn_68 : decode cX12_drawn 68 = .ok (.aload_n 0, 1) := by decide +kernel
theorem dX12_drawn_69 : decode cX12_drawn 69 = .ok (.iload 7, 2) := by decide +kernel
theorem dX12_drawn_71 : decode cX12_drawn 71 = .ok (.invokevirtual 156, 3) := by decide +kernel
theorem dX12_drawn_74 : decode cX12_drawn 74 = .ok (.ifCond .eq 12, 3) := by decide +kernel
theorem dX12_drawn_77 : decode cX12_drawn 77 = .ok (.aload_n 0, 1) := by decide +kernel
theorem dX12_drawn_78 : decode cX12_drawn 78 = .ok (.iload 7, 2) := by decide +kernel
theorem dX12_drawn_80 : decode cX12_drawn 80 = .ok (.invokevirtual 166, 3) := by decide +kernel
theorem dX12_drawn_83 : decode cX12_drawn 83 = .ok (.goto 4, 3) := by decide +kernel
theorem dX12_drawn_86 : decode cX12_drawn 86 = .ok (.iconst 0, 1) := by decide +kernel
