set_option maxRecDepth 20000 in
theorem ggX0_init_X5_init : GoodIn wsX0_init wsX5_init := goodIn_r _ [3, 4, 5, 6] (by decide +kernel) (by decide +kernel)
set_option maxRecDepth 20000 in
theorem gX0_init_X5_init_n1 : GoodIn wsX0_init (wsX5_init) := ggX0_init_X5_init
theorem dX0_init_0 : decode cX0_init 0 = .ok (.aload_n 0, 1) := by decide +kernel
theorem dX0_init_1 : decode cX0_init 1 = .ok (.invokespecial 1, 3) := by decide +kernel
theorem dX0_init_4 : decode cX0_init 4 = .ok (.return_, 1) := by decide +kernel
set_option maxRecDepth 20000 in
theorem ggX0_own_X5_own : GoodIn wsX0_own wsX5_own := goodIn_r _ [6] (by decide +kernel) (by decide +kernel)
set_option maxRecDepth 20000 in
theorem gX0_own_X5_own_s7 : GoodIn wsX0_own (va_wsSU RX0 7 yX5_own wsX5_own) := goodIn_app (goodIn_of _ (by decide +kernel)) ggX0_own_X5_own
theorem dX0_own_0 : decode cX0_own 0 = .ok (.aload_n 0, 1) := by decide +kernel
theorem dX0_own_1 : decode cX0_own 1 = .ok (.iload_n 1, 1) := by decide +kernel
theorem dX0_own_2 : decode cX0_own 2 = .ok (.iload_n 1, 1) := by decide +kernel
theorem dX0_own_3 : decode cX0_own 3 = .ok (.iconst 1, 1) := by decide +kernel
theorem dX0_own_4 : decode cX0_own 4 = .ok (.isub, 1) := by decide +kernel
theorem dX0_own_5 : decode cX0_own 5 = .ok (.iload_n 2, 1) := by decide +kernel
theorem dX0_own_6 : decode cX0_own 6 = .ok (.isub, 1) := by decide +kernel
theorem dX0_own_7 : decode cX0_own 7 = .ok (.invokespecial 7, 3) := by decide +kernel
theorem dX0_own_10 : decode cX0_own 10 = .ok (.ireturn, 1) := by decide +kernel
set_option maxRecDepth 20000 in
theorem ggX1_init_X0_init : GoodIn wsX1_init wsX0_init := goodIn_r _ [3, 4, 5, 6, 7, 8, 9] (by decide +kernel) (by decide +kernel)
set_option maxRecDepth 20000 in
theorem gX1_init_X0_init_n3 : GoodIn wsX1_init (wsX0_init) := ggX1_init_X0_init
theorem dX1_init_0 : decode cX1_init 0 = .ok (.aload_n 0, 1) := by decide +kernel
theorem dX1_init_1 : decode cX1_init 1 = .ok (.invokespecial 3, 3) := by decide +kernel
theorem dX1_init_4 : decode cX1_init 4 = .ok (.return_, 1) := by decide +kernel
theorem dX1_burnsFor_0 : decode cX1_burnsFor 0 = .ok (.aload_n 0, 1) := by decide +kernel
theorem dX1_burnsFor_1 : decode cX1_burnsFor 1 = .ok (.iload_n 1, 1) := by decide +kernel
theorem dX1_burnsFor_2 : decode cX1_burnsFor 2 = .ok (.invokespecial 9, 3) := by decide +kernel
theorem dX1_burnsFor_5 : decode cX1_burnsFor 5 = .ok (.iconst 1, 1) := by decide +kernel
theorem dX1_burnsFor_6 : decode cX1_burnsFor 6 = .ok (.iadd, 1) := by decide +kernel
theorem dX1_burnsFor_7 : decode cX1_burnsFor 7 = .ok (.ireturn, 1) := by decide +kernel
set_option maxRecDepth 20000 in
theorem ggX1_own_X0_own : GoodIn wsX1_own wsX0_own := goodIn_r _ [6, 7, 8, 9, 10, 11, 12] (by decide +kernel) (by decide +kernel)
set_option maxRecDepth 20000 in
theorem gX1_own_X0_own_s13 : GoodIn wsX1_own (va_wsSU RX1 13 yX0_own wsX0_own) := goodIn_app (goodIn_of _ (by decide +kernel)) ggX1_own_X0_own
theorem dX1_own_0 : decode cX1_own 0 = .ok (.iload_n 2, 1) := by decide +kernel
theorem dX1_own_1 : decode cX1_own 1 = .ok (.iconst 1, 1) := by decide +kernel
theorem dX1_own_2 : decode cX1_own 2 = .ok (.if_icmp .ge 7, 3) := by decide +kernel
theorem dX1_own_5 : decode cX1_own 5 = .ok (.iconst (-1), 1) := by decide +kernel
theorem dX1_own_6 : decode cX1_own 6 = .ok (.goto 11, 3) := by decide +kernel
theorem dX1_own_9 : decode cX1_own 9 = .ok (.aload_n 0, 1) := by decide +kernel
theorem dX1_own_10 : decode cX1_own 10 = .ok (.iload_n 1, 1) := by decide +kernel
theorem dX1_own_11 : decode cX1_own 11 = .ok (.iload_n 2, 1) := by decide +kernel
theorem dX1_own_12 : decode cX1_own 12 = .ok (.iconst 1, 1) := by decide +kernel
theorem dX1_own_13 : decode cX1_own 13 = .ok (.isub, 1) := by decide +kernel
theorem dX1_own_14 : decode cX1_own 14 = .ok (.invokespecial 13, 3) := by decide +kernel
theorem dX1_own_17 : decode cX1_own 17 = .ok (.ireturn, 1) := by decide +kernel
theorem dX2_init_0 : decode cX2_init 0 = .ok (.aload_n 0, 1) := by decide +kernel
theorem dX2_init_1 : decode cX2_init 1 = .ok (.invokespecial 3, 3) := by decide +kernel
theorem dX2_init_4 : decode cX2_init 4 = .ok (.aload_n 0, 1) := by decide +kernel
theorem dX2_init_5 : decode cX2_init 5 = .ok (.bipush 72, 2) := by decide +kernel
theorem dX2_init_7 : decode cX2_init 7 = .ok (.newarray .boolean, 2) := by decide +kernel
theorem dX2_init_9 : decode cX2_init 9 = .ok (.putfield 9, 3) := by decide +kernel
theorem dX2_init_12 : decode cX2_init 12 = .ok (.aload_n 0, 1) := by decide +kernel
theorem dX2_init_13 : decode cX2_init 13 = .ok (.bipush 7, 2) := by decide +kernel
theorem dX2_init_15 : decode cX2_init 15 = .ok (.newarray .int, 2) := by decide +kernel
theorem dX2_init_17 : decode cX2_init 17 = .ok (.putfield 15, 3) := by decide +kernel
theorem dX2_init_20 : decode cX2_init 20 = .ok (.aload_n 0, 1) := by decide +kernel
theorem dX2_init_21 : decode cX2_init 21 = .ok (.bipush 108, 2) := by decide +kernel
theorem dX2_init_23 : decode cX2_init 23 = .ok (.newarray .boolean, 2) := by decide +kernel
theorem dX2_init_25 : decode cX2_init 25 = .ok (.putfield 19, 3) := by decide +kernel
theorem dX2_init_28 : decode cX2_init 28 = .ok (.aload_n 0, 1) := by decide +kernel
theorem dX2_init_29 : decode cX2_init 29 = .ok (.bipush 108, 2) := by decide +kernel
theorem dX2_init_31 : decode cX2_init 31 = .ok (.newarray .long, 2) := by decide +kernel
theorem dX2_init_33 : decode cX2_init 33 = .ok (.putfield 22, 3) := by decide +kernel
theorem dX2_init_36 : decode cX2_init 36 = .ok (.aload_n 0, 1) := by decide +kernel
theorem dX2_init_37 : decode cX2_init 37 = .ok (.bipush 108, 2) := by decide +kernel
theorem dX2_init_39 : decode cX2_init 39 = .ok (.newarray .long, 2) := by decide +kernel
theorem dX2_init_41 : decode cX2_init 41 = .ok (.putfield 26, 3) := by decide +kernel
theorem dX2_init_44 : decode cX2_init 44 = .ok (.return_, 1) := by decide +kernel
set_option maxRecDepth 20000 in
theorem ggX2_markFits_X2_fitsAll : GoodIn wsX2_markFits wsX2_fitsAll := goodIn_r _ [7, 8, 9, 3, 10, 11, 12, 13, 14, 15, 16, 17, 18, 19, 20, 21, 22, 23, 24, 25, 26, 27, 28, 29, 30, 31, 32, 33, 34, 35, 36, 37, 38, 39, 40, 41, 42, 43, 44, 45, 46, 47, 48, 49, 50, 51, 52, 53, 54, 55, 56, 57, 58, 59, 60, 61, 62, 63, 64, 65, 66, 67, 68, 69, 70, 71, 72, 73, 74, 75, 76, 83, 84, 85, 86, 87, 88, 89, 90, 91, 92, 93, 94, 95, 96, 97, 98] (by decide +kernel) (by decide +kernel)
set_option maxRecDepth 20000 in
theorem gX2_markFits_X2_fitsAll : GoodIn wsX2_markFits (va_wsS RX2 38 yX2_fitsAll wsX2_fitsAll) := goodIn_app (goodIn_of _ (by decide +kernel)) ggX2_markFits_X2_fitsAll
theorem dX2_markFits_0 : decode cX2_markFits 0 = .ok (.iconst 0, 1) := by decide +kernel
theorem dX2_markFits_1 : decode cX2_markFits 1 = .ok (.istore_n 2, 1) := by decide +kernel
theorem dX2_markFits_2 : decode cX2_markFits 2 = .ok (.aload_n 0, 1) := by decide +kernel
theorem dX2_markFits_3 : decode cX2_markFits 3 = .ok (.iconst (-1), 1) := by decide +kernel
theorem dX2_markFits_4 : decode cX2_markFits 4 = .ok (.putfield 29, 3) := by decide +kernel
theorem dX2_markFits_7 : decode cX2_markFits 7 = .ok (.iconst 0, 1) := by decide +kernel
theorem dX2_markFits_8 : decode cX2_markFits 8 = .ok (.istore_n 3, 1) := by decide +kernel
theorem dX2_markFits_9 : decode cX2_markFits 9 = .ok (.iload_n 3, 1) := by decide +kernel
theorem dX2_markFits_10 : decode cX2_markFits 10 = .ok (.aload_n 0, 1) := by decide +kernel
theorem dX2_markFits_11 : decode cX2_markFits 11 = .ok (.getfield 9, 3) := by decide +kernel
theorem dX2_markFits_14 : decode cX2_markFits 14 = .ok (.arraylength, 1) := by decide +kernel
theorem dX2_markFits_15 : decode cX2_markFits 15 = .ok (.if_icmp .ge 76, 3) := by decide +kernel
theorem dX2_markFits_18 : decode cX2_markFits 18 = .ok (.iload_n 3, 1) := by decide +kernel
theorem dX2_markFits_19 : decode cX2_markFits 19 = .ok (.bipush 12, 2) := by decide +kernel
theorem dX2_markFits_21 : decode cX2_markFits 21 = .ok (.irem, 1) := by decide +kernel
theorem dX2_markFits_22 : decode cX2_markFits 22 = .ok (.istore 4, 2) := by decide +kernel
theorem dX2_markFits_24 : decode cX2_markFits 24 = .ok (.aload_n 0, 1) := by decide +kernel
theorem dX2_markFits_25 : decode cX2_markFits 25 = .ok (.getfield 9, 3) := by decide +kernel
theorem dX2_markFits_28 : decode cX2_markFits 28 = .ok (.iload_n 3, 1) := by decide +kernel
theorem dX2_markFits_29 : decode cX2_markFits 29 = .ok (.iload 4, 2) := by decide +kernel
theorem dX2_markFits_31 : decode cX2_markFits 31 = .ok (.aload_n 1, 1) := by decide +kernel
theorem dX2_markFits_32 : decode cX2_markFits 32 = .ok (.getfield 33, 3) := by decide +kernel
theorem dX2_markFits_35 : decode cX2_markFits 35 = .ok (.iadd, 1) := by decide +kernel
theorem dX2_markFits_36 : decode cX2_markFits 36 = .ok (.bipush 12, 2) := by decide +kernel
theorem dX2_markFits_38 : decode cX2_markFits 38 = .ok (.if_icmp .gt 20, 3) := by decide +kernel
theorem dX2_markFits_41 : decode cX2_markFits 41 = .ok (.aload_n 1, 1) := by decide +kernel
theorem dX2_markFits_42 : decode cX2_markFits 42 = .ok (.iload_n 3, 1) := by decide +kernel
theorem dX2_markFits_43 : decode cX2_markFits 43 = .ok (.bipush 12, 2) := by decide +kernel
theorem dX2_markFits_45 : decode cX2_markFits 45 = .ok (.idiv, 1) := by decide +kernel
theorem dX2_markFits_46 : decode cX2_markFits 46 = .ok (.iload 4, 2) := by decide +kernel
theorem dX2_markFits_48 : decode cX2_markFits 48 = .ok (.invokestatic 38, 3) := by decide +kernel
theorem dX2_markFits_51 : decode cX2_markFits 51 = .ok (.ifCond .eq 7, 3) := by decide +kernel
theorem dX2_markFits_54 : decode cX2_markFits 54 = .ok (.iconst 1, 1) := by decide +kernel
theorem dX2_markFits_55 : decode cX2_markFits 55 = .ok (.goto 4, 3) := by decide +kernel
theorem dX2_markFits_58 : decode cX2_markFits 58 = .ok (.iconst 0, 1) := by decide +kernel
theorem dX2_markFits_59 : decode cX2_markFits 59 = .ok (.bastore, 1) := by decide +kernel
theorem dX2_markFits_60 : decode cX2_markFits 60 = .ok (.aload_n 0, 1) := by decide +kernel
theorem dX2_markFits_61 : decode cX2_markFits 61 = .ok (.getfield 9, 3) := by decide +kernel
theorem dX2_markFits_64 : decode cX2_markFits 64 = .ok (.iload_n 3, 1) := by decide +kernel
theorem dX2_markFits_65 : decode cX2_markFits 65 = .ok (.baload, 1) := by decide +kernel
theorem dX2_markFits_66 : decode cX2_markFits 66 = .ok (.ifCond .eq 19, 3) := by decide +kernel
theorem dX2_markFits_69 : decode cX2_markFits 69 = .ok (.iinc 2 1, 3) := by decide +kernel
theorem dX2_markFits_72 : decode cX2_markFits 72 = .ok (.aload_n 0, 1) := by decide +kernel
theorem dX2_markFits_73 : decode cX2_markFits 73 = .ok (.getfield 29, 3) := by decide +kernel
theorem dX2_markFits_76 : decode cX2_markFits 76 = .ok (.iconst (-1), 1) := by decide +kernel
theorem dX2_markFits_77 : decode cX2_markFits 77 = .ok (.if_icmp .ne 8, 3) := by decide +kernel
theorem dX2_markFits_80 : decode cX2_markFits 80 = .ok (.aload_n 0, 1) := by decide +kernel
theorem dX2_markFits_81 : decode cX2_markFits 81 = .ok (.iload_n 3, 1) := by decide +kernel
theorem dX2_markFits_82 : decode cX2_markFits 82 = .ok (.putfield 29, 3) := by decide +kernel
theorem dX2_markFits_85 : decode cX2_markFits 85 = .ok (.iinc 3 1, 3) := by decide +kernel
theorem dX2_markFits_88 : decode cX2_markFits 88 = .ok (.goto (-79), 3) := by decide +kernel
theorem dX2_markFits_91 : decode cX2_markFits 91 = .ok (.iload_n 2, 1) := by decide +kernel
theorem dX2_markFits_92 : decode cX2_markFits 92 = .ok (.ireturn, 1) := by decide +kernel
set_option maxRecDepth 20000 in
theorem ggX2_fitsAll_X9_at : GoodIn wsX2_fitsAll wsX9_at := goodIn_r _ [8, 9, 10, 84, 85, 86] (by decide +kernel) (by decide +kernel)
set_option maxRecDepth 20000 in
theorem gX2_fitsAll_X9_at : GoodIn wsX2_fitsAll (wsV RX2 51 RX9 yX9_at wsX9_at) := goodIn_app (goodIn_of _ (by decide +kernel)) ggX2_fitsAll_X9_at
set_option maxRecDepth 20000 in
theorem ggX2_fitsAll_X4_weatherOfCut : GoodIn wsX2_fitsAll wsX4_weatherOfCut := goodIn_r _ [15, 16, 17, 18, 19, 20, 21, 22, 23, 24, 25, 26, 27, 28, 29, 30, 31, 32, 33, 34, 35, 36, 37, 38, 39, 40, 41, 42, 43, 44, 45, 46, 47, 48, 49, 50, 51, 52, 53, 54, 55, 56, 57, 58, 14, 59, 60, 61, 62, 63, 64, 65, 66, 67, 68, 69, 70, 71, 72, 73, 74, 75, 76, 77, 78, 79, 80, 81, 82, 83] (by decide +kernel) (by decide +kernel)
set_option maxRecDepth 20000 in
theorem gX2_fitsAll_X4_weatherOfCut : GoodIn wsX2_fitsAll (wsV RX2 55 RX4 yX4_weatherOfCut wsX4_weatherOfCut) := goodIn_app (goodIn_of _ (by decide +kernel)) ggX2_fitsAll_X4_weatherOfCut
theorem dX2_fitsAll_0 : decode cX2_fitsAll 0 = .ok (.iconst 0, 1) := by decide +kernel
theorem dX2_fitsAll_1 : decode cX2_fitsAll 1 = .ok (.istore_n 3, 1) := by decide +kernel
theorem dX2_fitsAll_2 : decode cX2_fitsAll 2 = .ok (.iload_n 3, 1) := by decide +kernel
theorem dX2_fitsAll_3 : decode cX2_fitsAll 3 = .ok (.aload_n 0, 1) := by decide +kernel
theorem dX2_fitsAll_4 : decode cX2_fitsAll 4 = .ok (.getfield 42, 3) := by decide +kernel
theorem dX2_fitsAll_7 : decode cX2_fitsAll 7 = .ok (.getfield 46, 3) := by decide +kernel
theorem dX2_fitsAll_10 : decode cX2_fitsAll 10 = .ok (.if_icmp .ge 46, 3) := by decide +kernel
theorem dX2_fitsAll_13 : decode cX2_fitsAll 13 = .ok (.aload_n 0, 1) := by decide +kernel
theorem dX2_fitsAll_14 : decode cX2_fitsAll 14 = .ok (.iload_n 1, 1) := by decide +kernel
theorem dX2_fitsAll_15 : decode cX2_fitsAll 15 = .ok (.iload_n 2, 1) := by decide +kernel
theorem dX2_fitsAll_16 : decode cX2_fitsAll 16 = .ok (.aload_n 0, 1) := by decide +kernel
theorem dX2_fitsAll_17 : decode cX2_fitsAll 17 = .ok (.getfield 33, 3) := by decide +kernel
theorem dX2_fitsAll_20 : decode cX2_fitsAll 20 = .ok (.aload_n 0, 1) := by decide +kernel
theorem dX2_fitsAll_21 : decode cX2_fitsAll 21 = .ok (.getfield 42, 3) := by decide +kernel
theorem dX2_fitsAll_24 : decode cX2_fitsAll 24 = .ok (.iload_n 3, 1) := by decide +kernel
theorem dX2_fitsAll_25 : decode cX2_fitsAll 25 = .ok (.iconst 0, 1) := by decide +kernel
theorem dX2_fitsAll_26 : decode cX2_fitsAll 26 = .ok (.invokevirtual 51, 3) := by decide +kernel
theorem dX2_fitsAll_29 : decode cX2_fitsAll 29 = .ok (.invokevirtual 55, 3) := by decide +kernel
theorem dX2_fitsAll_32 : decode cX2_fitsAll 32 = .ok (.istore 4, 2) := by decide +kernel
theorem dX2_fitsAll_34 : decode cX2_fitsAll 34 = .ok (.iload 4, 2) := by decide +kernel
theorem dX2_fitsAll_36 : decode cX2_fitsAll 36 = .ok (.aload_n 0, 1) := by decide +kernel
theorem dX2_fitsAll_37 : decode cX2_fitsAll 37 = .ok (.getfield 42, 3) := by decide +kernel
theorem dX2_fitsAll_40 : decode cX2_fitsAll 40 = .ok (.iload_n 3, 1) := by decide +kernel
theorem dX2_fitsAll_41 : decode cX2_fitsAll 41 = .ok (.iconst 1, 1) := by decide +kernel
theorem dX2_fitsAll_42 : decode cX2_fitsAll 42 = .ok (.invokevirtual 51, 3) := by decide +kernel
theorem dX2_fitsAll_45 : decode cX2_fitsAll 45 = .ok (.if_icmp .eq 5, 3) := by decide +kernel
theorem dX2_fitsAll_48 : decode cX2_fitsAll 48 = .ok (.iconst 0, 1) := by decide +kernel
theorem dX2_fitsAll_49 : decode cX2_fitsAll 49 = .ok (.ireturn, 1) := by decide +kernel
theorem dX2_fitsAll_50 : decode cX2_fitsAll 50 = .ok (.iinc 3 1, 3) := by decide +kernel
theorem dX2_fitsAll_53 : decode cX2_fitsAll 53 = .ok (.goto (-51), 3) := by decide +kernel
theorem dX2_fitsAll_56 : decode cX2_fitsAll 56 = .ok (.iconst 1, 1) := by decide +kernel
theorem dX2_fitsAll_57 : decode cX2_fitsAll 57 = .ok (.ireturn, 1) := by decide +kernel
set_option maxRecDepth 20000 in
theorem ggX2_nextStep_X2_mostAlike : GoodIn wsX2_nextStep wsX2_mostAlike := goodIn_r _ [5, 6, 7, 8, 9, 10, 11, 12, 13, 14, 15, 16, 17, 18, 19, 20, 21, 22, 23, 24, 25, 26, 27, 28, 29, 30, 31, 32, 33, 34, 35, 36, 37, 38, 39, 40, 41, 42, 43, 44, 45, 46, 47, 48, 49, 50, 51, 52, 53, 54, 55, 56, 57, 58, 59, 60, 61, 62, 63, 64, 65, 66, 67, 68, 69, 70, 71, 72, 73, 74, 75, 76, 77, 78, 79, 80, 81, 82, 83, 84, 85, 86, 87, 88, 89, 90, 91, 92, 93, 94, 95, 96, 97] (by decide +kernel) (by decide +kernel)
set_option maxRecDepth 20000 in
theorem gX2_nextStep_X2_mostAlike : GoodIn wsX2_nextStep (wsV RX2 59 RX2 yX2_mostAlike wsX2_mostAlike) := goodIn_app (goodIn_of _ (by decide +kernel)) ggX2_nextStep_X2_mostAlike
theorem dX2_nextStep_0 : decode cX2_nextStep 0 = .ok (.iconst (-1), 1) := by decide +kernel
theorem dX2_nextStep_1 : decode cX2_nextStep 1 = .ok (.istore_n 2, 1) := by decide +kernel
theorem dX2_nextStep_2 : decode cX2_nextStep 2 = .ok (.iconst 0, 1) := by decide +kernel
theorem dX2_nextStep_3 : decode cX2_nextStep 3 = .ok (.istore_n 3, 1) := by decide +kernel
theorem dX2_nextStep_4 : decode cX2_nextStep 4 = .ok (.iconst 0, 1) := by decide +kernel
theorem dX2_nextStep_5 : decode cX2_nextStep 5 = .ok (.istore 4, 2) := by decide +kernel
theorem dX2_nextStep_7 : decode cX2_nextStep 7 = .ok (.iload 4, 2) := by decide +kernel
theorem dX2_nextStep_9 : decode cX2_nextStep 9 = .ok (.bipush 12, 2) := by decide +kernel
theorem dX2_nextStep_11 : decode cX2_nextStep 11 = .ok (.if_icmp .gt 35, 3) := by decide +kernel
theorem dX2_nextStep_14 : decode cX2_nextStep 14 = .ok (.aload_n 0, 1) := by decide +kernel
theorem dX2_nextStep_15 : decode cX2_nextStep 15 = .ok (.aload_n 1, 1) := by decide +kernel
theorem dX2_nextStep_16 : decode cX2_nextStep 16 = .ok (.iload 4, 2) := by decide +kernel
theorem dX2_nextStep_18 : decode cX2_nextStep 18 = .ok (.invokevirtual 59, 3) := by decide +kernel
theorem dX2_nextStep_21 : decode cX2_nextStep 21 = .ok (.istore 5, 2) := by decide +kernel
theorem dX2_nextStep_23 : decode cX2_nextStep 23 = .ok (.iload_n 2, 1) := by decide +kernel
theorem dX2_nextStep_24 : decode cX2_nextStep 24 = .ok (.iconst (-1), 1) := by decide +kernel
theorem dX2_nextStep_25 : decode cX2_nextStep 25 = .ok (.if_icmp .eq 9, 3) := by decide +kernel
theorem dX2_nextStep_28 : decode cX2_nextStep 28 = .ok (.iload 5, 2) := by decide +kernel
theorem dX2_nextStep_30 : decode cX2_nextStep 30 = .ok (.iload_n 3, 1) := by decide +kernel
theorem dX2_nextStep_31 : decode cX2_nextStep 31 = .ok (.if_icmp .ge 9, 3) := by decide +kernel
theorem dX2_nextStep_34 : decode cX2_nextStep 34 = .ok (.iload 4, 2) := by decide +kernel
theorem dX2_nextStep_36 : decode cX2_nextStep 36 = .ok (.istore_n 2, 1) := by decide +kernel
theorem dX2_nextStep_37 : decode cX2_nextStep 37 = .ok (.iload 5, 2) := by decide +kernel
theorem dX2_nextStep_39 : decode cX2_nextStep 39 = .ok (.istore_n 3, 1) := by decide +kernel
theorem dX2_nextStep_40 : decode cX2_nextStep 40 = .ok (.iinc 4 1, 3) := by decide +kernel
theorem dX2_nextStep_43 : decode cX2_nextStep 43 = .ok (.goto (-36), 3) := by decide +kernel
theorem dX2_nextStep_46 : decode cX2_nextStep 46 = .ok (.iload_n 2, 1) := by decide +kernel
theorem dX2_nextStep_47 : decode cX2_nextStep 47 = .ok (.ireturn, 1) := by decide +kernel
set_option maxRecDepth 20000 in
theorem ggX2_mostAlike_J7_fill_53178 : GoodIn wsX2_mostAlike wsJ7_fill_53178 := goodIn_r _ [11] (by decide +kernel) (by decide +kernel)
set_option maxRecDepth 20000 in
theorem gX2_mostAlike_J7_fill_53178 : GoodIn wsX2_mostAlike (va_wsS RX2 63 yJ7_fill_53178 wsJ7_fill_53178) := goodIn_app (goodIn_of _ (by decide +kernel)) ggX2_mostAlike_J7_fill_53178
set_option maxRecDepth 20000 in
theorem ggX2_mostAlike_X4_weatherOfCut : GoodIn wsX2_mostAlike wsX4_weatherOfCut := goodIn_r _ [16, 17, 18, 19, 20, 21, 22, 23, 24, 25, 26, 27, 28, 29, 30, 31, 32, 33, 34, 35, 36, 37, 38, 39, 40, 41, 42, 43, 44, 45, 46, 47, 48, 49, 50, 51, 52, 53, 54, 55, 56, 57, 58, 59, 15, 60, 61, 62, 63, 64, 65, 66, 67, 68, 69, 70, 71, 80, 81, 82, 83, 84, 85, 86, 87, 88, 89, 90, 91, 92] (by decide +kernel) (by decide +kernel)
set_option maxRecDepth 20000 in
theorem gX2_mostAlike_X4_weatherOfCut : GoodIn wsX2_mostAlike (wsV RX2 55 RX4 yX4_weatherOfCut wsX4_weatherOfCut) := goodIn_app (goodIn_of _ (by decide +kernel)) ggX2_mostAlike_X4_weatherOfCut
set_option maxRecDepth 20000 in
theorem ggX2_mostAlike_X11_isWeather : GoodIn wsX2_mostAlike wsX11_isWeather := goodIn_r _ [73, 69, 70, 67, 71] (by decide +kernel) (by decide +kernel)
set_option maxRecDepth 20000 in
theorem gX2_mostAlike_X11_isWeather_n69 : GoodIn wsX2_mostAlike (wsX11_isWeather) := ggX2_mostAlike_X11_isWeather
theorem dX2_mostAlike_0 : decode cX2_mostAlike 0 = .ok (.aload_n 0, 1) := by decide +kernel
theorem dX2_mostAlike_1 : decode cX2_mostAlike 1 = .ok (.getfield 15, 3) := by decide +kernel
theorem dX2_mostAlike_4 : decode cX2_mostAlike 4 = .ok (.iconst 0, 1) := by decide +kernel
theorem dX2_mostAlike_5 : decode cX2_mostAlike 5 = .ok (.invokestatic 63, 3) := by decide +kernel
theorem dX2_mostAlike_8 : decode cX2_mostAlike 8 = .ok (.iconst 0, 1) := by decide +kernel
theorem dX2_mostAlike_9 : decode cX2_mostAlike 9 = .ok (.istore_n 3, 1) := by decide +kernel
theorem dX2_mostAlike_10 : decode cX2_mostAlike 10 = .ok (.iconst 0, 1) := by decide +kernel
theorem dX2_mostAlike_11 : decode cX2_mostAlike 11 = .ok (.istore 4, 2) := by decide +kernel
theorem dX2_mostAlike_13 : decode cX2_mostAlike 13 = .ok (.iload 4, 2) := by decide +kernel
theorem dX2_mostAlike_15 : decode cX2_mostAlike 15 = .ok (.aload_n 0, 1) := by decide +kernel
theorem dX2_mostAlike_16 : decode cX2_mostAlike 16 = .ok (.getfield 9, 3) := by decide +kernel
theorem dX2_mostAlike_19 : decode cX2_mostAlike 19 = .ok (.arraylength, 1) := by decide +kernel
theorem dX2_mostAlike_20 : decode cX2_mostAlike 20 = .ok (.if_icmp .ge 80, 3) := by decide +kernel
theorem dX2_mostAlike_23 : decode cX2_mostAlike 23 = .ok (.aload_n 0, 1) := by decide +kernel
theorem dX2_mostAlike_24 : decode cX2_mostAlike 24 = .ok (.getfield 9, 3) := by decide +kernel
theorem dX2_mostAlike_27 : decode cX2_mostAlike 27 = .ok (.iload 4, 2) := by decide +kernel
theorem dX2_mostAlike_29 : decode cX2_mostAlike 29 = .ok (.baload, 1) := by decide +kernel
theorem dX2_mostAlike_30 : decode cX2_mostAlike 30 = .ok (.ifCond .eq 64, 3) := by decide +kernel
theorem dX2_mostAlike_33 : decode cX2_mostAlike 33 = .ok (.aload_n 1, 1) := by decide +kernel
theorem dX2_mostAlike_34 : decode cX2_mostAlike 34 = .ok (.iload 4, 2) := by decide +kernel
theorem dX2_mostAlike_36 : decode cX2_mostAlike 36 = .ok (.bipush 12, 2) := by decide +kernel
theorem dX2_mostAlike_38 : decode cX2_mostAlike 38 = .ok (.idiv, 1) := by decide +kernel
theorem dX2_mostAlike_39 : decode cX2_mostAlike 39 = .ok (.iload 4, 2) := by decide +kernel
theorem dX2_mostAlike_41 : decode cX2_mostAlike 41 = .ok (.bipush 12, 2) := by decide +kernel
theorem dX2_mostAlike_43 : decode cX2_mostAlike 43 = .ok (.irem, 1) := by decide +kernel
theorem dX2_mostAlike_44 : decode cX2_mostAlike 44 = .ok (.aload_n 1, 1) := by decide +kernel
theorem dX2_mostAlike_45 : decode cX2_mostAlike 45 = .ok (.getfield 33, 3) := by decide +kernel
theorem dX2_mostAlike_48 : decode cX2_mostAlike 48 = .ok (.iload_n 2, 1) := by decide +kernel
theorem dX2_mostAlike_49 : decode cX2_mostAlike 49 = .ok (.invokevirtual 55, 3) := by decide +kernel
theorem dX2_mostAlike_52 : decode cX2_mostAlike 52 = .ok (.istore 5, 2) := by decide +kernel
theorem dX2_mostAlike_54 : decode cX2_mostAlike 54 = .ok (.iload 5, 2) := by decide +kernel
theorem dX2_mostAlike_56 : decode cX2_mostAlike 56 = .ok (.invokestatic 69, 3) := by decide +kernel
theorem dX2_mostAlike_59 : decode cX2_mostAlike 59 = .ok (.ifCond .eq 8, 3) := by decide +kernel
theorem dX2_mostAlike_62 : decode cX2_mostAlike 62 = .ok (.iload 5, 2) := by decide +kernel
theorem dX2_mostAlike_64 : decode cX2_mostAlike 64 = .ok (.goto 5, 3) := by decide +kernel
theorem dX2_mostAlike_67 : decode cX2_mostAlike 67 = .ok (.bipush 6, 2) := by decide +kernel
theorem dX2_mostAlike_69 : decode cX2_mostAlike 69 = .ok (.istore 6, 2) := by decide +kernel
theorem dX2_mostAlike_71 : decode cX2_mostAlike 71 = .ok (.aload_n 0, 1) := by decide +kernel
theorem dX2_mostAlike_72 : decode cX2_mostAlike 72 = .ok (.getfield 15, 3) := by decide +kernel
theorem dX2_mostAlike_75 : decode cX2_mostAlike 75 = .ok (.iload 6, 2) := by decide +kernel
theorem dX2_mostAlike_77 : decode cX2_mostAlike 77 = .ok (.dup2, 1) := by decide +kernel
theorem dX2_mostAlike_78 : decode cX2_mostAlike 78 = .ok (.iaload, 1) := by decide +kernel
theorem dX2_mostAlike_79 : decode cX2_mostAlike 79 = .ok (.iconst 1, 1) := by decide +kernel
theorem dX2_mostAlike_80 : decode cX2_mostAlike 80 = .ok (.iadd, 1) := by decide +kernel
theorem dX2_mostAlike_81 : decode cX2_mostAlike 81 = .ok (.iastore, 1) := by decide +kernel
theorem dX2_mostAlike_82 : decode cX2_mostAlike 82 = .ok (.iload_n 3, 1) := by decide +kernel
theorem dX2_mostAlike_83 : decode cX2_mostAlike 83 = .ok (.aload_n 0, 1) := by decide +kernel
theorem dX2_mostAlike_84 : decode cX2_mostAlike 84 = .ok (.getfield 15, 3) := by decide +kernel
theorem dX2_mostAlike_87 : decode cX2_mostAlike 87 = .ok (.iload 6, 2) := by decide +kernel
theorem dX2_mostAlike_89 : decode cX2_mostAlike 89 = .ok (.iaload, 1) := by decide +kernel
theorem dX2_mostAlike_90 : decode cX2_mostAlike 90 = .ok (.invokestatic 73, 3) := by decide +kernel
theorem dX2_mostAlike_93 : decode cX2_mostAlike 93 = .ok (.istore_n 3, 1) := by decide +kernel
theorem dX2_mostAlike_94 : decode cX2_mostAlike 94 = .ok (.iinc 4 1, 3) := by decide +kernel
theorem dX2_mostAlike_97 : decode cX2_mostAlike 97 = .ok (.goto (-84), 3) := by decide +kernel
theorem dX2_mostAlike_100 : decode cX2_mostAlike 100 = .ok (.iload_n 3, 1) := by decide +kernel
theorem dX2_mostAlike_101 : decode cX2_mostAlike 101 = .ok (.ireturn, 1) := by decide +kernel
set_option maxRecDepth 20000 in
theorem ggX2_countWalks_X2_closeCells : GoodIn wsX2_countWalks wsX2_closeCells := goodIn_r _ [9, 3, 10, 11, 12, 13, 14, 15, 16, 17, 18, 19, 20, 21, 22, 23, 41, 42, 43, 44, 45, 46, 47, 48, 49] (by decide +kernel) (by decide +kernel)
set_option maxRecDepth 20000 in
theorem gX2_countWalks_X2_closeCells : GoodIn wsX2_countWalks (wsV RX2 81 RX2 yX2_closeCells wsX2_closeCells) := goodIn_app (goodIn_of _ (by decide +kernel)) ggX2_countWalks_X2_closeCells
set_option maxRecDepth 20000 in
theorem ggX2_countWalks_X2_spread : GoodIn wsX2_countWalks wsX2_spread := goodIn_r _ [27, 3, 18, 19, 20, 21, 22, 23, 41, 42, 43, 44, 45, 46] (by decide +kernel) (by decide +kernel)
set_option maxRecDepth 20000 in
theorem gX2_countWalks_X2_spread : GoodIn wsX2_countWalks (wsV RX2 85 RX2 yX2_spread wsX2_spread) := goodIn_app (goodIn_of _ (by decide +kernel)) ggX2_countWalks_X2_spread
theorem dX2_countWalks_0 : decode cX2_countWalks 0 = .ok (.aload_n 0, 1) := by decide +kernel
theorem dX2_countWalks_1 : decode cX2_countWalks 1 = .ok (.aload_n 1, 1) := by decide +kernel
theorem dX2_countWalks_2 : decode cX2_countWalks 2 = .ok (.getfield 78, 3) := by decide +kernel
theorem dX2_countWalks_5 : decode cX2_countWalks 5 = .ok (.invokevirtual 81, 3) := by decide +kernel
theorem dX2_countWalks_8 : decode cX2_countWalks 8 = .ok (.iconst 0, 1) := by decide +kernel
theorem dX2_countWalks_9 : decode cX2_countWalks 9 = .ok (.istore_n 2, 1) := by decide +kernel
theorem dX2_countWalks_10 : decode cX2_countWalks 10 = .ok (.iload_n 2, 1) := by decide +kernel
theorem dX2_countWalks_11 : decode cX2_countWalks 11 = .ok (.bipush 9, 2) := by decide +kernel
theorem dX2_countWalks_13 : decode cX2_countWalks 13 = .ok (.if_icmp .ge 54, 3) := by decide +kernel
theorem dX2_countWalks_16 : decode cX2_countWalks 16 = .ok (.aload_n 0, 1) := by decide +kernel
theorem dX2_countWalks_17 : decode cX2_countWalks 17 = .ok (.getfield 22, 3) := by decide +kernel
theorem dX2_countWalks_20 : decode cX2_countWalks 20 = .ok (.iload_n 2, 1) := by decide +kernel
theorem dX2_countWalks_21 : decode cX2_countWalks 21 = .ok (.aload_n 0, 1) := by decide +kernel
theorem dX2_countWalks_22 : decode cX2_countWalks 22 = .ok (.getfield 19, 3) := by decide +kernel
theorem dX2_countWalks_25 : decode cX2_countWalks 25 = .ok (.iload_n 2, 1) := by decide +kernel
theorem dX2_countWalks_26 : decode cX2_countWalks 26 = .ok (.baload, 1) := by decide +kernel
theorem dX2_countWalks_27 : decode cX2_countWalks 27 = .ok (.ifCond .eq 7, 3) := by decide +kernel
theorem dX2_countWalks_30 : decode cX2_countWalks 30 = .ok (.lconst 1, 1) := by decide +kernel
theorem dX2_countWalks_31 : decode cX2_countWalks 31 = .ok (.goto 4, 3) := by decide +kernel
theorem dX2_countWalks_34 : decode cX2_countWalks 34 = .ok (.lconst 0, 1) := by decide +kernel
theorem dX2_countWalks_35 : decode cX2_countWalks 35 = .ok (.lastore, 1) := by decide +kernel
theorem dX2_countWalks_36 : decode cX2_countWalks 36 = .ok (.bipush 99, 2) := by decide +kernel
theorem dX2_countWalks_38 : decode cX2_countWalks 38 = .ok (.iload_n 2, 1) := by decide +kernel
theorem dX2_countWalks_39 : decode cX2_countWalks 39 = .ok (.iadd, 1) := by decide +kernel
theorem dX2_countWalks_40 : decode cX2_countWalks 40 = .ok (.istore_n 3, 1) := by decide +kernel
theorem dX2_countWalks_41 : decode cX2_countWalks 41 = .ok (.aload_n 0, 1) := by decide +kernel
theorem dX2_countWalks_42 : decode cX2_countWalks 42 = .ok (.getfield 26, 3) := by decide +kernel
theorem dX2_countWalks_45 : decode cX2_countWalks 45 = .ok (.iload_n 3, 1) := by decide +kernel
theorem dX2_countWalks_46 : decode cX2_countWalks 46 = .ok (.aload_n 0, 1) := by decide +kernel
theorem dX2_countWalks_47 : decode cX2_countWalks 47 = .ok (.getfield 19, 3) := by decide +kernel
theorem dX2_countWalks_50 : decode cX2_countWalks 50 = .ok (.iload_n 3, 1) := by decide +kernel
theorem dX2_countWalks_51 : decode cX2_countWalks 51 = .ok (.baload, 1) := by decide +kernel
theorem dX2_countWalks_52 : decode cX2_countWalks 52 = .ok (.ifCond .eq 7, 3) := by decide +kernel
theorem dX2_countWalks_55 : decode cX2_countWalks 55 = .ok (.lconst 1, 1) := by decide +kernel
theorem dX2_countWalks_56 : decode cX2_countWalks 56 = .ok (.goto 4, 3) := by decide +kernel
theorem dX2_countWalks_59 : decode cX2_countWalks 59 = .ok (.lconst 0, 1) := by decide +kernel
theorem dX2_countWalks_60 : decode cX2_countWalks 60 = .ok (.lastore, 1) := by decide +kernel
theorem dX2_countWalks_61 : decode cX2_countWalks 61 = .ok (.iinc 2 1, 3) := by decide +kernel
theorem dX2_countWalks_64 : decode cX2_countWalks 64 = .ok (.goto (-54), 3) := by decide +kernel
theorem dX2_countWalks_67 : decode cX2_countWalks 67 = .ok (.iconst 1, 1) := by decide +kernel
theorem dX2_countWalks_68 : decode cX2_countWalks 68 = .ok (.istore_n 2, 1) := by decide +kernel
theorem dX2_countWalks_69 : decode cX2_countWalks 69 = .ok (.iload_n 2, 1) := by decide +kernel
theorem dX2_countWalks_70 : decode cX2_countWalks 70 = .ok (.bipush 12, 2) := by decide +kernel
theorem dX2_countWalks_72 : decode cX2_countWalks 72 = .ok (.if_icmp .ge 39, 3) := by decide +kernel
theorem dX2_countWalks_75 : decode cX2_countWalks 75 = .ok (.aload_n 0, 1) := by decide +kernel
theorem dX2_countWalks_76 : decode cX2_countWalks 76 = .ok (.aload_n 0, 1) := by decide +kernel
theorem dX2_countWalks_77 : decode cX2_countWalks 77 = .ok (.getfield 22, 3) := by decide +kernel
theorem dX2_countWalks_80 : decode cX2_countWalks 80 = .ok (.iload_n 2, 1) := by decide +kernel
theorem dX2_countWalks_81 : decode cX2_countWalks 81 = .ok (.iconst 1, 1) := by decide +kernel
theorem dX2_countWalks_82 : decode cX2_countWalks 82 = .ok (.isub, 1) := by decide +kernel
theorem dX2_countWalks_83 : decode cX2_countWalks 83 = .ok (.iload_n 2, 1) := by decide +kernel
theorem dX2_countWalks_84 : decode cX2_countWalks 84 = .ok (.invokevirtual 85, 3) := by decide +kernel
theorem dX2_countWalks_87 : decode cX2_countWalks 87 = .ok (.aload_n 0, 1) := by decide +kernel
theorem dX2_countWalks_88 : decode cX2_countWalks 88 = .ok (.aload_n 0, 1) := by decide +kernel
theorem dX2_countWalks_89 : decode cX2_countWalks 89 = .ok (.getfield 26, 3) := by decide +kernel
theorem dX2_countWalks_92 : decode cX2_countWalks 92 = .ok (.bipush 12, 2) := by decide +kernel
theorem dX2_countWalks_94 : decode cX2_countWalks 94 = .ok (.iload_n 2, 1) := by decide +kernel
theorem dX2_countWalks_95 : decode cX2_countWalks 95 = .ok (.isub, 1) := by decide +kernel
theorem dX2_countWalks_96 : decode cX2_countWalks 96 = .ok (.bipush 12, 2) := by decide +kernel
theorem dX2_countWalks_98 : decode cX2_countWalks 98 = .ok (.iload_n 2, 1) := by decide +kernel
theorem dX2_countWalks_99 : decode cX2_countWalks 99 = .ok (.isub, 1) := by decide +kernel
theorem dX2_countWalks_100 : decode cX2_countWalks 100 = .ok (.iconst 1, 1) := by decide +kernel
theorem dX2_countWalks_101 : decode cX2_countWalks 101 = .ok (.isub, 1) := by decide +kernel
theorem dX2_countWalks_102 : decode cX2_countWalks 102 = .ok (.invokevirtual 85, 3) := by decide +kernel
theorem dX2_countWalks_105 : decode cX2_countWalks 105 = .ok (.iinc 2 1, 3) := by decide +kernel
theorem dX2_countWalks_108 : decode cX2_countWalks 108 = .ok (.goto (-39), 3) := by decide +kernel
theorem dX2_countWalks_111 : decode cX2_countWalks 111 = .ok (.lconst 0, 1) := by decide +kernel
theorem dX2_countWalks_112 : decode cX2_countWalks 112 = .ok (.lstore_n 2, 1) := by decide +kernel
theorem dX2_countWalks_113 : decode cX2_countWalks 113 = .ok (.iconst 0, 1) := by decide +kernel
theorem dX2_countWalks_114 : decode cX2_countWalks 114 = .ok (.istore 4, 2) := by decide +kernel
theorem dX2_countWalks_116 : decode cX2_countWalks 116 = .ok (.iload 4, 2) := by decide +kernel
theorem dX2_countWalks_118 : decode cX2_countWalks 118 = .ok (.bipush 9, 2) := by decide +kernel
theorem dX2_countWalks_120 : decode cX2_countWalks 120 = .ok (.if_icmp .ge 19, 3) := by decide +kernel
theorem dX2_countWalks_123 : decode cX2_countWalks 123 = .ok (.lload_n 2, 1) := by decide +kernel
theorem dX2_countWalks_124 : decode cX2_countWalks 124 = .ok (.aload_n 0, 1) := by decide +kernel
theorem dX2_countWalks_125 : decode cX2_countWalks 125 = .ok (.getfield 26, 3) := by decide +kernel
theorem dX2_countWalks_128 : decode cX2_countWalks 128 = .ok (.iload 4, 2) := by decide +kernel
theorem dX2_countWalks_130 : decode cX2_countWalks 130 = .ok (.laload, 1) := by decide +kernel
theorem dX2_countWalks_131 : decode cX2_countWalks 131 = .ok (.ladd, 1) := by decide +kernel
theorem dX2_countWalks_132 : decode cX2_countWalks 132 = .ok (.lstore_n 2, 1) := by decide +kernel
theorem dX2_countWalks_133 : decode cX2_countWalks 133 = .ok (.iinc 4 1, 3) := by decide +kernel
theorem dX2_countWalks_136 : decode cX2_countWalks 136 = .ok (.goto (-20), 3) := by decide +kernel
theorem dX2_countWalks_139 : decode cX2_countWalks 139 = .ok (.lload_n 2, 1) := by decide +kernel
theorem dX2_countWalks_140 : decode cX2_countWalks 140 = .ok (.lreturn, 1) := by decide +kernel
set_option maxRecDepth 20000 in
theorem ggX2_closeCells_X9_at : GoodIn wsX2_closeCells wsX9_at := goodIn_r _ [7, 8, 9, 22, 23, 24] (by decide +kernel) (by decide +kernel)
set_option maxRecDepth 20000 in
theorem gX2_closeCells_X9_at : GoodIn wsX2_closeCells (wsV RX2 51 RX9 yX9_at wsX9_at) := goodIn_app (goodIn_of _ (by decide +kernel)) ggX2_closeCells_X9_at
set_option maxRecDepth 20000 in
theorem ggX2_closeCells_X11_isLayer : GoodIn wsX2_closeCells wsX11_isLayer := goodIn_r _ [12, 13, 14, 11, 15] (by decide +kernel) (by decide +kernel)
set_option maxRecDepth 20000 in
theorem gX2_closeCells_X11_isLayer_n89 : GoodIn wsX2_closeCells (wsX11_isLayer) := ggX2_closeCells_X11_isLayer
theorem dX2_closeCells_0 : decode cX2_closeCells 0 = .ok (.iconst 0, 1) := by decide +kernel
theorem dX2_closeCells_1 : decode cX2_closeCells 1 = .ok (.istore_n 2, 1) := by decide +kernel
theorem dX2_closeCells_2 : decode cX2_closeCells 2 = .ok (.iload_n 2, 1) := by decide +kernel
theorem dX2_closeCells_3 : decode cX2_closeCells 3 = .ok (.aload_n 0, 1) := by decide +kernel
theorem dX2_closeCells_4 : decode cX2_closeCells 4 = .ok (.getfield 19, 3) := by decide +kernel
theorem dX2_closeCells_7 : decode cX2_closeCells 7 = .ok (.arraylength, 1) := by decide +kernel
theorem dX2_closeCells_8 : decode cX2_closeCells 8 = .ok (.if_icmp .ge 16, 3) := by decide +kernel
theorem dX2_closeCells_11 : decode cX2_closeCells 11 = .ok (.aload_n 0, 1) := by decide +kernel
theorem dX2_closeCells_12 : decode cX2_closeCells 12 = .ok (.getfield 19, 3) := by decide +kernel
theorem dX2_closeCells_15 : decode cX2_closeCells 15 = .ok (.iload_n 2, 1) := by decide +kernel
theorem dX2_closeCells_16 : decode cX2_closeCells 16 = .ok (.iconst 1, 1) := by decide +kernel
theorem dX2_closeCells_17 : decode cX2_closeCells 17 = .ok (.bastore, 1) := by decide +kernel
theorem dX2_closeCells_18 : decode cX2_closeCells 18 = .ok (.iinc 2 1, 3) := by decide +kernel
theorem dX2_closeCells_21 : decode cX2_closeCells 21 = .ok (.goto (-19), 3) := by decide +kernel
theorem dX2_closeCells_24 : decode cX2_closeCells 24 = .ok (.iconst 0, 1) := by decide +kernel
theorem dX2_closeCells_25 : decode cX2_closeCells 25 = .ok (.istore_n 2, 1) := by decide +kernel
theorem dX2_closeCells_26 : decode cX2_closeCells 26 = .ok (.iload_n 2, 1) := by decide +kernel
theorem dX2_closeCells_27 : decode cX2_closeCells 27 = .ok (.aload_n 1, 1) := by decide +kernel
theorem dX2_closeCells_28 : decode cX2_closeCells 28 = .ok (.getfield 46, 3) := by decide +kernel
theorem dX2_closeCells_31 : decode cX2_closeCells 31 = .ok (.if_icmp .ge 90, 3) := by decide +kernel
theorem dX2_closeCells_34 : decode cX2_closeCells 34 = .ok (.aload_n 1, 1) := by decide +kernel
theorem dX2_closeCells_35 : decode cX2_closeCells 35 = .ok (.iload_n 2, 1) := by decide +kernel
theorem dX2_closeCells_36 : decode cX2_closeCells 36 = .ok (.iconst 0, 1) := by decide +kernel
theorem dX2_closeCells_37 : decode cX2_closeCells 37 = .ok (.invokevirtual 51, 3) := by decide +kernel
theorem dX2_closeCells_40 : decode cX2_closeCells 40 = .ok (.istore_n 3, 1) := by decide +kernel
theorem dX2_closeCells_41 : decode cX2_closeCells 41 = .ok (.aload_n 1, 1) := by decide +kernel
theorem dX2_closeCells_42 : decode cX2_closeCells 42 = .ok (.iload_n 2, 1) := by decide +kernel
theorem dX2_closeCells_43 : decode cX2_closeCells 43 = .ok (.iconst 2, 1) := by decide +kernel
theorem dX2_closeCells_44 : decode cX2_closeCells 44 = .ok (.invokevirtual 51, 3) := by decide +kernel
theorem dX2_closeCells_47 : decode cX2_closeCells 47 = .ok (.iconst 1, 1) := by decide +kernel
theorem dX2_closeCells_48 : decode cX2_closeCells 48 = .ok (.if_icmp .ne 7, 3) := by decide +kernel
theorem dX2_closeCells_51 : decode cX2_closeCells 51 = .ok (.iconst 1, 1) := by decide +kernel
theorem dX2_closeCells_52 : decode cX2_closeCells 52 = .ok (.goto 4, 3) := by decide +kernel
theorem dX2_closeCells_55 : decode cX2_closeCells 55 = .ok (.iconst 0, 1) := by decide +kernel
theorem dX2_closeCells_56 : decode cX2_closeCells 56 = .ok (.istore 4, 2) := by decide +kernel
theorem dX2_closeCells_58 : decode cX2_closeCells 58 = .ok (.iconst 0, 1) := by decide +kernel
theorem dX2_closeCells_59 : decode cX2_closeCells 59 = .ok (.istore 5, 2) := by decide +kernel
theorem dX2_closeCells_61 : decode cX2_closeCells 61 = .ok (.iload 5, 2) := by decide +kernel
theorem dX2_closeCells_63 : decode cX2_closeCells 63 = .ok (.bipush 9, 2) := by decide +kernel
theorem dX2_closeCells_65 : decode cX2_closeCells 65 = .ok (.if_icmp .ge 50, 3) := by decide +kernel
theorem dX2_closeCells_68 : decode cX2_closeCells 68 = .ok (.iload_n 3, 1) := by decide +kernel
theorem dX2_closeCells_69 : decode cX2_closeCells 69 = .ok (.invokestatic 89, 3) := by decide +kernel
theorem dX2_closeCells_72 : decode cX2_closeCells 72 = .ok (.ifCond .eq 43, 3) := by decide +kernel
theorem dX2_closeCells_75 : decode cX2_closeCells 75 = .ok (.iload 5, 2) := by decide +kernel
theorem dX2_closeCells_77 : decode cX2_closeCells 77 = .ok (.aload_n 1, 1) := by decide +kernel
theorem dX2_closeCells_78 : decode cX2_closeCells 78 = .ok (.iload_n 2, 1) := by decide +kernel
theorem dX2_closeCells_79 : decode cX2_closeCells 79 = .ok (.iconst 1, 1) := by decide +kernel
theorem dX2_closeCells_80 : decode cX2_closeCells 80 = .ok (.invokevirtual 51, 3) := by decide +kernel
theorem dX2_closeCells_83 : decode cX2_closeCells 83 = .ok (.if_icmp .ne 7, 3) := by decide +kernel
theorem dX2_closeCells_86 : decode cX2_closeCells 86 = .ok (.iconst 1, 1) := by decide +kernel
theorem dX2_closeCells_87 : decode cX2_closeCells 87 = .ok (.goto 4, 3) := by decide +kernel
theorem dX2_closeCells_90 : decode cX2_closeCells 90 = .ok (.iconst 0, 1) := by decide +kernel
theorem dX2_closeCells_91 : decode cX2_closeCells 91 = .ok (.iload 4, 2) := by decide +kernel
theorem dX2_closeCells_93 : decode cX2_closeCells 93 = .ok (.if_icmp .eq 16, 3) := by decide +kernel
theorem dX2_closeCells_96 : decode cX2_closeCells 96 = .ok (.aload_n 0, 1) := by decide +kernel
theorem dX2_closeCells_97 : decode cX2_closeCells 97 = .ok (.getfield 19, 3) := by decide +kernel
theorem dX2_closeCells_100 : decode cX2_closeCells 100 = .ok (.iload_n 3, 1) := by decide +kernel
theorem dX2_closeCells_101 : decode cX2_closeCells 101 = .ok (.bipush 9, 2) := by decide +kernel
theorem dX2_closeCells_103 : decode cX2_closeCells 103 = .ok (.imul, 1) := by decide +kernel
theorem dX2_closeCells_104 : decode cX2_closeCells 104 = .ok (.iload 5, 2) := by decide +kernel
theorem dX2_closeCells_106 : decode cX2_closeCells 106 = .ok (.iadd, 1) := by decide +kernel
theorem dX2_closeCells_107 : decode cX2_closeCells 107 = .ok (.iconst 0, 1) := by decide +kernel
theorem dX2_closeCells_108 : decode cX2_closeCells 108 = .ok (.bastore, 1) := by decide +kernel
theorem dX2_closeCells_109 : decode cX2_closeCells 109 = .ok (.iinc 5 1, 3) := by decide +kernel
theorem dX2_closeCells_112 : decode cX2_closeCells 112 = .ok (.goto (-51), 3) := by decide +kernel
theorem dX2_closeCells_115 : decode cX2_closeCells 115 = .ok (.iinc 2 1, 3) := by decide +kernel
theorem dX2_closeCells_118 : decode cX2_closeCells 118 = .ok (.goto (-92), 3) := by decide +kernel
theorem dX2_closeCells_121 : decode cX2_closeCells 121 = .ok (.return_, 1) := by decide +kernel
set_option maxRecDepth 20000 in
theorem ggX2_spread_X11_isLayer : GoodIn wsX2_spread wsX11_isLayer := goodIn_r _ [4, 5, 6, 3, 7] (by decide +kernel) (by decide +kernel)
set_option maxRecDepth 20000 in
theorem gX2_spread_X11_isLayer_n89 : GoodIn wsX2_spread (wsX11_isLayer) := ggX2_spread_X11_isLayer
theorem dX2_spread_0 : decode cX2_spread 0 = .ok (.iload_n 2, 1) := by decide +kernel
theorem dX2_spread_1 : decode cX2_spread 1 = .ok (.invokestatic 89, 3) := by decide +kernel
theorem dX2_spread_4 : decode cX2_spread 4 = .ok (.ifCond .eq 10, 3) := by decide +kernel
theorem dX2_spread_7 : decode cX2_spread 7 = .ok (.iload_n 3, 1) := by decide +kernel
theorem dX2_spread_8 : decode cX2_spread 8 = .ok (.invokestatic 89, 3) := by decide +kernel
theorem dX2_spread_11 : decode cX2_spread 11 = .ok (.ifCond .ne 4, 3) := by decide +kernel
theorem dX2_spread_14 : decode cX2_spread 14 = .ok (.return_, 1) := by decide +kernel
theorem dX2_spread_15 : decode cX2_spread 15 = .ok (.iload_n 2, 1) := by decide +kernel
theorem dX2_spread_16 : decode cX2_spread 16 = .ok (.bipush 9, 2) := by decide +kernel
theorem dX2_spread_18 : decode cX2_spread 18 = .ok (.imul, 1) := by decide +kernel
theorem dX2_spread_19 : decode cX2_spread 19 = .ok (.istore 4, 2) := by decide +kernel
theorem dX2_spread_21 : decode cX2_spread 21 = .ok (.iconst 0, 1) := by decide +kernel
theorem dX2_spread_22 : decode cX2_spread 22 = .ok (.istore 5, 2) := by decide +kernel
theorem dX2_spread_24 : decode cX2_spread 24 = .ok (.iload 5, 2) := by decide +kernel
theorem dX2_spread_26 : decode cX2_spread 26 = .ok (.bipush 9, 2) := by decide +kernel
theorem dX2_spread_28 : decode cX2_spread 28 = .ok (.if_icmp .ge 147, 3) := by decide +kernel
theorem dX2_spread_31 : decode cX2_spread 31 = .ok (.aload_n 1, 1) := by decide +kernel
theorem dX2_spread_32 : decode cX2_spread 32 = .ok (.iload 4, 2) := by decide +kernel
theorem dX2_spread_34 : decode cX2_spread 34 = .ok (.iload 5, 2) := by decide +kernel
theorem dX2_spread_36 : decode cX2_spread 36 = .ok (.iadd, 1) := by decide +kernel
theorem dX2_spread_37 : decode cX2_spread 37 = .ok (.laload, 1) := by decide +kernel
theorem dX2_spread_38 : decode cX2_spread 38 = .ok (.lstore 6, 2) := by decide +kernel
theorem dX2_spread_40 : decode cX2_spread 40 = .ok (.lload 6, 2) := by decide +kernel
theorem dX2_spread_42 : decode cX2_spread 42 = .ok (.iload 5, 2) := by decide +kernel
theorem dX2_spread_44 : decode cX2_spread 44 = .ok (.iconst 3, 1) := by decide +kernel
theorem dX2_spread_45 : decode cX2_spread 45 = .ok (.if_icmp .lt 15, 3) := by decide +kernel
theorem dX2_spread_48 : decode cX2_spread 48 = .ok (.aload_n 1, 1) := by decide +kernel
theorem dX2_spread_49 : decode cX2_spread 49 = .ok (.iload 4, 2) := by decide +kernel
theorem dX2_spread_51 : decode cX2_spread 51 = .ok (.iload 5, 2) := by decide +kernel
theorem dX2_spread_53 : decode cX2_spread 53 = .ok (.iadd, 1) := by decide +kernel
theorem dX2_spread_54 : decode cX2_spread 54 = .ok (.iconst 3, 1) := by decide +kernel
theorem dX2_spread_55 : decode cX2_spread 55 = .ok (.isub, 1) := by decide +kernel
theorem dX2_spread_56 : decode cX2_spread 56 = .ok (.laload, 1) := by decide +kernel
theorem dX2_spread_57 : decode cX2_spread 57 = .ok (.goto 4, 3) := by decide +kernel
theorem dX2_spread_60 : decode cX2_spread 60 = .ok (.lconst 0, 1) := by decide +kernel
theorem dX2_spread_61 : decode cX2_spread 61 = .ok (.ladd, 1) := by decide +kernel
theorem dX2_spread_62 : decode cX2_spread 62 = .ok (.lstore 6, 2) := by decide +kernel
theorem dX2_spread_64 : decode cX2_spread 64 = .ok (.lload 6, 2) := by decide +kernel
theorem dX2_spread_66 : decode cX2_spread 66 = .ok (.iload 5, 2) := by decide +kernel
theorem dX2_spread_68 : decode cX2_spread 68 = .ok (.bipush 6, 2) := by decide +kernel
theorem dX2_spread_70 : decode cX2_spread 70 = .ok (.if_icmp .ge 15, 3) := by decide +kernel
theorem dX2_spread_73 : decode cX2_spread 73 = .ok (.aload_n 1, 1) := by decide +kernel
theorem dX2_spread_74 : decode cX2_spread 74 = .ok (.iload 4, 2) := by decide +kernel
theorem dX2_spread_76 : decode cX2_spread 76 = .ok (.iload 5, 2) := by decide +kernel
theorem dX2_spread_78 : decode cX2_spread 78 = .ok (.iadd, 1) := by decide +kernel
theorem dX2_spread_79 : decode cX2_spread 79 = .ok (.iconst 3, 1) := by decide +kernel
theorem dX2_spread_80 : decode cX2_spread 80 = .ok (.iadd, 1) := by decide +kernel
theorem dX2_spread_81 : decode cX2_spread 81 = .ok (.laload, 1) := by decide +kernel
theorem dX2_spread_82 : decode cX2_spread 82 = .ok (.goto 4, 3) := by decide +kernel
theorem dX2_spread_85 : decode cX2_spread 85 = .ok (.lconst 0, 1) := by decide +kernel
theorem dX2_spread_86 : decode cX2_spread 86 = .ok (.ladd, 1) := by decide +kernel
theorem dX2_spread_87 : decode cX2_spread 87 = .ok (.lstore 6, 2) := by decide +kernel
theorem dX2_spread_89 : decode cX2_spread 89 = .ok (.lload 6, 2) := by decide +kernel
theorem dX2_spread_91 : decode cX2_spread 91 = .ok (.iload 5, 2) := by decide +kernel
theorem dX2_spread_93 : decode cX2_spread 93 = .ok (.iconst 3, 1) := by decide +kernel
theorem dX2_spread_94 : decode cX2_spread 94 = .ok (.irem, 1) := by decide +kernel
theorem dX2_spread_95 : decode cX2_spread 95 = .ok (.ifCond .le 15, 3) := by decide +kernel
theorem dX2_spread_98 : decode cX2_spread 98 = .ok (.aload_n 1, 1) := by decide +kernel
theorem dX2_spread_99 : decode cX2_spread 99 = .ok (.iload 4, 2) := by decide +kernel
theorem dX2_spread_101 : decode cX2_spread 101 = .ok (.iload 5, 2) := by decide +kernel
theorem dX2_spread_103 : decode cX2_spread 103 = .ok (.iadd, 1) := by decide +kernel
theorem dX2_spread_104 : decode cX2_spread 104 = .ok (.iconst 1, 1) := by decide +kernel
theorem dX2_spread_105 : decode cX2_spread 105 = .ok (.isub, 1) := by decide +kernel
theorem dX2_spread_106 : decode cX2_spread 106 = .ok (.laload, 1) := by decide +kernel
theorem dX2_spread_107 : decode cX2_spread 107 = .ok (.goto 4, 3) := by decide +kernel
theorem dX2_spread_110 : decode cX2_spread 110 = .ok (.lconst 0, 1) := by decide +kernel
theorem dX2_spread_111 : decode cX2_spread 111 = .ok (.ladd, 1) := by decide +kernel
theorem dX2_spread_112 : decode cX2_spread 112 = .ok (.lstore 6, 2) := by decide +kernel
theorem dX2_spread_114 : decode cX2_spread 114 = .ok (.lload 6, 2) := by decide +kernel
theorem dX2_spread_116 : decode cX2_spread 116 = .ok (.iload 5, 2) := by decide +kernel
theorem dX2_spread_118 : decode cX2_spread 118 = .ok (.iconst 3, 1) := by decide +kernel
theorem dX2_spread_119 : decode cX2_spread 119 = .ok (.irem, 1) := by decide +kernel
theorem dX2_spread_120 : decode cX2_spread 120 = .ok (.iconst 2, 1) := by decide +kernel
theorem dX2_spread_121 : decode cX2_spread 121 = .ok (.if_icmp .ge 15, 3) := by decide +kernel
theorem dX2_spread_124 : decode cX2_spread 124 = .ok (.aload_n 1, 1) := by decide +kernel
theorem dX2_spread_125 : decode cX2_spread 125 = .ok (.iload 4, 2) := by decide +kernel
theorem dX2_spread_127 : decode cX2_spread 127 = .ok (.iload 5, 2) := by decide +kernel
theorem dX2_spread_129 : decode cX2_spread 129 = .ok (.iadd, 1) := by decide +kernel
theorem dX2_spread_130 : decode cX2_spread 130 = .ok (.iconst 1, 1) := by decide +kernel
theorem dX2_spread_131 : decode cX2_spread 131 = .ok (.iadd, 1) := by decide +kernel
theorem dX2_spread_132 : decode cX2_spread 132 = .ok (.laload, 1) := by decide +kernel
theorem dX2_spread_133 : decode cX2_spread 133 = .ok (.goto 4, 3) := by decide +kernel
theorem dX2_spread_136 : decode cX2_spread 136 = .ok (.lconst 0, 1) := by decide +kernel
theorem dX2_spread_137 : decode cX2_spread 137 = .ok (.ladd, 1) := by decide +kernel
theorem dX2_spread_138 : decode cX2_spread 138 = .ok (.lstore 6, 2) := by decide +kernel
theorem dX2_spread_140 : decode cX2_spread 140 = .ok (.iload_n 3, 1) := by decide +kernel
theorem dX2_spread_141 : decode cX2_spread 141 = .ok (.bipush 9, 2) := by decide +kernel
theorem dX2_spread_143 : decode cX2_spread 143 = .ok (.imul, 1) := by decide +kernel
theorem dX2_spread_144 : decode cX2_spread 144 = .ok (.iload 5, 2) := by decide +kernel
theorem dX2_spread_146 : decode cX2_spread 146 = .ok (.iadd, 1) := by decide +kernel
theorem dX2_spread_147 : decode cX2_spread 147 = .ok (.istore 8, 2) := by decide +kernel
theorem dX2_spread_149 : decode cX2_spread 149 = .ok (.aload_n 1, 1) := by decide +kernel
theorem dX2_spread_150 : decode cX2_spread 150 = .ok (.iload 8, 2) := by decide +kernel
theorem dX2_spread_152 : decode cX2_spread 152 = .ok (.aload_n 0, 1) := by decide +kernel
theorem dX2_spread_153 : decode cX2_spread 153 = .ok (.getfield 19, 3) := by decide +kernel
theorem dX2_spread_156 : decode cX2_spread 156 = .ok (.iload 8, 2) := by decide +kernel
theorem dX2_spread_158 : decode cX2_spread 158 = .ok (.baload, 1) := by decide +kernel
theorem dX2_spread_159 : decode cX2_spread 159 = .ok (.ifCond .eq 8, 3) := by decide +kernel
theorem dX2_spread_162 : decode cX2_spread 162 = .ok (.lload 6, 2) := by decide +kernel
theorem dX2_spread_164 : decode cX2_spread 164 = .ok (.goto 4, 3) := by decide +kernel
theorem dX2_spread_167 : decode cX2_spread 167 = .ok (.lconst 0, 1) := by decide +kernel
theorem dX2_spread_168 : decode cX2_spread 168 = .ok (.lastore, 1) := by decide +kernel
theorem dX2_spread_169 : decode cX2_spread 169 = .ok (.iinc 5 1, 3) := by decide +kernel
theorem dX2_spread_172 : decode cX2_spread 172 = .ok (.goto (-148), 3) := by decide +kernel
theorem dX2_spread_175 : decode cX2_spread 175 = .ok (.return_, 1) := by decide +kernel
set_option maxRecDepth 20000 in
theorem ggX2_cellsIn_X11_isLayer : GoodIn wsX2_cellsIn wsX11_isLayer := goodIn_r _ [5, 6, 7, 4, 8] (by decide +kernel) (by decide +kernel)
set_option maxRecDepth 20000 in
theorem gX2_cellsIn_X11_isLayer_n89 : GoodIn wsX2_cellsIn (wsX11_isLayer) := ggX2_cellsIn_X11_isLayer
theorem dX2_cellsIn_0 : decode cX2_cellsIn 0 = .ok (.iconst 0, 1) := by decide +kernel
theorem dX2_cellsIn_1 : decode cX2_cellsIn 1 = .ok (.istore_n 2, 1) := by decide +kernel
theorem dX2_cellsIn_2 : decode cX2_cellsIn 2 = .ok (.iconst 0, 1) := by decide +kernel
theorem dX2_cellsIn_3 : decode cX2_cellsIn 3 = .ok (.istore_n 3, 1) := by decide +kernel
theorem dX2_cellsIn_4 : decode cX2_cellsIn 4 = .ok (.iload_n 3, 1) := by decide +kernel
theorem dX2_cellsIn_5 : decode cX2_cellsIn 5 = .ok (.bipush 9, 2) := by decide +kernel
theorem dX2_cellsIn_7 : decode cX2_cellsIn 7 = .ok (.if_icmp .ge 54, 3) := by decide +kernel
theorem dX2_cellsIn_10 : decode cX2_cellsIn 10 = .ok (.iload_n 1, 1) := by decide +kernel
theorem dX2_cellsIn_11 : decode cX2_cellsIn 11 = .ok (.invokestatic 89, 3) := by decide +kernel
theorem dX2_cellsIn_14 : decode cX2_cellsIn 14 = .ok (.ifCond .eq 47, 3) := by decide +kernel
theorem dX2_cellsIn_17 : decode cX2_cellsIn 17 = .ok (.iload_n 1, 1) := by decide +kernel
theorem dX2_cellsIn_18 : decode cX2_cellsIn 18 = .ok (.bipush 9, 2) := by decide +kernel
theorem dX2_cellsIn_20 : decode cX2_cellsIn 20 = .ok (.imul, 1) := by decide +kernel
theorem dX2_cellsIn_21 : decode cX2_cellsIn 21 = .ok (.iload_n 3, 1) := by decide +kernel
theorem dX2_cellsIn_22 : decode cX2_cellsIn 22 = .ok (.iadd, 1) := by decide +kernel
theorem dX2_cellsIn_23 : decode cX2_cellsIn 23 = .ok (.istore 4, 2) := by decide +kernel
theorem dX2_cellsIn_25 : decode cX2_cellsIn 25 = .ok (.aload_n 0, 1) := by decide +kernel
theorem dX2_cellsIn_26 : decode cX2_cellsIn 26 = .ok (.getfield 22, 3) := by decide +kernel
theorem dX2_cellsIn_29 : decode cX2_cellsIn 29 = .ok (.iload 4, 2) := by decide +kernel
theorem dX2_cellsIn_31 : decode cX2_cellsIn 31 = .ok (.laload, 1) := by decide +kernel
theorem dX2_cellsIn_32 : decode cX2_cellsIn 32 = .ok (.lconst 0, 1) := by decide +kernel
theorem dX2_cellsIn_33 : decode cX2_cellsIn 33 = .ok (.lcmp, 1) := by decide +kernel
theorem dX2_cellsIn_34 : decode cX2_cellsIn 34 = .ok (.ifCond .le 21, 3) := by decide +kernel
theorem dX2_cellsIn_37 : decode cX2_cellsIn 37 = .ok (.aload_n 0, 1) := by decide +kernel
theorem dX2_cellsIn_38 : decode cX2_cellsIn 38 = .ok (.getfield 26, 3) := by decide +kernel
theorem dX2_cellsIn_41 : decode cX2_cellsIn 41 = .ok (.iload 4, 2) := by decide +kernel
theorem dX2_cellsIn_43 : decode cX2_cellsIn 43 = .ok (.laload, 1) := by decide +kernel
theorem dX2_cellsIn_44 : decode cX2_cellsIn 44 = .ok (.lconst 0, 1) := by decide +kernel
theorem dX2_cellsIn_45 : decode cX2_cellsIn 45 = .ok (.lcmp, 1) := by decide +kernel
theorem dX2_cellsIn_46 : decode cX2_cellsIn 46 = .ok (.ifCond .le 9, 3) := by decide +kernel
theorem dX2_cellsIn_49 : decode cX2_cellsIn 49 = .ok (.iload_n 2, 1) := by decide +kernel
theorem dX2_cellsIn_50 : decode cX2_cellsIn 50 = .ok (.iconst 1, 1) := by decide +kernel
theorem dX2_cellsIn_51 : decode cX2_cellsIn 51 = .ok (.iload_n 3, 1) := by decide +kernel
theorem dX2_cellsIn_52 : decode cX2_cellsIn 52 = .ok (.ishl, 1) := by decide +kernel
theorem dX2_cellsIn_53 : decode cX2_cellsIn 53 = .ok (.ior, 1) := by decide +kernel
theorem dX2_cellsIn_54 : decode cX2_cellsIn 54 = .ok (.istore_n 2, 1) := by decide +kernel
theorem dX2_cellsIn_55 : decode cX2_cellsIn 55 = .ok (.iinc 3 1, 3) := by decide +kernel
theorem dX2_cellsIn_58 : decode cX2_cellsIn 58 = .ok (.goto (-54), 3) := by decide +kernel
theorem dX2_cellsIn_61 : decode cX2_cellsIn 61 = .ok (.iload_n 2, 1) := by decide +kernel
theorem dX2_cellsIn_62 : decode cX2_cellsIn 62 = .ok (.ireturn, 1) := by decide +kernel
set_option maxRecDepth 20000 in
theorem ggX2_widestLayer_X2_cellsIn : GoodIn wsX2_widestLayer wsX2_cellsIn := goodIn_r _ [5, 6, 7, 8, 9, 10, 11, 12, 13, 21, 22, 23, 24, 25, 26] (by decide +kernel) (by decide +kernel)
set_option maxRecDepth 20000 in
theorem gX2_widestLayer_X2_cellsIn : GoodIn wsX2_widestLayer (wsV RX2 92 RX2 yX2_cellsIn wsX2_cellsIn) := goodIn_app (goodIn_of _ (by decide +kernel)) ggX2_widestLayer_X2_cellsIn
set_option maxRecDepth 20000 in
theorem ggX2_widestLayer_J6_bitCount_0f7a4 : GoodIn wsX2_widestLayer wsJ6_bitCount_0f7a4 := goodIn_r _ [17, 18, 19, 20] (by decide +kernel) (by decide +kernel)
set_option maxRecDepth 20000 in
theorem gX2_widestLayer_J6_bitCount_0f7a4 : GoodIn wsX2_widestLayer (va_wsS RX2 96 yJ6_bitCount_0f7a4 wsJ6_bitCount_0f7a4) := goodIn_app (goodIn_of _ (by decide +kernel)) ggX2_widestLayer_J6_bitCount_0f7a4
theorem dX2_widestLayer_0 : decode cX2_widestLayer 0 = .ok (.iconst 0, 1) := by decide +kernel
theorem dX2_widestLayer_1 : decode cX2_widestLayer 1 = .ok (.istore_n 1, 1) := by decide +kernel
theorem dX2_widestLayer_2 : decode cX2_widestLayer 2 = .ok (.iconst 1, 1) := by decide +kernel
theorem dX2_widestLayer_3 : decode cX2_widestLayer 3 = .ok (.istore_n 2, 1) := by decide +kernel
theorem dX2_widestLayer_4 : decode cX2_widestLayer 4 = .ok (.iload_n 2, 1) := by decide +kernel
theorem dX2_widestLayer_5 : decode cX2_widestLayer 5 = .ok (.bipush 12, 2) := by decide +kernel
theorem dX2_widestLayer_7 : decode cX2_widestLayer 7 = .ok (.if_icmp .ge 30, 3) := by decide +kernel
theorem dX2_widestLayer_10 : decode cX2_widestLayer 10 = .ok (.aload_n 0, 1) := by decide +kernel
theorem dX2_widestLayer_11 : decode cX2_widestLayer 11 = .ok (.iload_n 2, 1) := by decide +kernel
theorem dX2_widestLayer_12 : decode cX2_widestLayer 12 = .ok (.invokevirtual 92, 3) := by decide +kernel
theorem dX2_widestLayer_15 : decode cX2_widestLayer 15 = .ok (.invokestatic 96, 3) := by decide +kernel
theorem dX2_widestLayer_18 : decode cX2_widestLayer 18 = .ok (.aload_n 0, 1) := by decide +kernel
theorem dX2_widestLayer_19 : decode cX2_widestLayer 19 = .ok (.iload_n 1, 1) := by decide +kernel
theorem dX2_widestLayer_20 : decode cX2_widestLayer 20 = .ok (.invokevirtual 92, 3) := by decide +kernel
theorem dX2_widestLayer_23 : decode cX2_widestLayer 23 = .ok (.invokestatic 96, 3) := by decide +kernel
theorem dX2_widestLayer_26 : decode cX2_widestLayer 26 = .ok (.if_icmp .le 5, 3) := by decide +kernel
theorem dX2_widestLayer_29 : decode cX2_widestLayer 29 = .ok (.iload_n 2, 1) := by decide +kernel
theorem dX2_widestLayer_30 : decode cX2_widestLayer 30 = .ok (.istore_n 1, 1) := by decide +kernel
theorem dX2_widestLayer_31 : decode cX2_widestLayer 31 = .ok (.iinc 2 1, 3) := by decide +kernel
theorem dX2_widestLayer_34 : decode cX2_widestLayer 34 = .ok (.goto (-30), 3) := by decide +kernel
theorem dX2_widestLayer_37 : decode cX2_widestLayer 37 = .ok (.iload_n 1, 1) := by decide +kernel
theorem dX2_widestLayer_38 : decode cX2_widestLayer 38 = .ok (.ireturn, 1) := by decide +kernel
set_option maxRecDepth 20000 in
theorem ggX3_init_X5_init : GoodIn wsX3_init wsX5_init := goodIn_r _ [3, 4, 5, 6] (by decide +kernel) (by decide +kernel)
set_option maxRecDepth 20000 in
theorem gX3_init_X5_init_n3 : GoodIn wsX3_init (wsX5_init) := ggX3_init_X5_init
theorem dX3_init_0 : decode cX3_init 0 = .ok (.aload_n 0, 1) := by decide +kernel
theorem dX3_init_1 : decode cX3_init 1 = .ok (.invokespecial 3, 3) := by decide +kernel
theorem dX3_init_4 : decode cX3_init 4 = .ok (.return_, 1) := by decide +kernel
set_option maxRecDepth 20000 in
theorem ggX3_burnsFor_X5_burnsFor : GoodIn wsX3_burnsFor wsX5_burnsFor := goodIn_r _ [6] (by decide +kernel) (by decide +kernel)
set_option maxRecDepth 20000 in
theorem gX3_burnsFor_X5_burnsFor_s9 : GoodIn wsX3_burnsFor (va_wsSU RX3 9 yX5_burnsFor wsX5_burnsFor) := goodIn_app (goodIn_of _ (by decide +kernel)) ggX3_burnsFor_X5_burnsFor
theorem dX3_burnsFor_0 : decode cX3_burnsFor 0 = .ok (.iconst 2, 1) := by decide +kernel
theorem dX3_burnsFor_1 : decode cX3_burnsFor 1 = .ok (.aload_n 0, 1) := by decide +kernel
theorem dX3_burnsFor_2 : decode cX3_burnsFor 2 = .ok (.iload_n 1, 1) := by decide +kernel
theorem dX3_burnsFor_3 : decode cX3_burnsFor 3 = .ok (.invokespecial 9, 3) := by decide +kernel
theorem dX3_burnsFor_6 : decode cX3_burnsFor 6 = .ok (.imul, 1) := by decide +kernel
theorem dX3_burnsFor_7 : decode cX3_burnsFor 7 = .ok (.ireturn, 1) := by decide +kernel
set_option maxRecDepth 20000 in
theorem ggX3_own_X5_own : GoodIn wsX3_own wsX5_own := goodIn_r _ [6] (by decide +kernel) (by decide +kernel)
set_option maxRecDepth 20000 in
theorem gX3_own_X5_own_s13 : GoodIn wsX3_own (va_wsSU RX3 13 yX5_own wsX5_own) := goodIn_app (goodIn_of _ (by decide +kernel)) ggX3_own_X5_own
theorem dX3_own_0 : decode cX3_own 0 = .ok (.iload_n 2, 1) := by decide +kernel
theorem dX3_own_1 : decode cX3_own 1 = .ok (.ifCond .ge 7, 3) := by decide +kernel
theorem dX3_own_4 : decode cX3_own 4 = .ok (.iconst (-1), 1) := by decide +kernel
theorem dX3_own_5 : decode cX3_own 5 = .ok (.goto 11, 3) := by decide +kernel
theorem dX3_own_8 : decode cX3_own 8 = .ok (.aload_n 0, 1) := by decide +kernel
theorem dX3_own_9 : decode cX3_own 9 = .ok (.iload_n 1, 1) := by decide +kernel
theorem dX3_own_10 : decode cX3_own 10 = .ok (.iload_n 2, 1) := by decide +kernel
theorem dX3_own_11 : decode cX3_own 11 = .ok (.iconst 2, 1) := by decide +kernel
theorem dX3_own_12 : decode cX3_own 12 = .ok (.idiv, 1) := by decide +kernel
theorem dX3_own_13 : decode cX3_own 13 = .ok (.invokespecial 13, 3) := by decide +kernel
theorem dX3_own_16 : decode cX3_own 16 = .ok (.ireturn, 1) := by decide +kernel
set_option maxRecDepth 20000 in
theorem ggX4_init_X5_init : GoodIn wsX4_init wsX5_init := goodIn_r _ [37, 38, 2, 3] (by decide +kernel) (by decide +kernel)
set_option maxRecDepth 20000 in
theorem gX4_init_X5_init_n11 : GoodIn wsX4_init (wsX5_init) := ggX4_init_X5_init
set_option maxRecDepth 20000 in
theorem ggX4_init_X0_init : GoodIn wsX4_init wsX0_init := goodIn_r _ [40, 36, 6, 37, 38, 2, 3] (by decide +kernel) (by decide +kernel)
set_option maxRecDepth 20000 in
theorem gX4_init_X0_init_n14 : GoodIn wsX4_init (wsX0_init) := ggX4_init_X0_init
set_option maxRecDepth 20000 in
theorem ggX4_init_X7_init : GoodIn wsX4_init wsX7_init := goodIn_r _ [42, 36, 6, 37, 38, 2, 3] (by decide +kernel) (by decide +kernel)
set_option maxRecDepth 20000 in
theorem gX4_init_X7_init_n17 : GoodIn wsX4_init (wsX7_init) := ggX4_init_X7_init
set_option maxRecDepth 20000 in
theorem ggX4_init_X3_init : GoodIn wsX4_init wsX3_init := goodIn_r _ [44, 36, 6, 37, 38, 2, 3] (by decide +kernel) (by decide +kernel)
set_option maxRecDepth 20000 in
theorem gX4_init_X3_init_n20 : GoodIn wsX4_init (wsX3_init) := ggX4_init_X3_init
set_option maxRecDepth 20000 in
theorem ggX4_init_X1_init : GoodIn wsX4_init wsX1_init := goodIn_r _ [46, 39, 9, 40, 36, 6, 37, 38, 2, 3] (by decide +kernel) (by decide +kernel)
set_option maxRecDepth 20000 in
theorem gX4_init_X1_init_n23 : GoodIn wsX4_init (wsX1_init) := ggX4_init_X1_init
set_option maxRecDepth 20000 in
theorem ggX4_init_X8_init : GoodIn wsX4_init wsX8_init := goodIn_r _ [48, 43, 15, 44, 36, 6, 37, 38, 2, 3] (by decide +kernel) (by decide +kernel)
set_option maxRecDepth 20000 in
theorem gX4_init_X8_init_n26 : GoodIn wsX4_init (wsX8_init) := ggX4_init_X8_init
set_option maxRecDepth 20000 in
theorem ggX4_init_X9_init : GoodIn wsX4_init wsX9_init := goodIn_r _ [51, 52, 2, 3, 23, 53, 54, 55, 56, 57, 58, 76, 77, 78] (by decide +kernel) (by decide +kernel)
set_option maxRecDepth 20000 in
theorem gX4_init_X9_init : GoodIn wsX4_init (wsX9_init) := ggX4_init_X9_init
set_option maxRecDepth 20000 in
theorem ggX4_init_J7_fill_53178 : GoodIn wsX4_init wsJ7_fill_53178 := goodIn_r _ [62] (by decide +kernel) (by decide +kernel)
set_option maxRecDepth 20000 in
theorem gX4_init_J7_fill_53178 : GoodIn wsX4_init (va_wsS RX4 64 yJ7_fill_53178 wsJ7_fill_53178) := goodIn_app (goodIn_of _ (by decide +kernel)) ggX4_init_J7_fill_53178
theorem dX4_init_0 : decode cX4_init 0 = .ok (.aload_n 0, 1) := by decide +kernel
theorem dX4_init_1 : decode cX4_init 1 = .ok (.invokespecial 3, 3) := by decide +kernel
theorem dX4_init_4 : decode cX4_init 4 = .ok (.aload_n 0, 1) := by decide +kernel
theorem dX4_init_5 : decode cX4_init 5 = .ok (.bipush 6, 2) := by decide +kernel
theorem dX4_init_7 : decode cX4_init 7 = .ok (.anewarray 9, 3) := by decide +kernel
theorem dX4_init_10 : decode cX4_init 10 = .ok (.dup, 1) := by decide +kernel
theorem dX4_init_11 : decode cX4_init 11 = .ok (.iconst 0, 1) := by decide +kernel
theorem dX4_init_12 : decode cX4_init 12 = .ok (.new 9, 3) := by decide +kernel
theorem dX4_init_15 : decode cX4_init 15 = .ok (.dup, 1) := by decide +kernel
theorem dX4_init_16 : decode cX4_init 16 = .ok (.invokespecial 11, 3) := by decide +kernel
theorem dX4_init_19 : decode cX4_init 19 = .ok (.aastore, 1) := by decide +kernel
theorem dX4_init_20 : decode cX4_init 20 = .ok (.dup, 1) := by decide +kernel
theorem dX4_init_21 : decode cX4_init 21 = .ok (.iconst 1, 1) := by decide +kernel
theorem dX4_init_22 : decode cX4_init 22 = .ok (.new 12, 3) := by decide +kernel
theorem dX4_init_25 : decode cX4_init 25 = .ok (.dup, 1) := by decide +kernel
theorem dX4_init_26 : decode cX4_init 26 = .ok (.invokespecial 14, 3) := by decide +kernel
theorem dX4_init_29 : decode cX4_init 29 = .ok (.aastore, 1) := by decide +kernel
theorem dX4_init_30 : decode cX4_init 30 = .ok (.dup, 1) := by decide +kernel
theorem dX4_init_31 : decode cX4_init 31 = .ok (.iconst 2, 1) := by decide +kernel
theorem dX4_init_32 : decode cX4_init 32 = .ok (.new 15, 3) := by decide +kernel
theorem dX4_init_35 : decode cX4_init 35 = .ok (.dup, 1) := by decide +kernel
theorem dX4_init_36 : decode cX4_init 36 = .ok (.invokespecial 17, 3) := by decide +kernel
theorem dX4_init_39 : decode cX4_init 39 = .ok (.aastore, 1) := by decide +kernel
theorem dX4_init_40 : decode cX4_init 40 = .ok (.dup, 1) := by decide +kernel
theorem dX4_init_41 : decode cX4_init 41 = .ok (.iconst 3, 1) := by decide +kernel
theorem dX4_init_42 : decode cX4_init 42 = .ok (.new 18, 3) := by decide +kernel
theorem dX4_init_45 : decode cX4_init 45 = .ok (.dup, 1) := by decide +kernel
theorem dX4_init_46 : decode cX4_init 46 = .ok (.invokespecial 20, 3) := by decide +kernel
theorem dX4_init_49 : decode cX4_init 49 = .ok (.aastore, 1) := by decide +kernel
theorem dX4_init_50 : decode cX4_init 50 = .ok (.dup, 1) := by decide +kernel
theorem dX4_init_51 : decode cX4_init 51 = .ok (.iconst 4, 1) := by decide +kernel
theorem dX4_init_52 : decode cX4_init 52 = .ok (.new 21, 3) := by decide +kernel
theorem dX4_init_55 : decode cX4_init 55 = .ok (.dup, 1) := by decide +kernel
theorem dX4_init_56 : decode cX4_init 56 = .ok (.invokespecial 23, 3) := by decide +kernel
theorem dX4_init_59 : decode cX4_init 59 = .ok (.aastore, 1) := by decide +kernel
theorem dX4_init_60 : decode cX4_init 60 = .ok (.dup, 1) := by decide +kernel
theorem dX4_init_61 : decode cX4_init 61 = .ok (.iconst 5, 1) := by decide +kernel
theorem dX4_init_62 : decode cX4_init 62 = .ok (.new 24, 3) := by decide +kernel
theorem dX4_init_65 : decode cX4_init 65 = .ok (.dup, 1) := by decide +kernel
theorem dX4_init_66 : decode cX4_init 66 = .ok (.invokespecial 26, 3) := by decide +kernel
theorem dX4_init_69 : decode cX4_init 69 = .ok (.aastore, 1) := by decide +kernel
theorem dX4_init_70 : decode cX4_init 70 = .ok (.putfield 27, 3) := by decide +kernel
theorem dX4_init_73 : decode cX4_init 73 = .ok (.aload_n 0, 1) := by decide +kernel
theorem dX4_init_74 : decode cX4_init 74 = .ok (.bipush 12, 2) := by decide +kernel
theorem dX4_init_76 : decode cX4_init 76 = .ok (.newarray .int, 2) := by decide +kernel
theorem dX4_init_78 : decode cX4_init 78 = .ok (.putfield 33, 3) := by decide +kernel
theorem dX4_init_81 : decode cX4_init 81 = .ok (.aload_n 0, 1) := by decide +kernel
theorem dX4_init_82 : decode cX4_init 82 = .ok (.bipush 6, 2) := by decide +kernel
theorem dX4_init_84 : decode cX4_init 84 = .ok (.newarray .int, 2) := by decide +kernel
theorem dX4_init_86 : decode cX4_init 86 = .ok (.putfield 37, 3) := by decide +kernel
theorem dX4_init_89 : decode cX4_init 89 = .ok (.aload_n 0, 1) := by decide +kernel
theorem dX4_init_90 : decode cX4_init 90 = .ok (.new 40, 3) := by decide +kernel
theorem dX4_init_93 : decode cX4_init 93 = .ok (.dup, 1) := by decide +kernel
theorem dX4_init_94 : decode cX4_init 94 = .ok (.bipush 8, 2) := by decide +kernel
theorem dX4_init_96 : decode cX4_init 96 = .ok (.invokespecial 42, 3) := by decide +kernel
theorem dX4_init_99 : decode cX4_init 99 = .ok (.putfield 45, 3) := by decide +kernel
theorem dX4_init_102 : decode cX4_init 102 = .ok (.aload_n 0, 1) := by decide +kernel
theorem dX4_init_103 : decode cX4_init 103 = .ok (.new 40, 3) := by decide +kernel
theorem dX4_init_106 : decode cX4_init 106 = .ok (.dup, 1) := by decide +kernel
theorem dX4_init_107 : decode cX4_init 107 = .ok (.bipush 8, 2) := by decide +kernel
theorem dX4_init_109 : decode cX4_init 109 = .ok (.invokespecial 42, 3) := by decide +kernel
theorem dX4_init_112 : decode cX4_init 112 = .ok (.putfield 49, 3) := by decide +kernel
theorem dX4_init_115 : decode cX4_init 115 = .ok (.aload_n 0, 1) := by decide +kernel
theorem dX4_init_116 : decode cX4_init 116 = .ok (.new 40, 3) := by decide +kernel
theorem dX4_init_119 : decode cX4_init 119 = .ok (.dup, 1) := by decide +kernel
theorem dX4_init_120 : decode cX4_init 120 = .ok (.bipush 10, 2) := by decide +kernel
theorem dX4_init_122 : decode cX4_init 122 = .ok (.invokespecial 42, 3) := by decide +kernel
theorem dX4_init_125 : decode cX4_init 125 = .ok (.putfield 52, 3) := by decide +kernel
theorem dX4_init_128 : decode cX4_init 128 = .ok (.aload_n 0, 1) := by decide +kernel
theorem dX4_init_129 : decode cX4_init 129 = .ok (.new 40, 3) := by decide +kernel
theorem dX4_init_132 : decode cX4_init 132 = .ok (.dup, 1) := by decide +kernel
theorem dX4_init_133 : decode cX4_init 133 = .ok (.bipush 8, 2) := by decide +kernel
theorem dX4_init_135 : decode cX4_init 135 = .ok (.invokespecial 42, 3) := by decide +kernel
theorem dX4_init_138 : decode cX4_init 138 = .ok (.putfield 55, 3) := by decide +kernel
theorem dX4_init_141 : decode cX4_init 141 = .ok (.aload_n 0, 1) := by decide +kernel
theorem dX4_init_142 : decode cX4_init 142 = .ok (.new 40, 3) := by decide +kernel
theorem dX4_init_145 : decode cX4_init 145 = .ok (.dup, 1) := by decide +kernel
theorem dX4_init_146 : decode cX4_init 146 = .ok (.bipush 6, 2) := by decide +kernel
theorem dX4_init_148 : decode cX4_init 148 = .ok (.invokespecial 42, 3) := by decide +kernel
theorem dX4_init_151 : decode cX4_init 151 = .ok (.putfield 58, 3) := by decide +kernel
theorem dX4_init_154 : decode cX4_init 154 = .ok (.aload_n 0, 1) := by decide +kernel
theorem dX4_init_155 : decode cX4_init 155 = .ok (.bipush 12, 2) := by decide +kernel
theorem dX4_init_157 : decode cX4_init 157 = .ok (.newarray .int, 2) := by decide +kernel
theorem dX4_init_159 : decode cX4_init 159 = .ok (.putfield 61, 3) := by decide +kernel
theorem dX4_init_162 : decode cX4_init 162 = .ok (.aload_n 0, 1) := by decide +kernel
theorem dX4_init_163 : decode cX4_init 163 = .ok (.getfield 37, 3) := by decide +kernel
theorem dX4_init_166 : decode cX4_init 166 = .ok (.iconst 1, 1) := by decide +kernel
theorem dX4_init_167 : decode cX4_init 167 = .ok (.invokestatic 64, 3) := by decide +kernel
theorem dX4_init_170 : decode cX4_init 170 = .ok (.aload_n 0, 1) := by decide +kernel
theorem dX4_init_171 : decode cX4_init 171 = .ok (.iconst 1, 1) := by decide +kernel
theorem dX4_init_172 : decode cX4_init 172 = .ok (.putfield 70, 3) := by decide +kernel
theorem dX4_init_175 : decode cX4_init 175 = .ok (.return_, 1) := by decide +kernel
set_option maxRecDepth 20000 in
theorem ggX4_reset_J7_fill_53178 : GoodIn wsX4_reset wsJ7_fill_53178 := goodIn_r _ [12] (by decide +kernel) (by decide +kernel)
set_option maxRecDepth 20000 in
theorem gX4_reset_J7_fill_53178 : GoodIn wsX4_reset (va_wsS RX4 64 yJ7_fill_53178 wsJ7_fill_53178) := goodIn_app (goodIn_of _ (by decide +kernel)) ggX4_reset_J7_fill_53178
set_option maxRecDepth 20000 in
theorem ggX4_reset_X9_empty : GoodIn wsX4_reset wsX9_empty := goodIn_r _ [17, 18, 40, 41, 42] (by decide +kernel) (by decide +kernel)
set_option maxRecDepth 20000 in
theorem gX4_reset_X9_empty : GoodIn wsX4_reset (wsV RX4 74 RX9 yX9_empty wsX9_empty) := goodIn_app (goodIn_of _ (by decide +kernel)) ggX4_reset_X9_empty
set_option maxRecDepth 20000 in
theorem ggX4_reset_X4_dropClues : GoodIn wsX4_reset wsX4_dropClues := goodIn_r _ [23, 24, 25, 26, 13, 14, 15, 16, 17, 18, 27, 28, 29, 30, 31, 32, 33, 34, 35, 36, 37, 38, 39, 40, 41, 42] (by decide +kernel) (by decide +kernel)
set_option maxRecDepth 20000 in
theorem gX4_reset_X4_dropClues : GoodIn wsX4_reset (wsV RX4 87 RX4 yX4_dropClues wsX4_dropClues) := goodIn_app (goodIn_of _ (by decide +kernel)) ggX4_reset_X4_dropClues
theorem dX4_reset_0 : decode cX4_reset 0 = .ok (.aload_n 0, 1) := by decide +kernel
theorem dX4_reset_1 : decode cX4_reset 1 = .ok (.getfield 33, 3) := by decide +kernel
theorem dX4_reset_4 : decode cX4_reset 4 = .ok (.iconst 0, 1) := by decide +kernel
theorem dX4_reset_5 : decode cX4_reset 5 = .ok (.invokestatic 64, 3) := by decide +kernel
theorem dX4_reset_8 : decode cX4_reset 8 = .ok (.aload_n 0, 1) := by decide +kernel
theorem dX4_reset_9 : decode cX4_reset 9 = .ok (.getfield 37, 3) := by decide +kernel
theorem dX4_reset_12 : decode cX4_reset 12 = .ok (.iconst 1, 1) := by decide +kernel
theorem dX4_reset_13 : decode cX4_reset 13 = .ok (.invokestatic 64, 3) := by decide +kernel
theorem dX4_reset_16 : decode cX4_reset 16 = .ok (.aload_n 0, 1) := by decide +kernel
theorem dX4_reset_17 : decode cX4_reset 17 = .ok (.getfield 45, 3) := by decide +kernel
theorem dX4_reset_20 : decode cX4_reset 20 = .ok (.invokevirtual 74, 3) := by decide +kernel
theorem dX4_reset_23 : decode cX4_reset 23 = .ok (.pop, 1) := by decide +kernel
theorem dX4_reset_24 : decode cX4_reset 24 = .ok (.aload_n 0, 1) := by decide +kernel
theorem dX4_reset_25 : decode cX4_reset 25 = .ok (.getfield 49, 3) := by decide +kernel
theorem dX4_reset_28 : decode cX4_reset 28 = .ok (.invokevirtual 74, 3) := by decide +kernel
theorem dX4_reset_31 : decode cX4_reset 31 = .ok (.pop, 1) := by decide +kernel
theorem dX4_reset_32 : decode cX4_reset 32 = .ok (.aload_n 0, 1) := by decide +kernel
theorem dX4_reset_33 : decode cX4_reset 33 = .ok (.getfield 52, 3) := by decide +kernel
theorem dX4_reset_36 : decode cX4_reset 36 = .ok (.invokevirtual 74, 3) := by decide +kernel
theorem dX4_reset_39 : decode cX4_reset 39 = .ok (.pop, 1) := by decide +kernel
theorem dX4_reset_40 : decode cX4_reset 40 = .ok (.aload_n 0, 1) := by decide +kernel
theorem dX4_reset_41 : decode cX4_reset 41 = .ok (.iconst 0, 1) := by decide +kernel
theorem dX4_reset_42 : decode cX4_reset 42 = .ok (.putfield 78, 3) := by decide +kernel
theorem dX4_reset_45 : decode cX4_reset 45 = .ok (.aload_n 0, 1) := by decide +kernel
theorem dX4_reset_46 : decode cX4_reset 46 = .ok (.iconst 0, 1) := by decide +kernel
theorem dX4_reset_47 : decode cX4_reset 47 = .ok (.putfield 81, 3) := by decide +kernel
theorem dX4_reset_50 : decode cX4_reset 50 = .ok (.aload_n 0, 1) := by decide +kernel
theorem dX4_reset_51 : decode cX4_reset 51 = .ok (.iconst 0, 1) := by decide +kernel
theorem dX4_reset_52 : decode cX4_reset 52 = .ok (.putfield 84, 3) := by decide +kernel
theorem dX4_reset_55 : decode cX4_reset 55 = .ok (.aload_n 0, 1) := by decide +kernel
theorem dX4_reset_56 : decode cX4_reset 56 = .ok (.invokevirtual 87, 3) := by decide +kernel
theorem dX4_reset_59 : decode cX4_reset 59 = .ok (.pop, 1) := by decide +kernel
theorem dX4_reset_60 : decode cX4_reset 60 = .ok (.return_, 1) := by decide +kernel
set_option maxRecDepth 20000 in
theorem ggX4_become_X9_copyRows : GoodIn wsX4_become wsX9_copyRows := goodIn_r _ [20, 21, 22, 3, 4, 5, 23, 24, 25, 26, 27, 28, 42, 43, 44] (by decide +kernel) (by decide +kernel)
set_option maxRecDepth 20000 in
theorem gX4_become_X9_copyRows : GoodIn wsX4_become (wsV RX4 96 RX9 yX9_copyRows wsX9_copyRows) := goodIn_app (goodIn_of _ (by decide +kernel)) ggX4_become_X9_copyRows
theorem dX4_become_0 : decode cX4_become 0 = .ok (.aload_n 1, 1) := by decide +kernel
theorem dX4_become_1 : decode cX4_become 1 = .ok (.getfield 33, 3) := by decide +kernel
theorem dX4_become_4 : decode cX4_become 4 = .ok (.iconst 0, 1) := by decide +kernel
theorem dX4_become_5 : decode cX4_become 5 = .ok (.aload_n 0, 1) := by decide +kernel
theorem dX4_become_6 : decode cX4_become 6 = .ok (.getfield 33, 3) := by decide +kernel
theorem dX4_become_9 : decode cX4_become 9 = .ok (.iconst 0, 1) := by decide +kernel
theorem dX4_become_10 : decode cX4_become 10 = .ok (.bipush 12, 2) := by decide +kernel
theorem dX4_become_12 : decode cX4_become 12 = .ok (.invokestatic 90, 3) := by decide +kernel
theorem dX4_become_15 : decode cX4_become 15 = .ok (.aload_n 1, 1) := by decide +kernel
theorem dX4_become_16 : decode cX4_become 16 = .ok (.getfield 37, 3) := by decide +kernel
theorem dX4_become_19 : decode cX4_become 19 = .ok (.iconst 0, 1) := by decide +kernel
theorem dX4_become_20 : decode cX4_become 20 = .ok (.aload_n 0, 1) := by decide +kernel
theorem dX4_become_21 : decode cX4_become 21 = .ok (.getfield 37, 3) := by decide +kernel
theorem dX4_become_24 : decode cX4_become 24 = .ok (.iconst 0, 1) := by decide +kernel
theorem dX4_become_25 : decode cX4_become 25 = .ok (.bipush 6, 2) := by decide +kernel
theorem dX4_become_27 : decode cX4_become 27 = .ok (.invokestatic 90, 3) := by decide +kernel
theorem dX4_become_30 : decode cX4_become 30 = .ok (.aload_n 0, 1) := by decide +kernel
theorem dX4_become_31 : decode cX4_become 31 = .ok (.getfield 45, 3) := by decide +kernel
theorem dX4_become_34 : decode cX4_become 34 = .ok (.aload_n 1, 1) := by decide +kernel
theorem dX4_become_35 : decode cX4_become 35 = .ok (.getfield 45, 3) := by decide +kernel
theorem dX4_become_38 : decode cX4_become 38 = .ok (.invokevirtual 96, 3) := by decide +kernel
theorem dX4_become_41 : decode cX4_become 41 = .ok (.aload_n 0, 1) := by decide +kernel
theorem dX4_become_42 : decode cX4_become 42 = .ok (.getfield 49, 3) := by decide +kernel
theorem dX4_become_45 : decode cX4_become 45 = .ok (.aload_n 1, 1) := by decide +kernel
theorem dX4_become_46 : decode cX4_become 46 = .ok (.getfield 49, 3) := by decide +kernel
theorem dX4_become_49 : decode cX4_become 49 = .ok (.invokevirtual 96, 3) := by decide +kernel
theorem dX4_become_52 : decode cX4_become 52 = .ok (.aload_n 0, 1) := by decide +kernel
theorem dX4_become_53 : decode cX4_become 53 = .ok (.getfield 52, 3) := by decide +kernel
theorem dX4_become_56 : decode cX4_become 56 = .ok (.aload_n 1, 1) := by decide +kernel
theorem dX4_become_57 : decode cX4_become 57 = .ok (.getfield 52, 3) := by decide +kernel
theorem dX4_become_60 : decode cX4_become 60 = .ok (.invokevirtual 96, 3) := by decide +kernel
theorem dX4_become_63 : decode cX4_become 63 = .ok (.aload_n 0, 1) := by decide +kernel
theorem dX4_become_64 : decode cX4_become 64 = .ok (.getfield 55, 3) := by decide +kernel
theorem dX4_become_67 : decode cX4_become 67 = .ok (.aload_n 1, 1) := by decide +kernel
theorem dX4_become_68 : decode cX4_become 68 = .ok (.getfield 55, 3) := by decide +kernel
theorem dX4_become_71 : decode cX4_become 71 = .ok (.invokevirtual 96, 3) := by decide +kernel
theorem dX4_become_74 : decode cX4_become 74 = .ok (.aload_n 0, 1) := by decide +kernel
theorem dX4_become_75 : decode cX4_become 75 = .ok (.getfield 58, 3) := by decide +kernel
theorem dX4_become_78 : decode cX4_become 78 = .ok (.aload_n 1, 1) := by decide +kernel
theorem dX4_become_79 : decode cX4_become 79 = .ok (.getfield 58, 3) := by decide +kernel
theorem dX4_become_82 : decode cX4_become 82 = .ok (.invokevirtual 96, 3) := by decide +kernel
theorem dX4_become_85 : decode cX4_become 85 = .ok (.aload_n 0, 1) := by decide +kernel
theorem dX4_become_86 : decode cX4_become 86 = .ok (.aload_n 1, 1) := by decide +kernel
