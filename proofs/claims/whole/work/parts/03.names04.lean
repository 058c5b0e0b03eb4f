theorem dX11_clash_28 : decode cX11_clash 28 = .ok (.iconst 0, 1) := by decide +kernel
theorem dX11_clash_29 : decode cX11_clash 29 = .ok (.bipush 20, 2) := by decide +kernel
theorem dX11_clash_31 : decode cX11_clash 31 = .ok (.invokestatic 120, 3) := by decide +kernel
theorem dX11_clash_34 : decode cX11_clash 34 = .ok (.ifCond .ne 10, 3) := by decide +kernel
theorem dX11_clash_37 : decode cX11_clash 37 = .ok (.aload_n 0, 1) := by decide +kernel
theorem dX11_clash_38 : decode cX11_clash 38 = .ok (.bipush (-2), 2) := by decide +kernel
theorem dX11_clash_40 : decode cX11_clash 40 = .ok (.invokevirtual 72, 3) := by decide +kernel
theorem dX11_clash_43 : decode cX11_clash 43 = .ok (.ireturn, 1) := by decide +kernel
theorem dX11_clash_44 : decode cX11_clash 44 = .ok (.aload_n 0, 1) := by decide +kernel
theorem dX11_clash_45 : decode cX11_clash 45 = .ok (.getfield 12, 3) := by decide +kernel
theorem dX11_clash_48 : decode cX11_clash 48 = .ok (.iload_n 1, 1) := by decide +kernel
theorem dX11_clash_49 : decode cX11_clash 49 = .ok (.iload_n 2, 1) := by decide +kernel
theorem dX11_clash_50 : decode cX11_clash 50 = .ok (.iload_n 3, 1) := by decide +kernel
theorem dX11_clash_51 : decode cX11_clash 51 = .ok (.invokevirtual 127, 3) := by decide +kernel
theorem dX11_clash_54 : decode cX11_clash 54 = .ok (.ireturn, 1) := by decide +kernel
set_option maxRecDepth 20000 in
theorem ggX11_agree_X4_hasLump : GoodIn wsX11_agree wsX4_hasLump := goodIn_r _ [8, 9, 10, 124, 125, 126, 127, 128, 129, 130, 131, 132, 133, 134, 135, 136, 137, 138, 139] (by decide +kernel) (by decide +kernel)
set_option maxRecDepth 20000 in
theorem gX11_agree_X4_hasLump : GoodIn wsX11_agree (wsV RX11 94 RX4 yX4_hasLump wsX4_hasLump) := goodIn_app (goodIn_of _ (by decide +kernel)) ggX11_agree_X4_hasLump
set_option maxRecDepth 20000 in
theorem ggX11_agree_X11_counted : GoodIn wsX11_agree wsX11_counted := goodIn_r _ [15, 16, 17, 18, 112, 113, 114, 115, 116, 117, 118, 119, 120, 121, 122, 123] (by decide +kernel) (by decide +kernel)
set_option maxRecDepth 20000 in
theorem gX11_agree_X11_counted : GoodIn wsX11_agree (wsV RX11 72 RX11 yX11_counted wsX11_counted) := goodIn_app (goodIn_of _ (by decide +kernel)) ggX11_agree_X11_counted
set_option maxRecDepth 20000 in
theorem ggX11_agree_X4_firstClash : GoodIn wsX11_agree wsX4_firstClash := goodIn_r _ [22, 23, 24, 25, 7, 26, 9, 27, 28, 29, 30, 31, 32, 33, 34, 35, 36, 37, 38, 39, 40, 41, 42, 43, 44, 45, 46, 47, 48, 49, 50, 51, 52, 53, 54, 55, 56, 57, 58, 59, 60, 61, 62, 63, 64, 65, 66, 67, 68, 69, 70, 71, 72, 73, 74, 75, 76, 77, 78, 79, 80, 81, 82, 83, 84, 85, 86, 87, 88, 89, 90, 91, 92, 93, 94, 95, 96, 97, 98, 99, 100, 101, 102, 103, 104, 105, 106, 107, 14, 108, 109, 110, 111, 124, 125, 126, 127, 128, 129, 130, 131, 132, 133, 134, 135, 136, 137, 138, 139] (by decide +kernel) (by decide +kernel)
set_option maxRecDepth 20000 in
theorem gX11_agree_X4_firstClash : GoodIn wsX11_agree (wsV RX11 127 RX4 yX4_firstClash wsX4_firstClash) := goodIn_app (goodIn_of _ (by decide +kernel)) ggX11_agree_X4_firstClash
theorem dX11_agree_0 : decode cX11_agree 0 = .ok (.aload_n 0, 1) := by decide +kernel
theorem dX11_agree_1 : decode cX11_agree 1 = .ok (.getfield 12, 3) := by decide +kernel
theorem dX11_agree_4 : decode cX11_agree 4 = .ok (.iload_n 1, 1) := by decide +kernel
theorem dX11_agree_5 : decode cX11_agree 5 = .ok (.invokevirtual 94, 3) := by decide +kernel
theorem dX11_agree_8 : decode cX11_agree 8 = .ok (.ifCond .ne 10, 3) := by decide +kernel
theorem dX11_agree_11 : decode cX11_agree 11 = .ok (.aload_n 0, 1) := by decide +kernel
theorem dX11_agree_12 : decode cX11_agree 12 = .ok (.bipush (-2), 2) := by decide +kernel
theorem dX11_agree_14 : decode cX11_agree 14 = .ok (.invokevirtual 72, 3) := by decide +kernel
theorem dX11_agree_17 : decode cX11_agree 17 = .ok (.ireturn, 1) := by decide +kernel
theorem dX11_agree_18 : decode cX11_agree 18 = .ok (.iconst 0, 1) := by decide +kernel
theorem dX11_agree_19 : decode cX11_agree 19 = .ok (.istore_n 2, 1) := by decide +kernel
theorem dX11_agree_20 : decode cX11_agree 20 = .ok (.iconst 0, 1) := by decide +kernel
theorem dX11_agree_21 : decode cX11_agree 21 = .ok (.istore_n 3, 1) := by decide +kernel
theorem dX11_agree_22 : decode cX11_agree 22 = .ok (.iload_n 3, 1) := by decide +kernel
theorem dX11_agree_23 : decode cX11_agree 23 = .ok (.aload_n 0, 1) := by decide +kernel
theorem dX11_agree_24 : decode cX11_agree 24 = .ok (.getfield 12, 3) := by decide +kernel
theorem dX11_agree_27 : decode cX11_agree 27 = .ok (.getfield 55, 3) := by decide +kernel
theorem dX11_agree_30 : decode cX11_agree 30 = .ok (.getfield 59, 3) := by decide +kernel
theorem dX11_agree_33 : decode cX11_agree 33 = .ok (.if_icmp .ge 34, 3) := by decide +kernel
theorem dX11_agree_36 : decode cX11_agree 36 = .ok (.iload_n 3, 1) := by decide +kernel
theorem dX11_agree_37 : decode cX11_agree 37 = .ok (.iload_n 1, 1) := by decide +kernel
theorem dX11_agree_38 : decode cX11_agree 38 = .ok (.if_icmp .eq 23, 3) := by decide +kernel
theorem dX11_agree_41 : decode cX11_agree 41 = .ok (.aload_n 0, 1) := by decide +kernel
theorem dX11_agree_42 : decode cX11_agree 42 = .ok (.getfield 12, 3) := by decide +kernel
theorem dX11_agree_45 : decode cX11_agree 45 = .ok (.iload_n 1, 1) := by decide +kernel
theorem dX11_agree_46 : decode cX11_agree 46 = .ok (.iload_n 3, 1) := by decide +kernel
theorem dX11_agree_47 : decode cX11_agree 47 = .ok (.iconst 0, 1) := by decide +kernel
theorem dX11_agree_48 : decode cX11_agree 48 = .ok (.invokevirtual 127, 3) := by decide +kernel
theorem dX11_agree_51 : decode cX11_agree 51 = .ok (.iconst (-1), 1) := by decide +kernel
theorem dX11_agree_52 : decode cX11_agree 52 = .ok (.if_icmp .ne 9, 3) := by decide +kernel
theorem dX11_agree_55 : decode cX11_agree 55 = .ok (.iload_n 2, 1) := by decide +kernel
theorem dX11_agree_56 : decode cX11_agree 56 = .ok (.iconst 1, 1) := by decide +kernel
theorem dX11_agree_57 : decode cX11_agree 57 = .ok (.iload_n 3, 1) := by decide +kernel
theorem dX11_agree_58 : decode cX11_agree 58 = .ok (.ishl, 1) := by decide +kernel
theorem dX11_agree_59 : decode cX11_agree 59 = .ok (.ior, 1) := by decide +kernel
theorem dX11_agree_60 : decode cX11_agree 60 = .ok (.istore_n 2, 1) := by decide +kernel
theorem dX11_agree_61 : decode cX11_agree 61 = .ok (.iinc 3 1, 3) := by decide +kernel
theorem dX11_agree_64 : decode cX11_agree 64 = .ok (.goto (-42), 3) := by decide +kernel
theorem dX11_agree_67 : decode cX11_agree 67 = .ok (.iload_n 2, 1) := by decide +kernel
theorem dX11_agree_68 : decode cX11_agree 68 = .ok (.ireturn, 1) := by decide +kernel
set_option maxRecDepth 20000 in
theorem ggX11_evening_X11_isWeather : GoodIn wsX11_evening wsX11_isWeather := goodIn_r _ [6, 7, 8, 5, 9] (by decide +kernel) (by decide +kernel)
set_option maxRecDepth 20000 in
theorem gX11_evening_X11_isWeather : GoodIn wsX11_evening (va_wsS RX11 130 yX11_isWeather wsX11_isWeather) := goodIn_app (goodIn_of _ (by decide +kernel)) ggX11_evening_X11_isWeather
set_option maxRecDepth 20000 in
theorem ggX11_evening_X11_counted : GoodIn wsX11_evening wsX11_counted := goodIn_r _ [13, 14, 15, 16, 29, 30, 31, 32, 33, 34, 35, 36, 37, 38, 39, 40] (by decide +kernel) (by decide +kernel)
set_option maxRecDepth 20000 in
theorem gX11_evening_X11_counted : GoodIn wsX11_evening (wsV RX11 72 RX11 yX11_counted wsX11_counted) := goodIn_app (goodIn_of _ (by decide +kernel)) ggX11_evening_X11_counted
set_option maxRecDepth 20000 in
theorem ggX11_evening_X9_add : GoodIn wsX11_evening wsX9_add := goodIn_r _ [21, 22, 23, 24, 25, 26, 20, 27, 28, 54, 55, 56] (by decide +kernel) (by decide +kernel)
set_option maxRecDepth 20000 in
theorem gX11_evening_X9_add : GoodIn wsX11_evening (wsV RX11 136 RX9 yX9_add wsX9_add) := goodIn_app (goodIn_of _ (by decide +kernel)) ggX11_evening_X9_add
theorem dX11_evening_0 : decode cX11_evening 0 = .ok (.iload_n 1, 1) := by decide +kernel
theorem dX11_evening_1 : decode cX11_evening 1 = .ok (.invokestatic 130, 3) := by decide +kernel
theorem dX11_evening_4 : decode cX11_evening 4 = .ok (.ifCond .ne 10, 3) := by decide +kernel
theorem dX11_evening_7 : decode cX11_evening 7 = .ok (.aload_n 0, 1) := by decide +kernel
theorem dX11_evening_8 : decode cX11_evening 8 = .ok (.bipush (-2), 2) := by decide +kernel
theorem dX11_evening_10 : decode cX11_evening 10 = .ok (.invokevirtual 72, 3) := by decide +kernel
theorem dX11_evening_13 : decode cX11_evening 13 = .ok (.ireturn, 1) := by decide +kernel
theorem dX11_evening_14 : decode cX11_evening 14 = .ok (.aload_n 0, 1) := by decide +kernel
theorem dX11_evening_15 : decode cX11_evening 15 = .ok (.aload_n 0, 1) := by decide +kernel
theorem dX11_evening_16 : decode cX11_evening 16 = .ok (.getfield 12, 3) := by decide +kernel
theorem dX11_evening_19 : decode cX11_evening 19 = .ok (.getfield 133, 3) := by decide +kernel
theorem dX11_evening_22 : decode cX11_evening 22 = .ok (.iload_n 1, 1) := by decide +kernel
theorem dX11_evening_23 : decode cX11_evening 23 = .ok (.iconst 0, 1) := by decide +kernel
theorem dX11_evening_24 : decode cX11_evening 24 = .ok (.iconst 0, 1) := by decide +kernel
theorem dX11_evening_25 : decode cX11_evening 25 = .ok (.invokevirtual 136, 3) := by decide +kernel
theorem dX11_evening_28 : decode cX11_evening 28 = .ok (.invokevirtual 72, 3) := by decide +kernel
theorem dX11_evening_31 : decode cX11_evening 31 = .ok (.ireturn, 1) := by decide +kernel
set_option maxRecDepth 20000 in
theorem ggX11_dark_X9_empty : GoodIn wsX11_dark wsX9_empty := goodIn_r _ [7, 8, 34, 35, 36] (by decide +kernel) (by decide +kernel)
set_option maxRecDepth 20000 in
theorem gX11_dark_X9_empty : GoodIn wsX11_dark (wsV RX11 139 RX9 yX9_empty wsX9_empty) := goodIn_app (goodIn_of _ (by decide +kernel)) ggX11_dark_X9_empty
theorem dX11_dark_0 : decode cX11_dark 0 = .ok (.aload_n 0, 1) := by decide +kernel
theorem dX11_dark_1 : decode cX11_dark 1 = .ok (.getfield 12, 3) := by decide +kernel
theorem dX11_dark_4 : decode cX11_dark 4 = .ok (.getfield 133, 3) := by decide +kernel
theorem dX11_dark_7 : decode cX11_dark 7 = .ok (.invokevirtual 139, 3) := by decide +kernel
theorem dX11_dark_10 : decode cX11_dark 10 = .ok (.ireturn, 1) := by decide +kernel
set_option maxRecDepth 20000 in
theorem ggX11_fewest_X11_badIndex : GoodIn wsX11_fewest wsX11_badIndex := goodIn_r _ [9, 10, 165, 166, 167, 168, 169, 170, 171, 172, 173, 174, 175, 176] (by decide +kernel) (by decide +kernel)
set_option maxRecDepth 20000 in
theorem gX11_fewest_X11_badIndex : GoodIn wsX11_fewest (wsV RX11 140 RX11 yX11_badIndex wsX11_badIndex) := goodIn_app (goodIn_of _ (by decide +kernel)) ggX11_fewest_X11_badIndex
set_option maxRecDepth 20000 in
theorem ggX11_fewest_X6_findWays : GoodIn wsX11_fewest wsX6_findWays := goodIn_r _ [15, 16, 17, 18, 19, 20, 21, 22, 23, 24, 25, 26, 27, 28, 29, 30, 31, 32, 33, 34, 35, 36, 37, 38, 39, 40, 41, 42, 43, 44, 45, 46, 47, 48, 49, 50, 51, 52, 53, 54, 55, 56, 57, 58, 59, 60, 61, 62, 63, 64, 65, 66, 67, 68, 69, 70, 71, 72, 73, 74, 75, 76, 77, 78, 79, 80, 81, 82, 83, 84, 85, 86, 87, 88, 89, 90, 91, 92, 93, 94, 95, 96, 97, 98, 99, 100, 101, 102, 103, 104, 105, 106, 107, 108, 109, 110, 111, 112, 113, 114, 115, 116, 117, 118, 119, 120, 121, 8, 122, 123, 124, 125, 126, 127, 14, 128, 129, 130, 131, 132, 133, 134, 135, 136, 137, 138, 139, 140, 141, 142, 143, 193, 194, 195, 196, 197, 198, 199, 200, 201, 202, 203, 177, 178, 179, 180, 181, 182, 183, 184, 185, 186, 187, 188, 189, 190, 191, 192] (by decide +kernel) (by decide +kernel)
set_option maxRecDepth 20000 in
theorem gX11_fewest_X6_findWays : GoodIn wsX11_fewest (wsV RX11 143 RX6 yX6_findWays wsX6_findWays) := goodIn_app (goodIn_of _ (by decide +kernel)) ggX11_fewest_X6_findWays
set_option maxRecDepth 20000 in
theorem ggX11_fewest_X6_ofFewest : GoodIn wsX11_fewest wsX6_ofFewest := goodIn_r _ [147, 148, 149, 150, 151, 14, 152, 18, 19, 153, 154, 155, 156, 140, 141, 142, 143, 17, 157, 158, 159, 160, 161, 162, 163, 164, 193, 194, 195, 196, 197, 198, 199, 200, 201, 202, 203] (by decide +kernel) (by decide +kernel)
set_option maxRecDepth 20000 in
theorem gX11_fewest_X6_ofFewest : GoodIn wsX11_fewest (wsV RX11 147 RX6 yX6_ofFewest wsX6_ofFewest) := goodIn_app (goodIn_of _ (by decide +kernel)) ggX11_fewest_X6_ofFewest
theorem dX11_fewest_0 : decode cX11_fewest 0 = .ok (.iload_n 1, 1) := by decide +kernel
theorem dX11_fewest_1 : decode cX11_fewest 1 = .ok (.iconst (-1), 1) := by decide +kernel
theorem dX11_fewest_2 : decode cX11_fewest 2 = .ok (.if_icmp .ge 8, 3) := by decide +kernel
theorem dX11_fewest_5 : decode cX11_fewest 5 = .ok (.aload_n 0, 1) := by decide +kernel
theorem dX11_fewest_6 : decode cX11_fewest 6 = .ok (.invokevirtual 140, 3) := by decide +kernel
theorem dX11_fewest_9 : decode cX11_fewest 9 = .ok (.ireturn, 1) := by decide +kernel
theorem dX11_fewest_10 : decode cX11_fewest 10 = .ok (.aload_n 0, 1) := by decide +kernel
theorem dX11_fewest_11 : decode cX11_fewest 11 = .ok (.getfield 37, 3) := by decide +kernel
theorem dX11_fewest_14 : decode cX11_fewest 14 = .ok (.aload_n 0, 1) := by decide +kernel
theorem dX11_fewest_15 : decode cX11_fewest 15 = .ok (.getfield 12, 3) := by decide +kernel
theorem dX11_fewest_18 : decode cX11_fewest 18 = .ok (.invokevirtual 143, 3) := by decide +kernel
theorem dX11_fewest_21 : decode cX11_fewest 21 = .ok (.aload_n 0, 1) := by decide +kernel
theorem dX11_fewest_22 : decode cX11_fewest 22 = .ok (.getfield 37, 3) := by decide +kernel
theorem dX11_fewest_25 : decode cX11_fewest 25 = .ok (.aload_n 0, 1) := by decide +kernel
theorem dX11_fewest_26 : decode cX11_fewest 26 = .ok (.getfield 12, 3) := by decide +kernel
theorem dX11_fewest_29 : decode cX11_fewest 29 = .ok (.getfield 133, 3) := by decide +kernel
theorem dX11_fewest_32 : decode cX11_fewest 32 = .ok (.getfield 59, 3) := by decide +kernel
theorem dX11_fewest_35 : decode cX11_fewest 35 = .ok (.iload_n 1, 1) := by decide +kernel
theorem dX11_fewest_36 : decode cX11_fewest 36 = .ok (.invokevirtual 147, 3) := by decide +kernel
theorem dX11_fewest_39 : decode cX11_fewest 39 = .ok (.ireturn, 1) := by decide +kernel
set_option maxRecDepth 20000 in
theorem ggX11_rows_X6_findWays : GoodIn wsX11_rows wsX6_findWays := goodIn_r _ [9, 10, 11, 12, 13, 14, 15, 16, 17, 18, 19, 20, 21, 22, 23, 24, 25, 26, 27, 28, 29, 30, 31, 32, 33, 34, 35, 36, 37, 38, 39, 40, 41, 42, 43, 44, 45, 46, 47, 48, 49, 50, 51, 52, 53, 54, 55, 56, 57, 58, 59, 60, 61, 62, 63, 64, 65, 66, 67, 68, 69, 70, 71, 72, 73, 74, 75, 76, 77, 78, 79, 80, 81, 82, 83, 84, 85, 86, 87, 88, 89, 90, 91, 92, 93, 94, 95, 96, 97, 98, 99, 100, 101, 102, 103, 104, 105, 106, 107, 108, 109, 110, 111, 112, 113, 114, 115, 116, 117, 118, 119, 120, 121, 122, 8, 123, 124, 125, 126, 127, 128, 129, 130, 131, 132, 133, 134, 135, 136, 137, 138, 171, 172, 173, 174, 175, 176, 177, 178, 179, 180, 181, 155, 156, 157, 158, 159, 160, 161, 162, 163, 164, 165, 166, 167, 168, 169, 170] (by decide +kernel) (by decide +kernel)
set_option maxRecDepth 20000 in
theorem gX11_rows_X6_findWays : GoodIn wsX11_rows (wsV RX11 143 RX6 yX6_findWays wsX6_findWays) := goodIn_app (goodIn_of _ (by decide +kernel)) ggX11_rows_X6_findWays
set_option maxRecDepth 20000 in
theorem ggX11_rows_X6_rowsOf : GoodIn wsX11_rows wsX6_rowsOf := goodIn_r _ [142, 12, 13, 171, 172, 173, 174, 175, 176, 177, 178, 179, 180, 181] (by decide +kernel) (by decide +kernel)
set_option maxRecDepth 20000 in
theorem gX11_rows_X6_rowsOf : GoodIn wsX11_rows (wsV RX11 150 RX6 yX6_rowsOf wsX6_rowsOf) := goodIn_app (goodIn_of _ (by decide +kernel)) ggX11_rows_X6_rowsOf
theorem dX11_rows_0 : decode cX11_rows 0 = .ok (.aload_n 0, 1) := by decide +kernel
theorem dX11_rows_1 : decode cX11_rows 1 = .ok (.getfield 37, 3) := by decide +kernel
theorem dX11_rows_4 : decode cX11_rows 4 = .ok (.aload_n 0, 1) := by decide +kernel
theorem dX11_rows_5 : decode cX11_rows 5 = .ok (.getfield 12, 3) := by decide +kernel
theorem dX11_rows_8 : decode cX11_rows 8 = .ok (.invokevirtual 143, 3) := by decide +kernel
theorem dX11_rows_11 : decode cX11_rows 11 = .ok (.aload_n 0, 1) := by decide +kernel
theorem dX11_rows_12 : decode cX11_rows 12 = .ok (.getfield 37, 3) := by decide +kernel
theorem dX11_rows_15 : decode cX11_rows 15 = .ok (.aload_n 0, 1) := by decide +kernel
theorem dX11_rows_16 : decode cX11_rows 16 = .ok (.getfield 12, 3) := by decide +kernel
theorem dX11_rows_19 : decode cX11_rows 19 = .ok (.getfield 133, 3) := by decide +kernel
theorem dX11_rows_22 : decode cX11_rows 22 = .ok (.getfield 59, 3) := by decide +kernel
theorem dX11_rows_25 : decode cX11_rows 25 = .ok (.invokevirtual 150, 3) := by decide +kernel
theorem dX11_rows_28 : decode cX11_rows 28 = .ok (.ireturn, 1) := by decide +kernel
set_option maxRecDepth 20000 in
theorem ggX11_best_X11_within : GoodIn wsX11_best wsX11_within := goodIn_r _ [8] (by decide +kernel) (by decide +kernel)
set_option maxRecDepth 20000 in
theorem gX11_best_X11_within : GoodIn wsX11_best (va_wsS RX11 120 yX11_within wsX11_within) := goodIn_app (goodIn_of _ (by decide +kernel)) ggX11_best_X11_within
set_option maxRecDepth 20000 in
theorem ggX11_best_X11_counted : GoodIn wsX11_best wsX11_counted := goodIn_r _ [12, 13, 14, 15, 142, 143, 144, 145, 146, 147, 148, 149, 150, 151, 152, 153] (by decide +kernel) (by decide +kernel)
set_option maxRecDepth 20000 in
theorem gX11_best_X11_counted : GoodIn wsX11_best (wsV RX11 72 RX11 yX11_counted wsX11_counted) := goodIn_app (goodIn_of _ (by decide +kernel)) ggX11_best_X11_counted
set_option maxRecDepth 20000 in
theorem ggX11_best_X6_weigh : GoodIn wsX11_best wsX6_weigh := goodIn_r _ [20, 21, 22, 23, 24, 25, 26, 27, 28, 29, 30, 31, 32, 33, 34, 35, 36, 37, 38, 39, 40, 41, 42, 43, 44, 45, 46, 47, 48, 49, 50, 51, 52, 53, 54, 55, 56, 57, 58, 59, 60, 61, 62, 63, 64, 65, 66, 67, 68, 69, 70, 71, 72, 73, 74, 75, 76, 77, 78, 79, 80, 81, 82, 83, 84, 85, 86, 87, 88, 89, 90, 91, 92, 93, 94, 95, 96, 97, 98, 99, 100, 101, 102, 103, 104, 105, 106, 107, 108, 109, 110, 111, 112, 113, 114, 115, 116, 117, 118, 119, 120, 121, 122, 123, 124, 125, 126, 7, 127, 5, 6, 8, 128, 129, 130, 131, 132, 133, 167, 168, 169, 170, 171, 172, 173, 174, 175, 176, 177, 154, 155, 156, 157, 158, 159, 160, 161, 162, 163, 164, 165, 166, 178, 179, 180] (by decide +kernel) (by decide +kernel)
set_option maxRecDepth 20000 in
theorem gX11_best_X6_weigh : GoodIn wsX11_best (wsV RX11 153 RX6 yX6_weigh wsX6_weigh) := goodIn_app (goodIn_of _ (by decide +kernel)) ggX11_best_X6_weigh
set_option maxRecDepth 20000 in
theorem ggX11_best_X6_bestFor : GoodIn wsX11_best wsX6_bestFor := goodIn_r _ [137, 138, 21, 23, 139, 140, 19, 141, 167, 168, 169, 170, 171, 172, 173, 174, 175, 176, 177] (by decide +kernel) (by decide +kernel)
set_option maxRecDepth 20000 in
theorem gX11_best_X6_bestFor : GoodIn wsX11_best (wsV RX11 159 RX6 yX6_bestFor wsX6_bestFor) := goodIn_app (goodIn_of _ (by decide +kernel)) ggX11_best_X6_bestFor
theorem dX11_best_0 : decode cX11_best 0 = .ok (.iload_n 1, 1) := by decide +kernel
theorem dX11_best_1 : decode cX11_best 1 = .ok (.iconst 0, 1) := by decide +kernel
theorem dX11_best_2 : decode cX11_best 2 = .ok (.bipush 99, 2) := by decide +kernel
theorem dX11_best_4 : decode cX11_best 4 = .ok (.invokestatic 120, 3) := by decide +kernel
theorem dX11_best_7 : decode cX11_best 7 = .ok (.ifCond .eq 12, 3) := by decide +kernel
theorem dX11_best_10 : decode cX11_best 10 = .ok (.iload_n 2, 1) := by decide +kernel
theorem dX11_best_11 : decode cX11_best 11 = .ok (.iconst 0, 1) := by decide +kernel
theorem dX11_best_12 : decode cX11_best 12 = .ok (.iconst 1, 1) := by decide +kernel
theorem dX11_best_13 : decode cX11_best 13 = .ok (.invokestatic 120, 3) := by decide +kernel
theorem dX11_best_16 : decode cX11_best 16 = .ok (.ifCond .ne 10, 3) := by decide +kernel
theorem dX11_best_19 : decode cX11_best 19 = .ok (.aload_n 0, 1) := by decide +kernel
theorem dX11_best_20 : decode cX11_best 20 = .ok (.bipush (-2), 2) := by decide +kernel
theorem dX11_best_22 : decode cX11_best 22 = .ok (.invokevirtual 72, 3) := by decide +kernel
theorem dX11_best_25 : decode cX11_best 25 = .ok (.ireturn, 1) := by decide +kernel
theorem dX11_best_26 : decode cX11_best 26 = .ok (.aload_n 0, 1) := by decide +kernel
theorem dX11_best_27 : decode cX11_best 27 = .ok (.getfield 37, 3) := by decide +kernel
theorem dX11_best_30 : decode cX11_best 30 = .ok (.aload_n 0, 1) := by decide +kernel
theorem dX11_best_31 : decode cX11_best 31 = .ok (.getfield 12, 3) := by decide +kernel
theorem dX11_best_34 : decode cX11_best 34 = .ok (.invokevirtual 153, 3) := by decide +kernel
theorem dX11_best_37 : decode cX11_best 37 = .ok (.aload_n 0, 1) := by decide +kernel
theorem dX11_best_38 : decode cX11_best 38 = .ok (.getfield 37, 3) := by decide +kernel
theorem dX11_best_41 : decode cX11_best 41 = .ok (.iload_n 1, 1) := by decide +kernel
theorem dX11_best_42 : decode cX11_best 42 = .ok (.aload_n 0, 1) := by decide +kernel
theorem dX11_best_43 : decode cX11_best 43 = .ok (.getfield 12, 3) := by decide +kernel
theorem dX11_best_46 : decode cX11_best 46 = .ok (.getfield 156, 3) := by decide +kernel
theorem dX11_best_49 : decode cX11_best 49 = .ok (.invokevirtual 159, 3) := by decide +kernel
theorem dX11_best_52 : decode cX11_best 52 = .ok (.istore_n 3, 1) := by decide +kernel
theorem dX11_best_53 : decode cX11_best 53 = .ok (.iload_n 2, 1) := by decide +kernel
theorem dX11_best_54 : decode cX11_best 54 = .ok (.ifCond .ne 7, 3) := by decide +kernel
theorem dX11_best_57 : decode cX11_best 57 = .ok (.iload_n 3, 1) := by decide +kernel
theorem dX11_best_58 : decode cX11_best 58 = .ok (.goto 10, 3) := by decide +kernel
theorem dX11_best_61 : decode cX11_best 61 = .ok (.aload_n 0, 1) := by decide +kernel
theorem dX11_best_62 : decode cX11_best 62 = .ok (.getfield 37, 3) := by decide +kernel
theorem dX11_best_65 : decode cX11_best 65 = .ok (.getfield 162, 3) := by decide +kernel
theorem dX11_best_68 : decode cX11_best 68 = .ok (.ireturn, 1) := by decide +kernel
set_option maxRecDepth 20000 in
theorem ggX11_cut_X11_within : GoodIn wsX11_cut wsX11_within := goodIn_r _ [6] (by decide +kernel) (by decide +kernel)
set_option maxRecDepth 20000 in
theorem gX11_cut_X11_within : GoodIn wsX11_cut (va_wsS RX11 120 yX11_within wsX11_within) := goodIn_app (goodIn_of _ (by decide +kernel)) ggX11_cut_X11_within
set_option maxRecDepth 20000 in
theorem ggX11_cut_X11_badIndex : GoodIn wsX11_cut wsX11_badIndex := goodIn_r _ [10, 11, 32, 33, 34, 35, 36, 37, 38, 39, 40, 41, 42, 43] (by decide +kernel) (by decide +kernel)
set_option maxRecDepth 20000 in
theorem gX11_cut_X11_badIndex : GoodIn wsX11_cut (wsV RX11 140 RX11 yX11_badIndex wsX11_badIndex) := goodIn_app (goodIn_of _ (by decide +kernel)) ggX11_cut_X11_badIndex
set_option maxRecDepth 20000 in
theorem ggX11_cut_X6_ofCut : GoodIn wsX11_cut wsX6_ofCut := goodIn_r _ [16, 17, 18, 19, 20, 21, 22, 23, 15, 24, 25, 26, 27, 28, 29, 30, 31, 44, 45, 46, 47, 48, 49, 50, 51, 52, 53, 54, 55, 56, 57, 58, 59, 60, 61, 62, 63, 64, 65, 66, 67] (by decide +kernel) (by decide +kernel)
set_option maxRecDepth 20000 in
theorem gX11_cut_X6_ofCut : GoodIn wsX11_cut (wsV RX11 165 RX6 yX6_ofCut wsX6_ofCut) := goodIn_app (goodIn_of _ (by decide +kernel)) ggX11_cut_X6_ofCut
theorem dX11_cut_0 : decode cX11_cut 0 = .ok (.iload_n 1, 1) := by decide +kernel
theorem dX11_cut_1 : decode cX11_cut 1 = .ok (.iconst 1, 1) := by decide +kernel
theorem dX11_cut_2 : decode cX11_cut 2 = .ok (.bipush 6, 2) := by decide +kernel
theorem dX11_cut_4 : decode cX11_cut 4 = .ok (.invokestatic 120, 3) := by decide +kernel
theorem dX11_cut_7 : decode cX11_cut 7 = .ok (.ifCond .eq 9, 3) := by decide +kernel
theorem dX11_cut_10 : decode cX11_cut 10 = .ok (.iload_n 2, 1) := by decide +kernel
theorem dX11_cut_11 : decode cX11_cut 11 = .ok (.bipush (-2), 2) := by decide +kernel
theorem dX11_cut_13 : decode cX11_cut 13 = .ok (.if_icmp .ge 8, 3) := by decide +kernel
theorem dX11_cut_16 : decode cX11_cut 16 = .ok (.aload_n 0, 1) := by decide +kernel
theorem dX11_cut_17 : decode cX11_cut 17 = .ok (.invokevirtual 140, 3) := by decide +kernel
theorem dX11_cut_20 : decode cX11_cut 20 = .ok (.ireturn, 1) := by decide +kernel
theorem dX11_cut_21 : decode cX11_cut 21 = .ok (.aload_n 0, 1) := by decide +kernel
theorem dX11_cut_22 : decode cX11_cut 22 = .ok (.getfield 37, 3) := by decide +kernel
theorem dX11_cut_25 : decode cX11_cut 25 = .ok (.aload_n 0, 1) := by decide +kernel
theorem dX11_cut_26 : decode cX11_cut 26 = .ok (.getfield 12, 3) := by decide +kernel
theorem dX11_cut_29 : decode cX11_cut 29 = .ok (.iload_n 1, 1) := by decide +kernel
theorem dX11_cut_30 : decode cX11_cut 30 = .ok (.iload_n 2, 1) := by decide +kernel
theorem dX11_cut_31 : decode cX11_cut 31 = .ok (.invokevirtual 165, 3) := by decide +kernel
theorem dX11_cut_34 : decode cX11_cut 34 = .ok (.ireturn, 1) := by decide +kernel
set_option maxRecDepth 20000 in
theorem ggX11_seen_X11_isSize : GoodIn wsX11_seen wsX11_isSize := goodIn_r _ [5, 6, 7, 4, 8] (by decide +kernel) (by decide +kernel)
set_option maxRecDepth 20000 in
theorem gX11_seen_X11_isSize : GoodIn wsX11_seen (va_wsS RX11 169 yX11_isSize wsX11_isSize) := goodIn_app (goodIn_of _ (by decide +kernel)) ggX11_seen_X11_isSize
set_option maxRecDepth 20000 in
theorem ggX11_seen_X11_within : GoodIn wsX11_seen wsX11_within := goodIn_r _ [8] (by decide +kernel) (by decide +kernel)
set_option maxRecDepth 20000 in
theorem gX11_seen_X11_within : GoodIn wsX11_seen (va_wsS RX11 120 yX11_within wsX11_within) := goodIn_app (goodIn_of _ (by decide +kernel)) ggX11_seen_X11_within
set_option maxRecDepth 20000 in
theorem ggX11_seen_X11_isWeather : GoodIn wsX11_seen wsX11_isWeather := goodIn_r _ [11, 6, 7, 4, 8] (by decide +kernel) (by decide +kernel)
set_option maxRecDepth 20000 in
theorem gX11_seen_X11_isWeather : GoodIn wsX11_seen (va_wsS RX11 130 yX11_isWeather wsX11_isWeather) := goodIn_app (goodIn_of _ (by decide +kernel)) ggX11_seen_X11_isWeather
set_option maxRecDepth 20000 in
theorem ggX11_seen_X11_counted : GoodIn wsX11_seen wsX11_counted := goodIn_r _ [15, 16, 17, 18, 38, 39, 40, 41, 42, 43, 44, 45, 46, 47, 48, 49] (by decide +kernel) (by decide +kernel)
set_option maxRecDepth 20000 in
theorem gX11_seen_X11_counted : GoodIn wsX11_seen (wsV RX11 72 RX11 yX11_counted wsX11_counted) := goodIn_app (goodIn_of _ (by decide +kernel)) ggX11_seen_X11_counted
set_option maxRecDepth 20000 in
theorem ggX11_seen_X4_addSight : GoodIn wsX11_seen wsX4_addSight := goodIn_r _ [23, 24, 25, 26, 27, 28, 29, 30, 31, 32, 33, 34, 35, 36, 37, 50, 51, 52, 53, 54, 55, 56, 57, 58, 59, 60, 61, 62, 63, 64, 65] (by decide +kernel) (by decide +kernel)
set_option maxRecDepth 20000 in
theorem gX11_seen_X4_addSight : GoodIn wsX11_seen (wsV RX11 172 RX4 yX4_addSight wsX4_addSight) := goodIn_app (goodIn_of _ (by decide +kernel)) ggX11_seen_X4_addSight
theorem dX11_seen_0 : decode cX11_seen 0 = .ok (.iload_n 1, 1) := by decide +kernel
theorem dX11_seen_1 : decode cX11_seen 1 = .ok (.invokestatic 169, 3) := by decide +kernel
theorem dX11_seen_4 : decode cX11_seen 4 = .ok (.ifCond .eq 25, 3) := by decide +kernel
theorem dX11_seen_7 : decode cX11_seen 7 = .ok (.iload_n 2, 1) := by decide +kernel
theorem dX11_seen_8 : decode cX11_seen 8 = .ok (.iconst 0, 1) := by decide +kernel
theorem dX11_seen_9 : decode cX11_seen 9 = .ok (.bipush 12, 2) := by decide +kernel
theorem dX11_seen_11 : decode cX11_seen 11 = .ok (.invokestatic 120, 3) := by decide +kernel
theorem dX11_seen_14 : decode cX11_seen 14 = .ok (.ifCond .eq 15, 3) := by decide +kernel
theorem dX11_seen_17 : decode cX11_seen 17 = .ok (.iload_n 3, 1) := by decide +kernel
theorem dX11_seen_18 : decode cX11_seen 18 = .ok (.iconst (-1), 1) := by decide +kernel
theorem dX11_seen_19 : decode cX11_seen 19 = .ok (.if_icmp .eq 17, 3) := by decide +kernel
theorem dX11_seen_22 : decode cX11_seen 22 = .ok (.iload_n 3, 1) := by decide +kernel
theorem dX11_seen_23 : decode cX11_seen 23 = .ok (.invokestatic 130, 3) := by decide +kernel
theorem dX11_seen_26 : decode cX11_seen 26 = .ok (.ifCond .ne 10, 3) := by decide +kernel
theorem dX11_seen_29 : decode cX11_seen 29 = .ok (.aload_n 0, 1) := by decide +kernel
theorem dX11_seen_30 : decode cX11_seen 30 = .ok (.bipush (-2), 2) := by decide +kernel
theorem dX11_seen_32 : decode cX11_seen 32 = .ok (.invokevirtual 72, 3) := by decide +kernel
theorem dX11_seen_35 : decode cX11_seen 35 = .ok (.ireturn, 1) := by decide +kernel
theorem dX11_seen_36 : decode cX11_seen 36 = .ok (.aload_n 0, 1) := by decide +kernel
theorem dX11_seen_37 : decode cX11_seen 37 = .ok (.aload_n 0, 1) := by decide +kernel
theorem dX11_seen_38 : decode cX11_seen 38 = .ok (.getfield 12, 3) := by decide +kernel
theorem dX11_seen_41 : decode cX11_seen 41 = .ok (.iload_n 1, 1) := by decide +kernel
theorem dX11_seen_42 : decode cX11_seen 42 = .ok (.iload_n 2, 1) := by decide +kernel
theorem dX11_seen_43 : decode cX11_seen 43 = .ok (.iload_n 3, 1) := by decide +kernel
theorem dX11_seen_44 : decode cX11_seen 44 = .ok (.invokevirtual 172, 3) := by decide +kernel
theorem dX11_seen_47 : decode cX11_seen 47 = .ok (.invokevirtual 72, 3) := by decide +kernel
theorem dX11_seen_50 : decode cX11_seen 50 = .ok (.ireturn, 1) := by decide +kernel
set_option maxRecDepth 20000 in
theorem ggX11_forget_X4_dropClues : GoodIn wsX11_forget wsX4_dropClues := goodIn_r _ [6, 7, 8, 9, 10, 11, 12, 13, 14, 15, 28, 29, 30, 31, 32, 33, 34, 35, 36, 37, 38, 39, 40, 41, 42, 43] (by decide +kernel) (by decide +kernel)
set_option maxRecDepth 20000 in
theorem gX11_forget_X4_dropClues : GoodIn wsX11_forget (wsV RX11 175 RX4 yX4_dropClues wsX4_dropClues) := goodIn_app (goodIn_of _ (by decide +kernel)) ggX11_forget_X4_dropClues
theorem dX11_forget_0 : decode cX11_forget 0 = .ok (.aload_n 0, 1) := by decide +kernel
theorem dX11_forget_1 : decode cX11_forget 1 = .ok (.getfield 12, 3) := by decide +kernel
theorem dX11_forget_4 : decode cX11_forget 4 = .ok (.invokevirtual 175, 3) := by decide +kernel
theorem dX11_forget_7 : decode cX11_forget 7 = .ok (.ireturn, 1) := by decide +kernel
set_option maxRecDepth 20000 in
theorem ggX11_fits_X11_within : GoodIn wsX11_fits wsX11_within := goodIn_r _ [7] (by decide +kernel) (by decide +kernel)
set_option maxRecDepth 20000 in
theorem gX11_fits_X11_within : GoodIn wsX11_fits (va_wsS RX11 120 yX11_within wsX11_within) := goodIn_app (goodIn_of _ (by decide +kernel)) ggX11_fits_X11_within
set_option maxRecDepth 20000 in
theorem ggX11_fits_X11_badIndex : GoodIn wsX11_fits wsX11_badIndex := goodIn_r _ [11, 12, 89, 90, 91, 92, 93, 94, 95, 96, 97, 98, 99, 100] (by decide +kernel) (by decide +kernel)
set_option maxRecDepth 20000 in
theorem gX11_fits_X11_badIndex : GoodIn wsX11_fits (wsV RX11 140 RX11 yX11_badIndex wsX11_badIndex) := goodIn_app (goodIn_of _ (by decide +kernel)) ggX11_fits_X11_badIndex
set_option maxRecDepth 20000 in
theorem ggX11_fits_X2_markFits : GoodIn wsX11_fits wsX2_markFits := goodIn_r _ [17, 18, 19, 20, 21, 22, 16, 23, 24, 25, 26, 27, 28, 29, 30, 31, 32, 33, 34, 35, 36, 37, 38, 39, 40, 41, 42, 43, 44, 45, 46, 47, 48, 49, 50, 51, 52, 53, 54, 55, 56, 57, 58, 59, 60, 61, 62, 63, 64, 65, 66, 67, 68, 69, 70, 71, 72, 73, 74, 75, 76, 77, 78, 79, 80, 81, 82, 83, 84, 85, 86, 87, 6, 88, 4, 5, 7, 101, 102, 103, 104, 105, 106, 107, 108, 109, 110, 111, 112, 113, 114, 115, 116, 117, 118, 119, 120, 121, 122] (by decide +kernel) (by decide +kernel)
set_option maxRecDepth 20000 in
theorem gX11_fits_X2_markFits : GoodIn wsX11_fits (wsV RX11 178 RX2 yX2_markFits wsX2_markFits) := goodIn_app (goodIn_of _ (by decide +kernel)) ggX11_fits_X2_markFits
theorem dX11_fits_0 : decode cX11_fits 0 = .ok (.iload_n 1, 1) := by decide +kernel
theorem dX11_fits_1 : decode cX11_fits 1 = .ok (.iconst 0, 1) := by decide +kernel
theorem dX11_fits_2 : decode cX11_fits 2 = .ok (.iconst 1, 1) := by decide +kernel
theorem dX11_fits_3 : decode cX11_fits 3 = .ok (.invokestatic 120, 3) := by decide +kernel
theorem dX11_fits_6 : decode cX11_fits 6 = .ok (.ifCond .ne 8, 3) := by decide +kernel
theorem dX11_fits_9 : decode cX11_fits 9 = .ok (.aload_n 0, 1) := by decide +kernel
theorem dX11_fits_10 : decode cX11_fits 10 = .ok (.invokevirtual 140, 3) := by decide +kernel
theorem dX11_fits_13 : decode cX11_fits 13 = .ok (.ireturn, 1) := by decide +kernel
theorem dX11_fits_14 : decode cX11_fits 14 = .ok (.aload_n 0, 1) := by decide +kernel
theorem dX11_fits_15 : decode cX11_fits 15 = .ok (.getfield 44, 3) := by decide +kernel
theorem dX11_fits_18 : decode cX11_fits 18 = .ok (.aload_n 0, 1) := by decide +kernel
theorem dX11_fits_19 : decode cX11_fits 19 = .ok (.getfield 12, 3) := by decide +kernel
theorem dX11_fits_22 : decode cX11_fits 22 = .ok (.invokevirtual 178, 3) := by decide +kernel
theorem dX11_fits_25 : decode cX11_fits 25 = .ok (.istore_n 2, 1) := by decide +kernel
theorem dX11_fits_26 : decode cX11_fits 26 = .ok (.iload_n 1, 1) := by decide +kernel
theorem dX11_fits_27 : decode cX11_fits 27 = .ok (.ifCond .ne 7, 3) := by decide +kernel
theorem dX11_fits_30 : decode cX11_fits 30 = .ok (.iload_n 2, 1) := by decide +kernel
theorem dX11_fits_31 : decode cX11_fits 31 = .ok (.goto 10, 3) := by decide +kernel
theorem dX11_fits_34 : decode cX11_fits 34 = .ok (.aload_n 0, 1) := by decide +kernel
theorem dX11_fits_35 : decode cX11_fits 35 = .ok (.getfield 44, 3) := by decide +kernel
theorem dX11_fits_38 : decode cX11_fits 38 = .ok (.getfield 181, 3) := by decide +kernel
theorem dX11_fits_41 : decode cX11_fits 41 = .ok (.ireturn, 1) := by decide +kernel
set_option maxRecDepth 20000 in
theorem ggX11_look_X2_markFits : GoodIn wsX11_look wsX2_markFits := goodIn_r _ [7, 8, 9, 10, 11, 12, 6, 13, 14, 15, 16, 17, 18, 19, 20, 21, 22, 23, 24, 25, 26, 27, 28, 29, 30, 31, 32, 33, 34, 35, 36, 37, 38, 39, 40, 41, 42, 43, 44, 45, 46, 47, 48, 49, 50, 51, 52, 53, 54, 55, 56, 57, 58, 59, 60, 61, 62, 63, 64, 65, 66, 67, 68, 69, 70, 71, 72, 73, 74, 75, 76, 77, 78, 79, 80, 81, 82, 114, 115, 116, 117, 118, 119, 120, 121, 122, 123, 124, 125, 126, 127, 128, 129, 130, 131, 132, 133, 134, 135] (by decide +kernel) (by decide +kernel)
set_option maxRecDepth 20000 in
theorem gX11_look_X2_markFits : GoodIn wsX11_look (wsV RX11 178 RX2 yX2_markFits wsX2_markFits) := goodIn_app (goodIn_of _ (by decide +kernel)) ggX11_look_X2_markFits
set_option maxRecDepth 20000 in
theorem ggX11_look_X2_nextStep : GoodIn wsX11_look wsX2_nextStep := goodIn_r _ [86, 87, 88, 89, 6, 90, 91, 9, 10, 92, 93, 94, 95, 96, 97, 98, 99, 23, 24, 25, 26, 27, 28, 29, 30, 31, 32, 33, 34, 35, 36, 37, 38, 39, 40, 41, 42, 43, 44, 45, 46, 47, 48, 49, 50, 51, 52, 53, 54, 55, 56, 57, 58, 59, 60, 61, 62, 63, 64, 65, 66, 67, 68, 69, 70, 71, 72, 73, 74, 75, 76, 77, 78, 79, 80, 81, 82, 100, 101, 114, 115, 116, 117, 118, 119, 120, 121, 122, 123, 124, 125, 126, 127, 128, 129, 130, 131, 132] (by decide +kernel) (by decide +kernel)
set_option maxRecDepth 20000 in
theorem gX11_look_X2_nextStep : GoodIn wsX11_look (wsV RX11 184 RX2 yX2_nextStep wsX2_nextStep) := goodIn_app (goodIn_of _ (by decide +kernel)) ggX11_look_X2_nextStep
theorem dX11_look_0 : decode cX11_look 0 = .ok (.aload_n 0, 1) := by decide +kernel
theorem dX11_look_1 : decode cX11_look 1 = .ok (.getfield 44, 3) := by decide +kernel
theorem dX11_look_4 : decode cX11_look 4 = .ok (.aload_n 0, 1) := by decide +kernel
theorem dX11_look_5 : decode cX11_look 5 = .ok (.getfield 12, 3) := by decide +kernel
theorem dX11_look_8 : decode cX11_look 8 = .ok (.invokevirtual 178, 3) := by decide +kernel
theorem dX11_look_11 : decode cX11_look 11 = .ok (.ifCond .ne 7, 3) := by decide +kernel
theorem dX11_look_14 : decode cX11_look 14 = .ok (.iconst (-1), 1) := by decide +kernel
theorem dX11_look_15 : decode cX11_look 15 = .ok (.goto 14, 3) := by decide +kernel
theorem dX11_look_18 : decode cX11_look 18 = .ok (.aload_n 0, 1) := by decide +kernel
theorem dX11_look_19 : decode cX11_look 19 = .ok (.getfield 44, 3) := by decide +kernel
theorem dX11_look_22 : decode cX11_look 22 = .ok (.aload_n 0, 1) := by decide +kernel
theorem dX11_look_23 : decode cX11_look 23 = .ok (.getfield 12, 3) := by decide +kernel
theorem dX11_look_26 : decode cX11_look 26 = .ok (.invokevirtual 184, 3) := by decide +kernel
theorem dX11_look_29 : decode cX11_look 29 = .ok (.ireturn, 1) := by decide +kernel
set_option maxRecDepth 20000 in
theorem ggX11_glimpse_X11_isLayer : GoodIn wsX11_glimpse wsX11_isLayer := goodIn_r _ [6, 7, 8, 5, 9] (by decide +kernel) (by decide +kernel)
set_option maxRecDepth 20000 in
theorem gX11_glimpse_X11_isLayer : GoodIn wsX11_glimpse (va_wsS RX11 187 yX11_isLayer wsX11_isLayer) := goodIn_app (goodIn_of _ (by decide +kernel)) ggX11_glimpse_X11_isLayer
set_option maxRecDepth 20000 in
theorem ggX11_glimpse_X11_within : GoodIn wsX11_glimpse wsX11_within := goodIn_r _ [9] (by decide +kernel) (by decide +kernel)
set_option maxRecDepth 20000 in
theorem gX11_glimpse_X11_within : GoodIn wsX11_glimpse (va_wsS RX11 120 yX11_within wsX11_within) := goodIn_app (goodIn_of _ (by decide +kernel)) ggX11_glimpse_X11_within
set_option maxRecDepth 20000 in
theorem ggX11_glimpse_X11_counted : GoodIn wsX11_glimpse wsX11_counted := goodIn_r _ [13, 14, 15, 16, 29, 30, 31, 32, 33, 34, 35, 36, 37, 38, 39, 40] (by decide +kernel) (by decide +kernel)
set_option maxRecDepth 20000 in
theorem gX11_glimpse_X11_counted : GoodIn wsX11_glimpse (wsV RX11 72 RX11 yX11_counted wsX11_counted) := goodIn_app (goodIn_of _ (by decide +kernel)) ggX11_glimpse_X11_counted
set_option maxRecDepth 20000 in
theorem ggX11_glimpse_X9_add : GoodIn wsX11_glimpse wsX9_add := goodIn_r _ [21, 22, 23, 24, 25, 26, 20, 27, 28, 54, 55, 56] (by decide +kernel) (by decide +kernel)
set_option maxRecDepth 20000 in
theorem gX11_glimpse_X9_add : GoodIn wsX11_glimpse (wsV RX11 136 RX9 yX9_add wsX9_add) := goodIn_app (goodIn_of _ (by decide +kernel)) ggX11_glimpse_X9_add
theorem dX11_glimpse_0 : decode cX11_glimpse 0 = .ok (.iload_n 1, 1) := by decide +kernel
theorem dX11_glimpse_1 : decode cX11_glimpse 1 = .ok (.invokestatic 187, 3) := by decide +kernel
theorem dX11_glimpse_4 : decode cX11_glimpse 4 = .ok (.ifCond .eq 22, 3) := by decide +kernel
theorem dX11_glimpse_7 : decode cX11_glimpse 7 = .ok (.iload_n 2, 1) := by decide +kernel
theorem dX11_glimpse_8 : decode cX11_glimpse 8 = .ok (.iconst 0, 1) := by decide +kernel
theorem dX11_glimpse_9 : decode cX11_glimpse 9 = .ok (.bipush 8, 2) := by decide +kernel
theorem dX11_glimpse_11 : decode cX11_glimpse 11 = .ok (.invokestatic 120, 3) := by decide +kernel
theorem dX11_glimpse_14 : decode cX11_glimpse 14 = .ok (.ifCond .eq 12, 3) := by decide +kernel
theorem dX11_glimpse_17 : decode cX11_glimpse 17 = .ok (.iload_n 3, 1) := by decide +kernel
theorem dX11_glimpse_18 : decode cX11_glimpse 18 = .ok (.iconst 0, 1) := by decide +kernel
theorem dX11_glimpse_19 : decode cX11_glimpse 19 = .ok (.iconst 1, 1) := by decide +kernel
theorem dX11_glimpse_20 : decode cX11_glimpse 20 = .ok (.invokestatic 120, 3) := by decide +kernel
theorem dX11_glimpse_23 : decode cX11_glimpse 23 = .ok (.ifCond .ne 10, 3) := by decide +kernel
theorem dX11_glimpse_26 : decode cX11_glimpse 26 = .ok (.aload_n 0, 1) := by decide +kernel
theorem dX11_glimpse_27 : decode cX11_glimpse 27 = .ok (.bipush (-2), 2) := by decide +kernel
theorem dX11_glimpse_29 : decode cX11_glimpse 29 = .ok (.invokevirtual 72, 3) := by decide +kernel
theorem dX11_glimpse_32 : decode cX11_glimpse 32 = .ok (.ireturn, 1) := by decide +kernel
theorem dX11_glimpse_33 : decode cX11_glimpse 33 = .ok (.aload_n 0, 1) := by decide +kernel
theorem dX11_glimpse_34 : decode cX11_glimpse 34 = .ok (.aload_n 0, 1) := by decide +kernel
theorem dX11_glimpse_35 : decode cX11_glimpse 35 = .ok (.getfield 12, 3) := by decide +kernel
theorem dX11_glimpse_38 : decode cX11_glimpse 38 = .ok (.getfield 190, 3) := by decide +kernel
theorem dX11_glimpse_41 : decode cX11_glimpse 41 = .ok (.iload_n 1, 1) := by decide +kernel
theorem dX11_glimpse_42 : decode cX11_glimpse 42 = .ok (.iload_n 2, 1) := by decide +kernel
theorem dX11_glimpse_43 : decode cX11_glimpse 43 = .ok (.iload_n 3, 1) := by decide +kernel
theorem dX11_glimpse_44 : decode cX11_glimpse 44 = .ok (.invokevirtual 136, 3) := by decide +kernel
theorem dX11_glimpse_47 : decode cX11_glimpse 47 = .ok (.invokevirtual 72, 3) := by decide +kernel
theorem dX11_glimpse_50 : decode cX11_glimpse 50 = .ok (.ireturn, 1) := by decide +kernel
set_option maxRecDepth 20000 in
theorem ggX11_walks_X2_countWalks : GoodIn wsX11_walks wsX2_countWalks := goodIn_r _ [7, 8, 9, 10, 11, 12, 13, 14, 6, 15, 16, 17, 18, 19, 20, 21, 22, 23, 24, 25, 26, 27, 28, 29, 30, 31, 32, 33, 46, 47, 48, 49, 50, 51, 52, 53, 54, 55, 56, 57, 58, 59, 60, 61, 62, 63, 64, 65, 66, 67] (by decide +kernel) (by decide +kernel)
set_option maxRecDepth 20000 in
theorem gX11_walks_X2_countWalks : GoodIn wsX11_walks (wsV RX11 193 RX2 yX2_countWalks wsX2_countWalks) := goodIn_app (goodIn_of _ (by decide +kernel)) ggX11_walks_X2_countWalks
theorem dX11_walks_0 : decode cX11_walks 0 = .ok (.aload_n 0, 1) := by decide +kernel
theorem dX11_walks_1 : decode cX11_walks 1 = .ok (.getfield 44, 3) := by decide +kernel
theorem dX11_walks_4 : decode cX11_walks 4 = .ok (.aload_n 0, 1) := by decide +kernel
theorem dX11_walks_5 : decode cX11_walks 5 = .ok (.getfield 12, 3) := by decide +kernel
theorem dX11_walks_8 : decode cX11_walks 8 = .ok (.invokevirtual 193, 3) := by decide +kernel
theorem dX11_walks_11 : decode cX11_walks 11 = .ok (.lreturn, 1) := by decide +kernel
set_option maxRecDepth 20000 in
theorem ggX11_places_X11_isLayer : GoodIn wsX11_places wsX11_isLayer := goodIn_r _ [6, 7, 8, 5, 9] (by decide +kernel) (by decide +kernel)
set_option maxRecDepth 20000 in
theorem gX11_places_X11_isLayer : GoodIn wsX11_places (va_wsS RX11 187 yX11_isLayer wsX11_isLayer) := goodIn_app (goodIn_of _ (by decide +kernel)) ggX11_places_X11_isLayer
set_option maxRecDepth 20000 in
theorem ggX11_places_X11_counted : GoodIn wsX11_places wsX11_counted := goodIn_r _ [13, 14, 15, 16, 46, 47, 48, 49, 50, 51, 52, 53, 54, 55, 56, 57] (by decide +kernel) (by decide +kernel)
set_option maxRecDepth 20000 in
theorem gX11_places_X11_counted : GoodIn wsX11_places (wsV RX11 72 RX11 yX11_counted wsX11_counted) := goodIn_app (goodIn_of _ (by decide +kernel)) ggX11_places_X11_counted
set_option maxRecDepth 20000 in
theorem ggX11_places_X2_countWalks : GoodIn wsX11_places wsX2_countWalks := goodIn_r _ [21, 22, 23, 24, 25, 26, 27, 28, 20, 29, 30, 31, 32, 33, 34, 35, 36, 37, 4, 5, 6, 7, 8, 9, 38, 39, 40, 41, 58, 59, 60, 61, 62, 63, 64, 65, 66, 67, 68, 69, 70, 71, 72, 73, 74, 75, 76, 77, 78, 79] (by decide +kernel) (by decide +kernel)
set_option maxRecDepth 20000 in
theorem gX11_places_X2_countWalks : GoodIn wsX11_places (wsV RX11 193 RX2 yX2_countWalks wsX2_countWalks) := goodIn_app (goodIn_of _ (by decide +kernel)) ggX11_places_X2_countWalks
set_option maxRecDepth 20000 in
theorem ggX11_places_X2_cellsIn : GoodIn wsX11_places wsX2_cellsIn := goodIn_r _ [45, 23, 25, 4, 5, 6, 7, 8, 9, 71, 72, 73, 74, 75, 76] (by decide +kernel) (by decide +kernel)
set_option maxRecDepth 20000 in
theorem gX11_places_X2_cellsIn : GoodIn wsX11_places (wsV RX11 197 RX2 yX2_cellsIn wsX2_cellsIn) := goodIn_app (goodIn_of _ (by decide +kernel)) ggX11_places_X2_cellsIn
theorem dX11_places_0 : decode cX11_places 0 = .ok (.iload_n 1, 1) := by decide +kernel
theorem dX11_places_1 : decode cX11_places 1 = .ok (.invokestatic 187, 3) := by decide +kernel
theorem dX11_places_4 : decode cX11_places 4 = .ok (.ifCond .ne 10, 3) := by decide +kernel
theorem dX11_places_7 : decode cX11_places 7 = .ok (.aload_n 0, 1) := by decide +kernel
theorem dX11_places_8 : decode cX11_places 8 = .ok (.bipush (-2), 2) := by decide +kernel
theorem dX11_places_10 : decode cX11_places 10 = .ok (.invokevirtual 72, 3) := by decide +kernel
theorem dX11_places_13 : decode cX11_places 13 = .ok (.ireturn, 1) := by decide +kernel
theorem dX11_places_14 : decode cX11_places 14 = .ok (.aload_n 0, 1) := by decide +kernel
theorem dX11_places_15 : decode cX11_places 15 = .ok (.getfield 44, 3) := by decide +kernel
theorem dX11_places_18 : decode cX11_places 18 = .ok (.aload_n 0, 1) := by decide +kernel
theorem dX11_places_19 : decode cX11_places 19 = .ok (.getfield 12, 3) := by decide +kernel
theorem dX11_places_22 : decode cX11_places 22 = .ok (.invokevirtual 193, 3) := by decide +kernel
theorem dX11_places_25 : decode cX11_places 25 = .ok (.pop2, 1) := by decide +kernel
theorem dX11_places_26 : decode cX11_places 26 = .ok (.aload_n 0, 1) := by decide +kernel
theorem dX11_places_27 : decode cX11_places 27 = .ok (.getfield 44, 3) := by decide +kernel
theorem dX11_places_30 : decode cX11_places 30 = .ok (.iload_n 1, 1) := by decide +kernel
theorem dX11_places_31 : decode cX11_places 31 = .ok (.invokevirtual 197, 3) := by decide +kernel
theorem dX11_places_34 : decode cX11_places 34 = .ok (.ireturn, 1) := by decide +kernel
set_option maxRecDepth 20000 in
theorem ggX11_leftTo_X2_countWalks : GoodIn wsX11_leftTo wsX2_countWalks := goodIn_r _ [7, 8, 9, 10, 11, 12, 13, 14, 6, 15, 16, 17, 18, 19, 20, 21, 22, 23, 24, 25, 26, 27, 28, 29, 30, 31, 32, 33, 61, 62, 63, 64, 65, 66, 67, 68, 69, 70, 71, 72, 73, 74, 75, 76, 77, 78, 79, 80, 81, 82] (by decide +kernel) (by decide +kernel)
set_option maxRecDepth 20000 in
theorem gX11_leftTo_X2_countWalks : GoodIn wsX11_leftTo (wsV RX11 193 RX2 yX2_countWalks wsX2_countWalks) := goodIn_app (goodIn_of _ (by decide +kernel)) ggX11_leftTo_X2_countWalks
set_option maxRecDepth 20000 in
theorem ggX11_leftTo_X2_widestLayer : GoodIn wsX11_leftTo wsX2_widestLayer := goodIn_r _ [37, 38, 39, 40, 6, 41, 9, 11, 24, 25, 26, 27, 28, 29, 42, 43, 44, 45, 46, 47, 48, 74, 75, 76, 77, 78, 79] (by decide +kernel) (by decide +kernel)
set_option maxRecDepth 20000 in
theorem gX11_leftTo_X2_widestLayer : GoodIn wsX11_leftTo (wsV RX11 200 RX2 yX2_widestLayer wsX2_widestLayer) := goodIn_app (goodIn_of _ (by decide +kernel)) ggX11_leftTo_X2_widestLayer
theorem dX11_leftTo_0 : decode cX11_leftTo 0 = .ok (.aload_n 0, 1) := by decide +kernel
theorem dX11_leftTo_1 : decode cX11_leftTo 1 = .ok (.getfield 44, 3) := by decide +kernel
theorem dX11_leftTo_4 : decode cX11_leftTo 4 = .ok (.aload_n 0, 1) := by decide +kernel
theorem dX11_leftTo_5 : decode cX11_leftTo 5 = .ok (.getfield 12, 3) := by decide +kernel
theorem dX11_leftTo_8 : decode cX11_leftTo 8 = .ok (.invokevirtual 193, 3) := by decide +kernel
theorem dX11_leftTo_11 : decode cX11_leftTo 11 = .ok (.lconst 0, 1) := by decide +kernel
theorem dX11_leftTo_12 : decode cX11_leftTo 12 = .ok (.lcmp, 1) := by decide +kernel
theorem dX11_leftTo_13 : decode cX11_leftTo 13 = .ok (.ifCond .ne 7, 3) := by decide +kernel
theorem dX11_leftTo_16 : decode cX11_leftTo 16 = .ok (.iconst (-1), 1) := by decide +kernel
theorem dX11_leftTo_17 : decode cX11_leftTo 17 = .ok (.goto 10, 3) := by decide +kernel
theorem dX11_leftTo_20 : decode cX11_leftTo 20 = .ok (.aload_n 0, 1) := by decide +kernel
theorem dX11_leftTo_21 : decode cX11_leftTo 21 = .ok (.getfield 44, 3) := by decide +kernel
theorem dX11_leftTo_24 : decode cX11_leftTo 24 = .ok (.invokevirtual 200, 3) := by decide +kernel
theorem dX11_leftTo_27 : decode cX11_leftTo 27 = .ok (.ireturn, 1) := by decide +kernel
set_option maxRecDepth 20000 in
theorem ggX11_odds_X4_hasLump : GoodIn wsX11_odds wsX4_hasLump := goodIn_r _ [8, 9, 10, 131, 132, 133, 134, 135, 136, 137, 138, 139, 140, 141, 142, 143, 144, 145, 146] (by decide +kernel) (by decide +kernel)
set_option maxRecDepth 20000 in
theorem gX11_odds_X4_hasLump : GoodIn wsX11_odds (wsV RX11 94 RX4 yX4_hasLump wsX4_hasLump) := goodIn_app (goodIn_of _ (by decide +kernel)) ggX11_odds_X4_hasLump
set_option maxRecDepth 20000 in
theorem ggX11_odds_X11_isWeather : GoodIn wsX11_odds wsX11_isWeather := goodIn_r _ [14, 15, 16, 13, 17] (by decide +kernel) (by decide +kernel)
set_option maxRecDepth 20000 in
theorem gX11_odds_X11_isWeather : GoodIn wsX11_odds (va_wsS RX11 130 yX11_isWeather wsX11_isWeather) := goodIn_app (goodIn_of _ (by decide +kernel)) ggX11_odds_X11_isWeather
set_option maxRecDepth 20000 in
theorem ggX11_odds_X11_within : GoodIn wsX11_odds wsX11_within := goodIn_r _ [17] (by decide +kernel) (by decide +kernel)
set_option maxRecDepth 20000 in
theorem gX11_odds_X11_within : GoodIn wsX11_odds (va_wsS RX11 120 yX11_within wsX11_within) := goodIn_app (goodIn_of _ (by decide +kernel)) ggX11_odds_X11_within
set_option maxRecDepth 20000 in
theorem ggX11_odds_X11_counted : GoodIn wsX11_odds wsX11_counted := goodIn_r _ [21, 22, 23, 24, 119, 120, 121, 122, 123, 124, 125, 126, 127, 128, 129, 130] (by decide +kernel) (by decide +kernel)
set_option maxRecDepth 20000 in
theorem gX11_odds_X11_counted : GoodIn wsX11_odds (wsV RX11 72 RX11 yX11_counted wsX11_counted) := goodIn_app (goodIn_of _ (by decide +kernel)) ggX11_odds_X11_counted
set_option maxRecDepth 20000 in
theorem ggX11_odds_X4_firstStepOf : GoodIn wsX11_odds wsX4_firstStepOf := goodIn_r _ [28, 29, 30, 31, 7, 32, 9, 33, 34, 35, 36, 37, 38, 39, 40, 41, 42, 43, 44, 45, 46, 47, 48, 49, 50, 51, 52, 53, 54, 55, 56, 57, 58, 59, 60, 61, 62, 63, 64, 65, 66, 67, 68, 69, 70, 71, 72, 73, 74, 75, 76, 77, 78, 79, 80, 81, 82, 83, 84, 85, 86, 87, 88, 89, 90, 91, 92, 93, 94, 95, 96, 97, 98, 99, 100, 101, 102, 103, 104, 105, 106, 107, 108, 109, 110, 111, 112, 113, 13, 114, 15, 16, 17, 131, 132, 133, 134, 135, 136, 137, 138, 139, 140, 141, 142, 143, 144, 145, 146] (by decide +kernel) (by decide +kernel)
set_option maxRecDepth 20000 in
theorem gX11_odds_X4_firstStepOf : GoodIn wsX11_odds (wsV RX11 203 RX4 yX4_firstStepOf wsX4_firstStepOf) := goodIn_app (goodIn_of _ (by decide +kernel)) ggX11_odds_X4_firstStepOf
set_option maxRecDepth 20000 in
theorem ggX11_odds_X11_setPower : GoodIn wsX11_odds wsX11_setPower := goodIn_r _ [118, 2, 3, 119, 120, 121, 122, 123, 124, 125, 126, 127, 128, 129, 130] (by decide +kernel) (by decide +kernel)
set_option maxRecDepth 20000 in
theorem gX11_odds_X11_setPower : GoodIn wsX11_odds (wsV RX11 206 RX11 yX11_setPower wsX11_setPower) := goodIn_app (goodIn_of _ (by decide +kernel)) ggX11_odds_X11_setPower
theorem dX11_odds_0 : decode cX11_odds 0 = .ok (.aload_n 0, 1) := by decide +kernel
theorem dX11_odds_1 : decode cX11_odds 1 = .ok (.getfield 12, 3) := by decide +kernel
theorem dX11_odds_4 : decode cX11_odds 4 = .ok (.iload_n 1, 1) := by decide +kernel
theorem dX11_odds_5 : decode cX11_odds 5 = .ok (.invokevirtual 94, 3) := by decide +kernel
theorem dX11_odds_8 : decode cX11_odds 8 = .ok (.ifCond .eq 20, 3) := by decide +kernel
theorem dX11_odds_11 : decode cX11_odds 11 = .ok (.iload_n 2, 1) := by decide +kernel
theorem dX11_odds_12 : decode cX11_odds 12 = .ok (.invokestatic 130, 3) := by decide +kernel
theorem dX11_odds_15 : decode cX11_odds 15 = .ok (.ifCond .eq 13, 3) := by decide +kernel
theorem dX11_odds_18 : decode cX11_odds 18 = .ok (.iload_n 3, 1) := by decide +kernel
theorem dX11_odds_19 : decode cX11_odds 19 = .ok (.iconst 0, 1) := by decide +kernel
theorem dX11_odds_20 : decode cX11_odds 20 = .ok (.bipush 10, 2) := by decide +kernel
theorem dX11_odds_22 : decode cX11_odds 22 = .ok (.invokestatic 120, 3) := by decide +kernel
theorem dX11_odds_25 : decode cX11_odds 25 = .ok (.ifCond .ne 10, 3) := by decide +kernel
theorem dX11_odds_28 : decode cX11_odds 28 = .ok (.aload_n 0, 1) := by decide +kernel
theorem dX11_odds_29 : decode cX11_odds 29 = .ok (.bipush (-2), 2) := by decide +kernel
theorem dX11_odds_31 : decode cX11_odds 31 = .ok (.invokevirtual 72, 3) := by decide +kernel
theorem dX11_odds_34 : decode cX11_odds 34 = .ok (.ireturn, 1) := by decide +kernel
theorem dX11_odds_35 : decode cX11_odds 35 = .ok (.aload_n 0, 1) := by decide +kernel
theorem dX11_odds_36 : decode cX11_odds 36 = .ok (.lconst 0, 1) := by decide +kernel
theorem dX11_odds_37 : decode cX11_odds 37 = .ok (.putfield 48, 3) := by decide +kernel
theorem dX11_odds_40 : decode cX11_odds 40 = .ok (.aload_n 0, 1) := by decide +kernel
theorem dX11_odds_41 : decode cX11_odds 41 = .ok (.lconst 1, 1) := by decide +kernel
theorem dX11_odds_42 : decode cX11_odds 42 = .ok (.putfield 52, 3) := by decide +kernel
theorem dX11_odds_45 : decode cX11_odds 45 = .ok (.aload_n 0, 1) := by decide +kernel
theorem dX11_odds_46 : decode cX11_odds 46 = .ok (.getfield 12, 3) := by decide +kernel
theorem dX11_odds_49 : decode cX11_odds 49 = .ok (.iload_n 1, 1) := by decide +kernel
theorem dX11_odds_50 : decode cX11_odds 50 = .ok (.iload_n 2, 1) := by decide +kernel
theorem dX11_odds_51 : decode cX11_odds 51 = .ok (.invokevirtual 203, 3) := by decide +kernel
theorem dX11_odds_54 : decode cX11_odds 54 = .ok (.istore 4, 2) := by decide +kernel
theorem dX11_odds_56 : decode cX11_odds 56 = .ok (.iload 4, 2) := by decide +kernel
theorem dX11_odds_58 : decode cX11_odds 58 = .ok (.iconst (-1), 1) := by decide +kernel
theorem dX11_odds_59 : decode cX11_odds 59 = .ok (.if_icmp .eq 15, 3) := by decide +kernel
theorem dX11_odds_62 : decode cX11_odds 62 = .ok (.aload_n 0, 1) := by decide +kernel
theorem dX11_odds_63 : decode cX11_odds 63 = .ok (.bipush 10, 2) := by decide +kernel
theorem dX11_odds_65 : decode cX11_odds 65 = .ok (.iload_n 3, 1) := by decide +kernel
theorem dX11_odds_66 : decode cX11_odds 66 = .ok (.isub, 1) := by decide +kernel
theorem dX11_odds_67 : decode cX11_odds 67 = .ok (.iload 4, 2) := by decide +kernel
theorem dX11_odds_69 : decode cX11_odds 69 = .ok (.iconst 1, 1) := by decide +kernel
theorem dX11_odds_70 : decode cX11_odds 70 = .ok (.iadd, 1) := by decide +kernel
theorem dX11_odds_71 : decode cX11_odds 71 = .ok (.invokevirtual 206, 3) := by decide +kernel
theorem dX11_odds_74 : decode cX11_odds 74 = .ok (.iconst 1, 1) := by decide +kernel
theorem dX11_odds_75 : decode cX11_odds 75 = .ok (.ireturn, 1) := by decide +kernel
set_option maxRecDepth 20000 in
theorem ggX11_drawn_X11_within : GoodIn wsX11_drawn wsX11_within := goodIn_r _ [12] (by decide +kernel) (by decide +kernel)
set_option maxRecDepth 20000 in
theorem gX11_drawn_X11_within : GoodIn wsX11_drawn (va_wsS RX11 120 yX11_within wsX11_within) := goodIn_app (goodIn_of _ (by decide +kernel)) ggX11_drawn_X11_within
set_option maxRecDepth 20000 in
theorem ggX11_drawn_X11_counted : GoodIn wsX11_drawn wsX11_counted := goodIn_r _ [16, 17, 18, 19, 142, 143, 144, 145, 146, 147, 148, 149, 150, 151, 152, 153] (by decide +kernel) (by decide +kernel)
set_option maxRecDepth 20000 in
theorem gX11_drawn_X11_counted : GoodIn wsX11_drawn (wsV RX11 72 RX11 yX11_counted wsX11_counted) := goodIn_app (goodIn_of _ (by decide +kernel)) ggX11_drawn_X11_counted
set_option maxRecDepth 20000 in
theorem ggX11_drawn_X6_weigh : GoodIn wsX11_drawn wsX6_weigh := goodIn_r _ [24, 25, 26, 27, 28, 29, 30, 31, 32, 33, 34, 35, 36, 37, 38, 39, 40, 41, 42, 43, 44, 45, 46, 47, 48, 49, 50, 51, 52, 53, 54, 55, 56, 57, 58, 59, 60, 61, 62, 63, 64, 65, 66, 67, 68, 69, 70, 71, 72, 73, 74, 75, 76, 77, 78, 79, 80, 81, 82, 83, 84, 85, 86, 87, 88, 89, 90, 91, 92, 93, 94, 95, 96, 97, 98, 99, 100, 101, 102, 103, 104, 105, 106, 107, 108, 109, 110, 111, 112, 113, 114, 115, 116, 117, 118, 119, 120, 121, 122, 123, 124, 125, 126, 127, 128, 129, 130, 11, 131, 9, 10, 12, 132, 133, 134, 135, 136, 137, 154, 155, 156, 157, 158, 159, 160, 161, 162, 163, 164, 165, 166, 167, 168, 169, 170, 171, 172, 173, 174, 175, 176, 177, 178, 179, 180] (by decide +kernel) (by decide +kernel)
set_option maxRecDepth 20000 in
theorem gX11_drawn_X6_weigh : GoodIn wsX11_drawn (wsV RX11 153 RX6 yX6_weigh wsX6_weigh) := goodIn_app (goodIn_of _ (by decide +kernel)) ggX11_drawn_X6_weigh
set_option maxRecDepth 20000 in
theorem ggX11_drawn_X6_worthOf : GoodIn wsX11_drawn wsX6_worthOf := goodIn_r _ [141, 27, 154, 155, 156, 157, 158, 159, 160, 161, 162, 163, 164] (by decide +kernel) (by decide +kernel)
set_option maxRecDepth 20000 in
theorem gX11_drawn_X6_worthOf : GoodIn wsX11_drawn (wsV RX11 220 RX6 yX6_worthOf wsX6_worthOf) := goodIn_app (goodIn_of _ (by decide +kernel)) ggX11_drawn_X6_worthOf
theorem dX11_drawn_0 : decode cX11_drawn 0 = .ok (.iload_n 1, 1) := by decide +kernel
theorem dX11_drawn_1 : decode cX11_drawn 1 = .ok (.iconst 0, 1) := by decide +kernel
theorem dX11_drawn_2 : decode cX11_drawn 2 = .ok (.ldc 209, 2) := by decide +kernel
theorem dX11_drawn_4 : decode cX11_drawn 4 = .ok (.invokestatic 120, 3) := by decide +kernel
theorem dX11_drawn_7 : decode cX11_drawn 7 = .ok (.ifCond .eq 13, 3) := by decide +kernel
theorem dX11_drawn_10 : decode cX11_drawn 10 = .ok (.iload_n 2, 1) := by decide +kernel
theorem dX11_drawn_11 : decode cX11_drawn 11 = .ok (.iconst 0, 1) := by decide +kernel
theorem dX11_drawn_12 : decode cX11_drawn 12 = .ok (.bipush 60, 2) := by decide +kernel
theorem dX11_drawn_14 : decode cX11_drawn 14 = .ok (.invokestatic 120, 3) := by decide +kernel
theorem dX11_drawn_17 : decode cX11_drawn 17 = .ok (.ifCond .ne 10, 3) := by decide +kernel
theorem dX11_drawn_20 : decode cX11_drawn 20 = .ok (.aload_n 0, 1) := by decide +kernel
theorem dX11_drawn_21 : decode cX11_drawn 21 = .ok (.bipush (-2), 2) := by decide +kernel
theorem dX11_drawn_23 : decode cX11_drawn 23 = .ok (.invokevirtual 72, 3) := by decide +kernel
theorem dX11_drawn_26 : decode cX11_drawn 26 = .ok (.ireturn, 1) := by decide +kernel
theorem dX11_drawn_27 : decode cX11_drawn 27 = .ok (.aload_n 0, 1) := by decide +kernel
theorem dX11_drawn_28 : decode cX11_drawn 28 = .ok (.getfield 37, 3) := by decide +kernel
theorem dX11_drawn_31 : decode cX11_drawn 31 = .ok (.aload_n 0, 1) := by decide +kernel
theorem dX11_drawn_32 : decode cX11_drawn 32 = .ok (.getfield 12, 3) := by decide +kernel
theorem dX11_drawn_35 : decode cX11_drawn 35 = .ok (.invokevirtual 153, 3) := by decide +kernel
theorem dX11_drawn_38 : decode cX11_drawn 38 = .ok (.iload_n 1, 1) := by decide +kernel
theorem dX11_drawn_39 : decode cX11_drawn 39 = .ok (.i2l, 1) := by decide +kernel
theorem dX11_drawn_40 : decode cX11_drawn 40 = .ok (.lstore_n 3, 1) := by decide +kernel
theorem dX11_drawn_41 : decode cX11_drawn 41 = .ok (.iconst 0, 1) := by decide +kernel
theorem dX11_drawn_42 : decode cX11_drawn 42 = .ok (.istore 5, 2) := by decide +kernel
theorem dX11_drawn_44 : decode cX11_drawn 44 = .ok (.iconst 0, 1) := by decide +kernel
theorem dX11_drawn_45 : decode cX11_drawn 45 = .ok (.istore 6, 2) := by decide +kernel
theorem dX11_drawn_47 : decode cX11_drawn 47 = .ok (.iload 6, 2) := by decide +kernel
theorem dX11_drawn_49 : decode cX11_drawn 49 = .ok (.iload_n 2, 1) := by decide +kernel
theorem dX11_drawn_50 : decode cX11_drawn 50 = .ok (.if_icmp .ge 45, 3) := by decide +kernel
theorem dX11_drawn_53 : decode cX11_drawn 53 = .ok (.lload_n 3, 1) := by decide +kernel
theorem dX11_drawn_54 : decode cX11_drawn 54 = .ok (.ldc2_w 210, 3) := by decide +kernel
theorem dX11_drawn_57 : decode cX11_drawn 57 = .ok (.lmul, 1) := by decide +kernel
theorem dX11_drawn_58 : decode cX11_drawn 58 = .ok (.ldc2_w 212, 3) := by decide +kernel
theorem dX11_drawn_61 : decode cX11_drawn 61 = .ok (.ladd, 1) := by decide +kernel
theorem dX11_drawn_62 : decode cX11_drawn 62 = .ok (.ldc2_w 214, 3) := by decide +kernel
theorem dX11_drawn_65 : decode cX11_drawn 65 = .ok (.lrem, 1) := by decide +kernel
theorem dX11_drawn_66 : decode cX11_drawn 66 = .ok (.lstore_n 3, 1) := by decide +kernel
theorem dX11_drawn_67 : decode cX11_drawn 67 = .ok (.iload 5, 2) := by decide +kernel
theorem dX11_drawn_69 : decode cX11_drawn 69 = .ok (.aload_n 0, 1) := by decide +kernel
theorem dX11_drawn_70 : decode cX11_drawn 70 = .ok (.getfield 37, 3) := by decide +kernel
theorem dX11_drawn_73 : decode cX11_drawn 73 = .ok (.lload_n 3, 1) := by decide +kernel
theorem dX11_drawn_74 : decode cX11_drawn 74 = .ok (.ldc2_w 216, 3) := by decide +kernel
theorem dX11_drawn_77 : decode cX11_drawn 77 = .ok (.ldiv, 1) := by decide +kernel
theorem dX11_drawn_78 : decode cX11_drawn 78 = .ok (.ldc2_w 218, 3) := by decide +kernel
theorem dX11_drawn_81 : decode cX11_drawn 81 = .ok (.lrem, 1) := by decide +kernel
theorem dX11_drawn_82 : decode cX11_drawn 82 = .ok (.l2i, 1) := by decide +kernel
theorem dX11_drawn_83 : decode cX11_drawn 83 = .ok (.invokevirtual 220, 3) := by decide +kernel
theorem dX11_drawn_86 : decode cX11_drawn 86 = .ok (.iadd, 1) := by decide +kernel
theorem dX11_drawn_87 : decode cX11_drawn 87 = .ok (.istore 5, 2) := by decide +kernel
theorem dX11_drawn_89 : decode cX11_drawn 89 = .ok (.iinc 6 1, 3) := by decide +kernel
theorem dX11_drawn_92 : decode cX11_drawn 92 = .ok (.goto (-45), 3) := by decide +kernel
theorem dX11_drawn_95 : decode cX11_drawn 95 = .ok (.iload 5, 2) := by decide +kernel
theorem dX11_drawn_97 : decode cX11_drawn 97 = .ok (.ireturn, 1) := by decide +kernel
set_option maxRecDepth 20000 in
theorem ggX11_part_X11_within : GoodIn wsX11_part wsX11_within := goodIn_r _ [6] (by decide +kernel) (by decide +kernel)
set_option maxRecDepth 20000 in
theorem gX11_part_X11_within : GoodIn wsX11_part (va_wsS RX11 120 yX11_within wsX11_within) := goodIn_app (goodIn_of _ (by decide +kernel)) ggX11_part_X11_within
set_option maxRecDepth 20000 in
theorem ggX11_part_X11_counted : GoodIn wsX11_part wsX11_counted := goodIn_r _ [10, 11, 12, 13, 14, 15, 16, 17, 18, 19, 20, 21, 22, 23, 24, 25] (by decide +kernel) (by decide +kernel)
set_option maxRecDepth 20000 in
theorem gX11_part_X11_counted : GoodIn wsX11_part (wsV RX11 72 RX11 yX11_counted wsX11_counted) := goodIn_app (goodIn_of _ (by decide +kernel)) ggX11_part_X11_counted
theorem dX11_part_0 : decode cX11_part 0 = .ok (.iload_n 1, 1) := by decide +kernel
theorem dX11_part_1 : decode cX11_part 1 = .ok (.iconst 0, 1) := by decide +kernel
theorem dX11_part_2 : decode cX11_part 2 = .ok (.iconst 1, 1) := by decide +kernel
theorem dX11_part_3 : decode cX11_part 3 = .ok (.invokestatic 120, 3) := by decide +kernel
theorem dX11_part_6 : decode cX11_part 6 = .ok (.ifCond .ne 11, 3) := by decide +kernel
theorem dX11_part_9 : decode cX11_part 9 = .ok (.aload_n 0, 1) := by decide +kernel
theorem dX11_part_10 : decode cX11_part 10 = .ok (.bipush (-2), 2) := by decide +kernel
theorem dX11_part_12 : decode cX11_part 12 = .ok (.invokevirtual 72, 3) := by decide +kernel
theorem dX11_part_15 : decode cX11_part 15 = .ok (.i2l, 1) := by decide +kernel
theorem dX11_part_16 : decode cX11_part 16 = .ok (.lreturn, 1) := by decide +kernel
theorem dX11_part_17 : decode cX11_part 17 = .ok (.iload_n 1, 1) := by decide +kernel
theorem dX11_part_18 : decode cX11_part 18 = .ok (.ifCond .ne 10, 3) := by decide +kernel
theorem dX11_part_21 : decode cX11_part 21 = .ok (.aload_n 0, 1) := by decide +kernel
theorem dX11_part_22 : decode cX11_part 22 = .ok (.getfield 48, 3) := by decide +kernel
theorem dX11_part_25 : decode cX11_part 25 = .ok (.goto 7, 3) := by decide +kernel
theorem dX11_part_28 : decode cX11_part 28 = .ok (.aload_n 0, 1) := by decide +kernel
theorem dX11_part_29 : decode cX11_part 29 = .ok (.getfield 52, 3) := by decide +kernel
theorem dX11_part_32 : decode cX11_part 32 = .ok (.lreturn, 1) := by decide +kernel
set_option maxRecDepth 20000 in
theorem ggX11_image_X11_within : GoodIn wsX11_image wsX11_within := goodIn_r _ [7] (by decide +kernel) (by decide +kernel)
set_option maxRecDepth 20000 in
theorem gX11_image_X11_within : GoodIn wsX11_image (va_wsS RX11 120 yX11_within wsX11_within) := goodIn_app (goodIn_of _ (by decide +kernel)) ggX11_image_X11_within
set_option maxRecDepth 20000 in
theorem ggX11_image_X11_counted : GoodIn wsX11_image wsX11_counted := goodIn_r _ [11, 12, 13, 14, 48, 49, 50, 51, 52, 53, 54, 55, 56, 57, 58, 59] (by decide +kernel) (by decide +kernel)
set_option maxRecDepth 20000 in
theorem gX11_image_X11_counted : GoodIn wsX11_image (wsV RX11 72 RX11 yX11_counted wsX11_counted) := goodIn_app (goodIn_of _ (by decide +kernel)) ggX11_image_X11_counted
set_option maxRecDepth 20000 in
theorem ggX11_image_X4_become : GoodIn wsX11_image wsX4_become := goodIn_r _ [19, 20, 21, 22, 23, 24, 25, 26, 27, 28, 29, 30, 31, 32, 33, 34, 35, 36, 37, 38, 39, 40, 41, 42, 43, 44, 45, 46, 47, 60, 61, 62, 63, 64, 65, 66, 67, 68, 69, 70, 71, 72, 73, 74, 75] (by decide +kernel) (by decide +kernel)
set_option maxRecDepth 20000 in
theorem gX11_image_X4_become : GoodIn wsX11_image (wsV RX11 223 RX4 yX4_become wsX4_become) := goodIn_app (goodIn_of _ (by decide +kernel)) ggX11_image_X4_become
theorem dX11_image_0 : decode cX11_image 0 = .ok (.iload_n 1, 1) := by decide +kernel
theorem dX11_image_1 : decode cX11_image 1 = .ok (.iconst 0, 1) := by decide +kernel
theorem dX11_image_2 : decode cX11_image 2 = .ok (.iconst 1, 1) := by decide +kernel
theorem dX11_image_3 : decode cX11_image 3 = .ok (.invokestatic 120, 3) := by decide +kernel
theorem dX11_image_6 : decode cX11_image 6 = .ok (.ifCond .ne 10, 3) := by decide +kernel
theorem dX11_image_9 : decode cX11_image 9 = .ok (.aload_n 0, 1) := by decide +kernel
theorem dX11_image_10 : decode cX11_image 10 = .ok (.bipush (-2), 2) := by decide +kernel
theorem dX11_image_12 : decode cX11_image 12 = .ok (.invokevirtual 72, 3) := by decide +kernel
theorem dX11_image_15 : decode cX11_image 15 = .ok (.ireturn, 1) := by decide +kernel
theorem dX11_image_16 : decode cX11_image 16 = .ok (.aload_n 0, 1) := by decide +kernel
theorem dX11_image_17 : decode cX11_image 17 = .ok (.getfield 19, 3) := by decide +kernel
theorem dX11_image_20 : decode cX11_image 20 = .ok (.iload_n 1, 1) := by decide +kernel
theorem dX11_image_21 : decode cX11_image 21 = .ok (.aaload, 1) := by decide +kernel
theorem dX11_image_22 : decode cX11_image 22 = .ok (.aload_n 0, 1) := by decide +kernel
theorem dX11_image_23 : decode cX11_image 23 = .ok (.getfield 12, 3) := by decide +kernel
theorem dX11_image_26 : decode cX11_image 26 = .ok (.invokevirtual 223, 3) := by decide +kernel
theorem dX11_image_29 : decode cX11_image 29 = .ok (.aload_n 0, 1) := by decide +kernel
theorem dX11_image_30 : decode cX11_image 30 = .ok (.getfield 23, 3) := by decide +kernel
theorem dX11_image_33 : decode cX11_image 33 = .ok (.iload_n 1, 1) := by decide +kernel
theorem dX11_image_34 : decode cX11_image 34 = .ok (.iconst 1, 1) := by decide +kernel
theorem dX11_image_35 : decode cX11_image 35 = .ok (.bastore, 1) := by decide +kernel
theorem dX11_image_36 : decode cX11_image 36 = .ok (.iconst 1, 1) := by decide +kernel
theorem dX11_image_37 : decode cX11_image 37 = .ok (.ireturn, 1) := by decide +kernel
set_option maxRecDepth 20000 in
theorem ggX11_from_X11_within : GoodIn wsX11_from wsX11_within := goodIn_r _ [7] (by decide +kernel) (by decide +kernel)
set_option maxRecDepth 20000 in
theorem gX11_from_X11_within : GoodIn wsX11_from (va_wsS RX11 120 yX11_within wsX11_within) := goodIn_app (goodIn_of _ (by decide +kernel)) ggX11_from_X11_within
set_option maxRecDepth 20000 in
theorem ggX11_from_X11_counted : GoodIn wsX11_from wsX11_counted := goodIn_r _ [11, 12, 13, 14, 48, 49, 50, 51, 52, 53, 54, 55, 56, 57, 58, 59] (by decide +kernel) (by decide +kernel)
set_option maxRecDepth 20000 in
theorem gX11_from_X11_counted : GoodIn wsX11_from (wsV RX11 72 RX11 yX11_counted wsX11_counted) := goodIn_app (goodIn_of _ (by decide +kernel)) ggX11_from_X11_counted
set_option maxRecDepth 20000 in
theorem ggX11_from_X4_become : GoodIn wsX11_from wsX4_become := goodIn_r _ [19, 20, 21, 22, 23, 24, 25, 26, 27, 28, 29, 30, 31, 32, 33, 34, 35, 36, 37, 38, 39, 40, 41, 42, 43, 44, 45, 46, 47, 60, 61, 62, 63, 64, 65, 66, 67, 68, 69, 70, 71, 72, 73, 74, 75] (by decide +kernel) (by decide +kernel)
set_option maxRecDepth 20000 in
theorem gX11_from_X4_become : GoodIn wsX11_from (wsV RX11 223 RX4 yX4_become wsX4_become) := goodIn_app (goodIn_of _ (by decide +kernel)) ggX11_from_X4_become
theorem dX11_from_0 : decode cX11_from 0 = .ok (.iload_n 1, 1) := by decide +kernel
theorem dX11_from_1 : decode cX11_from 1 = .ok (.iconst 0, 1) := by decide +kernel
theorem dX11_from_2 : decode cX11_from 2 = .ok (.iconst 1, 1) := by decide +kernel
theorem dX11_from_3 : decode cX11_from 3 = .ok (.invokestatic 120, 3) := by decide +kernel
theorem dX11_from_6 : decode cX11_from 6 = .ok (.ifCond .ne 10, 3) := by decide +kernel
theorem dX11_from_9 : decode cX11_from 9 = .ok (.aload_n 0, 1) := by decide +kernel
theorem dX11_from_10 : decode cX11_from 10 = .ok (.bipush (-2), 2) := by decide +kernel
theorem dX11_from_12 : decode cX11_from 12 = .ok (.invokevirtual 72, 3) := by decide +kernel
theorem dX11_from_15 : decode cX11_from 15 = .ok (.ireturn, 1) := by decide +kernel
theorem dX11_from_16 : decode cX11_from 16 = .ok (.aload_n 0, 1) := by decide +kernel
theorem dX11_from_17 : decode cX11_from 17 = .ok (.getfield 23, 3) := by decide +kernel
theorem dX11_from_20 : decode cX11_from 20 = .ok (.iload_n 1, 1) := by decide +kernel
theorem dX11_from_21 : decode cX11_from 21 = .ok (.baload, 1) := by decide +kernel
theorem dX11_from_22 : decode cX11_from 22 = .ok (.ifCond .ne 10, 3) := by decide +kernel
theorem dX11_from_25 : decode cX11_from 25 = .ok (.aload_n 0, 1) := by decide +kernel
theorem dX11_from_26 : decode cX11_from 26 = .ok (.bipush (-3), 2) := by decide +kernel
theorem dX11_from_28 : decode cX11_from 28 = .ok (.invokevirtual 72, 3) := by decide +kernel
theorem dX11_from_31 : decode cX11_from 31 = .ok (.ireturn, 1) := by decide +kernel
theorem dX11_from_32 : decode cX11_from 32 = .ok (.aload_n 0, 1) := by decide +kernel
theorem dX11_from_33 : decode cX11_from 33 = .ok (.getfield 12, 3) := by decide +kernel
theorem dX11_from_36 : decode cX11_from 36 = .ok (.aload_n 0, 1) := by decide +kernel
theorem dX11_from_37 : decode cX11_from 37 = .ok (.getfield 19, 3) := by decide +kernel
theorem dX11_from_40 : decode cX11_from 40 = .ok (.iload_n 1, 1) := by decide +kernel
theorem dX11_from_41 : decode cX11_from 41 = .ok (.aaload, 1) := by decide +kernel
theorem dX11_from_42 : decode cX11_from 42 = .ok (.invokevirtual 223, 3) := by decide +kernel
theorem dX11_from_45 : decode cX11_from 45 = .ok (.iconst 1, 1) := by decide +kernel
theorem dX11_from_46 : decode cX11_from 46 = .ok (.ireturn, 1) := by decide +kernel
theorem dX11_status_0 : decode cX11_status 0 = .ok (.iload_n 1, 1) := by decide +kernel
theorem dX11_status_1 : decode cX11_status 1 = .ok (.tableswitch 42 0 2 #[27, 32, 37], 27) := by decide +kernel
theorem dX11_status_28 : decode cX11_status 28 = .ok (.aload_n 0, 1) := by decide +kernel
theorem dX11_status_29 : decode cX11_status 29 = .ok (.getfield 226, 3) := by decide +kernel
theorem dX11_status_32 : decode cX11_status 32 = .ok (.ireturn, 1) := by decide +kernel
theorem dX11_status_33 : decode cX11_status 33 = .ok (.aload_n 0, 1) := by decide +kernel
theorem dX11_status_34 : decode cX11_status 34 = .ok (.getfield 229, 3) := by decide +kernel
theorem dX11_status_37 : decode cX11_status 37 = .ok (.ireturn, 1) := by decide +kernel
theorem dX11_status_38 : decode cX11_status 38 = .ok (.aload_n 0, 1) := by decide +kernel
theorem dX11_status_39 : decode cX11_status 39 = .ok (.getfield 232, 3) := by decide +kernel
theorem dX11_status_42 : decode cX11_status 42 = .ok (.ireturn, 1) := by decide +kernel
theorem dX11_status_43 : decode cX11_status 43 = .ok (.aload_n 0, 1) := by decide +kernel
theorem dX11_status_44 : decode cX11_status 44 = .ok (.dup, 1) := by decide +kernel
theorem dX11_status_45 : decode cX11_status 45 = .ok (.getfield 226, 3) := by decide +kernel
theorem dX11_status_48 : decode cX11_status 48 = .ok (.iconst 1, 1) := by decide +kernel
theorem dX11_status_49 : decode cX11_status 49 = .ok (.iadd, 1) := by decide +kernel
theorem dX11_status_50 : decode cX11_status 50 = .ok (.putfield 226, 3) := by decide +kernel
theorem dX11_status_53 : decode cX11_status 53 = .ok (.iconst (-1), 1) := by decide +kernel
theorem dX11_status_54 : decode cX11_status 54 = .ok (.ireturn, 1) := by decide +kernel
set_option maxRecDepth 20000 in
theorem ggX11_count_X11_within : GoodIn wsX11_count wsX11_within := goodIn_r _ [4] (by decide +kernel) (by decide +kernel)
set_option maxRecDepth 20000 in
theorem gX11_count_X11_within : GoodIn wsX11_count (va_wsS RX11 120 yX11_within wsX11_within) := goodIn_app (goodIn_of _ (by decide +kernel)) ggX11_count_X11_within
set_option maxRecDepth 20000 in
theorem ggX11_count_X11_counted : GoodIn wsX11_count wsX11_counted := goodIn_r _ [8, 9, 10, 11, 28, 29, 30, 31, 32, 33, 34, 35, 36, 37, 38, 39] (by decide +kernel) (by decide +kernel)
set_option maxRecDepth 20000 in
theorem gX11_count_X11_counted : GoodIn wsX11_count (wsV RX11 72 RX11 yX11_counted wsX11_counted) := goodIn_app (goodIn_of _ (by decide +kernel)) ggX11_count_X11_counted
set_option maxRecDepth 20000 in
theorem ggX11_count_X11_howMany : GoodIn wsX11_count wsX11_howMany := goodIn_r _ [15, 16, 17, 18, 19, 20, 21, 22, 23, 24, 25, 26, 27, 28, 29, 30, 31, 32, 33, 34, 35, 36, 37, 38, 39, 40, 41, 42, 43, 44, 45, 46, 47, 48, 49, 50, 51, 52, 53, 54, 55, 56, 57, 58, 59, 60, 61] (by decide +kernel) (by decide +kernel)
set_option maxRecDepth 20000 in
theorem gX11_count_X11_howMany : GoodIn wsX11_count (wsV RX11 235 RX11 yX11_howMany wsX11_howMany) := goodIn_app (goodIn_of _ (by decide +kernel)) ggX11_count_X11_howMany
theorem dX11_count_0 : decode cX11_count 0 = .ok (.iload_n 1, 1) := by decide +kernel
theorem dX11_count_1 : decode cX11_count 1 = .ok (.iconst 0, 1) := by decide +kernel
theorem dX11_count_2 : decode cX11_count 2 = .ok (.bipush 8, 2) := by decide +kernel
theorem dX11_count_4 : decode cX11_count 4 = .ok (.invokestatic 120, 3) := by decide +kernel
theorem dX11_count_7 : decode cX11_count 7 = .ok (.ifCond .ne 10, 3) := by decide +kernel
theorem dX11_count_10 : decode cX11_count 10 = .ok (.aload_n 0, 1) := by decide +kernel
theorem dX11_count_11 : decode cX11_count 11 = .ok (.bipush (-2), 2) := by decide +kernel
theorem dX11_count_13 : decode cX11_count 13 = .ok (.invokevirtual 72, 3) := by decide +kernel
theorem dX11_count_16 : decode cX11_count 16 = .ok (.ireturn, 1) := by decide +kernel
theorem dX11_count_17 : decode cX11_count 17 = .ok (.aload_n 0, 1) := by decide +kernel
theorem dX11_count_18 : decode cX11_count 18 = .ok (.iload_n 1, 1) := by decide +kernel
theorem dX11_count_19 : decode cX11_count 19 = .ok (.invokevirtual 235, 3) := by decide +kernel
theorem dX11_count_22 : decode cX11_count 22 = .ok (.ireturn, 1) := by decide +kernel
set_option maxRecDepth 20000 in
theorem ggX11_digest_X11_howMany : GoodIn wsX11_digest wsX11_howMany := goodIn_r _ [9, 2, 10, 11, 12, 13, 14, 15, 16, 17, 18, 19, 20, 48, 49, 50, 51, 52, 53, 54, 55, 56, 57, 58, 59, 60, 61, 62, 63, 64, 65, 66, 67, 68, 69, 70, 71, 72, 73, 74, 75, 76, 77, 78, 79, 80, 81] (by decide +kernel) (by decide +kernel)
set_option maxRecDepth 20000 in
theorem gX11_digest_X11_howMany : GoodIn wsX11_digest (wsV RX11 235 RX11 yX11_howMany wsX11_howMany) := goodIn_app (goodIn_of _ (by decide +kernel)) ggX11_digest_X11_howMany
set_option maxRecDepth 20000 in
theorem ggX11_digest_X11_mixed : GoodIn wsX11_digest wsX11_mixed := goodIn_r _ [23, 24] (by decide +kernel) (by decide +kernel)
set_option maxRecDepth 20000 in
theorem gX11_digest_X11_mixed : GoodIn wsX11_digest (va_wsS RX11 240 yX11_mixed wsX11_mixed) := goodIn_app (goodIn_of _ (by decide +kernel)) ggX11_digest_X11_mixed
set_option maxRecDepth 20000 in
theorem ggX11_digest_X4_mixedInto : GoodIn wsX11_digest wsX4_mixedInto := goodIn_r _ [29, 30, 31, 32, 33, 34, 35, 36, 22, 8, 23, 24, 37, 38, 39, 40, 41, 42, 43, 44, 45, 46, 47, 60, 61, 62, 63, 64, 65, 66, 67, 68, 69, 70, 71, 72, 73, 74, 75] (by decide +kernel) (by decide +kernel)
set_option maxRecDepth 20000 in
theorem gX11_digest_X4_mixedInto : GoodIn wsX11_digest (wsV RX11 244 RX4 yX4_mixedInto wsX4_mixedInto) := goodIn_app (goodIn_of _ (by decide +kernel)) ggX11_digest_X4_mixedInto
theorem dX11_digest_0 : decode cX11_digest 0 = .ok (.ldc2_w 238, 3) := by decide +kernel
theorem dX11_digest_3 : decode cX11_digest 3 = .ok (.lstore_n 1, 1) := by decide +kernel
theorem dX11_digest_4 : decode cX11_digest 4 = .ok (.iconst 0, 1) := by decide +kernel
theorem dX11_digest_5 : decode cX11_digest 5 = .ok (.istore_n 3, 1) := by decide +kernel
theorem dX11_digest_6 : decode cX11_digest 6 = .ok (.iload_n 3, 1) := by decide +kernel
theorem dX11_digest_7 : decode cX11_digest 7 = .ok (.bipush 9, 2) := by decide +kernel
theorem dX11_digest_9 : decode cX11_digest 9 = .ok (.if_icmp .ge 20, 3) := by decide +kernel
theorem dX11_digest_12 : decode cX11_digest 12 = .ok (.lload_n 1, 1) := by decide +kernel
theorem dX11_digest_13 : decode cX11_digest 13 = .ok (.aload_n 0, 1) := by decide +kernel
theorem dX11_digest_14 : decode cX11_digest 14 = .ok (.iload_n 3, 1) := by decide +kernel
theorem dX11_digest_15 : decode cX11_digest 15 = .ok (.invokevirtual 235, 3) := by decide +kernel
theorem dX11_digest_18 : decode cX11_digest 18 = .ok (.i2l, 1) := by decide +kernel
theorem dX11_digest_19 : decode cX11_digest 19 = .ok (.invokestatic 240, 3) := by decide +kernel
theorem dX11_digest_22 : decode cX11_digest 22 = .ok (.lstore_n 1, 1) := by decide +kernel
theorem dX11_digest_23 : decode cX11_digest 23 = .ok (.iinc 3 1, 3) := by decide +kernel
theorem dX11_digest_26 : decode cX11_digest 26 = .ok (.goto (-20), 3) := by decide +kernel
theorem dX11_digest_29 : decode cX11_digest 29 = .ok (.aload_n 0, 1) := by decide +kernel
theorem dX11_digest_30 : decode cX11_digest 30 = .ok (.getfield 12, 3) := by decide +kernel
theorem dX11_digest_33 : decode cX11_digest 33 = .ok (.lload_n 1, 1) := by decide +kernel
theorem dX11_digest_34 : decode cX11_digest 34 = .ok (.invokevirtual 244, 3) := by decide +kernel
theorem dX11_digest_37 : decode cX11_digest 37 = .ok (.lstore_n 1, 1) := by decide +kernel
theorem dX11_digest_38 : decode cX11_digest 38 = .ok (.lload_n 1, 1) := by decide +kernel
theorem dX11_digest_39 : decode cX11_digest 39 = .ok (.aload_n 0, 1) := by decide +kernel
theorem dX11_digest_40 : decode cX11_digest 40 = .ok (.getfield 48, 3) := by decide +kernel
theorem dX11_digest_43 : decode cX11_digest 43 = .ok (.invokestatic 240, 3) := by decide +kernel
theorem dX11_digest_46 : decode cX11_digest 46 = .ok (.lstore_n 1, 1) := by decide +kernel
theorem dX11_digest_47 : decode cX11_digest 47 = .ok (.lload_n 1, 1) := by decide +kernel
theorem dX11_digest_48 : decode cX11_digest 48 = .ok (.aload_n 0, 1) := by decide +kernel
theorem dX11_digest_49 : decode cX11_digest 49 = .ok (.getfield 52, 3) := by decide +kernel
theorem dX11_digest_52 : decode cX11_digest 52 = .ok (.invokestatic 240, 3) := by decide +kernel
theorem dX11_digest_55 : decode cX11_digest 55 = .ok (.lreturn, 1) := by decide +kernel
theorem dX11_counted_0 : decode cX11_counted 0 = .ok (.iload_n 1, 1) := by decide +kernel
theorem dX11_counted_1 : decode cX11_counted 1 = .ok (.bipush (-2), 2) := by decide +kernel
theorem dX11_counted_3 : decode cX11_counted 3 = .ok (.if_icmp .ne 16, 3) := by decide +kernel
theorem dX11_counted_6 : decode cX11_counted 6 = .ok (.aload_n 0, 1) := by decide +kernel
theorem dX11_counted_7 : decode cX11_counted 7 = .ok (.dup, 1) := by decide +kernel
theorem dX11_counted_8 : decode cX11_counted 8 = .ok (.getfield 226, 3) := by decide +kernel
theorem dX11_counted_11 : decode cX11_counted 11 = .ok (.iconst 1, 1) := by decide +kernel
theorem dX11_counted_12 : decode cX11_counted 12 = .ok (.iadd, 1) := by decide +kernel
theorem dX11_counted_13 : decode cX11_counted 13 = .ok (.putfield 226, 3) := by decide +kernel
theorem dX11_counted_16 : decode cX11_counted 16 = .ok (.goto 38, 3) := by decide +kernel
theorem dX11_counted_19 : decode cX11_counted 19 = .ok (.iload_n 1, 1) := by decide +kernel
theorem dX11_counted_20 : decode cX11_counted 20 = .ok (.bipush (-3), 2) := by decide +kernel
theorem dX11_counted_22 : decode cX11_counted 22 = .ok (.if_icmp .ne 16, 3) := by decide +kernel
theorem dX11_counted_25 : decode cX11_counted 25 = .ok (.aload_n 0, 1) := by decide +kernel
theorem dX11_counted_26 : decode cX11_counted 26 = .ok (.dup, 1) := by decide +kernel
theorem dX11_counted_27 : decode cX11_counted 27 = .ok (.getfield 229, 3) := by decide +kernel
theorem dX11_counted_30 : decode cX11_counted 30 = .ok (.iconst 1, 1) := by decide +kernel
theorem dX11_counted_31 : decode cX11_counted 31 = .ok (.iadd, 1) := by decide +kernel
theorem dX11_counted_32 : decode cX11_counted 32 = .ok (.putfield 229, 3) := by decide +kernel
theorem dX11_counted_35 : decode cX11_counted 35 = .ok (.goto 19, 3) := by decide +kernel
theorem dX11_counted_38 : decode cX11_counted 38 = .ok (.iload_n 1, 1) := by decide +kernel
theorem dX11_counted_39 : decode cX11_counted 39 = .ok (.bipush (-4), 2) := by decide +kernel
theorem dX11_counted_41 : decode cX11_counted 41 = .ok (.if_icmp .ne 13, 3) := by decide +kernel
theorem dX11_counted_44 : decode cX11_counted 44 = .ok (.aload_n 0, 1) := by decide +kernel
theorem dX11_counted_45 : decode cX11_counted 45 = .ok (.dup, 1) := by decide +kernel
theorem dX11_counted_46 : decode cX11_counted 46 = .ok (.getfield 232, 3) := by decide +kernel
theorem dX11_counted_49 : decode cX11_counted 49 = .ok (.iconst 1, 1) := by decide +kernel
theorem dX11_counted_50 : decode cX11_counted 50 = .ok (.iadd, 1) := by decide +kernel
theorem dX11_counted_51 : decode cX11_counted 51 = .ok (.putfield 232, 3) := by decide +kernel
theorem dX11_counted_54 : decode cX11_counted 54 = .ok (.iload_n 1, 1) := by decide +kernel
theorem dX11_counted_55 : decode cX11_counted 55 = .ok (.ireturn, 1) := by decide +kernel
theorem dX11_badIndex_0 : decode cX11_badIndex 0 = .ok (.aload_n 0, 1) := by decide +kernel
theorem dX11_badIndex_1 : decode cX11_badIndex 1 = .ok (.dup, 1) := by decide +kernel
theorem dX11_badIndex_2 : decode cX11_badIndex 2 = .ok (.getfield 226, 3) := by decide +kernel
theorem dX11_badIndex_5 : decode cX11_badIndex 5 = .ok (.iconst 1, 1) := by decide +kernel
theorem dX11_badIndex_6 : decode cX11_badIndex 6 = .ok (.iadd, 1) := by decide +kernel
theorem dX11_badIndex_7 : decode cX11_badIndex 7 = .ok (.putfield 226, 3) := by decide +kernel
theorem dX11_badIndex_10 : decode cX11_badIndex 10 = .ok (.bipush (-10), 2) := by decide +kernel
theorem dX11_badIndex_12 : decode cX11_badIndex 12 = .ok (.ireturn, 1) := by decide +kernel
theorem dX11_howMany_0 : decode cX11_howMany 0 = .ok (.iload_n 1, 1) := by decide +kernel
theorem dX11_howMany_1 : decode cX11_howMany 1 = .ok (.tableswitch 138 0 8 #[51, 62, 70, 78, 86, 97, 108, 119, 130], 51) := by decide +kernel
theorem dX11_howMany_52 : decode cX11_howMany 52 = .ok (.aload_n 0, 1) := by decide +kernel
theorem dX11_howMany_53 : decode cX11_howMany 53 = .ok (.getfield 12, 3) := by decide +kernel
theorem dX11_howMany_56 : decode cX11_howMany 56 = .ok (.getfield 55, 3) := by decide +kernel
theorem dX11_howMany_59 : decode cX11_howMany 59 = .ok (.getfield 59, 3) := by decide +kernel
theorem dX11_howMany_62 : decode cX11_howMany 62 = .ok (.ireturn, 1) := by decide +kernel
theorem dX11_howMany_63 : decode cX11_howMany 63 = .ok (.aload_n 0, 1) := by decide +kernel
theorem dX11_howMany_64 : decode cX11_howMany 64 = .ok (.getfield 12, 3) := by decide +kernel
theorem dX11_howMany_67 : decode cX11_howMany 67 = .ok (.getfield 156, 3) := by decide +kernel
theorem dX11_howMany_70 : decode cX11_howMany 70 = .ok (.ireturn, 1) := by decide +kernel
theorem dX11_howMany_71 : decode cX11_howMany 71 = .ok (.aload_n 0, 1) := by decide +kernel
theorem dX11_howMany_72 : decode cX11_howMany 72 = .ok (.getfield 12, 3) := by decide +kernel
theorem dX11_howMany_75 : decode cX11_howMany 75 = .ok (.getfield 248, 3) := by decide +kernel
theorem dX11_howMany_78 : decode cX11_howMany 78 = .ok (.ireturn, 1) := by decide +kernel
theorem dX11_howMany_79 : decode cX11_howMany 79 = .ok (.aload_n 0, 1) := by decide +kernel
theorem dX11_howMany_80 : decode cX11_howMany 80 = .ok (.getfield 12, 3) := by decide +kernel
theorem dX11_howMany_83 : decode cX11_howMany 83 = .ok (.getfield 251, 3) := by decide +kernel
theorem dX11_howMany_86 : decode cX11_howMany 86 = .ok (.ireturn, 1) := by decide +kernel
theorem dX11_howMany_87 : decode cX11_howMany 87 = .ok (.aload_n 0, 1) := by decide +kernel
theorem dX11_howMany_88 : decode cX11_howMany 88 = .ok (.getfield 12, 3) := by decide +kernel
theorem dX11_howMany_91 : decode cX11_howMany 91 = .ok (.getfield 133, 3) := by decide +kernel
theorem dX11_howMany_94 : decode cX11_howMany 94 = .ok (.getfield 59, 3) := by decide +kernel
theorem dX11_howMany_97 : decode cX11_howMany 97 = .ok (.ireturn, 1) := by decide +kernel
theorem dX11_howMany_98 : decode cX11_howMany 98 = .ok (.aload_n 0, 1) := by decide +kernel
theorem dX11_howMany_99 : decode cX11_howMany 99 = .ok (.getfield 12, 3) := by decide +kernel
theorem dX11_howMany_102 : decode cX11_howMany 102 = .ok (.getfield 254, 3) := by decide +kernel
theorem dX11_howMany_105 : decode cX11_howMany 105 = .ok (.getfield 59, 3) := by decide +kernel
theorem dX11_howMany_108 : decode cX11_howMany 108 = .ok (.ireturn, 1) := by decide +kernel
theorem dX11_howMany_109 : decode cX11_howMany 109 = .ok (.aload_n 0, 1) := by decide +kernel
theorem dX11_howMany_110 : decode cX11_howMany 110 = .ok (.getfield 12, 3) := by decide +kernel
theorem dX11_howMany_113 : decode cX11_howMany 113 = .ok (.getfield 190, 3) := by decide +kernel
theorem dX11_howMany_116 : decode cX11_howMany 116 = .ok (.getfield 59, 3) := by decide +kernel
theorem dX11_howMany_119 : decode cX11_howMany 119 = .ok (.ireturn, 1) := by decide +kernel
theorem dX11_howMany_120 : decode cX11_howMany 120 = .ok (.aload_n 0, 1) := by decide +kernel
theorem dX11_howMany_121 : decode cX11_howMany 121 = .ok (.getfield 12, 3) := by decide +kernel
theorem dX11_howMany_124 : decode cX11_howMany 124 = .ok (.getfield 257, 3) := by decide +kernel
theorem dX11_howMany_127 : decode cX11_howMany 127 = .ok (.getfield 59, 3) := by decide +kernel
theorem dX11_howMany_130 : decode cX11_howMany 130 = .ok (.ireturn, 1) := by decide +kernel
theorem dX11_howMany_131 : decode cX11_howMany 131 = .ok (.aload_n 0, 1) := by decide +kernel
theorem dX11_howMany_132 : decode cX11_howMany 132 = .ok (.getfield 30, 3) := by decide +kernel
theorem dX11_howMany_135 : decode cX11_howMany 135 = .ok (.getfield 260, 3) := by decide +kernel
theorem dX11_howMany_138 : decode cX11_howMany 138 = .ok (.ireturn, 1) := by decide +kernel
theorem dX11_howMany_139 : decode cX11_howMany 139 = .ok (.iconst 0, 1) := by decide +kernel
theorem dX11_howMany_140 : decode cX11_howMany 140 = .ok (.ireturn, 1) := by decide +kernel
theorem dX11_setPower_0 : decode cX11_setPower 0 = .ok (.iload_n 1, 1) := by decide +kernel
theorem dX11_setPower_1 : decode cX11_setPower 1 = .ok (.istore_n 3, 1) := by decide +kernel
theorem dX11_setPower_2 : decode cX11_setPower 2 = .ok (.bipush 10, 2) := by decide +kernel
theorem dX11_setPower_4 : decode cX11_setPower 4 = .ok (.istore 4, 2) := by decide +kernel
theorem dX11_setPower_6 : decode cX11_setPower 6 = .ok (.iload_n 3, 1) := by decide +kernel
theorem dX11_setPower_7 : decode cX11_setPower 7 = .ok (.iconst 2, 1) := by decide +kernel
theorem dX11_setPower_8 : decode cX11_setPower 8 = .ok (.irem, 1) := by decide +kernel
theorem dX11_setPower_9 : decode cX11_setPower 9 = .ok (.ifCond .ne 13, 3) := by decide +kernel
theorem dX11_setPower_12 : decode cX11_setPower 12 = .ok (.iload_n 3, 1) := by decide +kernel
theorem dX11_setPower_13 : decode cX11_setPower 13 = .ok (.iconst 2, 1) := by decide +kernel
theorem dX11_setPower_14 : decode cX11_setPower 14 = .ok (.idiv, 1) := by decide +kernel
theorem dX11_setPower_15 : decode cX11_setPower 15 = .ok (.istore_n 3, 1) := by decide +kernel
theorem dX11_setPower_16 : decode cX11_setPower 16 = .ok (.iload 4, 2) := by decide +kernel
theorem dX11_setPower_18 : decode cX11_setPower 18 = .ok (.iconst 2, 1) := by decide +kernel
theorem dX11_setPower_19 : decode cX11_setPower 19 = .ok (.idiv, 1) := by decide +kernel
theorem dX11_setPower_20 : decode cX11_setPower 20 = .ok (.istore 4, 2) := by decide +kernel
theorem dX11_setPower_22 : decode cX11_setPower 22 = .ok (.iload_n 3, 1) := by decide +kernel
theorem dX11_setPower_23 : decode cX11_setPower 23 = .ok (.iconst 5, 1) := by decide +kernel
theorem dX11_setPower_24 : decode cX11_setPower 24 = .ok (.irem, 1) := by decide +kernel
theorem dX11_setPower_25 : decode cX11_setPower 25 = .ok (.ifCond .ne 13, 3) := by decide +kernel
theorem dX11_setPower_28 : decode cX11_setPower 28 = .ok (.iload_n 3, 1) := by decide +kernel
theorem dX11_setPower_29 : decode cX11_setPower 29 = .ok (.iconst 5, 1) := by decide +kernel
theorem dX11_setPower_30 : decode cX11_setPower 30 = .ok (.idiv, 1) := by decide +kernel
theorem dX11_setPower_31 : decode cX11_setPower 31 = .ok (.istore_n 3, 1) := by decide +kernel
theorem dX11_setPower_32 : decode cX11_setPower 32 = .ok (.iload 4, 2) := by decide +kernel
theorem dX11_setPower_34 : decode cX11_setPower 34 = .ok (.iconst 5, 1) := by decide +kernel
theorem dX11_setPower_35 : decode cX11_setPower 35 = .ok (.idiv, 1) := by decide +kernel
theorem dX11_setPower_36 : decode cX11_setPower 36 = .ok (.istore 4, 2) := by decide +kernel
theorem dX11_setPower_38 : decode cX11_setPower 38 = .ok (.aload_n 0, 1) := by decide +kernel
theorem dX11_setPower_39 : decode cX11_setPower 39 = .ok (.lconst 1, 1) := by decide +kernel
theorem dX11_setPower_40 : decode cX11_setPower 40 = .ok (.putfield 48, 3) := by decide +kernel
theorem dX11_setPower_43 : decode cX11_setPower 43 = .ok (.iconst 0, 1) := by decide +kernel
theorem dX11_setPower_44 : decode cX11_setPower 44 = .ok (.istore 5, 2) := by decide +kernel
theorem dX11_setPower_46 : decode cX11_setPower 46 = .ok (.iload 5, 2) := by decide +kernel
theorem dX11_setPower_48 : decode cX11_setPower 48 = .ok (.iload_n 2, 1) := by decide +kernel
theorem dX11_setPower_49 : decode cX11_setPower 49 = .ok (.if_icmp .ge 32, 3) := by decide +kernel
theorem dX11_setPower_52 : decode cX11_setPower 52 = .ok (.aload_n 0, 1) := by decide +kernel
theorem dX11_setPower_53 : decode cX11_setPower 53 = .ok (.dup, 1) := by decide +kernel
theorem dX11_setPower_54 : decode cX11_setPower 54 = .ok (.getfield 48, 3) := by decide +kernel
theorem dX11_setPower_57 : decode cX11_setPower 57 = .ok (.iload_n 3, 1) := by decide +kernel
theorem dX11_setPower_58 : decode cX11_setPower 58 = .ok (.i2l, 1) := by decide +kernel
theorem dX11_setPower_59 : decode cX11_setPower 59 = .ok (.lmul, 1) := by decide +kernel
theorem dX11_setPower_60 : decode cX11_setPower 60 = .ok (.putfield 48, 3) := by decide +kernel
theorem dX11_setPower_63 : decode cX11_setPower 63 = .ok (.aload_n 0, 1) := by decide +kernel
theorem dX11_setPower_64 : decode cX11_setPower 64 = .ok (.dup, 1) := by decide +kernel
theorem dX11_setPower_65 : decode cX11_setPower 65 = .ok (.getfield 52, 3) := by decide +kernel
theorem dX11_setPower_68 : decode cX11_setPower 68 = .ok (.iload 4, 2) := by decide +kernel
theorem dX11_setPower_70 : decode cX11_setPower 70 = .ok (.i2l, 1) := by decide +kernel
theorem dX11_setPower_71 : decode cX11_setPower 71 = .ok (.lmul, 1) := by decide +kernel
theorem dX11_setPower_72 : decode cX11_setPower 72 = .ok (.putfield 52, 3) := by decide +kernel
theorem dX11_setPower_75 : decode cX11_setPower 75 = .ok (.iinc 5 1, 3) := by decide +kernel
theorem dX11_setPower_78 : decode cX11_setPower 78 = .ok (.goto (-32), 3) := by decide +kernel
theorem dX11_setPower_81 : decode cX11_setPower 81 = .ok (.return_, 1) := by decide +kernel
theorem dX11_within_0 : decode cX11_within 0 = .ok (.iload_n 0, 1) := by decide +kernel
theorem dX11_within_1 : decode cX11_within 1 = .ok (.iload_n 1, 1) := by decide +kernel
theorem dX11_within_2 : decode cX11_within 2 = .ok (.if_icmp .lt 12, 3) := by decide +kernel
theorem dX11_within_5 : decode cX11_within 5 = .ok (.iload_n 0, 1) := by decide +kernel
theorem dX11_within_6 : decode cX11_within 6 = .ok (.iload_n 2, 1) := by decide +kernel
theorem dX11_within_7 : decode cX11_within 7 = .ok (.if_icmp .gt 7, 3) := by decide +kernel
theorem dX11_within_10 : decode cX11_within 10 = .ok (.iconst 1, 1) := by decide +kernel
theorem dX11_within_11 : decode cX11_within 11 = .ok (.goto 4, 3) := by decide +kernel
theorem dX11_within_14 : decode cX11_within 14 = .ok (.iconst 0, 1) := by decide +kernel
theorem dX11_within_15 : decode cX11_within 15 = .ok (.ireturn, 1) := by decide +kernel
set_option maxRecDepth 20000 in
theorem ggX11_isLayer_X11_within : GoodIn wsX11_isLayer wsX11_within := goodIn_r _ [4] (by decide +kernel) (by decide +kernel)
