theorem dX4_become_87 : decode cX4_become 87 = .ok (.getfield 78, 3) := by decide +kernel
theorem dX4_become_90 : decode cX4_become 90 = .ok (.putfield 78, 3) := by decide +kernel
theorem dX4_become_93 : decode cX4_become 93 = .ok (.aload_n 0, 1) := by decide +kernel
theorem dX4_become_94 : decode cX4_become 94 = .ok (.aload_n 1, 1) := by decide +kernel
theorem dX4_become_95 : decode cX4_become 95 = .ok (.getfield 81, 3) := by decide +kernel
theorem dX4_become_98 : decode cX4_become 98 = .ok (.putfield 81, 3) := by decide +kernel
theorem dX4_become_101 : decode cX4_become 101 = .ok (.aload_n 0, 1) := by decide +kernel
theorem dX4_become_102 : decode cX4_become 102 = .ok (.aload_n 1, 1) := by decide +kernel
theorem dX4_become_103 : decode cX4_become 103 = .ok (.getfield 84, 3) := by decide +kernel
theorem dX4_become_106 : decode cX4_become 106 = .ok (.putfield 84, 3) := by decide +kernel
theorem dX4_become_109 : decode cX4_become 109 = .ok (.aload_n 0, 1) := by decide +kernel
theorem dX4_become_110 : decode cX4_become 110 = .ok (.aload_n 1, 1) := by decide +kernel
theorem dX4_become_111 : decode cX4_become 111 = .ok (.getfield 70, 3) := by decide +kernel
theorem dX4_become_114 : decode cX4_become 114 = .ok (.putfield 70, 3) := by decide +kernel
theorem dX4_become_117 : decode cX4_become 117 = .ok (.return_, 1) := by decide +kernel
set_option maxRecDepth 20000 in
theorem ggX4_setWeather_X11_isLayer : GoodIn wsX4_setWeather wsX11_isLayer := goodIn_r _ [4, 5, 6, 3, 7] (by decide +kernel) (by decide +kernel)
set_option maxRecDepth 20000 in
theorem gX4_setWeather_X11_isLayer_n100 : GoodIn wsX4_setWeather (wsX11_isLayer) := ggX4_setWeather_X11_isLayer
set_option maxRecDepth 20000 in
theorem ggX4_setWeather_X11_isWeather : GoodIn wsX4_setWeather wsX11_isWeather := goodIn_r _ [9, 5, 6, 3, 7] (by decide +kernel) (by decide +kernel)
set_option maxRecDepth 20000 in
theorem gX4_setWeather_X11_isWeather_n104 : GoodIn wsX4_setWeather (wsX11_isWeather) := ggX4_setWeather_X11_isWeather
theorem dX4_setWeather_0 : decode cX4_setWeather 0 = .ok (.iload_n 1, 1) := by decide +kernel
theorem dX4_setWeather_1 : decode cX4_setWeather 1 = .ok (.invokestatic 100, 3) := by decide +kernel
theorem dX4_setWeather_4 : decode cX4_setWeather 4 = .ok (.ifCond .eq 10, 3) := by decide +kernel
theorem dX4_setWeather_7 : decode cX4_setWeather 7 = .ok (.iload_n 2, 1) := by decide +kernel
theorem dX4_setWeather_8 : decode cX4_setWeather 8 = .ok (.invokestatic 104, 3) := by decide +kernel
theorem dX4_setWeather_11 : decode cX4_setWeather 11 = .ok (.ifCond .ne 6, 3) := by decide +kernel
theorem dX4_setWeather_14 : decode cX4_setWeather 14 = .ok (.bipush (-2), 2) := by decide +kernel
theorem dX4_setWeather_16 : decode cX4_setWeather 16 = .ok (.ireturn, 1) := by decide +kernel
theorem dX4_setWeather_17 : decode cX4_setWeather 17 = .ok (.aload_n 0, 1) := by decide +kernel
theorem dX4_setWeather_18 : decode cX4_setWeather 18 = .ok (.getfield 33, 3) := by decide +kernel
theorem dX4_setWeather_21 : decode cX4_setWeather 21 = .ok (.iload_n 1, 1) := by decide +kernel
theorem dX4_setWeather_22 : decode cX4_setWeather 22 = .ok (.iaload, 1) := by decide +kernel
theorem dX4_setWeather_23 : decode cX4_setWeather 23 = .ok (.istore_n 3, 1) := by decide +kernel
theorem dX4_setWeather_24 : decode cX4_setWeather 24 = .ok (.aload_n 0, 1) := by decide +kernel
theorem dX4_setWeather_25 : decode cX4_setWeather 25 = .ok (.getfield 33, 3) := by decide +kernel
theorem dX4_setWeather_28 : decode cX4_setWeather 28 = .ok (.iload_n 1, 1) := by decide +kernel
theorem dX4_setWeather_29 : decode cX4_setWeather 29 = .ok (.iload_n 2, 1) := by decide +kernel
theorem dX4_setWeather_30 : decode cX4_setWeather 30 = .ok (.iastore, 1) := by decide +kernel
theorem dX4_setWeather_31 : decode cX4_setWeather 31 = .ok (.iload_n 3, 1) := by decide +kernel
theorem dX4_setWeather_32 : decode cX4_setWeather 32 = .ok (.ireturn, 1) := by decide +kernel
set_option maxRecDepth 20000 in
theorem ggX4_setPrice_X11_isWeather : GoodIn wsX4_setPrice wsX11_isWeather := goodIn_r _ [4, 5, 6, 3, 7] (by decide +kernel) (by decide +kernel)
set_option maxRecDepth 20000 in
theorem gX4_setPrice_X11_isWeather_n104 : GoodIn wsX4_setPrice (wsX11_isWeather) := ggX4_setPrice_X11_isWeather
set_option maxRecDepth 20000 in
theorem ggX4_setPrice_X11_within : GoodIn wsX4_setPrice wsX11_within := goodIn_r _ [7] (by decide +kernel) (by decide +kernel)
set_option maxRecDepth 20000 in
theorem gX4_setPrice_X11_within_n107 : GoodIn wsX4_setPrice (wsX11_within) := ggX4_setPrice_X11_within
theorem dX4_setPrice_0 : decode cX4_setPrice 0 = .ok (.iload_n 1, 1) := by decide +kernel
theorem dX4_setPrice_1 : decode cX4_setPrice 1 = .ok (.invokestatic 104, 3) := by decide +kernel
theorem dX4_setPrice_4 : decode cX4_setPrice 4 = .ok (.ifCond .eq 13, 3) := by decide +kernel
theorem dX4_setPrice_7 : decode cX4_setPrice 7 = .ok (.iload_n 2, 1) := by decide +kernel
theorem dX4_setPrice_8 : decode cX4_setPrice 8 = .ok (.iconst 0, 1) := by decide +kernel
theorem dX4_setPrice_9 : decode cX4_setPrice 9 = .ok (.bipush 9, 2) := by decide +kernel
theorem dX4_setPrice_11 : decode cX4_setPrice 11 = .ok (.invokestatic 107, 3) := by decide +kernel
theorem dX4_setPrice_14 : decode cX4_setPrice 14 = .ok (.ifCond .ne 6, 3) := by decide +kernel
theorem dX4_setPrice_17 : decode cX4_setPrice 17 = .ok (.bipush (-2), 2) := by decide +kernel
theorem dX4_setPrice_19 : decode cX4_setPrice 19 = .ok (.ireturn, 1) := by decide +kernel
theorem dX4_setPrice_20 : decode cX4_setPrice 20 = .ok (.aload_n 0, 1) := by decide +kernel
theorem dX4_setPrice_21 : decode cX4_setPrice 21 = .ok (.getfield 37, 3) := by decide +kernel
theorem dX4_setPrice_24 : decode cX4_setPrice 24 = .ok (.iload_n 1, 1) := by decide +kernel
theorem dX4_setPrice_25 : decode cX4_setPrice 25 = .ok (.iaload, 1) := by decide +kernel
theorem dX4_setPrice_26 : decode cX4_setPrice 26 = .ok (.istore_n 3, 1) := by decide +kernel
theorem dX4_setPrice_27 : decode cX4_setPrice 27 = .ok (.aload_n 0, 1) := by decide +kernel
theorem dX4_setPrice_28 : decode cX4_setPrice 28 = .ok (.getfield 37, 3) := by decide +kernel
theorem dX4_setPrice_31 : decode cX4_setPrice 31 = .ok (.iload_n 1, 1) := by decide +kernel
theorem dX4_setPrice_32 : decode cX4_setPrice 32 = .ok (.iload_n 2, 1) := by decide +kernel
theorem dX4_setPrice_33 : decode cX4_setPrice 33 = .ok (.iastore, 1) := by decide +kernel
theorem dX4_setPrice_34 : decode cX4_setPrice 34 = .ok (.iload_n 3, 1) := by decide +kernel
theorem dX4_setPrice_35 : decode cX4_setPrice 35 = .ok (.ireturn, 1) := by decide +kernel
set_option maxRecDepth 20000 in
theorem ggX4_addLump_X11_within : GoodIn wsX4_addLump wsX11_within := goodIn_r _ [5] (by decide +kernel) (by decide +kernel)
set_option maxRecDepth 20000 in
theorem gX4_addLump_X11_within_n107 : GoodIn wsX4_addLump (wsX11_within) := ggX4_addLump_X11_within
set_option maxRecDepth 20000 in
theorem ggX4_addLump_X11_isSize : GoodIn wsX4_addLump wsX11_isSize := goodIn_r _ [7, 8, 3, 4, 5] (by decide +kernel) (by decide +kernel)
set_option maxRecDepth 20000 in
theorem gX4_addLump_X11_isSize_n111 : GoodIn wsX4_addLump (wsX11_isSize) := ggX4_addLump_X11_isSize
set_option maxRecDepth 20000 in
theorem ggX4_addLump_X9_isFull : GoodIn wsX4_addLump wsX9_isFull := goodIn_r _ [13, 14, 15, 39, 40, 41] (by decide +kernel) (by decide +kernel)
set_option maxRecDepth 20000 in
theorem gX4_addLump_X9_isFull : GoodIn wsX4_addLump (wsV RX4 114 RX9 yX9_isFull wsX9_isFull) := goodIn_app (goodIn_of _ (by decide +kernel)) ggX4_addLump_X9_isFull
set_option maxRecDepth 20000 in
theorem ggX4_addLump_X9_empty : GoodIn wsX4_addLump wsX9_empty := goodIn_r _ [19, 14, 39, 40, 41] (by decide +kernel) (by decide +kernel)
set_option maxRecDepth 20000 in
theorem gX4_addLump_X9_empty : GoodIn wsX4_addLump (wsV RX4 74 RX9 yX9_empty wsX9_empty) := goodIn_app (goodIn_of _ (by decide +kernel)) ggX4_addLump_X9_empty
set_option maxRecDepth 20000 in
theorem ggX4_addLump_X9_add : GoodIn wsX4_addLump wsX9_add := goodIn_r _ [23, 14, 24, 25, 10, 11, 12, 13, 15, 39, 40, 41] (by decide +kernel) (by decide +kernel)
set_option maxRecDepth 20000 in
theorem gX4_addLump_X9_add : GoodIn wsX4_addLump (wsV RX4 118 RX9 yX9_add wsX9_add) := goodIn_app (goodIn_of _ (by decide +kernel)) ggX4_addLump_X9_add
theorem dX4_addLump_0 : decode cX4_addLump 0 = .ok (.iload_n 1, 1) := by decide +kernel
theorem dX4_addLump_1 : decode cX4_addLump 1 = .ok (.iconst 0, 1) := by decide +kernel
theorem dX4_addLump_2 : decode cX4_addLump 2 = .ok (.iconst 5, 1) := by decide +kernel
theorem dX4_addLump_3 : decode cX4_addLump 3 = .ok (.invokestatic 107, 3) := by decide +kernel
theorem dX4_addLump_6 : decode cX4_addLump 6 = .ok (.ifCond .eq 22, 3) := by decide +kernel
theorem dX4_addLump_9 : decode cX4_addLump 9 = .ok (.iload_n 3, 1) := by decide +kernel
theorem dX4_addLump_10 : decode cX4_addLump 10 = .ok (.invokestatic 111, 3) := by decide +kernel
theorem dX4_addLump_13 : decode cX4_addLump 13 = .ok (.ifCond .eq 15, 3) := by decide +kernel
theorem dX4_addLump_16 : decode cX4_addLump 16 = .ok (.iload_n 2, 1) := by decide +kernel
theorem dX4_addLump_17 : decode cX4_addLump 17 = .ok (.iconst 0, 1) := by decide +kernel
theorem dX4_addLump_18 : decode cX4_addLump 18 = .ok (.bipush 12, 2) := by decide +kernel
theorem dX4_addLump_20 : decode cX4_addLump 20 = .ok (.iload_n 3, 1) := by decide +kernel
theorem dX4_addLump_21 : decode cX4_addLump 21 = .ok (.isub, 1) := by decide +kernel
theorem dX4_addLump_22 : decode cX4_addLump 22 = .ok (.invokestatic 107, 3) := by decide +kernel
theorem dX4_addLump_25 : decode cX4_addLump 25 = .ok (.ifCond .ne 6, 3) := by decide +kernel
theorem dX4_addLump_28 : decode cX4_addLump 28 = .ok (.bipush (-2), 2) := by decide +kernel
theorem dX4_addLump_30 : decode cX4_addLump 30 = .ok (.ireturn, 1) := by decide +kernel
theorem dX4_addLump_31 : decode cX4_addLump 31 = .ok (.aload_n 0, 1) := by decide +kernel
theorem dX4_addLump_32 : decode cX4_addLump 32 = .ok (.getfield 45, 3) := by decide +kernel
theorem dX4_addLump_35 : decode cX4_addLump 35 = .ok (.invokevirtual 114, 3) := by decide +kernel
theorem dX4_addLump_38 : decode cX4_addLump 38 = .ok (.ifCond .eq 6, 3) := by decide +kernel
theorem dX4_addLump_41 : decode cX4_addLump 41 = .ok (.bipush (-4), 2) := by decide +kernel
theorem dX4_addLump_43 : decode cX4_addLump 43 = .ok (.ireturn, 1) := by decide +kernel
theorem dX4_addLump_44 : decode cX4_addLump 44 = .ok (.aload_n 0, 1) := by decide +kernel
theorem dX4_addLump_45 : decode cX4_addLump 45 = .ok (.getfield 49, 3) := by decide +kernel
theorem dX4_addLump_48 : decode cX4_addLump 48 = .ok (.invokevirtual 74, 3) := by decide +kernel
theorem dX4_addLump_51 : decode cX4_addLump 51 = .ok (.pop, 1) := by decide +kernel
theorem dX4_addLump_52 : decode cX4_addLump 52 = .ok (.aload_n 0, 1) := by decide +kernel
theorem dX4_addLump_53 : decode cX4_addLump 53 = .ok (.getfield 45, 3) := by decide +kernel
theorem dX4_addLump_56 : decode cX4_addLump 56 = .ok (.iload_n 1, 1) := by decide +kernel
theorem dX4_addLump_57 : decode cX4_addLump 57 = .ok (.iload_n 2, 1) := by decide +kernel
theorem dX4_addLump_58 : decode cX4_addLump 58 = .ok (.iload_n 3, 1) := by decide +kernel
theorem dX4_addLump_59 : decode cX4_addLump 59 = .ok (.invokevirtual 118, 3) := by decide +kernel
theorem dX4_addLump_62 : decode cX4_addLump 62 = .ok (.iconst 1, 1) := by decide +kernel
theorem dX4_addLump_63 : decode cX4_addLump 63 = .ok (.isub, 1) := by decide +kernel
theorem dX4_addLump_64 : decode cX4_addLump 64 = .ok (.ireturn, 1) := by decide +kernel
theorem dX4_hasLump_0 : decode cX4_hasLump 0 = .ok (.iload_n 1, 1) := by decide +kernel
theorem dX4_hasLump_1 : decode cX4_hasLump 1 = .ok (.ifCond .lt 18, 3) := by decide +kernel
theorem dX4_hasLump_4 : decode cX4_hasLump 4 = .ok (.iload_n 1, 1) := by decide +kernel
theorem dX4_hasLump_5 : decode cX4_hasLump 5 = .ok (.aload_n 0, 1) := by decide +kernel
theorem dX4_hasLump_6 : decode cX4_hasLump 6 = .ok (.getfield 45, 3) := by decide +kernel
theorem dX4_hasLump_9 : decode cX4_hasLump 9 = .ok (.getfield 122, 3) := by decide +kernel
theorem dX4_hasLump_12 : decode cX4_hasLump 12 = .ok (.if_icmp .ge 7, 3) := by decide +kernel
theorem dX4_hasLump_15 : decode cX4_hasLump 15 = .ok (.iconst 1, 1) := by decide +kernel
theorem dX4_hasLump_16 : decode cX4_hasLump 16 = .ok (.goto 4, 3) := by decide +kernel
theorem dX4_hasLump_19 : decode cX4_hasLump 19 = .ok (.iconst 0, 1) := by decide +kernel
theorem dX4_hasLump_20 : decode cX4_hasLump 20 = .ok (.ireturn, 1) := by decide +kernel
theorem dX4_isBurnt_0 : decode cX4_isBurnt 0 = .ok (.aload_n 0, 1) := by decide +kernel
theorem dX4_isBurnt_1 : decode cX4_isBurnt 1 = .ok (.getfield 78, 3) := by decide +kernel
theorem dX4_isBurnt_4 : decode cX4_isBurnt 4 = .ok (.iload_n 1, 1) := by decide +kernel
theorem dX4_isBurnt_5 : decode cX4_isBurnt 5 = .ok (.ishr, 1) := by decide +kernel
theorem dX4_isBurnt_6 : decode cX4_isBurnt 6 = .ok (.iconst 1, 1) := by decide +kernel
theorem dX4_isBurnt_7 : decode cX4_isBurnt 7 = .ok (.iand, 1) := by decide +kernel
theorem dX4_isBurnt_8 : decode cX4_isBurnt 8 = .ok (.iconst 1, 1) := by decide +kernel
theorem dX4_isBurnt_9 : decode cX4_isBurnt 9 = .ok (.if_icmp .ne 7, 3) := by decide +kernel
theorem dX4_isBurnt_12 : decode cX4_isBurnt 12 = .ok (.iconst 1, 1) := by decide +kernel
theorem dX4_isBurnt_13 : decode cX4_isBurnt 13 = .ok (.goto 4, 3) := by decide +kernel
theorem dX4_isBurnt_16 : decode cX4_isBurnt 16 = .ok (.iconst 0, 1) := by decide +kernel
theorem dX4_isBurnt_17 : decode cX4_isBurnt 17 = .ok (.ireturn, 1) := by decide +kernel
set_option maxRecDepth 20000 in
theorem ggX4_light_X9_add : GoodIn wsX4_light wsX9_add := goodIn_r _ [9, 10, 11, 12, 13, 14, 8, 15, 16, 67, 68, 69] (by decide +kernel) (by decide +kernel)
set_option maxRecDepth 20000 in
theorem gX4_light_X9_add : GoodIn wsX4_light (wsV RX4 118 RX9 yX9_add wsX9_add) := goodIn_app (goodIn_of _ (by decide +kernel)) ggX4_light_X9_add
set_option maxRecDepth 20000 in
theorem ggX4_light_X4_steps : GoodIn wsX4_light wsX4_steps := goodIn_r _ [21, 22, 23, 24, 25, 26, 8, 27, 10, 11, 28, 29, 30, 31, 32, 33, 34, 35, 36, 37, 38, 39, 40, 41, 42, 43, 44, 45, 46, 47, 48, 49, 50, 51, 52, 53, 54, 55, 56, 57, 58, 59, 60, 61, 62, 63, 64, 65, 66, 67, 68, 69] (by decide +kernel) (by decide +kernel)
set_option maxRecDepth 20000 in
theorem gX4_light_X4_steps : GoodIn wsX4_light (wsV RX4 125 RX4 yX4_steps wsX4_steps) := goodIn_app (goodIn_of _ (by decide +kernel)) ggX4_light_X4_steps
theorem dX4_light_0 : decode cX4_light 0 = .ok (.aload_n 0, 1) := by decide +kernel
theorem dX4_light_1 : decode cX4_light 1 = .ok (.getfield 49, 3) := by decide +kernel
theorem dX4_light_4 : decode cX4_light 4 = .ok (.aload_n 0, 1) := by decide +kernel
theorem dX4_light_5 : decode cX4_light 5 = .ok (.getfield 78, 3) := by decide +kernel
theorem dX4_light_8 : decode cX4_light 8 = .ok (.aload_n 0, 1) := by decide +kernel
theorem dX4_light_9 : decode cX4_light 9 = .ok (.getfield 81, 3) := by decide +kernel
theorem dX4_light_12 : decode cX4_light 12 = .ok (.aload_n 0, 1) := by decide +kernel
theorem dX4_light_13 : decode cX4_light 13 = .ok (.getfield 84, 3) := by decide +kernel
theorem dX4_light_16 : decode cX4_light 16 = .ok (.invokevirtual 118, 3) := by decide +kernel
theorem dX4_light_19 : decode cX4_light 19 = .ok (.pop, 1) := by decide +kernel
theorem dX4_light_20 : decode cX4_light 20 = .ok (.aload_n 0, 1) := by decide +kernel
theorem dX4_light_21 : decode cX4_light 21 = .ok (.dup, 1) := by decide +kernel
theorem dX4_light_22 : decode cX4_light 22 = .ok (.getfield 78, 3) := by decide +kernel
theorem dX4_light_25 : decode cX4_light 25 = .ok (.iconst 1, 1) := by decide +kernel
theorem dX4_light_26 : decode cX4_light 26 = .ok (.iload_n 1, 1) := by decide +kernel
theorem dX4_light_27 : decode cX4_light 27 = .ok (.ishl, 1) := by decide +kernel
theorem dX4_light_28 : decode cX4_light 28 = .ok (.ior, 1) := by decide +kernel
theorem dX4_light_29 : decode cX4_light 29 = .ok (.putfield 78, 3) := by decide +kernel
theorem dX4_light_32 : decode cX4_light 32 = .ok (.aload_n 0, 1) := by decide +kernel
theorem dX4_light_33 : decode cX4_light 33 = .ok (.dup, 1) := by decide +kernel
theorem dX4_light_34 : decode cX4_light 34 = .ok (.getfield 81, 3) := by decide +kernel
theorem dX4_light_37 : decode cX4_light 37 = .ok (.iload_n 2, 1) := by decide +kernel
theorem dX4_light_38 : decode cX4_light 38 = .ok (.iadd, 1) := by decide +kernel
theorem dX4_light_39 : decode cX4_light 39 = .ok (.putfield 81, 3) := by decide +kernel
theorem dX4_light_42 : decode cX4_light 42 = .ok (.aload_n 0, 1) := by decide +kernel
theorem dX4_light_43 : decode cX4_light 43 = .ok (.dup, 1) := by decide +kernel
theorem dX4_light_44 : decode cX4_light 44 = .ok (.getfield 84, 3) := by decide +kernel
theorem dX4_light_47 : decode cX4_light 47 = .ok (.aload_n 0, 1) := by decide +kernel
theorem dX4_light_48 : decode cX4_light 48 = .ok (.iload_n 1, 1) := by decide +kernel
theorem dX4_light_49 : decode cX4_light 49 = .ok (.invokevirtual 125, 3) := by decide +kernel
theorem dX4_light_52 : decode cX4_light 52 = .ok (.iadd, 1) := by decide +kernel
theorem dX4_light_53 : decode cX4_light 53 = .ok (.putfield 84, 3) := by decide +kernel
theorem dX4_light_56 : decode cX4_light 56 = .ok (.return_, 1) := by decide +kernel
set_option maxRecDepth 20000 in
theorem ggX4_goBack_X9_at : GoodIn wsX4_goBack wsX9_at := goodIn_r _ [10, 11, 12, 30, 31, 32] (by decide +kernel) (by decide +kernel)
set_option maxRecDepth 20000 in
theorem gX4_goBack_X9_at : GoodIn wsX4_goBack (wsV RX4 129 RX9 yX9_at wsX9_at) := goodIn_app (goodIn_of _ (by decide +kernel)) ggX4_goBack_X9_at
set_option maxRecDepth 20000 in
theorem ggX4_goBack_X9_dropLast : GoodIn wsX4_goBack wsX9_dropLast := goodIn_r _ [16, 11, 30, 31, 32] (by decide +kernel) (by decide +kernel)
set_option maxRecDepth 20000 in
theorem gX4_goBack_X9_dropLast : GoodIn wsX4_goBack (wsV RX4 133 RX9 yX9_dropLast wsX9_dropLast) := goodIn_app (goodIn_of _ (by decide +kernel)) ggX4_goBack_X9_dropLast
theorem dX4_goBack_0 : decode cX4_goBack 0 = .ok (.aload_n 0, 1) := by decide +kernel
theorem dX4_goBack_1 : decode cX4_goBack 1 = .ok (.getfield 49, 3) := by decide +kernel
theorem dX4_goBack_4 : decode cX4_goBack 4 = .ok (.getfield 122, 3) := by decide +kernel
theorem dX4_goBack_7 : decode cX4_goBack 7 = .ok (.iconst 1, 1) := by decide +kernel
theorem dX4_goBack_8 : decode cX4_goBack 8 = .ok (.isub, 1) := by decide +kernel
theorem dX4_goBack_9 : decode cX4_goBack 9 = .ok (.istore_n 1, 1) := by decide +kernel
theorem dX4_goBack_10 : decode cX4_goBack 10 = .ok (.iload_n 1, 1) := by decide +kernel
theorem dX4_goBack_11 : decode cX4_goBack 11 = .ok (.ifCond .ge 6, 3) := by decide +kernel
theorem dX4_goBack_14 : decode cX4_goBack 14 = .ok (.bipush (-3), 2) := by decide +kernel
theorem dX4_goBack_16 : decode cX4_goBack 16 = .ok (.ireturn, 1) := by decide +kernel
theorem dX4_goBack_17 : decode cX4_goBack 17 = .ok (.aload_n 0, 1) := by decide +kernel
theorem dX4_goBack_18 : decode cX4_goBack 18 = .ok (.aload_n 0, 1) := by decide +kernel
theorem dX4_goBack_19 : decode cX4_goBack 19 = .ok (.getfield 49, 3) := by decide +kernel
theorem dX4_goBack_22 : decode cX4_goBack 22 = .ok (.iload_n 1, 1) := by decide +kernel
theorem dX4_goBack_23 : decode cX4_goBack 23 = .ok (.iconst 0, 1) := by decide +kernel
theorem dX4_goBack_24 : decode cX4_goBack 24 = .ok (.invokevirtual 129, 3) := by decide +kernel
theorem dX4_goBack_27 : decode cX4_goBack 27 = .ok (.putfield 78, 3) := by decide +kernel
theorem dX4_goBack_30 : decode cX4_goBack 30 = .ok (.aload_n 0, 1) := by decide +kernel
theorem dX4_goBack_31 : decode cX4_goBack 31 = .ok (.aload_n 0, 1) := by decide +kernel
theorem dX4_goBack_32 : decode cX4_goBack 32 = .ok (.getfield 49, 3) := by decide +kernel
theorem dX4_goBack_35 : decode cX4_goBack 35 = .ok (.iload_n 1, 1) := by decide +kernel
theorem dX4_goBack_36 : decode cX4_goBack 36 = .ok (.iconst 1, 1) := by decide +kernel
theorem dX4_goBack_37 : decode cX4_goBack 37 = .ok (.invokevirtual 129, 3) := by decide +kernel
theorem dX4_goBack_40 : decode cX4_goBack 40 = .ok (.putfield 81, 3) := by decide +kernel
theorem dX4_goBack_43 : decode cX4_goBack 43 = .ok (.aload_n 0, 1) := by decide +kernel
theorem dX4_goBack_44 : decode cX4_goBack 44 = .ok (.aload_n 0, 1) := by decide +kernel
theorem dX4_goBack_45 : decode cX4_goBack 45 = .ok (.getfield 49, 3) := by decide +kernel
theorem dX4_goBack_48 : decode cX4_goBack 48 = .ok (.iload_n 1, 1) := by decide +kernel
theorem dX4_goBack_49 : decode cX4_goBack 49 = .ok (.iconst 2, 1) := by decide +kernel
theorem dX4_goBack_50 : decode cX4_goBack 50 = .ok (.invokevirtual 129, 3) := by decide +kernel
theorem dX4_goBack_53 : decode cX4_goBack 53 = .ok (.putfield 84, 3) := by decide +kernel
theorem dX4_goBack_56 : decode cX4_goBack 56 = .ok (.aload_n 0, 1) := by decide +kernel
theorem dX4_goBack_57 : decode cX4_goBack 57 = .ok (.getfield 49, 3) := by decide +kernel
theorem dX4_goBack_60 : decode cX4_goBack 60 = .ok (.invokevirtual 133, 3) := by decide +kernel
theorem dX4_goBack_63 : decode cX4_goBack 63 = .ok (.aload_n 0, 1) := by decide +kernel
theorem dX4_goBack_64 : decode cX4_goBack 64 = .ok (.getfield 81, 3) := by decide +kernel
theorem dX4_goBack_67 : decode cX4_goBack 67 = .ok (.ireturn, 1) := by decide +kernel
set_option maxRecDepth 20000 in
theorem ggX4_steps_X9_at : GoodIn wsX4_steps wsX9_at := goodIn_r _ [7, 8, 9, 49, 50, 51] (by decide +kernel) (by decide +kernel)
set_option maxRecDepth 20000 in
theorem gX4_steps_X9_at : GoodIn wsX4_steps (wsV RX4 129 RX9 yX9_at wsX9_at) := goodIn_app (goodIn_of _ (by decide +kernel)) ggX4_steps_X9_at
set_option maxRecDepth 20000 in
theorem ggX4_steps_X5_burnsFor : GoodIn wsX4_steps wsX5_burnsFor := goodIn_r _ [15] (by decide +kernel) (by decide +kernel)
set_option maxRecDepth 20000 in
theorem gX4_steps_X5_burnsFor_u136X0 : GoodIn wsX4_steps (va_wsU RX4 136 RX0 "CoalWood$Plain" ⟨"CoalWood$Plain", "burnsFor", "(I)I"⟩ yX5_burnsFor wsX5_burnsFor) := goodIn_app (goodIn_of _ (by decide +kernel)) ggX4_steps_X5_burnsFor
set_option maxRecDepth 20000 in
theorem ggX4_steps_X1_burnsFor : GoodIn wsX4_steps wsX1_burnsFor := goodIn_r _ [20] (by decide +kernel) (by decide +kernel)
set_option maxRecDepth 20000 in
theorem gX4_steps_X1_burnsFor_u136X1 : GoodIn wsX4_steps (va_wsO RX4 136 RX1 "CoalWood$Plain" ⟨"CoalWood$Plain", "burnsFor", "(I)I"⟩ yX1_burnsFor wsX1_burnsFor) := goodIn_app (goodIn_of _ (by decide +kernel)) ggX4_steps_X1_burnsFor
set_option maxRecDepth 20000 in
theorem ggX4_steps_X3_burnsFor : GoodIn wsX4_steps wsX3_burnsFor := goodIn_r _ [24, 25, 11, 26, 13, 14, 15] (by decide +kernel) (by decide +kernel)
set_option maxRecDepth 20000 in
theorem gX4_steps_X3_burnsFor_u136X3 : GoodIn wsX4_steps (va_wsO RX4 136 RX3 "CoalWood$Plain" ⟨"CoalWood$Plain", "burnsFor", "(I)I"⟩ yX3_burnsFor wsX3_burnsFor) := goodIn_app (goodIn_of _ (by decide +kernel)) ggX4_steps_X3_burnsFor
set_option maxRecDepth 20000 in
theorem gX4_steps_X5_burnsFor : GoodIn wsX4_steps (wsV RX4 136 RX5 yX5_burnsFor wsX5_burnsFor) := goodIn_app (goodIn_of _ (by decide +kernel)) ggX4_steps_X5_burnsFor
set_option maxRecDepth 20000 in
theorem ggX4_steps_X7_burnsFor : GoodIn wsX4_steps wsX7_burnsFor := goodIn_r _ [32, 33, 11, 34, 13, 14, 15] (by decide +kernel) (by decide +kernel)
set_option maxRecDepth 20000 in
theorem gX4_steps_X7_burnsFor_u136X7 : GoodIn wsX4_steps (va_wsO RX4 136 RX7 "CoalWood$Plain" ⟨"CoalWood$Plain", "burnsFor", "(I)I"⟩ yX7_burnsFor wsX7_burnsFor) := goodIn_app (goodIn_of _ (by decide +kernel)) ggX4_steps_X7_burnsFor
set_option maxRecDepth 20000 in
theorem gX4_steps_X3_burnsFor_u136X8 : GoodIn wsX4_steps (va_wsO RX4 136 RX8 "CoalWood$Plain" ⟨"CoalWood$Plain", "burnsFor", "(I)I"⟩ yX3_burnsFor wsX3_burnsFor) := goodIn_app (goodIn_of _ (by decide +kernel)) ggX4_steps_X3_burnsFor
theorem dX4_steps_0 : decode cX4_steps 0 = .ok (.aload_n 0, 1) := by decide +kernel
theorem dX4_steps_1 : decode cX4_steps 1 = .ok (.getfield 45, 3) := by decide +kernel
theorem dX4_steps_4 : decode cX4_steps 4 = .ok (.iload_n 1, 1) := by decide +kernel
theorem dX4_steps_5 : decode cX4_steps 5 = .ok (.iconst 0, 1) := by decide +kernel
theorem dX4_steps_6 : decode cX4_steps 6 = .ok (.invokevirtual 129, 3) := by decide +kernel
theorem dX4_steps_9 : decode cX4_steps 9 = .ok (.istore_n 2, 1) := by decide +kernel
theorem dX4_steps_10 : decode cX4_steps 10 = .ok (.iload_n 2, 1) := by decide +kernel
theorem dX4_steps_11 : decode cX4_steps 11 = .ok (.ifCond .lt 12, 3) := by decide +kernel
theorem dX4_steps_14 : decode cX4_steps 14 = .ok (.iload_n 2, 1) := by decide +kernel
theorem dX4_steps_15 : decode cX4_steps 15 = .ok (.aload_n 0, 1) := by decide +kernel
theorem dX4_steps_16 : decode cX4_steps 16 = .ok (.getfield 27, 3) := by decide +kernel
theorem dX4_steps_19 : decode cX4_steps 19 = .ok (.arraylength, 1) := by decide +kernel
theorem dX4_steps_20 : decode cX4_steps 20 = .ok (.if_icmp .lt 5, 3) := by decide +kernel
theorem dX4_steps_23 : decode cX4_steps 23 = .ok (.iconst 0, 1) := by decide +kernel
theorem dX4_steps_24 : decode cX4_steps 24 = .ok (.ireturn, 1) := by decide +kernel
theorem dX4_steps_25 : decode cX4_steps 25 = .ok (.aload_n 0, 1) := by decide +kernel
theorem dX4_steps_26 : decode cX4_steps 26 = .ok (.getfield 27, 3) := by decide +kernel
theorem dX4_steps_29 : decode cX4_steps 29 = .ok (.iload_n 2, 1) := by decide +kernel
theorem dX4_steps_30 : decode cX4_steps 30 = .ok (.aaload, 1) := by decide +kernel
theorem dX4_steps_31 : decode cX4_steps 31 = .ok (.aload_n 0, 1) := by decide +kernel
theorem dX4_steps_32 : decode cX4_steps 32 = .ok (.getfield 45, 3) := by decide +kernel
theorem dX4_steps_35 : decode cX4_steps 35 = .ok (.iload_n 1, 1) := by decide +kernel
theorem dX4_steps_36 : decode cX4_steps 36 = .ok (.iconst 2, 1) := by decide +kernel
theorem dX4_steps_37 : decode cX4_steps 37 = .ok (.invokevirtual 129, 3) := by decide +kernel
theorem dX4_steps_40 : decode cX4_steps 40 = .ok (.invokevirtual 136, 3) := by decide +kernel
theorem dX4_steps_43 : decode cX4_steps 43 = .ok (.ireturn, 1) := by decide +kernel
set_option maxRecDepth 20000 in
theorem ggX4_weatherOfCut_X0_own : GoodIn wsX4_weatherOfCut wsX0_own := goodIn_r _ [8, 9, 3, 10, 11, 12, 13] (by decide +kernel) (by decide +kernel)
set_option maxRecDepth 20000 in
theorem gX4_weatherOfCut_X0_own_u139X0 : GoodIn wsX4_weatherOfCut (va_wsO RX4 139 RX0 "CoalWood$Plain" ⟨"CoalWood$Plain", "own", "(II)I"⟩ yX0_own wsX0_own) := goodIn_app (goodIn_of _ (by decide +kernel)) ggX4_weatherOfCut_X0_own
set_option maxRecDepth 20000 in
theorem ggX4_weatherOfCut_X1_own : GoodIn wsX4_weatherOfCut wsX1_own := goodIn_r _ [17, 18, 19, 20, 6, 7, 8, 9, 3, 10, 11, 12, 13] (by decide +kernel) (by decide +kernel)
set_option maxRecDepth 20000 in
theorem gX4_weatherOfCut_X1_own_u139X1 : GoodIn wsX4_weatherOfCut (va_wsO RX4 139 RX1 "CoalWood$Plain" ⟨"CoalWood$Plain", "own", "(II)I"⟩ yX1_own wsX1_own) := goodIn_app (goodIn_of _ (by decide +kernel)) ggX4_weatherOfCut_X1_own
set_option maxRecDepth 20000 in
theorem ggX4_weatherOfCut_X3_own : GoodIn wsX4_weatherOfCut wsX3_own := goodIn_r _ [24, 25, 3, 26, 11, 12, 13] (by decide +kernel) (by decide +kernel)
set_option maxRecDepth 20000 in
theorem gX4_weatherOfCut_X3_own_u139X3 : GoodIn wsX4_weatherOfCut (va_wsO RX4 139 RX3 "CoalWood$Plain" ⟨"CoalWood$Plain", "own", "(II)I"⟩ yX3_own wsX3_own) := goodIn_app (goodIn_of _ (by decide +kernel)) ggX4_weatherOfCut_X3_own
set_option maxRecDepth 20000 in
theorem ggX4_weatherOfCut_X5_own : GoodIn wsX4_weatherOfCut wsX5_own := goodIn_r _ [13] (by decide +kernel) (by decide +kernel)
set_option maxRecDepth 20000 in
theorem gX4_weatherOfCut_X5_own : GoodIn wsX4_weatherOfCut (wsV RX4 139 RX5 yX5_own wsX5_own) := goodIn_app (goodIn_of _ (by decide +kernel)) ggX4_weatherOfCut_X5_own
set_option maxRecDepth 20000 in
theorem ggX4_weatherOfCut_X7_own : GoodIn wsX4_weatherOfCut wsX7_own := goodIn_r _ [32, 33, 3, 34, 11, 12, 13] (by decide +kernel) (by decide +kernel)
set_option maxRecDepth 20000 in
theorem gX4_weatherOfCut_X7_own_u139X7 : GoodIn wsX4_weatherOfCut (va_wsO RX4 139 RX7 "CoalWood$Plain" ⟨"CoalWood$Plain", "own", "(II)I"⟩ yX7_own wsX7_own) := goodIn_app (goodIn_of _ (by decide +kernel)) ggX4_weatherOfCut_X7_own
set_option maxRecDepth 20000 in
theorem ggX4_weatherOfCut_X8_own : GoodIn wsX4_weatherOfCut wsX8_own := goodIn_r _ [38, 39, 40, 41, 22, 23, 24, 25, 3, 26, 11, 12, 13] (by decide +kernel) (by decide +kernel)
set_option maxRecDepth 20000 in
theorem gX4_weatherOfCut_X8_own_u139X8 : GoodIn wsX4_weatherOfCut (va_wsO RX4 139 RX8 "CoalWood$Plain" ⟨"CoalWood$Plain", "own", "(II)I"⟩ yX8_own wsX8_own) := goodIn_app (goodIn_of _ (by decide +kernel)) ggX4_weatherOfCut_X8_own
set_option maxRecDepth 20000 in
theorem ggX4_weatherOfCut_X4_inSeam : GoodIn wsX4_weatherOfCut wsX4_inSeam := goodIn_r _ [45] (by decide +kernel) (by decide +kernel)
set_option maxRecDepth 20000 in
theorem gX4_weatherOfCut_X4_inSeam : GoodIn wsX4_weatherOfCut (va_wsS RX4 142 yX4_inSeam wsX4_inSeam) := goodIn_app (goodIn_of _ (by decide +kernel)) ggX4_weatherOfCut_X4_inSeam
set_option maxRecDepth 20000 in
theorem ggX4_weatherOfCut_X4_weatherIn : GoodIn wsX4_weatherOfCut wsX4_weatherIn := goodIn_r _ [49, 50, 51, 52, 53, 54, 55, 56, 57, 58, 59, 60, 61, 62, 63, 64, 65, 66, 67, 68, 69] (by decide +kernel) (by decide +kernel)
set_option maxRecDepth 20000 in
theorem gX4_weatherOfCut_X4_weatherIn : GoodIn wsX4_weatherOfCut (wsV RX4 145 RX4 yX4_weatherIn wsX4_weatherIn) := goodIn_app (goodIn_of _ (by decide +kernel)) ggX4_weatherOfCut_X4_weatherIn
theorem dX4_weatherOfCut_0 : decode cX4_weatherOfCut 0 = .ok (.iload_n 1, 1) := by decide +kernel
theorem dX4_weatherOfCut_1 : decode cX4_weatherOfCut 1 = .ok (.ifCond .lt 12, 3) := by decide +kernel
theorem dX4_weatherOfCut_4 : decode cX4_weatherOfCut 4 = .ok (.iload_n 1, 1) := by decide +kernel
theorem dX4_weatherOfCut_5 : decode cX4_weatherOfCut 5 = .ok (.aload_n 0, 1) := by decide +kernel
theorem dX4_weatherOfCut_6 : decode cX4_weatherOfCut 6 = .ok (.getfield 27, 3) := by decide +kernel
theorem dX4_weatherOfCut_9 : decode cX4_weatherOfCut 9 = .ok (.arraylength, 1) := by decide +kernel
theorem dX4_weatherOfCut_10 : decode cX4_weatherOfCut 10 = .ok (.if_icmp .lt 5, 3) := by decide +kernel
theorem dX4_weatherOfCut_13 : decode cX4_weatherOfCut 13 = .ok (.iconst (-1), 1) := by decide +kernel
theorem dX4_weatherOfCut_14 : decode cX4_weatherOfCut 14 = .ok (.ireturn, 1) := by decide +kernel
theorem dX4_weatherOfCut_15 : decode cX4_weatherOfCut 15 = .ok (.aload_n 0, 1) := by decide +kernel
theorem dX4_weatherOfCut_16 : decode cX4_weatherOfCut 16 = .ok (.iload_n 2, 1) := by decide +kernel
theorem dX4_weatherOfCut_17 : decode cX4_weatherOfCut 17 = .ok (.aload_n 0, 1) := by decide +kernel
theorem dX4_weatherOfCut_18 : decode cX4_weatherOfCut 18 = .ok (.getfield 27, 3) := by decide +kernel
theorem dX4_weatherOfCut_21 : decode cX4_weatherOfCut 21 = .ok (.iload_n 1, 1) := by decide +kernel
theorem dX4_weatherOfCut_22 : decode cX4_weatherOfCut 22 = .ok (.aaload, 1) := by decide +kernel
theorem dX4_weatherOfCut_23 : decode cX4_weatherOfCut 23 = .ok (.iload_n 3, 1) := by decide +kernel
theorem dX4_weatherOfCut_24 : decode cX4_weatherOfCut 24 = .ok (.iload 4, 2) := by decide +kernel
theorem dX4_weatherOfCut_26 : decode cX4_weatherOfCut 26 = .ok (.invokevirtual 139, 3) := by decide +kernel
theorem dX4_weatherOfCut_29 : decode cX4_weatherOfCut 29 = .ok (.invokestatic 142, 3) := by decide +kernel
theorem dX4_weatherOfCut_32 : decode cX4_weatherOfCut 32 = .ok (.invokevirtual 145, 3) := by decide +kernel
theorem dX4_weatherOfCut_35 : decode cX4_weatherOfCut 35 = .ok (.ireturn, 1) := by decide +kernel
set_option maxRecDepth 20000 in
theorem ggX4_layerShown_X9_at : GoodIn wsX4_layerShown wsX9_at := goodIn_r _ [7, 8, 9, 67, 68, 69] (by decide +kernel) (by decide +kernel)
set_option maxRecDepth 20000 in
theorem gX4_layerShown_X9_at : GoodIn wsX4_layerShown (wsV RX4 129 RX9 yX9_at wsX9_at) := goodIn_app (goodIn_of _ (by decide +kernel)) ggX4_layerShown_X9_at
set_option maxRecDepth 20000 in
theorem ggX4_layerShown_X0_own : GoodIn wsX4_layerShown wsX0_own := goodIn_r _ [16, 17, 11, 18, 19, 20, 21] (by decide +kernel) (by decide +kernel)
set_option maxRecDepth 20000 in
theorem gX4_layerShown_X0_own_u139X0 : GoodIn wsX4_layerShown (va_wsO RX4 139 RX0 "CoalWood$Plain" ⟨"CoalWood$Plain", "own", "(II)I"⟩ yX0_own wsX0_own) := goodIn_app (goodIn_of _ (by decide +kernel)) ggX4_layerShown_X0_own
set_option maxRecDepth 20000 in
theorem ggX4_layerShown_X1_own : GoodIn wsX4_layerShown wsX1_own := goodIn_r _ [25, 26, 27, 28, 14, 15, 16, 17, 11, 18, 19, 20, 21] (by decide +kernel) (by decide +kernel)
set_option maxRecDepth 20000 in
theorem gX4_layerShown_X1_own_u139X1 : GoodIn wsX4_layerShown (va_wsO RX4 139 RX1 "CoalWood$Plain" ⟨"CoalWood$Plain", "own", "(II)I"⟩ yX1_own wsX1_own) := goodIn_app (goodIn_of _ (by decide +kernel)) ggX4_layerShown_X1_own
set_option maxRecDepth 20000 in
theorem ggX4_layerShown_X3_own : GoodIn wsX4_layerShown wsX3_own := goodIn_r _ [32, 33, 11, 34, 19, 20, 21] (by decide +kernel) (by decide +kernel)
set_option maxRecDepth 20000 in
theorem gX4_layerShown_X3_own_u139X3 : GoodIn wsX4_layerShown (va_wsO RX4 139 RX3 "CoalWood$Plain" ⟨"CoalWood$Plain", "own", "(II)I"⟩ yX3_own wsX3_own) := goodIn_app (goodIn_of _ (by decide +kernel)) ggX4_layerShown_X3_own
set_option maxRecDepth 20000 in
theorem ggX4_layerShown_X5_own : GoodIn wsX4_layerShown wsX5_own := goodIn_r _ [21] (by decide +kernel) (by decide +kernel)
set_option maxRecDepth 20000 in
theorem gX4_layerShown_X5_own : GoodIn wsX4_layerShown (wsV RX4 139 RX5 yX5_own wsX5_own) := goodIn_app (goodIn_of _ (by decide +kernel)) ggX4_layerShown_X5_own
set_option maxRecDepth 20000 in
theorem ggX4_layerShown_X7_own : GoodIn wsX4_layerShown wsX7_own := goodIn_r _ [40, 41, 11, 42, 19, 20, 21] (by decide +kernel) (by decide +kernel)
set_option maxRecDepth 20000 in
theorem gX4_layerShown_X7_own_u139X7 : GoodIn wsX4_layerShown (va_wsO RX4 139 RX7 "CoalWood$Plain" ⟨"CoalWood$Plain", "own", "(II)I"⟩ yX7_own wsX7_own) := goodIn_app (goodIn_of _ (by decide +kernel)) ggX4_layerShown_X7_own
set_option maxRecDepth 20000 in
theorem ggX4_layerShown_X8_own : GoodIn wsX4_layerShown wsX8_own := goodIn_r _ [46, 47, 48, 49, 30, 31, 32, 33, 11, 34, 19, 20, 21] (by decide +kernel) (by decide +kernel)
set_option maxRecDepth 20000 in
theorem gX4_layerShown_X8_own_u139X8 : GoodIn wsX4_layerShown (va_wsO RX4 139 RX8 "CoalWood$Plain" ⟨"CoalWood$Plain", "own", "(II)I"⟩ yX8_own wsX8_own) := goodIn_app (goodIn_of _ (by decide +kernel)) ggX4_layerShown_X8_own
set_option maxRecDepth 20000 in
theorem ggX4_layerShown_X4_inSeam : GoodIn wsX4_layerShown wsX4_inSeam := goodIn_r _ [53] (by decide +kernel) (by decide +kernel)
set_option maxRecDepth 20000 in
theorem gX4_layerShown_X4_inSeam : GoodIn wsX4_layerShown (va_wsS RX4 142 yX4_inSeam wsX4_inSeam) := goodIn_app (goodIn_of _ (by decide +kernel)) ggX4_layerShown_X4_inSeam
theorem dX4_layerShown_0 : decode cX4_layerShown 0 = .ok (.aload_n 0, 1) := by decide +kernel
theorem dX4_layerShown_1 : decode cX4_layerShown 1 = .ok (.getfield 45, 3) := by decide +kernel
theorem dX4_layerShown_4 : decode cX4_layerShown 4 = .ok (.iload_n 1, 1) := by decide +kernel
theorem dX4_layerShown_5 : decode cX4_layerShown 5 = .ok (.iconst 0, 1) := by decide +kernel
theorem dX4_layerShown_6 : decode cX4_layerShown 6 = .ok (.invokevirtual 129, 3) := by decide +kernel
theorem dX4_layerShown_9 : decode cX4_layerShown 9 = .ok (.istore_n 3, 1) := by decide +kernel
theorem dX4_layerShown_10 : decode cX4_layerShown 10 = .ok (.iload_n 3, 1) := by decide +kernel
theorem dX4_layerShown_11 : decode cX4_layerShown 11 = .ok (.ifCond .lt 12, 3) := by decide +kernel
theorem dX4_layerShown_14 : decode cX4_layerShown 14 = .ok (.iload_n 3, 1) := by decide +kernel
theorem dX4_layerShown_15 : decode cX4_layerShown 15 = .ok (.aload_n 0, 1) := by decide +kernel
theorem dX4_layerShown_16 : decode cX4_layerShown 16 = .ok (.getfield 27, 3) := by decide +kernel
theorem dX4_layerShown_19 : decode cX4_layerShown 19 = .ok (.arraylength, 1) := by decide +kernel
theorem dX4_layerShown_20 : decode cX4_layerShown 20 = .ok (.if_icmp .lt 5, 3) := by decide +kernel
theorem dX4_layerShown_23 : decode cX4_layerShown 23 = .ok (.iconst (-1), 1) := by decide +kernel
theorem dX4_layerShown_24 : decode cX4_layerShown 24 = .ok (.ireturn, 1) := by decide +kernel
theorem dX4_layerShown_25 : decode cX4_layerShown 25 = .ok (.aload_n 0, 1) := by decide +kernel
theorem dX4_layerShown_26 : decode cX4_layerShown 26 = .ok (.getfield 45, 3) := by decide +kernel
theorem dX4_layerShown_29 : decode cX4_layerShown 29 = .ok (.iload_n 1, 1) := by decide +kernel
theorem dX4_layerShown_30 : decode cX4_layerShown 30 = .ok (.iconst 1, 1) := by decide +kernel
theorem dX4_layerShown_31 : decode cX4_layerShown 31 = .ok (.invokevirtual 129, 3) := by decide +kernel
theorem dX4_layerShown_34 : decode cX4_layerShown 34 = .ok (.aload_n 0, 1) := by decide +kernel
theorem dX4_layerShown_35 : decode cX4_layerShown 35 = .ok (.getfield 27, 3) := by decide +kernel
theorem dX4_layerShown_38 : decode cX4_layerShown 38 = .ok (.iload_n 3, 1) := by decide +kernel
theorem dX4_layerShown_39 : decode cX4_layerShown 39 = .ok (.aaload, 1) := by decide +kernel
theorem dX4_layerShown_40 : decode cX4_layerShown 40 = .ok (.aload_n 0, 1) := by decide +kernel
theorem dX4_layerShown_41 : decode cX4_layerShown 41 = .ok (.getfield 45, 3) := by decide +kernel
theorem dX4_layerShown_44 : decode cX4_layerShown 44 = .ok (.iload_n 1, 1) := by decide +kernel
theorem dX4_layerShown_45 : decode cX4_layerShown 45 = .ok (.iconst 2, 1) := by decide +kernel
theorem dX4_layerShown_46 : decode cX4_layerShown 46 = .ok (.invokevirtual 129, 3) := by decide +kernel
theorem dX4_layerShown_49 : decode cX4_layerShown 49 = .ok (.iload_n 2, 1) := by decide +kernel
theorem dX4_layerShown_50 : decode cX4_layerShown 50 = .ok (.invokevirtual 139, 3) := by decide +kernel
theorem dX4_layerShown_53 : decode cX4_layerShown 53 = .ok (.invokestatic 142, 3) := by decide +kernel
theorem dX4_layerShown_56 : decode cX4_layerShown 56 = .ok (.ireturn, 1) := by decide +kernel
theorem dX4_inSeam_0 : decode cX4_inSeam 0 = .ok (.iload_n 1, 1) := by decide +kernel
theorem dX4_inSeam_1 : decode cX4_inSeam 1 = .ok (.iconst (-1), 1) := by decide +kernel
theorem dX4_inSeam_2 : decode cX4_inSeam 2 = .ok (.if_icmp .ne 7, 3) := by decide +kernel
theorem dX4_inSeam_5 : decode cX4_inSeam 5 = .ok (.iconst (-1), 1) := by decide +kernel
theorem dX4_inSeam_6 : decode cX4_inSeam 6 = .ok (.goto 6, 3) := by decide +kernel
theorem dX4_inSeam_9 : decode cX4_inSeam 9 = .ok (.iload_n 0, 1) := by decide +kernel
theorem dX4_inSeam_10 : decode cX4_inSeam 10 = .ok (.iload_n 1, 1) := by decide +kernel
theorem dX4_inSeam_11 : decode cX4_inSeam 11 = .ok (.iadd, 1) := by decide +kernel
theorem dX4_inSeam_12 : decode cX4_inSeam 12 = .ok (.ireturn, 1) := by decide +kernel
set_option maxRecDepth 20000 in
theorem ggX4_weatherIn_X11_isLayer : GoodIn wsX4_weatherIn wsX11_isLayer := goodIn_r _ [4, 5, 6, 3, 7] (by decide +kernel) (by decide +kernel)
set_option maxRecDepth 20000 in
theorem gX4_weatherIn_X11_isLayer_n100 : GoodIn wsX4_weatherIn (wsX11_isLayer) := ggX4_weatherIn_X11_isLayer
theorem dX4_weatherIn_0 : decode cX4_weatherIn 0 = .ok (.iload_n 1, 1) := by decide +kernel
theorem dX4_weatherIn_1 : decode cX4_weatherIn 1 = .ok (.invokestatic 100, 3) := by decide +kernel
theorem dX4_weatherIn_4 : decode cX4_weatherIn 4 = .ok (.ifCond .eq 12, 3) := by decide +kernel
theorem dX4_weatherIn_7 : decode cX4_weatherIn 7 = .ok (.aload_n 0, 1) := by decide +kernel
theorem dX4_weatherIn_8 : decode cX4_weatherIn 8 = .ok (.getfield 33, 3) := by decide +kernel
theorem dX4_weatherIn_11 : decode cX4_weatherIn 11 = .ok (.iload_n 1, 1) := by decide +kernel
theorem dX4_weatherIn_12 : decode cX4_weatherIn 12 = .ok (.iaload, 1) := by decide +kernel
theorem dX4_weatherIn_13 : decode cX4_weatherIn 13 = .ok (.goto 4, 3) := by decide +kernel
theorem dX4_weatherIn_16 : decode cX4_weatherIn 16 = .ok (.iconst (-1), 1) := by decide +kernel
theorem dX4_weatherIn_17 : decode cX4_weatherIn 17 = .ok (.ireturn, 1) := by decide +kernel
set_option maxRecDepth 20000 in
theorem ggX4_writeShown_X4_steps : GoodIn wsX4_writeShown wsX4_steps := goodIn_r _ [6, 7, 8, 9, 10, 11, 12, 13, 14, 15, 16, 17, 18, 19, 20, 21, 22, 23, 24, 25, 26, 27, 28, 29, 30, 31, 32, 33, 34, 35, 36, 37, 38, 39, 40, 41, 94, 95, 96, 97, 98, 99, 100, 101, 102, 103, 104, 105, 106, 107, 108, 109] (by decide +kernel) (by decide +kernel)
set_option maxRecDepth 20000 in
theorem gX4_writeShown_X4_steps : GoodIn wsX4_writeShown (wsV RX4 125 RX4 yX4_steps wsX4_steps) := goodIn_app (goodIn_of _ (by decide +kernel)) ggX4_writeShown_X4_steps
set_option maxRecDepth 20000 in
theorem ggX4_writeShown_X4_layerShown : GoodIn wsX4_writeShown wsX4_layerShown := goodIn_r _ [45, 7, 8, 9, 10, 11, 12, 13, 14, 15, 46, 47, 48, 49, 50, 51, 52, 53, 54, 55, 20, 56, 57, 58, 25, 59, 60, 61, 62, 63, 64, 29, 65, 66, 32, 67, 68, 69, 70, 37, 71, 72, 40, 73, 74, 75, 76, 77, 78, 79, 80, 81, 5, 82, 94, 95, 96, 97, 98, 99, 100, 101, 102, 103, 104, 105, 106, 107, 108, 109] (by decide +kernel) (by decide +kernel)
set_option maxRecDepth 20000 in
theorem gX4_writeShown_X4_layerShown : GoodIn wsX4_writeShown (wsV RX4 148 RX4 yX4_layerShown wsX4_layerShown) := goodIn_app (goodIn_of _ (by decide +kernel)) ggX4_writeShown_X4_layerShown
set_option maxRecDepth 20000 in
theorem ggX4_writeShown_X4_weatherIn : GoodIn wsX4_writeShown wsX4_weatherIn := goodIn_r _ [86, 87, 88, 89, 90, 91, 92, 93, 94, 95, 96, 97, 98, 99, 100, 101, 102, 103, 104, 105, 106] (by decide +kernel) (by decide +kernel)
set_option maxRecDepth 20000 in
theorem gX4_writeShown_X4_weatherIn : GoodIn wsX4_writeShown (wsV RX4 145 RX4 yX4_weatherIn wsX4_weatherIn) := goodIn_app (goodIn_of _ (by decide +kernel)) ggX4_writeShown_X4_weatherIn
theorem dX4_writeShown_0 : decode cX4_writeShown 0 = .ok (.aload_n 0, 1) := by decide +kernel
theorem dX4_writeShown_1 : decode cX4_writeShown 1 = .ok (.iload_n 1, 1) := by decide +kernel
theorem dX4_writeShown_2 : decode cX4_writeShown 2 = .ok (.invokevirtual 125, 3) := by decide +kernel
theorem dX4_writeShown_5 : decode cX4_writeShown 5 = .ok (.istore_n 2, 1) := by decide +kernel
theorem dX4_writeShown_6 : decode cX4_writeShown 6 = .ok (.iconst 0, 1) := by decide +kernel
theorem dX4_writeShown_7 : decode cX4_writeShown 7 = .ok (.istore_n 3, 1) := by decide +kernel
theorem dX4_writeShown_8 : decode cX4_writeShown 8 = .ok (.iconst 0, 1) := by decide +kernel
theorem dX4_writeShown_9 : decode cX4_writeShown 9 = .ok (.istore 4, 2) := by decide +kernel
theorem dX4_writeShown_11 : decode cX4_writeShown 11 = .ok (.iload 4, 2) := by decide +kernel
theorem dX4_writeShown_13 : decode cX4_writeShown 13 = .ok (.iload_n 2, 1) := by decide +kernel
theorem dX4_writeShown_14 : decode cX4_writeShown 14 = .ok (.if_icmp .ge 48, 3) := by decide +kernel
theorem dX4_writeShown_17 : decode cX4_writeShown 17 = .ok (.iload_n 3, 1) := by decide +kernel
theorem dX4_writeShown_18 : decode cX4_writeShown 18 = .ok (.aload_n 0, 1) := by decide +kernel
theorem dX4_writeShown_19 : decode cX4_writeShown 19 = .ok (.getfield 61, 3) := by decide +kernel
theorem dX4_writeShown_22 : decode cX4_writeShown 22 = .ok (.arraylength, 1) := by decide +kernel
theorem dX4_writeShown_23 : decode cX4_writeShown 23 = .ok (.if_icmp .ge 39, 3) := by decide +kernel
theorem dX4_writeShown_26 : decode cX4_writeShown 26 = .ok (.aload_n 0, 1) := by decide +kernel
theorem dX4_writeShown_27 : decode cX4_writeShown 27 = .ok (.aload_n 0, 1) := by decide +kernel
theorem dX4_writeShown_28 : decode cX4_writeShown 28 = .ok (.iload_n 1, 1) := by decide +kernel
theorem dX4_writeShown_29 : decode cX4_writeShown 29 = .ok (.iload 4, 2) := by decide +kernel
theorem dX4_writeShown_31 : decode cX4_writeShown 31 = .ok (.invokevirtual 148, 3) := by decide +kernel
theorem dX4_writeShown_34 : decode cX4_writeShown 34 = .ok (.invokevirtual 145, 3) := by decide +kernel
theorem dX4_writeShown_37 : decode cX4_writeShown 37 = .ok (.istore 5, 2) := by decide +kernel
theorem dX4_writeShown_39 : decode cX4_writeShown 39 = .ok (.iload 5, 2) := by decide +kernel
theorem dX4_writeShown_41 : decode cX4_writeShown 41 = .ok (.iconst (-1), 1) := by decide +kernel
theorem dX4_writeShown_42 : decode cX4_writeShown 42 = .ok (.if_icmp .eq 14, 3) := by decide +kernel
theorem dX4_writeShown_45 : decode cX4_writeShown 45 = .ok (.aload_n 0, 1) := by decide +kernel
theorem dX4_writeShown_46 : decode cX4_writeShown 46 = .ok (.getfield 61, 3) := by decide +kernel
theorem dX4_writeShown_49 : decode cX4_writeShown 49 = .ok (.iload_n 3, 1) := by decide +kernel
theorem dX4_writeShown_50 : decode cX4_writeShown 50 = .ok (.iload 5, 2) := by decide +kernel
theorem dX4_writeShown_52 : decode cX4_writeShown 52 = .ok (.iastore, 1) := by decide +kernel
theorem dX4_writeShown_53 : decode cX4_writeShown 53 = .ok (.iinc 3 1, 3) := by decide +kernel
theorem dX4_writeShown_56 : decode cX4_writeShown 56 = .ok (.iinc 4 1, 3) := by decide +kernel
theorem dX4_writeShown_59 : decode cX4_writeShown 59 = .ok (.goto (-48), 3) := by decide +kernel
theorem dX4_writeShown_62 : decode cX4_writeShown 62 = .ok (.iload_n 3, 1) := by decide +kernel
theorem dX4_writeShown_63 : decode cX4_writeShown 63 = .ok (.ireturn, 1) := by decide +kernel
theorem dX4_shownAt_0 : decode cX4_shownAt 0 = .ok (.iload_n 1, 1) := by decide +kernel
theorem dX4_shownAt_1 : decode cX4_shownAt 1 = .ok (.ifCond .lt 21, 3) := by decide +kernel
theorem dX4_shownAt_4 : decode cX4_shownAt 4 = .ok (.iload_n 1, 1) := by decide +kernel
theorem dX4_shownAt_5 : decode cX4_shownAt 5 = .ok (.aload_n 0, 1) := by decide +kernel
theorem dX4_shownAt_6 : decode cX4_shownAt 6 = .ok (.getfield 61, 3) := by decide +kernel
theorem dX4_shownAt_9 : decode cX4_shownAt 9 = .ok (.arraylength, 1) := by decide +kernel
theorem dX4_shownAt_10 : decode cX4_shownAt 10 = .ok (.if_icmp .ge 12, 3) := by decide +kernel
theorem dX4_shownAt_13 : decode cX4_shownAt 13 = .ok (.aload_n 0, 1) := by decide +kernel
theorem dX4_shownAt_14 : decode cX4_shownAt 14 = .ok (.getfield 61, 3) := by decide +kernel
theorem dX4_shownAt_17 : decode cX4_shownAt 17 = .ok (.iload_n 1, 1) := by decide +kernel
theorem dX4_shownAt_18 : decode cX4_shownAt 18 = .ok (.iaload, 1) := by decide +kernel
theorem dX4_shownAt_19 : decode cX4_shownAt 19 = .ok (.goto 4, 3) := by decide +kernel
theorem dX4_shownAt_22 : decode cX4_shownAt 22 = .ok (.iconst (-1), 1) := by decide +kernel
theorem dX4_shownAt_23 : decode cX4_shownAt 23 = .ok (.ireturn, 1) := by decide +kernel
set_option maxRecDepth 20000 in
theorem ggX4_worth_X4_writeShown : GoodIn wsX4_worth wsX4_writeShown := goodIn_r _ [6, 7, 8, 9, 10, 5, 11, 12, 13, 14, 15, 16, 17, 18, 19, 20, 21, 22, 23, 24, 25, 26, 27, 28, 29, 30, 31, 32, 33, 34, 35, 36, 37, 38, 39, 40, 41, 42, 43, 44, 45, 46, 47, 48, 49, 50, 51, 52, 53, 54, 55, 56, 57, 58, 59, 60, 61, 62, 63, 64, 65, 66, 67, 68, 69, 70, 71, 72, 73, 74, 75, 76, 77, 78, 79, 80, 81, 82, 83, 84, 85, 86, 87, 88, 89, 90, 91, 92, 93, 94, 95, 96, 97, 98, 105, 106, 107, 108, 109, 110, 111, 112, 113, 114, 115, 116, 117, 118, 119, 120] (by decide +kernel) (by decide +kernel)
set_option maxRecDepth 20000 in
theorem gX4_worth_X4_writeShown : GoodIn wsX4_worth (wsV RX4 151 RX4 yX4_writeShown wsX4_writeShown) := goodIn_app (goodIn_of _ (by decide +kernel)) ggX4_worth_X4_writeShown
set_option maxRecDepth 20000 in
theorem ggX4_worth_X4_shownAt : GoodIn wsX4_worth wsX4_shownAt := goodIn_r _ [102, 7, 105, 106, 107, 108, 109, 110, 111, 112, 113, 114, 115, 116, 117] (by decide +kernel) (by decide +kernel)
set_option maxRecDepth 20000 in
theorem gX4_worth_X4_shownAt : GoodIn wsX4_worth (wsV RX4 154 RX4 yX4_shownAt wsX4_shownAt) := goodIn_app (goodIn_of _ (by decide +kernel)) ggX4_worth_X4_shownAt
set_option maxRecDepth 20000 in
theorem ggX4_worth_X11_isWeather : GoodIn wsX4_worth wsX11_isWeather := goodIn_r _ [104, 96, 97, 94, 98] (by decide +kernel) (by decide +kernel)
set_option maxRecDepth 20000 in
theorem gX4_worth_X11_isWeather_n104 : GoodIn wsX4_worth (wsX11_isWeather) := ggX4_worth_X11_isWeather
theorem dX4_worth_0 : decode cX4_worth 0 = .ok (.aload_n 0, 1) := by decide +kernel
theorem dX4_worth_1 : decode cX4_worth 1 = .ok (.iload_n 1, 1) := by decide +kernel
theorem dX4_worth_2 : decode cX4_worth 2 = .ok (.invokevirtual 151, 3) := by decide +kernel
theorem dX4_worth_5 : decode cX4_worth 5 = .ok (.istore_n 2, 1) := by decide +kernel
theorem dX4_worth_6 : decode cX4_worth 6 = .ok (.iconst 0, 1) := by decide +kernel
theorem dX4_worth_7 : decode cX4_worth 7 = .ok (.istore_n 3, 1) := by decide +kernel
theorem dX4_worth_8 : decode cX4_worth 8 = .ok (.iconst 0, 1) := by decide +kernel
theorem dX4_worth_9 : decode cX4_worth 9 = .ok (.istore 4, 2) := by decide +kernel
theorem dX4_worth_11 : decode cX4_worth 11 = .ok (.iload 4, 2) := by decide +kernel
theorem dX4_worth_13 : decode cX4_worth 13 = .ok (.iload_n 2, 1) := by decide +kernel
theorem dX4_worth_14 : decode cX4_worth 14 = .ok (.if_icmp .ge 39, 3) := by decide +kernel
theorem dX4_worth_17 : decode cX4_worth 17 = .ok (.aload_n 0, 1) := by decide +kernel
theorem dX4_worth_18 : decode cX4_worth 18 = .ok (.iload 4, 2) := by decide +kernel
theorem dX4_worth_20 : decode cX4_worth 20 = .ok (.invokevirtual 154, 3) := by decide +kernel
theorem dX4_worth_23 : decode cX4_worth 23 = .ok (.istore 5, 2) := by decide +kernel
theorem dX4_worth_25 : decode cX4_worth 25 = .ok (.iload_n 3, 1) := by decide +kernel
theorem dX4_worth_26 : decode cX4_worth 26 = .ok (.iload 5, 2) := by decide +kernel
theorem dX4_worth_28 : decode cX4_worth 28 = .ok (.invokestatic 104, 3) := by decide +kernel
theorem dX4_worth_31 : decode cX4_worth 31 = .ok (.ifCond .eq 13, 3) := by decide +kernel
theorem dX4_worth_34 : decode cX4_worth 34 = .ok (.aload_n 0, 1) := by decide +kernel
theorem dX4_worth_35 : decode cX4_worth 35 = .ok (.getfield 37, 3) := by decide +kernel
theorem dX4_worth_38 : decode cX4_worth 38 = .ok (.iload 5, 2) := by decide +kernel
theorem dX4_worth_40 : decode cX4_worth 40 = .ok (.iaload, 1) := by decide +kernel
theorem dX4_worth_41 : decode cX4_worth 41 = .ok (.goto 4, 3) := by decide +kernel
theorem dX4_worth_44 : decode cX4_worth 44 = .ok (.iconst 0, 1) := by decide +kernel
theorem dX4_worth_45 : decode cX4_worth 45 = .ok (.iadd, 1) := by decide +kernel
theorem dX4_worth_46 : decode cX4_worth 46 = .ok (.istore_n 3, 1) := by decide +kernel
theorem dX4_worth_47 : decode cX4_worth 47 = .ok (.iinc 4 1, 3) := by decide +kernel
theorem dX4_worth_50 : decode cX4_worth 50 = .ok (.goto (-39), 3) := by decide +kernel
theorem dX4_worth_53 : decode cX4_worth 53 = .ok (.iload_n 3, 1) := by decide +kernel
theorem dX4_worth_54 : decode cX4_worth 54 = .ok (.ireturn, 1) := by decide +kernel
set_option maxRecDepth 20000 in
theorem ggX4_firstStepOf_X4_steps : GoodIn wsX4_firstStepOf wsX4_steps := goodIn_r _ [5, 6, 7, 8, 9, 10, 11, 12, 13, 14, 15, 16, 17, 18, 19, 20, 21, 22, 23, 24, 25, 26, 27, 28, 29, 30, 31, 32, 33, 34, 35, 36, 37, 38, 39, 40, 93, 94, 95, 96, 97, 98, 99, 100, 101, 102, 103, 104, 105, 106, 107, 108] (by decide +kernel) (by decide +kernel)
set_option maxRecDepth 20000 in
theorem gX4_firstStepOf_X4_steps : GoodIn wsX4_firstStepOf (wsV RX4 125 RX4 yX4_steps wsX4_steps) := goodIn_app (goodIn_of _ (by decide +kernel)) ggX4_firstStepOf_X4_steps
set_option maxRecDepth 20000 in
theorem ggX4_firstStepOf_X4_layerShown : GoodIn wsX4_firstStepOf wsX4_layerShown := goodIn_r _ [44, 6, 7, 8, 9, 10, 11, 12, 13, 14, 45, 46, 47, 48, 49, 50, 51, 52, 53, 54, 19, 55, 56, 57, 24, 58, 59, 60, 61, 62, 63, 28, 64, 65, 31, 66, 67, 68, 69, 36, 70, 71, 39, 72, 73, 74, 75, 76, 77, 78, 79, 80, 4, 81, 93, 94, 95, 96, 97, 98, 99, 100, 101, 102, 103, 104, 105, 106, 107, 108] (by decide +kernel) (by decide +kernel)
set_option maxRecDepth 20000 in
theorem gX4_firstStepOf_X4_layerShown : GoodIn wsX4_firstStepOf (wsV RX4 148 RX4 yX4_layerShown wsX4_layerShown) := goodIn_app (goodIn_of _ (by decide +kernel)) ggX4_firstStepOf_X4_layerShown
set_option maxRecDepth 20000 in
theorem ggX4_firstStepOf_X4_weatherIn : GoodIn wsX4_firstStepOf wsX4_weatherIn := goodIn_r _ [85, 86, 87, 88, 89, 90, 91, 92, 93, 94, 95, 96, 97, 98, 99, 100, 101, 102, 103, 104, 105] (by decide +kernel) (by decide +kernel)
set_option maxRecDepth 20000 in
theorem gX4_firstStepOf_X4_weatherIn : GoodIn wsX4_firstStepOf (wsV RX4 145 RX4 yX4_weatherIn wsX4_weatherIn) := goodIn_app (goodIn_of _ (by decide +kernel)) ggX4_firstStepOf_X4_weatherIn
theorem dX4_firstStepOf_0 : decode cX4_firstStepOf 0 = .ok (.aload_n 0, 1) := by decide +kernel
theorem dX4_firstStepOf_1 : decode cX4_firstStepOf 1 = .ok (.iload_n 1, 1) := by decide +kernel
theorem dX4_firstStepOf_2 : decode cX4_firstStepOf 2 = .ok (.invokevirtual 125, 3) := by decide +kernel
theorem dX4_firstStepOf_5 : decode cX4_firstStepOf 5 = .ok (.istore_n 3, 1) := by decide +kernel
theorem dX4_firstStepOf_6 : decode cX4_firstStepOf 6 = .ok (.iconst 0, 1) := by decide +kernel
theorem dX4_firstStepOf_7 : decode cX4_firstStepOf 7 = .ok (.istore 4, 2) := by decide +kernel
theorem dX4_firstStepOf_9 : decode cX4_firstStepOf 9 = .ok (.iload 4, 2) := by decide +kernel
theorem dX4_firstStepOf_11 : decode cX4_firstStepOf 11 = .ok (.iload_n 3, 1) := by decide +kernel
theorem dX4_firstStepOf_12 : decode cX4_firstStepOf 12 = .ok (.if_icmp .ge 27, 3) := by decide +kernel
theorem dX4_firstStepOf_15 : decode cX4_firstStepOf 15 = .ok (.aload_n 0, 1) := by decide +kernel
theorem dX4_firstStepOf_16 : decode cX4_firstStepOf 16 = .ok (.aload_n 0, 1) := by decide +kernel
theorem dX4_firstStepOf_17 : decode cX4_firstStepOf 17 = .ok (.iload_n 1, 1) := by decide +kernel
theorem dX4_firstStepOf_18 : decode cX4_firstStepOf 18 = .ok (.iload 4, 2) := by decide +kernel
theorem dX4_firstStepOf_20 : decode cX4_firstStepOf 20 = .ok (.invokevirtual 148, 3) := by decide +kernel
theorem dX4_firstStepOf_23 : decode cX4_firstStepOf 23 = .ok (.invokevirtual 145, 3) := by decide +kernel
theorem dX4_firstStepOf_26 : decode cX4_firstStepOf 26 = .ok (.iload_n 2, 1) := by decide +kernel
theorem dX4_firstStepOf_27 : decode cX4_firstStepOf 27 = .ok (.if_icmp .ne 6, 3) := by decide +kernel
theorem dX4_firstStepOf_30 : decode cX4_firstStepOf 30 = .ok (.iload 4, 2) := by decide +kernel
theorem dX4_firstStepOf_32 : decode cX4_firstStepOf 32 = .ok (.ireturn, 1) := by decide +kernel
theorem dX4_firstStepOf_33 : decode cX4_firstStepOf 33 = .ok (.iinc 4 1, 3) := by decide +kernel
theorem dX4_firstStepOf_36 : decode cX4_firstStepOf 36 = .ok (.goto (-27), 3) := by decide +kernel
theorem dX4_firstStepOf_39 : decode cX4_firstStepOf 39 = .ok (.iconst (-1), 1) := by decide +kernel
theorem dX4_firstStepOf_40 : decode cX4_firstStepOf 40 = .ok (.ireturn, 1) := by decide +kernel
set_option maxRecDepth 20000 in
theorem ggX4_firstClash_X4_steps : GoodIn wsX4_firstClash wsX4_steps := goodIn_r _ [5, 6, 7, 8, 9, 10, 11, 12, 13, 14, 15, 16, 17, 18, 19, 20, 21, 22, 23, 24, 25, 26, 27, 28, 29, 30, 31, 32, 33, 34, 35, 36, 37, 38, 39, 40, 93, 94, 95, 96, 97, 98, 99, 100, 101, 102, 103, 104, 105, 106, 107, 108] (by decide +kernel) (by decide +kernel)
set_option maxRecDepth 20000 in
theorem gX4_firstClash_X4_steps : GoodIn wsX4_firstClash (wsV RX4 125 RX4 yX4_steps wsX4_steps) := goodIn_app (goodIn_of _ (by decide +kernel)) ggX4_firstClash_X4_steps
set_option maxRecDepth 20000 in
theorem ggX4_firstClash_X4_layerShown : GoodIn wsX4_firstClash wsX4_layerShown := goodIn_r _ [44, 6, 7, 8, 9, 10, 11, 12, 13, 14, 45, 46, 47, 48, 49, 50, 51, 52, 53, 54, 19, 55, 56, 57, 24, 58, 59, 60, 61, 62, 63, 28, 64, 65, 31, 66, 67, 68, 69, 36, 70, 71, 39, 72, 73, 74, 75, 76, 77, 78, 79, 80, 4, 81, 93, 94, 95, 96, 97, 98, 99, 100, 101, 102, 103, 104, 105, 106, 107, 108] (by decide +kernel) (by decide +kernel)
set_option maxRecDepth 20000 in
theorem gX4_firstClash_X4_layerShown : GoodIn wsX4_firstClash (wsV RX4 148 RX4 yX4_layerShown wsX4_layerShown) := goodIn_app (goodIn_of _ (by decide +kernel)) ggX4_firstClash_X4_layerShown
set_option maxRecDepth 20000 in
theorem ggX4_firstClash_X4_weatherIn : GoodIn wsX4_firstClash wsX4_weatherIn := goodIn_r _ [85, 86, 87, 88, 89, 90, 91, 92, 93, 94, 95, 96, 97, 98, 99, 100, 101, 102, 103, 104, 105] (by decide +kernel) (by decide +kernel)
set_option maxRecDepth 20000 in
theorem gX4_firstClash_X4_weatherIn : GoodIn wsX4_firstClash (wsV RX4 145 RX4 yX4_weatherIn wsX4_weatherIn) := goodIn_app (goodIn_of _ (by decide +kernel)) ggX4_firstClash_X4_weatherIn
theorem dX4_firstClash_0 : decode cX4_firstClash 0 = .ok (.aload_n 0, 1) := by decide +kernel
theorem dX4_firstClash_1 : decode cX4_firstClash 1 = .ok (.iload_n 1, 1) := by decide +kernel
theorem dX4_firstClash_2 : decode cX4_firstClash 2 = .ok (.invokevirtual 125, 3) := by decide +kernel
theorem dX4_firstClash_5 : decode cX4_firstClash 5 = .ok (.istore 4, 2) := by decide +kernel
theorem dX4_firstClash_7 : decode cX4_firstClash 7 = .ok (.iload_n 3, 1) := by decide +kernel
theorem dX4_firstClash_8 : decode cX4_firstClash 8 = .ok (.istore 5, 2) := by decide +kernel
theorem dX4_firstClash_10 : decode cX4_firstClash 10 = .ok (.iload 5, 2) := by decide +kernel
theorem dX4_firstClash_12 : decode cX4_firstClash 12 = .ok (.iload 4, 2) := by decide +kernel
theorem dX4_firstClash_14 : decode cX4_firstClash 14 = .ok (.if_icmp .ge 59, 3) := by decide +kernel
theorem dX4_firstClash_17 : decode cX4_firstClash 17 = .ok (.aload_n 0, 1) := by decide +kernel
theorem dX4_firstClash_18 : decode cX4_firstClash 18 = .ok (.aload_n 0, 1) := by decide +kernel
theorem dX4_firstClash_19 : decode cX4_firstClash 19 = .ok (.iload_n 1, 1) := by decide +kernel
theorem dX4_firstClash_20 : decode cX4_firstClash 20 = .ok (.iload 5, 2) := by decide +kernel
theorem dX4_firstClash_22 : decode cX4_firstClash 22 = .ok (.invokevirtual 148, 3) := by decide +kernel
theorem dX4_firstClash_25 : decode cX4_firstClash 25 = .ok (.invokevirtual 145, 3) := by decide +kernel
theorem dX4_firstClash_28 : decode cX4_firstClash 28 = .ok (.istore 6, 2) := by decide +kernel
theorem dX4_firstClash_30 : decode cX4_firstClash 30 = .ok (.aload_n 0, 1) := by decide +kernel
theorem dX4_firstClash_31 : decode cX4_firstClash 31 = .ok (.aload_n 0, 1) := by decide +kernel
theorem dX4_firstClash_32 : decode cX4_firstClash 32 = .ok (.iload_n 2, 1) := by decide +kernel
theorem dX4_firstClash_33 : decode cX4_firstClash 33 = .ok (.iload 5, 2) := by decide +kernel
theorem dX4_firstClash_35 : decode cX4_firstClash 35 = .ok (.iload_n 3, 1) := by decide +kernel
theorem dX4_firstClash_36 : decode cX4_firstClash 36 = .ok (.isub, 1) := by decide +kernel
theorem dX4_firstClash_37 : decode cX4_firstClash 37 = .ok (.invokevirtual 148, 3) := by decide +kernel
theorem dX4_firstClash_40 : decode cX4_firstClash 40 = .ok (.invokevirtual 145, 3) := by decide +kernel
theorem dX4_firstClash_43 : decode cX4_firstClash 43 = .ok (.istore 7, 2) := by decide +kernel
theorem dX4_firstClash_45 : decode cX4_firstClash 45 = .ok (.iload 6, 2) := by decide +kernel
theorem dX4_firstClash_47 : decode cX4_firstClash 47 = .ok (.iconst (-1), 1) := by decide +kernel
theorem dX4_firstClash_48 : decode cX4_firstClash 48 = .ok (.if_icmp .eq 19, 3) := by decide +kernel
theorem dX4_firstClash_51 : decode cX4_firstClash 51 = .ok (.iload 7, 2) := by decide +kernel
theorem dX4_firstClash_53 : decode cX4_firstClash 53 = .ok (.iconst (-1), 1) := by decide +kernel
theorem dX4_firstClash_54 : decode cX4_firstClash 54 = .ok (.if_icmp .eq 13, 3) := by decide +kernel
theorem dX4_firstClash_57 : decode cX4_firstClash 57 = .ok (.iload 6, 2) := by decide +kernel
theorem dX4_firstClash_59 : decode cX4_firstClash 59 = .ok (.iload 7, 2) := by decide +kernel
theorem dX4_firstClash_61 : decode cX4_firstClash 61 = .ok (.if_icmp .eq 6, 3) := by decide +kernel
theorem dX4_firstClash_64 : decode cX4_firstClash 64 = .ok (.iload 5, 2) := by decide +kernel
theorem dX4_firstClash_66 : decode cX4_firstClash 66 = .ok (.ireturn, 1) := by decide +kernel
theorem dX4_firstClash_67 : decode cX4_firstClash 67 = .ok (.iinc 5 1, 3) := by decide +kernel
theorem dX4_firstClash_70 : decode cX4_firstClash 70 = .ok (.goto (-60), 3) := by decide +kernel
theorem dX4_firstClash_73 : decode cX4_firstClash 73 = .ok (.iconst (-1), 1) := by decide +kernel
theorem dX4_firstClash_74 : decode cX4_firstClash 74 = .ok (.ireturn, 1) := by decide +kernel
set_option maxRecDepth 20000 in
theorem ggX4_addSight_X9_add : GoodIn wsX4_addSight wsX9_add := goodIn_r _ [7, 8, 9, 10, 11, 12, 6, 13, 14, 28, 29, 30] (by decide +kernel) (by decide +kernel)
set_option maxRecDepth 20000 in
theorem gX4_addSight_X9_add : GoodIn wsX4_addSight (wsV RX4 118 RX9 yX9_add wsX9_add) := goodIn_app (goodIn_of _ (by decide +kernel)) ggX4_addSight_X9_add
theorem dX4_addSight_0 : decode cX4_addSight 0 = .ok (.aload_n 0, 1) := by decide +kernel
theorem dX4_addSight_1 : decode cX4_addSight 1 = .ok (.getfield 55, 3) := by decide +kernel
theorem dX4_addSight_4 : decode cX4_addSight 4 = .ok (.iload_n 2, 1) := by decide +kernel
theorem dX4_addSight_5 : decode cX4_addSight 5 = .ok (.iload_n 3, 1) := by decide +kernel
theorem dX4_addSight_6 : decode cX4_addSight 6 = .ok (.iconst 0, 1) := by decide +kernel
theorem dX4_addSight_7 : decode cX4_addSight 7 = .ok (.invokevirtual 118, 3) := by decide +kernel
theorem dX4_addSight_10 : decode cX4_addSight 10 = .ok (.istore 4, 2) := by decide +kernel
theorem dX4_addSight_12 : decode cX4_addSight 12 = .ok (.iload 4, 2) := by decide +kernel
theorem dX4_addSight_14 : decode cX4_addSight 14 = .ok (.bipush (-4), 2) := by decide +kernel
theorem dX4_addSight_16 : decode cX4_addSight 16 = .ok (.if_icmp .eq 8, 3) := by decide +kernel
theorem dX4_addSight_19 : decode cX4_addSight 19 = .ok (.aload_n 0, 1) := by decide +kernel
theorem dX4_addSight_20 : decode cX4_addSight 20 = .ok (.iload_n 1, 1) := by decide +kernel
theorem dX4_addSight_21 : decode cX4_addSight 21 = .ok (.putfield 70, 3) := by decide +kernel
theorem dX4_addSight_24 : decode cX4_addSight 24 = .ok (.iload 4, 2) := by decide +kernel
theorem dX4_addSight_26 : decode cX4_addSight 26 = .ok (.ireturn, 1) := by decide +kernel
set_option maxRecDepth 20000 in
theorem ggX4_dropClues_X9_empty : GoodIn wsX4_dropClues wsX9_empty := goodIn_r _ [8, 9, 23, 24, 25] (by decide +kernel) (by decide +kernel)
set_option maxRecDepth 20000 in
theorem gX4_dropClues_X9_empty : GoodIn wsX4_dropClues (wsV RX4 74 RX9 yX9_empty wsX9_empty) := goodIn_app (goodIn_of _ (by decide +kernel)) ggX4_dropClues_X9_empty
theorem dX4_dropClues_0 : decode cX4_dropClues 0 = .ok (.aload_n 0, 1) := by decide +kernel
theorem dX4_dropClues_1 : decode cX4_dropClues 1 = .ok (.iconst 1, 1) := by decide +kernel
theorem dX4_dropClues_2 : decode cX4_dropClues 2 = .ok (.putfield 70, 3) := by decide +kernel
theorem dX4_dropClues_5 : decode cX4_dropClues 5 = .ok (.aload_n 0, 1) := by decide +kernel
theorem dX4_dropClues_6 : decode cX4_dropClues 6 = .ok (.getfield 55, 3) := by decide +kernel
theorem dX4_dropClues_9 : decode cX4_dropClues 9 = .ok (.invokevirtual 74, 3) := by decide +kernel
theorem dX4_dropClues_12 : decode cX4_dropClues 12 = .ok (.aload_n 0, 1) := by decide +kernel
theorem dX4_dropClues_13 : decode cX4_dropClues 13 = .ok (.getfield 58, 3) := by decide +kernel
theorem dX4_dropClues_16 : decode cX4_dropClues 16 = .ok (.invokevirtual 74, 3) := by decide +kernel
theorem dX4_dropClues_19 : decode cX4_dropClues 19 = .ok (.iadd, 1) := by decide +kernel
theorem dX4_dropClues_20 : decode cX4_dropClues 20 = .ok (.ireturn, 1) := by decide +kernel
set_option maxRecDepth 20000 in
theorem ggX4_mixedInto_X11_mixed : GoodIn wsX4_mixedInto wsX11_mixed := goodIn_r _ [10, 11] (by decide +kernel) (by decide +kernel)
set_option maxRecDepth 20000 in
theorem gX4_mixedInto_X11_mixed_n157 : GoodIn wsX4_mixedInto (wsX11_mixed) := ggX4_mixedInto_X11_mixed
set_option maxRecDepth 20000 in
theorem ggX4_mixedInto_X9_mixedRows : GoodIn wsX4_mixedInto wsX9_mixedRows := goodIn_r _ [16, 17, 18, 19, 20, 15, 21, 22, 8, 9, 10, 11, 36, 37, 38] (by decide +kernel) (by decide +kernel)
set_option maxRecDepth 20000 in
theorem gX4_mixedInto_X9_mixedRows : GoodIn wsX4_mixedInto (wsV RX4 161 RX9 yX9_mixedRows wsX9_mixedRows) := goodIn_app (goodIn_of _ (by decide +kernel)) ggX4_mixedInto_X9_mixedRows
theorem dX4_mixedInto_0 : decode cX4_mixedInto 0 = .ok (.lload_n 1, 1) := by decide +kernel
theorem dX4_mixedInto_1 : decode cX4_mixedInto 1 = .ok (.lstore_n 3, 1) := by decide +kernel
theorem dX4_mixedInto_2 : decode cX4_mixedInto 2 = .ok (.iconst 0, 1) := by decide +kernel
theorem dX4_mixedInto_3 : decode cX4_mixedInto 3 = .ok (.istore 5, 2) := by decide +kernel
theorem dX4_mixedInto_5 : decode cX4_mixedInto 5 = .ok (.iload 5, 2) := by decide +kernel
theorem dX4_mixedInto_7 : decode cX4_mixedInto 7 = .ok (.bipush 12, 2) := by decide +kernel
theorem dX4_mixedInto_9 : decode cX4_mixedInto 9 = .ok (.if_icmp .ge 22, 3) := by decide +kernel
theorem dX4_mixedInto_12 : decode cX4_mixedInto 12 = .ok (.lload_n 3, 1) := by decide +kernel
theorem dX4_mixedInto_13 : decode cX4_mixedInto 13 = .ok (.aload_n 0, 1) := by decide +kernel
theorem dX4_mixedInto_14 : decode cX4_mixedInto 14 = .ok (.getfield 33, 3) := by decide +kernel
theorem dX4_mixedInto_17 : decode cX4_mixedInto 17 = .ok (.iload 5, 2) := by decide +kernel
theorem dX4_mixedInto_19 : decode cX4_mixedInto 19 = .ok (.iaload, 1) := by decide +kernel
theorem dX4_mixedInto_20 : decode cX4_mixedInto 20 = .ok (.i2l, 1) := by decide +kernel
theorem dX4_mixedInto_21 : decode cX4_mixedInto 21 = .ok (.invokestatic 157, 3) := by decide +kernel
theorem dX4_mixedInto_24 : decode cX4_mixedInto 24 = .ok (.lstore_n 3, 1) := by decide +kernel
theorem dX4_mixedInto_25 : decode cX4_mixedInto 25 = .ok (.iinc 5 1, 3) := by decide +kernel
theorem dX4_mixedInto_28 : decode cX4_mixedInto 28 = .ok (.goto (-23), 3) := by decide +kernel
theorem dX4_mixedInto_31 : decode cX4_mixedInto 31 = .ok (.iconst 0, 1) := by decide +kernel
theorem dX4_mixedInto_32 : decode cX4_mixedInto 32 = .ok (.istore 5, 2) := by decide +kernel
theorem dX4_mixedInto_34 : decode cX4_mixedInto 34 = .ok (.iload 5, 2) := by decide +kernel
theorem dX4_mixedInto_36 : decode cX4_mixedInto 36 = .ok (.bipush 6, 2) := by decide +kernel
theorem dX4_mixedInto_38 : decode cX4_mixedInto 38 = .ok (.if_icmp .ge 22, 3) := by decide +kernel
theorem dX4_mixedInto_41 : decode cX4_mixedInto 41 = .ok (.lload_n 3, 1) := by decide +kernel
theorem dX4_mixedInto_42 : decode cX4_mixedInto 42 = .ok (.aload_n 0, 1) := by decide +kernel
theorem dX4_mixedInto_43 : decode cX4_mixedInto 43 = .ok (.getfield 37, 3) := by decide +kernel
theorem dX4_mixedInto_46 : decode cX4_mixedInto 46 = .ok (.iload 5, 2) := by decide +kernel
theorem dX4_mixedInto_48 : decode cX4_mixedInto 48 = .ok (.iaload, 1) := by decide +kernel
theorem dX4_mixedInto_49 : decode cX4_mixedInto 49 = .ok (.i2l, 1) := by decide +kernel
theorem dX4_mixedInto_50 : decode cX4_mixedInto 50 = .ok (.invokestatic 157, 3) := by decide +kernel
theorem dX4_mixedInto_53 : decode cX4_mixedInto 53 = .ok (.lstore_n 3, 1) := by decide +kernel
theorem dX4_mixedInto_54 : decode cX4_mixedInto 54 = .ok (.iinc 5 1, 3) := by decide +kernel
theorem dX4_mixedInto_57 : decode cX4_mixedInto 57 = .ok (.goto (-23), 3) := by decide +kernel
theorem dX4_mixedInto_60 : decode cX4_mixedInto 60 = .ok (.aload_n 0, 1) := by decide +kernel
theorem dX4_mixedInto_61 : decode cX4_mixedInto 61 = .ok (.getfield 45, 3) := by decide +kernel
theorem dX4_mixedInto_64 : decode cX4_mixedInto 64 = .ok (.lload_n 3, 1) := by decide +kernel
theorem dX4_mixedInto_65 : decode cX4_mixedInto 65 = .ok (.iconst 3, 1) := by decide +kernel
theorem dX4_mixedInto_66 : decode cX4_mixedInto 66 = .ok (.invokevirtual 161, 3) := by decide +kernel
theorem dX4_mixedInto_69 : decode cX4_mixedInto 69 = .ok (.lstore_n 3, 1) := by decide +kernel
theorem dX4_mixedInto_70 : decode cX4_mixedInto 70 = .ok (.aload_n 0, 1) := by decide +kernel
theorem dX4_mixedInto_71 : decode cX4_mixedInto 71 = .ok (.getfield 52, 3) := by decide +kernel
theorem dX4_mixedInto_74 : decode cX4_mixedInto 74 = .ok (.lload_n 3, 1) := by decide +kernel
theorem dX4_mixedInto_75 : decode cX4_mixedInto 75 = .ok (.iconst 1, 1) := by decide +kernel
theorem dX4_mixedInto_76 : decode cX4_mixedInto 76 = .ok (.invokevirtual 161, 3) := by decide +kernel
theorem dX4_mixedInto_79 : decode cX4_mixedInto 79 = .ok (.lstore_n 3, 1) := by decide +kernel
theorem dX4_mixedInto_80 : decode cX4_mixedInto 80 = .ok (.lload_n 3, 1) := by decide +kernel
theorem dX4_mixedInto_81 : decode cX4_mixedInto 81 = .ok (.aload_n 0, 1) := by decide +kernel
theorem dX4_mixedInto_82 : decode cX4_mixedInto 82 = .ok (.getfield 70, 3) := by decide +kernel
theorem dX4_mixedInto_85 : decode cX4_mixedInto 85 = .ok (.i2l, 1) := by decide +kernel
theorem dX4_mixedInto_86 : decode cX4_mixedInto 86 = .ok (.invokestatic 157, 3) := by decide +kernel
theorem dX4_mixedInto_89 : decode cX4_mixedInto 89 = .ok (.lstore_n 3, 1) := by decide +kernel
theorem dX4_mixedInto_90 : decode cX4_mixedInto 90 = .ok (.aload_n 0, 1) := by decide +kernel
theorem dX4_mixedInto_91 : decode cX4_mixedInto 91 = .ok (.getfield 55, 3) := by decide +kernel
theorem dX4_mixedInto_94 : decode cX4_mixedInto 94 = .ok (.lload_n 3, 1) := by decide +kernel
theorem dX4_mixedInto_95 : decode cX4_mixedInto 95 = .ok (.iconst 2, 1) := by decide +kernel
theorem dX4_mixedInto_96 : decode cX4_mixedInto 96 = .ok (.invokevirtual 161, 3) := by decide +kernel
theorem dX4_mixedInto_99 : decode cX4_mixedInto 99 = .ok (.lstore_n 3, 1) := by decide +kernel
theorem dX4_mixedInto_100 : decode cX4_mixedInto 100 = .ok (.aload_n 0, 1) := by decide +kernel
theorem dX4_mixedInto_101 : decode cX4_mixedInto 101 = .ok (.getfield 58, 3) := by decide +kernel
theorem dX4_mixedInto_104 : decode cX4_mixedInto 104 = .ok (.lload_n 3, 1) := by decide +kernel
theorem dX4_mixedInto_105 : decode cX4_mixedInto 105 = .ok (.iconst 3, 1) := by decide +kernel
theorem dX4_mixedInto_106 : decode cX4_mixedInto 106 = .ok (.invokevirtual 161, 3) := by decide +kernel
theorem dX4_mixedInto_109 : decode cX4_mixedInto 109 = .ok (.lreturn, 1) := by decide +kernel
theorem dX5_init_0 : decode cX5_init 0 = .ok (.aload_n 0, 1) := by decide +kernel
theorem dX5_init_1 : decode cX5_init 1 = .ok (.invokespecial 3, 3) := by decide +kernel
theorem dX5_init_4 : decode cX5_init 4 = .ok (.return_, 1) := by decide +kernel
theorem dX5_burnsFor_0 : decode cX5_burnsFor 0 = .ok (.iload_n 1, 1) := by decide +kernel
theorem dX5_burnsFor_1 : decode cX5_burnsFor 1 = .ok (.ireturn, 1) := by decide +kernel
theorem dX5_own_0 : decode cX5_own 0 = .ok (.iload_n 2, 1) := by decide +kernel
theorem dX5_own_1 : decode cX5_own 1 = .ok (.ifCond .lt 12, 3) := by decide +kernel
theorem dX5_own_4 : decode cX5_own 4 = .ok (.iload_n 2, 1) := by decide +kernel
theorem dX5_own_5 : decode cX5_own 5 = .ok (.iload_n 1, 1) := by decide +kernel
theorem dX5_own_6 : decode cX5_own 6 = .ok (.if_icmp .ge 7, 3) := by decide +kernel
theorem dX5_own_9 : decode cX5_own 9 = .ok (.iload_n 2, 1) := by decide +kernel
theorem dX5_own_10 : decode cX5_own 10 = .ok (.goto 4, 3) := by decide +kernel
theorem dX5_own_13 : decode cX5_own 13 = .ok (.iconst (-1), 1) := by decide +kernel
theorem dX5_own_14 : decode cX5_own 14 = .ok (.ireturn, 1) := by decide +kernel
theorem dX6_init_0 : decode cX6_init 0 = .ok (.aload_n 0, 1) := by decide +kernel
theorem dX6_init_1 : decode cX6_init 1 = .ok (.invokespecial 3, 3) := by decide +kernel
theorem dX6_init_4 : decode cX6_init 4 = .ok (.aload_n 0, 1) := by decide +kernel
theorem dX6_init_5 : decode cX6_init 5 = .ok (.bipush 8, 2) := by decide +kernel
theorem dX6_init_7 : decode cX6_init 7 = .ok (.newarray .int, 2) := by decide +kernel
theorem dX6_init_9 : decode cX6_init 9 = .ok (.putfield 9, 3) := by decide +kernel
theorem dX6_init_12 : decode cX6_init 12 = .ok (.aload_n 0, 1) := by decide +kernel
theorem dX6_init_13 : decode cX6_init 13 = .ok (.bipush 8, 2) := by decide +kernel
theorem dX6_init_15 : decode cX6_init 15 = .ok (.newarray .int, 2) := by decide +kernel
theorem dX6_init_17 : decode cX6_init 17 = .ok (.putfield 15, 3) := by decide +kernel
theorem dX6_init_20 : decode cX6_init 20 = .ok (.aload_n 0, 1) := by decide +kernel
theorem dX6_init_21 : decode cX6_init 21 = .ok (.sipush 256, 3) := by decide +kernel
theorem dX6_init_24 : decode cX6_init 24 = .ok (.newarray .int, 2) := by decide +kernel
theorem dX6_init_26 : decode cX6_init 26 = .ok (.putfield 18, 3) := by decide +kernel
theorem dX6_init_29 : decode cX6_init 29 = .ok (.aload_n 0, 1) := by decide +kernel
theorem dX6_init_30 : decode cX6_init 30 = .ok (.sipush 256, 3) := by decide +kernel
theorem dX6_init_33 : decode cX6_init 33 = .ok (.newarray .int, 2) := by decide +kernel
theorem dX6_init_35 : decode cX6_init 35 = .ok (.putfield 21, 3) := by decide +kernel
theorem dX6_init_38 : decode cX6_init 38 = .ok (.aload_n 0, 1) := by decide +kernel
theorem dX6_init_39 : decode cX6_init 39 = .ok (.sipush 256, 3) := by decide +kernel
theorem dX6_init_42 : decode cX6_init 42 = .ok (.newarray .int, 2) := by decide +kernel
theorem dX6_init_44 : decode cX6_init 44 = .ok (.putfield 24, 3) := by decide +kernel
theorem dX6_init_47 : decode cX6_init 47 = .ok (.aload_n 0, 1) := by decide +kernel
theorem dX6_init_48 : decode cX6_init 48 = .ok (.bipush 8, 2) := by decide +kernel
theorem dX6_init_50 : decode cX6_init 50 = .ok (.newarray .int, 2) := by decide +kernel
theorem dX6_init_52 : decode cX6_init 52 = .ok (.putfield 27, 3) := by decide +kernel
theorem dX6_init_55 : decode cX6_init 55 = .ok (.aload_n 0, 1) := by decide +kernel
theorem dX6_init_56 : decode cX6_init 56 = .ok (.bipush 8, 2) := by decide +kernel
theorem dX6_init_58 : decode cX6_init 58 = .ok (.newarray .int, 2) := by decide +kernel
theorem dX6_init_60 : decode cX6_init 60 = .ok (.putfield 30, 3) := by decide +kernel
theorem dX6_init_63 : decode cX6_init 63 = .ok (.aload_n 0, 1) := by decide +kernel
theorem dX6_init_64 : decode cX6_init 64 = .ok (.bipush 13, 2) := by decide +kernel
theorem dX6_init_66 : decode cX6_init 66 = .ok (.newarray .int, 2) := by decide +kernel
theorem dX6_init_68 : decode cX6_init 68 = .ok (.putfield 33, 3) := by decide +kernel
theorem dX6_init_71 : decode cX6_init 71 = .ok (.aload_n 0, 1) := by decide +kernel
theorem dX6_init_72 : decode cX6_init 72 = .ok (.bipush 13, 2) := by decide +kernel
theorem dX6_init_74 : decode cX6_init 74 = .ok (.newarray .int, 2) := by decide +kernel
theorem dX6_init_76 : decode cX6_init 76 = .ok (.putfield 36, 3) := by decide +kernel
theorem dX6_init_79 : decode cX6_init 79 = .ok (.aload_n 0, 1) := by decide +kernel
theorem dX6_init_80 : decode cX6_init 80 = .ok (.bipush 13, 2) := by decide +kernel
theorem dX6_init_82 : decode cX6_init 82 = .ok (.newarray .int, 2) := by decide +kernel
theorem dX6_init_84 : decode cX6_init 84 = .ok (.putfield 39, 3) := by decide +kernel
theorem dX6_init_87 : decode cX6_init 87 = .ok (.return_, 1) := by decide +kernel
theorem dX6_rowsOf_0 : decode cX6_rowsOf 0 = .ok (.iconst 0, 1) := by decide +kernel
theorem dX6_rowsOf_1 : decode cX6_rowsOf 1 = .ok (.istore_n 2, 1) := by decide +kernel
theorem dX6_rowsOf_2 : decode cX6_rowsOf 2 = .ok (.iconst 0, 1) := by decide +kernel
theorem dX6_rowsOf_3 : decode cX6_rowsOf 3 = .ok (.istore_n 3, 1) := by decide +kernel
theorem dX6_rowsOf_4 : decode cX6_rowsOf 4 = .ok (.iload_n 3, 1) := by decide +kernel
theorem dX6_rowsOf_5 : decode cX6_rowsOf 5 = .ok (.sipush 256, 3) := by decide +kernel
theorem dX6_rowsOf_8 : decode cX6_rowsOf 8 = .ok (.if_icmp .ge 37, 3) := by decide +kernel
theorem dX6_rowsOf_11 : decode cX6_rowsOf 11 = .ok (.aload_n 0, 1) := by decide +kernel
theorem dX6_rowsOf_12 : decode cX6_rowsOf 12 = .ok (.getfield 18, 3) := by decide +kernel
theorem dX6_rowsOf_15 : decode cX6_rowsOf 15 = .ok (.iload_n 3, 1) := by decide +kernel
theorem dX6_rowsOf_16 : decode cX6_rowsOf 16 = .ok (.iaload, 1) := by decide +kernel
theorem dX6_rowsOf_17 : decode cX6_rowsOf 17 = .ok (.ifCond .le 22, 3) := by decide +kernel
theorem dX6_rowsOf_20 : decode cX6_rowsOf 20 = .ok (.aload_n 0, 1) := by decide +kernel
theorem dX6_rowsOf_21 : decode cX6_rowsOf 21 = .ok (.getfield 21, 3) := by decide +kernel
theorem dX6_rowsOf_24 : decode cX6_rowsOf 24 = .ok (.iload_n 3, 1) := by decide +kernel
theorem dX6_rowsOf_25 : decode cX6_rowsOf 25 = .ok (.iaload, 1) := by decide +kernel
theorem dX6_rowsOf_26 : decode cX6_rowsOf 26 = .ok (.iload_n 1, 1) := by decide +kernel
theorem dX6_rowsOf_27 : decode cX6_rowsOf 27 = .ok (.if_icmp .ne 12, 3) := by decide +kernel
theorem dX6_rowsOf_30 : decode cX6_rowsOf 30 = .ok (.iload_n 2, 1) := by decide +kernel
theorem dX6_rowsOf_31 : decode cX6_rowsOf 31 = .ok (.aload_n 0, 1) := by decide +kernel
theorem dX6_rowsOf_32 : decode cX6_rowsOf 32 = .ok (.getfield 18, 3) := by decide +kernel
theorem dX6_rowsOf_35 : decode cX6_rowsOf 35 = .ok (.iload_n 3, 1) := by decide +kernel
theorem dX6_rowsOf_36 : decode cX6_rowsOf 36 = .ok (.iaload, 1) := by decide +kernel
theorem dX6_rowsOf_37 : decode cX6_rowsOf 37 = .ok (.iadd, 1) := by decide +kernel
theorem dX6_rowsOf_38 : decode cX6_rowsOf 38 = .ok (.istore_n 2, 1) := by decide +kernel
theorem dX6_rowsOf_39 : decode cX6_rowsOf 39 = .ok (.iinc 3 1, 3) := by decide +kernel
theorem dX6_rowsOf_42 : decode cX6_rowsOf 42 = .ok (.goto (-38), 3) := by decide +kernel
theorem dX6_rowsOf_45 : decode cX6_rowsOf 45 = .ok (.iload_n 2, 1) := by decide +kernel
theorem dX6_rowsOf_46 : decode cX6_rowsOf 46 = .ok (.ireturn, 1) := by decide +kernel
set_option maxRecDepth 20000 in
theorem ggX6_ofFewest_X6_findLacking : GoodIn wsX6_ofFewest wsX6_findLacking := goodIn_r _ [6, 1, 7, 8, 9, 10, 11, 5, 12, 13, 14, 15, 16, 17, 26, 27, 28, 29, 30, 31, 32, 33, 34, 35, 36] (by decide +kernel) (by decide +kernel)
set_option maxRecDepth 20000 in
theorem gX6_ofFewest_X6_findLacking : GoodIn wsX6_ofFewest (wsV RX6 42 RX6 yX6_findLacking wsX6_findLacking) := goodIn_app (goodIn_of _ (by decide +kernel)) ggX6_ofFewest_X6_findLacking
set_option maxRecDepth 20000 in
theorem ggX6_ofFewest_X6_inFirstRow : GoodIn wsX6_ofFewest wsX6_inFirstRow := goodIn_r _ [21, 22, 23, 24, 5, 25, 1, 13, 14, 15, 16, 17, 8, 26, 27, 28, 29, 30, 31, 32, 33, 34, 35, 36] (by decide +kernel) (by decide +kernel)
set_option maxRecDepth 20000 in
theorem gX6_ofFewest_X6_inFirstRow : GoodIn wsX6_ofFewest (wsV RX6 46 RX6 yX6_inFirstRow wsX6_inFirstRow) := goodIn_app (goodIn_of _ (by decide +kernel)) ggX6_ofFewest_X6_inFirstRow
theorem dX6_ofFewest_0 : decode cX6_ofFewest 0 = .ok (.aload_n 0, 1) := by decide +kernel
theorem dX6_ofFewest_1 : decode cX6_ofFewest 1 = .ok (.iload_n 1, 1) := by decide +kernel
theorem dX6_ofFewest_2 : decode cX6_ofFewest 2 = .ok (.invokevirtual 42, 3) := by decide +kernel
theorem dX6_ofFewest_5 : decode cX6_ofFewest 5 = .ok (.aload_n 0, 1) := by decide +kernel
theorem dX6_ofFewest_6 : decode cX6_ofFewest 6 = .ok (.getfield 24, 3) := by decide +kernel
theorem dX6_ofFewest_9 : decode cX6_ofFewest 9 = .ok (.iconst 0, 1) := by decide +kernel
theorem dX6_ofFewest_10 : decode cX6_ofFewest 10 = .ok (.iaload, 1) := by decide +kernel
theorem dX6_ofFewest_11 : decode cX6_ofFewest 11 = .ok (.istore_n 3, 1) := by decide +kernel
theorem dX6_ofFewest_12 : decode cX6_ofFewest 12 = .ok (.iload_n 3, 1) := by decide +kernel
theorem dX6_ofFewest_13 : decode cX6_ofFewest 13 = .ok (.iconst (-1), 1) := by decide +kernel
theorem dX6_ofFewest_14 : decode cX6_ofFewest 14 = .ok (.if_icmp .eq 8, 3) := by decide +kernel
theorem dX6_ofFewest_17 : decode cX6_ofFewest 17 = .ok (.iload_n 2, 1) := by decide +kernel
theorem dX6_ofFewest_18 : decode cX6_ofFewest 18 = .ok (.iload_n 3, 1) := by decide +kernel
theorem dX6_ofFewest_19 : decode cX6_ofFewest 19 = .ok (.if_icmp .lt 6, 3) := by decide +kernel
theorem dX6_ofFewest_22 : decode cX6_ofFewest 22 = .ok (.bipush (-5), 2) := by decide +kernel
theorem dX6_ofFewest_24 : decode cX6_ofFewest 24 = .ok (.ireturn, 1) := by decide +kernel
theorem dX6_ofFewest_25 : decode cX6_ofFewest 25 = .ok (.iload_n 2, 1) := by decide +kernel
theorem dX6_ofFewest_26 : decode cX6_ofFewest 26 = .ok (.iconst (-1), 1) := by decide +kernel
theorem dX6_ofFewest_27 : decode cX6_ofFewest 27 = .ok (.if_icmp .ne 7, 3) := by decide +kernel
theorem dX6_ofFewest_30 : decode cX6_ofFewest 30 = .ok (.iload_n 3, 1) := by decide +kernel
theorem dX6_ofFewest_31 : decode cX6_ofFewest 31 = .ok (.goto 8, 3) := by decide +kernel
theorem dX6_ofFewest_34 : decode cX6_ofFewest 34 = .ok (.aload_n 0, 1) := by decide +kernel
theorem dX6_ofFewest_35 : decode cX6_ofFewest 35 = .ok (.iload_n 2, 1) := by decide +kernel
theorem dX6_ofFewest_36 : decode cX6_ofFewest 36 = .ok (.invokevirtual 46, 3) := by decide +kernel
theorem dX6_ofFewest_39 : decode cX6_ofFewest 39 = .ok (.ireturn, 1) := by decide +kernel
set_option maxRecDepth 20000 in
theorem ggX6_findWays_X4_hasLump : GoodIn wsX6_findWays wsX4_hasLump := goodIn_r _ [9, 10, 11, 142, 143, 144, 145, 146, 147, 148, 149, 150, 151, 152, 153, 154, 155, 156, 157] (by decide +kernel) (by decide +kernel)
set_option maxRecDepth 20000 in
theorem gX6_findWays_X4_hasLump : GoodIn wsX6_findWays (wsV RX6 50 RX4 yX4_hasLump wsX4_hasLump) := goodIn_app (goodIn_of _ (by decide +kernel)) ggX6_findWays_X4_hasLump
set_option maxRecDepth 20000 in
theorem ggX6_findWays_X4_isBurnt : GoodIn wsX6_findWays wsX4_isBurnt := goodIn_r _ [15, 16, 142, 143, 144, 145, 146, 147, 148, 149, 150, 151, 152, 153, 154] (by decide +kernel) (by decide +kernel)
set_option maxRecDepth 20000 in
theorem gX6_findWays_X4_isBurnt : GoodIn wsX6_findWays (wsV RX6 56 RX4 yX4_isBurnt wsX4_isBurnt) := goodIn_app (goodIn_of _ (by decide +kernel)) ggX6_findWays_X4_isBurnt
set_option maxRecDepth 20000 in
theorem ggX6_findWays_X4_writeShown : GoodIn wsX6_findWays wsX4_writeShown := goodIn_r _ [20, 21, 22, 23, 24, 8, 25, 10, 26, 27, 28, 29, 30, 31, 32, 33, 34, 35, 36, 37, 38, 39, 40, 41, 42, 43, 44, 45, 46, 47, 48, 49, 50, 51, 52, 53, 54, 55, 56, 57, 58, 59, 60, 61, 62, 63, 64, 65, 66, 67, 68, 69, 70, 71, 72, 73, 74, 75, 76, 77, 78, 79, 80, 81, 82, 83, 84, 85, 86, 87, 88, 89, 90, 91, 92, 93, 94, 95, 96, 97, 98, 99, 100, 101, 102, 103, 104, 105, 106, 107, 108, 109, 110, 111, 142, 143, 144, 145, 146, 147, 148, 149, 150, 151, 152, 153, 154, 155, 156, 157] (by decide +kernel) (by decide +kernel)
set_option maxRecDepth 20000 in
theorem gX6_findWays_X4_writeShown : GoodIn wsX6_findWays (wsV RX6 59 RX4 yX4_writeShown wsX4_writeShown) := goodIn_app (goodIn_of _ (by decide +kernel)) ggX6_findWays_X4_writeShown
set_option maxRecDepth 20000 in
theorem ggX6_findWays_X6_placesFor : GoodIn wsX6_findWays wsX6_placesFor := goodIn_r _ [115, 116, 117, 118, 119, 120, 8, 121, 21, 122, 28, 29, 30, 31, 32, 33, 142, 143, 144, 145, 146, 147, 148, 149, 150, 151, 152, 153, 154, 155, 156, 157] (by decide +kernel) (by decide +kernel)
set_option maxRecDepth 20000 in
theorem gX6_findWays_X6_placesFor : GoodIn wsX6_findWays (va_wsS RX6 62 yX6_placesFor wsX6_placesFor) := goodIn_app (goodIn_of _ (by decide +kernel)) ggX6_findWays_X6_placesFor
set_option maxRecDepth 20000 in
theorem ggX6_findWays_J7_fill_53178 : GoodIn wsX6_findWays wsJ7_fill_53178 := goodIn_r _ [126] (by decide +kernel) (by decide +kernel)
set_option maxRecDepth 20000 in
theorem gX6_findWays_J7_fill_53178 : GoodIn wsX6_findWays (va_wsS RX6 66 yJ7_fill_53178 wsJ7_fill_53178) := goodIn_app (goodIn_of _ (by decide +kernel)) ggX6_findWays_J7_fill_53178
set_option maxRecDepth 20000 in
theorem ggX6_findWays_X6_canFollow : GoodIn wsX6_findWays wsX6_canFollow := goodIn_r _ [130, 2, 4, 131, 132, 133, 134, 135, 136, 137, 138, 139, 140, 141] (by decide +kernel) (by decide +kernel)
set_option maxRecDepth 20000 in
theorem gX6_findWays_X6_canFollow : GoodIn wsX6_findWays (wsV RX6 72 RX6 yX6_canFollow wsX6_canFollow) := goodIn_app (goodIn_of _ (by decide +kernel)) ggX6_findWays_X6_canFollow
theorem dX6_findWays_0 : decode cX6_findWays 0 = .ok (.iconst 0, 1) := by decide +kernel
theorem dX6_findWays_1 : decode cX6_findWays 1 = .ok (.istore_n 2, 1) := by decide +kernel
theorem dX6_findWays_2 : decode cX6_findWays 2 = .ok (.iload_n 2, 1) := by decide +kernel
theorem dX6_findWays_3 : decode cX6_findWays 3 = .ok (.bipush 8, 2) := by decide +kernel
theorem dX6_findWays_5 : decode cX6_findWays 5 = .ok (.if_icmp .ge 74, 3) := by decide +kernel
theorem dX6_findWays_8 : decode cX6_findWays 8 = .ok (.aload_n 1, 1) := by decide +kernel
theorem dX6_findWays_9 : decode cX6_findWays 9 = .ok (.iload_n 2, 1) := by decide +kernel
theorem dX6_findWays_10 : decode cX6_findWays 10 = .ok (.invokevirtual 50, 3) := by decide +kernel
theorem dX6_findWays_13 : decode cX6_findWays 13 = .ok (.ifCond .eq 15, 3) := by decide +kernel
theorem dX6_findWays_16 : decode cX6_findWays 16 = .ok (.aload_n 1, 1) := by decide +kernel
theorem dX6_findWays_17 : decode cX6_findWays 17 = .ok (.iload_n 2, 1) := by decide +kernel
theorem dX6_findWays_18 : decode cX6_findWays 18 = .ok (.invokevirtual 56, 3) := by decide +kernel
theorem dX6_findWays_21 : decode cX6_findWays 21 = .ok (.ifCond .ne 7, 3) := by decide +kernel
theorem dX6_findWays_24 : decode cX6_findWays 24 = .ok (.iconst 1, 1) := by decide +kernel
theorem dX6_findWays_25 : decode cX6_findWays 25 = .ok (.goto 4, 3) := by decide +kernel
theorem dX6_findWays_28 : decode cX6_findWays 28 = .ok (.iconst 0, 1) := by decide +kernel
theorem dX6_findWays_29 : decode cX6_findWays 29 = .ok (.istore_n 3, 1) := by decide +kernel
theorem dX6_findWays_30 : decode cX6_findWays 30 = .ok (.aload_n 0, 1) := by decide +kernel
theorem dX6_findWays_31 : decode cX6_findWays 31 = .ok (.getfield 9, 3) := by decide +kernel
theorem dX6_findWays_34 : decode cX6_findWays 34 = .ok (.iload_n 2, 1) := by decide +kernel
theorem dX6_findWays_35 : decode cX6_findWays 35 = .ok (.iload_n 3, 1) := by decide +kernel
theorem dX6_findWays_36 : decode cX6_findWays 36 = .ok (.ifCond .eq 11, 3) := by decide +kernel
theorem dX6_findWays_39 : decode cX6_findWays 39 = .ok (.aload_n 1, 1) := by decide +kernel
theorem dX6_findWays_40 : decode cX6_findWays 40 = .ok (.iload_n 2, 1) := by decide +kernel
theorem dX6_findWays_41 : decode cX6_findWays 41 = .ok (.invokevirtual 59, 3) := by decide +kernel
theorem dX6_findWays_44 : decode cX6_findWays 44 = .ok (.goto 4, 3) := by decide +kernel
theorem dX6_findWays_47 : decode cX6_findWays 47 = .ok (.iconst 0, 1) := by decide +kernel
theorem dX6_findWays_48 : decode cX6_findWays 48 = .ok (.iastore, 1) := by decide +kernel
theorem dX6_findWays_49 : decode cX6_findWays 49 = .ok (.aload_n 0, 1) := by decide +kernel
theorem dX6_findWays_50 : decode cX6_findWays 50 = .ok (.getfield 15, 3) := by decide +kernel
theorem dX6_findWays_53 : decode cX6_findWays 53 = .ok (.iload_n 2, 1) := by decide +kernel
theorem dX6_findWays_54 : decode cX6_findWays 54 = .ok (.iload_n 3, 1) := by decide +kernel
theorem dX6_findWays_55 : decode cX6_findWays 55 = .ok (.ifCond .eq 16, 3) := by decide +kernel
theorem dX6_findWays_58 : decode cX6_findWays 58 = .ok (.aload_n 1, 1) := by decide +kernel
theorem dX6_findWays_59 : decode cX6_findWays 59 = .ok (.aload_n 0, 1) := by decide +kernel
theorem dX6_findWays_60 : decode cX6_findWays 60 = .ok (.getfield 9, 3) := by decide +kernel
theorem dX6_findWays_63 : decode cX6_findWays 63 = .ok (.iload_n 2, 1) := by decide +kernel
theorem dX6_findWays_64 : decode cX6_findWays 64 = .ok (.iaload, 1) := by decide +kernel
theorem dX6_findWays_65 : decode cX6_findWays 65 = .ok (.invokestatic 62, 3) := by decide +kernel
theorem dX6_findWays_68 : decode cX6_findWays 68 = .ok (.goto 4, 3) := by decide +kernel
theorem dX6_findWays_71 : decode cX6_findWays 71 = .ok (.iconst 0, 1) := by decide +kernel
theorem dX6_findWays_72 : decode cX6_findWays 72 = .ok (.iastore, 1) := by decide +kernel
theorem dX6_findWays_73 : decode cX6_findWays 73 = .ok (.iinc 2 1, 3) := by decide +kernel
theorem dX6_findWays_76 : decode cX6_findWays 76 = .ok (.goto (-74), 3) := by decide +kernel
theorem dX6_findWays_79 : decode cX6_findWays 79 = .ok (.aload_n 0, 1) := by decide +kernel
theorem dX6_findWays_80 : decode cX6_findWays 80 = .ok (.getfield 18, 3) := by decide +kernel
theorem dX6_findWays_83 : decode cX6_findWays 83 = .ok (.iconst 0, 1) := by decide +kernel
theorem dX6_findWays_84 : decode cX6_findWays 84 = .ok (.invokestatic 66, 3) := by decide +kernel
theorem dX6_findWays_87 : decode cX6_findWays 87 = .ok (.aload_n 0, 1) := by decide +kernel
theorem dX6_findWays_88 : decode cX6_findWays 88 = .ok (.getfield 18, 3) := by decide +kernel
theorem dX6_findWays_91 : decode cX6_findWays 91 = .ok (.iconst 0, 1) := by decide +kernel
theorem dX6_findWays_92 : decode cX6_findWays 92 = .ok (.iconst 1, 1) := by decide +kernel
