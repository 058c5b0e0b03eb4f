theorem dX12_reads_57 : decode cX12_reads 57 = .ok (.iload_n 3, 1) := by decide +kernel
theorem dX12_reads_58 : decode cX12_reads 58 = .ok (.ifCond .ne 5, 3) := by decide +kernel
theorem dX12_reads_61 : decode cX12_reads 61 = .ok (.iconst 0, 1) := by decide +kernel
theorem dX12_reads_62 : decode cX12_reads 62 = .ok (.ireturn, 1) := by decide +kernel
theorem dX12_reads_63 : decode cX12_reads 63 = .ok (.aload_n 0, 1) := by decide +kernel
theorem dX12_reads_64 : decode cX12_reads 64 = .ok (.aload_n 0, 1) := by decide +kernel
theorem dX12_reads_65 : decode cX12_reads 65 = .ok (.getfield 108, 3) := by decide +kernel
theorem dX12_reads_68 : decode cX12_reads 68 = .ok (.putfield 125, 3) := by decide +kernel
theorem dX12_reads_71 : decode cX12_reads 71 = .ok (.aload_n 0, 1) := by decide +kernel
theorem dX12_reads_72 : decode cX12_reads 72 = .ok (.getfield 125, 3) := by decide +kernel
theorem dX12_reads_75 : decode cX12_reads 75 = .ok (.iconst 4, 1) := by decide +kernel
theorem dX12_reads_76 : decode cX12_reads 76 = .ok (.if_icmp .ne 7, 3) := by decide +kernel
theorem dX12_reads_79 : decode cX12_reads 79 = .ok (.iconst 0, 1) := by decide +kernel
theorem dX12_reads_80 : decode cX12_reads 80 = .ok (.goto 17, 3) := by decide +kernel
theorem dX12_reads_83 : decode cX12_reads 83 = .ok (.aload_n 0, 1) := by decide +kernel
theorem dX12_reads_84 : decode cX12_reads 84 = .ok (.getfield 125, 3) := by decide +kernel
theorem dX12_reads_87 : decode cX12_reads 87 = .ok (.bipush 7, 2) := by decide +kernel
theorem dX12_reads_89 : decode cX12_reads 89 = .ok (.if_icmp .ne 7, 3) := by decide +kernel
theorem dX12_reads_92 : decode cX12_reads 92 = .ok (.iconst 3, 1) := by decide +kernel
theorem dX12_reads_93 : decode cX12_reads 93 = .ok (.goto 4, 3) := by decide +kernel
theorem dX12_reads_96 : decode cX12_reads 96 = .ok (.iconst 2, 1) := by decide +kernel
theorem dX12_reads_97 : decode cX12_reads 97 = .ok (.istore 4, 2) := by decide +kernel
theorem dX12_reads_99 : decode cX12_reads 99 = .ok (.iconst 0, 1) := by decide +kernel
theorem dX12_reads_100 : decode cX12_reads 100 = .ok (.istore 5, 2) := by decide +kernel
theorem dX12_reads_102 : decode cX12_reads 102 = .ok (.iload 5, 2) := by decide +kernel
theorem dX12_reads_104 : decode cX12_reads 104 = .ok (.iload 4, 2) := by decide +kernel
theorem dX12_reads_106 : decode cX12_reads 106 = .ok (.if_icmp .ge 38, 3) := by decide +kernel
theorem dX12_reads_109 : decode cX12_reads 109 = .ok (.aload_n 0, 1) := by decide +kernel
theorem dX12_reads_110 : decode cX12_reads 110 = .ok (.aload_n 0, 1) := by decide +kernel
theorem dX12_reads_111 : decode cX12_reads 111 = .ok (.getfield 118, 3) := by decide +kernel
theorem dX12_reads_114 : decode cX12_reads 114 = .ok (.invokevirtual 121, 3) := by decide +kernel
theorem dX12_reads_117 : decode cX12_reads 117 = .ok (.aload_n 0, 1) := by decide +kernel
theorem dX12_reads_118 : decode cX12_reads 118 = .ok (.getfield 108, 3) := by decide +kernel
theorem dX12_reads_121 : decode cX12_reads 121 = .ok (.iconst 2, 1) := by decide +kernel
theorem dX12_reads_122 : decode cX12_reads 122 = .ok (.if_icmp .eq 5, 3) := by decide +kernel
theorem dX12_reads_125 : decode cX12_reads 125 = .ok (.iconst 0, 1) := by decide +kernel
theorem dX12_reads_126 : decode cX12_reads 126 = .ok (.ireturn, 1) := by decide +kernel
theorem dX12_reads_127 : decode cX12_reads 127 = .ok (.aload_n 0, 1) := by decide +kernel
theorem dX12_reads_128 : decode cX12_reads 128 = .ok (.getfield 26, 3) := by decide +kernel
theorem dX12_reads_131 : decode cX12_reads 131 = .ok (.iload 5, 2) := by decide +kernel
theorem dX12_reads_133 : decode cX12_reads 133 = .ok (.aload_n 0, 1) := by decide +kernel
theorem dX12_reads_134 : decode cX12_reads 134 = .ok (.getfield 115, 3) := by decide +kernel
theorem dX12_reads_137 : decode cX12_reads 137 = .ok (.iastore, 1) := by decide +kernel
theorem dX12_reads_138 : decode cX12_reads 138 = .ok (.iinc 5 1, 3) := by decide +kernel
theorem dX12_reads_141 : decode cX12_reads 141 = .ok (.goto (-39), 3) := by decide +kernel
theorem dX12_reads_144 : decode cX12_reads 144 = .ok (.aload_n 0, 1) := by decide +kernel
theorem dX12_reads_145 : decode cX12_reads 145 = .ok (.aload_n 0, 1) := by decide +kernel
theorem dX12_reads_146 : decode cX12_reads 146 = .ok (.getfield 118, 3) := by decide +kernel
theorem dX12_reads_149 : decode cX12_reads 149 = .ok (.invokevirtual 121, 3) := by decide +kernel
theorem dX12_reads_152 : decode cX12_reads 152 = .ok (.aload_n 0, 1) := by decide +kernel
theorem dX12_reads_153 : decode cX12_reads 153 = .ok (.getfield 108, 3) := by decide +kernel
theorem dX12_reads_156 : decode cX12_reads 156 = .ok (.iconst 3, 1) := by decide +kernel
theorem dX12_reads_157 : decode cX12_reads 157 = .ok (.if_icmp .ne 7, 3) := by decide +kernel
theorem dX12_reads_160 : decode cX12_reads 160 = .ok (.iconst 1, 1) := by decide +kernel
theorem dX12_reads_161 : decode cX12_reads 161 = .ok (.goto 4, 3) := by decide +kernel
theorem dX12_reads_164 : decode cX12_reads 164 = .ok (.iconst 0, 1) := by decide +kernel
theorem dX12_reads_165 : decode cX12_reads 165 = .ok (.ireturn, 1) := by decide +kernel
set_option maxRecDepth 20000 in
theorem ggX12_isRefused_X12_layerOn : GoodIn wsX12_isRefused wsX12_layerOn := goodIn_r _ [6, 7, 8, 5, 9] (by decide +kernel) (by decide +kernel)
set_option maxRecDepth 20000 in
theorem gX12_isRefused_X12_layerOn : GoodIn wsX12_isRefused (va_wsS RX12 79 yX12_layerOn wsX12_layerOn) := goodIn_app (goodIn_of _ (by decide +kernel)) ggX12_isRefused_X12_layerOn
set_option maxRecDepth 20000 in
theorem ggX12_isRefused_X12_priceOn : GoodIn wsX12_isRefused wsX12_priceOn := goodIn_r _ [12, 7, 8, 5, 9] (by decide +kernel) (by decide +kernel)
set_option maxRecDepth 20000 in
theorem gX12_isRefused_X12_priceOn : GoodIn wsX12_isRefused (va_wsS RX12 83 yX12_priceOn wsX12_priceOn) := goodIn_app (goodIn_of _ (by decide +kernel)) ggX12_isRefused_X12_priceOn
set_option maxRecDepth 20000 in
theorem ggX12_isRefused_X12_lumpOn : GoodIn wsX12_isRefused wsX12_lumpOn := goodIn_r _ [15, 7, 8, 5, 9] (by decide +kernel) (by decide +kernel)
set_option maxRecDepth 20000 in
theorem gX12_isRefused_X12_lumpOn : GoodIn wsX12_isRefused (va_wsS RX12 86 yX12_lumpOn wsX12_lumpOn) := goodIn_app (goodIn_of _ (by decide +kernel)) ggX12_isRefused_X12_lumpOn
theorem dX12_isRefused_0 : decode cX12_isRefused 0 = .ok (.aload_n 0, 1) := by decide +kernel
theorem dX12_isRefused_1 : decode cX12_isRefused 1 = .ok (.getfield 125, 3) := by decide +kernel
theorem dX12_isRefused_4 : decode cX12_isRefused 4 = .ok (.tableswitch 109 5 7 #[28, 53, 78], 28) := by decide +kernel
theorem dX12_isRefused_32 : decode cX12_isRefused 32 = .ok (.aload_n 1, 1) := by decide +kernel
theorem dX12_isRefused_33 : decode cX12_isRefused 33 = .ok (.aload_n 0, 1) := by decide +kernel
theorem dX12_isRefused_34 : decode cX12_isRefused 34 = .ok (.getfield 26, 3) := by decide +kernel
theorem dX12_isRefused_37 : decode cX12_isRefused 37 = .ok (.iconst 0, 1) := by decide +kernel
theorem dX12_isRefused_38 : decode cX12_isRefused 38 = .ok (.iaload, 1) := by decide +kernel
theorem dX12_isRefused_39 : decode cX12_isRefused 39 = .ok (.aload_n 0, 1) := by decide +kernel
theorem dX12_isRefused_40 : decode cX12_isRefused 40 = .ok (.getfield 26, 3) := by decide +kernel
theorem dX12_isRefused_43 : decode cX12_isRefused 43 = .ok (.iconst 1, 1) := by decide +kernel
theorem dX12_isRefused_44 : decode cX12_isRefused 44 = .ok (.iaload, 1) := by decide +kernel
theorem dX12_isRefused_45 : decode cX12_isRefused 45 = .ok (.invokestatic 79, 3) := by decide +kernel
theorem dX12_isRefused_48 : decode cX12_isRefused 48 = .ok (.ifCond .ge 7, 3) := by decide +kernel
theorem dX12_isRefused_51 : decode cX12_isRefused 51 = .ok (.iconst 1, 1) := by decide +kernel
theorem dX12_isRefused_52 : decode cX12_isRefused 52 = .ok (.goto 4, 3) := by decide +kernel
theorem dX12_isRefused_55 : decode cX12_isRefused 55 = .ok (.iconst 0, 1) := by decide +kernel
theorem dX12_isRefused_56 : decode cX12_isRefused 56 = .ok (.ireturn, 1) := by decide +kernel
theorem dX12_isRefused_57 : decode cX12_isRefused 57 = .ok (.aload_n 1, 1) := by decide +kernel
theorem dX12_isRefused_58 : decode cX12_isRefused 58 = .ok (.aload_n 0, 1) := by decide +kernel
theorem dX12_isRefused_59 : decode cX12_isRefused 59 = .ok (.getfield 26, 3) := by decide +kernel
theorem dX12_isRefused_62 : decode cX12_isRefused 62 = .ok (.iconst 0, 1) := by decide +kernel
theorem dX12_isRefused_63 : decode cX12_isRefused 63 = .ok (.iaload, 1) := by decide +kernel
theorem dX12_isRefused_64 : decode cX12_isRefused 64 = .ok (.aload_n 0, 1) := by decide +kernel
theorem dX12_isRefused_65 : decode cX12_isRefused 65 = .ok (.getfield 26, 3) := by decide +kernel
theorem dX12_isRefused_68 : decode cX12_isRefused 68 = .ok (.iconst 1, 1) := by decide +kernel
theorem dX12_isRefused_69 : decode cX12_isRefused 69 = .ok (.iaload, 1) := by decide +kernel
theorem dX12_isRefused_70 : decode cX12_isRefused 70 = .ok (.invokestatic 83, 3) := by decide +kernel
theorem dX12_isRefused_73 : decode cX12_isRefused 73 = .ok (.ifCond .ge 7, 3) := by decide +kernel
theorem dX12_isRefused_76 : decode cX12_isRefused 76 = .ok (.iconst 1, 1) := by decide +kernel
theorem dX12_isRefused_77 : decode cX12_isRefused 77 = .ok (.goto 4, 3) := by decide +kernel
theorem dX12_isRefused_80 : decode cX12_isRefused 80 = .ok (.iconst 0, 1) := by decide +kernel
theorem dX12_isRefused_81 : decode cX12_isRefused 81 = .ok (.ireturn, 1) := by decide +kernel
theorem dX12_isRefused_82 : decode cX12_isRefused 82 = .ok (.aload_n 1, 1) := by decide +kernel
theorem dX12_isRefused_83 : decode cX12_isRefused 83 = .ok (.aload_n 0, 1) := by decide +kernel
theorem dX12_isRefused_84 : decode cX12_isRefused 84 = .ok (.getfield 26, 3) := by decide +kernel
theorem dX12_isRefused_87 : decode cX12_isRefused 87 = .ok (.iconst 0, 1) := by decide +kernel
theorem dX12_isRefused_88 : decode cX12_isRefused 88 = .ok (.iaload, 1) := by decide +kernel
theorem dX12_isRefused_89 : decode cX12_isRefused 89 = .ok (.aload_n 0, 1) := by decide +kernel
theorem dX12_isRefused_90 : decode cX12_isRefused 90 = .ok (.getfield 26, 3) := by decide +kernel
theorem dX12_isRefused_93 : decode cX12_isRefused 93 = .ok (.iconst 1, 1) := by decide +kernel
theorem dX12_isRefused_94 : decode cX12_isRefused 94 = .ok (.iaload, 1) := by decide +kernel
theorem dX12_isRefused_95 : decode cX12_isRefused 95 = .ok (.aload_n 0, 1) := by decide +kernel
theorem dX12_isRefused_96 : decode cX12_isRefused 96 = .ok (.getfield 26, 3) := by decide +kernel
theorem dX12_isRefused_99 : decode cX12_isRefused 99 = .ok (.iconst 2, 1) := by decide +kernel
theorem dX12_isRefused_100 : decode cX12_isRefused 100 = .ok (.iaload, 1) := by decide +kernel
theorem dX12_isRefused_101 : decode cX12_isRefused 101 = .ok (.invokestatic 86, 3) := by decide +kernel
theorem dX12_isRefused_104 : decode cX12_isRefused 104 = .ok (.ifCond .ge 7, 3) := by decide +kernel
theorem dX12_isRefused_107 : decode cX12_isRefused 107 = .ok (.iconst 1, 1) := by decide +kernel
theorem dX12_isRefused_108 : decode cX12_isRefused 108 = .ok (.goto 4, 3) := by decide +kernel
theorem dX12_isRefused_111 : decode cX12_isRefused 111 = .ok (.iconst 0, 1) := by decide +kernel
theorem dX12_isRefused_112 : decode cX12_isRefused 112 = .ok (.ireturn, 1) := by decide +kernel
theorem dX12_isRefused_113 : decode cX12_isRefused 113 = .ok (.iconst 0, 1) := by decide +kernel
theorem dX12_isRefused_114 : decode cX12_isRefused 114 = .ok (.ireturn, 1) := by decide +kernel
set_option maxRecDepth 20000 in
theorem ggX12_read_X12_anew : GoodIn wsX12_read wsX12_anew := goodIn_r _ [9, 10, 11, 8, 12] (by decide +kernel) (by decide +kernel)
set_option maxRecDepth 20000 in
theorem gX12_read_X12_anew : GoodIn wsX12_read (va_wsS RX12 64 yX12_anew wsX12_anew) := goodIn_app (goodIn_of _ (by decide +kernel)) ggX12_read_X12_anew
set_option maxRecDepth 20000 in
theorem ggX12_read_X12_reads : GoodIn wsX12_read wsX12_reads := goodIn_r _ [16, 4, 17, 3, 18, 19, 20, 21, 22, 8, 23, 2, 24, 25, 26, 27, 28, 29, 10, 11, 12, 30, 31, 32, 33, 34, 35, 36, 37, 51, 52, 53, 54, 55, 56, 57, 58, 59, 60, 61, 62, 63, 64, 65, 66, 67, 68, 69, 70, 71, 72, 73, 74, 75] (by decide +kernel) (by decide +kernel)
set_option maxRecDepth 20000 in
theorem gX12_read_X12_reads : GoodIn wsX12_read (wsV RX12 128 RX12 yX12_reads wsX12_reads) := goodIn_app (goodIn_of _ (by decide +kernel)) ggX12_read_X12_reads
set_option maxRecDepth 20000 in
theorem ggX12_read_X12_isRefused : GoodIn wsX12_read wsX12_isRefused := goodIn_r _ [41, 17, 18, 42, 43, 8, 44, 10, 11, 12, 45, 46, 47, 48, 49, 50, 51, 52, 53, 54, 55, 56, 57, 58, 59, 60, 61, 62, 63, 64, 65, 66, 67, 68, 69, 70, 71, 72, 73, 74, 75] (by decide +kernel) (by decide +kernel)
set_option maxRecDepth 20000 in
theorem gX12_read_X12_isRefused : GoodIn wsX12_read (wsV RX12 132 RX12 yX12_isRefused wsX12_isRefused) := goodIn_app (goodIn_of _ (by decide +kernel)) ggX12_read_X12_isRefused
set_option maxRecDepth 20000 in
theorem ggX12_read_X12_next : GoodIn wsX12_read wsX12_next := goodIn_r _ [23, 2, 4, 19, 3, 24, 25, 26, 8, 27, 28, 29, 10, 11, 12, 30, 31, 32, 33, 34, 35, 36, 37, 51, 52, 53, 54, 55, 56, 57, 58, 59, 60, 61, 62, 63, 64, 65, 66, 67, 68, 69, 70, 71, 72, 73, 74, 75] (by decide +kernel) (by decide +kernel)
set_option maxRecDepth 20000 in
theorem gX12_read_X12_next : GoodIn wsX12_read (wsV RX12 121 RX12 yX12_next wsX12_next) := goodIn_app (goodIn_of _ (by decide +kernel)) ggX12_read_X12_next
theorem dX12_read_0 : decode cX12_read 0 = .ok (.aload_n 0, 1) := by decide +kernel
theorem dX12_read_1 : decode cX12_read 1 = .ok (.getfield 20, 3) := by decide +kernel
theorem dX12_read_4 : decode cX12_read 4 = .ok (.invokestatic 64, 3) := by decide +kernel
theorem dX12_read_7 : decode cX12_read 7 = .ok (.iconst 0, 1) := by decide +kernel
theorem dX12_read_8 : decode cX12_read 8 = .ok (.istore_n 1, 1) := by decide +kernel
theorem dX12_read_9 : decode cX12_read 9 = .ok (.iconst (-1), 1) := by decide +kernel
theorem dX12_read_10 : decode cX12_read 10 = .ok (.istore_n 2, 1) := by decide +kernel
theorem dX12_read_11 : decode cX12_read 11 = .ok (.iconst 0, 1) := by decide +kernel
theorem dX12_read_12 : decode cX12_read 12 = .ok (.istore_n 3, 1) := by decide +kernel
theorem dX12_read_13 : decode cX12_read 13 = .ok (.iconst 1, 1) := by decide +kernel
theorem dX12_read_14 : decode cX12_read 14 = .ok (.istore 4, 2) := by decide +kernel
theorem dX12_read_16 : decode cX12_read 16 = .ok (.iload 4, 2) := by decide +kernel
theorem dX12_read_18 : decode cX12_read 18 = .ok (.ifCond .eq 80, 3) := by decide +kernel
theorem dX12_read_21 : decode cX12_read 21 = .ok (.aload_n 0, 1) := by decide +kernel
theorem dX12_read_22 : decode cX12_read 22 = .ok (.iload_n 3, 1) := by decide +kernel
theorem dX12_read_23 : decode cX12_read 23 = .ok (.iload_n 1, 1) := by decide +kernel
theorem dX12_read_24 : decode cX12_read 24 = .ok (.ifCond .ne 7, 3) := by decide +kernel
theorem dX12_read_27 : decode cX12_read 27 = .ok (.iconst 1, 1) := by decide +kernel
theorem dX12_read_28 : decode cX12_read 28 = .ok (.goto 4, 3) := by decide +kernel
theorem dX12_read_31 : decode cX12_read 31 = .ok (.iconst 0, 1) := by decide +kernel
theorem dX12_read_32 : decode cX12_read 32 = .ok (.invokevirtual 128, 3) := by decide +kernel
theorem dX12_read_35 : decode cX12_read 35 = .ok (.ifCond .ne 11, 3) := by decide +kernel
theorem dX12_read_38 : decode cX12_read 38 = .ok (.bipush (-10), 2) := by decide +kernel
theorem dX12_read_40 : decode cX12_read 40 = .ok (.aload_n 0, 1) := by decide +kernel
theorem dX12_read_41 : decode cX12_read 41 = .ok (.getfield 105, 3) := by decide +kernel
theorem dX12_read_44 : decode cX12_read 44 = .ok (.isub, 1) := by decide +kernel
theorem dX12_read_45 : decode cX12_read 45 = .ok (.ireturn, 1) := by decide +kernel
theorem dX12_read_46 : decode cX12_read 46 = .ok (.iload_n 2, 1) := by decide +kernel
theorem dX12_read_47 : decode cX12_read 47 = .ok (.iconst (-1), 1) := by decide +kernel
theorem dX12_read_48 : decode cX12_read 48 = .ok (.if_icmp .ne 18, 3) := by decide +kernel
theorem dX12_read_51 : decode cX12_read 51 = .ok (.aload_n 0, 1) := by decide +kernel
theorem dX12_read_52 : decode cX12_read 52 = .ok (.aload_n 0, 1) := by decide +kernel
theorem dX12_read_53 : decode cX12_read 53 = .ok (.getfield 20, 3) := by decide +kernel
theorem dX12_read_56 : decode cX12_read 56 = .ok (.invokevirtual 132, 3) := by decide +kernel
theorem dX12_read_59 : decode cX12_read 59 = .ok (.ifCond .eq 7, 3) := by decide +kernel
theorem dX12_read_62 : decode cX12_read 62 = .ok (.iload_n 1, 1) := by decide +kernel
theorem dX12_read_63 : decode cX12_read 63 = .ok (.goto 4, 3) := by decide +kernel
theorem dX12_read_66 : decode cX12_read 66 = .ok (.iload_n 2, 1) := by decide +kernel
theorem dX12_read_67 : decode cX12_read 67 = .ok (.istore_n 2, 1) := by decide +kernel
theorem dX12_read_68 : decode cX12_read 68 = .ok (.iinc 1 1, 3) := by decide +kernel
theorem dX12_read_71 : decode cX12_read 71 = .ok (.aload_n 0, 1) := by decide +kernel
theorem dX12_read_72 : decode cX12_read 72 = .ok (.getfield 118, 3) := by decide +kernel
theorem dX12_read_75 : decode cX12_read 75 = .ok (.istore_n 3, 1) := by decide +kernel
theorem dX12_read_76 : decode cX12_read 76 = .ok (.aload_n 0, 1) := by decide +kernel
theorem dX12_read_77 : decode cX12_read 77 = .ok (.iload_n 3, 1) := by decide +kernel
theorem dX12_read_78 : decode cX12_read 78 = .ok (.invokevirtual 121, 3) := by decide +kernel
theorem dX12_read_81 : decode cX12_read 81 = .ok (.aload_n 0, 1) := by decide +kernel
theorem dX12_read_82 : decode cX12_read 82 = .ok (.getfield 108, 3) := by decide +kernel
theorem dX12_read_85 : decode cX12_read 85 = .ok (.ifCond .eq 7, 3) := by decide +kernel
theorem dX12_read_88 : decode cX12_read 88 = .ok (.iconst 1, 1) := by decide +kernel
theorem dX12_read_89 : decode cX12_read 89 = .ok (.goto 4, 3) := by decide +kernel
theorem dX12_read_92 : decode cX12_read 92 = .ok (.iconst 0, 1) := by decide +kernel
theorem dX12_read_93 : decode cX12_read 93 = .ok (.istore 4, 2) := by decide +kernel
theorem dX12_read_95 : decode cX12_read 95 = .ok (.goto (-79), 3) := by decide +kernel
theorem dX12_read_98 : decode cX12_read 98 = .ok (.iload_n 2, 1) := by decide +kernel
theorem dX12_read_99 : decode cX12_read 99 = .ok (.iconst (-1), 1) := by decide +kernel
theorem dX12_read_100 : decode cX12_read 100 = .ok (.if_icmp .eq 9, 3) := by decide +kernel
theorem dX12_read_103 : decode cX12_read 103 = .ok (.sipush (-1000), 3) := by decide +kernel
theorem dX12_read_106 : decode cX12_read 106 = .ok (.iload_n 2, 1) := by decide +kernel
theorem dX12_read_107 : decode cX12_read 107 = .ok (.isub, 1) := by decide +kernel
theorem dX12_read_108 : decode cX12_read 108 = .ok (.ireturn, 1) := by decide +kernel
theorem dX12_read_109 : decode cX12_read 109 = .ok (.iconst 0, 1) := by decide +kernel
theorem dX12_read_110 : decode cX12_read 110 = .ok (.istore 5, 2) := by decide +kernel
theorem dX12_read_112 : decode cX12_read 112 = .ok (.iload 5, 2) := by decide +kernel
theorem dX12_read_114 : decode cX12_read 114 = .ok (.bipush 126, 2) := by decide +kernel
theorem dX12_read_116 : decode cX12_read 116 = .ok (.if_icmp .ge 23, 3) := by decide +kernel
theorem dX12_read_119 : decode cX12_read 119 = .ok (.aload_n 0, 1) := by decide +kernel
theorem dX12_read_120 : decode cX12_read 120 = .ok (.getfield 17, 3) := by decide +kernel
theorem dX12_read_123 : decode cX12_read 123 = .ok (.iload 5, 2) := by decide +kernel
theorem dX12_read_125 : decode cX12_read 125 = .ok (.aload_n 0, 1) := by decide +kernel
theorem dX12_read_126 : decode cX12_read 126 = .ok (.getfield 20, 3) := by decide +kernel
theorem dX12_read_129 : decode cX12_read 129 = .ok (.iload 5, 2) := by decide +kernel
theorem dX12_read_131 : decode cX12_read 131 = .ok (.iaload, 1) := by decide +kernel
theorem dX12_read_132 : decode cX12_read 132 = .ok (.iastore, 1) := by decide +kernel
theorem dX12_read_133 : decode cX12_read 133 = .ok (.iinc 5 1, 3) := by decide +kernel
theorem dX12_read_136 : decode cX12_read 136 = .ok (.goto (-24), 3) := by decide +kernel
theorem dX12_read_139 : decode cX12_read 139 = .ok (.iload_n 1, 1) := by decide +kernel
theorem dX12_read_140 : decode cX12_read 140 = .ok (.ireturn, 1) := by decide +kernel
set_option maxRecDepth 20000 in
theorem ggX12_isLump_X12_in : GoodIn wsX12_isLump wsX12_in := goodIn_r _ [5] (by decide +kernel) (by decide +kernel)
set_option maxRecDepth 20000 in
theorem gX12_isLump_X12_in : GoodIn wsX12_isLump (va_wsS RX12 68 yX12_in wsX12_in) := goodIn_app (goodIn_of _ (by decide +kernel)) ggX12_isLump_X12_in
theorem dX12_isLump_0 : decode cX12_isLump 0 = .ok (.iload_n 1, 1) := by decide +kernel
theorem dX12_isLump_1 : decode cX12_isLump 1 = .ok (.iconst 0, 1) := by decide +kernel
theorem dX12_isLump_2 : decode cX12_isLump 2 = .ok (.aload_n 0, 1) := by decide +kernel
theorem dX12_isLump_3 : decode cX12_isLump 3 = .ok (.getfield 17, 3) := by decide +kernel
theorem dX12_isLump_6 : decode cX12_isLump 6 = .ok (.bipush 50, 2) := by decide +kernel
theorem dX12_isLump_8 : decode cX12_isLump 8 = .ok (.iaload, 1) := by decide +kernel
theorem dX12_isLump_9 : decode cX12_isLump 9 = .ok (.iconst 1, 1) := by decide +kernel
theorem dX12_isLump_10 : decode cX12_isLump 10 = .ok (.isub, 1) := by decide +kernel
theorem dX12_isLump_11 : decode cX12_isLump 11 = .ok (.invokestatic 68, 3) := by decide +kernel
theorem dX12_isLump_14 : decode cX12_isLump 14 = .ok (.ireturn, 1) := by decide +kernel
theorem dX12_lumpAt_0 : decode cX12_lumpAt 0 = .ok (.aload_n 0, 1) := by decide +kernel
theorem dX12_lumpAt_1 : decode cX12_lumpAt 1 = .ok (.getfield 17, 3) := by decide +kernel
theorem dX12_lumpAt_4 : decode cX12_lumpAt 4 = .ok (.bipush 18, 2) := by decide +kernel
theorem dX12_lumpAt_6 : decode cX12_lumpAt 6 = .ok (.iconst 4, 1) := by decide +kernel
theorem dX12_lumpAt_7 : decode cX12_lumpAt 7 = .ok (.iload_n 1, 1) := by decide +kernel
theorem dX12_lumpAt_8 : decode cX12_lumpAt 8 = .ok (.imul, 1) := by decide +kernel
theorem dX12_lumpAt_9 : decode cX12_lumpAt 9 = .ok (.iadd, 1) := by decide +kernel
theorem dX12_lumpAt_10 : decode cX12_lumpAt 10 = .ok (.iload_n 2, 1) := by decide +kernel
theorem dX12_lumpAt_11 : decode cX12_lumpAt 11 = .ok (.iadd, 1) := by decide +kernel
theorem dX12_lumpAt_12 : decode cX12_lumpAt 12 = .ok (.iaload, 1) := by decide +kernel
theorem dX12_lumpAt_13 : decode cX12_lumpAt 13 = .ok (.ireturn, 1) := by decide +kernel
theorem dX12_burnsBy_0 : decode cX12_burnsBy 0 = .ok (.iload_n 0, 1) := by decide +kernel
theorem dX12_burnsBy_1 : decode cX12_burnsBy 1 = .ok (.tableswitch 49 0 4 #[35, 37, 39, 49, 45], 35) := by decide +kernel
theorem dX12_burnsBy_36 : decode cX12_burnsBy 36 = .ok (.iload_n 1, 1) := by decide +kernel
theorem dX12_burnsBy_37 : decode cX12_burnsBy 37 = .ok (.ireturn, 1) := by decide +kernel
theorem dX12_burnsBy_38 : decode cX12_burnsBy 38 = .ok (.iload_n 1, 1) := by decide +kernel
theorem dX12_burnsBy_39 : decode cX12_burnsBy 39 = .ok (.ireturn, 1) := by decide +kernel
theorem dX12_burnsBy_40 : decode cX12_burnsBy 40 = .ok (.iload_n 1, 1) := by decide +kernel
theorem dX12_burnsBy_41 : decode cX12_burnsBy 41 = .ok (.iconst 1, 1) := by decide +kernel
theorem dX12_burnsBy_42 : decode cX12_burnsBy 42 = .ok (.iadd, 1) := by decide +kernel
theorem dX12_burnsBy_43 : decode cX12_burnsBy 43 = .ok (.iconst 2, 1) := by decide +kernel
theorem dX12_burnsBy_44 : decode cX12_burnsBy 44 = .ok (.idiv, 1) := by decide +kernel
theorem dX12_burnsBy_45 : decode cX12_burnsBy 45 = .ok (.ireturn, 1) := by decide +kernel
theorem dX12_burnsBy_46 : decode cX12_burnsBy 46 = .ok (.iload_n 1, 1) := by decide +kernel
theorem dX12_burnsBy_47 : decode cX12_burnsBy 47 = .ok (.iconst 1, 1) := by decide +kernel
theorem dX12_burnsBy_48 : decode cX12_burnsBy 48 = .ok (.iadd, 1) := by decide +kernel
theorem dX12_burnsBy_49 : decode cX12_burnsBy 49 = .ok (.ireturn, 1) := by decide +kernel
theorem dX12_burnsBy_50 : decode cX12_burnsBy 50 = .ok (.iconst 2, 1) := by decide +kernel
theorem dX12_burnsBy_51 : decode cX12_burnsBy 51 = .ok (.iload_n 1, 1) := by decide +kernel
theorem dX12_burnsBy_52 : decode cX12_burnsBy 52 = .ok (.imul, 1) := by decide +kernel
theorem dX12_burnsBy_53 : decode cX12_burnsBy 53 = .ok (.ireturn, 1) := by decide +kernel
set_option maxRecDepth 20000 in
theorem ggX12_ownBy_X12_burnsBy : GoodIn wsX12_ownBy wsX12_burnsBy := goodIn_r _ [4] (by decide +kernel) (by decide +kernel)
set_option maxRecDepth 20000 in
theorem gX12_ownBy_X12_burnsBy : GoodIn wsX12_ownBy (va_wsS RX12 136 yX12_burnsBy wsX12_burnsBy) := goodIn_app (goodIn_of _ (by decide +kernel)) ggX12_ownBy_X12_burnsBy
set_option maxRecDepth 20000 in
theorem ggX12_ownBy_X12_in : GoodIn wsX12_ownBy wsX12_in := goodIn_r _ [7] (by decide +kernel) (by decide +kernel)
set_option maxRecDepth 20000 in
theorem gX12_ownBy_X12_in : GoodIn wsX12_ownBy (va_wsS RX12 68 yX12_in wsX12_in) := goodIn_app (goodIn_of _ (by decide +kernel)) ggX12_ownBy_X12_in
theorem dX12_ownBy_0 : decode cX12_ownBy 0 = .ok (.iload_n 2, 1) := by decide +kernel
theorem dX12_ownBy_1 : decode cX12_ownBy 1 = .ok (.iconst 0, 1) := by decide +kernel
theorem dX12_ownBy_2 : decode cX12_ownBy 2 = .ok (.iload_n 0, 1) := by decide +kernel
theorem dX12_ownBy_3 : decode cX12_ownBy 3 = .ok (.iload_n 1, 1) := by decide +kernel
theorem dX12_ownBy_4 : decode cX12_ownBy 4 = .ok (.invokestatic 136, 3) := by decide +kernel
theorem dX12_ownBy_7 : decode cX12_ownBy 7 = .ok (.iconst 1, 1) := by decide +kernel
theorem dX12_ownBy_8 : decode cX12_ownBy 8 = .ok (.isub, 1) := by decide +kernel
theorem dX12_ownBy_9 : decode cX12_ownBy 9 = .ok (.invokestatic 68, 3) := by decide +kernel
theorem dX12_ownBy_12 : decode cX12_ownBy 12 = .ok (.ifCond .ne 5, 3) := by decide +kernel
theorem dX12_ownBy_15 : decode cX12_ownBy 15 = .ok (.iconst (-1), 1) := by decide +kernel
theorem dX12_ownBy_16 : decode cX12_ownBy 16 = .ok (.ireturn, 1) := by decide +kernel
theorem dX12_ownBy_17 : decode cX12_ownBy 17 = .ok (.iload_n 0, 1) := by decide +kernel
theorem dX12_ownBy_18 : decode cX12_ownBy 18 = .ok (.tableswitch 62 0 4 #[34, 36, 42, 46, 50], 34) := by decide +kernel
theorem dX12_ownBy_52 : decode cX12_ownBy 52 = .ok (.iload_n 2, 1) := by decide +kernel
theorem dX12_ownBy_53 : decode cX12_ownBy 53 = .ok (.ireturn, 1) := by decide +kernel
theorem dX12_ownBy_54 : decode cX12_ownBy 54 = .ok (.iload_n 1, 1) := by decide +kernel
theorem dX12_ownBy_55 : decode cX12_ownBy 55 = .ok (.iconst 1, 1) := by decide +kernel
theorem dX12_ownBy_56 : decode cX12_ownBy 56 = .ok (.isub, 1) := by decide +kernel
theorem dX12_ownBy_57 : decode cX12_ownBy 57 = .ok (.iload_n 2, 1) := by decide +kernel
theorem dX12_ownBy_58 : decode cX12_ownBy 58 = .ok (.isub, 1) := by decide +kernel
theorem dX12_ownBy_59 : decode cX12_ownBy 59 = .ok (.ireturn, 1) := by decide +kernel
theorem dX12_ownBy_60 : decode cX12_ownBy 60 = .ok (.iconst 2, 1) := by decide +kernel
theorem dX12_ownBy_61 : decode cX12_ownBy 61 = .ok (.iload_n 2, 1) := by decide +kernel
theorem dX12_ownBy_62 : decode cX12_ownBy 62 = .ok (.imul, 1) := by decide +kernel
theorem dX12_ownBy_63 : decode cX12_ownBy 63 = .ok (.ireturn, 1) := by decide +kernel
theorem dX12_ownBy_64 : decode cX12_ownBy 64 = .ok (.iload_n 2, 1) := by decide +kernel
theorem dX12_ownBy_65 : decode cX12_ownBy 65 = .ok (.iconst 2, 1) := by decide +kernel
theorem dX12_ownBy_66 : decode cX12_ownBy 66 = .ok (.idiv, 1) := by decide +kernel
theorem dX12_ownBy_67 : decode cX12_ownBy 67 = .ok (.ireturn, 1) := by decide +kernel
theorem dX12_ownBy_68 : decode cX12_ownBy 68 = .ok (.iload_n 2, 1) := by decide +kernel
theorem dX12_ownBy_69 : decode cX12_ownBy 69 = .ok (.ifCond .ne 7, 3) := by decide +kernel
theorem dX12_ownBy_72 : decode cX12_ownBy 72 = .ok (.iconst (-1), 1) := by decide +kernel
theorem dX12_ownBy_73 : decode cX12_ownBy 73 = .ok (.goto 6, 3) := by decide +kernel
theorem dX12_ownBy_76 : decode cX12_ownBy 76 = .ok (.iload_n 1, 1) := by decide +kernel
theorem dX12_ownBy_77 : decode cX12_ownBy 77 = .ok (.iload_n 2, 1) := by decide +kernel
theorem dX12_ownBy_78 : decode cX12_ownBy 78 = .ok (.isub, 1) := by decide +kernel
theorem dX12_ownBy_79 : decode cX12_ownBy 79 = .ok (.ireturn, 1) := by decide +kernel
theorem dX12_ownBy_80 : decode cX12_ownBy 80 = .ok (.iload_n 2, 1) := by decide +kernel
theorem dX12_ownBy_81 : decode cX12_ownBy 81 = .ok (.iconst 2, 1) := by decide +kernel
theorem dX12_ownBy_82 : decode cX12_ownBy 82 = .ok (.irem, 1) := by decide +kernel
theorem dX12_ownBy_83 : decode cX12_ownBy 83 = .ok (.ifCond .ne 9, 3) := by decide +kernel
theorem dX12_ownBy_86 : decode cX12_ownBy 86 = .ok (.iload_n 2, 1) := by decide +kernel
theorem dX12_ownBy_87 : decode cX12_ownBy 87 = .ok (.iconst 2, 1) := by decide +kernel
theorem dX12_ownBy_88 : decode cX12_ownBy 88 = .ok (.idiv, 1) := by decide +kernel
theorem dX12_ownBy_89 : decode cX12_ownBy 89 = .ok (.goto 4, 3) := by decide +kernel
theorem dX12_ownBy_92 : decode cX12_ownBy 92 = .ok (.iconst (-1), 1) := by decide +kernel
theorem dX12_ownBy_93 : decode cX12_ownBy 93 = .ok (.ireturn, 1) := by decide +kernel
set_option maxRecDepth 20000 in
theorem ggX12_weatherBy_X12_ownBy : GoodIn wsX12_weatherBy wsX12_ownBy := goodIn_r _ [5, 6, 7, 4, 8, 9, 10, 11] (by decide +kernel) (by decide +kernel)
set_option maxRecDepth 20000 in
theorem gX12_weatherBy_X12_ownBy : GoodIn wsX12_weatherBy (va_wsS RX12 139 yX12_ownBy wsX12_ownBy) := goodIn_app (goodIn_of _ (by decide +kernel)) ggX12_weatherBy_X12_ownBy
theorem dX12_weatherBy_0 : decode cX12_weatherBy 0 = .ok (.iload_n 1, 1) := by decide +kernel
theorem dX12_weatherBy_1 : decode cX12_weatherBy 1 = .ok (.iload_n 3, 1) := by decide +kernel
theorem dX12_weatherBy_2 : decode cX12_weatherBy 2 = .ok (.iload 4, 2) := by decide +kernel
theorem dX12_weatherBy_4 : decode cX12_weatherBy 4 = .ok (.invokestatic 139, 3) := by decide +kernel
theorem dX12_weatherBy_7 : decode cX12_weatherBy 7 = .ok (.istore 5, 2) := by decide +kernel
theorem dX12_weatherBy_9 : decode cX12_weatherBy 9 = .ok (.iload 5, 2) := by decide +kernel
theorem dX12_weatherBy_11 : decode cX12_weatherBy 11 = .ok (.iconst (-1), 1) := by decide +kernel
theorem dX12_weatherBy_12 : decode cX12_weatherBy 12 = .ok (.if_icmp .ne 7, 3) := by decide +kernel
theorem dX12_weatherBy_15 : decode cX12_weatherBy 15 = .ok (.iconst (-1), 1) := by decide +kernel
theorem dX12_weatherBy_16 : decode cX12_weatherBy 16 = .ok (.goto 12, 3) := by decide +kernel
theorem dX12_weatherBy_19 : decode cX12_weatherBy 19 = .ok (.aload_n 0, 1) := by decide +kernel
theorem dX12_weatherBy_20 : decode cX12_weatherBy 20 = .ok (.getfield 17, 3) := by decide +kernel
theorem dX12_weatherBy_23 : decode cX12_weatherBy 23 = .ok (.iload_n 2, 1) := by decide +kernel
theorem dX12_weatherBy_24 : decode cX12_weatherBy 24 = .ok (.iload 5, 2) := by decide +kernel
theorem dX12_weatherBy_26 : decode cX12_weatherBy 26 = .ok (.iadd, 1) := by decide +kernel
theorem dX12_weatherBy_27 : decode cX12_weatherBy 27 = .ok (.iaload, 1) := by decide +kernel
theorem dX12_weatherBy_28 : decode cX12_weatherBy 28 = .ok (.ireturn, 1) := by decide +kernel
set_option maxRecDepth 20000 in
theorem ggX12_burns_X12_lumpAt : GoodIn wsX12_burns wsX12_lumpAt := goodIn_r _ [5, 6, 10, 11, 12, 13, 14, 15, 16, 17, 18, 19, 20, 21, 22, 23, 24, 25, 26, 27, 28, 29, 30, 31, 32, 33, 34] (by decide +kernel) (by decide +kernel)
set_option maxRecDepth 20000 in
theorem gX12_burns_X12_lumpAt : GoodIn wsX12_burns (wsV RX12 143 RX12 yX12_lumpAt wsX12_lumpAt) := goodIn_app (goodIn_of _ (by decide +kernel)) ggX12_burns_X12_lumpAt
set_option maxRecDepth 20000 in
theorem ggX12_burns_X12_burnsBy : GoodIn wsX12_burns wsX12_burnsBy := goodIn_r _ [9] (by decide +kernel) (by decide +kernel)
set_option maxRecDepth 20000 in
theorem gX12_burns_X12_burnsBy : GoodIn wsX12_burns (va_wsS RX12 136 yX12_burnsBy wsX12_burnsBy) := goodIn_app (goodIn_of _ (by decide +kernel)) ggX12_burns_X12_burnsBy
theorem dX12_burns_0 : decode cX12_burns 0 = .ok (.aload_n 0, 1) := by decide +kernel
theorem dX12_burns_1 : decode cX12_burns 1 = .ok (.iload_n 1, 1) := by decide +kernel
theorem dX12_burns_2 : decode cX12_burns 2 = .ok (.iconst 0, 1) := by decide +kernel
theorem dX12_burns_3 : decode cX12_burns 3 = .ok (.invokevirtual 143, 3) := by decide +kernel
theorem dX12_burns_6 : decode cX12_burns 6 = .ok (.aload_n 0, 1) := by decide +kernel
theorem dX12_burns_7 : decode cX12_burns 7 = .ok (.iload_n 1, 1) := by decide +kernel
theorem dX12_burns_8 : decode cX12_burns 8 = .ok (.iconst 2, 1) := by decide +kernel
theorem dX12_burns_9 : decode cX12_burns 9 = .ok (.invokevirtual 143, 3) := by decide +kernel
theorem dX12_burns_12 : decode cX12_burns 12 = .ok (.invokestatic 136, 3) := by decide +kernel
theorem dX12_burns_15 : decode cX12_burns 15 = .ok (.ireturn, 1) := by decide +kernel
set_option maxRecDepth 20000 in
theorem ggX12_weatherOf_X12_lumpAt : GoodIn wsX12_weatherOf wsX12_lumpAt := goodIn_r _ [5, 6, 20, 21, 22, 23, 24, 25, 26, 27, 28, 29, 30, 31, 32, 33, 34, 35, 36, 37, 38, 39, 40, 41, 42, 43, 44] (by decide +kernel) (by decide +kernel)
set_option maxRecDepth 20000 in
theorem gX12_weatherOf_X12_lumpAt : GoodIn wsX12_weatherOf (wsV RX12 143 RX12 yX12_lumpAt wsX12_lumpAt) := goodIn_app (goodIn_of _ (by decide +kernel)) ggX12_weatherOf_X12_lumpAt
set_option maxRecDepth 20000 in
theorem ggX12_weatherOf_X12_weatherBy : GoodIn wsX12_weatherOf wsX12_weatherBy := goodIn_r _ [10, 6, 11, 12, 4, 13, 14, 15, 16, 17, 18, 19, 20, 21, 22, 23, 24, 25, 26, 27, 28, 29, 30, 31, 32, 33, 34, 35, 36, 37, 38, 39, 40, 41, 42, 43, 44] (by decide +kernel) (by decide +kernel)
set_option maxRecDepth 20000 in
theorem gX12_weatherOf_X12_weatherBy : GoodIn wsX12_weatherOf (wsV RX12 146 RX12 yX12_weatherBy wsX12_weatherBy) := goodIn_app (goodIn_of _ (by decide +kernel)) ggX12_weatherOf_X12_weatherBy
theorem dX12_weatherOf_0 : decode cX12_weatherOf 0 = .ok (.aload_n 0, 1) := by decide +kernel
theorem dX12_weatherOf_1 : decode cX12_weatherOf 1 = .ok (.aload_n 0, 1) := by decide +kernel
theorem dX12_weatherOf_2 : decode cX12_weatherOf 2 = .ok (.iload_n 1, 1) := by decide +kernel
theorem dX12_weatherOf_3 : decode cX12_weatherOf 3 = .ok (.iconst 0, 1) := by decide +kernel
theorem dX12_weatherOf_4 : decode cX12_weatherOf 4 = .ok (.invokevirtual 143, 3) := by decide +kernel
theorem dX12_weatherOf_7 : decode cX12_weatherOf 7 = .ok (.aload_n 0, 1) := by decide +kernel
theorem dX12_weatherOf_8 : decode cX12_weatherOf 8 = .ok (.iload_n 1, 1) := by decide +kernel
theorem dX12_weatherOf_9 : decode cX12_weatherOf 9 = .ok (.iconst 1, 1) := by decide +kernel
theorem dX12_weatherOf_10 : decode cX12_weatherOf 10 = .ok (.invokevirtual 143, 3) := by decide +kernel
theorem dX12_weatherOf_13 : decode cX12_weatherOf 13 = .ok (.aload_n 0, 1) := by decide +kernel
theorem dX12_weatherOf_14 : decode cX12_weatherOf 14 = .ok (.iload_n 1, 1) := by decide +kernel
theorem dX12_weatherOf_15 : decode cX12_weatherOf 15 = .ok (.iconst 2, 1) := by decide +kernel
theorem dX12_weatherOf_16 : decode cX12_weatherOf 16 = .ok (.invokevirtual 143, 3) := by decide +kernel
theorem dX12_weatherOf_19 : decode cX12_weatherOf 19 = .ok (.iload_n 2, 1) := by decide +kernel
theorem dX12_weatherOf_20 : decode cX12_weatherOf 20 = .ok (.invokevirtual 146, 3) := by decide +kernel
theorem dX12_weatherOf_23 : decode cX12_weatherOf 23 = .ok (.ireturn, 1) := by decide +kernel
set_option maxRecDepth 20000 in
theorem ggX12_showMany_X12_burns : GoodIn wsX12_showMany wsX12_burns := goodIn_r _ [5, 6, 7, 8, 4, 9, 10, 11, 12, 13, 28, 29, 30, 31, 32, 33, 34, 35, 36, 37, 38, 39, 40, 41, 42, 43, 44, 45, 46, 47, 48, 49, 50, 51, 52] (by decide +kernel) (by decide +kernel)
set_option maxRecDepth 20000 in
theorem gX12_showMany_X12_burns : GoodIn wsX12_showMany (wsV RX12 150 RX12 yX12_burns wsX12_burns) := goodIn_app (goodIn_of _ (by decide +kernel)) ggX12_showMany_X12_burns
set_option maxRecDepth 20000 in
theorem ggX12_showMany_X12_weatherOf : GoodIn wsX12_showMany wsX12_weatherOf := goodIn_r _ [17, 6, 7, 8, 4, 9, 10, 18, 19, 20, 21, 22, 23, 24, 11, 12, 13, 25, 26, 27, 28, 29, 30, 31, 32, 33, 34, 35, 36, 37, 38, 39, 40, 41, 42, 43, 44, 45, 46, 47, 48, 49, 50, 51, 52] (by decide +kernel) (by decide +kernel)
set_option maxRecDepth 20000 in
theorem gX12_showMany_X12_weatherOf : GoodIn wsX12_showMany (wsV RX12 153 RX12 yX12_weatherOf wsX12_weatherOf) := goodIn_app (goodIn_of _ (by decide +kernel)) ggX12_showMany_X12_weatherOf
theorem dX12_showMany_0 : decode cX12_showMany 0 = .ok (.iconst 0, 1) := by decide +kernel
theorem dX12_showMany_1 : decode cX12_showMany 1 = .ok (.istore_n 2, 1) := by decide +kernel
theorem dX12_showMany_2 : decode cX12_showMany 2 = .ok (.iconst 0, 1) := by decide +kernel
theorem dX12_showMany_3 : decode cX12_showMany 3 = .ok (.istore_n 3, 1) := by decide +kernel
theorem dX12_showMany_4 : decode cX12_showMany 4 = .ok (.iload_n 3, 1) := by decide +kernel
theorem dX12_showMany_5 : decode cX12_showMany 5 = .ok (.aload_n 0, 1) := by decide +kernel
theorem dX12_showMany_6 : decode cX12_showMany 6 = .ok (.iload_n 1, 1) := by decide +kernel
theorem dX12_showMany_7 : decode cX12_showMany 7 = .ok (.invokevirtual 150, 3) := by decide +kernel
theorem dX12_showMany_10 : decode cX12_showMany 10 = .ok (.if_icmp .ge 27, 3) := by decide +kernel
theorem dX12_showMany_13 : decode cX12_showMany 13 = .ok (.iload_n 2, 1) := by decide +kernel
theorem dX12_showMany_14 : decode cX12_showMany 14 = .ok (.aload_n 0, 1) := by decide +kernel
theorem dX12_showMany_15 : decode cX12_showMany 15 = .ok (.iload_n 1, 1) := by decide +kernel
theorem dX12_showMany_16 : decode cX12_showMany 16 = .ok (.iload_n 3, 1) := by decide +kernel
theorem dX12_showMany_17 : decode cX12_showMany 17 = .ok (.invokevirtual 153, 3) := by decide +kernel
theorem dX12_showMany_20 : decode cX12_showMany 20 = .ok (.iconst (-1), 1) := by decide +kernel
theorem dX12_showMany_21 : decode cX12_showMany 21 = .ok (.if_icmp .ne 7, 3) := by decide +kernel
theorem dX12_showMany_24 : decode cX12_showMany 24 = .ok (.iconst 0, 1) := by decide +kernel
theorem dX12_showMany_25 : decode cX12_showMany 25 = .ok (.goto 4, 3) := by decide +kernel
theorem dX12_showMany_28 : decode cX12_showMany 28 = .ok (.iconst 1, 1) := by decide +kernel
theorem dX12_showMany_29 : decode cX12_showMany 29 = .ok (.iadd, 1) := by decide +kernel
theorem dX12_showMany_30 : decode cX12_showMany 30 = .ok (.istore_n 2, 1) := by decide +kernel
theorem dX12_showMany_31 : decode cX12_showMany 31 = .ok (.iinc 3 1, 3) := by decide +kernel
theorem dX12_showMany_34 : decode cX12_showMany 34 = .ok (.goto (-30), 3) := by decide +kernel
theorem dX12_showMany_37 : decode cX12_showMany 37 = .ok (.iload_n 2, 1) := by decide +kernel
theorem dX12_showMany_38 : decode cX12_showMany 38 = .ok (.ireturn, 1) := by decide +kernel
set_option maxRecDepth 20000 in
theorem ggX12_worth_X12_burns : GoodIn wsX12_worth wsX12_burns := goodIn_r _ [6, 7, 8, 9, 5, 10, 1, 11, 12, 13, 28, 29, 30, 31, 32, 33, 34, 35, 36, 37, 38, 39, 40, 41, 42, 43, 44, 45, 46, 47, 48, 49, 50, 51, 52] (by decide +kernel) (by decide +kernel)
set_option maxRecDepth 20000 in
theorem gX12_worth_X12_burns : GoodIn wsX12_worth (wsV RX12 150 RX12 yX12_burns wsX12_burns) := goodIn_app (goodIn_of _ (by decide +kernel)) ggX12_worth_X12_burns
set_option maxRecDepth 20000 in
theorem ggX12_worth_X12_weatherOf : GoodIn wsX12_worth wsX12_weatherOf := goodIn_r _ [17, 7, 8, 9, 5, 10, 1, 18, 19, 20, 21, 22, 23, 24, 11, 12, 13, 25, 26, 27, 28, 29, 30, 31, 32, 33, 34, 35, 36, 37, 38, 39, 40, 41, 42, 43, 44, 45, 46, 47, 48, 49, 50, 51, 52] (by decide +kernel) (by decide +kernel)
set_option maxRecDepth 20000 in
theorem gX12_worth_X12_weatherOf : GoodIn wsX12_worth (wsV RX12 153 RX12 yX12_weatherOf wsX12_weatherOf) := goodIn_app (goodIn_of _ (by decide +kernel)) ggX12_worth_X12_weatherOf
theorem dX12_worth_0 : decode cX12_worth 0 = .ok (.iconst 0, 1) := by decide +kernel
theorem dX12_worth_1 : decode cX12_worth 1 = .ok (.istore_n 2, 1) := by decide +kernel
theorem dX12_worth_2 : decode cX12_worth 2 = .ok (.iconst 0, 1) := by decide +kernel
theorem dX12_worth_3 : decode cX12_worth 3 = .ok (.istore_n 3, 1) := by decide +kernel
theorem dX12_worth_4 : decode cX12_worth 4 = .ok (.iload_n 3, 1) := by decide +kernel
theorem dX12_worth_5 : decode cX12_worth 5 = .ok (.aload_n 0, 1) := by decide +kernel
theorem dX12_worth_6 : decode cX12_worth 6 = .ok (.iload_n 1, 1) := by decide +kernel
theorem dX12_worth_7 : decode cX12_worth 7 = .ok (.invokevirtual 150, 3) := by decide +kernel
theorem dX12_worth_10 : decode cX12_worth 10 = .ok (.if_icmp .ge 40, 3) := by decide +kernel
theorem dX12_worth_13 : decode cX12_worth 13 = .ok (.aload_n 0, 1) := by decide +kernel
theorem dX12_worth_14 : decode cX12_worth 14 = .ok (.iload_n 1, 1) := by decide +kernel
theorem dX12_worth_15 : decode cX12_worth 15 = .ok (.iload_n 3, 1) := by decide +kernel
theorem dX12_worth_16 : decode cX12_worth 16 = .ok (.invokevirtual 153, 3) := by decide +kernel
theorem dX12_worth_19 : decode cX12_worth 19 = .ok (.istore 4, 2) := by decide +kernel
theorem dX12_worth_21 : decode cX12_worth 21 = .ok (.iload_n 2, 1) := by decide +kernel
theorem dX12_worth_22 : decode cX12_worth 22 = .ok (.iload 4, 2) := by decide +kernel
theorem dX12_worth_24 : decode cX12_worth 24 = .ok (.iconst (-1), 1) := by decide +kernel
theorem dX12_worth_25 : decode cX12_worth 25 = .ok (.if_icmp .ne 7, 3) := by decide +kernel
theorem dX12_worth_28 : decode cX12_worth 28 = .ok (.iconst 0, 1) := by decide +kernel
theorem dX12_worth_29 : decode cX12_worth 29 = .ok (.goto 13, 3) := by decide +kernel
theorem dX12_worth_32 : decode cX12_worth 32 = .ok (.aload_n 0, 1) := by decide +kernel
theorem dX12_worth_33 : decode cX12_worth 33 = .ok (.getfield 17, 3) := by decide +kernel
theorem dX12_worth_36 : decode cX12_worth 36 = .ok (.bipush 12, 2) := by decide +kernel
theorem dX12_worth_38 : decode cX12_worth 38 = .ok (.iload 4, 2) := by decide +kernel
theorem dX12_worth_40 : decode cX12_worth 40 = .ok (.iadd, 1) := by decide +kernel
theorem dX12_worth_41 : decode cX12_worth 41 = .ok (.iaload, 1) := by decide +kernel
theorem dX12_worth_42 : decode cX12_worth 42 = .ok (.iadd, 1) := by decide +kernel
theorem dX12_worth_43 : decode cX12_worth 43 = .ok (.istore_n 2, 1) := by decide +kernel
theorem dX12_worth_44 : decode cX12_worth 44 = .ok (.iinc 3 1, 3) := by decide +kernel
theorem dX12_worth_47 : decode cX12_worth 47 = .ok (.goto (-43), 3) := by decide +kernel
theorem dX12_worth_50 : decode cX12_worth 50 = .ok (.iload_n 2, 1) := by decide +kernel
theorem dX12_worth_51 : decode cX12_worth 51 = .ok (.ireturn, 1) := by decide +kernel
set_option maxRecDepth 20000 in
theorem ggX12_isBurnt_X12_lumpAt : GoodIn wsX12_isBurnt wsX12_lumpAt := goodIn_r _ [5, 6, 7, 8, 9, 10, 11, 12, 13, 14, 15, 16, 17, 18, 19, 20, 21, 22, 23, 24, 25, 26, 27, 28, 29, 30, 31] (by decide +kernel) (by decide +kernel)
set_option maxRecDepth 20000 in
theorem gX12_isBurnt_X12_lumpAt : GoodIn wsX12_isBurnt (wsV RX12 143 RX12 yX12_lumpAt wsX12_lumpAt) := goodIn_app (goodIn_of _ (by decide +kernel)) ggX12_isBurnt_X12_lumpAt
theorem dX12_isBurnt_0 : decode cX12_isBurnt 0 = .ok (.aload_n 0, 1) := by decide +kernel
theorem dX12_isBurnt_1 : decode cX12_isBurnt 1 = .ok (.iload_n 1, 1) := by decide +kernel
theorem dX12_isBurnt_2 : decode cX12_isBurnt 2 = .ok (.iconst 3, 1) := by decide +kernel
theorem dX12_isBurnt_3 : decode cX12_isBurnt 3 = .ok (.invokevirtual 143, 3) := by decide +kernel
theorem dX12_isBurnt_6 : decode cX12_isBurnt 6 = .ok (.iconst 1, 1) := by decide +kernel
theorem dX12_isBurnt_7 : decode cX12_isBurnt 7 = .ok (.if_icmp .ne 7, 3) := by decide +kernel
theorem dX12_isBurnt_10 : decode cX12_isBurnt 10 = .ok (.iconst 1, 1) := by decide +kernel
theorem dX12_isBurnt_11 : decode cX12_isBurnt 11 = .ok (.goto 4, 3) := by decide +kernel
theorem dX12_isBurnt_14 : decode cX12_isBurnt 14 = .ok (.iconst 0, 1) := by decide +kernel
theorem dX12_isBurnt_15 : decode cX12_isBurnt 15 = .ok (.ireturn, 1) := by decide +kernel
set_option maxRecDepth 20000 in
theorem ggX12_burn_X12_isLump : GoodIn wsX12_burn wsX12_isLump := goodIn_r _ [6, 1, 7, 8, 5, 9, 49, 50, 51, 52, 53, 54, 55, 56, 57, 58, 59, 60, 61, 62, 63, 64, 65, 66, 67, 68, 69, 70, 71, 72, 73] (by decide +kernel) (by decide +kernel)
set_option maxRecDepth 20000 in
theorem gX12_burn_X12_isLump : GoodIn wsX12_burn (wsV RX12 156 RX12 yX12_isLump wsX12_isLump) := goodIn_app (goodIn_of _ (by decide +kernel)) ggX12_burn_X12_isLump
set_option maxRecDepth 20000 in
theorem ggX12_burn_X12_bad : GoodIn wsX12_burn wsX12_bad := goodIn_r _ [13, 14, 49, 50, 51, 52, 53, 54, 55, 56, 57, 58, 59, 60, 61, 62, 63, 64, 65, 66, 67, 68, 69, 70, 71, 72, 73] (by decide +kernel) (by decide +kernel)
set_option maxRecDepth 20000 in
theorem gX12_burn_X12_bad : GoodIn wsX12_burn (wsV RX12 72 RX12 yX12_bad wsX12_bad) := goodIn_app (goodIn_of _ (by decide +kernel)) ggX12_burn_X12_bad
set_option maxRecDepth 20000 in
theorem ggX12_burn_X12_isBurnt : GoodIn wsX12_burn wsX12_isBurnt := goodIn_r _ [18, 19, 20, 21, 5, 22, 1, 49, 50, 51, 52, 53, 54, 55, 56, 57, 58, 59, 60, 61, 62, 63, 64, 65, 66, 67, 68, 69, 70, 71, 72, 73] (by decide +kernel) (by decide +kernel)
set_option maxRecDepth 20000 in
theorem gX12_burn_X12_isBurnt : GoodIn wsX12_burn (wsV RX12 160 RX12 yX12_isBurnt wsX12_isBurnt) := goodIn_app (goodIn_of _ (by decide +kernel)) ggX12_burn_X12_isBurnt
set_option maxRecDepth 20000 in
theorem ggX12_burn_X12_no : GoodIn wsX12_burn wsX12_no := goodIn_r _ [26, 14, 49, 50, 51, 52, 53, 54, 55, 56, 57, 58, 59, 60, 61, 62, 63, 64, 65, 66, 67, 68, 69, 70, 71, 72, 73] (by decide +kernel) (by decide +kernel)
set_option maxRecDepth 20000 in
theorem gX12_burn_X12_no : GoodIn wsX12_burn (wsV RX12 163 RX12 yX12_no wsX12_no) := goodIn_app (goodIn_of _ (by decide +kernel)) ggX12_burn_X12_no
set_option maxRecDepth 20000 in
theorem ggX12_burn_X12_worth : GoodIn wsX12_burn wsX12_worth := goodIn_r _ [30, 1, 31, 32, 33, 5, 34, 19, 20, 21, 22, 35, 36, 37, 38, 39, 40, 41, 42, 43, 44, 45, 46, 47, 48, 7, 8, 9, 49, 50, 51, 52, 53, 54, 55, 56, 57, 58, 59, 60, 61, 62, 63, 64, 65, 66, 67, 68, 69, 70, 71, 72, 73] (by decide +kernel) (by decide +kernel)
set_option maxRecDepth 20000 in
theorem gX12_burn_X12_worth : GoodIn wsX12_burn (wsV RX12 166 RX12 yX12_worth wsX12_worth) := goodIn_app (goodIn_of _ (by decide +kernel)) ggX12_burn_X12_worth
set_option maxRecDepth 20000 in
theorem ggX12_burn_X12_burns : GoodIn wsX12_burn wsX12_burns := goodIn_r _ [34, 19, 20, 21, 5, 22, 1, 35, 36, 37, 49, 50, 51, 52, 53, 54, 55, 56, 57, 58, 59, 60, 61, 62, 63, 64, 65, 66, 67, 68, 69, 70, 71, 72, 73] (by decide +kernel) (by decide +kernel)
set_option maxRecDepth 20000 in
theorem gX12_burn_X12_burns : GoodIn wsX12_burn (wsV RX12 150 RX12 yX12_burns wsX12_burns) := goodIn_app (goodIn_of _ (by decide +kernel)) ggX12_burn_X12_burns
theorem dX12_burn_0 : decode cX12_burn 0 = .ok (.aload_n 0, 1) := by decide +kernel
theorem dX12_burn_1 : decode cX12_burn 1 = .ok (.iload_n 1, 1) := by decide +kernel
theorem dX12_burn_2 : decode cX12_burn 2 = .ok (.invokevirtual 156, 3) := by decide +kernel
theorem dX12_burn_5 : decode cX12_burn 5 = .ok (.ifCond .ne 8, 3) := by decide +kernel
theorem dX12_burn_8 : decode cX12_burn 8 = .ok (.aload_n 0, 1) := by decide +kernel
theorem dX12_burn_9 : decode cX12_burn 9 = .ok (.invokevirtual 72, 3) := by decide +kernel
theorem dX12_burn_12 : decode cX12_burn 12 = .ok (.ireturn, 1) := by decide +kernel
theorem dX12_burn_13 : decode cX12_burn 13 = .ok (.aload_n 0, 1) := by decide +kernel
theorem dX12_burn_14 : decode cX12_burn 14 = .ok (.iload_n 1, 1) := by decide +kernel
theorem dX12_burn_15 : decode cX12_burn 15 = .ok (.invokevirtual 160, 3) := by decide +kernel
theorem dX12_burn_18 : decode cX12_burn 18 = .ok (.ifCond .eq 8, 3) := by decide +kernel
theorem dX12_burn_21 : decode cX12_burn 21 = .ok (.aload_n 0, 1) := by decide +kernel
theorem dX12_burn_22 : decode cX12_burn 22 = .ok (.invokevirtual 163, 3) := by decide +kernel
theorem dX12_burn_25 : decode cX12_burn 25 = .ok (.ireturn, 1) := by decide +kernel
theorem dX12_burn_26 : decode cX12_burn 26 = .ok (.bipush 54, 2) := by decide +kernel
theorem dX12_burn_28 : decode cX12_burn 28 = .ok (.iconst 3, 1) := by decide +kernel
theorem dX12_burn_29 : decode cX12_burn 29 = .ok (.aload_n 0, 1) := by decide +kernel
theorem dX12_burn_30 : decode cX12_burn 30 = .ok (.getfield 17, 3) := by decide +kernel
theorem dX12_burn_33 : decode cX12_burn 33 = .ok (.bipush 53, 2) := by decide +kernel
theorem dX12_burn_35 : decode cX12_burn 35 = .ok (.iaload, 1) := by decide +kernel
theorem dX12_burn_36 : decode cX12_burn 36 = .ok (.imul, 1) := by decide +kernel
theorem dX12_burn_37 : decode cX12_burn 37 = .ok (.iadd, 1) := by decide +kernel
theorem dX12_burn_38 : decode cX12_burn 38 = .ok (.istore_n 2, 1) := by decide +kernel
theorem dX12_burn_39 : decode cX12_burn 39 = .ok (.aload_n 0, 1) := by decide +kernel
theorem dX12_burn_40 : decode cX12_burn 40 = .ok (.getfield 17, 3) := by decide +kernel
theorem dX12_burn_43 : decode cX12_burn 43 = .ok (.iload_n 2, 1) := by decide +kernel
theorem dX12_burn_44 : decode cX12_burn 44 = .ok (.iload_n 1, 1) := by decide +kernel
theorem dX12_burn_45 : decode cX12_burn 45 = .ok (.iastore, 1) := by decide +kernel
theorem dX12_burn_46 : decode cX12_burn 46 = .ok (.aload_n 0, 1) := by decide +kernel
theorem dX12_burn_47 : decode cX12_burn 47 = .ok (.getfield 17, 3) := by decide +kernel
theorem dX12_burn_50 : decode cX12_burn 50 = .ok (.iload_n 2, 1) := by decide +kernel
theorem dX12_burn_51 : decode cX12_burn 51 = .ok (.iconst 1, 1) := by decide +kernel
theorem dX12_burn_52 : decode cX12_burn 52 = .ok (.iadd, 1) := by decide +kernel
theorem dX12_burn_53 : decode cX12_burn 53 = .ok (.aload_n 0, 1) := by decide +kernel
theorem dX12_burn_54 : decode cX12_burn 54 = .ok (.getfield 17, 3) := by decide +kernel
theorem dX12_burn_57 : decode cX12_burn 57 = .ok (.bipush 51, 2) := by decide +kernel
theorem dX12_burn_59 : decode cX12_burn 59 = .ok (.iaload, 1) := by decide +kernel
theorem dX12_burn_60 : decode cX12_burn 60 = .ok (.iastore, 1) := by decide +kernel
theorem dX12_burn_61 : decode cX12_burn 61 = .ok (.aload_n 0, 1) := by decide +kernel
theorem dX12_burn_62 : decode cX12_burn 62 = .ok (.getfield 17, 3) := by decide +kernel
theorem dX12_burn_65 : decode cX12_burn 65 = .ok (.iload_n 2, 1) := by decide +kernel
theorem dX12_burn_66 : decode cX12_burn 66 = .ok (.iconst 2, 1) := by decide +kernel
theorem dX12_burn_67 : decode cX12_burn 67 = .ok (.iadd, 1) := by decide +kernel
theorem dX12_burn_68 : decode cX12_burn 68 = .ok (.aload_n 0, 1) := by decide +kernel
theorem dX12_burn_69 : decode cX12_burn 69 = .ok (.getfield 17, 3) := by decide +kernel
theorem dX12_burn_72 : decode cX12_burn 72 = .ok (.bipush 52, 2) := by decide +kernel
theorem dX12_burn_74 : decode cX12_burn 74 = .ok (.iaload, 1) := by decide +kernel
theorem dX12_burn_75 : decode cX12_burn 75 = .ok (.iastore, 1) := by decide +kernel
theorem dX12_burn_76 : decode cX12_burn 76 = .ok (.aload_n 0, 1) := by decide +kernel
theorem dX12_burn_77 : decode cX12_burn 77 = .ok (.getfield 17, 3) := by decide +kernel
theorem dX12_burn_80 : decode cX12_burn 80 = .ok (.bipush 53, 2) := by decide +kernel
theorem dX12_burn_82 : decode cX12_burn 82 = .ok (.dup2, 1) := by decide +kernel
theorem dX12_burn_83 : decode cX12_burn 83 = .ok (.iaload, 1) := by decide +kernel
theorem dX12_burn_84 : decode cX12_burn 84 = .ok (.iconst 1, 1) := by decide +kernel
theorem dX12_burn_85 : decode cX12_burn 85 = .ok (.iadd, 1) := by decide +kernel
theorem dX12_burn_86 : decode cX12_burn 86 = .ok (.iastore, 1) := by decide +kernel
theorem dX12_burn_87 : decode cX12_burn 87 = .ok (.aload_n 0, 1) := by decide +kernel
theorem dX12_burn_88 : decode cX12_burn 88 = .ok (.iload_n 1, 1) := by decide +kernel
theorem dX12_burn_89 : decode cX12_burn 89 = .ok (.invokevirtual 166, 3) := by decide +kernel
theorem dX12_burn_92 : decode cX12_burn 92 = .ok (.istore_n 3, 1) := by decide +kernel
theorem dX12_burn_93 : decode cX12_burn 93 = .ok (.aload_n 0, 1) := by decide +kernel
theorem dX12_burn_94 : decode cX12_burn 94 = .ok (.getfield 17, 3) := by decide +kernel
theorem dX12_burn_97 : decode cX12_burn 97 = .ok (.bipush 18, 2) := by decide +kernel
theorem dX12_burn_99 : decode cX12_burn 99 = .ok (.iconst 4, 1) := by decide +kernel
theorem dX12_burn_100 : decode cX12_burn 100 = .ok (.iload_n 1, 1) := by decide +kernel
theorem dX12_burn_101 : decode cX12_burn 101 = .ok (.imul, 1) := by decide +kernel
theorem dX12_burn_102 : decode cX12_burn 102 = .ok (.iadd, 1) := by decide +kernel
theorem dX12_burn_103 : decode cX12_burn 103 = .ok (.iconst 3, 1) := by decide +kernel
theorem dX12_burn_104 : decode cX12_burn 104 = .ok (.iadd, 1) := by decide +kernel
theorem dX12_burn_105 : decode cX12_burn 105 = .ok (.iconst 1, 1) := by decide +kernel
theorem dX12_burn_106 : decode cX12_burn 106 = .ok (.iastore, 1) := by decide +kernel
theorem dX12_burn_107 : decode cX12_burn 107 = .ok (.aload_n 0, 1) := by decide +kernel
theorem dX12_burn_108 : decode cX12_burn 108 = .ok (.getfield 17, 3) := by decide +kernel
theorem dX12_burn_111 : decode cX12_burn 111 = .ok (.bipush 51, 2) := by decide +kernel
theorem dX12_burn_113 : decode cX12_burn 113 = .ok (.dup2, 1) := by decide +kernel
theorem dX12_burn_114 : decode cX12_burn 114 = .ok (.iaload, 1) := by decide +kernel
theorem dX12_burn_115 : decode cX12_burn 115 = .ok (.iload_n 3, 1) := by decide +kernel
theorem dX12_burn_116 : decode cX12_burn 116 = .ok (.iadd, 1) := by decide +kernel
theorem dX12_burn_117 : decode cX12_burn 117 = .ok (.iastore, 1) := by decide +kernel
theorem dX12_burn_118 : decode cX12_burn 118 = .ok (.aload_n 0, 1) := by decide +kernel
theorem dX12_burn_119 : decode cX12_burn 119 = .ok (.getfield 17, 3) := by decide +kernel
theorem dX12_burn_122 : decode cX12_burn 122 = .ok (.bipush 52, 2) := by decide +kernel
theorem dX12_burn_124 : decode cX12_burn 124 = .ok (.dup2, 1) := by decide +kernel
theorem dX12_burn_125 : decode cX12_burn 125 = .ok (.iaload, 1) := by decide +kernel
theorem dX12_burn_126 : decode cX12_burn 126 = .ok (.aload_n 0, 1) := by decide +kernel
theorem dX12_burn_127 : decode cX12_burn 127 = .ok (.iload_n 1, 1) := by decide +kernel
theorem dX12_burn_128 : decode cX12_burn 128 = .ok (.invokevirtual 150, 3) := by decide +kernel
theorem dX12_burn_131 : decode cX12_burn 131 = .ok (.iadd, 1) := by decide +kernel
theorem dX12_burn_132 : decode cX12_burn 132 = .ok (.iastore, 1) := by decide +kernel
theorem dX12_burn_133 : decode cX12_burn 133 = .ok (.iload_n 3, 1) := by decide +kernel
theorem dX12_burn_134 : decode cX12_burn 134 = .ok (.ireturn, 1) := by decide +kernel
set_option maxRecDepth 20000 in
theorem ggX12_undo_X12_no : GoodIn wsX12_undo wsX12_no := goodIn_r _ [6, 7, 8, 9, 10, 11, 12, 13, 14, 15, 16, 17, 18, 19, 20, 21, 22, 23, 24, 25, 26, 27, 28, 29, 30, 31, 32] (by decide +kernel) (by decide +kernel)
set_option maxRecDepth 20000 in
theorem gX12_undo_X12_no : GoodIn wsX12_undo (wsV RX12 163 RX12 yX12_no wsX12_no) := goodIn_app (goodIn_of _ (by decide +kernel)) ggX12_undo_X12_no
theorem dX12_undo_0 : decode cX12_undo 0 = .ok (.aload_n 0, 1) := by decide +kernel
theorem dX12_undo_1 : decode cX12_undo 1 = .ok (.getfield 17, 3) := by decide +kernel
theorem dX12_undo_4 : decode cX12_undo 4 = .ok (.bipush 53, 2) := by decide +kernel
theorem dX12_undo_6 : decode cX12_undo 6 = .ok (.iaload, 1) := by decide +kernel
theorem dX12_undo_7 : decode cX12_undo 7 = .ok (.ifCond .ne 8, 3) := by decide +kernel
theorem dX12_undo_10 : decode cX12_undo 10 = .ok (.aload_n 0, 1) := by decide +kernel
theorem dX12_undo_11 : decode cX12_undo 11 = .ok (.invokevirtual 163, 3) := by decide +kernel
theorem dX12_undo_14 : decode cX12_undo 14 = .ok (.ireturn, 1) := by decide +kernel
theorem dX12_undo_15 : decode cX12_undo 15 = .ok (.aload_n 0, 1) := by decide +kernel
theorem dX12_undo_16 : decode cX12_undo 16 = .ok (.getfield 17, 3) := by decide +kernel
theorem dX12_undo_19 : decode cX12_undo 19 = .ok (.bipush 53, 2) := by decide +kernel
theorem dX12_undo_21 : decode cX12_undo 21 = .ok (.dup2, 1) := by decide +kernel
theorem dX12_undo_22 : decode cX12_undo 22 = .ok (.iaload, 1) := by decide +kernel
theorem dX12_undo_23 : decode cX12_undo 23 = .ok (.iconst 1, 1) := by decide +kernel
theorem dX12_undo_24 : decode cX12_undo 24 = .ok (.isub, 1) := by decide +kernel
theorem dX12_undo_25 : decode cX12_undo 25 = .ok (.iastore, 1) := by decide +kernel
theorem dX12_undo_26 : decode cX12_undo 26 = .ok (.bipush 54, 2) := by decide +kernel
theorem dX12_undo_28 : decode cX12_undo 28 = .ok (.iconst 3, 1) := by decide +kernel
theorem dX12_undo_29 : decode cX12_undo 29 = .ok (.aload_n 0, 1) := by decide +kernel
theorem dX12_undo_30 : decode cX12_undo 30 = .ok (.getfield 17, 3) := by decide +kernel
theorem dX12_undo_33 : decode cX12_undo 33 = .ok (.bipush 53, 2) := by decide +kernel
theorem dX12_undo_35 : decode cX12_undo 35 = .ok (.iaload, 1) := by decide +kernel
theorem dX12_undo_36 : decode cX12_undo 36 = .ok (.imul, 1) := by decide +kernel
theorem dX12_undo_37 : decode cX12_undo 37 = .ok (.iadd, 1) := by decide +kernel
theorem dX12_undo_38 : decode cX12_undo 38 = .ok (.istore_n 1, 1) := by decide +kernel
theorem dX12_undo_39 : decode cX12_undo 39 = .ok (.aload_n 0, 1) := by decide +kernel
theorem dX12_undo_40 : decode cX12_undo 40 = .ok (.getfield 17, 3) := by decide +kernel
theorem dX12_undo_43 : decode cX12_undo 43 = .ok (.bipush 18, 2) := by decide +kernel
theorem dX12_undo_45 : decode cX12_undo 45 = .ok (.iconst 4, 1) := by decide +kernel
theorem dX12_undo_46 : decode cX12_undo 46 = .ok (.aload_n 0, 1) := by decide +kernel
theorem dX12_undo_47 : decode cX12_undo 47 = .ok (.getfield 17, 3) := by decide +kernel
theorem dX12_undo_50 : decode cX12_undo 50 = .ok (.iload_n 1, 1) := by decide +kernel
theorem dX12_undo_51 : decode cX12_undo 51 = .ok (.iaload, 1) := by decide +kernel
theorem dX12_undo_52 : decode cX12_undo 52 = .ok (.imul, 1) := by decide +kernel
theorem dX12_undo_53 : decode cX12_undo 53 = .ok (.iadd, 1) := by decide +kernel
theorem dX12_undo_54 : decode cX12_undo 54 = .ok (.iconst 3, 1) := by decide +kernel
theorem dX12_undo_55 : decode cX12_undo 55 = .ok (.iadd, 1) := by decide +kernel
theorem dX12_undo_56 : decode cX12_undo 56 = .ok (.iconst 0, 1) := by decide +kernel
theorem dX12_undo_57 : decode cX12_undo 57 = .ok (.iastore, 1) := by decide +kernel
theorem dX12_undo_58 : decode cX12_undo 58 = .ok (.aload_n 0, 1) := by decide +kernel
theorem dX12_undo_59 : decode cX12_undo 59 = .ok (.getfield 17, 3) := by decide +kernel
theorem dX12_undo_62 : decode cX12_undo 62 = .ok (.bipush 51, 2) := by decide +kernel
theorem dX12_undo_64 : decode cX12_undo 64 = .ok (.aload_n 0, 1) := by decide +kernel
theorem dX12_undo_65 : decode cX12_undo 65 = .ok (.getfield 17, 3) := by decide +kernel
theorem dX12_undo_68 : decode cX12_undo 68 = .ok (.iload_n 1, 1) := by decide +kernel
theorem dX12_undo_69 : decode cX12_undo 69 = .ok (.iconst 1, 1) := by decide +kernel
theorem dX12_undo_70 : decode cX12_undo 70 = .ok (.iadd, 1) := by decide +kernel
theorem dX12_undo_71 : decode cX12_undo 71 = .ok (.iaload, 1) := by decide +kernel
theorem dX12_undo_72 : decode cX12_undo 72 = .ok (.iastore, 1) := by decide +kernel
theorem dX12_undo_73 : decode cX12_undo 73 = .ok (.aload_n 0, 1) := by decide +kernel
theorem dX12_undo_74 : decode cX12_undo 74 = .ok (.getfield 17, 3) := by decide +kernel
theorem dX12_undo_77 : decode cX12_undo 77 = .ok (.bipush 52, 2) := by decide +kernel
theorem dX12_undo_79 : decode cX12_undo 79 = .ok (.aload_n 0, 1) := by decide +kernel
theorem dX12_undo_80 : decode cX12_undo 80 = .ok (.getfield 17, 3) := by decide +kernel
theorem dX12_undo_83 : decode cX12_undo 83 = .ok (.iload_n 1, 1) := by decide +kernel
theorem dX12_undo_84 : decode cX12_undo 84 = .ok (.iconst 2, 1) := by decide +kernel
theorem dX12_undo_85 : decode cX12_undo 85 = .ok (.iadd, 1) := by decide +kernel
theorem dX12_undo_86 : decode cX12_undo 86 = .ok (.iaload, 1) := by decide +kernel
theorem dX12_undo_87 : decode cX12_undo 87 = .ok (.iastore, 1) := by decide +kernel
theorem dX12_undo_88 : decode cX12_undo 88 = .ok (.aload_n 0, 1) := by decide +kernel
theorem dX12_undo_89 : decode cX12_undo 89 = .ok (.getfield 17, 3) := by decide +kernel
theorem dX12_undo_92 : decode cX12_undo 92 = .ok (.bipush 51, 2) := by decide +kernel
theorem dX12_undo_94 : decode cX12_undo 94 = .ok (.iaload, 1) := by decide +kernel
theorem dX12_undo_95 : decode cX12_undo 95 = .ok (.ireturn, 1) := by decide +kernel
set_option maxRecDepth 20000 in
theorem ggX12_of_X12_isLump : GoodIn wsX12_of wsX12_isLump := goodIn_r _ [5, 6, 7, 8, 4, 9, 45, 46, 47, 48, 49, 50, 51, 52, 53, 54, 55, 56, 57, 58, 59, 60, 61, 62, 63, 64, 65, 66, 67, 68, 69] (by decide +kernel) (by decide +kernel)
set_option maxRecDepth 20000 in
theorem gX12_of_X12_isLump : GoodIn wsX12_of (wsV RX12 156 RX12 yX12_isLump wsX12_isLump) := goodIn_app (goodIn_of _ (by decide +kernel)) ggX12_of_X12_isLump
set_option maxRecDepth 20000 in
theorem ggX12_of_X12_in : GoodIn wsX12_of wsX12_in := goodIn_r _ [9] (by decide +kernel) (by decide +kernel)
set_option maxRecDepth 20000 in
theorem gX12_of_X12_in : GoodIn wsX12_of (va_wsS RX12 68 yX12_in wsX12_in) := goodIn_app (goodIn_of _ (by decide +kernel)) ggX12_of_X12_in
set_option maxRecDepth 20000 in
theorem ggX12_of_X12_bad : GoodIn wsX12_of wsX12_bad := goodIn_r _ [13, 14, 45, 46, 47, 48, 49, 50, 51, 52, 53, 54, 55, 56, 57, 58, 59, 60, 61, 62, 63, 64, 65, 66, 67, 68, 69] (by decide +kernel) (by decide +kernel)
set_option maxRecDepth 20000 in
theorem gX12_of_X12_bad : GoodIn wsX12_of (wsV RX12 72 RX12 yX12_bad wsX12_bad) := goodIn_app (goodIn_of _ (by decide +kernel)) ggX12_of_X12_bad
set_option maxRecDepth 20000 in
theorem ggX12_of_X12_burns : GoodIn wsX12_of wsX12_burns := goodIn_r _ [18, 19, 20, 21, 4, 22, 6, 23, 24, 25, 45, 46, 47, 48, 49, 50, 51, 52, 53, 54, 55, 56, 57, 58, 59, 60, 61, 62, 63, 64, 65, 66, 67, 68, 69] (by decide +kernel) (by decide +kernel)
set_option maxRecDepth 20000 in
theorem gX12_of_X12_burns : GoodIn wsX12_of (wsV RX12 150 RX12 yX12_burns wsX12_burns) := goodIn_app (goodIn_of _ (by decide +kernel)) ggX12_of_X12_burns
set_option maxRecDepth 20000 in
theorem ggX12_of_X12_showMany : GoodIn wsX12_of wsX12_showMany := goodIn_r _ [29, 15, 16, 17, 4, 18, 19, 20, 21, 22, 6, 23, 24, 25, 30, 31, 32, 33, 34, 35, 36, 37, 38, 39, 40, 7, 8, 9, 45, 46, 47, 48, 49, 50, 51, 52, 53, 54, 55, 56, 57, 58, 59, 60, 61, 62, 63, 64, 65, 66, 67, 68, 69] (by decide +kernel) (by decide +kernel)
set_option maxRecDepth 20000 in
theorem gX12_of_X12_showMany : GoodIn wsX12_of (wsV RX12 169 RX12 yX12_showMany wsX12_showMany) := goodIn_app (goodIn_of _ (by decide +kernel)) ggX12_of_X12_showMany
set_option maxRecDepth 20000 in
theorem ggX12_of_X12_worth : GoodIn wsX12_of wsX12_worth := goodIn_r _ [44, 6, 15, 16, 17, 4, 18, 19, 20, 21, 22, 23, 24, 25, 30, 31, 32, 33, 34, 35, 36, 37, 38, 39, 40, 7, 8, 9, 45, 46, 47, 48, 49, 50, 51, 52, 53, 54, 55, 56, 57, 58, 59, 60, 61, 62, 63, 64, 65, 66, 67, 68, 69] (by decide +kernel) (by decide +kernel)
set_option maxRecDepth 20000 in
theorem gX12_of_X12_worth : GoodIn wsX12_of (wsV RX12 166 RX12 yX12_worth wsX12_worth) := goodIn_app (goodIn_of _ (by decide +kernel)) ggX12_of_X12_worth
set_option maxRecDepth 20000 in
theorem ggX12_of_X12_lumpAt : GoodIn wsX12_of wsX12_lumpAt := goodIn_r _ [22, 6, 45, 46, 47, 48, 49, 50, 51, 52, 53, 54, 55, 56, 57, 58, 59, 60, 61, 62, 63, 64, 65, 66, 67, 68, 69] (by decide +kernel) (by decide +kernel)
set_option maxRecDepth 20000 in
theorem gX12_of_X12_lumpAt : GoodIn wsX12_of (wsV RX12 143 RX12 yX12_lumpAt wsX12_lumpAt) := goodIn_app (goodIn_of _ (by decide +kernel)) ggX12_of_X12_lumpAt
theorem dX12_of_0 : decode cX12_of 0 = .ok (.aload_n 0, 1) := by decide +kernel
theorem dX12_of_1 : decode cX12_of 1 = .ok (.iload_n 1, 1) := by decide +kernel
theorem dX12_of_2 : decode cX12_of 2 = .ok (.invokevirtual 156, 3) := by decide +kernel
theorem dX12_of_5 : decode cX12_of 5 = .ok (.ifCond .eq 13, 3) := by decide +kernel
theorem dX12_of_8 : decode cX12_of 8 = .ok (.iload_n 2, 1) := by decide +kernel
theorem dX12_of_9 : decode cX12_of 9 = .ok (.iconst 0, 1) := by decide +kernel
theorem dX12_of_10 : decode cX12_of 10 = .ok (.bipush 6, 2) := by decide +kernel
theorem dX12_of_12 : decode cX12_of 12 = .ok (.invokestatic 68, 3) := by decide +kernel
theorem dX12_of_15 : decode cX12_of 15 = .ok (.ifCond .ne 8, 3) := by decide +kernel
theorem dX12_of_18 : decode cX12_of 18 = .ok (.aload_n 0, 1) := by decide +kernel
theorem dX12_of_19 : decode cX12_of 19 = .ok (.invokevirtual 72, 3) := by decide +kernel
theorem dX12_of_22 : decode cX12_of 22 = .ok (.ireturn, 1) := by decide +kernel
theorem dX12_of_23 : decode cX12_of 23 = .ok (.iload_n 2, 1) := by decide +kernel
theorem dX12_of_24 : decode cX12_of 24 = .ok (.tableswitch 46 4 6 #[28, 34, 40], 28) := by decide +kernel
theorem dX12_of_52 : decode cX12_of 52 = .ok (.aload_n 0, 1) := by decide +kernel
theorem dX12_of_53 : decode cX12_of 53 = .ok (.iload_n 1, 1) := by decide +kernel
theorem dX12_of_54 : decode cX12_of 54 = .ok (.invokevirtual 150, 3) := by decide +kernel
theorem dX12_of_57 : decode cX12_of 57 = .ok (.ireturn, 1) := by decide +kernel
theorem dX12_of_58 : decode cX12_of 58 = .ok (.aload_n 0, 1) := by decide +kernel
theorem dX12_of_59 : decode cX12_of 59 = .ok (.iload_n 1, 1) := by decide +kernel
theorem dX12_of_60 : decode cX12_of 60 = .ok (.invokevirtual 169, 3) := by decide +kernel
theorem dX12_of_63 : decode cX12_of 63 = .ok (.ireturn, 1) := by decide +kernel
theorem dX12_of_64 : decode cX12_of 64 = .ok (.aload_n 0, 1) := by decide +kernel
theorem dX12_of_65 : decode cX12_of 65 = .ok (.iload_n 1, 1) := by decide +kernel
theorem dX12_of_66 : decode cX12_of 66 = .ok (.invokevirtual 166, 3) := by decide +kernel
theorem dX12_of_69 : decode cX12_of 69 = .ok (.ireturn, 1) := by decide +kernel
theorem dX12_of_70 : decode cX12_of 70 = .ok (.aload_n 0, 1) := by decide +kernel
theorem dX12_of_71 : decode cX12_of 71 = .ok (.iload_n 1, 1) := by decide +kernel
theorem dX12_of_72 : decode cX12_of 72 = .ok (.iload_n 2, 1) := by decide +kernel
theorem dX12_of_73 : decode cX12_of 73 = .ok (.invokevirtual 143, 3) := by decide +kernel
theorem dX12_of_76 : decode cX12_of 76 = .ok (.ireturn, 1) := by decide +kernel
set_option maxRecDepth 20000 in
theorem ggX12_shows_X12_isLump : GoodIn wsX12_shows wsX12_isLump := goodIn_r _ [5, 6, 7, 8, 4, 9, 25, 26, 27, 28, 29, 30, 31, 32, 33, 34, 35, 36, 37, 38, 39, 40, 41, 42, 43, 44, 45, 46, 47, 48, 49] (by decide +kernel) (by decide +kernel)
set_option maxRecDepth 20000 in
theorem gX12_shows_X12_isLump : GoodIn wsX12_shows (wsV RX12 156 RX12 yX12_isLump wsX12_isLump) := goodIn_app (goodIn_of _ (by decide +kernel)) ggX12_shows_X12_isLump
set_option maxRecDepth 20000 in
theorem ggX12_shows_X12_in : GoodIn wsX12_shows wsX12_in := goodIn_r _ [9] (by decide +kernel) (by decide +kernel)
set_option maxRecDepth 20000 in
theorem gX12_shows_X12_in : GoodIn wsX12_shows (va_wsS RX12 68 yX12_in wsX12_in) := goodIn_app (goodIn_of _ (by decide +kernel)) ggX12_shows_X12_in
set_option maxRecDepth 20000 in
theorem ggX12_shows_X12_bad : GoodIn wsX12_shows wsX12_bad := goodIn_r _ [13, 14, 25, 26, 27, 28, 29, 30, 31, 32, 33, 34, 35, 36, 37, 38, 39, 40, 41, 42, 43, 44, 45, 46, 47, 48, 49] (by decide +kernel) (by decide +kernel)
set_option maxRecDepth 20000 in
theorem gX12_shows_X12_bad : GoodIn wsX12_shows (wsV RX12 72 RX12 yX12_bad wsX12_bad) := goodIn_app (goodIn_of _ (by decide +kernel)) ggX12_shows_X12_bad
set_option maxRecDepth 20000 in
theorem ggX12_shows_X12_lumpAt : GoodIn wsX12_shows wsX12_lumpAt := goodIn_r _ [18, 6, 25, 26, 27, 28, 29, 30, 31, 32, 33, 34, 35, 36, 37, 38, 39, 40, 41, 42, 43, 44, 45, 46, 47, 48, 49] (by decide +kernel) (by decide +kernel)
set_option maxRecDepth 20000 in
theorem gX12_shows_X12_lumpAt : GoodIn wsX12_shows (wsV RX12 143 RX12 yX12_lumpAt wsX12_lumpAt) := goodIn_app (goodIn_of _ (by decide +kernel)) ggX12_shows_X12_lumpAt
set_option maxRecDepth 20000 in
theorem ggX12_shows_X12_ownBy : GoodIn wsX12_shows wsX12_ownBy := goodIn_r _ [21, 22, 23, 4, 24, 7, 8, 9] (by decide +kernel) (by decide +kernel)
set_option maxRecDepth 20000 in
theorem gX12_shows_X12_ownBy : GoodIn wsX12_shows (va_wsS RX12 139 yX12_ownBy wsX12_ownBy) := goodIn_app (goodIn_of _ (by decide +kernel)) ggX12_shows_X12_ownBy
theorem dX12_shows_0 : decode cX12_shows 0 = .ok (.aload_n 0, 1) := by decide +kernel
theorem dX12_shows_1 : decode cX12_shows 1 = .ok (.iload_n 1, 1) := by decide +kernel
theorem dX12_shows_2 : decode cX12_shows 2 = .ok (.invokevirtual 156, 3) := by decide +kernel
theorem dX12_shows_5 : decode cX12_shows 5 = .ok (.ifCond .eq 13, 3) := by decide +kernel
theorem dX12_shows_8 : decode cX12_shows 8 = .ok (.iload_n 2, 1) := by decide +kernel
theorem dX12_shows_9 : decode cX12_shows 9 = .ok (.iconst 0, 1) := by decide +kernel
theorem dX12_shows_10 : decode cX12_shows 10 = .ok (.bipush 20, 2) := by decide +kernel
theorem dX12_shows_12 : decode cX12_shows 12 = .ok (.invokestatic 68, 3) := by decide +kernel
theorem dX12_shows_15 : decode cX12_shows 15 = .ok (.ifCond .ne 8, 3) := by decide +kernel
theorem dX12_shows_18 : decode cX12_shows 18 = .ok (.aload_n 0, 1) := by decide +kernel
theorem dX12_shows_19 : decode cX12_shows 19 = .ok (.invokevirtual 72, 3) := by decide +kernel
theorem dX12_shows_22 : decode cX12_shows 22 = .ok (.ireturn, 1) := by decide +kernel
theorem dX12_shows_23 : decode cX12_shows 23 = .ok (.aload_n 0, 1) := by decide +kernel
theorem dX12_shows_24 : decode cX12_shows 24 = .ok (.iload_n 1, 1) := by decide +kernel
theorem dX12_shows_25 : decode cX12_shows 25 = .ok (.iconst 0, 1) := by decide +kernel
theorem dX12_shows_26 : decode cX12_shows 26 = .ok (.invokevirtual 143, 3) := by decide +kernel
theorem dX12_shows_29 : decode cX12_shows 29 = .ok (.aload_n 0, 1) := by decide +kernel
theorem dX12_shows_30 : decode cX12_shows 30 = .ok (.iload_n 1, 1) := by decide +kernel
theorem dX12_shows_31 : decode cX12_shows 31 = .ok (.iconst 2, 1) := by decide +kernel
theorem dX12_shows_32 : decode cX12_shows 32 = .ok (.invokevirtual 143, 3) := by decide +kernel
theorem dX12_shows_35 : decode cX12_shows 35 = .ok (.iload_n 2, 1) := by decide +kernel
theorem dX12_shows_36 : decode cX12_shows 36 = .ok (.invokestatic 139, 3) := by decide +kernel
theorem dX12_shows_39 : decode cX12_shows 39 = .ok (.istore_n 3, 1) := by decide +kernel
theorem dX12_shows_40 : decode cX12_shows 40 = .ok (.iload_n 3, 1) := by decide +kernel
theorem dX12_shows_41 : decode cX12_shows 41 = .ok (.iconst (-1), 1) := by decide +kernel
theorem dX12_shows_42 : decode cX12_shows 42 = .ok (.if_icmp .ne 7, 3) := by decide +kernel
theorem dX12_shows_45 : decode cX12_shows 45 = .ok (.iconst (-1), 1) := by decide +kernel
theorem dX12_shows_46 : decode cX12_shows 46 = .ok (.goto 11, 3) := by decide +kernel
theorem dX12_shows_49 : decode cX12_shows 49 = .ok (.aload_n 0, 1) := by decide +kernel
theorem dX12_shows_50 : decode cX12_shows 50 = .ok (.iload_n 1, 1) := by decide +kernel
theorem dX12_shows_51 : decode cX12_shows 51 = .ok (.iconst 1, 1) := by decide +kernel
theorem dX12_shows_52 : decode cX12_shows 52 = .ok (.invokevirtual 143, 3) := by decide +kernel
theorem dX12_shows_55 : decode cX12_shows 55 = .ok (.iload_n 3, 1) := by decide +kernel
theorem dX12_shows_56 : decode cX12_shows 56 = .ok (.iadd, 1) := by decide +kernel
theorem dX12_shows_57 : decode cX12_shows 57 = .ok (.ireturn, 1) := by decide +kernel
set_option maxRecDepth 20000 in
theorem ggX12_clashOf_X12_burns : GoodIn wsX12_clashOf wsX12_burns := goodIn_r _ [5, 6, 7, 8, 4, 9, 10, 11, 12, 13, 28, 29, 30, 31, 32, 33, 34, 35, 36, 37, 38, 39, 40, 41, 42, 43, 44, 45, 46, 47, 48, 49, 50, 51, 52] (by decide +kernel) (by decide +kernel)
set_option maxRecDepth 20000 in
theorem gX12_clashOf_X12_burns : GoodIn wsX12_clashOf (wsV RX12 150 RX12 yX12_burns wsX12_burns) := goodIn_app (goodIn_of _ (by decide +kernel)) ggX12_clashOf_X12_burns
set_option maxRecDepth 20000 in
theorem ggX12_clashOf_X12_weatherOf : GoodIn wsX12_clashOf wsX12_weatherOf := goodIn_r _ [17, 6, 7, 8, 4, 9, 10, 18, 19, 20, 21, 22, 23, 24, 11, 12, 13, 25, 26, 27, 28, 29, 30, 31, 32, 33, 34, 35, 36, 37, 38, 39, 40, 41, 42, 43, 44, 45, 46, 47, 48, 49, 50, 51, 52] (by decide +kernel) (by decide +kernel)
set_option maxRecDepth 20000 in
theorem gX12_clashOf_X12_weatherOf : GoodIn wsX12_clashOf (wsV RX12 153 RX12 yX12_weatherOf wsX12_weatherOf) := goodIn_app (goodIn_of _ (by decide +kernel)) ggX12_clashOf_X12_weatherOf
theorem dX12_clashOf_0 : decode cX12_clashOf 0 = .ok (.iload_n 3, 1) := by decide +kernel
theorem dX12_clashOf_1 : decode cX12_clashOf 1 = .ok (.istore 4, 2) := by decide +kernel
theorem dX12_clashOf_3 : decode cX12_clashOf 3 = .ok (.iload 4, 2) := by decide +kernel
theorem dX12_clashOf_5 : decode cX12_clashOf 5 = .ok (.aload_n 0, 1) := by decide +kernel
theorem dX12_clashOf_6 : decode cX12_clashOf 6 = .ok (.iload_n 1, 1) := by decide +kernel
theorem dX12_clashOf_7 : decode cX12_clashOf 7 = .ok (.invokevirtual 150, 3) := by decide +kernel
theorem dX12_clashOf_10 : decode cX12_clashOf 10 = .ok (.if_icmp .ge 51, 3) := by decide +kernel
theorem dX12_clashOf_13 : decode cX12_clashOf 13 = .ok (.aload_n 0, 1) := by decide +kernel
theorem dX12_clashOf_14 : decode cX12_clashOf 14 = .ok (.iload_n 1, 1) := by decide +kernel
theorem dX12_clashOf_15 : decode cX12_clashOf 15 = .ok (.iload 4, 2) := by decide +kernel
theorem dX12_clashOf_17 : decode cX12_clashOf 17 = .ok (.invokevirtual 153, 3) := by decide +kernel
theorem dX12_clashOf_20 : decode cX12_clashOf 20 = .ok (.istore 5, 2) := by decide +kernel
theorem dX12_clashOf_22 : decode cX12_clashOf 22 = .ok (.aload_n 0, 1) := by decide +kernel
theorem dX12_clashOf_23 : decode cX12_clashOf 23 = .ok (.iload_n 2, 1) := by decide +kernel
theorem dX12_clashOf_24 : decode cX12_clashOf 24 = .ok (.iload 4, 2) := by decide +kernel
theorem dX12_clashOf_26 : decode cX12_clashOf 26 = .ok (.iload_n 3, 1) := by decide +kernel
theorem dX12_clashOf_27 : decode cX12_clashOf 27 = .ok (.isub, 1) := by decide +kernel
theorem dX12_clashOf_28 : decode cX12_clashOf 28 = .ok (.invokevirtual 153, 3) := by decide +kernel
theorem dX12_clashOf_31 : decode cX12_clashOf 31 = .ok (.istore 6, 2) := by decide +kernel
theorem dX12_clashOf_33 : decode cX12_clashOf 33 = .ok (.iload 5, 2) := by decide +kernel
theorem dX12_clashOf_35 : decode cX12_clashOf 35 = .ok (.iconst (-1), 1) := by decide +kernel
theorem dX12_clashOf_36 : decode cX12_clashOf 36 = .ok (.if_icmp .eq 19, 3) := by decide +kernel
theorem dX12_clashOf_39 : decode cX12_clashOf 39 = .ok (.iload 6, 2) := by decide +kernel
theorem dX12_clashOf_41 : decode cX12_clashOf 41 = .ok (.iconst (-1), 1) := by decide +kernel
theorem dX12_clashOf_42 : decode cX12_clashOf 42 = .ok (.if_icmp .eq 13, 3) := by decide +kernel
theorem dX12_clashOf_45 : decode cX12_clashOf 45 = .ok (.iload 5, 2) := by decide +kernel
theorem dX12_clashOf_47 : decode cX12_clashOf 47 = .ok (.iload 6, 2) := by decide +kernel
theorem dX12_clashOf_49 : decode cX12_clashOf 49 = .ok (.if_icmp .eq 6, 3) := by decide +kernel
theorem dX12_clashOf_52 : decode cX12_clashOf 52 = .ok (.iload 4, 2) := by decide +kernel
theorem dX12_clashOf_54 : decode cX12_clashOf 54 = .ok (.ireturn, 1) := by decide +kernel
theorem dX12_clashOf_55 : decode cX12_clashOf 55 = .ok (.iinc 4 1, 3) := by decide +kernel
theorem dX12_clashOf_58 : decode cX12_clashOf 58 = .ok (.goto (-55), 3) := by decide +kernel
theorem dX12_clashOf_61 : decode cX12_clashOf 61 = .ok (.iconst (-1), 1) := by decide +kernel
theorem dX12_clashOf_62 : decode cX12_clashOf 62 = .ok (.ireturn, 1) := by decide +kernel
set_option maxRecDepth 20000 in
theorem ggX12_clash_X12_isLump : GoodIn wsX12_clash wsX12_isLump := goodIn_r _ [5, 6, 7, 8, 4, 9, 41, 42, 43, 44, 45, 46, 47, 48, 49, 50, 51, 52, 53, 54, 55, 56, 57, 58, 59, 60, 61, 62, 63, 64, 65] (by decide +kernel) (by decide +kernel)
set_option maxRecDepth 20000 in
theorem gX12_clash_X12_isLump : GoodIn wsX12_clash (wsV RX12 156 RX12 yX12_isLump wsX12_isLump) := goodIn_app (goodIn_of _ (by decide +kernel)) ggX12_clash_X12_isLump
set_option maxRecDepth 20000 in
theorem ggX12_clash_X12_in : GoodIn wsX12_clash wsX12_in := goodIn_r _ [9] (by decide +kernel) (by decide +kernel)
set_option maxRecDepth 20000 in
theorem gX12_clash_X12_in : GoodIn wsX12_clash (va_wsS RX12 68 yX12_in wsX12_in) := goodIn_app (goodIn_of _ (by decide +kernel)) ggX12_clash_X12_in
set_option maxRecDepth 20000 in
theorem ggX12_clash_X12_bad : GoodIn wsX12_clash wsX12_bad := goodIn_r _ [13, 14, 41, 42, 43, 44, 45, 46, 47, 48, 49, 50, 51, 52, 53, 54, 55, 56, 57, 58, 59, 60, 61, 62, 63, 64, 65] (by decide +kernel) (by decide +kernel)
set_option maxRecDepth 20000 in
theorem gX12_clash_X12_bad : GoodIn wsX12_clash (wsV RX12 72 RX12 yX12_bad wsX12_bad) := goodIn_app (goodIn_of _ (by decide +kernel)) ggX12_clash_X12_bad
set_option maxRecDepth 20000 in
theorem ggX12_clash_X12_clashOf : GoodIn wsX12_clash wsX12_clashOf := goodIn_r _ [18, 19, 20, 21, 4, 22, 23, 24, 25, 26, 6, 27, 28, 29, 30, 31, 32, 33, 34, 35, 36, 37, 38, 39, 40, 7, 8, 9, 41, 42, 43, 44, 45, 46, 47, 48, 49, 50, 51, 52, 53, 54, 55, 56, 57, 58, 59, 60, 61, 62, 63, 64, 65] (by decide +kernel) (by decide +kernel)
set_option maxRecDepth 20000 in
theorem gX12_clash_X12_clashOf : GoodIn wsX12_clash (wsV RX12 172 RX12 yX12_clashOf wsX12_clashOf) := goodIn_app (goodIn_of _ (by decide +kernel)) ggX12_clash_X12_clashOf
theorem dX12_clash_0 : decode cX12_clash 0 = .ok (.aload_n 0, 1) := by decide +kernel
theorem dX12_clash_1 : decode cX12_clash 1 = .ok (.iload_n 1, 1) := by decide +kernel
theorem dX12_clash_2 : decode cX12_clash 2 = .ok (.invokevirtual 156, 3) := by decide +kernel
theorem dX12_clash_5 : decode cX12_clash 5 = .ok (.ifCond .eq 26, 3) := by decide +kernel
theorem dX12_clash_8 : decode cX12_clash 8 = .ok (.aload_n 0, 1) := by decide +kernel
theorem dX12_clash_9 : decode cX12_clash 9 = .ok (.iload_n 2, 1) := by decide +kernel
theorem dX12_clash_10 : decode cX12_clash 10 = .ok (.invokevirtual 156, 3) := by decide +kernel
theorem dX12_clash_13 : decode cX12_clash 13 = .ok (.ifCond .eq 18, 3) := by decide +kernel
theorem dX12_clash_16 : decode cX12_clash 16 = .ok (.iload_n 1, 1) := by decide +kernel
theorem dX12_clash_17 : decode cX12_clash 17 = .ok (.iload_n 2, 1) := by decide +kernel
theorem dX12_clash_18 : decode cX12_clash 18 = .ok (.if_icmp .eq 13, 3) := by decide +kernel
theorem dX12_clash_21 : decode cX12_clash 21 = .ok (.iload_n 3, 1) := by decide +kernel
theorem dX12_clash_22 : decode cX12_clash 22 = .ok (.iconst 0, 1) := by decide +kernel
theorem dX12_clash_23 : decode cX12_clash 23 = .ok (.bipush 20, 2) := by decide +kernel
theorem dX12_clash_25 : decode cX12_clash 25 = .ok (.invokestatic 68, 3) := by decide +kernel
theorem dX12_clash_28 : decode cX12_clash 28 = .ok (.ifCond .ne 10, 3) := by decide +kernel
theorem dX12_clash_31 : decode cX12_clash 31 = .ok (.aload_n 0, 1) := by decide +kernel
theorem dX12_clash_32 : decode cX12_clash 32 = .ok (.invokevirtual 72, 3) := by decide +kernel
theorem dX12_clash_35 : decode cX12_clash 35 = .ok (.goto 10, 3) := by decide +kernel
theorem dX12_clash_38 : decode cX12_clash 38 = .ok (.aload_n 0, 1) := by decide +kernel
theorem dX12_clash_39 : decode cX12_clash 39 = .ok (.iload_n 1, 1) := by decide +kernel
theorem dX12_clash_40 : decode cX12_clash 40 = .ok (.iload_n 2, 1) := by decide +kernel
theorem dX12_clash_41 : decode cX12_clash 41 = .ok (.iload_n 3, 1) := by decide +kernel
theorem dX12_clash_42 : decode cX12_clash 42 = .ok (.invokevirtual 172, 3) := by decide +kernel
theorem dX12_clash_45 : decode cX12_clash 45 = .ok (.ireturn, 1) := by decide +kernel
set_option maxRecDepth 20000 in
theorem ggX12_agree_X12_isLump : GoodIn wsX12_agree wsX12_isLump := goodIn_r _ [6, 1, 7, 8, 5, 9, 41, 42, 43, 44, 45, 46, 47, 48, 49, 50, 51, 52, 53, 54, 55, 56, 57, 58, 59, 60, 61, 62, 63, 64, 65] (by decide +kernel) (by decide +kernel)
set_option maxRecDepth 20000 in
theorem gX12_agree_X12_isLump : GoodIn wsX12_agree (wsV RX12 156 RX12 yX12_isLump wsX12_isLump) := goodIn_app (goodIn_of _ (by decide +kernel)) ggX12_agree_X12_isLump
set_option maxRecDepth 20000 in
theorem ggX12_agree_X12_bad : GoodIn wsX12_agree wsX12_bad := goodIn_r _ [13, 14, 41, 42, 43, 44, 45, 46, 47, 48, 49, 50, 51, 52, 53, 54, 55, 56, 57, 58, 59, 60, 61, 62, 63, 64, 65] (by decide +kernel) (by decide +kernel)
set_option maxRecDepth 20000 in
theorem gX12_agree_X12_bad : GoodIn wsX12_agree (wsV RX12 72 RX12 yX12_bad wsX12_bad) := goodIn_app (goodIn_of _ (by decide +kernel)) ggX12_agree_X12_bad
set_option maxRecDepth 20000 in
theorem ggX12_agree_X12_clashOf : GoodIn wsX12_agree wsX12_clashOf := goodIn_r _ [18, 19, 20, 21, 5, 22, 23, 24, 25, 26, 1, 27, 28, 29, 30, 31, 32, 33, 34, 35, 36, 37, 38, 39, 40, 7, 8, 9, 41, 42, 43, 44, 45, 46, 47, 48, 49, 50, 51, 52, 53, 54, 55, 56, 57, 58, 59, 60, 61, 62, 63, 64, 65] (by decide +kernel) (by decide +kernel)
set_option maxRecDepth 20000 in
theorem gX12_agree_X12_clashOf : GoodIn wsX12_agree (wsV RX12 172 RX12 yX12_clashOf wsX12_clashOf) := goodIn_app (goodIn_of _ (by decide +kernel)) ggX12_agree_X12_clashOf
theorem dX12_agree_0 : decode cX12_agree 0 = .ok (.aload_n 0, 1) := by decide +kernel
theorem dX12_agree_1 : decode cX12_agree 1 = .ok (.iload_n 1, 1) := by decide +kernel
theorem dX12_agree_2 : decode cX12_agree 2 = .ok (.invokevirtual 156, 3) := by decide +kernel
theorem dX12_agree_5 : decode cX12_agree 5 = .ok (.ifCond .ne 8, 3) := by decide +kernel
theorem dX12_agree_8 : decode cX12_agree 8 = .ok (.aload_n 0, 1) := by decide +kernel
theorem dX12_agree_9 : decode cX12_agree 9 = .ok (.invokevirtual 72, 3) := by decide +kernel
theorem dX12_agree_12 : decode cX12_agree 12 = .ok (.ireturn, 1) := by decide +kernel
theorem dX12_agree_13 : decode cX12_agree 13 = .ok (.iconst 0, 1) := by decide +kernel
theorem dX12_agree_14 : decode cX12_agree 14 = .ok (.istore_n 2, 1) := by decide +kernel
theorem dX12_agree_15 : decode cX12_agree 15 = .ok (.iconst 0, 1) := by decide +kernel
theorem dX12_agree_16 : decode cX12_agree 16 = .ok (.istore_n 3, 1) := by decide +kernel
theorem dX12_agree_17 : decode cX12_agree 17 = .ok (.iload_n 3, 1) := by decide +kernel
theorem dX12_agree_18 : decode cX12_agree 18 = .ok (.aload_n 0, 1) := by decide +kernel
theorem dX12_agree_19 : decode cX12_agree 19 = .ok (.getfield 17, 3) := by decide +kernel
theorem dX12_agree_22 : decode cX12_agree 22 = .ok (.bipush 50, 2) := by decide +kernel
theorem dX12_agree_24 : decode cX12_agree 24 = .ok (.iaload, 1) := by decide +kernel
theorem dX12_agree_25 : decode cX12_agree 25 = .ok (.if_icmp .ge 35, 3) := by decide +kernel
theorem dX12_agree_28 : decode cX12_agree 28 = .ok (.iload_n 2, 1) := by decide +kernel
theorem dX12_agree_29 : decode cX12_agree 29 = .ok (.iload_n 3, 1) := by decide +kernel
theorem dX12_agree_30 : decode cX12_agree 30 = .ok (.iload_n 1, 1) := by decide +kernel
theorem dX12_agree_31 : decode cX12_agree 31 = .ok (.if_icmp .eq 20, 3) := by decide +kernel
theorem dX12_agree_34 : decode cX12_agree 34 = .ok (.aload_n 0, 1) := by decide +kernel
theorem dX12_agree_35 : decode cX12_agree 35 = .ok (.iload_n 1, 1) := by decide +kernel
theorem dX12_agree_36 : decode cX12_agree 36 = .ok (.iload_n 3, 1) := by decide +kernel
theorem dX12_agree_37 : decode cX12_agree 37 = .ok (.iconst 0, 1) := by decide +kernel
theorem dX12_agree_38 : decode cX12_agree 38 = .ok (.invokevirtual 172, 3) := by decide +kernel
theorem dX12_agree_41 : decode cX12_agree 41 = .ok (.iconst (-1), 1) := by decide +kernel
theorem dX12_agree_42 : decode cX12_agree 42 = .ok (.if_icmp .ne 9, 3) := by decide +kernel
theorem dX12_agree_45 : decode cX12_agree 45 = .ok (.iconst 1, 1) := by decide +kernel
theorem dX12_agree_46 : decode cX12_agree 46 = .ok (.iload_n 3, 1) := by decide +kernel
theorem dX12_agree_47 : decode cX12_agree 47 = .ok (.ishl, 1) := by decide +kernel
theorem dX12_agree_48 : decode cX12_agree 48 = .ok (.goto 4, 3) := by decide +kernel
theorem dX12_agree_51 : decode cX12_agree 51 = .ok (.iconst 0, 1) := by decide +kernel
theorem dX12_agree_52 : decode cX12_agree 52 = .ok (.ior, 1) := by decide +kernel
theorem dX12_agree_53 : decode cX12_agree 53 = .ok (.istore_n 2, 1) := by decide +kernel
theorem dX12_agree_54 : decode cX12_agree 54 = .ok (.iinc 3 1, 3) := by decide +kernel
theorem dX12_agree_57 : decode cX12_agree 57 = .ok (.goto (-40), 3) := by decide +kernel
