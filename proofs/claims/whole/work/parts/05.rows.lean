theorem dX4_takeTaught_17 : decode cX4_takeTaught 17 = .ok (.bipush 8, 2) := by decide +kernel
theorem dX4_takeTaught_19 : decode cX4_takeTaught 19 = .ok (.iload_n 1, 1) := by decide +kernel
theorem dX4_takeTaught_20 : decode cX4_takeTaught 20 = .ok (.imul, 1) := by decide +kernel
theorem dX4_takeTaught_21 : decode cX4_takeTaught 21 = .ok (.iload_n 2, 1) := by decide +kernel
theorem dX4_takeTaught_22 : decode cX4_takeTaught 22 = .ok (.iadd, 1) := by decide +kernel
theorem dX4_takeTaught_23 : decode cX4_takeTaught 23 = .ok (.iaload, 1) := by decide +kernel
theorem dX4_takeTaught_24 : decode cX4_takeTaught 24 = .ok (.iastore, 1) := by decide +kernel
theorem dX4_takeTaught_25 : decode cX4_takeTaught 25 = .ok (.iinc 2 1, 3) := by decide +kernel
theorem dX4_takeTaught_28 : decode cX4_takeTaught 28 = .ok (.goto (-26), 3) := by decide +kernel
theorem dX4_takeTaught_31 : decode cX4_takeTaught 31 = .ok (.return_, 1) := by decide +kernel
theorem dX4_sumOf_0 : decode cX4_sumOf 0 = .ok (.lconst 0, 1) := by decide +kernel
theorem dX4_sumOf_1 : decode cX4_sumOf 1 = .ok (.lstore_n 3, 1) := by decide +kernel
theorem dX4_sumOf_2 : decode cX4_sumOf 2 = .ok (.iconst 0, 1) := by decide +kernel
theorem dX4_sumOf_3 : decode cX4_sumOf 3 = .ok (.istore 5, 2) := by decide +kernel
theorem dX4_sumOf_5 : decode cX4_sumOf 5 = .ok (.iload 5, 2) := by decide +kernel
theorem dX4_sumOf_7 : decode cX4_sumOf 7 = .ok (.bipush 7, 2) := by decide +kernel
theorem dX4_sumOf_9 : decode cX4_sumOf 9 = .ok (.if_icmp .ge 156, 3) := by decide +kernel
theorem dX4_sumOf_12 : decode cX4_sumOf 12 = .ok (.aload_n 0, 1) := by decide +kernel
theorem dX4_sumOf_13 : decode cX4_sumOf 13 = .ok (.getfield 39, 3) := by decide +kernel
theorem dX4_sumOf_16 : decode cX4_sumOf 16 = .ok (.iload 5, 2) := by decide +kernel
theorem dX4_sumOf_18 : decode cX4_sumOf 18 = .ok (.iconst 1, 1) := by decide +kernel
theorem dX4_sumOf_19 : decode cX4_sumOf 19 = .ok (.iadd, 1) := by decide +kernel
theorem dX4_sumOf_20 : decode cX4_sumOf 20 = .ok (.iaload, 1) := by decide +kernel
theorem dX4_sumOf_21 : decode cX4_sumOf 21 = .ok (.aload_n 0, 1) := by decide +kernel
theorem dX4_sumOf_22 : decode cX4_sumOf 22 = .ok (.getfield 39, 3) := by decide +kernel
theorem dX4_sumOf_25 : decode cX4_sumOf 25 = .ok (.iload 5, 2) := by decide +kernel
theorem dX4_sumOf_27 : decode cX4_sumOf 27 = .ok (.iaload, 1) := by decide +kernel
theorem dX4_sumOf_28 : decode cX4_sumOf 28 = .ok (.isub, 1) := by decide +kernel
theorem dX4_sumOf_29 : decode cX4_sumOf 29 = .ok (.sipush 256, 3) := by decide +kernel
theorem dX4_sumOf_32 : decode cX4_sumOf 32 = .ok (.iadd, 1) := by decide +kernel
theorem dX4_sumOf_33 : decode cX4_sumOf 33 = .ok (.bipush 64, 2) := by decide +kernel
theorem dX4_sumOf_35 : decode cX4_sumOf 35 = .ok (.idiv, 1) := by decide +kernel
theorem dX4_sumOf_36 : decode cX4_sumOf 36 = .ok (.istore 6, 2) := by decide +kernel
theorem dX4_sumOf_38 : decode cX4_sumOf 38 = .ok (.iconst 0, 1) := by decide +kernel
theorem dX4_sumOf_39 : decode cX4_sumOf 39 = .ok (.istore 7, 2) := by decide +kernel
theorem dX4_sumOf_41 : decode cX4_sumOf 41 = .ok (.iconst 0, 1) := by decide +kernel
theorem dX4_sumOf_42 : decode cX4_sumOf 42 = .ok (.istore 8, 2) := by decide +kernel
theorem dX4_sumOf_44 : decode cX4_sumOf 44 = .ok (.iconst 0, 1) := by decide +kernel
theorem dX4_sumOf_45 : decode cX4_sumOf 45 = .ok (.istore 9, 2) := by decide +kernel
theorem dX4_sumOf_47 : decode cX4_sumOf 47 = .ok (.iload 9, 2) := by decide +kernel
theorem dX4_sumOf_49 : decode cX4_sumOf 49 = .ok (.aload_n 0, 1) := by decide +kernel
theorem dX4_sumOf_50 : decode cX4_sumOf 50 = .ok (.getfield 66, 3) := by decide +kernel
theorem dX4_sumOf_53 : decode cX4_sumOf 53 = .ok (.if_icmp .ge 84, 3) := by decide +kernel
theorem dX4_sumOf_56 : decode cX4_sumOf 56 = .ok (.iload 9, 2) := by decide +kernel
theorem dX4_sumOf_58 : decode cX4_sumOf 58 = .ok (.iload_n 2, 1) := by decide +kernel
theorem dX4_sumOf_59 : decode cX4_sumOf 59 = .ok (.if_icmp .eq 72, 3) := by decide +kernel
theorem dX4_sumOf_62 : decode cX4_sumOf 62 = .ok (.aload_n 0, 1) := by decide +kernel
theorem dX4_sumOf_63 : decode cX4_sumOf 63 = .ok (.getfield 19, 3) := by decide +kernel
theorem dX4_sumOf_66 : decode cX4_sumOf 66 = .ok (.iload 9, 2) := by decide +kernel
theorem dX4_sumOf_68 : decode cX4_sumOf 68 = .ok (.iaload, 1) := by decide +kernel
theorem dX4_sumOf_69 : decode cX4_sumOf 69 = .ok (.iload_n 1, 1) := by decide +kernel
theorem dX4_sumOf_70 : decode cX4_sumOf 70 = .ok (.if_icmp .ne 61, 3) := by decide +kernel
theorem dX4_sumOf_73 : decode cX4_sumOf 73 = .ok (.aload_n 0, 1) := by decide +kernel
theorem dX4_sumOf_74 : decode cX4_sumOf 74 = .ok (.getfield 22, 3) := by decide +kernel
theorem dX4_sumOf_77 : decode cX4_sumOf 77 = .ok (.bipush 8, 2) := by decide +kernel
theorem dX4_sumOf_79 : decode cX4_sumOf 79 = .ok (.iload 9, 2) := by decide +kernel
theorem dX4_sumOf_81 : decode cX4_sumOf 81 = .ok (.imul, 1) := by decide +kernel
theorem dX4_sumOf_82 : decode cX4_sumOf 82 = .ok (.iload 5, 2) := by decide +kernel
theorem dX4_sumOf_84 : decode cX4_sumOf 84 = .ok (.iadd, 1) := by decide +kernel
theorem dX4_sumOf_85 : decode cX4_sumOf 85 = .ok (.iconst 1, 1) := by decide +kernel
theorem dX4_sumOf_86 : decode cX4_sumOf 86 = .ok (.iadd, 1) := by decide +kernel
theorem dX4_sumOf_87 : decode cX4_sumOf 87 = .ok (.iaload, 1) := by decide +kernel
theorem dX4_sumOf_88 : decode cX4_sumOf 88 = .ok (.aload_n 0, 1) := by decide +kernel
theorem dX4_sumOf_89 : decode cX4_sumOf 89 = .ok (.getfield 22, 3) := by decide +kernel
theorem dX4_sumOf_92 : decode cX4_sumOf 92 = .ok (.bipush 8, 2) := by decide +kernel
theorem dX4_sumOf_94 : decode cX4_sumOf 94 = .ok (.iload 9, 2) := by decide +kernel
theorem dX4_sumOf_96 : decode cX4_sumOf 96 = .ok (.imul, 1) := by decide +kernel
theorem dX4_sumOf_97 : decode cX4_sumOf 97 = .ok (.iload 5, 2) := by decide +kernel
theorem dX4_sumOf_99 : decode cX4_sumOf 99 = .ok (.iadd, 1) := by decide +kernel
theorem dX4_sumOf_100 : decode cX4_sumOf 100 = .ok (.iaload, 1) := by decide +kernel
theorem dX4_sumOf_101 : decode cX4_sumOf 101 = .ok (.isub, 1) := by decide +kernel
theorem dX4_sumOf_102 : decode cX4_sumOf 102 = .ok (.sipush 256, 3) := by decide +kernel
theorem dX4_sumOf_105 : decode cX4_sumOf 105 = .ok (.iadd, 1) := by decide +kernel
theorem dX4_sumOf_106 : decode cX4_sumOf 106 = .ok (.bipush 64, 2) := by decide +kernel
theorem dX4_sumOf_108 : decode cX4_sumOf 108 = .ok (.idiv, 1) := by decide +kernel
theorem dX4_sumOf_109 : decode cX4_sumOf 109 = .ok (.istore 10, 2) := by decide +kernel
theorem dX4_sumOf_111 : decode cX4_sumOf 111 = .ok (.iload 7, 2) := by decide +kernel
theorem dX4_sumOf_113 : decode cX4_sumOf 113 = .ok (.iload 10, 2) := by decide +kernel
theorem dX4_sumOf_115 : decode cX4_sumOf 115 = .ok (.iload 6, 2) := by decide +kernel
theorem dX4_sumOf_117 : decode cX4_sumOf 117 = .ok (.if_icmp .ne 7, 3) := by decide +kernel
theorem dX4_sumOf_120 : decode cX4_sumOf 120 = .ok (.iconst 1, 1) := by decide +kernel
theorem dX4_sumOf_121 : decode cX4_sumOf 121 = .ok (.goto 4, 3) := by decide +kernel
theorem dX4_sumOf_124 : decode cX4_sumOf 124 = .ok (.iconst 0, 1) := by decide +kernel
theorem dX4_sumOf_125 : decode cX4_sumOf 125 = .ok (.iadd, 1) := by decide +kernel
theorem dX4_sumOf_126 : decode cX4_sumOf 126 = .ok (.istore 7, 2) := by decide +kernel
theorem dX4_sumOf_128 : decode cX4_sumOf 128 = .ok (.iinc 8 1, 3) := by decide +kernel
theorem dX4_sumOf_131 : decode cX4_sumOf 131 = .ok (.iinc 9 1, 3) := by decide +kernel
theorem dX4_sumOf_134 : decode cX4_sumOf 134 = .ok (.goto (-87), 3) := by decide +kernel
theorem dX4_sumOf_137 : decode cX4_sumOf 137 = .ok (.lload_n 3, 1) := by decide +kernel
theorem dX4_sumOf_138 : decode cX4_sumOf 138 = .ok (.iload 8, 2) := by decide +kernel
theorem dX4_sumOf_140 : decode cX4_sumOf 140 = .ok (.ifCond .le 16, 3) := by decide +kernel
theorem dX4_sumOf_143 : decode cX4_sumOf 143 = .ok (.sipush 1000, 3) := by decide +kernel
theorem dX4_sumOf_146 : decode cX4_sumOf 146 = .ok (.iload 7, 2) := by decide +kernel
theorem dX4_sumOf_148 : decode cX4_sumOf 148 = .ok (.imul, 1) := by decide +kernel
theorem dX4_sumOf_149 : decode cX4_sumOf 149 = .ok (.iload 8, 2) := by decide +kernel
theorem dX4_sumOf_151 : decode cX4_sumOf 151 = .ok (.idiv, 1) := by decide +kernel
theorem dX4_sumOf_152 : decode cX4_sumOf 152 = .ok (.i2l, 1) := by decide +kernel
theorem dX4_sumOf_153 : decode cX4_sumOf 153 = .ok (.goto 4, 3) := by decide +kernel
theorem dX4_sumOf_156 : decode cX4_sumOf 156 = .ok (.lconst 0, 1) := by decide +kernel
theorem dX4_sumOf_157 : decode cX4_sumOf 157 = .ok (.ladd, 1) := by decide +kernel
theorem dX4_sumOf_158 : decode cX4_sumOf 158 = .ok (.lstore_n 3, 1) := by decide +kernel
theorem dX4_sumOf_159 : decode cX4_sumOf 159 = .ok (.iinc 5 1, 3) := by decide +kernel
theorem dX4_sumOf_162 : decode cX4_sumOf 162 = .ok (.goto (-157), 3) := by decide +kernel
theorem dX4_sumOf_165 : decode cX4_sumOf 165 = .ok (.lload_n 3, 1) := by decide +kernel
theorem dX4_sumOf_166 : decode cX4_sumOf 166 = .ok (.lreturn, 1) := by decide +kernel
set_option maxRecDepth 20000 in
theorem ggX4_readRow_X4_sumOf : GoodIn wsX4_readRow wsX4_sumOf := goodIn_r _ [8, 9, 10, 11, 12, 13, 14, 15, 16, 17, 18, 19, 20, 21, 22, 23, 24, 25, 26, 27, 28, 29] (by decide +kernel) (by decide +kernel)
set_option maxRecDepth 20000 in
theorem gX4_readRow_X4_sumOf : GoodIn wsX4_readRow (wsV RX4 69 RX4 yX4_sumOf wsX4_sumOf) := goodIn_app (goodIn_of _ (by decide +kernel)) ggX4_readRow_X4_sumOf
theorem dX4_readRow_0 : decode cX4_readRow 0 = .ok (.iconst 0, 1) := by decide +kernel
theorem dX4_readRow_1 : decode cX4_readRow 1 = .ok (.istore_n 2, 1) := by decide +kernel
theorem dX4_readRow_2 : decode cX4_readRow 2 = .ok (.iconst 1, 1) := by decide +kernel
theorem dX4_readRow_3 : decode cX4_readRow 3 = .ok (.istore_n 3, 1) := by decide +kernel
theorem dX4_readRow_4 : decode cX4_readRow 4 = .ok (.iload_n 3, 1) := by decide +kernel
theorem dX4_readRow_5 : decode cX4_readRow 5 = .ok (.aload_n 0, 1) := by decide +kernel
theorem dX4_readRow_6 : decode cX4_readRow 6 = .ok (.getfield 45, 3) := by decide +kernel
theorem dX4_readRow_9 : decode cX4_readRow 9 = .ok (.if_icmp .ge 63, 3) := by decide +kernel
theorem dX4_readRow_12 : decode cX4_readRow 12 = .ok (.aload_n 0, 1) := by decide +kernel
theorem dX4_readRow_13 : decode cX4_readRow 13 = .ok (.iload_n 3, 1) := by decide +kernel
theorem dX4_readRow_14 : decode cX4_readRow 14 = .ok (.iload_n 1, 1) := by decide +kernel
theorem dX4_readRow_15 : decode cX4_readRow 15 = .ok (.invokevirtual 69, 3) := by decide +kernel
theorem dX4_readRow_18 : decode cX4_readRow 18 = .ok (.lstore 4, 2) := by decide +kernel
theorem dX4_readRow_20 : decode cX4_readRow 20 = .ok (.aload_n 0, 1) := by decide +kernel
theorem dX4_readRow_21 : decode cX4_readRow 21 = .ok (.iload_n 2, 1) := by decide +kernel
theorem dX4_readRow_22 : decode cX4_readRow 22 = .ok (.iload_n 1, 1) := by decide +kernel
theorem dX4_readRow_23 : decode cX4_readRow 23 = .ok (.invokevirtual 69, 3) := by decide +kernel
theorem dX4_readRow_26 : decode cX4_readRow 26 = .ok (.lstore 6, 2) := by decide +kernel
theorem dX4_readRow_28 : decode cX4_readRow 28 = .ok (.lload 4, 2) := by decide +kernel
theorem dX4_readRow_30 : decode cX4_readRow 30 = .ok (.lload 6, 2) := by decide +kernel
theorem dX4_readRow_32 : decode cX4_readRow 32 = .ok (.lcmp, 1) := by decide +kernel
theorem dX4_readRow_33 : decode cX4_readRow 33 = .ok (.ifCond .gt 27, 3) := by decide +kernel
theorem dX4_readRow_36 : decode cX4_readRow 36 = .ok (.lload 4, 2) := by decide +kernel
theorem dX4_readRow_38 : decode cX4_readRow 38 = .ok (.lload 6, 2) := by decide +kernel
theorem dX4_readRow_40 : decode cX4_readRow 40 = .ok (.lcmp, 1) := by decide +kernel
theorem dX4_readRow_41 : decode cX4_readRow 41 = .ok (.ifCond .ne 23, 3) := by decide +kernel
theorem dX4_readRow_44 : decode cX4_readRow 44 = .ok (.aload_n 0, 1) := by decide +kernel
theorem dX4_readRow_45 : decode cX4_readRow 45 = .ok (.getfield 29, 3) := by decide +kernel
theorem dX4_readRow_48 : decode cX4_readRow 48 = .ok (.iload_n 3, 1) := by decide +kernel
theorem dX4_readRow_49 : decode cX4_readRow 49 = .ok (.laload, 1) := by decide +kernel
theorem dX4_readRow_50 : decode cX4_readRow 50 = .ok (.aload_n 0, 1) := by decide +kernel
theorem dX4_readRow_51 : decode cX4_readRow 51 = .ok (.getfield 29, 3) := by decide +kernel
theorem dX4_readRow_54 : decode cX4_readRow 54 = .ok (.iload_n 2, 1) := by decide +kernel
theorem dX4_readRow_55 : decode cX4_readRow 55 = .ok (.laload, 1) := by decide +kernel
theorem dX4_readRow_56 : decode cX4_readRow 56 = .ok (.lcmp, 1) := by decide +kernel
theorem dX4_readRow_57 : decode cX4_readRow 57 = .ok (.ifCond .le 7, 3) := by decide +kernel
theorem dX4_readRow_60 : decode cX4_readRow 60 = .ok (.iload_n 3, 1) := by decide +kernel
theorem dX4_readRow_61 : decode cX4_readRow 61 = .ok (.goto 4, 3) := by decide +kernel
theorem dX4_readRow_64 : decode cX4_readRow 64 = .ok (.iload_n 2, 1) := by decide +kernel
theorem dX4_readRow_65 : decode cX4_readRow 65 = .ok (.istore_n 2, 1) := by decide +kernel
theorem dX4_readRow_66 : decode cX4_readRow 66 = .ok (.iinc 3 1, 3) := by decide +kernel
theorem dX4_readRow_69 : decode cX4_readRow 69 = .ok (.goto (-65), 3) := by decide +kernel
theorem dX4_readRow_72 : decode cX4_readRow 72 = .ok (.aload_n 0, 1) := by decide +kernel
theorem dX4_readRow_73 : decode cX4_readRow 73 = .ok (.iload_n 2, 1) := by decide +kernel
theorem dX4_readRow_74 : decode cX4_readRow 74 = .ok (.iload_n 1, 1) := by decide +kernel
theorem dX4_readRow_75 : decode cX4_readRow 75 = .ok (.invokevirtual 69, 3) := by decide +kernel
theorem dX4_readRow_78 : decode cX4_readRow 78 = .ok (.aload_n 0, 1) := by decide +kernel
theorem dX4_readRow_79 : decode cX4_readRow 79 = .ok (.getfield 25, 3) := by decide +kernel
theorem dX4_readRow_82 : decode cX4_readRow 82 = .ok (.lcmp, 1) := by decide +kernel
theorem dX4_readRow_83 : decode cX4_readRow 83 = .ok (.ifCond .ge 7, 3) := by decide +kernel
theorem dX4_readRow_86 : decode cX4_readRow 86 = .ok (.iconst (-1), 1) := by decide +kernel
theorem dX4_readRow_87 : decode cX4_readRow 87 = .ok (.goto 4, 3) := by decide +kernel
theorem dX4_readRow_90 : decode cX4_readRow 90 = .ok (.iload_n 2, 1) := by decide +kernel
theorem dX4_readRow_91 : decode cX4_readRow 91 = .ok (.ireturn, 1) := by decide +kernel
set_option maxRecDepth 20000 in
theorem ggX4_teach_X4_isKind : GoodIn wsX4_teach wsX4_isKind := goodIn_r _ [10, 11, 23, 24, 25, 26, 27, 28, 29, 30, 31, 32, 33, 34, 35, 36, 37, 38, 39] (by decide +kernel) (by decide +kernel)
set_option maxRecDepth 20000 in
theorem gX4_teach_X4_isKind : GoodIn wsX4_teach (wsV RX4 73 RX4 yX4_isKind wsX4_isKind) := goodIn_app (goodIn_of _ (by decide +kernel)) ggX4_teach_X4_isKind
set_option maxRecDepth 20000 in
theorem ggX4_teach_X4_takeNow : GoodIn wsX4_teach wsX4_takeNow := goodIn_r _ [15, 4, 16, 17, 18, 9, 19, 20, 21, 22, 23, 24, 25, 26, 27, 28, 29, 30, 31, 32, 33, 34, 35, 36, 37, 38, 39] (by decide +kernel) (by decide +kernel)
set_option maxRecDepth 20000 in
theorem gX4_teach_X4_takeNow : GoodIn wsX4_teach (wsV RX4 76 RX4 yX4_takeNow wsX4_takeNow) := goodIn_app (goodIn_of _ (by decide +kernel)) ggX4_teach_X4_takeNow
theorem dX4_teach_0 : decode cX4_teach 0 = .ok (.aload_n 0, 1) := by decide +kernel
theorem dX4_teach_1 : decode cX4_teach 1 = .ok (.iconst 0, 1) := by decide +kernel
theorem dX4_teach_2 : decode cX4_teach 2 = .ok (.putfield 49, 3) := by decide +kernel
theorem dX4_teach_5 : decode cX4_teach 5 = .ok (.aload_n 0, 1) := by decide +kernel
theorem dX4_teach_6 : decode cX4_teach 6 = .ok (.iload_n 1, 1) := by decide +kernel
theorem dX4_teach_7 : decode cX4_teach 7 = .ok (.invokevirtual 73, 3) := by decide +kernel
theorem dX4_teach_10 : decode cX4_teach 10 = .ok (.ifCond .eq 12, 3) := by decide +kernel
theorem dX4_teach_13 : decode cX4_teach 13 = .ok (.aload_n 0, 1) := by decide +kernel
theorem dX4_teach_14 : decode cX4_teach 14 = .ok (.getfield 66, 3) := by decide +kernel
theorem dX4_teach_17 : decode cX4_teach 17 = .ok (.bipush 40, 2) := by decide +kernel
theorem dX4_teach_19 : decode cX4_teach 19 = .ok (.if_icmp .ne 5, 3) := by decide +kernel
theorem dX4_teach_22 : decode cX4_teach 22 = .ok (.iconst (-1), 1) := by decide +kernel
theorem dX4_teach_23 : decode cX4_teach 23 = .ok (.ireturn, 1) := by decide +kernel
theorem dX4_teach_24 : decode cX4_teach 24 = .ok (.aload_n 0, 1) := by decide +kernel
theorem dX4_teach_25 : decode cX4_teach 25 = .ok (.invokevirtual 76, 3) := by decide +kernel
theorem dX4_teach_28 : decode cX4_teach 28 = .ok (.iconst 0, 1) := by decide +kernel
theorem dX4_teach_29 : decode cX4_teach 29 = .ok (.istore_n 2, 1) := by decide +kernel
theorem dX4_teach_30 : decode cX4_teach 30 = .ok (.iload_n 2, 1) := by decide +kernel
theorem dX4_teach_31 : decode cX4_teach 31 = .ok (.bipush 8, 2) := by decide +kernel
theorem dX4_teach_33 : decode cX4_teach 33 = .ok (.if_icmp .ge 29, 3) := by decide +kernel
theorem dX4_teach_36 : decode cX4_teach 36 = .ok (.aload_n 0, 1) := by decide +kernel
theorem dX4_teach_37 : decode cX4_teach 37 = .ok (.getfield 22, 3) := by decide +kernel
theorem dX4_teach_40 : decode cX4_teach 40 = .ok (.bipush 8, 2) := by decide +kernel
theorem dX4_teach_42 : decode cX4_teach 42 = .ok (.aload_n 0, 1) := by decide +kernel
theorem dX4_teach_43 : decode cX4_teach 43 = .ok (.getfield 66, 3) := by decide +kernel
theorem dX4_teach_46 : decode cX4_teach 46 = .ok (.imul, 1) := by decide +kernel
theorem dX4_teach_47 : decode cX4_teach 47 = .ok (.iload_n 2, 1) := by decide +kernel
theorem dX4_teach_48 : decode cX4_teach 48 = .ok (.iadd, 1) := by decide +kernel
theorem dX4_teach_49 : decode cX4_teach 49 = .ok (.aload_n 0, 1) := by decide +kernel
theorem dX4_teach_50 : decode cX4_teach 50 = .ok (.getfield 39, 3) := by decide +kernel
theorem dX4_teach_53 : decode cX4_teach 53 = .ok (.iload_n 2, 1) := by decide +kernel
theorem dX4_teach_54 : decode cX4_teach 54 = .ok (.iaload, 1) := by decide +kernel
theorem dX4_teach_55 : decode cX4_teach 55 = .ok (.iastore, 1) := by decide +kernel
theorem dX4_teach_56 : decode cX4_teach 56 = .ok (.iinc 2 1, 3) := by decide +kernel
theorem dX4_teach_59 : decode cX4_teach 59 = .ok (.goto (-29), 3) := by decide +kernel
theorem dX4_teach_62 : decode cX4_teach 62 = .ok (.aload_n 0, 1) := by decide +kernel
theorem dX4_teach_63 : decode cX4_teach 63 = .ok (.getfield 19, 3) := by decide +kernel
theorem dX4_teach_66 : decode cX4_teach 66 = .ok (.aload_n 0, 1) := by decide +kernel
theorem dX4_teach_67 : decode cX4_teach 67 = .ok (.getfield 66, 3) := by decide +kernel
theorem dX4_teach_70 : decode cX4_teach 70 = .ok (.iload_n 1, 1) := by decide +kernel
theorem dX4_teach_71 : decode cX4_teach 71 = .ok (.iastore, 1) := by decide +kernel
theorem dX4_teach_72 : decode cX4_teach 72 = .ok (.aload_n 0, 1) := by decide +kernel
theorem dX4_teach_73 : decode cX4_teach 73 = .ok (.dup, 1) := by decide +kernel
theorem dX4_teach_74 : decode cX4_teach 74 = .ok (.getfield 66, 3) := by decide +kernel
theorem dX4_teach_77 : decode cX4_teach 77 = .ok (.iconst 1, 1) := by decide +kernel
theorem dX4_teach_78 : decode cX4_teach 78 = .ok (.iadd, 1) := by decide +kernel
theorem dX4_teach_79 : decode cX4_teach 79 = .ok (.putfield 66, 3) := by decide +kernel
theorem dX4_teach_82 : decode cX4_teach 82 = .ok (.aload_n 0, 1) := by decide +kernel
theorem dX4_teach_83 : decode cX4_teach 83 = .ok (.getfield 66, 3) := by decide +kernel
theorem dX4_teach_86 : decode cX4_teach 86 = .ok (.iconst 1, 1) := by decide +kernel
theorem dX4_teach_87 : decode cX4_teach 87 = .ok (.isub, 1) := by decide +kernel
theorem dX4_teach_88 : decode cX4_teach 88 = .ok (.ireturn, 1) := by decide +kernel
set_option maxRecDepth 20000 in
theorem ggX4_read_X4_takeNow : GoodIn wsX4_read wsX4_takeNow := goodIn_r _ [6, 7, 8, 9, 10, 5, 11, 12, 13, 14, 29, 30, 31, 32, 33, 34, 35, 36, 37, 38, 39, 40, 41, 42, 43, 44, 45] (by decide +kernel) (by decide +kernel)
set_option maxRecDepth 20000 in
theorem gX4_read_X4_takeNow : GoodIn wsX4_read (wsV RX4 76 RX4 yX4_takeNow wsX4_takeNow) := goodIn_app (goodIn_of _ (by decide +kernel)) ggX4_read_X4_takeNow
set_option maxRecDepth 20000 in
theorem ggX4_read_X4_readRow : GoodIn wsX4_read wsX4_readRow := goodIn_r _ [18, 19, 20, 21, 22, 23, 24, 5, 25, 7, 26, 27, 28, 29, 30, 31, 32, 33, 34, 35, 36, 37, 38, 39, 40, 41, 42, 43, 44, 45] (by decide +kernel) (by decide +kernel)
set_option maxRecDepth 20000 in
theorem gX4_read_X4_readRow : GoodIn wsX4_read (wsV RX4 79 RX4 yX4_readRow wsX4_readRow) := goodIn_app (goodIn_of _ (by decide +kernel)) ggX4_read_X4_readRow
theorem dX4_read_0 : decode cX4_read 0 = .ok (.aload_n 0, 1) := by decide +kernel
theorem dX4_read_1 : decode cX4_read 1 = .ok (.iconst 0, 1) := by decide +kernel
theorem dX4_read_2 : decode cX4_read 2 = .ok (.putfield 49, 3) := by decide +kernel
theorem dX4_read_5 : decode cX4_read 5 = .ok (.aload_n 0, 1) := by decide +kernel
theorem dX4_read_6 : decode cX4_read 6 = .ok (.invokevirtual 76, 3) := by decide +kernel
theorem dX4_read_9 : decode cX4_read 9 = .ok (.aload_n 0, 1) := by decide +kernel
theorem dX4_read_10 : decode cX4_read 10 = .ok (.iconst (-1), 1) := by decide +kernel
theorem dX4_read_11 : decode cX4_read 11 = .ok (.invokevirtual 79, 3) := by decide +kernel
theorem dX4_read_14 : decode cX4_read 14 = .ok (.ireturn, 1) := by decide +kernel
set_option maxRecDepth 20000 in
theorem ggX4_sum_X4_takeNow : GoodIn wsX4_sum wsX4_takeNow := goodIn_r _ [7, 8, 9, 10, 11, 6, 12, 13, 14, 15, 28, 29, 30, 31, 32, 33, 34, 35, 36, 37, 38, 39, 40, 41, 42, 43, 44] (by decide +kernel) (by decide +kernel)
set_option maxRecDepth 20000 in
theorem gX4_sum_X4_takeNow : GoodIn wsX4_sum (wsV RX4 76 RX4 yX4_takeNow wsX4_takeNow) := goodIn_app (goodIn_of _ (by decide +kernel)) ggX4_sum_X4_takeNow
set_option maxRecDepth 20000 in
theorem ggX4_sum_X4_isKind : GoodIn wsX4_sum wsX4_isKind := goodIn_r _ [19, 20, 28, 29, 30, 31, 32, 33, 34, 35, 36, 37, 38, 39, 40, 41, 42, 43, 44] (by decide +kernel) (by decide +kernel)
set_option maxRecDepth 20000 in
theorem gX4_sum_X4_isKind : GoodIn wsX4_sum (wsV RX4 73 RX4 yX4_isKind wsX4_isKind) := goodIn_app (goodIn_of _ (by decide +kernel)) ggX4_sum_X4_isKind
set_option maxRecDepth 20000 in
theorem ggX4_sum_X4_sumOf : GoodIn wsX4_sum wsX4_sumOf := goodIn_r _ [24, 8, 25, 26, 27, 28, 29, 30, 31, 32, 33, 34, 35, 36, 37, 38, 39, 40, 41, 42, 43, 44] (by decide +kernel) (by decide +kernel)
set_option maxRecDepth 20000 in
theorem gX4_sum_X4_sumOf : GoodIn wsX4_sum (wsV RX4 69 RX4 yX4_sumOf wsX4_sumOf) := goodIn_app (goodIn_of _ (by decide +kernel)) ggX4_sum_X4_sumOf
theorem dX4_sum_0 : decode cX4_sum 0 = .ok (.aload_n 0, 1) := by decide +kernel
theorem dX4_sum_1 : decode cX4_sum 1 = .ok (.iconst 0, 1) := by decide +kernel
theorem dX4_sum_2 : decode cX4_sum 2 = .ok (.putfield 49, 3) := by decide +kernel
theorem dX4_sum_5 : decode cX4_sum 5 = .ok (.aload_n 0, 1) := by decide +kernel
theorem dX4_sum_6 : decode cX4_sum 6 = .ok (.invokevirtual 76, 3) := by decide +kernel
theorem dX4_sum_9 : decode cX4_sum 9 = .ok (.aload_n 0, 1) := by decide +kernel
theorem dX4_sum_10 : decode cX4_sum 10 = .ok (.iload_n 1, 1) := by decide +kernel
theorem dX4_sum_11 : decode cX4_sum 11 = .ok (.invokevirtual 73, 3) := by decide +kernel
theorem dX4_sum_14 : decode cX4_sum 14 = .ok (.ifCond .eq 12, 3) := by decide +kernel
theorem dX4_sum_17 : decode cX4_sum 17 = .ok (.aload_n 0, 1) := by decide +kernel
theorem dX4_sum_18 : decode cX4_sum 18 = .ok (.iload_n 1, 1) := by decide +kernel
theorem dX4_sum_19 : decode cX4_sum 19 = .ok (.iconst (-1), 1) := by decide +kernel
theorem dX4_sum_20 : decode cX4_sum 20 = .ok (.invokevirtual 69, 3) := by decide +kernel
theorem dX4_sum_23 : decode cX4_sum 23 = .ok (.goto 6, 3) := by decide +kernel
theorem dX4_sum_26 : decode cX4_sum 26 = .ok (.ldc2_w 82, 3) := by decide +kernel
theorem dX4_sum_29 : decode cX4_sum 29 = .ok (.lreturn, 1) := by decide +kernel
theorem dX4_bound_0 : decode cX4_bound 0 = .ok (.aload_n 0, 1) := by decide +kernel
theorem dX4_bound_1 : decode cX4_bound 1 = .ok (.iconst 0, 1) := by decide +kernel
theorem dX4_bound_2 : decode cX4_bound 2 = .ok (.putfield 49, 3) := by decide +kernel
theorem dX4_bound_5 : decode cX4_bound 5 = .ok (.lload_n 1, 1) := by decide +kernel
theorem dX4_bound_6 : decode cX4_bound 6 = .ok (.lconst 0, 1) := by decide +kernel
theorem dX4_bound_7 : decode cX4_bound 7 = .ok (.lcmp, 1) := by decide +kernel
theorem dX4_bound_8 : decode cX4_bound 8 = .ok (.ifCond .lt 11, 3) := by decide +kernel
theorem dX4_bound_11 : decode cX4_bound 11 = .ok (.lload_n 1, 1) := by decide +kernel
theorem dX4_bound_12 : decode cX4_bound 12 = .ok (.ldc2_w 84, 3) := by decide +kernel
theorem dX4_bound_15 : decode cX4_bound 15 = .ok (.lcmp, 1) := by decide +kernel
theorem dX4_bound_16 : decode cX4_bound 16 = .ok (.ifCond .le 5, 3) := by decide +kernel
theorem dX4_bound_19 : decode cX4_bound 19 = .ok (.iconst 0, 1) := by decide +kernel
theorem dX4_bound_20 : decode cX4_bound 20 = .ok (.ireturn, 1) := by decide +kernel
theorem dX4_bound_21 : decode cX4_bound 21 = .ok (.aload_n 0, 1) := by decide +kernel
theorem dX4_bound_22 : decode cX4_bound 22 = .ok (.lload_n 1, 1) := by decide +kernel
theorem dX4_bound_23 : decode cX4_bound 23 = .ok (.putfield 25, 3) := by decide +kernel
theorem dX4_bound_26 : decode cX4_bound 26 = .ok (.iconst 1, 1) := by decide +kernel
theorem dX4_bound_27 : decode cX4_bound 27 = .ok (.ireturn, 1) := by decide +kernel
set_option maxRecDepth 20000 in
theorem ggX4_worth_X4_isKind : GoodIn wsX4_worth wsX4_isKind := goodIn_r _ [8, 9, 10, 11, 12, 13, 14, 15, 16, 17, 18, 19, 20, 21, 22, 23, 24, 25, 26] (by decide +kernel) (by decide +kernel)
set_option maxRecDepth 20000 in
theorem gX4_worth_X4_isKind : GoodIn wsX4_worth (wsV RX4 73 RX4 yX4_isKind wsX4_isKind) := goodIn_app (goodIn_of _ (by decide +kernel)) ggX4_worth_X4_isKind
theorem dX4_worth_0 : decode cX4_worth 0 = .ok (.aload_n 0, 1) := by decide +kernel
theorem dX4_worth_1 : decode cX4_worth 1 = .ok (.iconst 0, 1) := by decide +kernel
theorem dX4_worth_2 : decode cX4_worth 2 = .ok (.putfield 49, 3) := by decide +kernel
theorem dX4_worth_5 : decode cX4_worth 5 = .ok (.aload_n 0, 1) := by decide +kernel
theorem dX4_worth_6 : decode cX4_worth 6 = .ok (.iload_n 1, 1) := by decide +kernel
theorem dX4_worth_7 : decode cX4_worth 7 = .ok (.invokevirtual 73, 3) := by decide +kernel
theorem dX4_worth_10 : decode cX4_worth 10 = .ok (.ifCond .eq 17, 3) := by decide +kernel
theorem dX4_worth_13 : decode cX4_worth 13 = .ok (.lload_n 2, 1) := by decide +kernel
theorem dX4_worth_14 : decode cX4_worth 14 = .ok (.lconst 0, 1) := by decide +kernel
theorem dX4_worth_15 : decode cX4_worth 15 = .ok (.lcmp, 1) := by decide +kernel
theorem dX4_worth_16 : decode cX4_worth 16 = .ok (.ifCond .lt 11, 3) := by decide +kernel
theorem dX4_worth_19 : decode cX4_worth 19 = .ok (.lload_n 2, 1) := by decide +kernel
theorem dX4_worth_20 : decode cX4_worth 20 = .ok (.ldc2_w 86, 3) := by decide +kernel
theorem dX4_worth_23 : decode cX4_worth 23 = .ok (.lcmp, 1) := by decide +kernel
theorem dX4_worth_24 : decode cX4_worth 24 = .ok (.ifCond .le 5, 3) := by decide +kernel
theorem dX4_worth_27 : decode cX4_worth 27 = .ok (.iconst 0, 1) := by decide +kernel
theorem dX4_worth_28 : decode cX4_worth 28 = .ok (.ireturn, 1) := by decide +kernel
theorem dX4_worth_29 : decode cX4_worth 29 = .ok (.aload_n 0, 1) := by decide +kernel
theorem dX4_worth_30 : decode cX4_worth 30 = .ok (.getfield 29, 3) := by decide +kernel
theorem dX4_worth_33 : decode cX4_worth 33 = .ok (.iload_n 1, 1) := by decide +kernel
theorem dX4_worth_34 : decode cX4_worth 34 = .ok (.lload_n 2, 1) := by decide +kernel
theorem dX4_worth_35 : decode cX4_worth 35 = .ok (.lastore, 1) := by decide +kernel
theorem dX4_worth_36 : decode cX4_worth 36 = .ok (.iconst 1, 1) := by decide +kernel
theorem dX4_worth_37 : decode cX4_worth 37 = .ok (.ireturn, 1) := by decide +kernel
set_option maxRecDepth 20000 in
theorem ggX4_leftOut_X4_takeTaught : GoodIn wsX4_leftOut wsX4_takeTaught := goodIn_r _ [7, 8, 9, 22, 23, 24, 25, 26, 27, 28, 29, 30, 31, 32, 33, 34, 35, 36, 37, 38] (by decide +kernel) (by decide +kernel)
set_option maxRecDepth 20000 in
theorem gX4_leftOut_X4_takeTaught : GoodIn wsX4_leftOut (wsV RX4 88 RX4 yX4_takeTaught wsX4_takeTaught) := goodIn_app (goodIn_of _ (by decide +kernel)) ggX4_leftOut_X4_takeTaught
set_option maxRecDepth 20000 in
theorem ggX4_leftOut_X4_readRow : GoodIn wsX4_leftOut wsX4_readRow := goodIn_r _ [13, 14, 15, 16, 17, 18, 19, 6, 20, 8, 2, 21, 9, 22, 23, 24, 25, 26, 27, 28, 29, 30, 31, 32, 33, 34, 35, 36, 37, 38] (by decide +kernel) (by decide +kernel)
set_option maxRecDepth 20000 in
theorem gX4_leftOut_X4_readRow : GoodIn wsX4_leftOut (wsV RX4 79 RX4 yX4_readRow wsX4_readRow) := goodIn_app (goodIn_of _ (by decide +kernel)) ggX4_leftOut_X4_readRow
theorem dX4_leftOut_0 : decode cX4_leftOut 0 = .ok (.aload_n 0, 1) := by decide +kernel
theorem dX4_leftOut_1 : decode cX4_leftOut 1 = .ok (.iconst 0, 1) := by decide +kernel
theorem dX4_leftOut_2 : decode cX4_leftOut 2 = .ok (.putfield 49, 3) := by decide +kernel
theorem dX4_leftOut_5 : decode cX4_leftOut 5 = .ok (.iload_n 1, 1) := by decide +kernel
theorem dX4_leftOut_6 : decode cX4_leftOut 6 = .ok (.ifCond .lt 11, 3) := by decide +kernel
theorem dX4_leftOut_9 : decode cX4_leftOut 9 = .ok (.iload_n 1, 1) := by decide +kernel
theorem dX4_leftOut_10 : decode cX4_leftOut 10 = .ok (.aload_n 0, 1) := by decide +kernel
theorem dX4_leftOut_11 : decode cX4_leftOut 11 = .ok (.getfield 66, 3) := by decide +kernel
theorem dX4_leftOut_14 : decode cX4_leftOut 14 = .ok (.if_icmp .lt 6, 3) := by decide +kernel
theorem dX4_leftOut_17 : decode cX4_leftOut 17 = .ok (.bipush (-2), 2) := by decide +kernel
theorem dX4_leftOut_19 : decode cX4_leftOut 19 = .ok (.ireturn, 1) := by decide +kernel
theorem dX4_leftOut_20 : decode cX4_leftOut 20 = .ok (.aload_n 0, 1) := by decide +kernel
theorem dX4_leftOut_21 : decode cX4_leftOut 21 = .ok (.iload_n 1, 1) := by decide +kernel
theorem dX4_leftOut_22 : decode cX4_leftOut 22 = .ok (.invokevirtual 88, 3) := by decide +kernel
theorem dX4_leftOut_25 : decode cX4_leftOut 25 = .ok (.aload_n 0, 1) := by decide +kernel
theorem dX4_leftOut_26 : decode cX4_leftOut 26 = .ok (.iload_n 1, 1) := by decide +kernel
theorem dX4_leftOut_27 : decode cX4_leftOut 27 = .ok (.invokevirtual 79, 3) := by decide +kernel
theorem dX4_leftOut_30 : decode cX4_leftOut 30 = .ok (.ireturn, 1) := by decide +kernel
set_option maxRecDepth 20000 in
theorem ggX4_wrong_X4_isKind : GoodIn wsX4_wrong wsX4_isKind := goodIn_r _ [9, 10, 31, 32, 33, 34, 35, 36, 37, 38, 39, 40, 41, 42, 43, 44, 45, 46, 47] (by decide +kernel) (by decide +kernel)
set_option maxRecDepth 20000 in
theorem gX4_wrong_X4_isKind : GoodIn wsX4_wrong (wsV RX4 73 RX4 yX4_isKind wsX4_isKind) := goodIn_app (goodIn_of _ (by decide +kernel)) ggX4_wrong_X4_isKind
set_option maxRecDepth 20000 in
theorem ggX4_wrong_X4_leftOut : GoodIn wsX4_wrong wsX4_leftOut := goodIn_r _ [14, 1, 3, 15, 16, 17, 8, 18, 19, 20, 21, 22, 23, 24, 10, 25, 26, 27, 28, 29, 30, 4, 31, 32, 33, 34, 35, 36, 37, 38, 39, 40, 41, 42, 43, 44, 45, 46, 47] (by decide +kernel) (by decide +kernel)
set_option maxRecDepth 20000 in
theorem gX4_wrong_X4_leftOut : GoodIn wsX4_wrong (wsV RX4 92 RX4 yX4_leftOut wsX4_leftOut) := goodIn_app (goodIn_of _ (by decide +kernel)) ggX4_wrong_X4_leftOut
theorem dX4_wrong_0 : decode cX4_wrong 0 = .ok (.aload_n 0, 1) := by decide +kernel
theorem dX4_wrong_1 : decode cX4_wrong 1 = .ok (.iconst 0, 1) := by decide +kernel
theorem dX4_wrong_2 : decode cX4_wrong 2 = .ok (.putfield 49, 3) := by decide +kernel
theorem dX4_wrong_5 : decode cX4_wrong 5 = .ok (.aload_n 0, 1) := by decide +kernel
theorem dX4_wrong_6 : decode cX4_wrong 6 = .ok (.iload_n 1, 1) := by decide +kernel
theorem dX4_wrong_7 : decode cX4_wrong 7 = .ok (.invokevirtual 73, 3) := by decide +kernel
theorem dX4_wrong_10 : decode cX4_wrong 10 = .ok (.ifCond .eq 16, 3) := by decide +kernel
theorem dX4_wrong_13 : decode cX4_wrong 13 = .ok (.iload_n 2, 1) := by decide +kernel
theorem dX4_wrong_14 : decode cX4_wrong 14 = .ok (.iconst (-1), 1) := by decide +kernel
theorem dX4_wrong_15 : decode cX4_wrong 15 = .ok (.if_icmp .eq 15, 3) := by decide +kernel
theorem dX4_wrong_18 : decode cX4_wrong 18 = .ok (.aload_n 0, 1) := by decide +kernel
theorem dX4_wrong_19 : decode cX4_wrong 19 = .ok (.iload_n 2, 1) := by decide +kernel
theorem dX4_wrong_20 : decode cX4_wrong 20 = .ok (.invokevirtual 73, 3) := by decide +kernel
theorem dX4_wrong_23 : decode cX4_wrong 23 = .ok (.ifCond .ne 7, 3) := by decide +kernel
theorem dX4_wrong_26 : decode cX4_wrong 26 = .ok (.ldc2_w 82, 3) := by decide +kernel
theorem dX4_wrong_29 : decode cX4_wrong 29 = .ok (.lreturn, 1) := by decide +kernel
theorem dX4_wrong_30 : decode cX4_wrong 30 = .ok (.lconst 0, 1) := by decide +kernel
theorem dX4_wrong_31 : decode cX4_wrong 31 = .ok (.lstore_n 3, 1) := by decide +kernel
theorem dX4_wrong_32 : decode cX4_wrong 32 = .ok (.iconst 0, 1) := by decide +kernel
theorem dX4_wrong_33 : decode cX4_wrong 33 = .ok (.istore 5, 2) := by decide +kernel
theorem dX4_wrong_35 : decode cX4_wrong 35 = .ok (.iload 5, 2) := by decide +kernel
theorem dX4_wrong_37 : decode cX4_wrong 37 = .ok (.aload_n 0, 1) := by decide +kernel
theorem dX4_wrong_38 : decode cX4_wrong 38 = .ok (.getfield 66, 3) := by decide +kernel
theorem dX4_wrong_41 : decode cX4_wrong 41 = .ok (.if_icmp .ge 38, 3) := by decide +kernel
theorem dX4_wrong_44 : decode cX4_wrong 44 = .ok (.lload_n 3, 1) := by decide +kernel
theorem dX4_wrong_45 : decode cX4_wrong 45 = .ok (.aload_n 0, 1) := by decide +kernel
theorem dX4_wrong_46 : decode cX4_wrong 46 = .ok (.getfield 19, 3) := by decide +kernel
theorem dX4_wrong_49 : decode cX4_wrong 49 = .ok (.iload 5, 2) := by decide +kernel
theorem dX4_wrong_51 : decode cX4_wrong 51 = .ok (.iaload, 1) := by decide +kernel
theorem dX4_wrong_52 : decode cX4_wrong 52 = .ok (.iload_n 1, 1) := by decide +kernel
theorem dX4_wrong_53 : decode cX4_wrong 53 = .ok (.if_icmp .ne 17, 3) := by decide +kernel
theorem dX4_wrong_56 : decode cX4_wrong 56 = .ok (.aload_n 0, 1) := by decide +kernel
theorem dX4_wrong_57 : decode cX4_wrong 57 = .ok (.iload 5, 2) := by decide +kernel
theorem dX4_wrong_59 : decode cX4_wrong 59 = .ok (.invokevirtual 92, 3) := by decide +kernel
theorem dX4_wrong_62 : decode cX4_wrong 62 = .ok (.iload_n 2, 1) := by decide +kernel
theorem dX4_wrong_63 : decode cX4_wrong 63 = .ok (.if_icmp .ne 7, 3) := by decide +kernel
theorem dX4_wrong_66 : decode cX4_wrong 66 = .ok (.lconst 1, 1) := by decide +kernel
theorem dX4_wrong_67 : decode cX4_wrong 67 = .ok (.goto 4, 3) := by decide +kernel
theorem dX4_wrong_70 : decode cX4_wrong 70 = .ok (.lconst 0, 1) := by decide +kernel
theorem dX4_wrong_71 : decode cX4_wrong 71 = .ok (.ladd, 1) := by decide +kernel
theorem dX4_wrong_72 : decode cX4_wrong 72 = .ok (.lstore_n 3, 1) := by decide +kernel
theorem dX4_wrong_73 : decode cX4_wrong 73 = .ok (.iinc 5 1, 3) := by decide +kernel
theorem dX4_wrong_76 : decode cX4_wrong 76 = .ok (.goto (-41), 3) := by decide +kernel
theorem dX4_wrong_79 : decode cX4_wrong 79 = .ok (.lload_n 3, 1) := by decide +kernel
theorem dX4_wrong_80 : decode cX4_wrong 80 = .ok (.lreturn, 1) := by decide +kernel
set_option maxRecDepth 20000 in
theorem ggX4_correct_X4_isKind : GoodIn wsX4_correct wsX4_isKind := goodIn_r _ [8, 9, 10, 11, 12, 13, 14, 15, 16, 17, 18, 19, 20, 21, 22, 23, 24, 25, 26] (by decide +kernel) (by decide +kernel)
set_option maxRecDepth 20000 in
theorem gX4_correct_X4_isKind : GoodIn wsX4_correct (wsV RX4 73 RX4 yX4_isKind wsX4_isKind) := goodIn_app (goodIn_of _ (by decide +kernel)) ggX4_correct_X4_isKind
theorem dX4_correct_0 : decode cX4_correct 0 = .ok (.aload_n 0, 1) := by decide +kernel
theorem dX4_correct_1 : decode cX4_correct 1 = .ok (.iconst 0, 1) := by decide +kernel
theorem dX4_correct_2 : decode cX4_correct 2 = .ok (.putfield 49, 3) := by decide +kernel
theorem dX4_correct_5 : decode cX4_correct 5 = .ok (.iload_n 1, 1) := by decide +kernel
theorem dX4_correct_6 : decode cX4_correct 6 = .ok (.ifCond .lt 19, 3) := by decide +kernel
theorem dX4_correct_9 : decode cX4_correct 9 = .ok (.iload_n 1, 1) := by decide +kernel
theorem dX4_correct_10 : decode cX4_correct 10 = .ok (.aload_n 0, 1) := by decide +kernel
theorem dX4_correct_11 : decode cX4_correct 11 = .ok (.getfield 66, 3) := by decide +kernel
theorem dX4_correct_14 : decode cX4_correct 14 = .ok (.if_icmp .ge 11, 3) := by decide +kernel
theorem dX4_correct_17 : decode cX4_correct 17 = .ok (.aload_n 0, 1) := by decide +kernel
theorem dX4_correct_18 : decode cX4_correct 18 = .ok (.iload_n 2, 1) := by decide +kernel
theorem dX4_correct_19 : decode cX4_correct 19 = .ok (.invokevirtual 73, 3) := by decide +kernel
theorem dX4_correct_22 : decode cX4_correct 22 = .ok (.ifCond .ne 5, 3) := by decide +kernel
theorem dX4_correct_25 : decode cX4_correct 25 = .ok (.iconst (-1), 1) := by decide +kernel
theorem dX4_correct_26 : decode cX4_correct 26 = .ok (.ireturn, 1) := by decide +kernel
theorem dX4_correct_27 : decode cX4_correct 27 = .ok (.aload_n 0, 1) := by decide +kernel
theorem dX4_correct_28 : decode cX4_correct 28 = .ok (.getfield 19, 3) := by decide +kernel
theorem dX4_correct_31 : decode cX4_correct 31 = .ok (.iload_n 1, 1) := by decide +kernel
theorem dX4_correct_32 : decode cX4_correct 32 = .ok (.iaload, 1) := by decide +kernel
theorem dX4_correct_33 : decode cX4_correct 33 = .ok (.istore_n 3, 1) := by decide +kernel
theorem dX4_correct_34 : decode cX4_correct 34 = .ok (.aload_n 0, 1) := by decide +kernel
theorem dX4_correct_35 : decode cX4_correct 35 = .ok (.getfield 19, 3) := by decide +kernel
theorem dX4_correct_38 : decode cX4_correct 38 = .ok (.iload_n 1, 1) := by decide +kernel
theorem dX4_correct_39 : decode cX4_correct 39 = .ok (.iload_n 2, 1) := by decide +kernel
theorem dX4_correct_40 : decode cX4_correct 40 = .ok (.iastore, 1) := by decide +kernel
theorem dX4_correct_41 : decode cX4_correct 41 = .ok (.iload_n 3, 1) := by decide +kernel
theorem dX4_correct_42 : decode cX4_correct 42 = .ok (.ireturn, 1) := by decide +kernel
theorem dX4_isPlace_0 : decode cX4_isPlace 0 = .ok (.iload_n 0, 1) := by decide +kernel
theorem dX4_isPlace_1 : decode cX4_isPlace 1 = .ok (.ifCond .lt 23, 3) := by decide +kernel
theorem dX4_isPlace_4 : decode cX4_isPlace 4 = .ok (.iload_n 0, 1) := by decide +kernel
theorem dX4_isPlace_5 : decode cX4_isPlace 5 = .ok (.bipush 16, 2) := by decide +kernel
theorem dX4_isPlace_7 : decode cX4_isPlace 7 = .ok (.if_icmp .ge 17, 3) := by decide +kernel
theorem dX4_isPlace_10 : decode cX4_isPlace 10 = .ok (.iload_n 1, 1) := by decide +kernel
theorem dX4_isPlace_11 : decode cX4_isPlace 11 = .ok (.ifCond .lt 13, 3) := by decide +kernel
theorem dX4_isPlace_14 : decode cX4_isPlace 14 = .ok (.iload_n 1, 1) := by decide +kernel
theorem dX4_isPlace_15 : decode cX4_isPlace 15 = .ok (.bipush 16, 2) := by decide +kernel
theorem dX4_isPlace_17 : decode cX4_isPlace 17 = .ok (.if_icmp .ge 7, 3) := by decide +kernel
theorem dX4_isPlace_20 : decode cX4_isPlace 20 = .ok (.iconst 1, 1) := by decide +kernel
theorem dX4_isPlace_21 : decode cX4_isPlace 21 = .ok (.goto 4, 3) := by decide +kernel
theorem dX4_isPlace_24 : decode cX4_isPlace 24 = .ok (.iconst 0, 1) := by decide +kernel
theorem dX4_isPlace_25 : decode cX4_isPlace 25 = .ok (.ireturn, 1) := by decide +kernel
set_option maxRecDepth 20000 in
theorem ggX4_pixel_X4_isPlace : GoodIn wsX4_pixel wsX4_isPlace := goodIn_r _ [7] (by decide +kernel) (by decide +kernel)
set_option maxRecDepth 20000 in
theorem gX4_pixel_X4_isPlace : GoodIn wsX4_pixel (va_wsS RX4 95 yX4_isPlace wsX4_isPlace) := goodIn_app (goodIn_of _ (by decide +kernel)) ggX4_pixel_X4_isPlace
set_option maxRecDepth 20000 in
theorem ggX4_pixel_X4_takeNow : GoodIn wsX4_pixel wsX4_takeNow := goodIn_r _ [11, 12, 13, 14, 15, 6, 16, 17, 18, 19, 34, 35, 36, 37, 38, 39, 40, 41, 42, 43, 44, 45, 46, 47, 48, 49, 50] (by decide +kernel) (by decide +kernel)
set_option maxRecDepth 20000 in
theorem gX4_pixel_X4_takeNow : GoodIn wsX4_pixel (wsV RX4 76 RX4 yX4_takeNow wsX4_takeNow) := goodIn_app (goodIn_of _ (by decide +kernel)) ggX4_pixel_X4_takeNow
set_option maxRecDepth 20000 in
theorem ggX4_pixel_X4_readRow : GoodIn wsX4_pixel wsX4_readRow := goodIn_r _ [23, 24, 25, 26, 27, 28, 29, 6, 30, 12, 31, 32, 33, 34, 35, 36, 37, 38, 39, 40, 41, 42, 43, 44, 45, 46, 47, 48, 49, 50] (by decide +kernel) (by decide +kernel)
set_option maxRecDepth 20000 in
theorem gX4_pixel_X4_readRow : GoodIn wsX4_pixel (wsV RX4 79 RX4 yX4_readRow wsX4_readRow) := goodIn_app (goodIn_of _ (by decide +kernel)) ggX4_pixel_X4_readRow
theorem dX4_pixel_0 : decode cX4_pixel 0 = .ok (.aload_n 0, 1) := by decide +kernel
theorem dX4_pixel_1 : decode cX4_pixel 1 = .ok (.iconst 0, 1) := by decide +kernel
theorem dX4_pixel_2 : decode cX4_pixel 2 = .ok (.putfield 49, 3) := by decide +kernel
theorem dX4_pixel_5 : decode cX4_pixel 5 = .ok (.iload_n 1, 1) := by decide +kernel
theorem dX4_pixel_6 : decode cX4_pixel 6 = .ok (.iload_n 2, 1) := by decide +kernel
theorem dX4_pixel_7 : decode cX4_pixel 7 = .ok (.invokestatic 95, 3) := by decide +kernel
theorem dX4_pixel_10 : decode cX4_pixel 10 = .ok (.ifCond .eq 26, 3) := by decide +kernel
theorem dX4_pixel_13 : decode cX4_pixel 13 = .ok (.aload_n 0, 1) := by decide +kernel
theorem dX4_pixel_14 : decode cX4_pixel 14 = .ok (.getfield 33, 3) := by decide +kernel
theorem dX4_pixel_17 : decode cX4_pixel 17 = .ok (.bipush 16, 2) := by decide +kernel
theorem dX4_pixel_19 : decode cX4_pixel 19 = .ok (.iload_n 2, 1) := by decide +kernel
theorem dX4_pixel_20 : decode cX4_pixel 20 = .ok (.imul, 1) := by decide +kernel
theorem dX4_pixel_21 : decode cX4_pixel 21 = .ok (.iload_n 1, 1) := by decide +kernel
theorem dX4_pixel_22 : decode cX4_pixel 22 = .ok (.iadd, 1) := by decide +kernel
theorem dX4_pixel_23 : decode cX4_pixel 23 = .ok (.iaload, 1) := by decide +kernel
theorem dX4_pixel_24 : decode cX4_pixel 24 = .ok (.ifCond .gt 12, 3) := by decide +kernel
theorem dX4_pixel_27 : decode cX4_pixel 27 = .ok (.aload_n 0, 1) := by decide +kernel
theorem dX4_pixel_28 : decode cX4_pixel 28 = .ok (.getfield 99, 3) := by decide +kernel
theorem dX4_pixel_31 : decode cX4_pixel 31 = .ok (.bipush 100, 2) := by decide +kernel
theorem dX4_pixel_33 : decode cX4_pixel 33 = .ok (.if_icmp .ne 5, 3) := by decide +kernel
theorem dX4_pixel_36 : decode cX4_pixel 36 = .ok (.iconst 0, 1) := by decide +kernel
theorem dX4_pixel_37 : decode cX4_pixel 37 = .ok (.ireturn, 1) := by decide +kernel
theorem dX4_pixel_38 : decode cX4_pixel 38 = .ok (.aload_n 0, 1) := by decide +kernel
theorem dX4_pixel_39 : decode cX4_pixel 39 = .ok (.dup, 1) := by decide +kernel
theorem dX4_pixel_40 : decode cX4_pixel 40 = .ok (.getfield 99, 3) := by decide +kernel
theorem dX4_pixel_43 : decode cX4_pixel 43 = .ok (.iconst 1, 1) := by decide +kernel
theorem dX4_pixel_44 : decode cX4_pixel 44 = .ok (.iadd, 1) := by decide +kernel
theorem dX4_pixel_45 : decode cX4_pixel 45 = .ok (.putfield 99, 3) := by decide +kernel
theorem dX4_pixel_48 : decode cX4_pixel 48 = .ok (.aload_n 0, 1) := by decide +kernel
theorem dX4_pixel_49 : decode cX4_pixel 49 = .ok (.invokevirtual 76, 3) := by decide +kernel
theorem dX4_pixel_52 : decode cX4_pixel 52 = .ok (.aload_n 0, 1) := by decide +kernel
theorem dX4_pixel_53 : decode cX4_pixel 53 = .ok (.getfield 33, 3) := by decide +kernel
theorem dX4_pixel_56 : decode cX4_pixel 56 = .ok (.bipush 16, 2) := by decide +kernel
theorem dX4_pixel_58 : decode cX4_pixel 58 = .ok (.iload_n 2, 1) := by decide +kernel
theorem dX4_pixel_59 : decode cX4_pixel 59 = .ok (.imul, 1) := by decide +kernel
theorem dX4_pixel_60 : decode cX4_pixel 60 = .ok (.iload_n 1, 1) := by decide +kernel
theorem dX4_pixel_61 : decode cX4_pixel 61 = .ok (.iadd, 1) := by decide +kernel
theorem dX4_pixel_62 : decode cX4_pixel 62 = .ok (.iconst 2, 1) := by decide +kernel
theorem dX4_pixel_63 : decode cX4_pixel 63 = .ok (.aload_n 0, 1) := by decide +kernel
theorem dX4_pixel_64 : decode cX4_pixel 64 = .ok (.iconst (-1), 1) := by decide +kernel
theorem dX4_pixel_65 : decode cX4_pixel 65 = .ok (.invokevirtual 79, 3) := by decide +kernel
theorem dX4_pixel_68 : decode cX4_pixel 68 = .ok (.iadd, 1) := by decide +kernel
theorem dX4_pixel_69 : decode cX4_pixel 69 = .ok (.iastore, 1) := by decide +kernel
theorem dX4_pixel_70 : decode cX4_pixel 70 = .ok (.iconst 1, 1) := by decide +kernel
theorem dX4_pixel_71 : decode cX4_pixel 71 = .ok (.ireturn, 1) := by decide +kernel
set_option maxRecDepth 20000 in
theorem ggX4_isKnown_X4_isPlace : GoodIn wsX4_isKnown wsX4_isPlace := goodIn_r _ [5] (by decide +kernel) (by decide +kernel)
set_option maxRecDepth 20000 in
theorem gX4_isKnown_X4_isPlace : GoodIn wsX4_isKnown (va_wsS RX4 95 yX4_isPlace wsX4_isPlace) := goodIn_app (goodIn_of _ (by decide +kernel)) ggX4_isKnown_X4_isPlace
theorem dX4_isKnown_0 : decode cX4_isKnown 0 = .ok (.iload_n 1, 1) := by decide +kernel
theorem dX4_isKnown_1 : decode cX4_isKnown 1 = .ok (.iload_n 2, 1) := by decide +kernel
theorem dX4_isKnown_2 : decode cX4_isKnown 2 = .ok (.invokestatic 95, 3) := by decide +kernel
theorem dX4_isKnown_5 : decode cX4_isKnown 5 = .ok (.ifCond .eq 22, 3) := by decide +kernel
theorem dX4_isKnown_8 : decode cX4_isKnown 8 = .ok (.aload_n 0, 1) := by decide +kernel
theorem dX4_isKnown_9 : decode cX4_isKnown 9 = .ok (.getfield 33, 3) := by decide +kernel
theorem dX4_isKnown_12 : decode cX4_isKnown 12 = .ok (.bipush 16, 2) := by decide +kernel
theorem dX4_isKnown_14 : decode cX4_isKnown 14 = .ok (.iload_n 2, 1) := by decide +kernel
theorem dX4_isKnown_15 : decode cX4_isKnown 15 = .ok (.imul, 1) := by decide +kernel
theorem dX4_isKnown_16 : decode cX4_isKnown 16 = .ok (.iload_n 1, 1) := by decide +kernel
theorem dX4_isKnown_17 : decode cX4_isKnown 17 = .ok (.iadd, 1) := by decide +kernel
theorem dX4_isKnown_18 : decode cX4_isKnown 18 = .ok (.iaload, 1) := by decide +kernel
theorem dX4_isKnown_19 : decode cX4_isKnown 19 = .ok (.iconst 1, 1) := by decide +kernel
theorem dX4_isKnown_20 : decode cX4_isKnown 20 = .ok (.if_icmp .le 7, 3) := by decide +kernel
theorem dX4_isKnown_23 : decode cX4_isKnown 23 = .ok (.iconst 1, 1) := by decide +kernel
theorem dX4_isKnown_24 : decode cX4_isKnown 24 = .ok (.goto 4, 3) := by decide +kernel
theorem dX4_isKnown_27 : decode cX4_isKnown 27 = .ok (.iconst 0, 1) := by decide +kernel
theorem dX4_isKnown_28 : decode cX4_isKnown 28 = .ok (.ireturn, 1) := by decide +kernel
set_option maxRecDepth 20000 in
theorem ggX4_find_X4_spread : GoodIn wsX4_find wsX4_spread := goodIn_r _ [7, 1, 8, 9, 10, 6, 11, 2, 12, 13, 14, 15, 16, 17, 18, 19, 20, 21, 22, 23, 24, 25, 26, 27, 28, 29, 30, 31, 32, 33, 34, 35, 36, 37, 38, 39] (by decide +kernel) (by decide +kernel)
set_option maxRecDepth 20000 in
theorem gX4_find_X4_spread : GoodIn wsX4_find (wsV RX4 102 RX4 yX4_spread wsX4_spread) := goodIn_app (goodIn_of _ (by decide +kernel)) ggX4_find_X4_spread
theorem dX4_find_0 : decode cX4_find 0 = .ok (.iconst 0, 1) := by decide +kernel
theorem dX4_find_1 : decode cX4_find 1 = .ok (.istore_n 1, 1) := by decide +kernel
theorem dX4_find_2 : decode cX4_find 2 = .ok (.iload_n 1, 1) := by decide +kernel
theorem dX4_find_3 : decode cX4_find 3 = .ok (.sipush 256, 3) := by decide +kernel
theorem dX4_find_6 : decode cX4_find 6 = .ok (.if_icmp .ge 16, 3) := by decide +kernel
theorem dX4_find_9 : decode cX4_find 9 = .ok (.aload_n 0, 1) := by decide +kernel
theorem dX4_find_10 : decode cX4_find 10 = .ok (.getfield 42, 3) := by decide +kernel
theorem dX4_find_13 : decode cX4_find 13 = .ok (.iload_n 1, 1) := by decide +kernel
theorem dX4_find_14 : decode cX4_find 14 = .ok (.iconst (-1), 1) := by decide +kernel
theorem dX4_find_15 : decode cX4_find 15 = .ok (.iastore, 1) := by decide +kernel
theorem dX4_find_16 : decode cX4_find 16 = .ok (.iinc 1 1, 3) := by decide +kernel
theorem dX4_find_19 : decode cX4_find 19 = .ok (.goto (-17), 3) := by decide +kernel
theorem dX4_find_22 : decode cX4_find 22 = .ok (.iconst 0, 1) := by decide +kernel
theorem dX4_find_23 : decode cX4_find 23 = .ok (.istore_n 1, 1) := by decide +kernel
theorem dX4_find_24 : decode cX4_find 24 = .ok (.iconst 0, 1) := by decide +kernel
theorem dX4_find_25 : decode cX4_find 25 = .ok (.istore_n 2, 1) := by decide +kernel
theorem dX4_find_26 : decode cX4_find 26 = .ok (.iload_n 2, 1) := by decide +kernel
theorem dX4_find_27 : decode cX4_find 27 = .ok (.sipush 256, 3) := by decide +kernel
theorem dX4_find_30 : decode cX4_find 30 = .ok (.if_icmp .ge 43, 3) := by decide +kernel
theorem dX4_find_33 : decode cX4_find 33 = .ok (.aload_n 0, 1) := by decide +kernel
theorem dX4_find_34 : decode cX4_find 34 = .ok (.getfield 33, 3) := by decide +kernel
theorem dX4_find_37 : decode cX4_find 37 = .ok (.iload_n 2, 1) := by decide +kernel
theorem dX4_find_38 : decode cX4_find 38 = .ok (.iaload, 1) := by decide +kernel
theorem dX4_find_39 : decode cX4_find 39 = .ok (.iconst 1, 1) := by decide +kernel
theorem dX4_find_40 : decode cX4_find 40 = .ok (.if_icmp .le 27, 3) := by decide +kernel
theorem dX4_find_43 : decode cX4_find 43 = .ok (.aload_n 0, 1) := by decide +kernel
theorem dX4_find_44 : decode cX4_find 44 = .ok (.getfield 42, 3) := by decide +kernel
theorem dX4_find_47 : decode cX4_find 47 = .ok (.iload_n 2, 1) := by decide +kernel
theorem dX4_find_48 : decode cX4_find 48 = .ok (.iaload, 1) := by decide +kernel
theorem dX4_find_49 : decode cX4_find 49 = .ok (.ifCond .ge 18, 3) := by decide +kernel
theorem dX4_find_52 : decode cX4_find 52 = .ok (.aload_n 0, 1) := by decide +kernel
theorem dX4_find_53 : decode cX4_find 53 = .ok (.getfield 42, 3) := by decide +kernel
theorem dX4_find_56 : decode cX4_find 56 = .ok (.iload_n 2, 1) := by decide +kernel
theorem dX4_find_57 : decode cX4_find 57 = .ok (.iload_n 1, 1) := by decide +kernel
theorem dX4_find_58 : decode cX4_find 58 = .ok (.iastore, 1) := by decide +kernel
theorem dX4_find_59 : decode cX4_find 59 = .ok (.aload_n 0, 1) := by decide +kernel
theorem dX4_find_60 : decode cX4_find 60 = .ok (.iload_n 1, 1) := by decide +kernel
theorem dX4_find_61 : decode cX4_find 61 = .ok (.invokevirtual 102, 3) := by decide +kernel
theorem dX4_find_64 : decode cX4_find 64 = .ok (.iinc 1 1, 3) := by decide +kernel
theorem dX4_find_67 : decode cX4_find 67 = .ok (.iinc 2 1, 3) := by decide +kernel
theorem dX4_find_70 : decode cX4_find 70 = .ok (.goto (-44), 3) := by decide +kernel
theorem dX4_find_73 : decode cX4_find 73 = .ok (.iload_n 1, 1) := by decide +kernel
theorem dX4_find_74 : decode cX4_find 74 = .ok (.ireturn, 1) := by decide +kernel
set_option maxRecDepth 20000 in
theorem ggX4_spread_X4_isKnown : GoodIn wsX4_spread wsX4_isKnown := goodIn_r _ [6, 7, 8, 9, 5, 10, 19, 20, 21, 22, 23, 24, 25, 26, 27, 28, 29, 30, 31, 32, 33, 34, 35] (by decide +kernel) (by decide +kernel)
set_option maxRecDepth 20000 in
theorem gX4_spread_X4_isKnown : GoodIn wsX4_spread (wsV RX4 105 RX4 yX4_isKnown wsX4_isKnown) := goodIn_app (goodIn_of _ (by decide +kernel)) ggX4_spread_X4_isKnown
set_option maxRecDepth 20000 in
theorem ggX4_spread_X4_isBeside : GoodIn wsX4_spread wsX4_isBeside := goodIn_r _ [14, 15, 16, 17, 5, 18, 1, 8, 9, 10, 19, 20, 21, 22, 23, 24, 25, 26, 27, 28, 29, 30, 31, 32, 33, 34, 35] (by decide +kernel) (by decide +kernel)
set_option maxRecDepth 20000 in
theorem gX4_spread_X4_isBeside : GoodIn wsX4_spread (wsV RX4 108 RX4 yX4_isBeside wsX4_isBeside) := goodIn_app (goodIn_of _ (by decide +kernel)) ggX4_spread_X4_isBeside
theorem dX4_spread_0 : decode cX4_spread 0 = .ok (.iconst 1, 1) := by decide +kernel
theorem dX4_spread_1 : decode cX4_spread 1 = .ok (.istore_n 2, 1) := by decide +kernel
theorem dX4_spread_2 : decode cX4_spread 2 = .ok (.iload_n 2, 1) := by decide +kernel
theorem dX4_spread_3 : decode cX4_spread 3 = .ok (.ifCond .eq 89, 3) := by decide +kernel
theorem dX4_spread_6 : decode cX4_spread 6 = .ok (.iconst 0, 1) := by decide +kernel
theorem dX4_spread_7 : decode cX4_spread 7 = .ok (.istore_n 2, 1) := by decide +kernel
theorem dX4_spread_8 : decode cX4_spread 8 = .ok (.iconst 0, 1) := by decide +kernel
theorem dX4_spread_9 : decode cX4_spread 9 = .ok (.istore_n 3, 1) := by decide +kernel
theorem dX4_spread_10 : decode cX4_spread 10 = .ok (.iload_n 3, 1) := by decide +kernel
theorem dX4_spread_11 : decode cX4_spread 11 = .ok (.bipush 16, 2) := by decide +kernel
theorem dX4_spread_13 : decode cX4_spread 13 = .ok (.if_icmp .ge 76, 3) := by decide +kernel
theorem dX4_spread_16 : decode cX4_spread 16 = .ok (.iconst 0, 1) := by decide +kernel
theorem dX4_spread_17 : decode cX4_spread 17 = .ok (.istore 4, 2) := by decide +kernel
theorem dX4_spread_19 : decode cX4_spread 19 = .ok (.iload 4, 2) := by decide +kernel
theorem dX4_spread_21 : decode cX4_spread 21 = .ok (.bipush 16, 2) := by decide +kernel
theorem dX4_spread_23 : decode cX4_spread 23 = .ok (.if_icmp .ge 60, 3) := by decide +kernel
theorem dX4_spread_26 : decode cX4_spread 26 = .ok (.aload_n 0, 1) := by decide +kernel
theorem dX4_spread_27 : decode cX4_spread 27 = .ok (.iload 4, 2) := by decide +kernel
theorem dX4_spread_29 : decode cX4_spread 29 = .ok (.iload_n 3, 1) := by decide +kernel
theorem dX4_spread_30 : decode cX4_spread 30 = .ok (.invokevirtual 105, 3) := by decide +kernel
theorem dX4_spread_33 : decode cX4_spread 33 = .ok (.ifCond .eq 44, 3) := by decide +kernel
theorem dX4_spread_36 : decode cX4_spread 36 = .ok (.aload_n 0, 1) := by decide +kernel
theorem dX4_spread_37 : decode cX4_spread 37 = .ok (.getfield 42, 3) := by decide +kernel
theorem dX4_spread_40 : decode cX4_spread 40 = .ok (.bipush 16, 2) := by decide +kernel
theorem dX4_spread_42 : decode cX4_spread 42 = .ok (.iload_n 3, 1) := by decide +kernel
theorem dX4_spread_43 : decode cX4_spread 43 = .ok (.imul, 1) := by decide +kernel
theorem dX4_spread_44 : decode cX4_spread 44 = .ok (.iload 4, 2) := by decide +kernel
theorem dX4_spread_46 : decode cX4_spread 46 = .ok (.iadd, 1) := by decide +kernel
theorem dX4_spread_47 : decode cX4_spread 47 = .ok (.iaload, 1) := by decide +kernel
theorem dX4_spread_48 : decode cX4_spread 48 = .ok (.ifCond .ge 29, 3) := by decide +kernel
theorem dX4_spread_51 : decode cX4_spread 51 = .ok (.aload_n 0, 1) := by decide +kernel
theorem dX4_spread_52 : decode cX4_spread 52 = .ok (.iload 4, 2) := by decide +kernel
theorem dX4_spread_54 : decode cX4_spread 54 = .ok (.iload_n 3, 1) := by decide +kernel
theorem dX4_spread_55 : decode cX4_spread 55 = .ok (.iload_n 1, 1) := by decide +kernel
theorem dX4_spread_56 : decode cX4_spread 56 = .ok (.invokevirtual 108, 3) := by decide +kernel
theorem dX4_spread_59 : decode cX4_spread 59 = .ok (.ifCond .eq 18, 3) := by decide +kernel
theorem dX4_spread_62 : decode cX4_spread 62 = .ok (.aload_n 0, 1) := by decide +kernel
theorem dX4_spread_63 : decode cX4_spread 63 = .ok (.getfield 42, 3) := by decide +kernel
theorem dX4_spread_66 : decode cX4_spread 66 = .ok (.bipush 16, 2) := by decide +kernel
theorem dX4_spread_68 : decode cX4_spread 68 = .ok (.iload_n 3, 1) := by decide +kernel
theorem dX4_spread_69 : decode cX4_spread 69 = .ok (.imul, 1) := by decide +kernel
theorem dX4_spread_70 : decode cX4_spread 70 = .ok (.iload 4, 2) := by decide +kernel
theorem dX4_spread_72 : decode cX4_spread 72 = .ok (.iadd, 1) := by decide +kernel
theorem dX4_spread_73 : decode cX4_spread 73 = .ok (.iload_n 1, 1) := by decide +kernel
theorem dX4_spread_74 : decode cX4_spread 74 = .ok (.iastore, 1) := by decide +kernel
theorem dX4_spread_75 : decode cX4_spread 75 = .ok (.iconst 1, 1) := by decide +kernel
theorem dX4_spread_76 : decode cX4_spread 76 = .ok (.istore_n 2, 1) := by decide +kernel
theorem dX4_spread_77 : decode cX4_spread 77 = .ok (.iinc 4 1, 3) := by decide +kernel
theorem dX4_spread_80 : decode cX4_spread 80 = .ok (.goto (-61), 3) := by decide +kernel
theorem dX4_spread_83 : decode cX4_spread 83 = .ok (.iinc 3 1, 3) := by decide +kernel
theorem dX4_spread_86 : decode cX4_spread 86 = .ok (.goto (-76), 3) := by decide +kernel
theorem dX4_spread_89 : decode cX4_spread 89 = .ok (.goto (-87), 3) := by decide +kernel
theorem dX4_spread_92 : decode cX4_spread 92 = .ok (.return_, 1) := by decide +kernel
set_option maxRecDepth 20000 in
theorem ggX4_isOf_X4_isPlace : GoodIn wsX4_isOf wsX4_isPlace := goodIn_r _ [5] (by decide +kernel) (by decide +kernel)
set_option maxRecDepth 20000 in
theorem gX4_isOf_X4_isPlace : GoodIn wsX4_isOf (va_wsS RX4 95 yX4_isPlace wsX4_isPlace) := goodIn_app (goodIn_of _ (by decide +kernel)) ggX4_isOf_X4_isPlace
theorem dX4_isOf_0 : decode cX4_isOf 0 = .ok (.iload_n 1, 1) := by decide +kernel
theorem dX4_isOf_1 : decode cX4_isOf 1 = .ok (.iload_n 2, 1) := by decide +kernel
theorem dX4_isOf_2 : decode cX4_isOf 2 = .ok (.invokestatic 95, 3) := by decide +kernel
theorem dX4_isOf_5 : decode cX4_isOf 5 = .ok (.ifCond .eq 22, 3) := by decide +kernel
theorem dX4_isOf_8 : decode cX4_isOf 8 = .ok (.aload_n 0, 1) := by decide +kernel
theorem dX4_isOf_9 : decode cX4_isOf 9 = .ok (.getfield 42, 3) := by decide +kernel
theorem dX4_isOf_12 : decode cX4_isOf 12 = .ok (.bipush 16, 2) := by decide +kernel
theorem dX4_isOf_14 : decode cX4_isOf 14 = .ok (.iload_n 2, 1) := by decide +kernel
theorem dX4_isOf_15 : decode cX4_isOf 15 = .ok (.imul, 1) := by decide +kernel
theorem dX4_isOf_16 : decode cX4_isOf 16 = .ok (.iload_n 1, 1) := by decide +kernel
theorem dX4_isOf_17 : decode cX4_isOf 17 = .ok (.iadd, 1) := by decide +kernel
theorem dX4_isOf_18 : decode cX4_isOf 18 = .ok (.iaload, 1) := by decide +kernel
theorem dX4_isOf_19 : decode cX4_isOf 19 = .ok (.iload_n 3, 1) := by decide +kernel
theorem dX4_isOf_20 : decode cX4_isOf 20 = .ok (.if_icmp .ne 7, 3) := by decide +kernel
theorem dX4_isOf_23 : decode cX4_isOf 23 = .ok (.iconst 1, 1) := by decide +kernel
theorem dX4_isOf_24 : decode cX4_isOf 24 = .ok (.goto 4, 3) := by decide +kernel
theorem dX4_isOf_27 : decode cX4_isOf 27 = .ok (.iconst 0, 1) := by decide +kernel
theorem dX4_isOf_28 : decode cX4_isOf 28 = .ok (.ireturn, 1) := by decide +kernel
set_option maxRecDepth 20000 in
theorem ggX4_isBeside_X4_isOf : GoodIn wsX4_isBeside wsX4_isOf := goodIn_r _ [5, 6, 7, 8, 4, 9, 10, 11, 12, 13, 14, 15, 16, 17, 18, 19, 20, 21, 22, 23, 24, 25, 26] (by decide +kernel) (by decide +kernel)
set_option maxRecDepth 20000 in
theorem gX4_isBeside_X4_isOf : GoodIn wsX4_isBeside (wsV RX4 112 RX4 yX4_isOf wsX4_isOf) := goodIn_app (goodIn_of _ (by decide +kernel)) ggX4_isBeside_X4_isOf
theorem dX4_isBeside_0 : decode cX4_isBeside 0 = .ok (.aload_n 0, 1) := by decide +kernel
theorem dX4_isBeside_1 : decode cX4_isBeside 1 = .ok (.iload_n 1, 1) := by decide +kernel
theorem dX4_isBeside_2 : decode cX4_isBeside 2 = .ok (.iconst 1, 1) := by decide +kernel
theorem dX4_isBeside_3 : decode cX4_isBeside 3 = .ok (.isub, 1) := by decide +kernel
theorem dX4_isBeside_4 : decode cX4_isBeside 4 = .ok (.iload_n 2, 1) := by decide +kernel
theorem dX4_isBeside_5 : decode cX4_isBeside 5 = .ok (.iload_n 3, 1) := by decide +kernel
theorem dX4_isBeside_6 : decode cX4_isBeside 6 = .ok (.invokevirtual 112, 3) := by decide +kernel
theorem dX4_isBeside_9 : decode cX4_isBeside 9 = .ok (.ifCond .ne 39, 3) := by decide +kernel
theorem dX4_isBeside_12 : decode cX4_isBeside 12 = .ok (.aload_n 0, 1) := by decide +kernel
theorem dX4_isBeside_13 : decode cX4_isBeside 13 = .ok (.iload_n 1, 1) := by decide +kernel
theorem dX4_isBeside_14 : decode cX4_isBeside 14 = .ok (.iconst 1, 1) := by decide +kernel
theorem dX4_isBeside_15 : decode cX4_isBeside 15 = .ok (.iadd, 1) := by decide +kernel
theorem dX4_isBeside_16 : decode cX4_isBeside 16 = .ok (.iload_n 2, 1) := by decide +kernel
theorem dX4_isBeside_17 : decode cX4_isBeside 17 = .ok (.iload_n 3, 1) := by decide +kernel
theorem dX4_isBeside_18 : decode cX4_isBeside 18 = .ok (.invokevirtual 112, 3) := by decide +kernel
theorem dX4_isBeside_21 : decode cX4_isBeside 21 = .ok (.ifCond .ne 27, 3) := by decide +kernel
theorem dX4_isBeside_24 : decode cX4_isBeside 24 = .ok (.aload_n 0, 1) := by decide +kernel
theorem dX4_isBeside_25 : decode cX4_isBeside 25 = .ok (.iload_n 1, 1) := by decide +kernel
theorem dX4_isBeside_26 : decode cX4_isBeside 26 = .ok (.iload_n 2, 1) := by decide +kernel
theorem dX4_isBeside_27 : decode cX4_isBeside 27 = .ok (.iconst 1, 1) := by decide +kernel
theorem dX4_isBeside_28 : decode cX4_isBeside 28 = .ok (.isub, 1) := by decide +kernel
theorem dX4_isBeside_29 : decode cX4_isBeside 29 = .ok (.iload_n 3, 1) := by decide +kernel
theorem dX4_isBeside_30 : decode cX4_isBeside 30 = .ok (.invokevirtual 112, 3) := by decide +kernel
theorem dX4_isBeside_33 : decode cX4_isBeside 33 = .ok (.ifCond .ne 15, 3) := by decide +kernel
theorem dX4_isBeside_36 : decode cX4_isBeside 36 = .ok (.aload_n 0, 1) := by decide +kernel
theorem dX4_isBeside_37 : decode cX4_isBeside 37 = .ok (.iload_n 1, 1) := by decide +kernel
theorem dX4_isBeside_38 : decode cX4_isBeside 38 = .ok (.iload_n 2, 1) := by decide +kernel
theorem dX4_isBeside_39 : decode cX4_isBeside 39 = .ok (.iconst 1, 1) := by decide +kernel
theorem dX4_isBeside_40 : decode cX4_isBeside 40 = .ok (.iadd, 1) := by decide +kernel
theorem dX4_isBeside_41 : decode cX4_isBeside 41 = .ok (.iload_n 3, 1) := by decide +kernel
theorem dX4_isBeside_42 : decode cX4_isBeside 42 = .ok (.invokevirtual 112, 3) := by decide +kernel
theorem dX4_isBeside_45 : decode cX4_isBeside 45 = .ok (.ifCond .eq 7, 3) := by decide +kernel
theorem dX4_isBeside_48 : decode cX4_isBeside 48 = .ok (.iconst 1, 1) := by decide +kernel
theorem dX4_isBeside_49 : decode cX4_isBeside 49 = .ok (.goto 4, 3) := by decide +kernel
theorem dX4_isBeside_52 : decode cX4_isBeside 52 = .ok (.iconst 0, 1) := by decide +kernel
theorem dX4_isBeside_53 : decode cX4_isBeside 53 = .ok (.ireturn, 1) := by decide +kernel
set_option maxRecDepth 20000 in
theorem ggX4_piece_X4_find : GoodIn wsX4_piece wsX4_find := goodIn_r _ [7, 2, 8, 9, 10, 11, 6, 12, 13, 14, 15, 16, 17, 18, 19, 20, 21, 22, 23, 24, 25, 26, 27, 28, 29, 30, 31, 32, 33, 34, 35, 36, 37, 38, 39, 40, 41, 42, 43, 44] (by decide +kernel) (by decide +kernel)
set_option maxRecDepth 20000 in
theorem gX4_piece_X4_find : GoodIn wsX4_piece (wsV RX4 115 RX4 yX4_find wsX4_find) := goodIn_app (goodIn_of _ (by decide +kernel)) ggX4_piece_X4_find
set_option maxRecDepth 20000 in
theorem ggX4_piece_X4_isPlace : GoodIn wsX4_piece wsX4_isPlace := goodIn_r _ [19] (by decide +kernel) (by decide +kernel)
set_option maxRecDepth 20000 in
theorem gX4_piece_X4_isPlace : GoodIn wsX4_piece (va_wsS RX4 95 yX4_isPlace wsX4_isPlace) := goodIn_app (goodIn_of _ (by decide +kernel)) ggX4_piece_X4_isPlace
theorem dX4_piece_0 : decode cX4_piece 0 = .ok (.aload_n 0, 1) := by decide +kernel
theorem dX4_piece_1 : decode cX4_piece 1 = .ok (.iconst 0, 1) := by decide +kernel
theorem dX4_piece_2 : decode cX4_piece 2 = .ok (.putfield 49, 3) := by decide +kernel
theorem dX4_piece_5 : decode cX4_piece 5 = .ok (.aload_n 0, 1) := by decide +kernel
theorem dX4_piece_6 : decode cX4_piece 6 = .ok (.invokevirtual 115, 3) := by decide +kernel
theorem dX4_piece_9 : decode cX4_piece 9 = .ok (.istore_n 3, 1) := by decide +kernel
theorem dX4_piece_10 : decode cX4_piece 10 = .ok (.iload_n 1, 1) := by decide +kernel
theorem dX4_piece_11 : decode cX4_piece 11 = .ok (.iload_n 2, 1) := by decide +kernel
theorem dX4_piece_12 : decode cX4_piece 12 = .ok (.invokestatic 95, 3) := by decide +kernel
theorem dX4_piece_15 : decode cX4_piece 15 = .ok (.ifCond .eq 17, 3) := by decide +kernel
theorem dX4_piece_18 : decode cX4_piece 18 = .ok (.aload_n 0, 1) := by decide +kernel
theorem dX4_piece_19 : decode cX4_piece 19 = .ok (.getfield 42, 3) := by decide +kernel
theorem dX4_piece_22 : decode cX4_piece 22 = .ok (.bipush 16, 2) := by decide +kernel
theorem dX4_piece_24 : decode cX4_piece 24 = .ok (.iload_n 2, 1) := by decide +kernel
theorem dX4_piece_25 : decode cX4_piece 25 = .ok (.imul, 1) := by decide +kernel
theorem dX4_piece_26 : decode cX4_piece 26 = .ok (.iload_n 1, 1) := by decide +kernel
theorem dX4_piece_27 : decode cX4_piece 27 = .ok (.iadd, 1) := by decide +kernel
theorem dX4_piece_28 : decode cX4_piece 28 = .ok (.iaload, 1) := by decide +kernel
theorem dX4_piece_29 : decode cX4_piece 29 = .ok (.goto 4, 3) := by decide +kernel
theorem dX4_piece_32 : decode cX4_piece 32 = .ok (.iconst (-1), 1) := by decide +kernel
theorem dX4_piece_33 : decode cX4_piece 33 = .ok (.ireturn, 1) := by decide +kernel
theorem dX4_pixelsOf_0 : decode cX4_pixelsOf 0 = .ok (.iconst 0, 1) := by decide +kernel
theorem dX4_pixelsOf_1 : decode cX4_pixelsOf 1 = .ok (.istore_n 3, 1) := by decide +kernel
theorem dX4_pixelsOf_2 : decode cX4_pixelsOf 2 = .ok (.iconst 0, 1) := by decide +kernel
theorem dX4_pixelsOf_3 : decode cX4_pixelsOf 3 = .ok (.istore 4, 2) := by decide +kernel
theorem dX4_pixelsOf_5 : decode cX4_pixelsOf 5 = .ok (.iload 4, 2) := by decide +kernel
theorem dX4_pixelsOf_7 : decode cX4_pixelsOf 7 = .ok (.sipush 256, 3) := by decide +kernel
theorem dX4_pixelsOf_10 : decode cX4_pixelsOf 10 = .ok (.if_icmp .ge 41, 3) := by decide +kernel
theorem dX4_pixelsOf_13 : decode cX4_pixelsOf 13 = .ok (.iload_n 3, 1) := by decide +kernel
theorem dX4_pixelsOf_14 : decode cX4_pixelsOf 14 = .ok (.aload_n 0, 1) := by decide +kernel
theorem dX4_pixelsOf_15 : decode cX4_pixelsOf 15 = .ok (.getfield 42, 3) := by decide +kernel
theorem dX4_pixelsOf_18 : decode cX4_pixelsOf 18 = .ok (.iload 4, 2) := by decide +kernel
theorem dX4_pixelsOf_20 : decode cX4_pixelsOf 20 = .ok (.iaload, 1) := by decide +kernel
theorem dX4_pixelsOf_21 : decode cX4_pixelsOf 21 = .ok (.iload_n 1, 1) := by decide +kernel
theorem dX4_pixelsOf_22 : decode cX4_pixelsOf 22 = .ok (.if_icmp .ne 20, 3) := by decide +kernel
theorem dX4_pixelsOf_25 : decode cX4_pixelsOf 25 = .ok (.aload_n 0, 1) := by decide +kernel
theorem dX4_pixelsOf_26 : decode cX4_pixelsOf 26 = .ok (.getfield 33, 3) := by decide +kernel
theorem dX4_pixelsOf_29 : decode cX4_pixelsOf 29 = .ok (.iload 4, 2) := by decide +kernel
theorem dX4_pixelsOf_31 : decode cX4_pixelsOf 31 = .ok (.iaload, 1) := by decide +kernel
theorem dX4_pixelsOf_32 : decode cX4_pixelsOf 32 = .ok (.iload_n 2, 1) := by decide +kernel
theorem dX4_pixelsOf_33 : decode cX4_pixelsOf 33 = .ok (.iconst 2, 1) := by decide +kernel
theorem dX4_pixelsOf_34 : decode cX4_pixelsOf 34 = .ok (.iadd, 1) := by decide +kernel
theorem dX4_pixelsOf_35 : decode cX4_pixelsOf 35 = .ok (.if_icmp .ne 7, 3) := by decide +kernel
theorem dX4_pixelsOf_38 : decode cX4_pixelsOf 38 = .ok (.iconst 1, 1) := by decide +kernel
theorem dX4_pixelsOf_39 : decode cX4_pixelsOf 39 = .ok (.goto 4, 3) := by decide +kernel
theorem dX4_pixelsOf_42 : decode cX4_pixelsOf 42 = .ok (.iconst 0, 1) := by decide +kernel
theorem dX4_pixelsOf_43 : decode cX4_pixelsOf 43 = .ok (.iadd, 1) := by decide +kernel
theorem dX4_pixelsOf_44 : decode cX4_pixelsOf 44 = .ok (.istore_n 3, 1) := by decide +kernel
theorem dX4_pixelsOf_45 : decode cX4_pixelsOf 45 = .ok (.iinc 4 1, 3) := by decide +kernel
theorem dX4_pixelsOf_48 : decode cX4_pixelsOf 48 = .ok (.goto (-43), 3) := by decide +kernel
theorem dX4_pixelsOf_51 : decode cX4_pixelsOf 51 = .ok (.iload_n 3, 1) := by decide +kernel
theorem dX4_pixelsOf_52 : decode cX4_pixelsOf 52 = .ok (.ireturn, 1) := by decide +kernel
set_option maxRecDepth 20000 in
theorem ggX4_pieceKind_X4_find : GoodIn wsX4_pieceKind wsX4_find := goodIn_r _ [8, 9, 10, 11, 12, 13, 7, 14, 15, 16, 17, 18, 19, 20, 21, 22, 23, 24, 25, 26, 27, 28, 29, 34, 35, 36, 37, 38, 39, 40, 41, 42, 43, 44, 45, 46, 47, 48, 49, 50] (by decide +kernel) (by decide +kernel)
set_option maxRecDepth 20000 in
theorem gX4_pieceKind_X4_find : GoodIn wsX4_pieceKind (wsV RX4 115 RX4 yX4_find wsX4_find) := goodIn_app (goodIn_of _ (by decide +kernel)) ggX4_pieceKind_X4_find
set_option maxRecDepth 20000 in
theorem ggX4_pieceKind_X4_pixelsOf : GoodIn wsX4_pieceKind wsX4_pixelsOf := goodIn_r _ [33, 9, 10, 34, 35, 36, 37, 38, 39, 40, 41, 42, 43, 44, 45, 46, 47, 48, 49, 50] (by decide +kernel) (by decide +kernel)
set_option maxRecDepth 20000 in
theorem gX4_pieceKind_X4_pixelsOf : GoodIn wsX4_pieceKind (wsV RX4 119 RX4 yX4_pixelsOf wsX4_pixelsOf) := goodIn_app (goodIn_of _ (by decide +kernel)) ggX4_pieceKind_X4_pixelsOf
theorem dX4_pieceKind_0 : decode cX4_pieceKind 0 = .ok (.aload_n 0, 1) := by decide +kernel
theorem dX4_pieceKind_1 : decode cX4_pieceKind 1 = .ok (.iconst 0, 1) := by decide +kernel
theorem dX4_pieceKind_2 : decode cX4_pieceKind 2 = .ok (.putfield 49, 3) := by decide +kernel
theorem dX4_pieceKind_5 : decode cX4_pieceKind 5 = .ok (.iload_n 1, 1) := by decide +kernel
theorem dX4_pieceKind_6 : decode cX4_pieceKind 6 = .ok (.ifCond .lt 11, 3) := by decide +kernel
theorem dX4_pieceKind_9 : decode cX4_pieceKind 9 = .ok (.iload_n 1, 1) := by decide +kernel
theorem dX4_pieceKind_10 : decode cX4_pieceKind 10 = .ok (.aload_n 0, 1) := by decide +kernel
theorem dX4_pieceKind_11 : decode cX4_pieceKind 11 = .ok (.invokevirtual 115, 3) := by decide +kernel
theorem dX4_pieceKind_14 : decode cX4_pieceKind 14 = .ok (.if_icmp .lt 5, 3) := by decide +kernel
theorem dX4_pieceKind_17 : decode cX4_pieceKind 17 = .ok (.iconst (-1), 1) := by decide +kernel
theorem dX4_pieceKind_18 : decode cX4_pieceKind 18 = .ok (.ireturn, 1) := by decide +kernel
theorem dX4_pieceKind_19 : decode cX4_pieceKind 19 = .ok (.iconst 0, 1) := by decide +kernel
theorem dX4_pieceKind_20 : decode cX4_pieceKind 20 = .ok (.istore_n 2, 1) := by decide +kernel
theorem dX4_pieceKind_21 : decode cX4_pieceKind 21 = .ok (.iconst 1, 1) := by decide +kernel
theorem dX4_pieceKind_22 : decode cX4_pieceKind 22 = .ok (.istore_n 3, 1) := by decide +kernel
theorem dX4_pieceKind_23 : decode cX4_pieceKind 23 = .ok (.iload_n 3, 1) := by decide +kernel
theorem dX4_pieceKind_24 : decode cX4_pieceKind 24 = .ok (.aload_n 0, 1) := by decide +kernel
theorem dX4_pieceKind_25 : decode cX4_pieceKind 25 = .ok (.getfield 45, 3) := by decide +kernel
theorem dX4_pieceKind_28 : decode cX4_pieceKind 28 = .ok (.if_icmp .ge 61, 3) := by decide +kernel
theorem dX4_pieceKind_31 : decode cX4_pieceKind 31 = .ok (.aload_n 0, 1) := by decide +kernel
theorem dX4_pieceKind_32 : decode cX4_pieceKind 32 = .ok (.iload_n 1, 1) := by decide +kernel
theorem dX4_pieceKind_33 : decode cX4_pieceKind 33 = .ok (.iload_n 3, 1) := by decide +kernel
theorem dX4_pieceKind_34 : decode cX4_pieceKind 34 = .ok (.invokevirtual 119, 3) := by decide +kernel
theorem dX4_pieceKind_37 : decode cX4_pieceKind 37 = .ok (.istore 4, 2) := by decide +kernel
theorem dX4_pieceKind_39 : decode cX4_pieceKind 39 = .ok (.aload_n 0, 1) := by decide +kernel
theorem dX4_pieceKind_40 : decode cX4_pieceKind 40 = .ok (.iload_n 1, 1) := by decide +kernel
theorem dX4_pieceKind_41 : decode cX4_pieceKind 41 = .ok (.iload_n 2, 1) := by decide +kernel
theorem dX4_pieceKind_42 : decode cX4_pieceKind 42 = .ok (.invokevirtual 119, 3) := by decide +kernel
theorem dX4_pieceKind_45 : decode cX4_pieceKind 45 = .ok (.istore 5, 2) := by decide +kernel
theorem dX4_pieceKind_47 : decode cX4_pieceKind 47 = .ok (.iload 4, 2) := by decide +kernel
theorem dX4_pieceKind_49 : decode cX4_pieceKind 49 = .ok (.iload 5, 2) := by decide +kernel
theorem dX4_pieceKind_51 : decode cX4_pieceKind 51 = .ok (.if_icmp .gt 26, 3) := by decide +kernel
theorem dX4_pieceKind_54 : decode cX4_pieceKind 54 = .ok (.iload 4, 2) := by decide +kernel
theorem dX4_pieceKind_56 : decode cX4_pieceKind 56 = .ok (.iload 5, 2) := by decide +kernel
theorem dX4_pieceKind_58 : decode cX4_pieceKind 58 = .ok (.if_icmp .ne 23, 3) := by decide +kernel
theorem dX4_pieceKind_61 : decode cX4_pieceKind 61 = .ok (.aload_n 0, 1) := by decide +kernel
theorem dX4_pieceKind_62 : decode cX4_pieceKind 62 = .ok (.getfield 29, 3) := by decide +kernel
theorem dX4_pieceKind_65 : decode cX4_pieceKind 65 = .ok (.iload_n 3, 1) := by decide +kernel
theorem dX4_pieceKind_66 : decode cX4_pieceKind 66 = .ok (.laload, 1) := by decide +kernel
theorem dX4_pieceKind_67 : decode cX4_pieceKind 67 = .ok (.aload_n 0, 1) := by decide +kernel
theorem dX4_pieceKind_68 : decode cX4_pieceKind 68 = .ok (.getfield 29, 3) := by decide +kernel
theorem dX4_pieceKind_71 : decode cX4_pieceKind 71 = .ok (.iload_n 2, 1) := by decide +kernel
theorem dX4_pieceKind_72 : decode cX4_pieceKind 72 = .ok (.laload, 1) := by decide +kernel
theorem dX4_pieceKind_73 : decode cX4_pieceKind 73 = .ok (.lcmp, 1) := by decide +kernel
theorem dX4_pieceKind_74 : decode cX4_pieceKind 74 = .ok (.ifCond .le 7, 3) := by decide +kernel
theorem dX4_pieceKind_77 : decode cX4_pieceKind 77 = .ok (.iload_n 3, 1) := by decide +kernel
theorem dX4_pieceKind_78 : decode cX4_pieceKind 78 = .ok (.goto 4, 3) := by decide +kernel
theorem dX4_pieceKind_81 : decode cX4_pieceKind 81 = .ok (.iload_n 2, 1) := by decide +kernel
theorem dX4_pieceKind_82 : decode cX4_pieceKind 82 = .ok (.istore_n 2, 1) := by decide +kernel
theorem dX4_pieceKind_83 : decode cX4_pieceKind 83 = .ok (.iinc 3 1, 3) := by decide +kernel
theorem dX4_pieceKind_86 : decode cX4_pieceKind 86 = .ok (.goto (-63), 3) := by decide +kernel
theorem dX4_pieceKind_89 : decode cX4_pieceKind 89 = .ok (.iload_n 2, 1) := by decide +kernel
theorem dX4_pieceKind_90 : decode cX4_pieceKind 90 = .ok (.ireturn, 1) := by decide +kernel
set_option maxRecDepth 20000 in
theorem ggX4_neighbours_X4_find : GoodIn wsX4_neighbours wsX4_find := goodIn_r _ [6, 7, 8, 9, 10, 11, 5, 12, 13, 14, 15, 16, 17, 18, 19, 20, 21, 22, 23, 24, 25, 26, 27, 32, 33, 34, 35, 36, 37, 38, 39, 40, 41, 42, 43, 44, 45, 46, 47, 48] (by decide +kernel) (by decide +kernel)
set_option maxRecDepth 20000 in
theorem gX4_neighbours_X4_find : GoodIn wsX4_neighbours (wsV RX4 115 RX4 yX4_find wsX4_find) := goodIn_app (goodIn_of _ (by decide +kernel)) ggX4_neighbours_X4_find
set_option maxRecDepth 20000 in
theorem ggX4_neighbours_X4_areNear : GoodIn wsX4_neighbours wsX4_areNear := goodIn_r _ [31, 24, 25, 26, 5, 27, 7, 17, 18, 19, 32, 33, 34, 35, 36, 37, 38, 39, 40, 41, 42, 43, 44, 45, 46, 47, 48] (by decide +kernel) (by decide +kernel)
set_option maxRecDepth 20000 in
theorem gX4_neighbours_X4_areNear : GoodIn wsX4_neighbours (wsV RX4 123 RX4 yX4_areNear wsX4_areNear) := goodIn_app (goodIn_of _ (by decide +kernel)) ggX4_neighbours_X4_areNear
theorem dX4_neighbours_0 : decode cX4_neighbours 0 = .ok (.aload_n 0, 1) := by decide +kernel
theorem dX4_neighbours_1 : decode cX4_neighbours 1 = .ok (.iconst 0, 1) := by decide +kernel
theorem dX4_neighbours_2 : decode cX4_neighbours 2 = .ok (.putfield 49, 3) := by decide +kernel
theorem dX4_neighbours_5 : decode cX4_neighbours 5 = .ok (.aload_n 0, 1) := by decide +kernel
theorem dX4_neighbours_6 : decode cX4_neighbours 6 = .ok (.invokevirtual 115, 3) := by decide +kernel
theorem dX4_neighbours_9 : decode cX4_neighbours 9 = .ok (.istore_n 2, 1) := by decide +kernel
theorem dX4_neighbours_10 : decode cX4_neighbours 10 = .ok (.iload_n 1, 1) := by decide +kernel
theorem dX4_neighbours_11 : decode cX4_neighbours 11 = .ok (.ifCond .lt 8, 3) := by decide +kernel
theorem dX4_neighbours_14 : decode cX4_neighbours 14 = .ok (.iload_n 1, 1) := by decide +kernel
theorem dX4_neighbours_15 : decode cX4_neighbours 15 = .ok (.iload_n 2, 1) := by decide +kernel
theorem dX4_neighbours_16 : decode cX4_neighbours 16 = .ok (.if_icmp .lt 5, 3) := by decide +kernel
theorem dX4_neighbours_19 : decode cX4_neighbours 19 = .ok (.iconst (-1), 1) := by decide +kernel
theorem dX4_neighbours_20 : decode cX4_neighbours 20 = .ok (.ireturn, 1) := by decide +kernel
theorem dX4_neighbours_21 : decode cX4_neighbours 21 = .ok (.iconst 0, 1) := by decide +kernel
theorem dX4_neighbours_22 : decode cX4_neighbours 22 = .ok (.istore_n 3, 1) := by decide +kernel
theorem dX4_neighbours_23 : decode cX4_neighbours 23 = .ok (.iconst 0, 1) := by decide +kernel
theorem dX4_neighbours_24 : decode cX4_neighbours 24 = .ok (.istore 4, 2) := by decide +kernel
theorem dX4_neighbours_26 : decode cX4_neighbours 26 = .ok (.iload 4, 2) := by decide +kernel
theorem dX4_neighbours_28 : decode cX4_neighbours 28 = .ok (.iload_n 2, 1) := by decide +kernel
theorem dX4_neighbours_29 : decode cX4_neighbours 29 = .ok (.if_icmp .ge 33, 3) := by decide +kernel
theorem dX4_neighbours_32 : decode cX4_neighbours 32 = .ok (.iload_n 3, 1) := by decide +kernel
theorem dX4_neighbours_33 : decode cX4_neighbours 33 = .ok (.iload 4, 2) := by decide +kernel
theorem dX4_neighbours_35 : decode cX4_neighbours 35 = .ok (.iload_n 1, 1) := by decide +kernel
theorem dX4_neighbours_36 : decode cX4_neighbours 36 = .ok (.if_icmp .eq 17, 3) := by decide +kernel
theorem dX4_neighbours_39 : decode cX4_neighbours 39 = .ok (.aload_n 0, 1) := by decide +kernel
theorem dX4_neighbours_40 : decode cX4_neighbours 40 = .ok (.iload_n 1, 1) := by decide +kernel
theorem dX4_neighbours_41 : decode cX4_neighbours 41 = .ok (.iload 4, 2) := by decide +kernel
theorem dX4_neighbours_43 : decode cX4_neighbours 43 = .ok (.invokevirtual 123, 3) := by decide +kernel
theorem dX4_neighbours_46 : decode cX4_neighbours 46 = .ok (.ifCond .eq 7, 3) := by decide +kernel
theorem dX4_neighbours_49 : decode cX4_neighbours 49 = .ok (.iconst 1, 1) := by decide +kernel
theorem dX4_neighbours_50 : decode cX4_neighbours 50 = .ok (.goto 4, 3) := by decide +kernel
theorem dX4_neighbours_53 : decode cX4_neighbours 53 = .ok (.iconst 0, 1) := by decide +kernel
theorem dX4_neighbours_54 : decode cX4_neighbours 54 = .ok (.iadd, 1) := by decide +kernel
theorem dX4_neighbours_55 : decode cX4_neighbours 55 = .ok (.istore_n 3, 1) := by decide +kernel
theorem dX4_neighbours_56 : decode cX4_neighbours 56 = .ok (.iinc 4 1, 3) := by decide +kernel
theorem dX4_neighbours_59 : decode cX4_neighbours 59 = .ok (.goto (-33), 3) := by decide +kernel
theorem dX4_neighbours_62 : decode cX4_neighbours 62 = .ok (.iload_n 3, 1) := by decide +kernel
theorem dX4_neighbours_63 : decode cX4_neighbours 63 = .ok (.ireturn, 1) := by decide +kernel
set_option maxRecDepth 20000 in
theorem ggX4_areNear_X4_isOf : GoodIn wsX4_areNear wsX4_isOf := goodIn_r _ [5, 6, 7, 8, 4, 9, 10, 11, 12, 13, 14, 15, 16, 17, 18, 19, 20, 21, 22, 23, 24, 25, 26] (by decide +kernel) (by decide +kernel)
set_option maxRecDepth 20000 in
theorem gX4_areNear_X4_isOf : GoodIn wsX4_areNear (wsV RX4 112 RX4 yX4_isOf wsX4_isOf) := goodIn_app (goodIn_of _ (by decide +kernel)) ggX4_areNear_X4_isOf
theorem dX4_areNear_0 : decode cX4_areNear 0 = .ok (.iconst 0, 1) := by decide +kernel
theorem dX4_areNear_1 : decode cX4_areNear 1 = .ok (.istore_n 3, 1) := by decide +kernel
theorem dX4_areNear_2 : decode cX4_areNear 2 = .ok (.iconst 0, 1) := by decide +kernel
theorem dX4_areNear_3 : decode cX4_areNear 3 = .ok (.istore 4, 2) := by decide +kernel
theorem dX4_areNear_5 : decode cX4_areNear 5 = .ok (.iload 4, 2) := by decide +kernel
theorem dX4_areNear_7 : decode cX4_areNear 7 = .ok (.bipush 16, 2) := by decide +kernel
theorem dX4_areNear_9 : decode cX4_areNear 9 = .ok (.if_icmp .ge 89, 3) := by decide +kernel
theorem dX4_areNear_12 : decode cX4_areNear 12 = .ok (.iconst 0, 1) := by decide +kernel
theorem dX4_areNear_13 : decode cX4_areNear 13 = .ok (.istore 5, 2) := by decide +kernel
theorem dX4_areNear_15 : decode cX4_areNear 15 = .ok (.iload 5, 2) := by decide +kernel
theorem dX4_areNear_17 : decode cX4_areNear 17 = .ok (.bipush 16, 2) := by decide +kernel
theorem dX4_areNear_19 : decode cX4_areNear 19 = .ok (.if_icmp .ge 73, 3) := by decide +kernel
theorem dX4_areNear_22 : decode cX4_areNear 22 = .ok (.iconst 0, 1) := by decide +kernel
theorem dX4_areNear_23 : decode cX4_areNear 23 = .ok (.istore 6, 2) := by decide +kernel
theorem dX4_areNear_25 : decode cX4_areNear 25 = .ok (.iload 6, 2) := by decide +kernel
theorem dX4_areNear_27 : decode cX4_areNear 27 = .ok (.bipush 9, 2) := by decide +kernel
theorem dX4_areNear_29 : decode cX4_areNear 29 = .ok (.if_icmp .ge 57, 3) := by decide +kernel
theorem dX4_areNear_32 : decode cX4_areNear 32 = .ok (.aload_n 0, 1) := by decide +kernel
theorem dX4_areNear_33 : decode cX4_areNear 33 = .ok (.iload 5, 2) := by decide +kernel
theorem dX4_areNear_35 : decode cX4_areNear 35 = .ok (.iload 4, 2) := by decide +kernel
theorem dX4_areNear_37 : decode cX4_areNear 37 = .ok (.iload_n 1, 1) := by decide +kernel
theorem dX4_areNear_38 : decode cX4_areNear 38 = .ok (.invokevirtual 112, 3) := by decide +kernel
theorem dX4_areNear_41 : decode cX4_areNear 41 = .ok (.ifCond .eq 45, 3) := by decide +kernel
theorem dX4_areNear_44 : decode cX4_areNear 44 = .ok (.iload_n 3, 1) := by decide +kernel
theorem dX4_areNear_45 : decode cX4_areNear 45 = .ok (.ifCond .ne 29, 3) := by decide +kernel
theorem dX4_areNear_48 : decode cX4_areNear 48 = .ok (.aload_n 0, 1) := by decide +kernel
theorem dX4_areNear_49 : decode cX4_areNear 49 = .ok (.iload 5, 2) := by decide +kernel
theorem dX4_areNear_51 : decode cX4_areNear 51 = .ok (.iload 6, 2) := by decide +kernel
theorem dX4_areNear_53 : decode cX4_areNear 53 = .ok (.iconst 3, 1) := by decide +kernel
theorem dX4_areNear_54 : decode cX4_areNear 54 = .ok (.irem, 1) := by decide +kernel
theorem dX4_areNear_55 : decode cX4_areNear 55 = .ok (.iadd, 1) := by decide +kernel
theorem dX4_areNear_56 : decode cX4_areNear 56 = .ok (.iconst 1, 1) := by decide +kernel
theorem dX4_areNear_57 : decode cX4_areNear 57 = .ok (.isub, 1) := by decide +kernel
theorem dX4_areNear_58 : decode cX4_areNear 58 = .ok (.iload 4, 2) := by decide +kernel
theorem dX4_areNear_60 : decode cX4_areNear 60 = .ok (.iload 6, 2) := by decide +kernel
theorem dX4_areNear_62 : decode cX4_areNear 62 = .ok (.iconst 3, 1) := by decide +kernel
theorem dX4_areNear_63 : decode cX4_areNear 63 = .ok (.idiv, 1) := by decide +kernel
theorem dX4_areNear_64 : decode cX4_areNear 64 = .ok (.iadd, 1) := by decide +kernel
theorem dX4_areNear_65 : decode cX4_areNear 65 = .ok (.iconst 1, 1) := by decide +kernel
theorem dX4_areNear_66 : decode cX4_areNear 66 = .ok (.isub, 1) := by decide +kernel
theorem dX4_areNear_67 : decode cX4_areNear 67 = .ok (.iload_n 2, 1) := by decide +kernel
theorem dX4_areNear_68 : decode cX4_areNear 68 = .ok (.invokevirtual 112, 3) := by decide +kernel
theorem dX4_areNear_71 : decode cX4_areNear 71 = .ok (.ifCond .eq 7, 3) := by decide +kernel
theorem dX4_areNear_74 : decode cX4_areNear 74 = .ok (.iconst 1, 1) := by decide +kernel
theorem dX4_areNear_75 : decode cX4_areNear 75 = .ok (.goto 4, 3) := by decide +kernel
theorem dX4_areNear_78 : decode cX4_areNear 78 = .ok (.iconst 0, 1) := by decide +kernel
theorem dX4_areNear_79 : decode cX4_areNear 79 = .ok (.istore_n 3, 1) := by decide +kernel
theorem dX4_areNear_80 : decode cX4_areNear 80 = .ok (.iinc 6 1, 3) := by decide +kernel
theorem dX4_areNear_83 : decode cX4_areNear 83 = .ok (.goto (-58), 3) := by decide +kernel
theorem dX4_areNear_86 : decode cX4_areNear 86 = .ok (.iinc 5 1, 3) := by decide +kernel
theorem dX4_areNear_89 : decode cX4_areNear 89 = .ok (.goto (-74), 3) := by decide +kernel
theorem dX4_areNear_92 : decode cX4_areNear 92 = .ok (.iinc 4 1, 3) := by decide +kernel
theorem dX4_areNear_95 : decode cX4_areNear 95 = .ok (.goto (-90), 3) := by decide +kernel
theorem dX4_areNear_98 : decode cX4_areNear 98 = .ok (.iload_n 3, 1) := by decide +kernel
theorem dX4_areNear_99 : decode cX4_areNear 99 = .ok (.ireturn, 1) := by decide +kernel
set_option maxRecDepth 20000 in
theorem ggX4_pack_X4_packed : GoodIn wsX4_pack wsX4_packed := goodIn_r _ [7, 8, 2, 9, 10, 11, 12, 13, 14, 15, 16, 17, 18, 19, 20, 21, 22, 23, 24, 25, 26, 27] (by decide +kernel) (by decide +kernel)
set_option maxRecDepth 20000 in
theorem gX4_pack_X4_packed : GoodIn wsX4_pack (wsV RX4 126 RX4 yX4_packed wsX4_packed) := goodIn_app (goodIn_of _ (by decide +kernel)) ggX4_pack_X4_packed
theorem dX4_pack_0 : decode cX4_pack 0 = .ok (.aload_n 0, 1) := by decide +kernel
theorem dX4_pack_1 : decode cX4_pack 1 = .ok (.iconst 0, 1) := by decide +kernel
theorem dX4_pack_2 : decode cX4_pack 2 = .ok (.putfield 49, 3) := by decide +kernel
theorem dX4_pack_5 : decode cX4_pack 5 = .ok (.iconst 3, 1) := by decide +kernel
theorem dX4_pack_6 : decode cX4_pack 6 = .ok (.bipush 9, 2) := by decide +kernel
theorem dX4_pack_8 : decode cX4_pack 8 = .ok (.aload_n 0, 1) := by decide +kernel
theorem dX4_pack_9 : decode cX4_pack 9 = .ok (.getfield 66, 3) := by decide +kernel
theorem dX4_pack_12 : decode cX4_pack 12 = .ok (.imul, 1) := by decide +kernel
theorem dX4_pack_13 : decode cX4_pack 13 = .ok (.iadd, 1) := by decide +kernel
theorem dX4_pack_14 : decode cX4_pack 14 = .ok (.istore_n 2, 1) := by decide +kernel
theorem dX4_pack_15 : decode cX4_pack 15 = .ok (.iload_n 1, 1) := by decide +kernel
theorem dX4_pack_16 : decode cX4_pack 16 = .ok (.ifCond .lt 8, 3) := by decide +kernel
theorem dX4_pack_19 : decode cX4_pack 19 = .ok (.iload_n 1, 1) := by decide +kernel
theorem dX4_pack_20 : decode cX4_pack 20 = .ok (.iload_n 2, 1) := by decide +kernel
theorem dX4_pack_21 : decode cX4_pack 21 = .ok (.if_icmp .lt 5, 3) := by decide +kernel
theorem dX4_pack_24 : decode cX4_pack 24 = .ok (.iconst (-1), 1) := by decide +kernel
theorem dX4_pack_25 : decode cX4_pack 25 = .ok (.ireturn, 1) := by decide +kernel
theorem dX4_pack_26 : decode cX4_pack 26 = .ok (.iload_n 1, 1) := by decide +kernel
theorem dX4_pack_27 : decode cX4_pack 27 = .ok (.iload_n 2, 1) := by decide +kernel
theorem dX4_pack_28 : decode cX4_pack 28 = .ok (.iconst 1, 1) := by decide +kernel
theorem dX4_pack_29 : decode cX4_pack 29 = .ok (.isub, 1) := by decide +kernel
theorem dX4_pack_30 : decode cX4_pack 30 = .ok (.if_icmp .ge 9, 3) := by decide +kernel
theorem dX4_pack_33 : decode cX4_pack 33 = .ok (.aload_n 0, 1) := by decide +kernel
theorem dX4_pack_34 : decode cX4_pack 34 = .ok (.iload_n 1, 1) := by decide +kernel
theorem dX4_pack_35 : decode cX4_pack 35 = .ok (.invokevirtual 126, 3) := by decide +kernel
theorem dX4_pack_38 : decode cX4_pack 38 = .ok (.ireturn, 1) := by decide +kernel
theorem dX4_pack_39 : decode cX4_pack 39 = .ok (.iconst 0, 1) := by decide +kernel
theorem dX4_pack_40 : decode cX4_pack 40 = .ok (.istore_n 3, 1) := by decide +kernel
theorem dX4_pack_41 : decode cX4_pack 41 = .ok (.iconst 0, 1) := by decide +kernel
theorem dX4_pack_42 : decode cX4_pack 42 = .ok (.istore 4, 2) := by decide +kernel
theorem dX4_pack_44 : decode cX4_pack 44 = .ok (.iload 4, 2) := by decide +kernel
theorem dX4_pack_46 : decode cX4_pack 46 = .ok (.iload_n 2, 1) := by decide +kernel
theorem dX4_pack_47 : decode cX4_pack 47 = .ok (.iconst 1, 1) := by decide +kernel
theorem dX4_pack_48 : decode cX4_pack 48 = .ok (.isub, 1) := by decide +kernel
theorem dX4_pack_49 : decode cX4_pack 49 = .ok (.if_icmp .ge 18, 3) := by decide +kernel
theorem dX4_pack_52 : decode cX4_pack 52 = .ok (.iload_n 3, 1) := by decide +kernel
theorem dX4_pack_53 : decode cX4_pack 53 = .ok (.aload_n 0, 1) := by decide +kernel
theorem dX4_pack_54 : decode cX4_pack 54 = .ok (.iload 4, 2) := by decide +kernel
theorem dX4_pack_56 : decode cX4_pack 56 = .ok (.invokevirtual 126, 3) := by decide +kernel
theorem dX4_pack_59 : decode cX4_pack 59 = .ok (.iadd, 1) := by decide +kernel
theorem dX4_pack_60 : decode cX4_pack 60 = .ok (.istore_n 3, 1) := by decide +kernel
theorem dX4_pack_61 : decode cX4_pack 61 = .ok (.iinc 4 1, 3) := by decide +kernel
theorem dX4_pack_64 : decode cX4_pack 64 = .ok (.goto (-20), 3) := by decide +kernel
theorem dX4_pack_67 : decode cX4_pack 67 = .ok (.iload_n 3, 1) := by decide +kernel
theorem dX4_pack_68 : decode cX4_pack 68 = .ok (.sipush 256, 3) := by decide +kernel
theorem dX4_pack_71 : decode cX4_pack 71 = .ok (.irem, 1) := by decide +kernel
theorem dX4_pack_72 : decode cX4_pack 72 = .ok (.ireturn, 1) := by decide +kernel
theorem dX4_packed_0 : decode cX4_packed 0 = .ok (.iload_n 1, 1) := by decide +kernel
theorem dX4_packed_1 : decode cX4_packed 1 = .ok (.iconst 2, 1) := by decide +kernel
theorem dX4_packed_2 : decode cX4_packed 2 = .ok (.if_icmp .ge 19, 3) := by decide +kernel
theorem dX4_packed_5 : decode cX4_packed 5 = .ok (.iload_n 1, 1) := by decide +kernel
theorem dX4_packed_6 : decode cX4_packed 6 = .ok (.ifCond .ne 10, 3) := by decide +kernel
theorem dX4_packed_9 : decode cX4_packed 9 = .ok (.aload_n 0, 1) := by decide +kernel
theorem dX4_packed_10 : decode cX4_packed 10 = .ok (.getfield 45, 3) := by decide +kernel
theorem dX4_packed_13 : decode cX4_packed 13 = .ok (.goto 7, 3) := by decide +kernel
theorem dX4_packed_16 : decode cX4_packed 16 = .ok (.aload_n 0, 1) := by decide +kernel
theorem dX4_packed_17 : decode cX4_packed 17 = .ok (.getfield 66, 3) := by decide +kernel
theorem dX4_packed_20 : decode cX4_packed 20 = .ok (.ireturn, 1) := by decide +kernel
theorem dX4_packed_21 : decode cX4_packed 21 = .ok (.iload_n 1, 1) := by decide +kernel
theorem dX4_packed_22 : decode cX4_packed 22 = .ok (.iconst 2, 1) := by decide +kernel
theorem dX4_packed_23 : decode cX4_packed 23 = .ok (.isub, 1) := by decide +kernel
theorem dX4_packed_24 : decode cX4_packed 24 = .ok (.bipush 9, 2) := by decide +kernel
theorem dX4_packed_26 : decode cX4_packed 26 = .ok (.idiv, 1) := by decide +kernel
theorem dX4_packed_27 : decode cX4_packed 27 = .ok (.istore_n 2, 1) := by decide +kernel
theorem dX4_packed_28 : decode cX4_packed 28 = .ok (.iload_n 1, 1) := by decide +kernel
theorem dX4_packed_29 : decode cX4_packed 29 = .ok (.iconst 2, 1) := by decide +kernel
theorem dX4_packed_30 : decode cX4_packed 30 = .ok (.isub, 1) := by decide +kernel
theorem dX4_packed_31 : decode cX4_packed 31 = .ok (.bipush 9, 2) := by decide +kernel
theorem dX4_packed_33 : decode cX4_packed 33 = .ok (.irem, 1) := by decide +kernel
theorem dX4_packed_34 : decode cX4_packed 34 = .ok (.istore_n 3, 1) := by decide +kernel
theorem dX4_packed_35 : decode cX4_packed 35 = .ok (.iload_n 3, 1) := by decide +kernel
theorem dX4_packed_36 : decode cX4_packed 36 = .ok (.ifCond .ne 12, 3) := by decide +kernel
theorem dX4_packed_39 : decode cX4_packed 39 = .ok (.aload_n 0, 1) := by decide +kernel
theorem dX4_packed_40 : decode cX4_packed 40 = .ok (.getfield 19, 3) := by decide +kernel
theorem dX4_packed_43 : decode cX4_packed 43 = .ok (.iload_n 2, 1) := by decide +kernel
theorem dX4_packed_44 : decode cX4_packed 44 = .ok (.iaload, 1) := by decide +kernel
theorem dX4_packed_45 : decode cX4_packed 45 = .ok (.goto 16, 3) := by decide +kernel
theorem dX4_packed_48 : decode cX4_packed 48 = .ok (.aload_n 0, 1) := by decide +kernel
theorem dX4_packed_49 : decode cX4_packed 49 = .ok (.getfield 22, 3) := by decide +kernel
theorem dX4_packed_52 : decode cX4_packed 52 = .ok (.bipush 8, 2) := by decide +kernel
theorem dX4_packed_54 : decode cX4_packed 54 = .ok (.iload_n 2, 1) := by decide +kernel
theorem dX4_packed_55 : decode cX4_packed 55 = .ok (.imul, 1) := by decide +kernel
theorem dX4_packed_56 : decode cX4_packed 56 = .ok (.iload_n 3, 1) := by decide +kernel
theorem dX4_packed_57 : decode cX4_packed 57 = .ok (.iadd, 1) := by decide +kernel
