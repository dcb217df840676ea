theorem dX3_init_65 : decode cX3_init 65 = .ok (.newarray .long, 2) := by decide +kernel
theorem dX3_init_67 : decode cX3_init 67 = .ok (.putfield 36, 3) := by decide +kernel
theorem dX3_init_70 : decode cX3_init 70 = .ok (.aload_n 0, 1) := by decide +kernel
theorem dX3_init_71 : decode cX3_init 71 = .ok (.lconst 1, 1) := by decide +kernel
theorem dX3_init_72 : decode cX3_init 72 = .ok (.putfield 40, 3) := by decide +kernel
theorem dX3_init_75 : decode cX3_init 75 = .ok (.aload_n 0, 1) := by decide +kernel
theorem dX3_init_76 : decode cX3_init 76 = .ok (.sipush 400, 3) := by decide +kernel
theorem dX3_init_79 : decode cX3_init 79 = .ok (.newarray .int, 2) := by decide +kernel
theorem dX3_init_81 : decode cX3_init 81 = .ok (.putfield 44, 3) := by decide +kernel
theorem dX3_init_84 : decode cX3_init 84 = .ok (.aload_n 0, 1) := by decide +kernel
theorem dX3_init_85 : decode cX3_init 85 = .ok (.iconst 0, 1) := by decide +kernel
theorem dX3_init_86 : decode cX3_init 86 = .ok (.putfield 48, 3) := by decide +kernel
theorem dX3_init_89 : decode cX3_init 89 = .ok (.aload_n 0, 1) := by decide +kernel
theorem dX3_init_90 : decode cX3_init 90 = .ok (.bipush 8, 2) := by decide +kernel
theorem dX3_init_92 : decode cX3_init 92 = .ok (.newarray .int, 2) := by decide +kernel
theorem dX3_init_94 : decode cX3_init 94 = .ok (.putfield 51, 3) := by decide +kernel
theorem dX3_init_97 : decode cX3_init 97 = .ok (.aload_n 0, 1) := by decide +kernel
theorem dX3_init_98 : decode cX3_init 98 = .ok (.bipush 7, 2) := by decide +kernel
theorem dX3_init_100 : decode cX3_init 100 = .ok (.newarray .int, 2) := by decide +kernel
theorem dX3_init_102 : decode cX3_init 102 = .ok (.putfield 54, 3) := by decide +kernel
theorem dX3_init_105 : decode cX3_init 105 = .ok (.aload_n 0, 1) := by decide +kernel
theorem dX3_init_106 : decode cX3_init 106 = .ok (.aload_n 0, 1) := by decide +kernel
theorem dX3_init_107 : decode cX3_init 107 = .ok (.getfield 9, 3) := by decide +kernel
theorem dX3_init_110 : decode cX3_init 110 = .ok (.newarray .long, 2) := by decide +kernel
theorem dX3_init_112 : decode cX3_init 112 = .ok (.putfield 57, 3) := by decide +kernel
theorem dX3_init_115 : decode cX3_init 115 = .ok (.return_, 1) := by decide +kernel
set_option maxRecDepth 20000 in
theorem ggX3_white_X3_isChannel : GoodIn wsX3_white wsX3_isChannel := goodIn_r _ [8] (by decide +kernel) (by decide +kernel)
set_option maxRecDepth 20000 in
theorem gX3_white_X3_isChannel : GoodIn wsX3_white (va_wsS RX3 60 yX3_isChannel wsX3_isChannel) := goodIn_app (goodIn_of _ (by decide +kernel)) ggX3_white_X3_isChannel
set_option maxRecDepth 20000 in
theorem ggX3_white_X3_isByte : GoodIn wsX3_white wsX3_isByte := goodIn_r _ [11] (by decide +kernel) (by decide +kernel)
set_option maxRecDepth 20000 in
theorem gX3_white_X3_isByte : GoodIn wsX3_white (va_wsS RX3 71 yX3_isByte wsX3_isByte) := goodIn_app (goodIn_of _ (by decide +kernel)) ggX3_white_X3_isByte
set_option maxRecDepth 20000 in
theorem ggX3_white_X1_setWhite : GoodIn wsX3_white wsX1_setWhite := goodIn_r _ [16, 17, 35, 36, 37, 38] (by decide +kernel) (by decide +kernel)
set_option maxRecDepth 20000 in
theorem gX3_white_X1_setWhite : GoodIn wsX3_white (wsV RX3 74 RX1 yX1_setWhite wsX1_setWhite) := goodIn_app (goodIn_of _ (by decide +kernel)) ggX3_white_X1_setWhite
theorem dX3_white_0 : decode cX3_white 0 = .ok (.iload_n 1, 1) := by decide +kernel
theorem dX3_white_1 : decode cX3_white 1 = .ok (.invokestatic 60, 3) := by decide +kernel
theorem dX3_white_4 : decode cX3_white 4 = .ok (.ifCond .ne 13, 3) := by decide +kernel
theorem dX3_white_7 : decode cX3_white 7 = .ok (.new 64, 3) := by decide +kernel
theorem dX3_white_10 : decode cX3_white 10 = .ok (.dup, 1) := by decide +kernel
theorem dX3_white_11 : decode cX3_white 11 = .ok (.ldc 66, 2) := by decide +kernel
theorem dX3_white_13 : decode cX3_white 13 = .ok (.invokespecial 68, 3) := by decide +kernel
theorem dX3_white_16 : decode cX3_white 16 = .ok (.athrow, 1) := by decide +kernel
theorem dX3_white_17 : decode cX3_white 17 = .ok (.iload_n 2, 1) := by decide +kernel
theorem dX3_white_18 : decode cX3_white 18 = .ok (.invokestatic 71, 3) := by decide +kernel
theorem dX3_white_21 : decode cX3_white 21 = .ok (.ifCond .eq 19, 3) := by decide +kernel
theorem dX3_white_24 : decode cX3_white 24 = .ok (.aload_n 0, 1) := by decide +kernel
theorem dX3_white_25 : decode cX3_white 25 = .ok (.getfield 16, 3) := by decide +kernel
theorem dX3_white_28 : decode cX3_white 28 = .ok (.iload_n 1, 1) := by decide +kernel
theorem dX3_white_29 : decode cX3_white 29 = .ok (.iload_n 2, 1) := by decide +kernel
theorem dX3_white_30 : decode cX3_white 30 = .ok (.invokevirtual 74, 3) := by decide +kernel
theorem dX3_white_33 : decode cX3_white 33 = .ok (.ifCond .eq 7, 3) := by decide +kernel
theorem dX3_white_36 : decode cX3_white 36 = .ok (.iconst 1, 1) := by decide +kernel
theorem dX3_white_37 : decode cX3_white 37 = .ok (.goto 4, 3) := by decide +kernel
theorem dX3_white_40 : decode cX3_white 40 = .ok (.iconst 0, 1) := by decide +kernel
theorem dX3_white_41 : decode cX3_white 41 = .ok (.ireturn, 1) := by decide +kernel
set_option maxRecDepth 20000 in
theorem ggX3_dark_X3_isChannel : GoodIn wsX3_dark wsX3_isChannel := goodIn_r _ [5] (by decide +kernel) (by decide +kernel)
set_option maxRecDepth 20000 in
theorem gX3_dark_X3_isChannel : GoodIn wsX3_dark (va_wsS RX3 60 yX3_isChannel wsX3_isChannel) := goodIn_app (goodIn_of _ (by decide +kernel)) ggX3_dark_X3_isChannel
set_option maxRecDepth 20000 in
theorem ggX3_dark_X3_isByte : GoodIn wsX3_dark wsX3_isByte := goodIn_r _ [8] (by decide +kernel) (by decide +kernel)
set_option maxRecDepth 20000 in
theorem gX3_dark_X3_isByte : GoodIn wsX3_dark (va_wsS RX3 71 yX3_isByte wsX3_isByte) := goodIn_app (goodIn_of _ (by decide +kernel)) ggX3_dark_X3_isByte
set_option maxRecDepth 20000 in
theorem ggX3_dark_X1_setDark : GoodIn wsX3_dark wsX1_setDark := goodIn_r _ [13, 14, 26, 27, 28, 29] (by decide +kernel) (by decide +kernel)
set_option maxRecDepth 20000 in
theorem gX3_dark_X1_setDark : GoodIn wsX3_dark (wsV RX3 78 RX1 yX1_setDark wsX1_setDark) := goodIn_app (goodIn_of _ (by decide +kernel)) ggX3_dark_X1_setDark
theorem dX3_dark_0 : decode cX3_dark 0 = .ok (.iload_n 1, 1) := by decide +kernel
theorem dX3_dark_1 : decode cX3_dark 1 = .ok (.invokestatic 60, 3) := by decide +kernel
theorem dX3_dark_4 : decode cX3_dark 4 = .ok (.ifCond .eq 26, 3) := by decide +kernel
theorem dX3_dark_7 : decode cX3_dark 7 = .ok (.iload_n 2, 1) := by decide +kernel
theorem dX3_dark_8 : decode cX3_dark 8 = .ok (.invokestatic 71, 3) := by decide +kernel
theorem dX3_dark_11 : decode cX3_dark 11 = .ok (.ifCond .eq 19, 3) := by decide +kernel
theorem dX3_dark_14 : decode cX3_dark 14 = .ok (.aload_n 0, 1) := by decide +kernel
theorem dX3_dark_15 : decode cX3_dark 15 = .ok (.getfield 16, 3) := by decide +kernel
theorem dX3_dark_18 : decode cX3_dark 18 = .ok (.iload_n 1, 1) := by decide +kernel
theorem dX3_dark_19 : decode cX3_dark 19 = .ok (.iload_n 2, 1) := by decide +kernel
theorem dX3_dark_20 : decode cX3_dark 20 = .ok (.invokevirtual 78, 3) := by decide +kernel
theorem dX3_dark_23 : decode cX3_dark 23 = .ok (.ifCond .eq 7, 3) := by decide +kernel
theorem dX3_dark_26 : decode cX3_dark 26 = .ok (.iconst 1, 1) := by decide +kernel
theorem dX3_dark_27 : decode cX3_dark 27 = .ok (.goto 4, 3) := by decide +kernel
theorem dX3_dark_30 : decode cX3_dark 30 = .ok (.iconst 0, 1) := by decide +kernel
theorem dX3_dark_31 : decode cX3_dark 31 = .ok (.ireturn, 1) := by decide +kernel
set_option maxRecDepth 20000 in
theorem ggX3_value_X3_isChannel : GoodIn wsX3_value wsX3_isChannel := goodIn_r _ [5] (by decide +kernel) (by decide +kernel)
set_option maxRecDepth 20000 in
theorem gX3_value_X3_isChannel : GoodIn wsX3_value (va_wsS RX3 60 yX3_isChannel wsX3_isChannel) := goodIn_app (goodIn_of _ (by decide +kernel)) ggX3_value_X3_isChannel
set_option maxRecDepth 20000 in
theorem ggX3_value_X3_isByte : GoodIn wsX3_value wsX3_isByte := goodIn_r _ [8] (by decide +kernel) (by decide +kernel)
set_option maxRecDepth 20000 in
theorem gX3_value_X3_isByte : GoodIn wsX3_value (va_wsS RX3 71 yX3_isByte wsX3_isByte) := goodIn_app (goodIn_of _ (by decide +kernel)) ggX3_value_X3_isByte
set_option maxRecDepth 20000 in
theorem ggX3_value_X1_setValue : GoodIn wsX3_value wsX1_setValue := goodIn_r _ [13, 14, 26, 27, 28, 29] (by decide +kernel) (by decide +kernel)
set_option maxRecDepth 20000 in
theorem gX3_value_X1_setValue : GoodIn wsX3_value (wsV RX3 81 RX1 yX1_setValue wsX1_setValue) := goodIn_app (goodIn_of _ (by decide +kernel)) ggX3_value_X1_setValue
theorem dX3_value_0 : decode cX3_value 0 = .ok (.iload_n 1, 1) := by decide +kernel
theorem dX3_value_1 : decode cX3_value 1 = .ok (.invokestatic 60, 3) := by decide +kernel
theorem dX3_value_4 : decode cX3_value 4 = .ok (.ifCond .eq 26, 3) := by decide +kernel
theorem dX3_value_7 : decode cX3_value 7 = .ok (.iload_n 2, 1) := by decide +kernel
theorem dX3_value_8 : decode cX3_value 8 = .ok (.invokestatic 71, 3) := by decide +kernel
theorem dX3_value_11 : decode cX3_value 11 = .ok (.ifCond .eq 19, 3) := by decide +kernel
theorem dX3_value_14 : decode cX3_value 14 = .ok (.aload_n 0, 1) := by decide +kernel
theorem dX3_value_15 : decode cX3_value 15 = .ok (.getfield 16, 3) := by decide +kernel
theorem dX3_value_18 : decode cX3_value 18 = .ok (.iload_n 1, 1) := by decide +kernel
theorem dX3_value_19 : decode cX3_value 19 = .ok (.iload_n 2, 1) := by decide +kernel
theorem dX3_value_20 : decode cX3_value 20 = .ok (.invokevirtual 81, 3) := by decide +kernel
theorem dX3_value_23 : decode cX3_value 23 = .ok (.ifCond .eq 7, 3) := by decide +kernel
theorem dX3_value_26 : decode cX3_value 26 = .ok (.iconst 1, 1) := by decide +kernel
theorem dX3_value_27 : decode cX3_value 27 = .ok (.goto 4, 3) := by decide +kernel
theorem dX3_value_30 : decode cX3_value 30 = .ok (.iconst 0, 1) := by decide +kernel
theorem dX3_value_31 : decode cX3_value 31 = .ok (.ireturn, 1) := by decide +kernel
set_option maxRecDepth 20000 in
theorem ggX3_reference_X3_isChannel : GoodIn wsX3_reference wsX3_isChannel := goodIn_r _ [5] (by decide +kernel) (by decide +kernel)
set_option maxRecDepth 20000 in
theorem gX3_reference_X3_isChannel : GoodIn wsX3_reference (va_wsS RX3 60 yX3_isChannel wsX3_isChannel) := goodIn_app (goodIn_of _ (by decide +kernel)) ggX3_reference_X3_isChannel
set_option maxRecDepth 20000 in
theorem ggX3_reference_X3_isByte : GoodIn wsX3_reference wsX3_isByte := goodIn_r _ [8] (by decide +kernel) (by decide +kernel)
set_option maxRecDepth 20000 in
theorem gX3_reference_X3_isByte : GoodIn wsX3_reference (va_wsS RX3 71 yX3_isByte wsX3_isByte) := goodIn_app (goodIn_of _ (by decide +kernel)) ggX3_reference_X3_isByte
set_option maxRecDepth 20000 in
theorem ggX3_reference_X1_setWhiteAt : GoodIn wsX3_reference wsX1_setWhiteAt := goodIn_r _ [13, 14, 15, 16, 17, 12, 18, 19, 31, 32, 33, 34] (by decide +kernel) (by decide +kernel)
set_option maxRecDepth 20000 in
theorem gX3_reference_X1_setWhiteAt : GoodIn wsX3_reference (wsV RX3 84 RX1 yX1_setWhiteAt wsX1_setWhiteAt) := goodIn_app (goodIn_of _ (by decide +kernel)) ggX3_reference_X1_setWhiteAt
theorem dX3_reference_0 : decode cX3_reference 0 = .ok (.iload_n 1, 1) := by decide +kernel
theorem dX3_reference_1 : decode cX3_reference 1 = .ok (.invokestatic 60, 3) := by decide +kernel
theorem dX3_reference_4 : decode cX3_reference 4 = .ok (.ifCond .eq 27, 3) := by decide +kernel
theorem dX3_reference_7 : decode cX3_reference 7 = .ok (.iload_n 2, 1) := by decide +kernel
theorem dX3_reference_8 : decode cX3_reference 8 = .ok (.invokestatic 71, 3) := by decide +kernel
theorem dX3_reference_11 : decode cX3_reference 11 = .ok (.ifCond .eq 20, 3) := by decide +kernel
theorem dX3_reference_14 : decode cX3_reference 14 = .ok (.aload_n 0, 1) := by decide +kernel
theorem dX3_reference_15 : decode cX3_reference 15 = .ok (.getfield 16, 3) := by decide +kernel
theorem dX3_reference_18 : decode cX3_reference 18 = .ok (.iload_n 1, 1) := by decide +kernel
theorem dX3_reference_19 : decode cX3_reference 19 = .ok (.iload_n 2, 1) := by decide +kernel
theorem dX3_reference_20 : decode cX3_reference 20 = .ok (.lload_n 3, 1) := by decide +kernel
theorem dX3_reference_21 : decode cX3_reference 21 = .ok (.invokevirtual 84, 3) := by decide +kernel
theorem dX3_reference_24 : decode cX3_reference 24 = .ok (.ifCond .eq 7, 3) := by decide +kernel
theorem dX3_reference_27 : decode cX3_reference 27 = .ok (.iconst 1, 1) := by decide +kernel
theorem dX3_reference_28 : decode cX3_reference 28 = .ok (.goto 4, 3) := by decide +kernel
theorem dX3_reference_31 : decode cX3_reference 31 = .ok (.iconst 0, 1) := by decide +kernel
theorem dX3_reference_32 : decode cX3_reference 32 = .ok (.ireturn, 1) := by decide +kernel
set_option maxRecDepth 20000 in
theorem ggX3_teach_X3_isKind : GoodIn wsX3_teach wsX3_isKind := goodIn_r _ [7, 8, 52, 53, 54, 55, 56, 57, 58, 59, 60, 61, 62] (by decide +kernel) (by decide +kernel)
set_option maxRecDepth 20000 in
theorem gX3_teach_X3_isKind : GoodIn wsX3_teach (wsV RX3 88 RX3 yX3_isKind wsX3_isKind) := goodIn_app (goodIn_of _ (by decide +kernel)) ggX3_teach_X3_isKind
set_option maxRecDepth 20000 in
theorem ggX3_teach_X3_lookAtNow : GoodIn wsX3_teach wsX3_lookAtNow := goodIn_r _ [12, 13, 2, 14, 15, 16, 17, 18, 19, 20, 21, 22, 23, 24, 25, 26, 27, 28, 29, 30, 31, 32, 33, 34, 52, 53, 54, 55, 56, 57, 58, 59, 60, 61, 62, 63, 64, 65, 66] (by decide +kernel) (by decide +kernel)
set_option maxRecDepth 20000 in
theorem gX3_teach_X3_lookAtNow : GoodIn wsX3_teach (wsV RX3 91 RX3 yX3_lookAtNow wsX3_lookAtNow) := goodIn_app (goodIn_of _ (by decide +kernel)) ggX3_teach_X3_lookAtNow
set_option maxRecDepth 20000 in
theorem ggX3_teach_X2_add : GoodIn wsX3_teach wsX2_add := goodIn_r _ [38, 39, 40, 41, 42, 33, 43, 44, 45, 46, 47, 48, 49, 50, 51, 32, 34, 67, 68, 69, 70, 71, 72] (by decide +kernel) (by decide +kernel)
set_option maxRecDepth 20000 in
theorem gX3_teach_X2_add : GoodIn wsX3_teach (wsV RX3 94 RX2 yX2_add wsX2_add) := goodIn_app (goodIn_of _ (by decide +kernel)) ggX3_teach_X2_add
theorem dX3_teach_0 : decode cX3_teach 0 = .ok (.aload_n 0, 1) := by decide +kernel
theorem dX3_teach_1 : decode cX3_teach 1 = .ok (.iload_n 1, 1) := by decide +kernel
theorem dX3_teach_2 : decode cX3_teach 2 = .ok (.invokevirtual 88, 3) := by decide +kernel
theorem dX3_teach_5 : decode cX3_teach 5 = .ok (.ifCond .ne 5, 3) := by decide +kernel
theorem dX3_teach_8 : decode cX3_teach 8 = .ok (.iconst (-1), 1) := by decide +kernel
theorem dX3_teach_9 : decode cX3_teach 9 = .ok (.ireturn, 1) := by decide +kernel
theorem dX3_teach_10 : decode cX3_teach 10 = .ok (.aload_n 0, 1) := by decide +kernel
theorem dX3_teach_11 : decode cX3_teach 11 = .ok (.invokevirtual 91, 3) := by decide +kernel
theorem dX3_teach_14 : decode cX3_teach 14 = .ok (.aload_n 0, 1) := by decide +kernel
theorem dX3_teach_15 : decode cX3_teach 15 = .ok (.getfield 25, 3) := by decide +kernel
theorem dX3_teach_18 : decode cX3_teach 18 = .ok (.iload_n 1, 1) := by decide +kernel
theorem dX3_teach_19 : decode cX3_teach 19 = .ok (.aload_n 0, 1) := by decide +kernel
theorem dX3_teach_20 : decode cX3_teach 20 = .ok (.getfield 51, 3) := by decide +kernel
theorem dX3_teach_23 : decode cX3_teach 23 = .ok (.invokevirtual 94, 3) := by decide +kernel
theorem dX3_teach_26 : decode cX3_teach 26 = .ok (.ireturn, 1) := by decide +kernel
set_option maxRecDepth 20000 in
theorem ggX3_read_X3_lookAtNow : GoodIn wsX3_read wsX3_lookAtNow := goodIn_r _ [6, 7, 8, 1, 9, 10, 11, 12, 13, 14, 15, 16, 17, 18, 19, 20, 21, 22, 23, 24, 25, 26, 27, 28, 58, 59, 60, 61, 62, 63, 64, 65, 66, 67, 68, 69, 70, 71, 72] (by decide +kernel) (by decide +kernel)
set_option maxRecDepth 20000 in
theorem gX3_read_X3_lookAtNow : GoodIn wsX3_read (wsV RX3 91 RX3 yX3_lookAtNow wsX3_lookAtNow) := goodIn_app (goodIn_of _ (by decide +kernel)) ggX3_read_X3_lookAtNow
set_option maxRecDepth 20000 in
theorem ggX3_read_X3_readCells : GoodIn wsX3_read wsX3_readCells := goodIn_r _ [32, 33, 34, 35, 36, 37, 38, 39, 27, 40, 41, 42, 43, 44, 45, 46, 47, 48, 49, 50, 51, 52, 53, 54, 55, 5, 56, 57, 58, 59, 60, 61, 62, 63, 64, 65, 66, 67, 68, 73, 74, 75, 76, 77, 78] (by decide +kernel) (by decide +kernel)
set_option maxRecDepth 20000 in
theorem gX3_read_X3_readCells : GoodIn wsX3_read (wsV RX3 98 RX3 yX3_readCells wsX3_readCells) := goodIn_app (goodIn_of _ (by decide +kernel)) ggX3_read_X3_readCells
theorem dX3_read_0 : decode cX3_read 0 = .ok (.aload_n 0, 1) := by decide +kernel
theorem dX3_read_1 : decode cX3_read 1 = .ok (.invokevirtual 91, 3) := by decide +kernel
theorem dX3_read_4 : decode cX3_read 4 = .ok (.aload_n 0, 1) := by decide +kernel
theorem dX3_read_5 : decode cX3_read 5 = .ok (.aload_n 0, 1) := by decide +kernel
theorem dX3_read_6 : decode cX3_read 6 = .ok (.getfield 54, 3) := by decide +kernel
theorem dX3_read_9 : decode cX3_read 9 = .ok (.iconst (-1), 1) := by decide +kernel
theorem dX3_read_10 : decode cX3_read 10 = .ok (.invokevirtual 98, 3) := by decide +kernel
theorem dX3_read_13 : decode cX3_read 13 = .ok (.ireturn, 1) := by decide +kernel
set_option maxRecDepth 20000 in
theorem ggX3_sum_X3_isKind : GoodIn wsX3_sum wsX3_isKind := goodIn_r _ [8, 9, 52, 53, 54, 55, 56, 57, 58, 59, 60, 61, 62] (by decide +kernel) (by decide +kernel)
set_option maxRecDepth 20000 in
theorem gX3_sum_X3_isKind : GoodIn wsX3_sum (wsV RX3 88 RX3 yX3_isKind wsX3_isKind) := goodIn_app (goodIn_of _ (by decide +kernel)) ggX3_sum_X3_isKind
set_option maxRecDepth 20000 in
theorem ggX3_sum_X3_lookAtNow : GoodIn wsX3_sum wsX3_lookAtNow := goodIn_r _ [13, 14, 15, 3, 16, 17, 18, 19, 20, 21, 22, 23, 24, 25, 26, 27, 28, 29, 30, 31, 32, 33, 34, 35, 52, 53, 54, 55, 56, 57, 58, 59, 60, 61, 62, 63, 64, 65, 66] (by decide +kernel) (by decide +kernel)
set_option maxRecDepth 20000 in
theorem gX3_sum_X3_lookAtNow : GoodIn wsX3_sum (wsV RX3 91 RX3 yX3_lookAtNow wsX3_lookAtNow) := goodIn_app (goodIn_of _ (by decide +kernel)) ggX3_sum_X3_lookAtNow
set_option maxRecDepth 20000 in
theorem ggX3_sum_X2_sumOf : GoodIn wsX3_sum wsX2_sumOf := goodIn_r _ [39, 40, 41, 42, 43, 44, 45, 46, 47, 48, 49, 50, 34, 51, 67, 68, 69, 70, 71, 72] (by decide +kernel) (by decide +kernel)
set_option maxRecDepth 20000 in
theorem gX3_sum_X2_sumOf : GoodIn wsX3_sum (wsV RX3 104 RX2 yX2_sumOf wsX2_sumOf) := goodIn_app (goodIn_of _ (by decide +kernel)) ggX3_sum_X2_sumOf
theorem dX3_sum_0 : decode cX3_sum 0 = .ok (.aload_n 0, 1) := by decide +kernel
theorem dX3_sum_1 : decode cX3_sum 1 = .ok (.iload_n 1, 1) := by decide +kernel
theorem dX3_sum_2 : decode cX3_sum 2 = .ok (.invokevirtual 88, 3) := by decide +kernel
theorem dX3_sum_5 : decode cX3_sum 5 = .ok (.ifCond .ne 7, 3) := by decide +kernel
theorem dX3_sum_8 : decode cX3_sum 8 = .ok (.ldc2_w 102, 3) := by decide +kernel
theorem dX3_sum_11 : decode cX3_sum 11 = .ok (.lreturn, 1) := by decide +kernel
theorem dX3_sum_12 : decode cX3_sum 12 = .ok (.aload_n 0, 1) := by decide +kernel
theorem dX3_sum_13 : decode cX3_sum 13 = .ok (.invokevirtual 91, 3) := by decide +kernel
theorem dX3_sum_16 : decode cX3_sum 16 = .ok (.aload_n 0, 1) := by decide +kernel
theorem dX3_sum_17 : decode cX3_sum 17 = .ok (.getfield 25, 3) := by decide +kernel
theorem dX3_sum_20 : decode cX3_sum 20 = .ok (.iload_n 1, 1) := by decide +kernel
theorem dX3_sum_21 : decode cX3_sum 21 = .ok (.aload_n 0, 1) := by decide +kernel
theorem dX3_sum_22 : decode cX3_sum 22 = .ok (.getfield 54, 3) := by decide +kernel
theorem dX3_sum_25 : decode cX3_sum 25 = .ok (.iconst (-1), 1) := by decide +kernel
theorem dX3_sum_26 : decode cX3_sum 26 = .ok (.invokevirtual 104, 3) := by decide +kernel
theorem dX3_sum_29 : decode cX3_sum 29 = .ok (.lreturn, 1) := by decide +kernel
theorem dX3_bound_0 : decode cX3_bound 0 = .ok (.lload_n 1, 1) := by decide +kernel
theorem dX3_bound_1 : decode cX3_bound 1 = .ok (.lconst 0, 1) := by decide +kernel
theorem dX3_bound_2 : decode cX3_bound 2 = .ok (.lcmp, 1) := by decide +kernel
theorem dX3_bound_3 : decode cX3_bound 3 = .ok (.ifCond .lt 11, 3) := by decide +kernel
theorem dX3_bound_6 : decode cX3_bound 6 = .ok (.lload_n 1, 1) := by decide +kernel
theorem dX3_bound_7 : decode cX3_bound 7 = .ok (.ldc2_w 108, 3) := by decide +kernel
theorem dX3_bound_10 : decode cX3_bound 10 = .ok (.lcmp, 1) := by decide +kernel
theorem dX3_bound_11 : decode cX3_bound 11 = .ok (.ifCond .le 5, 3) := by decide +kernel
theorem dX3_bound_14 : decode cX3_bound 14 = .ok (.iconst 0, 1) := by decide +kernel
theorem dX3_bound_15 : decode cX3_bound 15 = .ok (.ireturn, 1) := by decide +kernel
theorem dX3_bound_16 : decode cX3_bound 16 = .ok (.aload_n 0, 1) := by decide +kernel
theorem dX3_bound_17 : decode cX3_bound 17 = .ok (.lload_n 1, 1) := by decide +kernel
theorem dX3_bound_18 : decode cX3_bound 18 = .ok (.putfield 40, 3) := by decide +kernel
theorem dX3_bound_21 : decode cX3_bound 21 = .ok (.iconst 1, 1) := by decide +kernel
theorem dX3_bound_22 : decode cX3_bound 22 = .ok (.ireturn, 1) := by decide +kernel
set_option maxRecDepth 20000 in
theorem ggX3_worth_X3_isKind : GoodIn wsX3_worth wsX3_isKind := goodIn_r _ [7, 8, 9, 10, 11, 12, 13, 14, 15, 16, 17, 18, 19] (by decide +kernel) (by decide +kernel)
set_option maxRecDepth 20000 in
theorem gX3_worth_X3_isKind : GoodIn wsX3_worth (wsV RX3 88 RX3 yX3_isKind wsX3_isKind) := goodIn_app (goodIn_of _ (by decide +kernel)) ggX3_worth_X3_isKind
theorem dX3_worth_0 : decode cX3_worth 0 = .ok (.aload_n 0, 1) := by decide +kernel
theorem dX3_worth_1 : decode cX3_worth 1 = .ok (.iload_n 1, 1) := by decide +kernel
theorem dX3_worth_2 : decode cX3_worth 2 = .ok (.invokevirtual 88, 3) := by decide +kernel
theorem dX3_worth_5 : decode cX3_worth 5 = .ok (.ifCond .eq 17, 3) := by decide +kernel
theorem dX3_worth_8 : decode cX3_worth 8 = .ok (.lload_n 2, 1) := by decide +kernel
theorem dX3_worth_9 : decode cX3_worth 9 = .ok (.lconst 0, 1) := by decide +kernel
theorem dX3_worth_10 : decode cX3_worth 10 = .ok (.lcmp, 1) := by decide +kernel
theorem dX3_worth_11 : decode cX3_worth 11 = .ok (.ifCond .lt 11, 3) := by decide +kernel
theorem dX3_worth_14 : decode cX3_worth 14 = .ok (.lload_n 2, 1) := by decide +kernel
theorem dX3_worth_15 : decode cX3_worth 15 = .ok (.ldc2_w 110, 3) := by decide +kernel
theorem dX3_worth_18 : decode cX3_worth 18 = .ok (.lcmp, 1) := by decide +kernel
theorem dX3_worth_19 : decode cX3_worth 19 = .ok (.ifCond .le 5, 3) := by decide +kernel
theorem dX3_worth_22 : decode cX3_worth 22 = .ok (.iconst 0, 1) := by decide +kernel
theorem dX3_worth_23 : decode cX3_worth 23 = .ok (.ireturn, 1) := by decide +kernel
theorem dX3_worth_24 : decode cX3_worth 24 = .ok (.aload_n 0, 1) := by decide +kernel
theorem dX3_worth_25 : decode cX3_worth 25 = .ok (.getfield 36, 3) := by decide +kernel
theorem dX3_worth_28 : decode cX3_worth 28 = .ok (.iload_n 1, 1) := by decide +kernel
theorem dX3_worth_29 : decode cX3_worth 29 = .ok (.lload_n 2, 1) := by decide +kernel
theorem dX3_worth_30 : decode cX3_worth 30 = .ok (.lastore, 1) := by decide +kernel
theorem dX3_worth_31 : decode cX3_worth 31 = .ok (.iconst 1, 1) := by decide +kernel
theorem dX3_worth_32 : decode cX3_worth 32 = .ok (.ireturn, 1) := by decide +kernel
set_option maxRecDepth 20000 in
theorem ggX3_leftOut_X2_has : GoodIn wsX3_leftOut wsX2_has := goodIn_r _ [6, 7, 55, 56, 57, 58, 59, 60] (by decide +kernel) (by decide +kernel)
set_option maxRecDepth 20000 in
theorem gX3_leftOut_X2_has : GoodIn wsX3_leftOut (wsV RX3 112 RX2 yX2_has wsX2_has) := goodIn_app (goodIn_of _ (by decide +kernel)) ggX3_leftOut_X2_has
set_option maxRecDepth 20000 in
theorem ggX3_leftOut_X3_readWithout : GoodIn wsX3_leftOut wsX3_readWithout := goodIn_r _ [12, 1, 13, 14, 15, 5, 16, 17, 18, 19, 20, 11, 21, 22, 23, 24, 25, 26, 27, 28, 29, 7, 30, 31, 32, 33, 34, 35, 36, 37, 38, 39, 40, 41, 42, 43, 44, 45, 46, 47, 48, 49, 50, 51, 52, 53, 54, 55, 56, 57, 58, 59, 60] (by decide +kernel) (by decide +kernel)
set_option maxRecDepth 20000 in
theorem gX3_leftOut_X3_readWithout : GoodIn wsX3_leftOut (wsV RX3 115 RX3 yX3_readWithout wsX3_readWithout) := goodIn_app (goodIn_of _ (by decide +kernel)) ggX3_leftOut_X3_readWithout
theorem dX3_leftOut_0 : decode cX3_leftOut 0 = .ok (.aload_n 0, 1) := by decide +kernel
theorem dX3_leftOut_1 : decode cX3_leftOut 1 = .ok (.getfield 25, 3) := by decide +kernel
theorem dX3_leftOut_4 : decode cX3_leftOut 4 = .ok (.iload_n 1, 1) := by decide +kernel
theorem dX3_leftOut_5 : decode cX3_leftOut 5 = .ok (.invokevirtual 112, 3) := by decide +kernel
theorem dX3_leftOut_8 : decode cX3_leftOut 8 = .ok (.ifCond .eq 11, 3) := by decide +kernel
theorem dX3_leftOut_11 : decode cX3_leftOut 11 = .ok (.aload_n 0, 1) := by decide +kernel
theorem dX3_leftOut_12 : decode cX3_leftOut 12 = .ok (.iload_n 1, 1) := by decide +kernel
theorem dX3_leftOut_13 : decode cX3_leftOut 13 = .ok (.invokevirtual 115, 3) := by decide +kernel
theorem dX3_leftOut_16 : decode cX3_leftOut 16 = .ok (.goto 5, 3) := by decide +kernel
theorem dX3_leftOut_19 : decode cX3_leftOut 19 = .ok (.bipush (-2), 2) := by decide +kernel
theorem dX3_leftOut_21 : decode cX3_leftOut 21 = .ok (.ireturn, 1) := by decide +kernel
set_option maxRecDepth 20000 in
theorem ggX3_wrong_X3_isKind : GoodIn wsX3_wrong wsX3_isKind := goodIn_r _ [7, 8, 53, 54, 55, 56, 57, 58, 59, 60, 61, 62, 63] (by decide +kernel) (by decide +kernel)
set_option maxRecDepth 20000 in
theorem gX3_wrong_X3_isKind : GoodIn wsX3_wrong (wsV RX3 88 RX3 yX3_isKind wsX3_isKind) := goodIn_app (goodIn_of _ (by decide +kernel)) ggX3_wrong_X3_isKind
set_option maxRecDepth 20000 in
theorem ggX3_wrong_X2_size : GoodIn wsX3_wrong wsX2_size := goodIn_r _ [13, 14, 64, 65, 66, 67, 68, 69] (by decide +kernel) (by decide +kernel)
set_option maxRecDepth 20000 in
theorem gX3_wrong_X2_size : GoodIn wsX3_wrong (wsV RX3 119 RX2 yX2_size wsX2_size) := goodIn_app (goodIn_of _ (by decide +kernel)) ggX3_wrong_X2_size
set_option maxRecDepth 20000 in
theorem ggX3_wrong_X2_kindOf : GoodIn wsX3_wrong wsX2_kindOf := goodIn_r _ [18, 19, 64, 65, 66, 67, 68, 69] (by decide +kernel) (by decide +kernel)
set_option maxRecDepth 20000 in
theorem gX3_wrong_X2_kindOf : GoodIn wsX3_wrong (wsV RX3 123 RX2 yX2_kindOf wsX2_kindOf) := goodIn_app (goodIn_of _ (by decide +kernel)) ggX3_wrong_X2_kindOf
set_option maxRecDepth 20000 in
theorem ggX3_wrong_X3_readWithout : GoodIn wsX3_wrong wsX3_readWithout := goodIn_r _ [23, 2, 24, 25, 26, 12, 27, 28, 29, 30, 31, 6, 32, 8, 33, 34, 35, 36, 37, 38, 39, 14, 19, 40, 41, 42, 43, 44, 45, 46, 47, 48, 49, 50, 51, 52, 53, 54, 55, 56, 57, 58, 59, 60, 61, 62, 63, 64, 65, 66, 67, 68, 69] (by decide +kernel) (by decide +kernel)
set_option maxRecDepth 20000 in
theorem gX3_wrong_X3_readWithout : GoodIn wsX3_wrong (wsV RX3 115 RX3 yX3_readWithout wsX3_readWithout) := goodIn_app (goodIn_of _ (by decide +kernel)) ggX3_wrong_X3_readWithout
theorem dX3_wrong_0 : decode cX3_wrong 0 = .ok (.aload_n 0, 1) := by decide +kernel
theorem dX3_wrong_1 : decode cX3_wrong 1 = .ok (.iload_n 1, 1) := by decide +kernel
theorem dX3_wrong_2 : decode cX3_wrong 2 = .ok (.invokevirtual 88, 3) := by decide +kernel
theorem dX3_wrong_5 : decode cX3_wrong 5 = .ok (.ifCond .eq 16, 3) := by decide +kernel
theorem dX3_wrong_8 : decode cX3_wrong 8 = .ok (.aload_n 0, 1) := by decide +kernel
theorem dX3_wrong_9 : decode cX3_wrong 9 = .ok (.iload_n 2, 1) := by decide +kernel
theorem dX3_wrong_10 : decode cX3_wrong 10 = .ok (.invokevirtual 88, 3) := by decide +kernel
theorem dX3_wrong_13 : decode cX3_wrong 13 = .ok (.ifCond .ne 12, 3) := by decide +kernel
theorem dX3_wrong_16 : decode cX3_wrong 16 = .ok (.iload_n 2, 1) := by decide +kernel
theorem dX3_wrong_17 : decode cX3_wrong 17 = .ok (.iconst (-1), 1) := by decide +kernel
theorem dX3_wrong_18 : decode cX3_wrong 18 = .ok (.if_icmp .eq 7, 3) := by decide +kernel
theorem dX3_wrong_21 : decode cX3_wrong 21 = .ok (.ldc2_w 102, 3) := by decide +kernel
theorem dX3_wrong_24 : decode cX3_wrong 24 = .ok (.lreturn, 1) := by decide +kernel
theorem dX3_wrong_25 : decode cX3_wrong 25 = .ok (.lconst 0, 1) := by decide +kernel
theorem dX3_wrong_26 : decode cX3_wrong 26 = .ok (.lstore_n 3, 1) := by decide +kernel
theorem dX3_wrong_27 : decode cX3_wrong 27 = .ok (.aload_n 0, 1) := by decide +kernel
theorem dX3_wrong_28 : decode cX3_wrong 28 = .ok (.getfield 25, 3) := by decide +kernel
theorem dX3_wrong_31 : decode cX3_wrong 31 = .ok (.invokevirtual 119, 3) := by decide +kernel
theorem dX3_wrong_34 : decode cX3_wrong 34 = .ok (.istore 5, 2) := by decide +kernel
theorem dX3_wrong_36 : decode cX3_wrong 36 = .ok (.iconst 0, 1) := by decide +kernel
theorem dX3_wrong_37 : decode cX3_wrong 37 = .ok (.istore 6, 2) := by decide +kernel
theorem dX3_wrong_39 : decode cX3_wrong 39 = .ok (.iload 6, 2) := by decide +kernel
theorem dX3_wrong_41 : decode cX3_wrong 41 = .ok (.iload 5, 2) := by decide +kernel
theorem dX3_wrong_43 : decode cX3_wrong 43 = .ok (.if_icmp .ge 36, 3) := by decide +kernel
theorem dX3_wrong_46 : decode cX3_wrong 46 = .ok (.aload_n 0, 1) := by decide +kernel
theorem dX3_wrong_47 : decode cX3_wrong 47 = .ok (.getfield 25, 3) := by decide +kernel
theorem dX3_wrong_50 : decode cX3_wrong 50 = .ok (.iload 6, 2) := by decide +kernel
theorem dX3_wrong_52 : decode cX3_wrong 52 = .ok (.invokevirtual 123, 3) := by decide +kernel
theorem dX3_wrong_55 : decode cX3_wrong 55 = .ok (.iload_n 1, 1) := by decide +kernel
theorem dX3_wrong_56 : decode cX3_wrong 56 = .ok (.if_icmp .ne 17, 3) := by decide +kernel
theorem dX3_wrong_59 : decode cX3_wrong 59 = .ok (.aload_n 0, 1) := by decide +kernel
theorem dX3_wrong_60 : decode cX3_wrong 60 = .ok (.iload 6, 2) := by decide +kernel
theorem dX3_wrong_62 : decode cX3_wrong 62 = .ok (.invokevirtual 115, 3) := by decide +kernel
theorem dX3_wrong_65 : decode cX3_wrong 65 = .ok (.iload_n 2, 1) := by decide +kernel
theorem dX3_wrong_66 : decode cX3_wrong 66 = .ok (.if_icmp .ne 7, 3) := by decide +kernel
theorem dX3_wrong_69 : decode cX3_wrong 69 = .ok (.lload_n 3, 1) := by decide +kernel
theorem dX3_wrong_70 : decode cX3_wrong 70 = .ok (.lconst 1, 1) := by decide +kernel
theorem dX3_wrong_71 : decode cX3_wrong 71 = .ok (.ladd, 1) := by decide +kernel
theorem dX3_wrong_72 : decode cX3_wrong 72 = .ok (.lstore_n 3, 1) := by decide +kernel
theorem dX3_wrong_73 : decode cX3_wrong 73 = .ok (.iinc 6 1, 3) := by decide +kernel
theorem dX3_wrong_76 : decode cX3_wrong 76 = .ok (.goto (-37), 3) := by decide +kernel
theorem dX3_wrong_79 : decode cX3_wrong 79 = .ok (.lload_n 3, 1) := by decide +kernel
theorem dX3_wrong_80 : decode cX3_wrong 80 = .ok (.lreturn, 1) := by decide +kernel
set_option maxRecDepth 20000 in
theorem ggX3_correct_X2_has : GoodIn wsX3_correct wsX2_has := goodIn_r _ [6, 7, 34, 35, 36, 37, 38, 39] (by decide +kernel) (by decide +kernel)
set_option maxRecDepth 20000 in
theorem gX3_correct_X2_has : GoodIn wsX3_correct (wsV RX3 112 RX2 yX2_has wsX2_has) := goodIn_app (goodIn_of _ (by decide +kernel)) ggX3_correct_X2_has
set_option maxRecDepth 20000 in
theorem ggX3_correct_X3_isKind : GoodIn wsX3_correct wsX3_isKind := goodIn_r _ [12, 13, 23, 24, 25, 26, 27, 28, 29, 30, 31, 32, 33] (by decide +kernel) (by decide +kernel)
set_option maxRecDepth 20000 in
theorem gX3_correct_X3_isKind : GoodIn wsX3_correct (wsV RX3 88 RX3 yX3_isKind wsX3_isKind) := goodIn_app (goodIn_of _ (by decide +kernel)) ggX3_correct_X3_isKind
set_option maxRecDepth 20000 in
theorem ggX3_correct_X2_kindOf : GoodIn wsX3_correct wsX2_kindOf := goodIn_r _ [17, 18, 34, 35, 36, 37, 38, 39] (by decide +kernel) (by decide +kernel)
set_option maxRecDepth 20000 in
theorem gX3_correct_X2_kindOf : GoodIn wsX3_correct (wsV RX3 123 RX2 yX2_kindOf wsX2_kindOf) := goodIn_app (goodIn_of _ (by decide +kernel)) ggX3_correct_X2_kindOf
set_option maxRecDepth 20000 in
theorem ggX3_correct_X2_setKind : GoodIn wsX3_correct wsX2_setKind := goodIn_r _ [22, 18, 34, 35, 36, 37, 38, 39] (by decide +kernel) (by decide +kernel)
set_option maxRecDepth 20000 in
theorem gX3_correct_X2_setKind : GoodIn wsX3_correct (wsV RX3 126 RX2 yX2_setKind wsX2_setKind) := goodIn_app (goodIn_of _ (by decide +kernel)) ggX3_correct_X2_setKind
theorem dX3_correct_0 : decode cX3_correct 0 = .ok (.aload_n 0, 1) := by decide +kernel
theorem dX3_correct_1 : decode cX3_correct 1 = .ok (.getfield 25, 3) := by decide +kernel
theorem dX3_correct_4 : decode cX3_correct 4 = .ok (.iload_n 1, 1) := by decide +kernel
theorem dX3_correct_5 : decode cX3_correct 5 = .ok (.invokevirtual 112, 3) := by decide +kernel
theorem dX3_correct_8 : decode cX3_correct 8 = .ok (.ifCond .eq 11, 3) := by decide +kernel
theorem dX3_correct_11 : decode cX3_correct 11 = .ok (.aload_n 0, 1) := by decide +kernel
theorem dX3_correct_12 : decode cX3_correct 12 = .ok (.iload_n 2, 1) := by decide +kernel
theorem dX3_correct_13 : decode cX3_correct 13 = .ok (.invokevirtual 88, 3) := by decide +kernel
theorem dX3_correct_16 : decode cX3_correct 16 = .ok (.ifCond .ne 5, 3) := by decide +kernel
theorem dX3_correct_19 : decode cX3_correct 19 = .ok (.iconst (-1), 1) := by decide +kernel
theorem dX3_correct_20 : decode cX3_correct 20 = .ok (.ireturn, 1) := by decide +kernel
theorem dX3_correct_21 : decode cX3_correct 21 = .ok (.aload_n 0, 1) := by decide +kernel
theorem dX3_correct_22 : decode cX3_correct 22 = .ok (.getfield 25, 3) := by decide +kernel
theorem dX3_correct_25 : decode cX3_correct 25 = .ok (.iload_n 1, 1) := by decide +kernel
theorem dX3_correct_26 : decode cX3_correct 26 = .ok (.invokevirtual 123, 3) := by decide +kernel
theorem dX3_correct_29 : decode cX3_correct 29 = .ok (.istore_n 3, 1) := by decide +kernel
theorem dX3_correct_30 : decode cX3_correct 30 = .ok (.aload_n 0, 1) := by decide +kernel
theorem dX3_correct_31 : decode cX3_correct 31 = .ok (.getfield 25, 3) := by decide +kernel
theorem dX3_correct_34 : decode cX3_correct 34 = .ok (.iload_n 1, 1) := by decide +kernel
theorem dX3_correct_35 : decode cX3_correct 35 = .ok (.iload_n 2, 1) := by decide +kernel
theorem dX3_correct_36 : decode cX3_correct 36 = .ok (.invokevirtual 126, 3) := by decide +kernel
theorem dX3_correct_39 : decode cX3_correct 39 = .ok (.iload_n 3, 1) := by decide +kernel
theorem dX3_correct_40 : decode cX3_correct 40 = .ok (.ireturn, 1) := by decide +kernel
set_option maxRecDepth 20000 in
theorem ggX3_pixel_X0_isFree : GoodIn wsX3_pixel wsX0_isFree := goodIn_r _ [7, 8, 9, 10, 11, 6, 12, 101, 102, 103, 104, 105, 106, 107] (by decide +kernel) (by decide +kernel)
set_option maxRecDepth 20000 in
theorem gX3_pixel_X0_isFree : GoodIn wsX3_pixel (wsV RX3 130 RX0 yX0_isFree wsX0_isFree) := goodIn_app (goodIn_of _ (by decide +kernel)) ggX3_pixel_X0_isFree
set_option maxRecDepth 20000 in
theorem ggX3_pixel_X3_lookAtNow : GoodIn wsX3_pixel wsX3_lookAtNow := goodIn_r _ [17, 18, 19, 2, 20, 21, 22, 23, 24, 25, 26, 27, 28, 29, 30, 31, 32, 33, 34, 35, 36, 37, 38, 39, 90, 91, 92, 93, 94, 95, 96, 97, 98, 99, 100, 108, 109, 110, 111] (by decide +kernel) (by decide +kernel)
set_option maxRecDepth 20000 in
theorem gX3_pixel_X3_lookAtNow : GoodIn wsX3_pixel (wsV RX3 91 RX3 yX3_lookAtNow wsX3_lookAtNow) := goodIn_app (goodIn_of _ (by decide +kernel)) ggX3_pixel_X3_lookAtNow
set_option maxRecDepth 20000 in
theorem ggX3_pixel_X3_readCells : GoodIn wsX3_pixel wsX3_readCells := goodIn_r _ [43, 44, 45, 46, 47, 48, 49, 50, 38, 51, 52, 53, 54, 55, 56, 57, 58, 59, 60, 61, 62, 63, 64, 65, 66, 16, 67, 68, 90, 91, 92, 93, 94, 95, 96, 97, 98, 99, 100, 112, 113, 114, 115, 116, 117] (by decide +kernel) (by decide +kernel)
set_option maxRecDepth 20000 in
theorem gX3_pixel_X3_readCells : GoodIn wsX3_pixel (wsV RX3 98 RX3 yX3_readCells wsX3_readCells) := goodIn_app (goodIn_of _ (by decide +kernel)) ggX3_pixel_X3_readCells
set_option maxRecDepth 20000 in
theorem ggX3_pixel_X0_tell : GoodIn wsX3_pixel wsX0_tell := goodIn_r _ [72, 9, 8, 73, 74, 75, 6, 76, 77, 78, 79, 57, 58, 59, 80, 81, 82, 83, 84, 85, 86, 87, 88, 89, 10, 11, 12, 101, 102, 103, 104, 105, 106, 107] (by decide +kernel) (by decide +kernel)
set_option maxRecDepth 20000 in
theorem gX3_pixel_X0_tell : GoodIn wsX3_pixel (wsV RX3 133 RX0 yX0_tell wsX0_tell) := goodIn_app (goodIn_of _ (by decide +kernel)) ggX3_pixel_X0_tell
theorem dX3_pixel_0 : decode cX3_pixel 0 = .ok (.aload_n 0, 1) := by decide +kernel
theorem dX3_pixel_1 : decode cX3_pixel 1 = .ok (.getfield 32, 3) := by decide +kernel
theorem dX3_pixel_4 : decode cX3_pixel 4 = .ok (.iload_n 1, 1) := by decide +kernel
theorem dX3_pixel_5 : decode cX3_pixel 5 = .ok (.iload_n 2, 1) := by decide +kernel
theorem dX3_pixel_6 : decode cX3_pixel 6 = .ok (.invokevirtual 130, 3) := by decide +kernel
theorem dX3_pixel_9 : decode cX3_pixel 9 = .ok (.ifCond .ne 5, 3) := by decide +kernel
theorem dX3_pixel_12 : decode cX3_pixel 12 = .ok (.iconst 0, 1) := by decide +kernel
theorem dX3_pixel_13 : decode cX3_pixel 13 = .ok (.ireturn, 1) := by decide +kernel
theorem dX3_pixel_14 : decode cX3_pixel 14 = .ok (.aload_n 0, 1) := by decide +kernel
theorem dX3_pixel_15 : decode cX3_pixel 15 = .ok (.invokevirtual 91, 3) := by decide +kernel
theorem dX3_pixel_18 : decode cX3_pixel 18 = .ok (.aload_n 0, 1) := by decide +kernel
theorem dX3_pixel_19 : decode cX3_pixel 19 = .ok (.getfield 32, 3) := by decide +kernel
theorem dX3_pixel_22 : decode cX3_pixel 22 = .ok (.iload_n 1, 1) := by decide +kernel
theorem dX3_pixel_23 : decode cX3_pixel 23 = .ok (.iload_n 2, 1) := by decide +kernel
theorem dX3_pixel_24 : decode cX3_pixel 24 = .ok (.aload_n 0, 1) := by decide +kernel
theorem dX3_pixel_25 : decode cX3_pixel 25 = .ok (.aload_n 0, 1) := by decide +kernel
theorem dX3_pixel_26 : decode cX3_pixel 26 = .ok (.getfield 54, 3) := by decide +kernel
theorem dX3_pixel_29 : decode cX3_pixel 29 = .ok (.iconst (-1), 1) := by decide +kernel
theorem dX3_pixel_30 : decode cX3_pixel 30 = .ok (.invokevirtual 98, 3) := by decide +kernel
theorem dX3_pixel_33 : decode cX3_pixel 33 = .ok (.invokevirtual 133, 3) := by decide +kernel
theorem dX3_pixel_36 : decode cX3_pixel 36 = .ok (.iconst 1, 1) := by decide +kernel
theorem dX3_pixel_37 : decode cX3_pixel 37 = .ok (.ireturn, 1) := by decide +kernel
set_option maxRecDepth 20000 in
theorem ggX3_piece_X0_pieceAt : GoodIn wsX3_piece wsX0_pieceAt := goodIn_r _ [6, 7, 8, 9, 5, 10, 22, 23, 24, 25, 26, 27, 28] (by decide +kernel) (by decide +kernel)
set_option maxRecDepth 20000 in
theorem gX3_piece_X0_pieceAt : GoodIn wsX3_piece (wsV RX3 137 RX0 yX0_pieceAt wsX0_pieceAt) := goodIn_app (goodIn_of _ (by decide +kernel)) ggX3_piece_X0_pieceAt
theorem dX3_piece_0 : decode cX3_piece 0 = .ok (.aload_n 0, 1) := by decide +kernel
theorem dX3_piece_1 : decode cX3_piece 1 = .ok (.getfield 32, 3) := by decide +kernel
theorem dX3_piece_4 : decode cX3_piece 4 = .ok (.iload_n 1, 1) := by decide +kernel
theorem dX3_piece_5 : decode cX3_piece 5 = .ok (.iload_n 2, 1) := by decide +kernel
theorem dX3_piece_6 : decode cX3_piece 6 = .ok (.invokevirtual 137, 3) := by decide +kernel
theorem dX3_piece_9 : decode cX3_piece 9 = .ok (.ireturn, 1) := by decide +kernel
set_option maxRecDepth 20000 in
theorem ggX3_pieceKind_X0_hasPiece : GoodIn wsX3_pieceKind wsX0_hasPiece := goodIn_r _ [8, 9, 33, 34, 35, 36, 37, 38, 39] (by decide +kernel) (by decide +kernel)
set_option maxRecDepth 20000 in
theorem gX3_pieceKind_X0_hasPiece : GoodIn wsX3_pieceKind (wsV RX3 141 RX0 yX0_hasPiece wsX0_hasPiece) := goodIn_app (goodIn_of _ (by decide +kernel)) ggX3_pieceKind_X0_hasPiece
set_option maxRecDepth 20000 in
theorem ggX3_pieceKind_X0_countIn : GoodIn wsX3_pieceKind wsX0_countIn := goodIn_r _ [13, 14, 15, 33, 34, 35, 36, 37, 38, 39] (by decide +kernel) (by decide +kernel)
set_option maxRecDepth 20000 in
theorem gX3_pieceKind_X0_countIn : GoodIn wsX3_pieceKind (wsV RX3 144 RX0 yX0_countIn wsX0_countIn) := goodIn_app (goodIn_of _ (by decide +kernel)) ggX3_pieceKind_X0_countIn
set_option maxRecDepth 20000 in
theorem ggX3_pieceKind_X3_greatest : GoodIn wsX3_pieceKind wsX3_greatest := goodIn_r _ [20, 2, 3, 21, 22, 23, 24, 25, 26, 27, 28, 29, 30, 31, 32] (by decide +kernel) (by decide +kernel)
set_option maxRecDepth 20000 in
theorem gX3_pieceKind_X3_greatest : GoodIn wsX3_pieceKind (wsV RX3 147 RX3 yX3_greatest wsX3_greatest) := goodIn_app (goodIn_of _ (by decide +kernel)) ggX3_pieceKind_X3_greatest
theorem dX3_pieceKind_0 : decode cX3_pieceKind 0 = .ok (.aload_n 0, 1) := by decide +kernel
theorem dX3_pieceKind_1 : decode cX3_pieceKind 1 = .ok (.getfield 32, 3) := by decide +kernel
theorem dX3_pieceKind_4 : decode cX3_pieceKind 4 = .ok (.iload_n 1, 1) := by decide +kernel
theorem dX3_pieceKind_5 : decode cX3_pieceKind 5 = .ok (.invokevirtual 141, 3) := by decide +kernel
theorem dX3_pieceKind_8 : decode cX3_pieceKind 8 = .ok (.ifCond .ne 5, 3) := by decide +kernel
theorem dX3_pieceKind_11 : decode cX3_pieceKind 11 = .ok (.iconst (-1), 1) := by decide +kernel
theorem dX3_pieceKind_12 : decode cX3_pieceKind 12 = .ok (.ireturn, 1) := by decide +kernel
theorem dX3_pieceKind_13 : decode cX3_pieceKind 13 = .ok (.iconst 0, 1) := by decide +kernel
theorem dX3_pieceKind_14 : decode cX3_pieceKind 14 = .ok (.istore_n 2, 1) := by decide +kernel
theorem dX3_pieceKind_15 : decode cX3_pieceKind 15 = .ok (.iload_n 2, 1) := by decide +kernel
theorem dX3_pieceKind_16 : decode cX3_pieceKind 16 = .ok (.aload_n 0, 1) := by decide +kernel
theorem dX3_pieceKind_17 : decode cX3_pieceKind 17 = .ok (.getfield 9, 3) := by decide +kernel
theorem dX3_pieceKind_20 : decode cX3_pieceKind 20 = .ok (.if_icmp .ge 25, 3) := by decide +kernel
theorem dX3_pieceKind_23 : decode cX3_pieceKind 23 = .ok (.aload_n 0, 1) := by decide +kernel
theorem dX3_pieceKind_24 : decode cX3_pieceKind 24 = .ok (.getfield 57, 3) := by decide +kernel
theorem dX3_pieceKind_27 : decode cX3_pieceKind 27 = .ok (.iload_n 2, 1) := by decide +kernel
theorem dX3_pieceKind_28 : decode cX3_pieceKind 28 = .ok (.aload_n 0, 1) := by decide +kernel
theorem dX3_pieceKind_29 : decode cX3_pieceKind 29 = .ok (.getfield 32, 3) := by decide +kernel
theorem dX3_pieceKind_32 : decode cX3_pieceKind 32 = .ok (.iload_n 1, 1) := by decide +kernel
theorem dX3_pieceKind_33 : decode cX3_pieceKind 33 = .ok (.iload_n 2, 1) := by decide +kernel
theorem dX3_pieceKind_34 : decode cX3_pieceKind 34 = .ok (.invokevirtual 144, 3) := by decide +kernel
theorem dX3_pieceKind_37 : decode cX3_pieceKind 37 = .ok (.i2l, 1) := by decide +kernel
theorem dX3_pieceKind_38 : decode cX3_pieceKind 38 = .ok (.lastore, 1) := by decide +kernel
theorem dX3_pieceKind_39 : decode cX3_pieceKind 39 = .ok (.iinc 2 1, 3) := by decide +kernel
theorem dX3_pieceKind_42 : decode cX3_pieceKind 42 = .ok (.goto (-27), 3) := by decide +kernel
theorem dX3_pieceKind_45 : decode cX3_pieceKind 45 = .ok (.aload_n 0, 1) := by decide +kernel
theorem dX3_pieceKind_46 : decode cX3_pieceKind 46 = .ok (.invokevirtual 147, 3) := by decide +kernel
theorem dX3_pieceKind_49 : decode cX3_pieceKind 49 = .ok (.ireturn, 1) := by decide +kernel
set_option maxRecDepth 20000 in
theorem ggX3_neighbours_X0_hasPiece : GoodIn wsX3_neighbours wsX0_hasPiece := goodIn_r _ [6, 7, 40, 41, 42, 43, 44, 45, 46] (by decide +kernel) (by decide +kernel)
set_option maxRecDepth 20000 in
theorem gX3_neighbours_X0_hasPiece : GoodIn wsX3_neighbours (wsV RX3 141 RX0 yX0_hasPiece wsX0_hasPiece) := goodIn_app (goodIn_of _ (by decide +kernel)) ggX3_neighbours_X0_hasPiece
set_option maxRecDepth 20000 in
theorem ggX3_neighbours_X0_countNeighbours : GoodIn wsX3_neighbours wsX0_countNeighbours := goodIn_r _ [11, 12, 13, 14, 15, 16, 17, 18, 19, 20, 5, 21, 22, 23, 24, 25, 26, 27, 28, 40, 41, 42, 43, 44, 45, 46] (by decide +kernel) (by decide +kernel)
set_option maxRecDepth 20000 in
theorem gX3_neighbours_X0_countNeighbours : GoodIn wsX3_neighbours (wsV RX3 150 RX0 yX0_countNeighbours wsX0_countNeighbours) := goodIn_app (goodIn_of _ (by decide +kernel)) ggX3_neighbours_X0_countNeighbours
theorem dX3_neighbours_0 : decode cX3_neighbours 0 = .ok (.aload_n 0, 1) := by decide +kernel
theorem dX3_neighbours_1 : decode cX3_neighbours 1 = .ok (.getfield 32, 3) := by decide +kernel
theorem dX3_neighbours_4 : decode cX3_neighbours 4 = .ok (.iload_n 1, 1) := by decide +kernel
theorem dX3_neighbours_5 : decode cX3_neighbours 5 = .ok (.invokevirtual 141, 3) := by decide +kernel
theorem dX3_neighbours_8 : decode cX3_neighbours 8 = .ok (.ifCond .eq 14, 3) := by decide +kernel
theorem dX3_neighbours_11 : decode cX3_neighbours 11 = .ok (.aload_n 0, 1) := by decide +kernel
theorem dX3_neighbours_12 : decode cX3_neighbours 12 = .ok (.getfield 32, 3) := by decide +kernel
theorem dX3_neighbours_15 : decode cX3_neighbours 15 = .ok (.iload_n 1, 1) := by decide +kernel
theorem dX3_neighbours_16 : decode cX3_neighbours 16 = .ok (.invokevirtual 150, 3) := by decide +kernel
theorem dX3_neighbours_19 : decode cX3_neighbours 19 = .ok (.goto 4, 3) := by decide +kernel
theorem dX3_neighbours_22 : decode cX3_neighbours 22 = .ok (.iconst (-1), 1) := by decide +kernel
theorem dX3_neighbours_23 : decode cX3_neighbours 23 = .ok (.ireturn, 1) := by decide +kernel
set_option maxRecDepth 20000 in
theorem ggX3_pack_X2_packedByte : GoodIn wsX3_pack wsX2_packedByte := goodIn_r _ [6, 7, 8, 9, 10, 5, 11, 12, 13, 14, 15, 16, 17, 18, 30, 31, 32, 33, 34, 35] (by decide +kernel) (by decide +kernel)
set_option maxRecDepth 20000 in
theorem gX3_pack_X2_packedByte : GoodIn wsX3_pack (wsV RX3 153 RX2 yX2_packedByte wsX2_packedByte) := goodIn_app (goodIn_of _ (by decide +kernel)) ggX3_pack_X2_packedByte
theorem dX3_pack_0 : decode cX3_pack 0 = .ok (.aload_n 0, 1) := by decide +kernel
theorem dX3_pack_1 : decode cX3_pack 1 = .ok (.getfield 25, 3) := by decide +kernel
theorem dX3_pack_4 : decode cX3_pack 4 = .ok (.iload_n 1, 1) := by decide +kernel
theorem dX3_pack_5 : decode cX3_pack 5 = .ok (.invokevirtual 153, 3) := by decide +kernel
theorem dX3_pack_8 : decode cX3_pack 8 = .ok (.ireturn, 1) := by decide +kernel
set_option maxRecDepth 20000 in
theorem ggX3_feed_X3_isByte : GoodIn wsX3_feed wsX3_isByte := goodIn_r _ [6] (by decide +kernel) (by decide +kernel)
set_option maxRecDepth 20000 in
theorem gX3_feed_X3_isByte : GoodIn wsX3_feed (va_wsS RX3 71 yX3_isByte wsX3_isByte) := goodIn_app (goodIn_of _ (by decide +kernel)) ggX3_feed_X3_isByte
theorem dX3_feed_0 : decode cX3_feed 0 = .ok (.iload_n 1, 1) := by decide +kernel
theorem dX3_feed_1 : decode cX3_feed 1 = .ok (.invokestatic 71, 3) := by decide +kernel
theorem dX3_feed_4 : decode cX3_feed 4 = .ok (.ifCond .eq 13, 3) := by decide +kernel
theorem dX3_feed_7 : decode cX3_feed 7 = .ok (.aload_n 0, 1) := by decide +kernel
theorem dX3_feed_8 : decode cX3_feed 8 = .ok (.getfield 48, 3) := by decide +kernel
theorem dX3_feed_11 : decode cX3_feed 11 = .ok (.sipush 400, 3) := by decide +kernel
theorem dX3_feed_14 : decode cX3_feed 14 = .ok (.if_icmp .lt 5, 3) := by decide +kernel
theorem dX3_feed_17 : decode cX3_feed 17 = .ok (.iconst 0, 1) := by decide +kernel
theorem dX3_feed_18 : decode cX3_feed 18 = .ok (.ireturn, 1) := by decide +kernel
theorem dX3_feed_19 : decode cX3_feed 19 = .ok (.aload_n 0, 1) := by decide +kernel
theorem dX3_feed_20 : decode cX3_feed 20 = .ok (.getfield 44, 3) := by decide +kernel
theorem dX3_feed_23 : decode cX3_feed 23 = .ok (.aload_n 0, 1) := by decide +kernel
theorem dX3_feed_24 : decode cX3_feed 24 = .ok (.getfield 48, 3) := by decide +kernel
theorem dX3_feed_27 : decode cX3_feed 27 = .ok (.iload_n 1, 1) := by decide +kernel
theorem dX3_feed_28 : decode cX3_feed 28 = .ok (.iastore, 1) := by decide +kernel
theorem dX3_feed_29 : decode cX3_feed 29 = .ok (.aload_n 0, 1) := by decide +kernel
theorem dX3_feed_30 : decode cX3_feed 30 = .ok (.dup, 1) := by decide +kernel
theorem dX3_feed_31 : decode cX3_feed 31 = .ok (.getfield 48, 3) := by decide +kernel
theorem dX3_feed_34 : decode cX3_feed 34 = .ok (.iconst 1, 1) := by decide +kernel
theorem dX3_feed_35 : decode cX3_feed 35 = .ok (.iadd, 1) := by decide +kernel
theorem dX3_feed_36 : decode cX3_feed 36 = .ok (.putfield 48, 3) := by decide +kernel
theorem dX3_feed_39 : decode cX3_feed 39 = .ok (.iconst 1, 1) := by decide +kernel
theorem dX3_feed_40 : decode cX3_feed 40 = .ok (.ireturn, 1) := by decide +kernel
set_option maxRecDepth 20000 in
theorem ggX3_open_X2_fits : GoodIn wsX3_open wsX2_fits := goodIn_r _ [8, 9, 48, 49, 50, 51, 52, 53] (by decide +kernel) (by decide +kernel)
set_option maxRecDepth 20000 in
theorem gX3_open_X2_fits : GoodIn wsX3_open (wsV RX3 156 RX2 yX2_fits wsX2_fits) := goodIn_app (goodIn_of _ (by decide +kernel)) ggX3_open_X2_fits
set_option maxRecDepth 20000 in
theorem ggX3_open_X2_load : GoodIn wsX3_open wsX2_load := goodIn_r _ [13, 14, 15, 16, 17, 18, 19, 20, 21, 7, 22, 23, 24, 25, 26, 27, 28, 29, 30, 31, 32, 48, 49, 50, 51, 52, 53] (by decide +kernel) (by decide +kernel)
set_option maxRecDepth 20000 in
theorem gX3_open_X2_load : GoodIn wsX3_open (wsV RX3 160 RX2 yX2_load wsX2_load) := goodIn_app (goodIn_of _ (by decide +kernel)) ggX3_open_X2_load
set_option maxRecDepth 20000 in
theorem ggX3_open_X2_size : GoodIn wsX3_open wsX2_size := goodIn_r _ [36, 18, 48, 49, 50, 51, 52, 53] (by decide +kernel) (by decide +kernel)
set_option maxRecDepth 20000 in
theorem gX3_open_X2_size : GoodIn wsX3_open (wsV RX3 119 RX2 yX2_size wsX2_size) := goodIn_app (goodIn_of _ (by decide +kernel)) ggX3_open_X2_size
theorem dX3_open_0 : decode cX3_open 0 = .ok (.aload_n 0, 1) := by decide +kernel
theorem dX3_open_1 : decode cX3_open 1 = .ok (.getfield 48, 3) := by decide +kernel
theorem dX3_open_4 : decode cX3_open 4 = .ok (.istore_n 1, 1) := by decide +kernel
theorem dX3_open_5 : decode cX3_open 5 = .ok (.aload_n 0, 1) := by decide +kernel
theorem dX3_open_6 : decode cX3_open 6 = .ok (.iconst 0, 1) := by decide +kernel
theorem dX3_open_7 : decode cX3_open 7 = .ok (.putfield 48, 3) := by decide +kernel
theorem dX3_open_10 : decode cX3_open 10 = .ok (.aload_n 0, 1) := by decide +kernel
theorem dX3_open_11 : decode cX3_open 11 = .ok (.getfield 25, 3) := by decide +kernel
theorem dX3_open_14 : decode cX3_open 14 = .ok (.aload_n 0, 1) := by decide +kernel
theorem dX3_open_15 : decode cX3_open 15 = .ok (.getfield 44, 3) := by decide +kernel
theorem dX3_open_18 : decode cX3_open 18 = .ok (.iload_n 1, 1) := by decide +kernel
theorem dX3_open_19 : decode cX3_open 19 = .ok (.invokevirtual 156, 3) := by decide +kernel
theorem dX3_open_22 : decode cX3_open 22 = .ok (.ifCond .ne 5, 3) := by decide +kernel
theorem dX3_open_25 : decode cX3_open 25 = .ok (.iconst (-1), 1) := by decide +kernel
theorem dX3_open_26 : decode cX3_open 26 = .ok (.ireturn, 1) := by decide +kernel
theorem dX3_open_27 : decode cX3_open 27 = .ok (.aload_n 0, 1) := by decide +kernel
theorem dX3_open_28 : decode cX3_open 28 = .ok (.getfield 25, 3) := by decide +kernel
theorem dX3_open_31 : decode cX3_open 31 = .ok (.aload_n 0, 1) := by decide +kernel
theorem dX3_open_32 : decode cX3_open 32 = .ok (.getfield 44, 3) := by decide +kernel
theorem dX3_open_35 : decode cX3_open 35 = .ok (.invokevirtual 160, 3) := by decide +kernel
theorem dX3_open_38 : decode cX3_open 38 = .ok (.aload_n 0, 1) := by decide +kernel
theorem dX3_open_39 : decode cX3_open 39 = .ok (.getfield 25, 3) := by decide +kernel
theorem dX3_open_42 : decode cX3_open 42 = .ok (.invokevirtual 119, 3) := by decide +kernel
theorem dX3_open_45 : decode cX3_open 45 = .ok (.ireturn, 1) := by decide +kernel
theorem dX3_isChannel_0 : decode cX3_isChannel 0 = .ok (.iload_n 0, 1) := by decide +kernel
theorem dX3_isChannel_1 : decode cX3_isChannel 1 = .ok (.ifCond .lt 13, 3) := by decide +kernel
theorem dX3_isChannel_4 : decode cX3_isChannel 4 = .ok (.iload_n 0, 1) := by decide +kernel
theorem dX3_isChannel_5 : decode cX3_isChannel 5 = .ok (.bipush 8, 2) := by decide +kernel
theorem dX3_isChannel_7 : decode cX3_isChannel 7 = .ok (.if_icmp .ge 7, 3) := by decide +kernel
theorem dX3_isChannel_10 : decode cX3_isChannel 10 = .ok (.iconst 1, 1) := by decide +kernel
theorem dX3_isChannel_11 : decode cX3_isChannel 11 = .ok (.goto 4, 3) := by decide +kernel
theorem dX3_isChannel_14 : decode cX3_isChannel 14 = .ok (.iconst 0, 1) := by decide +kernel
theorem dX3_isChannel_15 : decode cX3_isChannel 15 = .ok (.ireturn, 1) := by decide +kernel
theorem dX3_isByte_0 : decode cX3_isByte 0 = .ok (.iload_n 0, 1) := by decide +kernel
theorem dX3_isByte_1 : decode cX3_isByte 1 = .ok (.ifCond .lt 14, 3) := by decide +kernel
theorem dX3_isByte_4 : decode cX3_isByte 4 = .ok (.iload_n 0, 1) := by decide +kernel
theorem dX3_isByte_5 : decode cX3_isByte 5 = .ok (.sipush 255, 3) := by decide +kernel
theorem dX3_isByte_8 : decode cX3_isByte 8 = .ok (.if_icmp .gt 7, 3) := by decide +kernel
theorem dX3_isByte_11 : decode cX3_isByte 11 = .ok (.iconst 1, 1) := by decide +kernel
theorem dX3_isByte_12 : decode cX3_isByte 12 = .ok (.goto 4, 3) := by decide +kernel
theorem dX3_isByte_15 : decode cX3_isByte 15 = .ok (.iconst 0, 1) := by decide +kernel
theorem dX3_isByte_16 : decode cX3_isByte 16 = .ok (.ireturn, 1) := by decide +kernel
theorem dX3_isKind_0 : decode cX3_isKind 0 = .ok (.iload_n 1, 1) := by decide +kernel
theorem dX3_isKind_1 : decode cX3_isKind 1 = .ok (.ifCond .lt 15, 3) := by decide +kernel
theorem dX3_isKind_4 : decode cX3_isKind 4 = .ok (.iload_n 1, 1) := by decide +kernel
theorem dX3_isKind_5 : decode cX3_isKind 5 = .ok (.aload_n 0, 1) := by decide +kernel
theorem dX3_isKind_6 : decode cX3_isKind 6 = .ok (.getfield 9, 3) := by decide +kernel
theorem dX3_isKind_9 : decode cX3_isKind 9 = .ok (.if_icmp .ge 7, 3) := by decide +kernel
theorem dX3_isKind_12 : decode cX3_isKind 12 = .ok (.iconst 1, 1) := by decide +kernel
theorem dX3_isKind_13 : decode cX3_isKind 13 = .ok (.goto 4, 3) := by decide +kernel
theorem dX3_isKind_16 : decode cX3_isKind 16 = .ok (.iconst 0, 1) := by decide +kernel
theorem dX3_isKind_17 : decode cX3_isKind 17 = .ok (.ireturn, 1) := by decide +kernel
set_option maxRecDepth 20000 in
theorem ggX3_lookAtNow_X1_fillRow : GoodIn wsX3_lookAtNow wsX1_fillRow := goodIn_r _ [8, 9, 10, 11, 7, 12, 13, 14, 15, 16, 17, 18, 19, 35, 36, 37, 38] (by decide +kernel) (by decide +kernel)
set_option maxRecDepth 20000 in
theorem gX3_lookAtNow_X1_fillRow : GoodIn wsX3_lookAtNow (wsV RX3 164 RX1 yX1_fillRow wsX1_fillRow) := goodIn_app (goodIn_of _ (by decide +kernel)) ggX3_lookAtNow_X1_fillRow
set_option maxRecDepth 20000 in
theorem ggX3_lookAtNow_X2_fillCells : GoodIn wsX3_lookAtNow wsX2_fillCells := goodIn_r _ [23] (by decide +kernel) (by decide +kernel)
set_option maxRecDepth 20000 in
theorem gX3_lookAtNow_X2_fillCells : GoodIn wsX3_lookAtNow (va_wsS RX3 167 yX2_fillCells wsX2_fillCells) := goodIn_app (goodIn_of _ (by decide +kernel)) ggX3_lookAtNow_X2_fillCells
theorem dX3_lookAtNow_0 : decode cX3_lookAtNow 0 = .ok (.aload_n 0, 1) := by decide +kernel
theorem dX3_lookAtNow_1 : decode cX3_lookAtNow 1 = .ok (.getfield 16, 3) := by decide +kernel
theorem dX3_lookAtNow_4 : decode cX3_lookAtNow 4 = .ok (.aload_n 0, 1) := by decide +kernel
theorem dX3_lookAtNow_5 : decode cX3_lookAtNow 5 = .ok (.getfield 51, 3) := by decide +kernel
theorem dX3_lookAtNow_8 : decode cX3_lookAtNow 8 = .ok (.invokevirtual 164, 3) := by decide +kernel
theorem dX3_lookAtNow_11 : decode cX3_lookAtNow 11 = .ok (.aload_n 0, 1) := by decide +kernel
theorem dX3_lookAtNow_12 : decode cX3_lookAtNow 12 = .ok (.getfield 51, 3) := by decide +kernel
theorem dX3_lookAtNow_15 : decode cX3_lookAtNow 15 = .ok (.aload_n 0, 1) := by decide +kernel
theorem dX3_lookAtNow_16 : decode cX3_lookAtNow 16 = .ok (.getfield 54, 3) := by decide +kernel
theorem dX3_lookAtNow_19 : decode cX3_lookAtNow 19 = .ok (.invokestatic 167, 3) := by decide +kernel
theorem dX3_lookAtNow_22 : decode cX3_lookAtNow 22 = .ok (.return_, 1) := by decide +kernel
set_option maxRecDepth 20000 in
theorem ggX3_readWithout_X2_cellsOf : GoodIn wsX3_readWithout wsX2_cellsOf := goodIn_r _ [6, 7, 47, 48, 49, 50, 51, 52] (by decide +kernel) (by decide +kernel)
set_option maxRecDepth 20000 in
theorem gX3_readWithout_X2_cellsOf : GoodIn wsX3_readWithout (wsV RX3 171 RX2 yX2_cellsOf wsX2_cellsOf) := goodIn_app (goodIn_of _ (by decide +kernel)) ggX3_readWithout_X2_cellsOf
set_option maxRecDepth 20000 in
theorem ggX3_readWithout_X3_readCells : GoodIn wsX3_readWithout wsX3_readCells := goodIn_r _ [12, 13, 14, 1, 15, 16, 17, 18, 5, 19, 20, 21, 22, 7, 23, 24, 25, 26, 27, 28, 29, 30, 31, 32, 33, 11, 34, 35, 36, 37, 38, 39, 40, 41, 42, 43, 44, 45, 46, 47, 48, 49, 50, 51, 52] (by decide +kernel) (by decide +kernel)
set_option maxRecDepth 20000 in
theorem gX3_readWithout_X3_readCells : GoodIn wsX3_readWithout (wsV RX3 98 RX3 yX3_readCells wsX3_readCells) := goodIn_app (goodIn_of _ (by decide +kernel)) ggX3_readWithout_X3_readCells
theorem dX3_readWithout_0 : decode cX3_readWithout 0 = .ok (.aload_n 0, 1) := by decide +kernel
theorem dX3_readWithout_1 : decode cX3_readWithout 1 = .ok (.aload_n 0, 1) := by decide +kernel
theorem dX3_readWithout_2 : decode cX3_readWithout 2 = .ok (.getfield 25, 3) := by decide +kernel
theorem dX3_readWithout_5 : decode cX3_readWithout 5 = .ok (.iload_n 1, 1) := by decide +kernel
theorem dX3_readWithout_6 : decode cX3_readWithout 6 = .ok (.invokevirtual 171, 3) := by decide +kernel
theorem dX3_readWithout_9 : decode cX3_readWithout 9 = .ok (.iload_n 1, 1) := by decide +kernel
theorem dX3_readWithout_10 : decode cX3_readWithout 10 = .ok (.invokevirtual 98, 3) := by decide +kernel
theorem dX3_readWithout_13 : decode cX3_readWithout 13 = .ok (.ireturn, 1) := by decide +kernel
set_option maxRecDepth 20000 in
theorem ggX3_readCells_X2_sumOf : GoodIn wsX3_readCells wsX2_sumOf := goodIn_r _ [9, 10, 11, 12, 13, 14, 15, 16, 17, 18, 19, 20, 8, 21, 39, 40, 41, 42, 43, 44] (by decide +kernel) (by decide +kernel)
set_option maxRecDepth 20000 in
theorem gX3_readCells_X2_sumOf : GoodIn wsX3_readCells (wsV RX3 104 RX2 yX2_sumOf wsX2_sumOf) := goodIn_app (goodIn_of _ (by decide +kernel)) ggX3_readCells_X2_sumOf
set_option maxRecDepth 20000 in
theorem ggX3_readCells_X3_greatest : GoodIn wsX3_readCells wsX3_greatest := goodIn_r _ [26, 1, 2, 27, 28, 29, 30, 31, 32, 33, 34, 35, 36, 37, 38] (by decide +kernel) (by decide +kernel)
set_option maxRecDepth 20000 in
theorem gX3_readCells_X3_greatest : GoodIn wsX3_readCells (wsV RX3 147 RX3 yX3_greatest wsX3_greatest) := goodIn_app (goodIn_of _ (by decide +kernel)) ggX3_readCells_X3_greatest
theorem dX3_readCells_0 : decode cX3_readCells 0 = .ok (.iconst 0, 1) := by decide +kernel
theorem dX3_readCells_1 : decode cX3_readCells 1 = .ok (.istore_n 3, 1) := by decide +kernel
theorem dX3_readCells_2 : decode cX3_readCells 2 = .ok (.iload_n 3, 1) := by decide +kernel
theorem dX3_readCells_3 : decode cX3_readCells 3 = .ok (.aload_n 0, 1) := by decide +kernel
theorem dX3_readCells_4 : decode cX3_readCells 4 = .ok (.getfield 9, 3) := by decide +kernel
theorem dX3_readCells_7 : decode cX3_readCells 7 = .ok (.if_icmp .ge 25, 3) := by decide +kernel
theorem dX3_readCells_10 : decode cX3_readCells 10 = .ok (.aload_n 0, 1) := by decide +kernel
theorem dX3_readCells_11 : decode cX3_readCells 11 = .ok (.getfield 57, 3) := by decide +kernel
theorem dX3_readCells_14 : decode cX3_readCells 14 = .ok (.iload_n 3, 1) := by decide +kernel
theorem dX3_readCells_15 : decode cX3_readCells 15 = .ok (.aload_n 0, 1) := by decide +kernel
theorem dX3_readCells_16 : decode cX3_readCells 16 = .ok (.getfield 25, 3) := by decide +kernel
theorem dX3_readCells_19 : decode cX3_readCells 19 = .ok (.iload_n 3, 1) := by decide +kernel
theorem dX3_readCells_20 : decode cX3_readCells 20 = .ok (.aload_n 1, 1) := by decide +kernel
theorem dX3_readCells_21 : decode cX3_readCells 21 = .ok (.iload_n 2, 1) := by decide +kernel
theorem dX3_readCells_22 : decode cX3_readCells 22 = .ok (.invokevirtual 104, 3) := by decide +kernel
theorem dX3_readCells_25 : decode cX3_readCells 25 = .ok (.lastore, 1) := by decide +kernel
theorem dX3_readCells_26 : decode cX3_readCells 26 = .ok (.iinc 3 1, 3) := by decide +kernel
theorem dX3_readCells_29 : decode cX3_readCells 29 = .ok (.goto (-27), 3) := by decide +kernel
theorem dX3_readCells_32 : decode cX3_readCells 32 = .ok (.aload_n 0, 1) := by decide +kernel
theorem dX3_readCells_33 : decode cX3_readCells 33 = .ok (.invokevirtual 147, 3) := by decide +kernel
theorem dX3_readCells_36 : decode cX3_readCells 36 = .ok (.istore_n 3, 1) := by decide +kernel
theorem dX3_readCells_37 : decode cX3_readCells 37 = .ok (.aload_n 0, 1) := by decide +kernel
theorem dX3_readCells_38 : decode cX3_readCells 38 = .ok (.getfield 57, 3) := by decide +kernel
theorem dX3_readCells_41 : decode cX3_readCells 41 = .ok (.iload_n 3, 1) := by decide +kernel
theorem dX3_readCells_42 : decode cX3_readCells 42 = .ok (.laload, 1) := by decide +kernel
theorem dX3_readCells_43 : decode cX3_readCells 43 = .ok (.aload_n 0, 1) := by decide +kernel
theorem dX3_readCells_44 : decode cX3_readCells 44 = .ok (.getfield 40, 3) := by decide +kernel
theorem dX3_readCells_47 : decode cX3_readCells 47 = .ok (.lcmp, 1) := by decide +kernel
theorem dX3_readCells_48 : decode cX3_readCells 48 = .ok (.ifCond .ge 7, 3) := by decide +kernel
theorem dX3_readCells_51 : decode cX3_readCells 51 = .ok (.iconst (-1), 1) := by decide +kernel
theorem dX3_readCells_52 : decode cX3_readCells 52 = .ok (.goto 4, 3) := by decide +kernel
theorem dX3_readCells_55 : decode cX3_readCells 55 = .ok (.iload_n 3, 1) := by decide +kernel
theorem dX3_readCells_56 : decode cX3_readCells 56 = .ok (.ireturn, 1) := by decide +kernel
theorem dX3_greatest_0 : decode cX3_greatest 0 = .ok (.iconst 0, 1) := by decide +kernel
theorem dX3_greatest_1 : decode cX3_greatest 1 = .ok (.istore_n 1, 1) := by decide +kernel
theorem dX3_greatest_2 : decode cX3_greatest 2 = .ok (.iconst 1, 1) := by decide +kernel
theorem dX3_greatest_3 : decode cX3_greatest 3 = .ok (.istore_n 2, 1) := by decide +kernel
theorem dX3_greatest_4 : decode cX3_greatest 4 = .ok (.iload_n 2, 1) := by decide +kernel
theorem dX3_greatest_5 : decode cX3_greatest 5 = .ok (.aload_n 0, 1) := by decide +kernel
theorem dX3_greatest_6 : decode cX3_greatest 6 = .ok (.getfield 9, 3) := by decide +kernel
theorem dX3_greatest_9 : decode cX3_greatest 9 = .ok (.if_icmp .ge 69, 3) := by decide +kernel
theorem dX3_greatest_12 : decode cX3_greatest 12 = .ok (.aload_n 0, 1) := by decide +kernel
theorem dX3_greatest_13 : decode cX3_greatest 13 = .ok (.getfield 57, 3) := by decide +kernel
theorem dX3_greatest_16 : decode cX3_greatest 16 = .ok (.iload_n 2, 1) := by decide +kernel
theorem dX3_greatest_17 : decode cX3_greatest 17 = .ok (.laload, 1) := by decide +kernel
theorem dX3_greatest_18 : decode cX3_greatest 18 = .ok (.aload_n 0, 1) := by decide +kernel
theorem dX3_greatest_19 : decode cX3_greatest 19 = .ok (.getfield 57, 3) := by decide +kernel
theorem dX3_greatest_22 : decode cX3_greatest 22 = .ok (.iload_n 1, 1) := by decide +kernel
theorem dX3_greatest_23 : decode cX3_greatest 23 = .ok (.laload, 1) := by decide +kernel
theorem dX3_greatest_24 : decode cX3_greatest 24 = .ok (.lcmp, 1) := by decide +kernel
theorem dX3_greatest_25 : decode cX3_greatest 25 = .ok (.ifCond .ne 7, 3) := by decide +kernel
theorem dX3_greatest_28 : decode cX3_greatest 28 = .ok (.iconst 1, 1) := by decide +kernel
theorem dX3_greatest_29 : decode cX3_greatest 29 = .ok (.goto 4, 3) := by decide +kernel
theorem dX3_greatest_32 : decode cX3_greatest 32 = .ok (.iconst 0, 1) := by decide +kernel
theorem dX3_greatest_33 : decode cX3_greatest 33 = .ok (.istore_n 3, 1) := by decide +kernel
theorem dX3_greatest_34 : decode cX3_greatest 34 = .ok (.aload_n 0, 1) := by decide +kernel
theorem dX3_greatest_35 : decode cX3_greatest 35 = .ok (.getfield 57, 3) := by decide +kernel
theorem dX3_greatest_38 : decode cX3_greatest 38 = .ok (.iload_n 2, 1) := by decide +kernel
theorem dX3_greatest_39 : decode cX3_greatest 39 = .ok (.laload, 1) := by decide +kernel
theorem dX3_greatest_40 : decode cX3_greatest 40 = .ok (.aload_n 0, 1) := by decide +kernel
theorem dX3_greatest_41 : decode cX3_greatest 41 = .ok (.getfield 57, 3) := by decide +kernel
theorem dX3_greatest_44 : decode cX3_greatest 44 = .ok (.iload_n 1, 1) := by decide +kernel
theorem dX3_greatest_45 : decode cX3_greatest 45 = .ok (.laload, 1) := by decide +kernel
theorem dX3_greatest_46 : decode cX3_greatest 46 = .ok (.lcmp, 1) := by decide +kernel
theorem dX3_greatest_47 : decode cX3_greatest 47 = .ok (.ifCond .gt 23, 3) := by decide +kernel
theorem dX3_greatest_50 : decode cX3_greatest 50 = .ok (.iload_n 3, 1) := by decide +kernel
theorem dX3_greatest_51 : decode cX3_greatest 51 = .ok (.ifCond .eq 21, 3) := by decide +kernel
theorem dX3_greatest_54 : decode cX3_greatest 54 = .ok (.aload_n 0, 1) := by decide +kernel
theorem dX3_greatest_55 : decode cX3_greatest 55 = .ok (.getfield 36, 3) := by decide +kernel
theorem dX3_greatest_58 : decode cX3_greatest 58 = .ok (.iload_n 2, 1) := by decide +kernel
theorem dX3_greatest_59 : decode cX3_greatest 59 = .ok (.laload, 1) := by decide +kernel
theorem dX3_greatest_60 : decode cX3_greatest 60 = .ok (.aload_n 0, 1) := by decide +kernel
theorem dX3_greatest_61 : decode cX3_greatest 61 = .ok (.getfield 36, 3) := by decide +kernel
theorem dX3_greatest_64 : decode cX3_greatest 64 = .ok (.iload_n 1, 1) := by decide +kernel
theorem dX3_greatest_65 : decode cX3_greatest 65 = .ok (.laload, 1) := by decide +kernel
theorem dX3_greatest_66 : decode cX3_greatest 66 = .ok (.lcmp, 1) := by decide +kernel
theorem dX3_greatest_67 : decode cX3_greatest 67 = .ok (.ifCond .le 5, 3) := by decide +kernel
theorem dX3_greatest_70 : decode cX3_greatest 70 = .ok (.iload_n 2, 1) := by decide +kernel
theorem dX3_greatest_71 : decode cX3_greatest 71 = .ok (.istore_n 1, 1) := by decide +kernel
theorem dX3_greatest_72 : decode cX3_greatest 72 = .ok (.iinc 2 1, 3) := by decide +kernel
theorem dX3_greatest_75 : decode cX3_greatest 75 = .ok (.goto (-71), 3) := by decide +kernel
theorem dX3_greatest_78 : decode cX3_greatest 78 = .ok (.iload_n 1, 1) := by decide +kernel
theorem dX3_greatest_79 : decode cX3_greatest 79 = .ok (.ireturn, 1) := by decide +kernel
theorem dX4_init_0 : decode cX4_init 0 = .ok (.aload_n 0, 1) := by decide +kernel
theorem dX4_init_1 : decode cX4_init 1 = .ok (.invokespecial 1, 3) := by decide +kernel
theorem dX4_init_4 : decode cX4_init 4 = .ok (.aload_n 0, 1) := by decide +kernel
theorem dX4_init_5 : decode cX4_init 5 = .ok (.bipush 8, 2) := by decide +kernel
theorem dX4_init_7 : decode cX4_init 7 = .ok (.newarray .int, 2) := by decide +kernel
theorem dX4_init_9 : decode cX4_init 9 = .ok (.putfield 7, 3) := by decide +kernel
theorem dX4_init_12 : decode cX4_init 12 = .ok (.aload_n 0, 1) := by decide +kernel
theorem dX4_init_13 : decode cX4_init 13 = .ok (.bipush 8, 2) := by decide +kernel
theorem dX4_init_15 : decode cX4_init 15 = .ok (.newarray .int, 2) := by decide +kernel
theorem dX4_init_17 : decode cX4_init 17 = .ok (.putfield 13, 3) := by decide +kernel
theorem dX4_init_20 : decode cX4_init 20 = .ok (.aload_n 0, 1) := by decide +kernel
theorem dX4_init_21 : decode cX4_init 21 = .ok (.bipush 8, 2) := by decide +kernel
theorem dX4_init_23 : decode cX4_init 23 = .ok (.newarray .int, 2) := by decide +kernel
theorem dX4_init_25 : decode cX4_init 25 = .ok (.putfield 16, 3) := by decide +kernel
theorem dX4_init_28 : decode cX4_init 28 = .ok (.aload_n 0, 1) := by decide +kernel
theorem dX4_init_29 : decode cX4_init 29 = .ok (.bipush 40, 2) := by decide +kernel
theorem dX4_init_31 : decode cX4_init 31 = .ok (.newarray .int, 2) := by decide +kernel
theorem dX4_init_33 : decode cX4_init 33 = .ok (.putfield 19, 3) := by decide +kernel
theorem dX4_init_36 : decode cX4_init 36 = .ok (.aload_n 0, 1) := by decide +kernel
theorem dX4_init_37 : decode cX4_init 37 = .ok (.sipush 320, 3) := by decide +kernel
theorem dX4_init_40 : decode cX4_init 40 = .ok (.newarray .int, 2) := by decide +kernel
theorem dX4_init_42 : decode cX4_init 42 = .ok (.putfield 22, 3) := by decide +kernel
theorem dX4_init_45 : decode cX4_init 45 = .ok (.aload_n 0, 1) := by decide +kernel
theorem dX4_init_46 : decode cX4_init 46 = .ok (.lconst 1, 1) := by decide +kernel
theorem dX4_init_47 : decode cX4_init 47 = .ok (.putfield 25, 3) := by decide +kernel
theorem dX4_init_50 : decode cX4_init 50 = .ok (.aload_n 0, 1) := by decide +kernel
theorem dX4_init_51 : decode cX4_init 51 = .ok (.iconst 4, 1) := by decide +kernel
theorem dX4_init_52 : decode cX4_init 52 = .ok (.newarray .long, 2) := by decide +kernel
theorem dX4_init_54 : decode cX4_init 54 = .ok (.putfield 29, 3) := by decide +kernel
theorem dX4_init_57 : decode cX4_init 57 = .ok (.aload_n 0, 1) := by decide +kernel
theorem dX4_init_58 : decode cX4_init 58 = .ok (.sipush 256, 3) := by decide +kernel
theorem dX4_init_61 : decode cX4_init 61 = .ok (.newarray .int, 2) := by decide +kernel
theorem dX4_init_63 : decode cX4_init 63 = .ok (.putfield 33, 3) := by decide +kernel
theorem dX4_init_66 : decode cX4_init 66 = .ok (.aload_n 0, 1) := by decide +kernel
theorem dX4_init_67 : decode cX4_init 67 = .ok (.sipush 400, 3) := by decide +kernel
theorem dX4_init_70 : decode cX4_init 70 = .ok (.newarray .int, 2) := by decide +kernel
theorem dX4_init_72 : decode cX4_init 72 = .ok (.putfield 36, 3) := by decide +kernel
theorem dX4_init_75 : decode cX4_init 75 = .ok (.aload_n 0, 1) := by decide +kernel
theorem dX4_init_76 : decode cX4_init 76 = .ok (.bipush 8, 2) := by decide +kernel
theorem dX4_init_78 : decode cX4_init 78 = .ok (.newarray .int, 2) := by decide +kernel
theorem dX4_init_80 : decode cX4_init 80 = .ok (.putfield 39, 3) := by decide +kernel
theorem dX4_init_83 : decode cX4_init 83 = .ok (.aload_n 0, 1) := by decide +kernel
theorem dX4_init_84 : decode cX4_init 84 = .ok (.sipush 256, 3) := by decide +kernel
theorem dX4_init_87 : decode cX4_init 87 = .ok (.newarray .int, 2) := by decide +kernel
theorem dX4_init_89 : decode cX4_init 89 = .ok (.putfield 42, 3) := by decide +kernel
theorem dX4_init_92 : decode cX4_init 92 = .ok (.aload_n 0, 1) := by decide +kernel
theorem dX4_init_93 : decode cX4_init 93 = .ok (.iload_n 1, 1) := by decide +kernel
theorem dX4_init_94 : decode cX4_init 94 = .ok (.iconst 1, 1) := by decide +kernel
theorem dX4_init_95 : decode cX4_init 95 = .ok (.if_icmp .lt 12, 3) := by decide +kernel
theorem dX4_init_98 : decode cX4_init 98 = .ok (.iload_n 1, 1) := by decide +kernel
theorem dX4_init_99 : decode cX4_init 99 = .ok (.iconst 4, 1) := by decide +kernel
theorem dX4_init_100 : decode cX4_init 100 = .ok (.if_icmp .gt 7, 3) := by decide +kernel
theorem dX4_init_103 : decode cX4_init 103 = .ok (.iload_n 1, 1) := by decide +kernel
theorem dX4_init_104 : decode cX4_init 104 = .ok (.goto 4, 3) := by decide +kernel
theorem dX4_init_107 : decode cX4_init 107 = .ok (.iconst 1, 1) := by decide +kernel
theorem dX4_init_108 : decode cX4_init 108 = .ok (.putfield 45, 3) := by decide +kernel
theorem dX4_init_111 : decode cX4_init 111 = .ok (.iconst 0, 1) := by decide +kernel
theorem dX4_init_112 : decode cX4_init 112 = .ok (.istore_n 2, 1) := by decide +kernel
theorem dX4_init_113 : decode cX4_init 113 = .ok (.iload_n 2, 1) := by decide +kernel
theorem dX4_init_114 : decode cX4_init 114 = .ok (.bipush 8, 2) := by decide +kernel
theorem dX4_init_116 : decode cX4_init 116 = .ok (.if_icmp .ge 18, 3) := by decide +kernel
theorem dX4_init_119 : decode cX4_init 119 = .ok (.aload_n 0, 1) := by decide +kernel
theorem dX4_init_120 : decode cX4_init 120 = .ok (.getfield 13, 3) := by decide +kernel
theorem dX4_init_123 : decode cX4_init 123 = .ok (.iload_n 2, 1) := by decide +kernel
theorem dX4_init_124 : decode cX4_init 124 = .ok (.sipush 255, 3) := by decide +kernel
theorem dX4_init_127 : decode cX4_init 127 = .ok (.iastore, 1) := by decide +kernel
theorem dX4_init_128 : decode cX4_init 128 = .ok (.iinc 2 1, 3) := by decide +kernel
theorem dX4_init_131 : decode cX4_init 131 = .ok (.goto (-18), 3) := by decide +kernel
theorem dX4_init_134 : decode cX4_init 134 = .ok (.return_, 1) := by decide +kernel
theorem dX4_thrown_0 : decode cX4_thrown 0 = .ok (.aload_n 0, 1) := by decide +kernel
theorem dX4_thrown_1 : decode cX4_thrown 1 = .ok (.getfield 49, 3) := by decide +kernel
theorem dX4_thrown_4 : decode cX4_thrown 4 = .ok (.ireturn, 1) := by decide +kernel
theorem dX4_isByte_0 : decode cX4_isByte 0 = .ok (.iload_n 0, 1) := by decide +kernel
theorem dX4_isByte_1 : decode cX4_isByte 1 = .ok (.ifCond .lt 14, 3) := by decide +kernel
theorem dX4_isByte_4 : decode cX4_isByte 4 = .ok (.iload_n 0, 1) := by decide +kernel
theorem dX4_isByte_5 : decode cX4_isByte 5 = .ok (.sipush 255, 3) := by decide +kernel
theorem dX4_isByte_8 : decode cX4_isByte 8 = .ok (.if_icmp .gt 7, 3) := by decide +kernel
theorem dX4_isByte_11 : decode cX4_isByte 11 = .ok (.iconst 1, 1) := by decide +kernel
theorem dX4_isByte_12 : decode cX4_isByte 12 = .ok (.goto 4, 3) := by decide +kernel
theorem dX4_isByte_15 : decode cX4_isByte 15 = .ok (.iconst 0, 1) := by decide +kernel
theorem dX4_isByte_16 : decode cX4_isByte 16 = .ok (.ireturn, 1) := by decide +kernel
theorem dX4_isChannel_0 : decode cX4_isChannel 0 = .ok (.iload_n 0, 1) := by decide +kernel
theorem dX4_isChannel_1 : decode cX4_isChannel 1 = .ok (.ifCond .lt 13, 3) := by decide +kernel
theorem dX4_isChannel_4 : decode cX4_isChannel 4 = .ok (.iload_n 0, 1) := by decide +kernel
theorem dX4_isChannel_5 : decode cX4_isChannel 5 = .ok (.bipush 8, 2) := by decide +kernel
theorem dX4_isChannel_7 : decode cX4_isChannel 7 = .ok (.if_icmp .ge 7, 3) := by decide +kernel
theorem dX4_isChannel_10 : decode cX4_isChannel 10 = .ok (.iconst 1, 1) := by decide +kernel
theorem dX4_isChannel_11 : decode cX4_isChannel 11 = .ok (.goto 4, 3) := by decide +kernel
theorem dX4_isChannel_14 : decode cX4_isChannel 14 = .ok (.iconst 0, 1) := by decide +kernel
theorem dX4_isChannel_15 : decode cX4_isChannel 15 = .ok (.ireturn, 1) := by decide +kernel
theorem dX4_isKind_0 : decode cX4_isKind 0 = .ok (.iload_n 1, 1) := by decide +kernel
theorem dX4_isKind_1 : decode cX4_isKind 1 = .ok (.ifCond .lt 15, 3) := by decide +kernel
theorem dX4_isKind_4 : decode cX4_isKind 4 = .ok (.iload_n 1, 1) := by decide +kernel
theorem dX4_isKind_5 : decode cX4_isKind 5 = .ok (.aload_n 0, 1) := by decide +kernel
theorem dX4_isKind_6 : decode cX4_isKind 6 = .ok (.getfield 45, 3) := by decide +kernel
theorem dX4_isKind_9 : decode cX4_isKind 9 = .ok (.if_icmp .ge 7, 3) := by decide +kernel
theorem dX4_isKind_12 : decode cX4_isKind 12 = .ok (.iconst 1, 1) := by decide +kernel
theorem dX4_isKind_13 : decode cX4_isKind 13 = .ok (.goto 4, 3) := by decide +kernel
theorem dX4_isKind_16 : decode cX4_isKind 16 = .ok (.iconst 0, 1) := by decide +kernel
theorem dX4_isKind_17 : decode cX4_isKind 17 = .ok (.ireturn, 1) := by decide +kernel
set_option maxRecDepth 20000 in
theorem ggX4_white_X4_isChannel : GoodIn wsX4_white wsX4_isChannel := goodIn_r _ [6] (by decide +kernel) (by decide +kernel)
set_option maxRecDepth 20000 in
theorem gX4_white_X4_isChannel : GoodIn wsX4_white (va_wsS RX4 52 yX4_isChannel wsX4_isChannel) := goodIn_app (goodIn_of _ (by decide +kernel)) ggX4_white_X4_isChannel
set_option maxRecDepth 20000 in
theorem ggX4_white_X4_isByte : GoodIn wsX4_white wsX4_isByte := goodIn_r _ [9] (by decide +kernel) (by decide +kernel)
set_option maxRecDepth 20000 in
theorem gX4_white_X4_isByte : GoodIn wsX4_white (va_wsS RX4 56 yX4_isByte wsX4_isByte) := goodIn_app (goodIn_of _ (by decide +kernel)) ggX4_white_X4_isByte
theorem dX4_white_0 : decode cX4_white 0 = .ok (.aload_n 0, 1) := by decide +kernel
theorem dX4_white_1 : decode cX4_white 1 = .ok (.iload_n 1, 1) := by decide +kernel
theorem dX4_white_2 : decode cX4_white 2 = .ok (.invokestatic 52, 3) := by decide +kernel
theorem dX4_white_5 : decode cX4_white 5 = .ok (.ifCond .eq 7, 3) := by decide +kernel
theorem dX4_white_8 : decode cX4_white 8 = .ok (.iconst 0, 1) := by decide +kernel
theorem dX4_white_9 : decode cX4_white 9 = .ok (.goto 4, 3) := by decide +kernel
theorem dX4_white_12 : decode cX4_white 12 = .ok (.iconst 1, 1) := by decide +kernel
theorem dX4_white_13 : decode cX4_white 13 = .ok (.putfield 49, 3) := by decide +kernel
theorem dX4_white_16 : decode cX4_white 16 = .ok (.aload_n 0, 1) := by decide +kernel
theorem dX4_white_17 : decode cX4_white 17 = .ok (.getfield 49, 3) := by decide +kernel
theorem dX4_white_20 : decode cX4_white 20 = .ok (.ifCond .gt 10, 3) := by decide +kernel
theorem dX4_white_23 : decode cX4_white 23 = .ok (.iload_n 2, 1) := by decide +kernel
theorem dX4_white_24 : decode cX4_white 24 = .ok (.invokestatic 56, 3) := by decide +kernel
theorem dX4_white_27 : decode cX4_white 27 = .ok (.ifCond .ne 5, 3) := by decide +kernel
theorem dX4_white_30 : decode cX4_white 30 = .ok (.iconst 0, 1) := by decide +kernel
theorem dX4_white_31 : decode cX4_white 31 = .ok (.ireturn, 1) := by decide +kernel
theorem dX4_white_32 : decode cX4_white 32 = .ok (.aload_n 0, 1) := by decide +kernel
theorem dX4_white_33 : decode cX4_white 33 = .ok (.getfield 13, 3) := by decide +kernel
theorem dX4_white_36 : decode cX4_white 36 = .ok (.iload_n 1, 1) := by decide +kernel
theorem dX4_white_37 : decode cX4_white 37 = .ok (.iload_n 2, 1) := by decide +kernel
theorem dX4_white_38 : decode cX4_white 38 = .ok (.iastore, 1) := by decide +kernel
theorem dX4_white_39 : decode cX4_white 39 = .ok (.iconst 1, 1) := by decide +kernel
theorem dX4_white_40 : decode cX4_white 40 = .ok (.ireturn, 1) := by decide +kernel
set_option maxRecDepth 20000 in
theorem ggX4_dark_X4_isChannel : GoodIn wsX4_dark wsX4_isChannel := goodIn_r _ [6] (by decide +kernel) (by decide +kernel)
set_option maxRecDepth 20000 in
theorem gX4_dark_X4_isChannel : GoodIn wsX4_dark (va_wsS RX4 52 yX4_isChannel wsX4_isChannel) := goodIn_app (goodIn_of _ (by decide +kernel)) ggX4_dark_X4_isChannel
set_option maxRecDepth 20000 in
theorem ggX4_dark_X4_isByte : GoodIn wsX4_dark wsX4_isByte := goodIn_r _ [9] (by decide +kernel) (by decide +kernel)
set_option maxRecDepth 20000 in
theorem gX4_dark_X4_isByte : GoodIn wsX4_dark (va_wsS RX4 56 yX4_isByte wsX4_isByte) := goodIn_app (goodIn_of _ (by decide +kernel)) ggX4_dark_X4_isByte
theorem dX4_dark_0 : decode cX4_dark 0 = .ok (.aload_n 0, 1) := by decide +kernel
theorem dX4_dark_1 : decode cX4_dark 1 = .ok (.iconst 0, 1) := by decide +kernel
theorem dX4_dark_2 : decode cX4_dark 2 = .ok (.putfield 49, 3) := by decide +kernel
theorem dX4_dark_5 : decode cX4_dark 5 = .ok (.iload_n 1, 1) := by decide +kernel
theorem dX4_dark_6 : decode cX4_dark 6 = .ok (.invokestatic 52, 3) := by decide +kernel
theorem dX4_dark_9 : decode cX4_dark 9 = .ok (.ifCond .eq 10, 3) := by decide +kernel
theorem dX4_dark_12 : decode cX4_dark 12 = .ok (.iload_n 2, 1) := by decide +kernel
theorem dX4_dark_13 : decode cX4_dark 13 = .ok (.invokestatic 56, 3) := by decide +kernel
theorem dX4_dark_16 : decode cX4_dark 16 = .ok (.ifCond .ne 5, 3) := by decide +kernel
theorem dX4_dark_19 : decode cX4_dark 19 = .ok (.iconst 0, 1) := by decide +kernel
theorem dX4_dark_20 : decode cX4_dark 20 = .ok (.ireturn, 1) := by decide +kernel
theorem dX4_dark_21 : decode cX4_dark 21 = .ok (.aload_n 0, 1) := by decide +kernel
theorem dX4_dark_22 : decode cX4_dark 22 = .ok (.getfield 7, 3) := by decide +kernel
theorem dX4_dark_25 : decode cX4_dark 25 = .ok (.iload_n 1, 1) := by decide +kernel
theorem dX4_dark_26 : decode cX4_dark 26 = .ok (.iload_n 2, 1) := by decide +kernel
theorem dX4_dark_27 : decode cX4_dark 27 = .ok (.iastore, 1) := by decide +kernel
theorem dX4_dark_28 : decode cX4_dark 28 = .ok (.iconst 1, 1) := by decide +kernel
theorem dX4_dark_29 : decode cX4_dark 29 = .ok (.ireturn, 1) := by decide +kernel
set_option maxRecDepth 20000 in
theorem ggX4_value_X4_isChannel : GoodIn wsX4_value wsX4_isChannel := goodIn_r _ [6] (by decide +kernel) (by decide +kernel)
set_option maxRecDepth 20000 in
theorem gX4_value_X4_isChannel : GoodIn wsX4_value (va_wsS RX4 52 yX4_isChannel wsX4_isChannel) := goodIn_app (goodIn_of _ (by decide +kernel)) ggX4_value_X4_isChannel
set_option maxRecDepth 20000 in
theorem ggX4_value_X4_isByte : GoodIn wsX4_value wsX4_isByte := goodIn_r _ [9] (by decide +kernel) (by decide +kernel)
set_option maxRecDepth 20000 in
theorem gX4_value_X4_isByte : GoodIn wsX4_value (va_wsS RX4 56 yX4_isByte wsX4_isByte) := goodIn_app (goodIn_of _ (by decide +kernel)) ggX4_value_X4_isByte
theorem dX4_value_0 : decode cX4_value 0 = .ok (.aload_n 0, 1) := by decide +kernel
theorem dX4_value_1 : decode cX4_value 1 = .ok (.iconst 0, 1) := by decide +kernel
theorem dX4_value_2 : decode cX4_value 2 = .ok (.putfield 49, 3) := by decide +kernel
theorem dX4_value_5 : decode cX4_value 5 = .ok (.iload_n 1, 1) := by decide +kernel
theorem dX4_value_6 : decode cX4_value 6 = .ok (.invokestatic 52, 3) := by decide +kernel
theorem dX4_value_9 : decode cX4_value 9 = .ok (.ifCond .eq 10, 3) := by decide +kernel
theorem dX4_value_12 : decode cX4_value 12 = .ok (.iload_n 2, 1) := by decide +kernel
theorem dX4_value_13 : decode cX4_value 13 = .ok (.invokestatic 56, 3) := by decide +kernel
theorem dX4_value_16 : decode cX4_value 16 = .ok (.ifCond .ne 5, 3) := by decide +kernel
theorem dX4_value_19 : decode cX4_value 19 = .ok (.iconst 0, 1) := by decide +kernel
theorem dX4_value_20 : decode cX4_value 20 = .ok (.ireturn, 1) := by decide +kernel
theorem dX4_value_21 : decode cX4_value 21 = .ok (.aload_n 0, 1) := by decide +kernel
theorem dX4_value_22 : decode cX4_value 22 = .ok (.getfield 16, 3) := by decide +kernel
theorem dX4_value_25 : decode cX4_value 25 = .ok (.iload_n 1, 1) := by decide +kernel
theorem dX4_value_26 : decode cX4_value 26 = .ok (.iload_n 2, 1) := by decide +kernel
theorem dX4_value_27 : decode cX4_value 27 = .ok (.iastore, 1) := by decide +kernel
theorem dX4_value_28 : decode cX4_value 28 = .ok (.iconst 1, 1) := by decide +kernel
theorem dX4_value_29 : decode cX4_value 29 = .ok (.ireturn, 1) := by decide +kernel
set_option maxRecDepth 20000 in
theorem ggX4_reference_X4_isChannel : GoodIn wsX4_reference wsX4_isChannel := goodIn_r _ [7] (by decide +kernel) (by decide +kernel)
set_option maxRecDepth 20000 in
theorem gX4_reference_X4_isChannel : GoodIn wsX4_reference (va_wsS RX4 52 yX4_isChannel wsX4_isChannel) := goodIn_app (goodIn_of _ (by decide +kernel)) ggX4_reference_X4_isChannel
set_option maxRecDepth 20000 in
theorem ggX4_reference_X4_isByte : GoodIn wsX4_reference wsX4_isByte := goodIn_r _ [10] (by decide +kernel) (by decide +kernel)
set_option maxRecDepth 20000 in
theorem gX4_reference_X4_isByte : GoodIn wsX4_reference (va_wsS RX4 56 yX4_isByte wsX4_isByte) := goodIn_app (goodIn_of _ (by decide +kernel)) ggX4_reference_X4_isByte
theorem dX4_reference_0 : decode cX4_reference 0 = .ok (.aload_n 0, 1) := by decide +kernel
theorem dX4_reference_1 : decode cX4_reference 1 = .ok (.iconst 0, 1) := by decide +kernel
theorem dX4_reference_2 : decode cX4_reference 2 = .ok (.putfield 49, 3) := by decide +kernel
theorem dX4_reference_5 : decode cX4_reference 5 = .ok (.iload_n 1, 1) := by decide +kernel
theorem dX4_reference_6 : decode cX4_reference 6 = .ok (.invokestatic 52, 3) := by decide +kernel
theorem dX4_reference_9 : decode cX4_reference 9 = .ok (.ifCond .eq 19, 3) := by decide +kernel
theorem dX4_reference_12 : decode cX4_reference 12 = .ok (.iload_n 2, 1) := by decide +kernel
theorem dX4_reference_13 : decode cX4_reference 13 = .ok (.invokestatic 56, 3) := by decide +kernel
theorem dX4_reference_16 : decode cX4_reference 16 = .ok (.ifCond .eq 12, 3) := by decide +kernel
theorem dX4_reference_19 : decode cX4_reference 19 = .ok (.lload_n 3, 1) := by decide +kernel
theorem dX4_reference_20 : decode cX4_reference 20 = .ok (.aload_n 0, 1) := by decide +kernel
theorem dX4_reference_21 : decode cX4_reference 21 = .ok (.getfield 59, 3) := by decide +kernel
theorem dX4_reference_24 : decode cX4_reference 24 = .ok (.lcmp, 1) := by decide +kernel
theorem dX4_reference_25 : decode cX4_reference 25 = .ok (.ifCond .gt 5, 3) := by decide +kernel
theorem dX4_reference_28 : decode cX4_reference 28 = .ok (.iconst 0, 1) := by decide +kernel
theorem dX4_reference_29 : decode cX4_reference 29 = .ok (.ireturn, 1) := by decide +kernel
theorem dX4_reference_30 : decode cX4_reference 30 = .ok (.aload_n 0, 1) := by decide +kernel
theorem dX4_reference_31 : decode cX4_reference 31 = .ok (.lload_n 3, 1) := by decide +kernel
theorem dX4_reference_32 : decode cX4_reference 32 = .ok (.putfield 59, 3) := by decide +kernel
theorem dX4_reference_35 : decode cX4_reference 35 = .ok (.aload_n 0, 1) := by decide +kernel
theorem dX4_reference_36 : decode cX4_reference 36 = .ok (.getfield 13, 3) := by decide +kernel
theorem dX4_reference_39 : decode cX4_reference 39 = .ok (.iload_n 1, 1) := by decide +kernel
theorem dX4_reference_40 : decode cX4_reference 40 = .ok (.iload_n 2, 1) := by decide +kernel
theorem dX4_reference_41 : decode cX4_reference 41 = .ok (.iastore, 1) := by decide +kernel
theorem dX4_reference_42 : decode cX4_reference 42 = .ok (.iconst 1, 1) := by decide +kernel
theorem dX4_reference_43 : decode cX4_reference 43 = .ok (.ireturn, 1) := by decide +kernel
theorem dX4_evened_0 : decode cX4_evened 0 = .ok (.aload_n 0, 1) := by decide +kernel
theorem dX4_evened_1 : decode cX4_evened 1 = .ok (.getfield 13, 3) := by decide +kernel
theorem dX4_evened_4 : decode cX4_evened 4 = .ok (.iload_n 1, 1) := by decide +kernel
theorem dX4_evened_5 : decode cX4_evened 5 = .ok (.iaload, 1) := by decide +kernel
theorem dX4_evened_6 : decode cX4_evened 6 = .ok (.aload_n 0, 1) := by decide +kernel
theorem dX4_evened_7 : decode cX4_evened 7 = .ok (.getfield 7, 3) := by decide +kernel
theorem dX4_evened_10 : decode cX4_evened 10 = .ok (.iload_n 1, 1) := by decide +kernel
theorem dX4_evened_11 : decode cX4_evened 11 = .ok (.iaload, 1) := by decide +kernel
theorem dX4_evened_12 : decode cX4_evened 12 = .ok (.if_icmp .le 18, 3) := by decide +kernel
theorem dX4_evened_15 : decode cX4_evened 15 = .ok (.aload_n 0, 1) := by decide +kernel
theorem dX4_evened_16 : decode cX4_evened 16 = .ok (.getfield 16, 3) := by decide +kernel
theorem dX4_evened_19 : decode cX4_evened 19 = .ok (.iload_n 1, 1) := by decide +kernel
theorem dX4_evened_20 : decode cX4_evened 20 = .ok (.iaload, 1) := by decide +kernel
theorem dX4_evened_21 : decode cX4_evened 21 = .ok (.aload_n 0, 1) := by decide +kernel
theorem dX4_evened_22 : decode cX4_evened 22 = .ok (.getfield 7, 3) := by decide +kernel
theorem dX4_evened_25 : decode cX4_evened 25 = .ok (.iload_n 1, 1) := by decide +kernel
theorem dX4_evened_26 : decode cX4_evened 26 = .ok (.iaload, 1) := by decide +kernel
theorem dX4_evened_27 : decode cX4_evened 27 = .ok (.if_icmp .gt 5, 3) := by decide +kernel
theorem dX4_evened_30 : decode cX4_evened 30 = .ok (.iconst 0, 1) := by decide +kernel
theorem dX4_evened_31 : decode cX4_evened 31 = .ok (.ireturn, 1) := by decide +kernel
theorem dX4_evened_32 : decode cX4_evened 32 = .ok (.sipush 256, 3) := by decide +kernel
theorem dX4_evened_35 : decode cX4_evened 35 = .ok (.aload_n 0, 1) := by decide +kernel
theorem dX4_evened_36 : decode cX4_evened 36 = .ok (.getfield 16, 3) := by decide +kernel
theorem dX4_evened_39 : decode cX4_evened 39 = .ok (.iload_n 1, 1) := by decide +kernel
theorem dX4_evened_40 : decode cX4_evened 40 = .ok (.iaload, 1) := by decide +kernel
theorem dX4_evened_41 : decode cX4_evened 41 = .ok (.aload_n 0, 1) := by decide +kernel
theorem dX4_evened_42 : decode cX4_evened 42 = .ok (.getfield 7, 3) := by decide +kernel
theorem dX4_evened_45 : decode cX4_evened 45 = .ok (.iload_n 1, 1) := by decide +kernel
theorem dX4_evened_46 : decode cX4_evened 46 = .ok (.iaload, 1) := by decide +kernel
theorem dX4_evened_47 : decode cX4_evened 47 = .ok (.isub, 1) := by decide +kernel
theorem dX4_evened_48 : decode cX4_evened 48 = .ok (.imul, 1) := by decide +kernel
theorem dX4_evened_49 : decode cX4_evened 49 = .ok (.aload_n 0, 1) := by decide +kernel
theorem dX4_evened_50 : decode cX4_evened 50 = .ok (.getfield 13, 3) := by decide +kernel
theorem dX4_evened_53 : decode cX4_evened 53 = .ok (.iload_n 1, 1) := by decide +kernel
theorem dX4_evened_54 : decode cX4_evened 54 = .ok (.iaload, 1) := by decide +kernel
theorem dX4_evened_55 : decode cX4_evened 55 = .ok (.aload_n 0, 1) := by decide +kernel
theorem dX4_evened_56 : decode cX4_evened 56 = .ok (.getfield 7, 3) := by decide +kernel
theorem dX4_evened_59 : decode cX4_evened 59 = .ok (.iload_n 1, 1) := by decide +kernel
theorem dX4_evened_60 : decode cX4_evened 60 = .ok (.iaload, 1) := by decide +kernel
theorem dX4_evened_61 : decode cX4_evened 61 = .ok (.isub, 1) := by decide +kernel
theorem dX4_evened_62 : decode cX4_evened 62 = .ok (.idiv, 1) := by decide +kernel
theorem dX4_evened_63 : decode cX4_evened 63 = .ok (.istore_n 2, 1) := by decide +kernel
theorem dX4_evened_64 : decode cX4_evened 64 = .ok (.iload_n 2, 1) := by decide +kernel
theorem dX4_evened_65 : decode cX4_evened 65 = .ok (.sipush 255, 3) := by decide +kernel
theorem dX4_evened_68 : decode cX4_evened 68 = .ok (.if_icmp .le 9, 3) := by decide +kernel
theorem dX4_evened_71 : decode cX4_evened 71 = .ok (.sipush 255, 3) := by decide +kernel
theorem dX4_evened_74 : decode cX4_evened 74 = .ok (.goto 4, 3) := by decide +kernel
theorem dX4_evened_77 : decode cX4_evened 77 = .ok (.iload_n 2, 1) := by decide +kernel
theorem dX4_evened_78 : decode cX4_evened 78 = .ok (.ireturn, 1) := by decide +kernel
set_option maxRecDepth 20000 in
theorem ggX4_takeNow_X4_evened : GoodIn wsX4_takeNow wsX4_evened := goodIn_r _ [6, 7, 8, 9, 10, 11, 12, 13, 14, 15, 16, 17, 18, 19, 20, 21, 22, 23, 24, 25, 26] (by decide +kernel) (by decide +kernel)
set_option maxRecDepth 20000 in
theorem gX4_takeNow_X4_evened : GoodIn wsX4_takeNow (wsV RX4 62 RX4 yX4_evened wsX4_evened) := goodIn_app (goodIn_of _ (by decide +kernel)) ggX4_takeNow_X4_evened
theorem dX4_takeNow_0 : decode cX4_takeNow 0 = .ok (.iconst 0, 1) := by decide +kernel
theorem dX4_takeNow_1 : decode cX4_takeNow 1 = .ok (.istore_n 1, 1) := by decide +kernel
theorem dX4_takeNow_2 : decode cX4_takeNow 2 = .ok (.iload_n 1, 1) := by decide +kernel
theorem dX4_takeNow_3 : decode cX4_takeNow 3 = .ok (.bipush 8, 2) := by decide +kernel
theorem dX4_takeNow_5 : decode cX4_takeNow 5 = .ok (.if_icmp .ge 20, 3) := by decide +kernel
theorem dX4_takeNow_8 : decode cX4_takeNow 8 = .ok (.aload_n 0, 1) := by decide +kernel
theorem dX4_takeNow_9 : decode cX4_takeNow 9 = .ok (.getfield 39, 3) := by decide +kernel
theorem dX4_takeNow_12 : decode cX4_takeNow 12 = .ok (.iload_n 1, 1) := by decide +kernel
theorem dX4_takeNow_13 : decode cX4_takeNow 13 = .ok (.aload_n 0, 1) := by decide +kernel
theorem dX4_takeNow_14 : decode cX4_takeNow 14 = .ok (.iload_n 1, 1) := by decide +kernel
theorem dX4_takeNow_15 : decode cX4_takeNow 15 = .ok (.invokevirtual 62, 3) := by decide +kernel
theorem dX4_takeNow_18 : decode cX4_takeNow 18 = .ok (.iastore, 1) := by decide +kernel
theorem dX4_takeNow_19 : decode cX4_takeNow 19 = .ok (.iinc 1 1, 3) := by decide +kernel
theorem dX4_takeNow_22 : decode cX4_takeNow 22 = .ok (.goto (-20), 3) := by decide +kernel
theorem dX4_takeNow_25 : decode cX4_takeNow 25 = .ok (.return_, 1) := by decide +kernel
theorem dX4_takeTaught_0 : decode cX4_takeTaught 0 = .ok (.iconst 0, 1) := by decide +kernel
theorem dX4_takeTaught_1 : decode cX4_takeTaught 1 = .ok (.istore_n 2, 1) := by decide +kernel
theorem dX4_takeTaught_2 : decode cX4_takeTaught 2 = .ok (.iload_n 2, 1) := by decide +kernel
theorem dX4_takeTaught_3 : decode cX4_takeTaught 3 = .ok (.bipush 8, 2) := by decide +kernel
theorem dX4_takeTaught_5 : decode cX4_takeTaught 5 = .ok (.if_icmp .ge 26, 3) := by decide +kernel
theorem dX4_takeTaught_8 : decode cX4_takeTaught 8 = .ok (.aload_n 0, 1) := by decide +kernel
theorem dX4_takeTaught_9 : decode cX4_takeTaught 9 = .ok (.getfield 39, 3) := by decide +kernel
theorem dX4_takeTaught_12 : decode cX4_takeTaught 12 = .ok (.iload_n 2, 1) := by decide +kernel
theorem dX4_takeTaught_13 : decode cX4_takeTaught 13 = .ok (.aload_n 0, 1) := by decide +kernel
theorem dX4_takeTaught_14 : decode cX4_takeTaught 14 = .ok (.getfield 22, 3) := by decide +kernel
