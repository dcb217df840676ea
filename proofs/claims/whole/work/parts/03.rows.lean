set_option maxRecDepth 20000 in
theorem ggX0_init_J7_fill_53178 : GoodIn wsX0_init wsJ7_fill_53178 := goodIn_r _ [15] (by decide +kernel) (by decide +kernel)
set_option maxRecDepth 20000 in
theorem gX0_init_J7_fill_53178 : GoodIn wsX0_init (va_wsS RX0 24 yJ7_fill_53178 wsJ7_fill_53178) := goodIn_app (goodIn_of _ (by decide +kernel)) ggX0_init_J7_fill_53178
theorem dX0_init_0 : decode cX0_init 0 = .ok (.aload_n 0, 1) := by decide +kernel
theorem dX0_init_1 : decode cX0_init 1 = .ok (.invokespecial 3, 3) := by decide +kernel
theorem dX0_init_4 : decode cX0_init 4 = .ok (.aload_n 0, 1) := by decide +kernel
theorem dX0_init_5 : decode cX0_init 5 = .ok (.sipush 256, 3) := by decide +kernel
theorem dX0_init_8 : decode cX0_init 8 = .ok (.newarray .int, 2) := by decide +kernel
theorem dX0_init_10 : decode cX0_init 10 = .ok (.putfield 11, 3) := by decide +kernel
theorem dX0_init_13 : decode cX0_init 13 = .ok (.aload_n 0, 1) := by decide +kernel
theorem dX0_init_14 : decode cX0_init 14 = .ok (.sipush 256, 3) := by decide +kernel
theorem dX0_init_17 : decode cX0_init 17 = .ok (.newarray .int, 2) := by decide +kernel
theorem dX0_init_19 : decode cX0_init 19 = .ok (.putfield 15, 3) := by decide +kernel
theorem dX0_init_22 : decode cX0_init 22 = .ok (.aload_n 0, 1) := by decide +kernel
theorem dX0_init_23 : decode cX0_init 23 = .ok (.bipush 100, 2) := by decide +kernel
theorem dX0_init_25 : decode cX0_init 25 = .ok (.newarray .int, 2) := by decide +kernel
theorem dX0_init_27 : decode cX0_init 27 = .ok (.putfield 18, 3) := by decide +kernel
theorem dX0_init_30 : decode cX0_init 30 = .ok (.aload_n 0, 1) := by decide +kernel
theorem dX0_init_31 : decode cX0_init 31 = .ok (.bipush 100, 2) := by decide +kernel
theorem dX0_init_33 : decode cX0_init 33 = .ok (.newarray .int, 2) := by decide +kernel
theorem dX0_init_35 : decode cX0_init 35 = .ok (.putfield 21, 3) := by decide +kernel
theorem dX0_init_38 : decode cX0_init 38 = .ok (.aload_n 0, 1) := by decide +kernel
theorem dX0_init_39 : decode cX0_init 39 = .ok (.getfield 11, 3) := by decide +kernel
theorem dX0_init_42 : decode cX0_init 42 = .ok (.bipush (-2), 2) := by decide +kernel
theorem dX0_init_44 : decode cX0_init 44 = .ok (.invokestatic 24, 3) := by decide +kernel
theorem dX0_init_47 : decode cX0_init 47 = .ok (.aload_n 0, 1) := by decide +kernel
theorem dX0_init_48 : decode cX0_init 48 = .ok (.getfield 15, 3) := by decide +kernel
theorem dX0_init_51 : decode cX0_init 51 = .ok (.iconst (-1), 1) := by decide +kernel
theorem dX0_init_52 : decode cX0_init 52 = .ok (.invokestatic 24, 3) := by decide +kernel
theorem dX0_init_55 : decode cX0_init 55 = .ok (.aload_n 0, 1) := by decide +kernel
theorem dX0_init_56 : decode cX0_init 56 = .ok (.iconst 0, 1) := by decide +kernel
theorem dX0_init_57 : decode cX0_init 57 = .ok (.putfield 30, 3) := by decide +kernel
theorem dX0_init_60 : decode cX0_init 60 = .ok (.aload_n 0, 1) := by decide +kernel
theorem dX0_init_61 : decode cX0_init 61 = .ok (.iconst 0, 1) := by decide +kernel
theorem dX0_init_62 : decode cX0_init 62 = .ok (.putfield 34, 3) := by decide +kernel
theorem dX0_init_65 : decode cX0_init 65 = .ok (.aload_n 0, 1) := by decide +kernel
theorem dX0_init_66 : decode cX0_init 66 = .ok (.iconst 0, 1) := by decide +kernel
theorem dX0_init_67 : decode cX0_init 67 = .ok (.putfield 37, 3) := by decide +kernel
theorem dX0_init_70 : decode cX0_init 70 = .ok (.return_, 1) := by decide +kernel
theorem dX0_isPlace_0 : decode cX0_isPlace 0 = .ok (.iload_n 0, 1) := by decide +kernel
theorem dX0_isPlace_1 : decode cX0_isPlace 1 = .ok (.ifCond .lt 23, 3) := by decide +kernel
theorem dX0_isPlace_4 : decode cX0_isPlace 4 = .ok (.iload_n 0, 1) := by decide +kernel
theorem dX0_isPlace_5 : decode cX0_isPlace 5 = .ok (.bipush 16, 2) := by decide +kernel
theorem dX0_isPlace_7 : decode cX0_isPlace 7 = .ok (.if_icmp .ge 17, 3) := by decide +kernel
theorem dX0_isPlace_10 : decode cX0_isPlace 10 = .ok (.iload_n 1, 1) := by decide +kernel
theorem dX0_isPlace_11 : decode cX0_isPlace 11 = .ok (.ifCond .lt 13, 3) := by decide +kernel
theorem dX0_isPlace_14 : decode cX0_isPlace 14 = .ok (.iload_n 1, 1) := by decide +kernel
theorem dX0_isPlace_15 : decode cX0_isPlace 15 = .ok (.bipush 16, 2) := by decide +kernel
theorem dX0_isPlace_17 : decode cX0_isPlace 17 = .ok (.if_icmp .ge 7, 3) := by decide +kernel
theorem dX0_isPlace_20 : decode cX0_isPlace 20 = .ok (.iconst 1, 1) := by decide +kernel
theorem dX0_isPlace_21 : decode cX0_isPlace 21 = .ok (.goto 4, 3) := by decide +kernel
theorem dX0_isPlace_24 : decode cX0_isPlace 24 = .ok (.iconst 0, 1) := by decide +kernel
theorem dX0_isPlace_25 : decode cX0_isPlace 25 = .ok (.ireturn, 1) := by decide +kernel
set_option maxRecDepth 20000 in
theorem ggX0_isFree_X0_isPlace : GoodIn wsX0_isFree wsX0_isPlace := goodIn_r _ [6] (by decide +kernel) (by decide +kernel)
set_option maxRecDepth 20000 in
theorem gX0_isFree_X0_isPlace : GoodIn wsX0_isFree (va_wsS RX0 40 yX0_isPlace wsX0_isPlace) := goodIn_app (goodIn_of _ (by decide +kernel)) ggX0_isFree_X0_isPlace
theorem dX0_isFree_0 : decode cX0_isFree 0 = .ok (.iload_n 1, 1) := by decide +kernel
theorem dX0_isFree_1 : decode cX0_isFree 1 = .ok (.iload_n 2, 1) := by decide +kernel
theorem dX0_isFree_2 : decode cX0_isFree 2 = .ok (.invokestatic 40, 3) := by decide +kernel
theorem dX0_isFree_5 : decode cX0_isFree 5 = .ok (.ifCond .eq 32, 3) := by decide +kernel
theorem dX0_isFree_8 : decode cX0_isFree 8 = .ok (.aload_n 0, 1) := by decide +kernel
theorem dX0_isFree_9 : decode cX0_isFree 9 = .ok (.getfield 34, 3) := by decide +kernel
theorem dX0_isFree_12 : decode cX0_isFree 12 = .ok (.bipush 100, 2) := by decide +kernel
theorem dX0_isFree_14 : decode cX0_isFree 14 = .ok (.if_icmp .ge 23, 3) := by decide +kernel
theorem dX0_isFree_17 : decode cX0_isFree 17 = .ok (.aload_n 0, 1) := by decide +kernel
theorem dX0_isFree_18 : decode cX0_isFree 18 = .ok (.getfield 11, 3) := by decide +kernel
theorem dX0_isFree_21 : decode cX0_isFree 21 = .ok (.bipush 16, 2) := by decide +kernel
theorem dX0_isFree_23 : decode cX0_isFree 23 = .ok (.iload_n 2, 1) := by decide +kernel
theorem dX0_isFree_24 : decode cX0_isFree 24 = .ok (.imul, 1) := by decide +kernel
theorem dX0_isFree_25 : decode cX0_isFree 25 = .ok (.iload_n 1, 1) := by decide +kernel
theorem dX0_isFree_26 : decode cX0_isFree 26 = .ok (.iadd, 1) := by decide +kernel
theorem dX0_isFree_27 : decode cX0_isFree 27 = .ok (.iaload, 1) := by decide +kernel
theorem dX0_isFree_28 : decode cX0_isFree 28 = .ok (.bipush (-2), 2) := by decide +kernel
theorem dX0_isFree_30 : decode cX0_isFree 30 = .ok (.if_icmp .ne 7, 3) := by decide +kernel
theorem dX0_isFree_33 : decode cX0_isFree 33 = .ok (.iconst 1, 1) := by decide +kernel
theorem dX0_isFree_34 : decode cX0_isFree 34 = .ok (.goto 4, 3) := by decide +kernel
theorem dX0_isFree_37 : decode cX0_isFree 37 = .ok (.iconst 0, 1) := by decide +kernel
theorem dX0_isFree_38 : decode cX0_isFree 38 = .ok (.ireturn, 1) := by decide +kernel
theorem dX0_hasPiece_0 : decode cX0_hasPiece 0 = .ok (.iload_n 1, 1) := by decide +kernel
theorem dX0_hasPiece_1 : decode cX0_hasPiece 1 = .ok (.ifCond .lt 15, 3) := by decide +kernel
theorem dX0_hasPiece_4 : decode cX0_hasPiece 4 = .ok (.iload_n 1, 1) := by decide +kernel
theorem dX0_hasPiece_5 : decode cX0_hasPiece 5 = .ok (.aload_n 0, 1) := by decide +kernel
theorem dX0_hasPiece_6 : decode cX0_hasPiece 6 = .ok (.getfield 37, 3) := by decide +kernel
theorem dX0_hasPiece_9 : decode cX0_hasPiece 9 = .ok (.if_icmp .ge 7, 3) := by decide +kernel
theorem dX0_hasPiece_12 : decode cX0_hasPiece 12 = .ok (.iconst 1, 1) := by decide +kernel
theorem dX0_hasPiece_13 : decode cX0_hasPiece 13 = .ok (.goto 4, 3) := by decide +kernel
theorem dX0_hasPiece_16 : decode cX0_hasPiece 16 = .ok (.iconst 0, 1) := by decide +kernel
theorem dX0_hasPiece_17 : decode cX0_hasPiece 17 = .ok (.ireturn, 1) := by decide +kernel
set_option maxRecDepth 20000 in
theorem ggX0_pieceAt_X0_isPlace : GoodIn wsX0_pieceAt wsX0_isPlace := goodIn_r _ [5] (by decide +kernel) (by decide +kernel)
set_option maxRecDepth 20000 in
theorem gX0_pieceAt_X0_isPlace : GoodIn wsX0_pieceAt (va_wsS RX0 40 yX0_isPlace wsX0_isPlace) := goodIn_app (goodIn_of _ (by decide +kernel)) ggX0_pieceAt_X0_isPlace
theorem dX0_pieceAt_0 : decode cX0_pieceAt 0 = .ok (.iload_n 1, 1) := by decide +kernel
theorem dX0_pieceAt_1 : decode cX0_pieceAt 1 = .ok (.iload_n 2, 1) := by decide +kernel
theorem dX0_pieceAt_2 : decode cX0_pieceAt 2 = .ok (.invokestatic 40, 3) := by decide +kernel
theorem dX0_pieceAt_5 : decode cX0_pieceAt 5 = .ok (.ifCond .eq 17, 3) := by decide +kernel
theorem dX0_pieceAt_8 : decode cX0_pieceAt 8 = .ok (.aload_n 0, 1) := by decide +kernel
theorem dX0_pieceAt_9 : decode cX0_pieceAt 9 = .ok (.getfield 15, 3) := by decide +kernel
theorem dX0_pieceAt_12 : decode cX0_pieceAt 12 = .ok (.bipush 16, 2) := by decide +kernel
theorem dX0_pieceAt_14 : decode cX0_pieceAt 14 = .ok (.iload_n 2, 1) := by decide +kernel
theorem dX0_pieceAt_15 : decode cX0_pieceAt 15 = .ok (.imul, 1) := by decide +kernel
theorem dX0_pieceAt_16 : decode cX0_pieceAt 16 = .ok (.iload_n 1, 1) := by decide +kernel
theorem dX0_pieceAt_17 : decode cX0_pieceAt 17 = .ok (.iadd, 1) := by decide +kernel
theorem dX0_pieceAt_18 : decode cX0_pieceAt 18 = .ok (.iaload, 1) := by decide +kernel
theorem dX0_pieceAt_19 : decode cX0_pieceAt 19 = .ok (.goto 4, 3) := by decide +kernel
theorem dX0_pieceAt_22 : decode cX0_pieceAt 22 = .ok (.iconst (-1), 1) := by decide +kernel
theorem dX0_pieceAt_23 : decode cX0_pieceAt 23 = .ok (.ireturn, 1) := by decide +kernel
set_option maxRecDepth 20000 in
theorem ggX0_tell_X0_numberPieces : GoodIn wsX0_tell wsX0_numberPieces := goodIn_r _ [7, 8, 9, 1, 10, 11, 12, 13, 14, 15, 16, 6, 17, 18, 19, 20, 21, 22, 23, 24, 25, 26, 27, 28, 29, 30, 31, 32, 33] (by decide +kernel) (by decide +kernel)
set_option maxRecDepth 20000 in
theorem gX0_tell_X0_numberPieces : GoodIn wsX0_tell (wsV RX0 44 RX0 yX0_numberPieces wsX0_numberPieces) := goodIn_app (goodIn_of _ (by decide +kernel)) ggX0_tell_X0_numberPieces
theorem dX0_tell_0 : decode cX0_tell 0 = .ok (.aload_n 0, 1) := by decide +kernel
theorem dX0_tell_1 : decode cX0_tell 1 = .ok (.getfield 11, 3) := by decide +kernel
theorem dX0_tell_4 : decode cX0_tell 4 = .ok (.bipush 16, 2) := by decide +kernel
theorem dX0_tell_6 : decode cX0_tell 6 = .ok (.iload_n 2, 1) := by decide +kernel
theorem dX0_tell_7 : decode cX0_tell 7 = .ok (.imul, 1) := by decide +kernel
theorem dX0_tell_8 : decode cX0_tell 8 = .ok (.iload_n 1, 1) := by decide +kernel
theorem dX0_tell_9 : decode cX0_tell 9 = .ok (.iadd, 1) := by decide +kernel
theorem dX0_tell_10 : decode cX0_tell 10 = .ok (.iload_n 3, 1) := by decide +kernel
theorem dX0_tell_11 : decode cX0_tell 11 = .ok (.iastore, 1) := by decide +kernel
theorem dX0_tell_12 : decode cX0_tell 12 = .ok (.aload_n 0, 1) := by decide +kernel
theorem dX0_tell_13 : decode cX0_tell 13 = .ok (.dup, 1) := by decide +kernel
theorem dX0_tell_14 : decode cX0_tell 14 = .ok (.getfield 34, 3) := by decide +kernel
theorem dX0_tell_17 : decode cX0_tell 17 = .ok (.iconst 1, 1) := by decide +kernel
theorem dX0_tell_18 : decode cX0_tell 18 = .ok (.iadd, 1) := by decide +kernel
theorem dX0_tell_19 : decode cX0_tell 19 = .ok (.putfield 34, 3) := by decide +kernel
theorem dX0_tell_22 : decode cX0_tell 22 = .ok (.iload_n 3, 1) := by decide +kernel
theorem dX0_tell_23 : decode cX0_tell 23 = .ok (.iconst (-1), 1) := by decide +kernel
theorem dX0_tell_24 : decode cX0_tell 24 = .ok (.if_icmp .eq 7, 3) := by decide +kernel
theorem dX0_tell_27 : decode cX0_tell 27 = .ok (.aload_n 0, 1) := by decide +kernel
theorem dX0_tell_28 : decode cX0_tell 28 = .ok (.invokevirtual 44, 3) := by decide +kernel
theorem dX0_tell_31 : decode cX0_tell 31 = .ok (.return_, 1) := by decide +kernel
set_option maxRecDepth 20000 in
theorem ggX0_numberPieces_J7_fill_53178 : GoodIn wsX0_numberPieces wsJ7_fill_53178 := goodIn_r _ [7] (by decide +kernel) (by decide +kernel)
set_option maxRecDepth 20000 in
theorem gX0_numberPieces_J7_fill_53178 : GoodIn wsX0_numberPieces (va_wsS RX0 24 yJ7_fill_53178 wsJ7_fill_53178) := goodIn_app (goodIn_of _ (by decide +kernel)) ggX0_numberPieces_J7_fill_53178
set_option maxRecDepth 20000 in
theorem ggX0_numberPieces_X0_joinFrom : GoodIn wsX0_numberPieces wsX0_joinFrom := goodIn_r _ [12, 13, 14, 15, 16, 17, 11, 18, 3, 1, 2, 19, 20, 21, 22, 23, 24, 25, 26, 27, 28] (by decide +kernel) (by decide +kernel)
set_option maxRecDepth 20000 in
theorem gX0_numberPieces_X0_joinFrom : GoodIn wsX0_numberPieces (wsV RX0 47 RX0 yX0_joinFrom wsX0_joinFrom) := goodIn_app (goodIn_of _ (by decide +kernel)) ggX0_numberPieces_X0_joinFrom
theorem dX0_numberPieces_0 : decode cX0_numberPieces 0 = .ok (.aload_n 0, 1) := by decide +kernel
theorem dX0_numberPieces_1 : decode cX0_numberPieces 1 = .ok (.getfield 15, 3) := by decide +kernel
theorem dX0_numberPieces_4 : decode cX0_numberPieces 4 = .ok (.iconst (-1), 1) := by decide +kernel
theorem dX0_numberPieces_5 : decode cX0_numberPieces 5 = .ok (.invokestatic 24, 3) := by decide +kernel
theorem dX0_numberPieces_8 : decode cX0_numberPieces 8 = .ok (.aload_n 0, 1) := by decide +kernel
theorem dX0_numberPieces_9 : decode cX0_numberPieces 9 = .ok (.iconst 0, 1) := by decide +kernel
theorem dX0_numberPieces_10 : decode cX0_numberPieces 10 = .ok (.putfield 37, 3) := by decide +kernel
theorem dX0_numberPieces_13 : decode cX0_numberPieces 13 = .ok (.iconst 0, 1) := by decide +kernel
theorem dX0_numberPieces_14 : decode cX0_numberPieces 14 = .ok (.istore_n 1, 1) := by decide +kernel
theorem dX0_numberPieces_15 : decode cX0_numberPieces 15 = .ok (.iload_n 1, 1) := by decide +kernel
theorem dX0_numberPieces_16 : decode cX0_numberPieces 16 = .ok (.sipush 256, 3) := by decide +kernel
theorem dX0_numberPieces_19 : decode cX0_numberPieces 19 = .ok (.if_icmp .ge 43, 3) := by decide +kernel
theorem dX0_numberPieces_22 : decode cX0_numberPieces 22 = .ok (.aload_n 0, 1) := by decide +kernel
theorem dX0_numberPieces_23 : decode cX0_numberPieces 23 = .ok (.getfield 11, 3) := by decide +kernel
theorem dX0_numberPieces_26 : decode cX0_numberPieces 26 = .ok (.iload_n 1, 1) := by decide +kernel
theorem dX0_numberPieces_27 : decode cX0_numberPieces 27 = .ok (.iaload, 1) := by decide +kernel
theorem dX0_numberPieces_28 : decode cX0_numberPieces 28 = .ok (.ifCond .lt 28, 3) := by decide +kernel
theorem dX0_numberPieces_31 : decode cX0_numberPieces 31 = .ok (.aload_n 0, 1) := by decide +kernel
theorem dX0_numberPieces_32 : decode cX0_numberPieces 32 = .ok (.getfield 15, 3) := by decide +kernel
theorem dX0_numberPieces_35 : decode cX0_numberPieces 35 = .ok (.iload_n 1, 1) := by decide +kernel
theorem dX0_numberPieces_36 : decode cX0_numberPieces 36 = .ok (.iaload, 1) := by decide +kernel
theorem dX0_numberPieces_37 : decode cX0_numberPieces 37 = .ok (.iconst (-1), 1) := by decide +kernel
theorem dX0_numberPieces_38 : decode cX0_numberPieces 38 = .ok (.if_icmp .ne 18, 3) := by decide +kernel
theorem dX0_numberPieces_41 : decode cX0_numberPieces 41 = .ok (.aload_n 0, 1) := by decide +kernel
theorem dX0_numberPieces_42 : decode cX0_numberPieces 42 = .ok (.iload_n 1, 1) := by decide +kernel
theorem dX0_numberPieces_43 : decode cX0_numberPieces 43 = .ok (.invokevirtual 47, 3) := by decide +kernel
theorem dX0_numberPieces_46 : decode cX0_numberPieces 46 = .ok (.aload_n 0, 1) := by decide +kernel
theorem dX0_numberPieces_47 : decode cX0_numberPieces 47 = .ok (.dup, 1) := by decide +kernel
theorem dX0_numberPieces_48 : decode cX0_numberPieces 48 = .ok (.getfield 37, 3) := by decide +kernel
theorem dX0_numberPieces_51 : decode cX0_numberPieces 51 = .ok (.iconst 1, 1) := by decide +kernel
theorem dX0_numberPieces_52 : decode cX0_numberPieces 52 = .ok (.iadd, 1) := by decide +kernel
theorem dX0_numberPieces_53 : decode cX0_numberPieces 53 = .ok (.putfield 37, 3) := by decide +kernel
theorem dX0_numberPieces_56 : decode cX0_numberPieces 56 = .ok (.iinc 1 1, 3) := by decide +kernel
theorem dX0_numberPieces_59 : decode cX0_numberPieces 59 = .ok (.goto (-44), 3) := by decide +kernel
theorem dX0_numberPieces_62 : decode cX0_numberPieces 62 = .ok (.return_, 1) := by decide +kernel
set_option maxRecDepth 20000 in
theorem ggX0_joinFrom_X0_join : GoodIn wsX0_joinFrom wsX0_join := goodIn_r _ [7, 1, 8, 9, 10, 2, 11, 12, 6, 13, 14, 15, 16, 17, 18, 19, 20] (by decide +kernel) (by decide +kernel)
set_option maxRecDepth 20000 in
theorem gX0_joinFrom_X0_join : GoodIn wsX0_joinFrom (wsV RX0 51 RX0 yX0_join wsX0_join) := goodIn_app (goodIn_of _ (by decide +kernel)) ggX0_joinFrom_X0_join
theorem dX0_joinFrom_0 : decode cX0_joinFrom 0 = .ok (.aload_n 0, 1) := by decide +kernel
theorem dX0_joinFrom_1 : decode cX0_joinFrom 1 = .ok (.iconst 0, 1) := by decide +kernel
theorem dX0_joinFrom_2 : decode cX0_joinFrom 2 = .ok (.putfield 30, 3) := by decide +kernel
theorem dX0_joinFrom_5 : decode cX0_joinFrom 5 = .ok (.aload_n 0, 1) := by decide +kernel
theorem dX0_joinFrom_6 : decode cX0_joinFrom 6 = .ok (.iload_n 1, 1) := by decide +kernel
theorem dX0_joinFrom_7 : decode cX0_joinFrom 7 = .ok (.bipush 16, 2) := by decide +kernel
theorem dX0_joinFrom_9 : decode cX0_joinFrom 9 = .ok (.irem, 1) := by decide +kernel
theorem dX0_joinFrom_10 : decode cX0_joinFrom 10 = .ok (.iload_n 1, 1) := by decide +kernel
theorem dX0_joinFrom_11 : decode cX0_joinFrom 11 = .ok (.bipush 16, 2) := by decide +kernel
theorem dX0_joinFrom_13 : decode cX0_joinFrom 13 = .ok (.idiv, 1) := by decide +kernel
theorem dX0_joinFrom_14 : decode cX0_joinFrom 14 = .ok (.invokevirtual 51, 3) := by decide +kernel
theorem dX0_joinFrom_17 : decode cX0_joinFrom 17 = .ok (.iconst 0, 1) := by decide +kernel
theorem dX0_joinFrom_18 : decode cX0_joinFrom 18 = .ok (.istore_n 2, 1) := by decide +kernel
theorem dX0_joinFrom_19 : decode cX0_joinFrom 19 = .ok (.iload_n 2, 1) := by decide +kernel
theorem dX0_joinFrom_20 : decode cX0_joinFrom 20 = .ok (.aload_n 0, 1) := by decide +kernel
theorem dX0_joinFrom_21 : decode cX0_joinFrom 21 = .ok (.getfield 30, 3) := by decide +kernel
theorem dX0_joinFrom_24 : decode cX0_joinFrom 24 = .ok (.if_icmp .ge 72, 3) := by decide +kernel
theorem dX0_joinFrom_27 : decode cX0_joinFrom 27 = .ok (.iload_n 2, 1) := by decide +kernel
theorem dX0_joinFrom_28 : decode cX0_joinFrom 28 = .ok (.bipush 100, 2) := by decide +kernel
theorem dX0_joinFrom_30 : decode cX0_joinFrom 30 = .ok (.if_icmp .ge 66, 3) := by decide +kernel
theorem dX0_joinFrom_33 : decode cX0_joinFrom 33 = .ok (.aload_n 0, 1) := by decide +kernel
theorem dX0_joinFrom_34 : decode cX0_joinFrom 34 = .ok (.getfield 18, 3) := by decide +kernel
theorem dX0_joinFrom_37 : decode cX0_joinFrom 37 = .ok (.iload_n 2, 1) := by decide +kernel
theorem dX0_joinFrom_38 : decode cX0_joinFrom 38 = .ok (.iaload, 1) := by decide +kernel
theorem dX0_joinFrom_39 : decode cX0_joinFrom 39 = .ok (.bipush 16, 2) := by decide +kernel
theorem dX0_joinFrom_41 : decode cX0_joinFrom 41 = .ok (.irem, 1) := by decide +kernel
theorem dX0_joinFrom_42 : decode cX0_joinFrom 42 = .ok (.istore_n 3, 1) := by decide +kernel
theorem dX0_joinFrom_43 : decode cX0_joinFrom 43 = .ok (.aload_n 0, 1) := by decide +kernel
theorem dX0_joinFrom_44 : decode cX0_joinFrom 44 = .ok (.getfield 18, 3) := by decide +kernel
theorem dX0_joinFrom_47 : decode cX0_joinFrom 47 = .ok (.iload_n 2, 1) := by decide +kernel
theorem dX0_joinFrom_48 : decode cX0_joinFrom 48 = .ok (.iaload, 1) := by decide +kernel
theorem dX0_joinFrom_49 : decode cX0_joinFrom 49 = .ok (.bipush 16, 2) := by decide +kernel
theorem dX0_joinFrom_51 : decode cX0_joinFrom 51 = .ok (.idiv, 1) := by decide +kernel
theorem dX0_joinFrom_52 : decode cX0_joinFrom 52 = .ok (.istore 4, 2) := by decide +kernel
theorem dX0_joinFrom_54 : decode cX0_joinFrom 54 = .ok (.aload_n 0, 1) := by decide +kernel
theorem dX0_joinFrom_55 : decode cX0_joinFrom 55 = .ok (.iload_n 3, 1) := by decide +kernel
theorem dX0_joinFrom_56 : decode cX0_joinFrom 56 = .ok (.iload 4, 2) := by decide +kernel
theorem dX0_joinFrom_58 : decode cX0_joinFrom 58 = .ok (.iconst 1, 1) := by decide +kernel
theorem dX0_joinFrom_59 : decode cX0_joinFrom 59 = .ok (.isub, 1) := by decide +kernel
theorem dX0_joinFrom_60 : decode cX0_joinFrom 60 = .ok (.invokevirtual 51, 3) := by decide +kernel
theorem dX0_joinFrom_63 : decode cX0_joinFrom 63 = .ok (.aload_n 0, 1) := by decide +kernel
theorem dX0_joinFrom_64 : decode cX0_joinFrom 64 = .ok (.iload_n 3, 1) := by decide +kernel
theorem dX0_joinFrom_65 : decode cX0_joinFrom 65 = .ok (.iconst 1, 1) := by decide +kernel
theorem dX0_joinFrom_66 : decode cX0_joinFrom 66 = .ok (.isub, 1) := by decide +kernel
theorem dX0_joinFrom_67 : decode cX0_joinFrom 67 = .ok (.iload 4, 2) := by decide +kernel
theorem dX0_joinFrom_69 : decode cX0_joinFrom 69 = .ok (.invokevirtual 51, 3) := by decide +kernel
theorem dX0_joinFrom_72 : decode cX0_joinFrom 72 = .ok (.aload_n 0, 1) := by decide +kernel
theorem dX0_joinFrom_73 : decode cX0_joinFrom 73 = .ok (.iload_n 3, 1) := by decide +kernel
theorem dX0_joinFrom_74 : decode cX0_joinFrom 74 = .ok (.iconst 1, 1) := by decide +kernel
theorem dX0_joinFrom_75 : decode cX0_joinFrom 75 = .ok (.iadd, 1) := by decide +kernel
theorem dX0_joinFrom_76 : decode cX0_joinFrom 76 = .ok (.iload 4, 2) := by decide +kernel
theorem dX0_joinFrom_78 : decode cX0_joinFrom 78 = .ok (.invokevirtual 51, 3) := by decide +kernel
theorem dX0_joinFrom_81 : decode cX0_joinFrom 81 = .ok (.aload_n 0, 1) := by decide +kernel
theorem dX0_joinFrom_82 : decode cX0_joinFrom 82 = .ok (.iload_n 3, 1) := by decide +kernel
theorem dX0_joinFrom_83 : decode cX0_joinFrom 83 = .ok (.iload 4, 2) := by decide +kernel
theorem dX0_joinFrom_85 : decode cX0_joinFrom 85 = .ok (.iconst 1, 1) := by decide +kernel
theorem dX0_joinFrom_86 : decode cX0_joinFrom 86 = .ok (.iadd, 1) := by decide +kernel
theorem dX0_joinFrom_87 : decode cX0_joinFrom 87 = .ok (.invokevirtual 51, 3) := by decide +kernel
theorem dX0_joinFrom_90 : decode cX0_joinFrom 90 = .ok (.iinc 2 1, 3) := by decide +kernel
theorem dX0_joinFrom_93 : decode cX0_joinFrom 93 = .ok (.goto (-74), 3) := by decide +kernel
theorem dX0_joinFrom_96 : decode cX0_joinFrom 96 = .ok (.return_, 1) := by decide +kernel
set_option maxRecDepth 20000 in
theorem ggX0_join_X0_isPlace : GoodIn wsX0_join wsX0_isPlace := goodIn_r _ [9] (by decide +kernel) (by decide +kernel)
set_option maxRecDepth 20000 in
theorem gX0_join_X0_isPlace : GoodIn wsX0_join (va_wsS RX0 40 yX0_isPlace wsX0_isPlace) := goodIn_app (goodIn_of _ (by decide +kernel)) ggX0_join_X0_isPlace
theorem dX0_join_0 : decode cX0_join 0 = .ok (.iload_n 1, 1) := by decide +kernel
theorem dX0_join_1 : decode cX0_join 1 = .ok (.iload_n 2, 1) := by decide +kernel
theorem dX0_join_2 : decode cX0_join 2 = .ok (.invokestatic 40, 3) := by decide +kernel
theorem dX0_join_5 : decode cX0_join 5 = .ok (.ifCond .eq 12, 3) := by decide +kernel
theorem dX0_join_8 : decode cX0_join 8 = .ok (.aload_n 0, 1) := by decide +kernel
theorem dX0_join_9 : decode cX0_join 9 = .ok (.getfield 30, 3) := by decide +kernel
theorem dX0_join_12 : decode cX0_join 12 = .ok (.bipush 100, 2) := by decide +kernel
theorem dX0_join_14 : decode cX0_join 14 = .ok (.if_icmp .lt 4, 3) := by decide +kernel
theorem dX0_join_17 : decode cX0_join 17 = .ok (.return_, 1) := by decide +kernel
theorem dX0_join_18 : decode cX0_join 18 = .ok (.bipush 16, 2) := by decide +kernel
theorem dX0_join_20 : decode cX0_join 20 = .ok (.iload_n 2, 1) := by decide +kernel
theorem dX0_join_21 : decode cX0_join 21 = .ok (.imul, 1) := by decide +kernel
theorem dX0_join_22 : decode cX0_join 22 = .ok (.iload_n 1, 1) := by decide +kernel
theorem dX0_join_23 : decode cX0_join 23 = .ok (.iadd, 1) := by decide +kernel
theorem dX0_join_24 : decode cX0_join 24 = .ok (.istore_n 3, 1) := by decide +kernel
theorem dX0_join_25 : decode cX0_join 25 = .ok (.aload_n 0, 1) := by decide +kernel
theorem dX0_join_26 : decode cX0_join 26 = .ok (.getfield 11, 3) := by decide +kernel
theorem dX0_join_29 : decode cX0_join 29 = .ok (.iload_n 3, 1) := by decide +kernel
theorem dX0_join_30 : decode cX0_join 30 = .ok (.iaload, 1) := by decide +kernel
theorem dX0_join_31 : decode cX0_join 31 = .ok (.ifCond .lt 43, 3) := by decide +kernel
theorem dX0_join_34 : decode cX0_join 34 = .ok (.aload_n 0, 1) := by decide +kernel
theorem dX0_join_35 : decode cX0_join 35 = .ok (.getfield 15, 3) := by decide +kernel
theorem dX0_join_38 : decode cX0_join 38 = .ok (.iload_n 3, 1) := by decide +kernel
theorem dX0_join_39 : decode cX0_join 39 = .ok (.iaload, 1) := by decide +kernel
theorem dX0_join_40 : decode cX0_join 40 = .ok (.iconst (-1), 1) := by decide +kernel
theorem dX0_join_41 : decode cX0_join 41 = .ok (.if_icmp .ne 33, 3) := by decide +kernel
theorem dX0_join_44 : decode cX0_join 44 = .ok (.aload_n 0, 1) := by decide +kernel
theorem dX0_join_45 : decode cX0_join 45 = .ok (.getfield 15, 3) := by decide +kernel
theorem dX0_join_48 : decode cX0_join 48 = .ok (.iload_n 3, 1) := by decide +kernel
theorem dX0_join_49 : decode cX0_join 49 = .ok (.aload_n 0, 1) := by decide +kernel
theorem dX0_join_50 : decode cX0_join 50 = .ok (.getfield 37, 3) := by decide +kernel
theorem dX0_join_53 : decode cX0_join 53 = .ok (.iastore, 1) := by decide +kernel
theorem dX0_join_54 : decode cX0_join 54 = .ok (.aload_n 0, 1) := by decide +kernel
theorem dX0_join_55 : decode cX0_join 55 = .ok (.getfield 18, 3) := by decide +kernel
theorem dX0_join_58 : decode cX0_join 58 = .ok (.aload_n 0, 1) := by decide +kernel
theorem dX0_join_59 : decode cX0_join 59 = .ok (.getfield 30, 3) := by decide +kernel
theorem dX0_join_62 : decode cX0_join 62 = .ok (.iload_n 3, 1) := by decide +kernel
theorem dX0_join_63 : decode cX0_join 63 = .ok (.iastore, 1) := by decide +kernel
theorem dX0_join_64 : decode cX0_join 64 = .ok (.aload_n 0, 1) := by decide +kernel
theorem dX0_join_65 : decode cX0_join 65 = .ok (.dup, 1) := by decide +kernel
theorem dX0_join_66 : decode cX0_join 66 = .ok (.getfield 30, 3) := by decide +kernel
theorem dX0_join_69 : decode cX0_join 69 = .ok (.iconst 1, 1) := by decide +kernel
theorem dX0_join_70 : decode cX0_join 70 = .ok (.iadd, 1) := by decide +kernel
theorem dX0_join_71 : decode cX0_join 71 = .ok (.putfield 30, 3) := by decide +kernel
theorem dX0_join_74 : decode cX0_join 74 = .ok (.return_, 1) := by decide +kernel
theorem dX0_countIn_0 : decode cX0_countIn 0 = .ok (.iconst 0, 1) := by decide +kernel
theorem dX0_countIn_1 : decode cX0_countIn 1 = .ok (.istore_n 3, 1) := by decide +kernel
theorem dX0_countIn_2 : decode cX0_countIn 2 = .ok (.iconst 0, 1) := by decide +kernel
theorem dX0_countIn_3 : decode cX0_countIn 3 = .ok (.istore 4, 2) := by decide +kernel
theorem dX0_countIn_5 : decode cX0_countIn 5 = .ok (.iload 4, 2) := by decide +kernel
theorem dX0_countIn_7 : decode cX0_countIn 7 = .ok (.sipush 256, 3) := by decide +kernel
theorem dX0_countIn_10 : decode cX0_countIn 10 = .ok (.if_icmp .ge 34, 3) := by decide +kernel
theorem dX0_countIn_13 : decode cX0_countIn 13 = .ok (.aload_n 0, 1) := by decide +kernel
theorem dX0_countIn_14 : decode cX0_countIn 14 = .ok (.getfield 15, 3) := by decide +kernel
theorem dX0_countIn_17 : decode cX0_countIn 17 = .ok (.iload 4, 2) := by decide +kernel
theorem dX0_countIn_19 : decode cX0_countIn 19 = .ok (.iaload, 1) := by decide +kernel
theorem dX0_countIn_20 : decode cX0_countIn 20 = .ok (.iload_n 1, 1) := by decide +kernel
theorem dX0_countIn_21 : decode cX0_countIn 21 = .ok (.if_icmp .ne 17, 3) := by decide +kernel
theorem dX0_countIn_24 : decode cX0_countIn 24 = .ok (.aload_n 0, 1) := by decide +kernel
theorem dX0_countIn_25 : decode cX0_countIn 25 = .ok (.getfield 11, 3) := by decide +kernel
theorem dX0_countIn_28 : decode cX0_countIn 28 = .ok (.iload 4, 2) := by decide +kernel
theorem dX0_countIn_30 : decode cX0_countIn 30 = .ok (.iaload, 1) := by decide +kernel
theorem dX0_countIn_31 : decode cX0_countIn 31 = .ok (.iload_n 2, 1) := by decide +kernel
theorem dX0_countIn_32 : decode cX0_countIn 32 = .ok (.if_icmp .ne 6, 3) := by decide +kernel
theorem dX0_countIn_35 : decode cX0_countIn 35 = .ok (.iinc 3 1, 3) := by decide +kernel
theorem dX0_countIn_38 : decode cX0_countIn 38 = .ok (.iinc 4 1, 3) := by decide +kernel
theorem dX0_countIn_41 : decode cX0_countIn 41 = .ok (.goto (-36), 3) := by decide +kernel
theorem dX0_countIn_44 : decode cX0_countIn 44 = .ok (.iload_n 3, 1) := by decide +kernel
theorem dX0_countIn_45 : decode cX0_countIn 45 = .ok (.ireturn, 1) := by decide +kernel
set_option maxRecDepth 20000 in
theorem ggX0_countNeighbours_J7_fill_53178 : GoodIn wsX0_countNeighbours wsJ7_fill_53178 := goodIn_r _ [6] (by decide +kernel) (by decide +kernel)
set_option maxRecDepth 20000 in
theorem gX0_countNeighbours_J7_fill_53178 : GoodIn wsX0_countNeighbours (va_wsS RX0 24 yJ7_fill_53178 wsJ7_fill_53178) := goodIn_app (goodIn_of _ (by decide +kernel)) ggX0_countNeighbours_J7_fill_53178
set_option maxRecDepth 20000 in
theorem ggX0_countNeighbours_X0_meetRound : GoodIn wsX0_countNeighbours wsX0_meetRound := goodIn_r _ [11, 1, 12, 13, 14, 10, 15, 2, 16, 17, 18, 19, 20, 21, 22, 23, 24, 25] (by decide +kernel) (by decide +kernel)
set_option maxRecDepth 20000 in
theorem gX0_countNeighbours_X0_meetRound : GoodIn wsX0_countNeighbours (wsV RX0 55 RX0 yX0_meetRound wsX0_meetRound) := goodIn_app (goodIn_of _ (by decide +kernel)) ggX0_countNeighbours_X0_meetRound
theorem dX0_countNeighbours_0 : decode cX0_countNeighbours 0 = .ok (.aload_n 0, 1) := by decide +kernel
theorem dX0_countNeighbours_1 : decode cX0_countNeighbours 1 = .ok (.getfield 21, 3) := by decide +kernel
theorem dX0_countNeighbours_4 : decode cX0_countNeighbours 4 = .ok (.iconst 0, 1) := by decide +kernel
theorem dX0_countNeighbours_5 : decode cX0_countNeighbours 5 = .ok (.invokestatic 24, 3) := by decide +kernel
theorem dX0_countNeighbours_8 : decode cX0_countNeighbours 8 = .ok (.iconst 0, 1) := by decide +kernel
theorem dX0_countNeighbours_9 : decode cX0_countNeighbours 9 = .ok (.istore_n 2, 1) := by decide +kernel
theorem dX0_countNeighbours_10 : decode cX0_countNeighbours 10 = .ok (.iload_n 2, 1) := by decide +kernel
theorem dX0_countNeighbours_11 : decode cX0_countNeighbours 11 = .ok (.sipush 256, 3) := by decide +kernel
theorem dX0_countNeighbours_14 : decode cX0_countNeighbours 14 = .ok (.if_icmp .ge 31, 3) := by decide +kernel
theorem dX0_countNeighbours_17 : decode cX0_countNeighbours 17 = .ok (.aload_n 0, 1) := by decide +kernel
theorem dX0_countNeighbours_18 : decode cX0_countNeighbours 18 = .ok (.getfield 15, 3) := by decide +kernel
theorem dX0_countNeighbours_21 : decode cX0_countNeighbours 21 = .ok (.iload_n 2, 1) := by decide +kernel
theorem dX0_countNeighbours_22 : decode cX0_countNeighbours 22 = .ok (.iaload, 1) := by decide +kernel
theorem dX0_countNeighbours_23 : decode cX0_countNeighbours 23 = .ok (.iload_n 1, 1) := by decide +kernel
theorem dX0_countNeighbours_24 : decode cX0_countNeighbours 24 = .ok (.if_icmp .ne 15, 3) := by decide +kernel
theorem dX0_countNeighbours_27 : decode cX0_countNeighbours 27 = .ok (.aload_n 0, 1) := by decide +kernel
theorem dX0_countNeighbours_28 : decode cX0_countNeighbours 28 = .ok (.iload_n 2, 1) := by decide +kernel
theorem dX0_countNeighbours_29 : decode cX0_countNeighbours 29 = .ok (.bipush 16, 2) := by decide +kernel
theorem dX0_countNeighbours_31 : decode cX0_countNeighbours 31 = .ok (.irem, 1) := by decide +kernel
theorem dX0_countNeighbours_32 : decode cX0_countNeighbours 32 = .ok (.iload_n 2, 1) := by decide +kernel
theorem dX0_countNeighbours_33 : decode cX0_countNeighbours 33 = .ok (.bipush 16, 2) := by decide +kernel
theorem dX0_countNeighbours_35 : decode cX0_countNeighbours 35 = .ok (.idiv, 1) := by decide +kernel
theorem dX0_countNeighbours_36 : decode cX0_countNeighbours 36 = .ok (.invokevirtual 55, 3) := by decide +kernel
theorem dX0_countNeighbours_39 : decode cX0_countNeighbours 39 = .ok (.iinc 2 1, 3) := by decide +kernel
theorem dX0_countNeighbours_42 : decode cX0_countNeighbours 42 = .ok (.goto (-32), 3) := by decide +kernel
theorem dX0_countNeighbours_45 : decode cX0_countNeighbours 45 = .ok (.iconst 0, 1) := by decide +kernel
theorem dX0_countNeighbours_46 : decode cX0_countNeighbours 46 = .ok (.istore_n 2, 1) := by decide +kernel
theorem dX0_countNeighbours_47 : decode cX0_countNeighbours 47 = .ok (.iconst 0, 1) := by decide +kernel
theorem dX0_countNeighbours_48 : decode cX0_countNeighbours 48 = .ok (.istore_n 3, 1) := by decide +kernel
theorem dX0_countNeighbours_49 : decode cX0_countNeighbours 49 = .ok (.iload_n 3, 1) := by decide +kernel
theorem dX0_countNeighbours_50 : decode cX0_countNeighbours 50 = .ok (.bipush 100, 2) := by decide +kernel
theorem dX0_countNeighbours_52 : decode cX0_countNeighbours 52 = .ok (.if_icmp .ge 27, 3) := by decide +kernel
theorem dX0_countNeighbours_55 : decode cX0_countNeighbours 55 = .ok (.iload_n 2, 1) := by decide +kernel
theorem dX0_countNeighbours_56 : decode cX0_countNeighbours 56 = .ok (.iload_n 3, 1) := by decide +kernel
theorem dX0_countNeighbours_57 : decode cX0_countNeighbours 57 = .ok (.iload_n 1, 1) := by decide +kernel
theorem dX0_countNeighbours_58 : decode cX0_countNeighbours 58 = .ok (.if_icmp .ne 7, 3) := by decide +kernel
theorem dX0_countNeighbours_61 : decode cX0_countNeighbours 61 = .ok (.iconst 0, 1) := by decide +kernel
theorem dX0_countNeighbours_62 : decode cX0_countNeighbours 62 = .ok (.goto 9, 3) := by decide +kernel
theorem dX0_countNeighbours_65 : decode cX0_countNeighbours 65 = .ok (.aload_n 0, 1) := by decide +kernel
theorem dX0_countNeighbours_66 : decode cX0_countNeighbours 66 = .ok (.getfield 21, 3) := by decide +kernel
theorem dX0_countNeighbours_69 : decode cX0_countNeighbours 69 = .ok (.iload_n 3, 1) := by decide +kernel
theorem dX0_countNeighbours_70 : decode cX0_countNeighbours 70 = .ok (.iaload, 1) := by decide +kernel
theorem dX0_countNeighbours_71 : decode cX0_countNeighbours 71 = .ok (.iadd, 1) := by decide +kernel
theorem dX0_countNeighbours_72 : decode cX0_countNeighbours 72 = .ok (.istore_n 2, 1) := by decide +kernel
theorem dX0_countNeighbours_73 : decode cX0_countNeighbours 73 = .ok (.iinc 3 1, 3) := by decide +kernel
theorem dX0_countNeighbours_76 : decode cX0_countNeighbours 76 = .ok (.goto (-27), 3) := by decide +kernel
theorem dX0_countNeighbours_79 : decode cX0_countNeighbours 79 = .ok (.iload_n 2, 1) := by decide +kernel
theorem dX0_countNeighbours_80 : decode cX0_countNeighbours 80 = .ok (.ireturn, 1) := by decide +kernel
set_option maxRecDepth 20000 in
theorem ggX0_meetRound_X0_pieceAt : GoodIn wsX0_meetRound wsX0_pieceAt := goodIn_r _ [6, 7, 8, 9, 5, 10, 11, 12, 13, 14, 15, 16, 17] (by decide +kernel) (by decide +kernel)
set_option maxRecDepth 20000 in
theorem gX0_meetRound_X0_pieceAt : GoodIn wsX0_meetRound (wsV RX0 58 RX0 yX0_pieceAt wsX0_pieceAt) := goodIn_app (goodIn_of _ (by decide +kernel)) ggX0_meetRound_X0_pieceAt
theorem dX0_meetRound_0 : decode cX0_meetRound 0 = .ok (.iconst (-1), 1) := by decide +kernel
theorem dX0_meetRound_1 : decode cX0_meetRound 1 = .ok (.istore_n 3, 1) := by decide +kernel
theorem dX0_meetRound_2 : decode cX0_meetRound 2 = .ok (.iload_n 3, 1) := by decide +kernel
theorem dX0_meetRound_3 : decode cX0_meetRound 3 = .ok (.iconst 1, 1) := by decide +kernel
theorem dX0_meetRound_4 : decode cX0_meetRound 4 = .ok (.if_icmp .gt 57, 3) := by decide +kernel
theorem dX0_meetRound_7 : decode cX0_meetRound 7 = .ok (.iconst (-1), 1) := by decide +kernel
theorem dX0_meetRound_8 : decode cX0_meetRound 8 = .ok (.istore 4, 2) := by decide +kernel
theorem dX0_meetRound_10 : decode cX0_meetRound 10 = .ok (.iload 4, 2) := by decide +kernel
theorem dX0_meetRound_12 : decode cX0_meetRound 12 = .ok (.iconst 1, 1) := by decide +kernel
theorem dX0_meetRound_13 : decode cX0_meetRound 13 = .ok (.if_icmp .gt 42, 3) := by decide +kernel
theorem dX0_meetRound_16 : decode cX0_meetRound 16 = .ok (.aload_n 0, 1) := by decide +kernel
theorem dX0_meetRound_17 : decode cX0_meetRound 17 = .ok (.iload_n 1, 1) := by decide +kernel
theorem dX0_meetRound_18 : decode cX0_meetRound 18 = .ok (.iload 4, 2) := by decide +kernel
theorem dX0_meetRound_20 : decode cX0_meetRound 20 = .ok (.iadd, 1) := by decide +kernel
theorem dX0_meetRound_21 : decode cX0_meetRound 21 = .ok (.iload_n 2, 1) := by decide +kernel
theorem dX0_meetRound_22 : decode cX0_meetRound 22 = .ok (.iload_n 3, 1) := by decide +kernel
theorem dX0_meetRound_23 : decode cX0_meetRound 23 = .ok (.iadd, 1) := by decide +kernel
theorem dX0_meetRound_24 : decode cX0_meetRound 24 = .ok (.invokevirtual 58, 3) := by decide +kernel
theorem dX0_meetRound_27 : decode cX0_meetRound 27 = .ok (.istore 5, 2) := by decide +kernel
theorem dX0_meetRound_29 : decode cX0_meetRound 29 = .ok (.iload 5, 2) := by decide +kernel
theorem dX0_meetRound_31 : decode cX0_meetRound 31 = .ok (.ifCond .lt 18, 3) := by decide +kernel
theorem dX0_meetRound_34 : decode cX0_meetRound 34 = .ok (.iload 5, 2) := by decide +kernel
theorem dX0_meetRound_36 : decode cX0_meetRound 36 = .ok (.bipush 100, 2) := by decide +kernel
theorem dX0_meetRound_38 : decode cX0_meetRound 38 = .ok (.if_icmp .ge 11, 3) := by decide +kernel
theorem dX0_meetRound_41 : decode cX0_meetRound 41 = .ok (.aload_n 0, 1) := by decide +kernel
theorem dX0_meetRound_42 : decode cX0_meetRound 42 = .ok (.getfield 21, 3) := by decide +kernel
theorem dX0_meetRound_45 : decode cX0_meetRound 45 = .ok (.iload 5, 2) := by decide +kernel
theorem dX0_meetRound_47 : decode cX0_meetRound 47 = .ok (.iconst 1, 1) := by decide +kernel
theorem dX0_meetRound_48 : decode cX0_meetRound 48 = .ok (.iastore, 1) := by decide +kernel
theorem dX0_meetRound_49 : decode cX0_meetRound 49 = .ok (.iinc 4 1, 3) := by decide +kernel
theorem dX0_meetRound_52 : decode cX0_meetRound 52 = .ok (.goto (-42), 3) := by decide +kernel
theorem dX0_meetRound_55 : decode cX0_meetRound 55 = .ok (.iinc 3 1, 3) := by decide +kernel
theorem dX0_meetRound_58 : decode cX0_meetRound 58 = .ok (.goto (-56), 3) := by decide +kernel
theorem dX0_meetRound_61 : decode cX0_meetRound 61 = .ok (.return_, 1) := by decide +kernel
set_option maxRecDepth 20000 in
theorem ggX1_init_J7_fill_53178 : GoodIn wsX1_init wsJ7_fill_53178 := goodIn_r _ [12] (by decide +kernel) (by decide +kernel)
set_option maxRecDepth 20000 in
theorem gX1_init_J7_fill_53178 : GoodIn wsX1_init (va_wsS RX1 21 yJ7_fill_53178 wsJ7_fill_53178) := goodIn_app (goodIn_of _ (by decide +kernel)) ggX1_init_J7_fill_53178
theorem dX1_init_0 : decode cX1_init 0 = .ok (.aload_n 0, 1) := by decide +kernel
theorem dX1_init_1 : decode cX1_init 1 = .ok (.invokespecial 3, 3) := by decide +kernel
theorem dX1_init_4 : decode cX1_init 4 = .ok (.aload_n 0, 1) := by decide +kernel
theorem dX1_init_5 : decode cX1_init 5 = .ok (.bipush 8, 2) := by decide +kernel
theorem dX1_init_7 : decode cX1_init 7 = .ok (.newarray .int, 2) := by decide +kernel
theorem dX1_init_9 : decode cX1_init 9 = .ok (.putfield 9, 3) := by decide +kernel
theorem dX1_init_12 : decode cX1_init 12 = .ok (.aload_n 0, 1) := by decide +kernel
theorem dX1_init_13 : decode cX1_init 13 = .ok (.bipush 8, 2) := by decide +kernel
theorem dX1_init_15 : decode cX1_init 15 = .ok (.newarray .int, 2) := by decide +kernel
theorem dX1_init_17 : decode cX1_init 17 = .ok (.putfield 15, 3) := by decide +kernel
theorem dX1_init_20 : decode cX1_init 20 = .ok (.aload_n 0, 1) := by decide +kernel
theorem dX1_init_21 : decode cX1_init 21 = .ok (.bipush 8, 2) := by decide +kernel
theorem dX1_init_23 : decode cX1_init 23 = .ok (.newarray .int, 2) := by decide +kernel
theorem dX1_init_25 : decode cX1_init 25 = .ok (.putfield 18, 3) := by decide +kernel
theorem dX1_init_28 : decode cX1_init 28 = .ok (.aload_n 0, 1) := by decide +kernel
theorem dX1_init_29 : decode cX1_init 29 = .ok (.getfield 15, 3) := by decide +kernel
theorem dX1_init_32 : decode cX1_init 32 = .ok (.sipush 255, 3) := by decide +kernel
theorem dX1_init_35 : decode cX1_init 35 = .ok (.invokestatic 21, 3) := by decide +kernel
theorem dX1_init_38 : decode cX1_init 38 = .ok (.aload_n 0, 1) := by decide +kernel
theorem dX1_init_39 : decode cX1_init 39 = .ok (.lconst 0, 1) := by decide +kernel
theorem dX1_init_40 : decode cX1_init 40 = .ok (.putfield 27, 3) := by decide +kernel
theorem dX1_init_43 : decode cX1_init 43 = .ok (.return_, 1) := by decide +kernel
theorem dX1_setWhite_0 : decode cX1_setWhite 0 = .ok (.aload_n 0, 1) := by decide +kernel
theorem dX1_setWhite_1 : decode cX1_setWhite 1 = .ok (.getfield 15, 3) := by decide +kernel
theorem dX1_setWhite_4 : decode cX1_setWhite 4 = .ok (.iload_n 1, 1) := by decide +kernel
theorem dX1_setWhite_5 : decode cX1_setWhite 5 = .ok (.iload_n 2, 1) := by decide +kernel
theorem dX1_setWhite_6 : decode cX1_setWhite 6 = .ok (.iastore, 1) := by decide +kernel
theorem dX1_setWhite_7 : decode cX1_setWhite 7 = .ok (.iconst 1, 1) := by decide +kernel
theorem dX1_setWhite_8 : decode cX1_setWhite 8 = .ok (.ireturn, 1) := by decide +kernel
theorem dX1_setDark_0 : decode cX1_setDark 0 = .ok (.aload_n 0, 1) := by decide +kernel
theorem dX1_setDark_1 : decode cX1_setDark 1 = .ok (.getfield 9, 3) := by decide +kernel
theorem dX1_setDark_4 : decode cX1_setDark 4 = .ok (.iload_n 1, 1) := by decide +kernel
theorem dX1_setDark_5 : decode cX1_setDark 5 = .ok (.iload_n 2, 1) := by decide +kernel
theorem dX1_setDark_6 : decode cX1_setDark 6 = .ok (.iastore, 1) := by decide +kernel
theorem dX1_setDark_7 : decode cX1_setDark 7 = .ok (.iconst 1, 1) := by decide +kernel
theorem dX1_setDark_8 : decode cX1_setDark 8 = .ok (.ireturn, 1) := by decide +kernel
theorem dX1_setValue_0 : decode cX1_setValue 0 = .ok (.aload_n 0, 1) := by decide +kernel
theorem dX1_setValue_1 : decode cX1_setValue 1 = .ok (.getfield 18, 3) := by decide +kernel
theorem dX1_setValue_4 : decode cX1_setValue 4 = .ok (.iload_n 1, 1) := by decide +kernel
theorem dX1_setValue_5 : decode cX1_setValue 5 = .ok (.iload_n 2, 1) := by decide +kernel
theorem dX1_setValue_6 : decode cX1_setValue 6 = .ok (.iastore, 1) := by decide +kernel
theorem dX1_setValue_7 : decode cX1_setValue 7 = .ok (.iconst 1, 1) := by decide +kernel
theorem dX1_setValue_8 : decode cX1_setValue 8 = .ok (.ireturn, 1) := by decide +kernel
set_option maxRecDepth 20000 in
theorem ggX1_setWhiteAt_X1_setWhite : GoodIn wsX1_setWhiteAt wsX1_setWhite := goodIn_r _ [6, 7, 8, 9, 10, 11] (by decide +kernel) (by decide +kernel)
set_option maxRecDepth 20000 in
theorem gX1_setWhiteAt_X1_setWhite : GoodIn wsX1_setWhiteAt (wsV RX1 31 RX1 yX1_setWhite wsX1_setWhite) := goodIn_app (goodIn_of _ (by decide +kernel)) ggX1_setWhiteAt_X1_setWhite
theorem dX1_setWhiteAt_0 : decode cX1_setWhiteAt 0 = .ok (.lload_n 3, 1) := by decide +kernel
theorem dX1_setWhiteAt_1 : decode cX1_setWhiteAt 1 = .ok (.aload_n 0, 1) := by decide +kernel
theorem dX1_setWhiteAt_2 : decode cX1_setWhiteAt 2 = .ok (.getfield 27, 3) := by decide +kernel
theorem dX1_setWhiteAt_5 : decode cX1_setWhiteAt 5 = .ok (.lcmp, 1) := by decide +kernel
theorem dX1_setWhiteAt_6 : decode cX1_setWhiteAt 6 = .ok (.ifCond .gt 5, 3) := by decide +kernel
theorem dX1_setWhiteAt_9 : decode cX1_setWhiteAt 9 = .ok (.iconst 0, 1) := by decide +kernel
theorem dX1_setWhiteAt_10 : decode cX1_setWhiteAt 10 = .ok (.ireturn, 1) := by decide +kernel
theorem dX1_setWhiteAt_11 : decode cX1_setWhiteAt 11 = .ok (.aload_n 0, 1) := by decide +kernel
theorem dX1_setWhiteAt_12 : decode cX1_setWhiteAt 12 = .ok (.lload_n 3, 1) := by decide +kernel
theorem dX1_setWhiteAt_13 : decode cX1_setWhiteAt 13 = .ok (.putfield 27, 3) := by decide +kernel
theorem dX1_setWhiteAt_16 : decode cX1_setWhiteAt 16 = .ok (.aload_n 0, 1) := by decide +kernel
theorem dX1_setWhiteAt_17 : decode cX1_setWhiteAt 17 = .ok (.iload_n 1, 1) := by decide +kernel
theorem dX1_setWhiteAt_18 : decode cX1_setWhiteAt 18 = .ok (.iload_n 2, 1) := by decide +kernel
theorem dX1_setWhiteAt_19 : decode cX1_setWhiteAt 19 = .ok (.invokevirtual 31, 3) := by decide +kernel
theorem dX1_setWhiteAt_22 : decode cX1_setWhiteAt 22 = .ok (.ireturn, 1) := by decide +kernel
set_option maxRecDepth 20000 in
theorem ggX1_fillRow_X1_evened : GoodIn wsX1_fillRow wsX1_evened := goodIn_r _ [5, 6, 7, 8, 9, 10, 11, 12, 13, 14, 15, 16] (by decide +kernel) (by decide +kernel)
set_option maxRecDepth 20000 in
theorem gX1_fillRow_X1_evened : GoodIn wsX1_fillRow (wsV RX1 35 RX1 yX1_evened wsX1_evened) := goodIn_app (goodIn_of _ (by decide +kernel)) ggX1_fillRow_X1_evened
theorem dX1_fillRow_0 : decode cX1_fillRow 0 = .ok (.iconst 0, 1) := by decide +kernel
theorem dX1_fillRow_1 : decode cX1_fillRow 1 = .ok (.istore_n 2, 1) := by decide +kernel
theorem dX1_fillRow_2 : decode cX1_fillRow 2 = .ok (.iload_n 2, 1) := by decide +kernel
theorem dX1_fillRow_3 : decode cX1_fillRow 3 = .ok (.bipush 8, 2) := by decide +kernel
theorem dX1_fillRow_5 : decode cX1_fillRow 5 = .ok (.if_icmp .ge 17, 3) := by decide +kernel
theorem dX1_fillRow_8 : decode cX1_fillRow 8 = .ok (.aload_n 1, 1) := by decide +kernel
theorem dX1_fillRow_9 : decode cX1_fillRow 9 = .ok (.iload_n 2, 1) := by decide +kernel
theorem dX1_fillRow_10 : decode cX1_fillRow 10 = .ok (.aload_n 0, 1) := by decide +kernel
theorem dX1_fillRow_11 : decode cX1_fillRow 11 = .ok (.iload_n 2, 1) := by decide +kernel
theorem dX1_fillRow_12 : decode cX1_fillRow 12 = .ok (.invokevirtual 35, 3) := by decide +kernel
theorem dX1_fillRow_15 : decode cX1_fillRow 15 = .ok (.iastore, 1) := by decide +kernel
theorem dX1_fillRow_16 : decode cX1_fillRow 16 = .ok (.iinc 2 1, 3) := by decide +kernel
theorem dX1_fillRow_19 : decode cX1_fillRow 19 = .ok (.goto (-17), 3) := by decide +kernel
theorem dX1_fillRow_22 : decode cX1_fillRow 22 = .ok (.return_, 1) := by decide +kernel
theorem dX1_evened_0 : decode cX1_evened 0 = .ok (.aload_n 0, 1) := by decide +kernel
theorem dX1_evened_1 : decode cX1_evened 1 = .ok (.getfield 15, 3) := by decide +kernel
theorem dX1_evened_4 : decode cX1_evened 4 = .ok (.iload_n 1, 1) := by decide +kernel
theorem dX1_evened_5 : decode cX1_evened 5 = .ok (.iaload, 1) := by decide +kernel
theorem dX1_evened_6 : decode cX1_evened 6 = .ok (.aload_n 0, 1) := by decide +kernel
theorem dX1_evened_7 : decode cX1_evened 7 = .ok (.getfield 9, 3) := by decide +kernel
theorem dX1_evened_10 : decode cX1_evened 10 = .ok (.iload_n 1, 1) := by decide +kernel
theorem dX1_evened_11 : decode cX1_evened 11 = .ok (.iaload, 1) := by decide +kernel
theorem dX1_evened_12 : decode cX1_evened 12 = .ok (.isub, 1) := by decide +kernel
theorem dX1_evened_13 : decode cX1_evened 13 = .ok (.istore_n 2, 1) := by decide +kernel
theorem dX1_evened_14 : decode cX1_evened 14 = .ok (.aload_n 0, 1) := by decide +kernel
theorem dX1_evened_15 : decode cX1_evened 15 = .ok (.getfield 18, 3) := by decide +kernel
theorem dX1_evened_18 : decode cX1_evened 18 = .ok (.iload_n 1, 1) := by decide +kernel
theorem dX1_evened_19 : decode cX1_evened 19 = .ok (.iaload, 1) := by decide +kernel
theorem dX1_evened_20 : decode cX1_evened 20 = .ok (.aload_n 0, 1) := by decide +kernel
theorem dX1_evened_21 : decode cX1_evened 21 = .ok (.getfield 9, 3) := by decide +kernel
theorem dX1_evened_24 : decode cX1_evened 24 = .ok (.iload_n 1, 1) := by decide +kernel
theorem dX1_evened_25 : decode cX1_evened 25 = .ok (.iaload, 1) := by decide +kernel
theorem dX1_evened_26 : decode cX1_evened 26 = .ok (.isub, 1) := by decide +kernel
theorem dX1_evened_27 : decode cX1_evened 27 = .ok (.istore_n 3, 1) := by decide +kernel
theorem dX1_evened_28 : decode cX1_evened 28 = .ok (.iload_n 2, 1) := by decide +kernel
theorem dX1_evened_29 : decode cX1_evened 29 = .ok (.ifCond .le 7, 3) := by decide +kernel
theorem dX1_evened_32 : decode cX1_evened 32 = .ok (.iload_n 3, 1) := by decide +kernel
theorem dX1_evened_33 : decode cX1_evened 33 = .ok (.ifCond .gt 5, 3) := by decide +kernel
theorem dX1_evened_36 : decode cX1_evened 36 = .ok (.iconst 0, 1) := by decide +kernel
theorem dX1_evened_37 : decode cX1_evened 37 = .ok (.ireturn, 1) := by decide +kernel
theorem dX1_evened_38 : decode cX1_evened 38 = .ok (.sipush 255, 3) := by decide +kernel
theorem dX1_evened_41 : decode cX1_evened 41 = .ok (.sipush 256, 3) := by decide +kernel
theorem dX1_evened_44 : decode cX1_evened 44 = .ok (.iload_n 3, 1) := by decide +kernel
theorem dX1_evened_45 : decode cX1_evened 45 = .ok (.imul, 1) := by decide +kernel
theorem dX1_evened_46 : decode cX1_evened 46 = .ok (.iload_n 2, 1) := by decide +kernel
theorem dX1_evened_47 : decode cX1_evened 47 = .ok (.idiv, 1) := by decide +kernel
theorem dX1_evened_48 : decode cX1_evened 48 = .ok (.invokestatic 39, 3) := by decide +kernel
theorem dX1_evened_51 : decode cX1_evened 51 = .ok (.ireturn, 1) := by decide +kernel
theorem dX2_init_0 : decode cX2_init 0 = .ok (.aload_n 0, 1) := by decide +kernel
theorem dX2_init_1 : decode cX2_init 1 = .ok (.invokespecial 3, 3) := by decide +kernel
theorem dX2_init_4 : decode cX2_init 4 = .ok (.aload_n 0, 1) := by decide +kernel
theorem dX2_init_5 : decode cX2_init 5 = .ok (.bipush 40, 2) := by decide +kernel
theorem dX2_init_7 : decode cX2_init 7 = .ok (.newarray .int, 2) := by decide +kernel
theorem dX2_init_9 : decode cX2_init 9 = .ok (.putfield 9, 3) := by decide +kernel
theorem dX2_init_12 : decode cX2_init 12 = .ok (.aload_n 0, 1) := by decide +kernel
theorem dX2_init_13 : decode cX2_init 13 = .ok (.bipush 40, 2) := by decide +kernel
theorem dX2_init_15 : decode cX2_init 15 = .ok (.bipush 8, 2) := by decide +kernel
theorem dX2_init_17 : decode cX2_init 17 = .ok (.multianewarray 15 2, 4) := by decide +kernel
theorem dX2_init_21 : decode cX2_init 21 = .ok (.putfield 17, 3) := by decide +kernel
theorem dX2_init_24 : decode cX2_init 24 = .ok (.aload_n 0, 1) := by decide +kernel
theorem dX2_init_25 : decode cX2_init 25 = .ok (.bipush 40, 2) := by decide +kernel
theorem dX2_init_27 : decode cX2_init 27 = .ok (.bipush 7, 2) := by decide +kernel
theorem dX2_init_29 : decode cX2_init 29 = .ok (.multianewarray 15 2, 4) := by decide +kernel
theorem dX2_init_33 : decode cX2_init 33 = .ok (.putfield 20, 3) := by decide +kernel
theorem dX2_init_36 : decode cX2_init 36 = .ok (.aload_n 0, 1) := by decide +kernel
theorem dX2_init_37 : decode cX2_init 37 = .ok (.bipush 7, 2) := by decide +kernel
theorem dX2_init_39 : decode cX2_init 39 = .ok (.newarray .int, 2) := by decide +kernel
theorem dX2_init_41 : decode cX2_init 41 = .ok (.putfield 23, 3) := by decide +kernel
theorem dX2_init_44 : decode cX2_init 44 = .ok (.aload_n 0, 1) := by decide +kernel
theorem dX2_init_45 : decode cX2_init 45 = .ok (.iload_n 1, 1) := by decide +kernel
theorem dX2_init_46 : decode cX2_init 46 = .ok (.putfield 26, 3) := by decide +kernel
theorem dX2_init_49 : decode cX2_init 49 = .ok (.aload_n 0, 1) := by decide +kernel
theorem dX2_init_50 : decode cX2_init 50 = .ok (.iconst 0, 1) := by decide +kernel
theorem dX2_init_51 : decode cX2_init 51 = .ok (.putfield 30, 3) := by decide +kernel
theorem dX2_init_54 : decode cX2_init 54 = .ok (.return_, 1) := by decide +kernel
theorem dX2_fillCells_0 : decode cX2_fillCells 0 = .ok (.iconst 0, 1) := by decide +kernel
theorem dX2_fillCells_1 : decode cX2_fillCells 1 = .ok (.istore_n 2, 1) := by decide +kernel
theorem dX2_fillCells_2 : decode cX2_fillCells 2 = .ok (.iload_n 2, 1) := by decide +kernel
theorem dX2_fillCells_3 : decode cX2_fillCells 3 = .ok (.bipush 7, 2) := by decide +kernel
theorem dX2_fillCells_5 : decode cX2_fillCells 5 = .ok (.if_icmp .ge 28, 3) := by decide +kernel
theorem dX2_fillCells_8 : decode cX2_fillCells 8 = .ok (.aload_n 1, 1) := by decide +kernel
theorem dX2_fillCells_9 : decode cX2_fillCells 9 = .ok (.iload_n 2, 1) := by decide +kernel
theorem dX2_fillCells_10 : decode cX2_fillCells 10 = .ok (.aload_n 0, 1) := by decide +kernel
theorem dX2_fillCells_11 : decode cX2_fillCells 11 = .ok (.iload_n 2, 1) := by decide +kernel
theorem dX2_fillCells_12 : decode cX2_fillCells 12 = .ok (.iconst 1, 1) := by decide +kernel
theorem dX2_fillCells_13 : decode cX2_fillCells 13 = .ok (.iadd, 1) := by decide +kernel
theorem dX2_fillCells_14 : decode cX2_fillCells 14 = .ok (.iaload, 1) := by decide +kernel
theorem dX2_fillCells_15 : decode cX2_fillCells 15 = .ok (.aload_n 0, 1) := by decide +kernel
theorem dX2_fillCells_16 : decode cX2_fillCells 16 = .ok (.iload_n 2, 1) := by decide +kernel
theorem dX2_fillCells_17 : decode cX2_fillCells 17 = .ok (.iaload, 1) := by decide +kernel
theorem dX2_fillCells_18 : decode cX2_fillCells 18 = .ok (.isub, 1) := by decide +kernel
theorem dX2_fillCells_19 : decode cX2_fillCells 19 = .ok (.sipush 256, 3) := by decide +kernel
theorem dX2_fillCells_22 : decode cX2_fillCells 22 = .ok (.iadd, 1) := by decide +kernel
theorem dX2_fillCells_23 : decode cX2_fillCells 23 = .ok (.bipush 64, 2) := by decide +kernel
theorem dX2_fillCells_25 : decode cX2_fillCells 25 = .ok (.idiv, 1) := by decide +kernel
theorem dX2_fillCells_26 : decode cX2_fillCells 26 = .ok (.iastore, 1) := by decide +kernel
theorem dX2_fillCells_27 : decode cX2_fillCells 27 = .ok (.iinc 2 1, 3) := by decide +kernel
theorem dX2_fillCells_30 : decode cX2_fillCells 30 = .ok (.goto (-28), 3) := by decide +kernel
theorem dX2_fillCells_33 : decode cX2_fillCells 33 = .ok (.return_, 1) := by decide +kernel
theorem dX2_size_0 : decode cX2_size 0 = .ok (.aload_n 0, 1) := by decide +kernel
theorem dX2_size_1 : decode cX2_size 1 = .ok (.getfield 30, 3) := by decide +kernel
theorem dX2_size_4 : decode cX2_size 4 = .ok (.ireturn, 1) := by decide +kernel
theorem dX2_has_0 : decode cX2_has 0 = .ok (.iload_n 1, 1) := by decide +kernel
theorem dX2_has_1 : decode cX2_has 1 = .ok (.ifCond .lt 15, 3) := by decide +kernel
theorem dX2_has_4 : decode cX2_has 4 = .ok (.iload_n 1, 1) := by decide +kernel
theorem dX2_has_5 : decode cX2_has 5 = .ok (.aload_n 0, 1) := by decide +kernel
theorem dX2_has_6 : decode cX2_has 6 = .ok (.getfield 30, 3) := by decide +kernel
theorem dX2_has_9 : decode cX2_has 9 = .ok (.if_icmp .ge 7, 3) := by decide +kernel
theorem dX2_has_12 : decode cX2_has 12 = .ok (.iconst 1, 1) := by decide +kernel
theorem dX2_has_13 : decode cX2_has 13 = .ok (.goto 4, 3) := by decide +kernel
theorem dX2_has_16 : decode cX2_has 16 = .ok (.iconst 0, 1) := by decide +kernel
theorem dX2_has_17 : decode cX2_has 17 = .ok (.ireturn, 1) := by decide +kernel
theorem dX2_kindOf_0 : decode cX2_kindOf 0 = .ok (.aload_n 0, 1) := by decide +kernel
theorem dX2_kindOf_1 : decode cX2_kindOf 1 = .ok (.getfield 9, 3) := by decide +kernel
theorem dX2_kindOf_4 : decode cX2_kindOf 4 = .ok (.iload_n 1, 1) := by decide +kernel
theorem dX2_kindOf_5 : decode cX2_kindOf 5 = .ok (.iaload, 1) := by decide +kernel
theorem dX2_kindOf_6 : decode cX2_kindOf 6 = .ok (.ireturn, 1) := by decide +kernel
theorem dX2_cellsOf_0 : decode cX2_cellsOf 0 = .ok (.aload_n 0, 1) := by decide +kernel
theorem dX2_cellsOf_1 : decode cX2_cellsOf 1 = .ok (.getfield 20, 3) := by decide +kernel
theorem dX2_cellsOf_4 : decode cX2_cellsOf 4 = .ok (.iload_n 1, 1) := by decide +kernel
theorem dX2_cellsOf_5 : decode cX2_cellsOf 5 = .ok (.aaload, 1) := by decide +kernel
theorem dX2_cellsOf_6 : decode cX2_cellsOf 6 = .ok (.areturn, 1) := by decide +kernel
theorem dX2_setKind_0 : decode cX2_setKind 0 = .ok (.aload_n 0, 1) := by decide +kernel
theorem dX2_setKind_1 : decode cX2_setKind 1 = .ok (.getfield 9, 3) := by decide +kernel
theorem dX2_setKind_4 : decode cX2_setKind 4 = .ok (.iload_n 1, 1) := by decide +kernel
theorem dX2_setKind_5 : decode cX2_setKind 5 = .ok (.iload_n 2, 1) := by decide +kernel
theorem dX2_setKind_6 : decode cX2_setKind 6 = .ok (.iastore, 1) := by decide +kernel
theorem dX2_setKind_7 : decode cX2_setKind 7 = .ok (.return_, 1) := by decide +kernel
set_option maxRecDepth 20000 in
theorem ggX2_add_X2_put : GoodIn wsX2_add wsX2_put := goodIn_r _ [6, 7, 8, 9, 10, 11, 12, 13, 14, 15, 5, 16, 17, 18, 19, 20, 21, 22] (by decide +kernel) (by decide +kernel)
set_option maxRecDepth 20000 in
theorem gX2_add_X2_put : GoodIn wsX2_add (wsV RX2 33 RX2 yX2_put wsX2_put) := goodIn_app (goodIn_of _ (by decide +kernel)) ggX2_add_X2_put
theorem dX2_add_0 : decode cX2_add 0 = .ok (.aload_n 0, 1) := by decide +kernel
theorem dX2_add_1 : decode cX2_add 1 = .ok (.getfield 30, 3) := by decide +kernel
theorem dX2_add_4 : decode cX2_add 4 = .ok (.bipush 40, 2) := by decide +kernel
theorem dX2_add_6 : decode cX2_add 6 = .ok (.if_icmp .lt 5, 3) := by decide +kernel
theorem dX2_add_9 : decode cX2_add 9 = .ok (.iconst (-1), 1) := by decide +kernel
theorem dX2_add_10 : decode cX2_add 10 = .ok (.ireturn, 1) := by decide +kernel
theorem dX2_add_11 : decode cX2_add 11 = .ok (.aload_n 0, 1) := by decide +kernel
theorem dX2_add_12 : decode cX2_add 12 = .ok (.getfield 30, 3) := by decide +kernel
theorem dX2_add_15 : decode cX2_add 15 = .ok (.istore_n 3, 1) := by decide +kernel
theorem dX2_add_16 : decode cX2_add 16 = .ok (.aload_n 0, 1) := by decide +kernel
theorem dX2_add_17 : decode cX2_add 17 = .ok (.iload_n 3, 1) := by decide +kernel
theorem dX2_add_18 : decode cX2_add 18 = .ok (.iload_n 1, 1) := by decide +kernel
theorem dX2_add_19 : decode cX2_add 19 = .ok (.aload_n 2, 1) := by decide +kernel
theorem dX2_add_20 : decode cX2_add 20 = .ok (.iconst 0, 1) := by decide +kernel
theorem dX2_add_21 : decode cX2_add 21 = .ok (.invokevirtual 33, 3) := by decide +kernel
theorem dX2_add_24 : decode cX2_add 24 = .ok (.aload_n 0, 1) := by decide +kernel
theorem dX2_add_25 : decode cX2_add 25 = .ok (.dup, 1) := by decide +kernel
theorem dX2_add_26 : decode cX2_add 26 = .ok (.getfield 30, 3) := by decide +kernel
theorem dX2_add_29 : decode cX2_add 29 = .ok (.iconst 1, 1) := by decide +kernel
theorem dX2_add_30 : decode cX2_add 30 = .ok (.iadd, 1) := by decide +kernel
theorem dX2_add_31 : decode cX2_add 31 = .ok (.putfield 30, 3) := by decide +kernel
theorem dX2_add_34 : decode cX2_add 34 = .ok (.iload_n 3, 1) := by decide +kernel
theorem dX2_add_35 : decode cX2_add 35 = .ok (.ireturn, 1) := by decide +kernel
set_option maxRecDepth 20000 in
theorem ggX2_put_X2_fillCells : GoodIn wsX2_put wsX2_fillCells := goodIn_r _ [11] (by decide +kernel) (by decide +kernel)
set_option maxRecDepth 20000 in
theorem gX2_put_X2_fillCells : GoodIn wsX2_put (va_wsS RX2 43 yX2_fillCells wsX2_fillCells) := goodIn_app (goodIn_of _ (by decide +kernel)) ggX2_put_X2_fillCells
theorem dX2_put_0 : decode cX2_put 0 = .ok (.aload_n 0, 1) := by decide +kernel
theorem dX2_put_1 : decode cX2_put 1 = .ok (.getfield 9, 3) := by decide +kernel
theorem dX2_put_4 : decode cX2_put 4 = .ok (.iload_n 1, 1) := by decide +kernel
theorem dX2_put_5 : decode cX2_put 5 = .ok (.iload_n 2, 1) := by decide +kernel
theorem dX2_put_6 : decode cX2_put 6 = .ok (.iastore, 1) := by decide +kernel
theorem dX2_put_7 : decode cX2_put 7 = .ok (.aload_n 3, 1) := by decide +kernel
theorem dX2_put_8 : decode cX2_put 8 = .ok (.iload 4, 2) := by decide +kernel
theorem dX2_put_10 : decode cX2_put 10 = .ok (.aload_n 0, 1) := by decide +kernel
theorem dX2_put_11 : decode cX2_put 11 = .ok (.getfield 17, 3) := by decide +kernel
theorem dX2_put_14 : decode cX2_put 14 = .ok (.iload_n 1, 1) := by decide +kernel
theorem dX2_put_15 : decode cX2_put 15 = .ok (.aaload, 1) := by decide +kernel
theorem dX2_put_16 : decode cX2_put 16 = .ok (.iconst 0, 1) := by decide +kernel
theorem dX2_put_17 : decode cX2_put 17 = .ok (.bipush 8, 2) := by decide +kernel
theorem dX2_put_19 : decode cX2_put 19 = .ok (.invokestatic 37, 3) := by decide +kernel
theorem dX2_put_22 : decode cX2_put 22 = .ok (.aload_n 0, 1) := by decide +kernel
theorem dX2_put_23 : decode cX2_put 23 = .ok (.getfield 17, 3) := by decide +kernel
theorem dX2_put_26 : decode cX2_put 26 = .ok (.iload_n 1, 1) := by decide +kernel
theorem dX2_put_27 : decode cX2_put 27 = .ok (.aaload, 1) := by decide +kernel
theorem dX2_put_28 : decode cX2_put 28 = .ok (.aload_n 0, 1) := by decide +kernel
theorem dX2_put_29 : decode cX2_put 29 = .ok (.getfield 20, 3) := by decide +kernel
theorem dX2_put_32 : decode cX2_put 32 = .ok (.iload_n 1, 1) := by decide +kernel
theorem dX2_put_33 : decode cX2_put 33 = .ok (.aaload, 1) := by decide +kernel
theorem dX2_put_34 : decode cX2_put 34 = .ok (.invokestatic 43, 3) := by decide +kernel
theorem dX2_put_37 : decode cX2_put 37 = .ok (.return_, 1) := by decide +kernel
set_option maxRecDepth 20000 in
theorem ggX2_sumOf_J7_fill_53178 : GoodIn wsX2_sumOf wsJ7_fill_53178 := goodIn_r _ [8] (by decide +kernel) (by decide +kernel)
set_option maxRecDepth 20000 in
theorem gX2_sumOf_J7_fill_53178 : GoodIn wsX2_sumOf (va_wsS RX2 47 yJ7_fill_53178 wsJ7_fill_53178) := goodIn_app (goodIn_of _ (by decide +kernel)) ggX2_sumOf_J7_fill_53178
set_option maxRecDepth 20000 in
theorem ggX2_sumOf_X2_countAlike : GoodIn wsX2_sumOf wsX2_countAlike := goodIn_r _ [13, 1, 14, 15, 16, 17, 18, 19] (by decide +kernel) (by decide +kernel)
set_option maxRecDepth 20000 in
theorem gX2_sumOf_X2_countAlike : GoodIn wsX2_sumOf (wsV RX2 53 RX2 yX2_countAlike wsX2_countAlike) := goodIn_app (goodIn_of _ (by decide +kernel)) ggX2_sumOf_X2_countAlike
theorem dX2_sumOf_0 : decode cX2_sumOf 0 = .ok (.aload_n 0, 1) := by decide +kernel
theorem dX2_sumOf_1 : decode cX2_sumOf 1 = .ok (.getfield 23, 3) := by decide +kernel
theorem dX2_sumOf_4 : decode cX2_sumOf 4 = .ok (.iconst 0, 1) := by decide +kernel
theorem dX2_sumOf_5 : decode cX2_sumOf 5 = .ok (.invokestatic 47, 3) := by decide +kernel
theorem dX2_sumOf_8 : decode cX2_sumOf 8 = .ok (.iconst 0, 1) := by decide +kernel
theorem dX2_sumOf_9 : decode cX2_sumOf 9 = .ok (.istore 4, 2) := by decide +kernel
theorem dX2_sumOf_11 : decode cX2_sumOf 11 = .ok (.iconst 0, 1) := by decide +kernel
theorem dX2_sumOf_12 : decode cX2_sumOf 12 = .ok (.istore 5, 2) := by decide +kernel
theorem dX2_sumOf_14 : decode cX2_sumOf 14 = .ok (.iload 5, 2) := by decide +kernel
theorem dX2_sumOf_16 : decode cX2_sumOf 16 = .ok (.aload_n 0, 1) := by decide +kernel
theorem dX2_sumOf_17 : decode cX2_sumOf 17 = .ok (.getfield 30, 3) := by decide +kernel
theorem dX2_sumOf_20 : decode cX2_sumOf 20 = .ok (.if_icmp .ge 41, 3) := by decide +kernel
theorem dX2_sumOf_23 : decode cX2_sumOf 23 = .ok (.aload_n 0, 1) := by decide +kernel
theorem dX2_sumOf_24 : decode cX2_sumOf 24 = .ok (.getfield 9, 3) := by decide +kernel
theorem dX2_sumOf_27 : decode cX2_sumOf 27 = .ok (.iload 5, 2) := by decide +kernel
theorem dX2_sumOf_29 : decode cX2_sumOf 29 = .ok (.iaload, 1) := by decide +kernel
theorem dX2_sumOf_30 : decode cX2_sumOf 30 = .ok (.iload_n 1, 1) := by decide +kernel
theorem dX2_sumOf_31 : decode cX2_sumOf 31 = .ok (.if_icmp .ne 24, 3) := by decide +kernel
theorem dX2_sumOf_34 : decode cX2_sumOf 34 = .ok (.iload 5, 2) := by decide +kernel
theorem dX2_sumOf_36 : decode cX2_sumOf 36 = .ok (.iload_n 3, 1) := by decide +kernel
theorem dX2_sumOf_37 : decode cX2_sumOf 37 = .ok (.if_icmp .eq 18, 3) := by decide +kernel
theorem dX2_sumOf_40 : decode cX2_sumOf 40 = .ok (.iinc 4 1, 3) := by decide +kernel
theorem dX2_sumOf_43 : decode cX2_sumOf 43 = .ok (.aload_n 0, 1) := by decide +kernel
theorem dX2_sumOf_44 : decode cX2_sumOf 44 = .ok (.aload_n 2, 1) := by decide +kernel
theorem dX2_sumOf_45 : decode cX2_sumOf 45 = .ok (.aload_n 0, 1) := by decide +kernel
theorem dX2_sumOf_46 : decode cX2_sumOf 46 = .ok (.getfield 20, 3) := by decide +kernel
theorem dX2_sumOf_49 : decode cX2_sumOf 49 = .ok (.iload 5, 2) := by decide +kernel
theorem dX2_sumOf_51 : decode cX2_sumOf 51 = .ok (.aaload, 1) := by decide +kernel
theorem dX2_sumOf_52 : decode cX2_sumOf 52 = .ok (.invokevirtual 53, 3) := by decide +kernel
theorem dX2_sumOf_55 : decode cX2_sumOf 55 = .ok (.iinc 5 1, 3) := by decide +kernel
theorem dX2_sumOf_58 : decode cX2_sumOf 58 = .ok (.goto (-44), 3) := by decide +kernel
theorem dX2_sumOf_61 : decode cX2_sumOf 61 = .ok (.iload 4, 2) := by decide +kernel
theorem dX2_sumOf_63 : decode cX2_sumOf 63 = .ok (.ifCond .ne 5, 3) := by decide +kernel
theorem dX2_sumOf_66 : decode cX2_sumOf 66 = .ok (.lconst 0, 1) := by decide +kernel
theorem dX2_sumOf_67 : decode cX2_sumOf 67 = .ok (.lreturn, 1) := by decide +kernel
theorem dX2_sumOf_68 : decode cX2_sumOf 68 = .ok (.lconst 0, 1) := by decide +kernel
theorem dX2_sumOf_69 : decode cX2_sumOf 69 = .ok (.lstore 5, 2) := by decide +kernel
theorem dX2_sumOf_71 : decode cX2_sumOf 71 = .ok (.iconst 0, 1) := by decide +kernel
theorem dX2_sumOf_72 : decode cX2_sumOf 72 = .ok (.istore 7, 2) := by decide +kernel
theorem dX2_sumOf_74 : decode cX2_sumOf 74 = .ok (.iload 7, 2) := by decide +kernel
theorem dX2_sumOf_76 : decode cX2_sumOf 76 = .ok (.bipush 7, 2) := by decide +kernel
theorem dX2_sumOf_78 : decode cX2_sumOf 78 = .ok (.if_icmp .ge 29, 3) := by decide +kernel
theorem dX2_sumOf_81 : decode cX2_sumOf 81 = .ok (.lload 5, 2) := by decide +kernel
theorem dX2_sumOf_83 : decode cX2_sumOf 83 = .ok (.aload_n 0, 1) := by decide +kernel
theorem dX2_sumOf_84 : decode cX2_sumOf 84 = .ok (.getfield 23, 3) := by decide +kernel
theorem dX2_sumOf_87 : decode cX2_sumOf 87 = .ok (.iload 7, 2) := by decide +kernel
theorem dX2_sumOf_89 : decode cX2_sumOf 89 = .ok (.iaload, 1) := by decide +kernel
theorem dX2_sumOf_90 : decode cX2_sumOf 90 = .ok (.sipush 1000, 3) := by decide +kernel
theorem dX2_sumOf_93 : decode cX2_sumOf 93 = .ok (.imul, 1) := by decide +kernel
theorem dX2_sumOf_94 : decode cX2_sumOf 94 = .ok (.iload 4, 2) := by decide +kernel
theorem dX2_sumOf_96 : decode cX2_sumOf 96 = .ok (.idiv, 1) := by decide +kernel
theorem dX2_sumOf_97 : decode cX2_sumOf 97 = .ok (.i2l, 1) := by decide +kernel
theorem dX2_sumOf_98 : decode cX2_sumOf 98 = .ok (.ladd, 1) := by decide +kernel
theorem dX2_sumOf_99 : decode cX2_sumOf 99 = .ok (.lstore 5, 2) := by decide +kernel
theorem dX2_sumOf_101 : decode cX2_sumOf 101 = .ok (.iinc 7 1, 3) := by decide +kernel
theorem dX2_sumOf_104 : decode cX2_sumOf 104 = .ok (.goto (-30), 3) := by decide +kernel
theorem dX2_sumOf_107 : decode cX2_sumOf 107 = .ok (.lload 5, 2) := by decide +kernel
theorem dX2_sumOf_109 : decode cX2_sumOf 109 = .ok (.lreturn, 1) := by decide +kernel
theorem dX2_countAlike_0 : decode cX2_countAlike 0 = .ok (.iconst 0, 1) := by decide +kernel
theorem dX2_countAlike_1 : decode cX2_countAlike 1 = .ok (.istore_n 3, 1) := by decide +kernel
theorem dX2_countAlike_2 : decode cX2_countAlike 2 = .ok (.iload_n 3, 1) := by decide +kernel
theorem dX2_countAlike_3 : decode cX2_countAlike 3 = .ok (.bipush 7, 2) := by decide +kernel
theorem dX2_countAlike_5 : decode cX2_countAlike 5 = .ok (.if_icmp .ge 28, 3) := by decide +kernel
theorem dX2_countAlike_8 : decode cX2_countAlike 8 = .ok (.aload_n 1, 1) := by decide +kernel
theorem dX2_countAlike_9 : decode cX2_countAlike 9 = .ok (.iload_n 3, 1) := by decide +kernel
theorem dX2_countAlike_10 : decode cX2_countAlike 10 = .ok (.iaload, 1) := by decide +kernel
theorem dX2_countAlike_11 : decode cX2_countAlike 11 = .ok (.aload_n 2, 1) := by decide +kernel
theorem dX2_countAlike_12 : decode cX2_countAlike 12 = .ok (.iload_n 3, 1) := by decide +kernel
theorem dX2_countAlike_13 : decode cX2_countAlike 13 = .ok (.iaload, 1) := by decide +kernel
theorem dX2_countAlike_14 : decode cX2_countAlike 14 = .ok (.if_icmp .ne 13, 3) := by decide +kernel
theorem dX2_countAlike_17 : decode cX2_countAlike 17 = .ok (.aload_n 0, 1) := by decide +kernel
theorem dX2_countAlike_18 : decode cX2_countAlike 18 = .ok (.getfield 23, 3) := by decide +kernel
theorem dX2_countAlike_21 : decode cX2_countAlike 21 = .ok (.iload_n 3, 1) := by decide +kernel
theorem dX2_countAlike_22 : decode cX2_countAlike 22 = .ok (.dup2, 1) := by decide +kernel
theorem dX2_countAlike_23 : decode cX2_countAlike 23 = .ok (.iaload, 1) := by decide +kernel
theorem dX2_countAlike_24 : decode cX2_countAlike 24 = .ok (.iconst 1, 1) := by decide +kernel
theorem dX2_countAlike_25 : decode cX2_countAlike 25 = .ok (.iadd, 1) := by decide +kernel
theorem dX2_countAlike_26 : decode cX2_countAlike 26 = .ok (.iastore, 1) := by decide +kernel
theorem dX2_countAlike_27 : decode cX2_countAlike 27 = .ok (.iinc 3 1, 3) := by decide +kernel
theorem dX2_countAlike_30 : decode cX2_countAlike 30 = .ok (.goto (-28), 3) := by decide +kernel
theorem dX2_countAlike_33 : decode cX2_countAlike 33 = .ok (.return_, 1) := by decide +kernel
set_option maxRecDepth 20000 in
theorem ggX2_packedByte_X2_plainByte : GoodIn wsX2_packedByte wsX2_plainByte := goodIn_r _ [6, 7, 1, 8, 9, 14, 15, 16, 17, 18, 19] (by decide +kernel) (by decide +kernel)
set_option maxRecDepth 20000 in
theorem gX2_packedByte_X2_plainByte : GoodIn wsX2_packedByte (wsV RX2 56 RX2 yX2_plainByte wsX2_plainByte) := goodIn_app (goodIn_of _ (by decide +kernel)) ggX2_packedByte_X2_plainByte
set_option maxRecDepth 20000 in
theorem ggX2_packedByte_X2_check : GoodIn wsX2_packedByte wsX2_check := goodIn_r _ [13, 2, 3, 4, 5, 6, 7, 1, 8, 9, 14, 15, 16, 17, 18, 19] (by decide +kernel) (by decide +kernel)
set_option maxRecDepth 20000 in
theorem gX2_packedByte_X2_check : GoodIn wsX2_packedByte (wsV RX2 60 RX2 yX2_check wsX2_check) := goodIn_app (goodIn_of _ (by decide +kernel)) ggX2_packedByte_X2_check
theorem dX2_packedByte_0 : decode cX2_packedByte 0 = .ok (.iconst 2, 1) := by decide +kernel
theorem dX2_packedByte_1 : decode cX2_packedByte 1 = .ok (.bipush 9, 2) := by decide +kernel
theorem dX2_packedByte_3 : decode cX2_packedByte 3 = .ok (.aload_n 0, 1) := by decide +kernel
theorem dX2_packedByte_4 : decode cX2_packedByte 4 = .ok (.getfield 30, 3) := by decide +kernel
theorem dX2_packedByte_7 : decode cX2_packedByte 7 = .ok (.imul, 1) := by decide +kernel
theorem dX2_packedByte_8 : decode cX2_packedByte 8 = .ok (.iadd, 1) := by decide +kernel
theorem dX2_packedByte_9 : decode cX2_packedByte 9 = .ok (.istore_n 2, 1) := by decide +kernel
theorem dX2_packedByte_10 : decode cX2_packedByte 10 = .ok (.iload_n 1, 1) := by decide +kernel
theorem dX2_packedByte_11 : decode cX2_packedByte 11 = .ok (.ifCond .lt 8, 3) := by decide +kernel
theorem dX2_packedByte_14 : decode cX2_packedByte 14 = .ok (.iload_n 1, 1) := by decide +kernel
theorem dX2_packedByte_15 : decode cX2_packedByte 15 = .ok (.iload_n 2, 1) := by decide +kernel
theorem dX2_packedByte_16 : decode cX2_packedByte 16 = .ok (.if_icmp .le 5, 3) := by decide +kernel
theorem dX2_packedByte_19 : decode cX2_packedByte 19 = .ok (.iconst (-1), 1) := by decide +kernel
theorem dX2_packedByte_20 : decode cX2_packedByte 20 = .ok (.ireturn, 1) := by decide +kernel
theorem dX2_packedByte_21 : decode cX2_packedByte 21 = .ok (.iload_n 1, 1) := by decide +kernel
theorem dX2_packedByte_22 : decode cX2_packedByte 22 = .ok (.iload_n 2, 1) := by decide +kernel
theorem dX2_packedByte_23 : decode cX2_packedByte 23 = .ok (.if_icmp .ge 11, 3) := by decide +kernel
theorem dX2_packedByte_26 : decode cX2_packedByte 26 = .ok (.aload_n 0, 1) := by decide +kernel
theorem dX2_packedByte_27 : decode cX2_packedByte 27 = .ok (.iload_n 1, 1) := by decide +kernel
theorem dX2_packedByte_28 : decode cX2_packedByte 28 = .ok (.invokevirtual 56, 3) := by decide +kernel
theorem dX2_packedByte_31 : decode cX2_packedByte 31 = .ok (.goto 8, 3) := by decide +kernel
theorem dX2_packedByte_34 : decode cX2_packedByte 34 = .ok (.aload_n 0, 1) := by decide +kernel
theorem dX2_packedByte_35 : decode cX2_packedByte 35 = .ok (.iload_n 2, 1) := by decide +kernel
theorem dX2_packedByte_36 : decode cX2_packedByte 36 = .ok (.invokevirtual 60, 3) := by decide +kernel
theorem dX2_packedByte_39 : decode cX2_packedByte 39 = .ok (.ireturn, 1) := by decide +kernel
theorem dX2_plainByte_0 : decode cX2_plainByte 0 = .ok (.iload_n 1, 1) := by decide +kernel
theorem dX2_plainByte_1 : decode cX2_plainByte 1 = .ok (.iconst 2, 1) := by decide +kernel
theorem dX2_plainByte_2 : decode cX2_plainByte 2 = .ok (.if_icmp .ge 19, 3) := by decide +kernel
theorem dX2_plainByte_5 : decode cX2_plainByte 5 = .ok (.iload_n 1, 1) := by decide +kernel
theorem dX2_plainByte_6 : decode cX2_plainByte 6 = .ok (.ifCond .ne 10, 3) := by decide +kernel
theorem dX2_plainByte_9 : decode cX2_plainByte 9 = .ok (.aload_n 0, 1) := by decide +kernel
theorem dX2_plainByte_10 : decode cX2_plainByte 10 = .ok (.getfield 26, 3) := by decide +kernel
theorem dX2_plainByte_13 : decode cX2_plainByte 13 = .ok (.goto 7, 3) := by decide +kernel
theorem dX2_plainByte_16 : decode cX2_plainByte 16 = .ok (.aload_n 0, 1) := by decide +kernel
theorem dX2_plainByte_17 : decode cX2_plainByte 17 = .ok (.getfield 30, 3) := by decide +kernel
theorem dX2_plainByte_20 : decode cX2_plainByte 20 = .ok (.ireturn, 1) := by decide +kernel
theorem dX2_plainByte_21 : decode cX2_plainByte 21 = .ok (.iload_n 1, 1) := by decide +kernel
theorem dX2_plainByte_22 : decode cX2_plainByte 22 = .ok (.iconst 2, 1) := by decide +kernel
theorem dX2_plainByte_23 : decode cX2_plainByte 23 = .ok (.isub, 1) := by decide +kernel
theorem dX2_plainByte_24 : decode cX2_plainByte 24 = .ok (.bipush 9, 2) := by decide +kernel
theorem dX2_plainByte_26 : decode cX2_plainByte 26 = .ok (.idiv, 1) := by decide +kernel
theorem dX2_plainByte_27 : decode cX2_plainByte 27 = .ok (.istore_n 2, 1) := by decide +kernel
theorem dX2_plainByte_28 : decode cX2_plainByte 28 = .ok (.iload_n 1, 1) := by decide +kernel
theorem dX2_plainByte_29 : decode cX2_plainByte 29 = .ok (.iconst 2, 1) := by decide +kernel
theorem dX2_plainByte_30 : decode cX2_plainByte 30 = .ok (.isub, 1) := by decide +kernel
theorem dX2_plainByte_31 : decode cX2_plainByte 31 = .ok (.bipush 9, 2) := by decide +kernel
theorem dX2_plainByte_33 : decode cX2_plainByte 33 = .ok (.irem, 1) := by decide +kernel
theorem dX2_plainByte_34 : decode cX2_plainByte 34 = .ok (.istore_n 3, 1) := by decide +kernel
theorem dX2_plainByte_35 : decode cX2_plainByte 35 = .ok (.iload_n 3, 1) := by decide +kernel
theorem dX2_plainByte_36 : decode cX2_plainByte 36 = .ok (.ifCond .ne 12, 3) := by decide +kernel
theorem dX2_plainByte_39 : decode cX2_plainByte 39 = .ok (.aload_n 0, 1) := by decide +kernel
theorem dX2_plainByte_40 : decode cX2_plainByte 40 = .ok (.getfield 9, 3) := by decide +kernel
theorem dX2_plainByte_43 : decode cX2_plainByte 43 = .ok (.iload_n 2, 1) := by decide +kernel
theorem dX2_plainByte_44 : decode cX2_plainByte 44 = .ok (.iaload, 1) := by decide +kernel
theorem dX2_plainByte_45 : decode cX2_plainByte 45 = .ok (.goto 13, 3) := by decide +kernel
theorem dX2_plainByte_48 : decode cX2_plainByte 48 = .ok (.aload_n 0, 1) := by decide +kernel
theorem dX2_plainByte_49 : decode cX2_plainByte 49 = .ok (.getfield 17, 3) := by decide +kernel
theorem dX2_plainByte_52 : decode cX2_plainByte 52 = .ok (.iload_n 2, 1) := by decide +kernel
theorem dX2_plainByte_53 : decode cX2_plainByte 53 = .ok (.aaload, 1) := by decide +kernel
theorem dX2_plainByte_54 : decode cX2_plainByte 54 = .ok (.iload_n 3, 1) := by decide +kernel
theorem dX2_plainByte_55 : decode cX2_plainByte 55 = .ok (.iconst 1, 1) := by decide +kernel
theorem dX2_plainByte_56 : decode cX2_plainByte 56 = .ok (.isub, 1) := by decide +kernel
theorem dX2_plainByte_57 : decode cX2_plainByte 57 = .ok (.iaload, 1) := by decide +kernel
theorem dX2_plainByte_58 : decode cX2_plainByte 58 = .ok (.ireturn, 1) := by decide +kernel
set_option maxRecDepth 20000 in
theorem ggX2_check_X2_plainByte : GoodIn wsX2_check wsX2_plainByte := goodIn_r _ [5, 6, 7, 8, 9, 10, 11, 12, 13, 14, 15] (by decide +kernel) (by decide +kernel)
set_option maxRecDepth 20000 in
theorem gX2_check_X2_plainByte : GoodIn wsX2_check (wsV RX2 56 RX2 yX2_plainByte wsX2_plainByte) := goodIn_app (goodIn_of _ (by decide +kernel)) ggX2_check_X2_plainByte
theorem dX2_check_0 : decode cX2_check 0 = .ok (.iconst 0, 1) := by decide +kernel
theorem dX2_check_1 : decode cX2_check 1 = .ok (.istore_n 2, 1) := by decide +kernel
theorem dX2_check_2 : decode cX2_check 2 = .ok (.iconst 0, 1) := by decide +kernel
theorem dX2_check_3 : decode cX2_check 3 = .ok (.istore_n 3, 1) := by decide +kernel
theorem dX2_check_4 : decode cX2_check 4 = .ok (.iload_n 3, 1) := by decide +kernel
theorem dX2_check_5 : decode cX2_check 5 = .ok (.iload_n 1, 1) := by decide +kernel
theorem dX2_check_6 : decode cX2_check 6 = .ok (.if_icmp .ge 17, 3) := by decide +kernel
theorem dX2_check_9 : decode cX2_check 9 = .ok (.iload_n 2, 1) := by decide +kernel
theorem dX2_check_10 : decode cX2_check 10 = .ok (.aload_n 0, 1) := by decide +kernel
theorem dX2_check_11 : decode cX2_check 11 = .ok (.iload_n 3, 1) := by decide +kernel
theorem dX2_check_12 : decode cX2_check 12 = .ok (.invokevirtual 56, 3) := by decide +kernel
theorem dX2_check_15 : decode cX2_check 15 = .ok (.iadd, 1) := by decide +kernel
theorem dX2_check_16 : decode cX2_check 16 = .ok (.istore_n 2, 1) := by decide +kernel
theorem dX2_check_17 : decode cX2_check 17 = .ok (.iinc 3 1, 3) := by decide +kernel
theorem dX2_check_20 : decode cX2_check 20 = .ok (.goto (-16), 3) := by decide +kernel
theorem dX2_check_23 : decode cX2_check 23 = .ok (.iload_n 2, 1) := by decide +kernel
theorem dX2_check_24 : decode cX2_check 24 = .ok (.sipush 256, 3) := by decide +kernel
theorem dX2_check_27 : decode cX2_check 27 = .ok (.irem, 1) := by decide +kernel
theorem dX2_check_28 : decode cX2_check 28 = .ok (.ireturn, 1) := by decide +kernel
theorem dX2_fits_0 : decode cX2_fits 0 = .ok (.iload_n 2, 1) := by decide +kernel
theorem dX2_fits_1 : decode cX2_fits 1 = .ok (.iconst 2, 1) := by decide +kernel
theorem dX2_fits_2 : decode cX2_fits 2 = .ok (.if_icmp .le 21, 3) := by decide +kernel
theorem dX2_fits_5 : decode cX2_fits 5 = .ok (.aload_n 1, 1) := by decide +kernel
theorem dX2_fits_6 : decode cX2_fits 6 = .ok (.iconst 0, 1) := by decide +kernel
theorem dX2_fits_7 : decode cX2_fits 7 = .ok (.iaload, 1) := by decide +kernel
theorem dX2_fits_8 : decode cX2_fits 8 = .ok (.aload_n 0, 1) := by decide +kernel
theorem dX2_fits_9 : decode cX2_fits 9 = .ok (.getfield 26, 3) := by decide +kernel
theorem dX2_fits_12 : decode cX2_fits 12 = .ok (.if_icmp .ne 11, 3) := by decide +kernel
theorem dX2_fits_15 : decode cX2_fits 15 = .ok (.aload_n 1, 1) := by decide +kernel
theorem dX2_fits_16 : decode cX2_fits 16 = .ok (.iconst 1, 1) := by decide +kernel
theorem dX2_fits_17 : decode cX2_fits 17 = .ok (.iaload, 1) := by decide +kernel
theorem dX2_fits_18 : decode cX2_fits 18 = .ok (.bipush 40, 2) := by decide +kernel
theorem dX2_fits_20 : decode cX2_fits 20 = .ok (.if_icmp .le 5, 3) := by decide +kernel
theorem dX2_fits_23 : decode cX2_fits 23 = .ok (.iconst 0, 1) := by decide +kernel
theorem dX2_fits_24 : decode cX2_fits 24 = .ok (.ireturn, 1) := by decide +kernel
theorem dX2_fits_25 : decode cX2_fits 25 = .ok (.iconst 2, 1) := by decide +kernel
theorem dX2_fits_26 : decode cX2_fits 26 = .ok (.bipush 9, 2) := by decide +kernel
theorem dX2_fits_28 : decode cX2_fits 28 = .ok (.aload_n 1, 1) := by decide +kernel
theorem dX2_fits_29 : decode cX2_fits 29 = .ok (.iconst 1, 1) := by decide +kernel
theorem dX2_fits_30 : decode cX2_fits 30 = .ok (.iaload, 1) := by decide +kernel
theorem dX2_fits_31 : decode cX2_fits 31 = .ok (.imul, 1) := by decide +kernel
theorem dX2_fits_32 : decode cX2_fits 32 = .ok (.iadd, 1) := by decide +kernel
theorem dX2_fits_33 : decode cX2_fits 33 = .ok (.istore_n 3, 1) := by decide +kernel
theorem dX2_fits_34 : decode cX2_fits 34 = .ok (.iload_n 2, 1) := by decide +kernel
theorem dX2_fits_35 : decode cX2_fits 35 = .ok (.iload_n 3, 1) := by decide +kernel
theorem dX2_fits_36 : decode cX2_fits 36 = .ok (.iconst 1, 1) := by decide +kernel
theorem dX2_fits_37 : decode cX2_fits 37 = .ok (.iadd, 1) := by decide +kernel
theorem dX2_fits_38 : decode cX2_fits 38 = .ok (.if_icmp .eq 5, 3) := by decide +kernel
theorem dX2_fits_41 : decode cX2_fits 41 = .ok (.iconst 0, 1) := by decide +kernel
theorem dX2_fits_42 : decode cX2_fits 42 = .ok (.ireturn, 1) := by decide +kernel
theorem dX2_fits_43 : decode cX2_fits 43 = .ok (.iconst 0, 1) := by decide +kernel
theorem dX2_fits_44 : decode cX2_fits 44 = .ok (.istore 4, 2) := by decide +kernel
theorem dX2_fits_46 : decode cX2_fits 46 = .ok (.iconst 0, 1) := by decide +kernel
theorem dX2_fits_47 : decode cX2_fits 47 = .ok (.istore 5, 2) := by decide +kernel
theorem dX2_fits_49 : decode cX2_fits 49 = .ok (.iload 5, 2) := by decide +kernel
theorem dX2_fits_51 : decode cX2_fits 51 = .ok (.iload_n 3, 1) := by decide +kernel
theorem dX2_fits_52 : decode cX2_fits 52 = .ok (.if_icmp .ge 47, 3) := by decide +kernel
theorem dX2_fits_55 : decode cX2_fits 55 = .ok (.iload 5, 2) := by decide +kernel
theorem dX2_fits_57 : decode cX2_fits 57 = .ok (.iconst 2, 1) := by decide +kernel
theorem dX2_fits_58 : decode cX2_fits 58 = .ok (.if_icmp .lt 26, 3) := by decide +kernel
theorem dX2_fits_61 : decode cX2_fits 61 = .ok (.iload 5, 2) := by decide +kernel
theorem dX2_fits_63 : decode cX2_fits 63 = .ok (.iconst 2, 1) := by decide +kernel
theorem dX2_fits_64 : decode cX2_fits 64 = .ok (.isub, 1) := by decide +kernel
theorem dX2_fits_65 : decode cX2_fits 65 = .ok (.bipush 9, 2) := by decide +kernel
theorem dX2_fits_67 : decode cX2_fits 67 = .ok (.irem, 1) := by decide +kernel
theorem dX2_fits_68 : decode cX2_fits 68 = .ok (.ifCond .ne 16, 3) := by decide +kernel
theorem dX2_fits_71 : decode cX2_fits 71 = .ok (.aload_n 1, 1) := by decide +kernel
theorem dX2_fits_72 : decode cX2_fits 72 = .ok (.iload 5, 2) := by decide +kernel
theorem dX2_fits_74 : decode cX2_fits 74 = .ok (.iaload, 1) := by decide +kernel
theorem dX2_fits_75 : decode cX2_fits 75 = .ok (.aload_n 0, 1) := by decide +kernel
theorem dX2_fits_76 : decode cX2_fits 76 = .ok (.getfield 26, 3) := by decide +kernel
theorem dX2_fits_79 : decode cX2_fits 79 = .ok (.if_icmp .lt 5, 3) := by decide +kernel
theorem dX2_fits_82 : decode cX2_fits 82 = .ok (.iconst 0, 1) := by decide +kernel
theorem dX2_fits_83 : decode cX2_fits 83 = .ok (.ireturn, 1) := by decide +kernel
theorem dX2_fits_84 : decode cX2_fits 84 = .ok (.iload 4, 2) := by decide +kernel
theorem dX2_fits_86 : decode cX2_fits 86 = .ok (.aload_n 1, 1) := by decide +kernel
theorem dX2_fits_87 : decode cX2_fits 87 = .ok (.iload 5, 2) := by decide +kernel
theorem dX2_fits_89 : decode cX2_fits 89 = .ok (.iaload, 1) := by decide +kernel
theorem dX2_fits_90 : decode cX2_fits 90 = .ok (.iadd, 1) := by decide +kernel
theorem dX2_fits_91 : decode cX2_fits 91 = .ok (.istore 4, 2) := by decide +kernel
theorem dX2_fits_93 : decode cX2_fits 93 = .ok (.iinc 5 1, 3) := by decide +kernel
theorem dX2_fits_96 : decode cX2_fits 96 = .ok (.goto (-47), 3) := by decide +kernel
theorem dX2_fits_99 : decode cX2_fits 99 = .ok (.aload_n 1, 1) := by decide +kernel
theorem dX2_fits_100 : decode cX2_fits 100 = .ok (.iload_n 3, 1) := by decide +kernel
theorem dX2_fits_101 : decode cX2_fits 101 = .ok (.iaload, 1) := by decide +kernel
theorem dX2_fits_102 : decode cX2_fits 102 = .ok (.iload 4, 2) := by decide +kernel
theorem dX2_fits_104 : decode cX2_fits 104 = .ok (.sipush 256, 3) := by decide +kernel
theorem dX2_fits_107 : decode cX2_fits 107 = .ok (.irem, 1) := by decide +kernel
theorem dX2_fits_108 : decode cX2_fits 108 = .ok (.if_icmp .ne 7, 3) := by decide +kernel
theorem dX2_fits_111 : decode cX2_fits 111 = .ok (.iconst 1, 1) := by decide +kernel
theorem dX2_fits_112 : decode cX2_fits 112 = .ok (.goto 4, 3) := by decide +kernel
theorem dX2_fits_115 : decode cX2_fits 115 = .ok (.iconst 0, 1) := by decide +kernel
theorem dX2_fits_116 : decode cX2_fits 116 = .ok (.ireturn, 1) := by decide +kernel
set_option maxRecDepth 20000 in
theorem ggX2_load_X2_put : GoodIn wsX2_load wsX2_put := goodIn_r _ [10, 11, 12, 13, 14, 15, 16, 17, 18, 19, 9, 20, 21, 22, 23, 24, 25, 26] (by decide +kernel) (by decide +kernel)
set_option maxRecDepth 20000 in
theorem gX2_load_X2_put : GoodIn wsX2_load (wsV RX2 33 RX2 yX2_put wsX2_put) := goodIn_app (goodIn_of _ (by decide +kernel)) ggX2_load_X2_put
theorem dX2_load_0 : decode cX2_load 0 = .ok (.aload_n 0, 1) := by decide +kernel
theorem dX2_load_1 : decode cX2_load 1 = .ok (.bipush 40, 2) := by decide +kernel
theorem dX2_load_3 : decode cX2_load 3 = .ok (.aload_n 1, 1) := by decide +kernel
theorem dX2_load_4 : decode cX2_load 4 = .ok (.iconst 1, 1) := by decide +kernel
theorem dX2_load_5 : decode cX2_load 5 = .ok (.iaload, 1) := by decide +kernel
theorem dX2_load_6 : decode cX2_load 6 = .ok (.invokestatic 63, 3) := by decide +kernel
theorem dX2_load_9 : decode cX2_load 9 = .ok (.putfield 30, 3) := by decide +kernel
theorem dX2_load_12 : decode cX2_load 12 = .ok (.iconst 0, 1) := by decide +kernel
theorem dX2_load_13 : decode cX2_load 13 = .ok (.istore_n 2, 1) := by decide +kernel
theorem dX2_load_14 : decode cX2_load 14 = .ok (.iload_n 2, 1) := by decide +kernel
theorem dX2_load_15 : decode cX2_load 15 = .ok (.aload_n 0, 1) := by decide +kernel
theorem dX2_load_16 : decode cX2_load 16 = .ok (.getfield 30, 3) := by decide +kernel
theorem dX2_load_19 : decode cX2_load 19 = .ok (.if_icmp .ge 28, 3) := by decide +kernel
theorem dX2_load_22 : decode cX2_load 22 = .ok (.iconst 2, 1) := by decide +kernel
theorem dX2_load_23 : decode cX2_load 23 = .ok (.bipush 9, 2) := by decide +kernel
theorem dX2_load_25 : decode cX2_load 25 = .ok (.iload_n 2, 1) := by decide +kernel
theorem dX2_load_26 : decode cX2_load 26 = .ok (.imul, 1) := by decide +kernel
theorem dX2_load_27 : decode cX2_load 27 = .ok (.iadd, 1) := by decide +kernel
theorem dX2_load_28 : decode cX2_load 28 = .ok (.istore_n 3, 1) := by decide +kernel
theorem dX2_load_29 : decode cX2_load 29 = .ok (.aload_n 0, 1) := by decide +kernel
theorem dX2_load_30 : decode cX2_load 30 = .ok (.iload_n 2, 1) := by decide +kernel
theorem dX2_load_31 : decode cX2_load 31 = .ok (.aload_n 1, 1) := by decide +kernel
theorem dX2_load_32 : decode cX2_load 32 = .ok (.iload_n 3, 1) := by decide +kernel
theorem dX2_load_33 : decode cX2_load 33 = .ok (.iaload, 1) := by decide +kernel
theorem dX2_load_34 : decode cX2_load 34 = .ok (.aload_n 1, 1) := by decide +kernel
theorem dX2_load_35 : decode cX2_load 35 = .ok (.iload_n 3, 1) := by decide +kernel
theorem dX2_load_36 : decode cX2_load 36 = .ok (.iconst 1, 1) := by decide +kernel
theorem dX2_load_37 : decode cX2_load 37 = .ok (.iadd, 1) := by decide +kernel
theorem dX2_load_38 : decode cX2_load 38 = .ok (.invokevirtual 33, 3) := by decide +kernel
theorem dX2_load_41 : decode cX2_load 41 = .ok (.iinc 2 1, 3) := by decide +kernel
theorem dX2_load_44 : decode cX2_load 44 = .ok (.goto (-30), 3) := by decide +kernel
theorem dX2_load_47 : decode cX2_load 47 = .ok (.return_, 1) := by decide +kernel
set_option maxRecDepth 20000 in
theorem ggX3_init_X1_init : GoodIn wsX3_init wsX1_init := goodIn_r _ [28, 29, 2, 3, 20, 30, 31, 32, 33, 34, 35, 36, 37, 72, 73, 74, 75] (by decide +kernel) (by decide +kernel)
set_option maxRecDepth 20000 in
theorem gX3_init_X1_init : GoodIn wsX3_init (wsX1_init) := ggX3_init_X1_init
set_option maxRecDepth 20000 in
theorem ggX3_init_X2_init : GoodIn wsX3_init wsX2_init := goodIn_r _ [40, 41, 2, 3, 20, 42, 43, 44, 45, 46, 47, 48, 76, 77, 78, 79, 80, 81] (by decide +kernel) (by decide +kernel)
set_option maxRecDepth 20000 in
theorem gX3_init_X2_init : GoodIn wsX3_init (wsX2_init) := ggX3_init_X2_init
set_option maxRecDepth 20000 in
theorem ggX3_init_X0_init : GoodIn wsX3_init wsX0_init := goodIn_r _ [51, 52, 2, 3, 20, 53, 54, 55, 56, 57, 58, 59, 60, 35, 36, 37, 82, 83, 84, 85, 86, 87, 88] (by decide +kernel) (by decide +kernel)
set_option maxRecDepth 20000 in
theorem gX3_init_X0_init : GoodIn wsX3_init (wsX0_init) := ggX3_init_X0_init
theorem dX3_init_0 : decode cX3_init 0 = .ok (.aload_n 0, 1) := by decide +kernel
theorem dX3_init_1 : decode cX3_init 1 = .ok (.invokespecial 1, 3) := by decide +kernel
theorem dX3_init_4 : decode cX3_init 4 = .ok (.aload_n 0, 1) := by decide +kernel
theorem dX3_init_5 : decode cX3_init 5 = .ok (.iload_n 1, 1) := by decide +kernel
theorem dX3_init_6 : decode cX3_init 6 = .ok (.iconst 1, 1) := by decide +kernel
theorem dX3_init_7 : decode cX3_init 7 = .ok (.if_icmp .lt 12, 3) := by decide +kernel
theorem dX3_init_10 : decode cX3_init 10 = .ok (.iload_n 1, 1) := by decide +kernel
theorem dX3_init_11 : decode cX3_init 11 = .ok (.iconst 4, 1) := by decide +kernel
theorem dX3_init_12 : decode cX3_init 12 = .ok (.if_icmp .gt 7, 3) := by decide +kernel
theorem dX3_init_15 : decode cX3_init 15 = .ok (.iload_n 1, 1) := by decide +kernel
theorem dX3_init_16 : decode cX3_init 16 = .ok (.goto 4, 3) := by decide +kernel
theorem dX3_init_19 : decode cX3_init 19 = .ok (.iconst 1, 1) := by decide +kernel
theorem dX3_init_20 : decode cX3_init 20 = .ok (.putfield 9, 3) := by decide +kernel
theorem dX3_init_23 : decode cX3_init 23 = .ok (.aload_n 0, 1) := by decide +kernel
theorem dX3_init_24 : decode cX3_init 24 = .ok (.new 13, 3) := by decide +kernel
theorem dX3_init_27 : decode cX3_init 27 = .ok (.dup, 1) := by decide +kernel
theorem dX3_init_28 : decode cX3_init 28 = .ok (.invokespecial 15, 3) := by decide +kernel
theorem dX3_init_31 : decode cX3_init 31 = .ok (.putfield 16, 3) := by decide +kernel
theorem dX3_init_34 : decode cX3_init 34 = .ok (.aload_n 0, 1) := by decide +kernel
theorem dX3_init_35 : decode cX3_init 35 = .ok (.new 20, 3) := by decide +kernel
theorem dX3_init_38 : decode cX3_init 38 = .ok (.dup, 1) := by decide +kernel
theorem dX3_init_39 : decode cX3_init 39 = .ok (.aload_n 0, 1) := by decide +kernel
theorem dX3_init_40 : decode cX3_init 40 = .ok (.getfield 9, 3) := by decide +kernel
theorem dX3_init_43 : decode cX3_init 43 = .ok (.invokespecial 22, 3) := by decide +kernel
theorem dX3_init_46 : decode cX3_init 46 = .ok (.putfield 25, 3) := by decide +kernel
theorem dX3_init_49 : decode cX3_init 49 = .ok (.aload_n 0, 1) := by decide +kernel
theorem dX3_init_50 : decode cX3_init 50 = .ok (.new 29, 3) := by decide +kernel
theorem dX3_init_53 : decode cX3_init 53 = .ok (.dup, 1) := by decide +kernel
theorem dX3_init_54 : decode cX3_init 54 = .ok (.invokespecial 31, 3) := by decide +kernel
theorem dX3_init_57 : decode cX3_init 57 = .ok (.putfield 32, 3) := by decide +kernel
theorem dX3_init_60 : decode cX3_init 60 = .ok (.aload_n 0, 1) := by decide +kernel
theorem dX3_init_61 : decode cX3_init 61 = .ok (.aload_n 0, 1) := by decide +kernel
theorem dX3_init_62 : decode cX3_init 62 = .ok (.getfield 9, 3) := by decide +kernel
