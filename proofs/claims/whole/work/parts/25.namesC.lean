theorem dX9_ends_0 : decode cX9_ends 0 = .ok (.aload_n 0, 1) := by decide +kernel
theorem dX9_ends_1 : decode cX9_ends 1 = .ok (.getfield 249, 3) := by decide +kernel
theorem dX9_ends_4 : decode cX9_ends 4 = .ok (.ifCond .le 27, 3) := by decide +kernel
theorem dX9_ends_7 : decode cX9_ends 7 = .ok (.aload_n 0, 1) := by decide +kernel
theorem dX9_ends_8 : decode cX9_ends 8 = .ok (.getfield 255, 3) := by decide +kernel
theorem dX9_ends_11 : decode cX9_ends 11 = .ok (.ifCond .le 20, 3) := by decide +kernel
theorem dX9_ends_14 : decode cX9_ends 14 = .ok (.aload_n 0, 1) := by decide +kernel
theorem dX9_ends_15 : decode cX9_ends 15 = .ok (.getfield 252, 3) := by decide +kernel
theorem dX9_ends_18 : decode cX9_ends 18 = .ok (.iconst 1, 1) := by decide +kernel
theorem dX9_ends_19 : decode cX9_ends 19 = .ok (.iadd, 1) := by decide +kernel
theorem dX9_ends_20 : decode cX9_ends 20 = .ok (.aload_n 0, 1) := by decide +kernel
theorem dX9_ends_21 : decode cX9_ends 21 = .ok (.invokevirtual 264, 3) := by decide +kernel
theorem dX9_ends_24 : decode cX9_ends 24 = .ok (.if_icmp .ne 7, 3) := by decide +kernel
theorem dX9_ends_27 : decode cX9_ends 27 = .ok (.iconst 1, 1) := by decide +kernel
theorem dX9_ends_28 : decode cX9_ends 28 = .ok (.goto 4, 3) := by decide +kernel
theorem dX9_ends_31 : decode cX9_ends 31 = .ok (.iconst 0, 1) := by decide +kernel
theorem dX9_ends_32 : decode cX9_ends 32 = .ok (.ireturn, 1) := by decide +kernel
set_option maxRecDepth 20000 in
theorem ggX9_error_X9_readOne : GoodIn wsX9_error wsX9_readOne := goodIn_r _ [8, 1, 9, 10, 11, 12, 13, 14, 15, 16, 7, 17, 18, 19, 20, 21, 26, 27, 28, 29, 30, 31, 32, 33, 34, 35, 36, 37, 38] (by decide +kernel) (by decide +kernel)
set_option maxRecDepth 20000 in
theorem gX9_error_X9_readOne : GoodIn wsX9_error (wsV RX9 267 RX9 yX9_readOne wsX9_readOne) := goodIn_app (goodIn_of _ (by decide +kernel)) ggX9_error_X9_readOne
set_option maxRecDepth 20000 in
theorem ggX9_error_X9_ends : GoodIn wsX9_error wsX9_ends := goodIn_r _ [25, 1, 10, 9, 18, 19, 20, 7, 21, 26, 27, 28, 29, 30, 31, 32, 33, 34, 35, 36, 37, 38] (by decide +kernel) (by decide +kernel)
set_option maxRecDepth 20000 in
theorem gX9_error_X9_ends : GoodIn wsX9_error (wsV RX9 270 RX9 yX9_ends wsX9_ends) := goodIn_app (goodIn_of _ (by decide +kernel)) ggX9_error_X9_ends
theorem dX9_error_0 : decode cX9_error 0 = .ok (.aload_n 0, 1) := by decide +kernel
theorem dX9_error_1 : decode cX9_error 1 = .ok (.iconst 0, 1) := by decide +kernel
theorem dX9_error_2 : decode cX9_error 2 = .ok (.putfield 249, 3) := by decide +kernel
theorem dX9_error_5 : decode cX9_error 5 = .ok (.iconst 0, 1) := by decide +kernel
theorem dX9_error_6 : decode cX9_error 6 = .ok (.istore_n 1, 1) := by decide +kernel
theorem dX9_error_7 : decode cX9_error 7 = .ok (.iload_n 1, 1) := by decide +kernel
theorem dX9_error_8 : decode cX9_error 8 = .ok (.aload_n 0, 1) := by decide +kernel
theorem dX9_error_9 : decode cX9_error 9 = .ok (.getfield 246, 3) := by decide +kernel
theorem dX9_error_12 : decode cX9_error 12 = .ok (.if_icmp .ge 53, 3) := by decide +kernel
theorem dX9_error_15 : decode cX9_error 15 = .ok (.aload_n 0, 1) := by decide +kernel
theorem dX9_error_16 : decode cX9_error 16 = .ok (.aload_n 0, 1) := by decide +kernel
theorem dX9_error_17 : decode cX9_error 17 = .ok (.getfield 23, 3) := by decide +kernel
theorem dX9_error_20 : decode cX9_error 20 = .ok (.iload_n 1, 1) := by decide +kernel
theorem dX9_error_21 : decode cX9_error 21 = .ok (.iaload, 1) := by decide +kernel
theorem dX9_error_22 : decode cX9_error 22 = .ok (.invokevirtual 267, 3) := by decide +kernel
theorem dX9_error_25 : decode cX9_error 25 = .ok (.istore_n 2, 1) := by decide +kernel
theorem dX9_error_26 : decode cX9_error 26 = .ok (.iload_n 2, 1) := by decide +kernel
theorem dX9_error_27 : decode cX9_error 27 = .ok (.ifCond .le 9, 3) := by decide +kernel
theorem dX9_error_30 : decode cX9_error 30 = .ok (.iconst 4, 1) := by decide +kernel
theorem dX9_error_31 : decode cX9_error 31 = .ok (.iload_n 1, 1) := by decide +kernel
theorem dX9_error_32 : decode cX9_error 32 = .ok (.imul, 1) := by decide +kernel
theorem dX9_error_33 : decode cX9_error 33 = .ok (.iload_n 2, 1) := by decide +kernel
theorem dX9_error_34 : decode cX9_error 34 = .ok (.iadd, 1) := by decide +kernel
theorem dX9_error_35 : decode cX9_error 35 = .ok (.ireturn, 1) := by decide +kernel
theorem dX9_error_36 : decode cX9_error 36 = .ok (.aload_n 0, 1) := by decide +kernel
theorem dX9_error_37 : decode cX9_error 37 = .ok (.aload_n 0, 1) := by decide +kernel
theorem dX9_error_38 : decode cX9_error 38 = .ok (.getfield 23, 3) := by decide +kernel
theorem dX9_error_41 : decode cX9_error 41 = .ok (.iload_n 1, 1) := by decide +kernel
theorem dX9_error_42 : decode cX9_error 42 = .ok (.iaload, 1) := by decide +kernel
theorem dX9_error_43 : decode cX9_error 43 = .ok (.bipush 59, 2) := by decide +kernel
theorem dX9_error_45 : decode cX9_error 45 = .ok (.if_icmp .ne 7, 3) := by decide +kernel
theorem dX9_error_48 : decode cX9_error 48 = .ok (.iconst 0, 1) := by decide +kernel
theorem dX9_error_49 : decode cX9_error 49 = .ok (.goto 7, 3) := by decide +kernel
theorem dX9_error_52 : decode cX9_error 52 = .ok (.aload_n 0, 1) := by decide +kernel
theorem dX9_error_53 : decode cX9_error 53 = .ok (.getfield 249, 3) := by decide +kernel
theorem dX9_error_56 : decode cX9_error 56 = .ok (.putfield 249, 3) := by decide +kernel
theorem dX9_error_59 : decode cX9_error 59 = .ok (.iinc 1 1, 3) := by decide +kernel
theorem dX9_error_62 : decode cX9_error 62 = .ok (.goto (-55), 3) := by decide +kernel
theorem dX9_error_65 : decode cX9_error 65 = .ok (.aload_n 0, 1) := by decide +kernel
theorem dX9_error_66 : decode cX9_error 66 = .ok (.getfield 246, 3) := by decide +kernel
theorem dX9_error_69 : decode cX9_error 69 = .ok (.ifCond .eq 10, 3) := by decide +kernel
theorem dX9_error_72 : decode cX9_error 72 = .ok (.aload_n 0, 1) := by decide +kernel
theorem dX9_error_73 : decode cX9_error 73 = .ok (.invokevirtual 270, 3) := by decide +kernel
theorem dX9_error_76 : decode cX9_error 76 = .ok (.ifCond .eq 7, 3) := by decide +kernel
theorem dX9_error_79 : decode cX9_error 79 = .ok (.iconst (-1), 1) := by decide +kernel
theorem dX9_error_80 : decode cX9_error 80 = .ok (.goto 11, 3) := by decide +kernel
theorem dX9_error_83 : decode cX9_error 83 = .ok (.iconst 4, 1) := by decide +kernel
theorem dX9_error_84 : decode cX9_error 84 = .ok (.aload_n 0, 1) := by decide +kernel
theorem dX9_error_85 : decode cX9_error 85 = .ok (.getfield 246, 3) := by decide +kernel
theorem dX9_error_88 : decode cX9_error 88 = .ok (.imul, 1) := by decide +kernel
theorem dX9_error_89 : decode cX9_error 89 = .ok (.iconst 3, 1) := by decide +kernel
theorem dX9_error_90 : decode cX9_error 90 = .ok (.iadd, 1) := by decide +kernel
theorem dX9_error_91 : decode cX9_error 91 = .ok (.ireturn, 1) := by decide +kernel
set_option maxRecDepth 20000 in
theorem ggX9_errorPosition_X9_error : GoodIn wsX9_errorPosition wsX9_error := goodIn_r _ [6, 7, 8, 9, 10, 11, 12, 5, 13, 14, 15, 16, 17, 18, 19, 20, 21, 22, 23, 24, 25, 26, 27, 28, 29, 30, 31, 32, 33, 34, 35, 36, 37, 38, 39, 40, 41, 42, 43] (by decide +kernel) (by decide +kernel)
set_option maxRecDepth 20000 in
theorem gX9_errorPosition_X9_error : GoodIn wsX9_errorPosition (wsV RX9 274 RX9 yX9_error wsX9_error) := goodIn_app (goodIn_of _ (by decide +kernel)) ggX9_errorPosition_X9_error
theorem dX9_errorPosition_0 : decode cX9_errorPosition 0 = .ok (.aload_n 0, 1) := by decide +kernel
theorem dX9_errorPosition_1 : decode cX9_errorPosition 1 = .ok (.iconst 0, 1) := by decide +kernel
theorem dX9_errorPosition_2 : decode cX9_errorPosition 2 = .ok (.putfield 43, 3) := by decide +kernel
theorem dX9_errorPosition_5 : decode cX9_errorPosition 5 = .ok (.aload_n 0, 1) := by decide +kernel
theorem dX9_errorPosition_6 : decode cX9_errorPosition 6 = .ok (.invokevirtual 274, 3) := by decide +kernel
theorem dX9_errorPosition_9 : decode cX9_errorPosition 9 = .ok (.istore_n 1, 1) := by decide +kernel
theorem dX9_errorPosition_10 : decode cX9_errorPosition 10 = .ok (.iload_n 1, 1) := by decide +kernel
theorem dX9_errorPosition_11 : decode cX9_errorPosition 11 = .ok (.iconst (-1), 1) := by decide +kernel
theorem dX9_errorPosition_12 : decode cX9_errorPosition 12 = .ok (.if_icmp .ne 7, 3) := by decide +kernel
theorem dX9_errorPosition_15 : decode cX9_errorPosition 15 = .ok (.iconst (-1), 1) := by decide +kernel
theorem dX9_errorPosition_16 : decode cX9_errorPosition 16 = .ok (.goto 6, 3) := by decide +kernel
theorem dX9_errorPosition_19 : decode cX9_errorPosition 19 = .ok (.iload_n 1, 1) := by decide +kernel
theorem dX9_errorPosition_20 : decode cX9_errorPosition 20 = .ok (.iconst 4, 1) := by decide +kernel
theorem dX9_errorPosition_21 : decode cX9_errorPosition 21 = .ok (.idiv, 1) := by decide +kernel
theorem dX9_errorPosition_22 : decode cX9_errorPosition 22 = .ok (.ireturn, 1) := by decide +kernel
set_option maxRecDepth 20000 in
theorem ggX9_errorKind_X9_error : GoodIn wsX9_errorKind wsX9_error := goodIn_r _ [6, 7, 8, 9, 10, 11, 12, 5, 13, 14, 15, 16, 17, 18, 19, 20, 21, 22, 23, 24, 25, 26, 27, 28, 29, 30, 31, 32, 33, 34, 35, 36, 37, 38, 39, 40, 41, 42, 43] (by decide +kernel) (by decide +kernel)
set_option maxRecDepth 20000 in
theorem gX9_errorKind_X9_error : GoodIn wsX9_errorKind (wsV RX9 274 RX9 yX9_error wsX9_error) := goodIn_app (goodIn_of _ (by decide +kernel)) ggX9_errorKind_X9_error
theorem dX9_errorKind_0 : decode cX9_errorKind 0 = .ok (.aload_n 0, 1) := by decide +kernel
theorem dX9_errorKind_1 : decode cX9_errorKind 1 = .ok (.iconst 0, 1) := by decide +kernel
theorem dX9_errorKind_2 : decode cX9_errorKind 2 = .ok (.putfield 43, 3) := by decide +kernel
theorem dX9_errorKind_5 : decode cX9_errorKind 5 = .ok (.aload_n 0, 1) := by decide +kernel
theorem dX9_errorKind_6 : decode cX9_errorKind 6 = .ok (.invokevirtual 274, 3) := by decide +kernel
theorem dX9_errorKind_9 : decode cX9_errorKind 9 = .ok (.istore_n 1, 1) := by decide +kernel
theorem dX9_errorKind_10 : decode cX9_errorKind 10 = .ok (.iload_n 1, 1) := by decide +kernel
theorem dX9_errorKind_11 : decode cX9_errorKind 11 = .ok (.iconst (-1), 1) := by decide +kernel
theorem dX9_errorKind_12 : decode cX9_errorKind 12 = .ok (.if_icmp .ne 7, 3) := by decide +kernel
theorem dX9_errorKind_15 : decode cX9_errorKind 15 = .ok (.iconst 0, 1) := by decide +kernel
theorem dX9_errorKind_16 : decode cX9_errorKind 16 = .ok (.goto 6, 3) := by decide +kernel
theorem dX9_errorKind_19 : decode cX9_errorKind 19 = .ok (.iload_n 1, 1) := by decide +kernel
theorem dX9_errorKind_20 : decode cX9_errorKind 20 = .ok (.iconst 4, 1) := by decide +kernel
theorem dX9_errorKind_21 : decode cX9_errorKind 21 = .ok (.irem, 1) := by decide +kernel
theorem dX9_errorKind_22 : decode cX9_errorKind 22 = .ok (.ireturn, 1) := by decide +kernel
set_option maxRecDepth 20000 in
theorem ggX9_done_X9_passThrows : GoodIn wsX9_done wsX9_passThrows := goodIn_r _ [9, 10, 4, 11, 12, 13, 8, 14, 158, 159, 160, 161, 162, 163, 164, 165, 166, 167, 168, 169, 170] (by decide +kernel) (by decide +kernel)
set_option maxRecDepth 20000 in
theorem gX9_done_X9_passThrows : GoodIn wsX9_done (wsV RX9 188 RX9 yX9_passThrows wsX9_passThrows) := goodIn_app (goodIn_of _ (by decide +kernel)) ggX9_done_X9_passThrows
set_option maxRecDepth 20000 in
theorem ggX9_done_X9_orderThrows : GoodIn wsX9_done wsX9_orderThrows := goodIn_r _ [18, 19, 20, 4, 21, 22, 23, 8, 24, 12, 13, 14, 25, 26, 27, 28, 158, 159, 160, 161, 162, 163, 164, 165, 166, 167, 168, 169, 170] (by decide +kernel) (by decide +kernel)
set_option maxRecDepth 20000 in
theorem gX9_done_X9_orderThrows : GoodIn wsX9_done (wsV RX9 208 RX9 yX9_orderThrows wsX9_orderThrows) := goodIn_app (goodIn_of _ (by decide +kernel)) ggX9_done_X9_orderThrows
set_option maxRecDepth 20000 in
theorem ggX9_done_X9_catchThrows : GoodIn wsX9_done wsX9_catchThrows := goodIn_r _ [32, 33, 21, 22, 23, 8, 24, 4, 12, 13, 14, 158, 159, 160, 161, 162, 163, 164, 165, 166, 167, 168, 169, 170] (by decide +kernel) (by decide +kernel)
set_option maxRecDepth 20000 in
theorem gX9_done_X9_catchThrows : GoodIn wsX9_done (wsV RX9 201 RX9 yX9_catchThrows wsX9_catchThrows) := goodIn_app (goodIn_of _ (by decide +kernel)) ggX9_done_X9_catchThrows
set_option maxRecDepth 20000 in
theorem ggX9_done_X9_payThrows : GoodIn wsX9_done wsX9_payThrows := goodIn_r _ [37, 33, 4, 38, 21, 22, 23, 8, 24, 12, 13, 14, 158, 159, 160, 161, 162, 163, 164, 165, 166, 167, 168, 169, 170] (by decide +kernel) (by decide +kernel)
set_option maxRecDepth 20000 in
theorem gX9_done_X9_payThrows : GoodIn wsX9_done (wsV RX9 221 RX9 yX9_payThrows wsX9_payThrows) := goodIn_app (goodIn_of _ (by decide +kernel)) ggX9_done_X9_payThrows
set_option maxRecDepth 20000 in
theorem ggX9_done_X9_moveThrows : GoodIn wsX9_done wsX9_moveThrows := goodIn_r _ [42, 4, 43, 44, 45, 8, 46, 12, 13, 14, 158, 159, 160, 161, 162, 163, 164, 165, 166, 167, 168, 169, 170] (by decide +kernel) (by decide +kernel)
set_option maxRecDepth 20000 in
theorem gX9_done_X9_moveThrows : GoodIn wsX9_done (wsV RX9 92 RX9 yX9_moveThrows wsX9_moveThrows) := goodIn_app (goodIn_of _ (by decide +kernel)) ggX9_done_X9_moveThrows
set_option maxRecDepth 20000 in
theorem ggX9_done_X9_doPass : GoodIn wsX9_done wsX9_doPass := goodIn_r _ [50, 4, 51, 52, 53, 8, 54, 55, 56, 57, 58, 59, 60, 61, 62, 63, 64, 65, 66, 67, 68, 69, 70, 71, 72, 73, 74, 75, 76, 77, 78, 79, 80, 81, 82, 83, 84, 85, 86, 87, 88, 25, 26, 27, 28, 89, 90, 91, 92, 93, 94, 95, 96, 97, 98, 99, 100, 101, 102, 103, 104, 105, 106, 107, 108, 109, 110, 111, 112, 113, 114, 115, 116, 117, 118, 119, 120, 121, 122, 123, 12, 13, 14, 124, 125, 126, 127, 128, 129, 130, 131, 132, 133, 134, 135, 136, 137, 138, 139, 140, 141, 142, 143, 144, 145, 158, 159, 160, 161, 162, 163, 164, 165, 166, 167, 168, 169, 170] (by decide +kernel) (by decide +kernel)
set_option maxRecDepth 20000 in
theorem gX9_done_X9_doPass : GoodIn wsX9_done (wsV RX9 191 RX9 yX9_doPass wsX9_doPass) := goodIn_app (goodIn_of _ (by decide +kernel)) ggX9_done_X9_doPass
set_option maxRecDepth 20000 in
theorem ggX9_done_X9_doOrder : GoodIn wsX9_done wsX9_doOrder := goodIn_r _ [149, 4, 158, 159, 160, 161, 162, 163, 164, 165, 166, 167, 168, 169, 170] (by decide +kernel) (by decide +kernel)
set_option maxRecDepth 20000 in
theorem gX9_done_X9_doOrder : GoodIn wsX9_done (wsV RX9 212 RX9 yX9_doOrder wsX9_doOrder) := goodIn_app (goodIn_of _ (by decide +kernel)) ggX9_done_X9_doOrder
set_option maxRecDepth 20000 in
theorem ggX9_done_X9_doPay : GoodIn wsX9_done wsX9_doPay := goodIn_r _ [153, 4, 158, 159, 160, 161, 162, 163, 164, 165, 166, 167, 168, 169, 170] (by decide +kernel) (by decide +kernel)
set_option maxRecDepth 20000 in
theorem gX9_done_X9_doPay : GoodIn wsX9_done (wsV RX9 224 RX9 yX9_doPay wsX9_doPay) := goodIn_app (goodIn_of _ (by decide +kernel)) ggX9_done_X9_doPay
set_option maxRecDepth 20000 in
theorem ggX9_done_X9_doMove : GoodIn wsX9_done wsX9_doMove := goodIn_r _ [157, 4, 158, 159, 160, 161, 162, 163, 164, 165, 166, 167, 168, 169, 170] (by decide +kernel) (by decide +kernel)
set_option maxRecDepth 20000 in
theorem gX9_done_X9_doMove : GoodIn wsX9_done (wsV RX9 95 RX9 yX9_doMove wsX9_doMove) := goodIn_app (goodIn_of _ (by decide +kernel)) ggX9_done_X9_doMove
theorem dX9_done_0 : decode cX9_done 0 = .ok (.aload_n 0, 1) := by decide +kernel
theorem dX9_done_1 : decode cX9_done 1 = .ok (.getfield 26, 3) := by decide +kernel
theorem dX9_done_4 : decode cX9_done 4 = .ok (.iconst 0, 1) := by decide +kernel
theorem dX9_done_5 : decode cX9_done 5 = .ok (.iaload, 1) := by decide +kernel
theorem dX9_done_6 : decode cX9_done 6 = .ok (.istore_n 1, 1) := by decide +kernel
theorem dX9_done_7 : decode cX9_done 7 = .ok (.aload_n 0, 1) := by decide +kernel
theorem dX9_done_8 : decode cX9_done 8 = .ok (.getfield 26, 3) := by decide +kernel
theorem dX9_done_11 : decode cX9_done 11 = .ok (.iconst 1, 1) := by decide +kernel
theorem dX9_done_12 : decode cX9_done 12 = .ok (.iaload, 1) := by decide +kernel
theorem dX9_done_13 : decode cX9_done 13 = .ok (.istore_n 2, 1) := by decide +kernel
theorem dX9_done_14 : decode cX9_done 14 = .ok (.aload_n 0, 1) := by decide +kernel
theorem dX9_done_15 : decode cX9_done 15 = .ok (.getfield 249, 3) := by decide +kernel
theorem dX9_done_18 : decode cX9_done 18 = .ok (.bipush 104, 2) := by decide +kernel
theorem dX9_done_20 : decode cX9_done 20 = .ok (.if_icmp .ne 11, 3) := by decide +kernel
theorem dX9_done_23 : decode cX9_done 23 = .ok (.aload_n 0, 1) := by decide +kernel
theorem dX9_done_24 : decode cX9_done 24 = .ok (.iload_n 1, 1) := by decide +kernel
theorem dX9_done_25 : decode cX9_done 25 = .ok (.invokevirtual 188, 3) := by decide +kernel
theorem dX9_done_28 : decode cX9_done 28 = .ok (.goto 69, 3) := by decide +kernel
theorem dX9_done_31 : decode cX9_done 31 = .ok (.aload_n 0, 1) := by decide +kernel
theorem dX9_done_32 : decode cX9_done 32 = .ok (.getfield 249, 3) := by decide +kernel
theorem dX9_done_35 : decode cX9_done 35 = .ok (.bipush 111, 2) := by decide +kernel
theorem dX9_done_37 : decode cX9_done 37 = .ok (.if_icmp .ne 18, 3) := by decide +kernel
theorem dX9_done_40 : decode cX9_done 40 = .ok (.aload_n 0, 1) := by decide +kernel
theorem dX9_done_41 : decode cX9_done 41 = .ok (.iload_n 1, 1) := by decide +kernel
theorem dX9_done_42 : decode cX9_done 42 = .ok (.iload_n 2, 1) := by decide +kernel
theorem dX9_done_43 : decode cX9_done 43 = .ok (.aload_n 0, 1) := by decide +kernel
theorem dX9_done_44 : decode cX9_done 44 = .ok (.getfield 26, 3) := by decide +kernel
theorem dX9_done_47 : decode cX9_done 47 = .ok (.iconst 2, 1) := by decide +kernel
theorem dX9_done_48 : decode cX9_done 48 = .ok (.iaload, 1) := by decide +kernel
theorem dX9_done_49 : decode cX9_done 49 = .ok (.invokevirtual 208, 3) := by decide +kernel
theorem dX9_done_52 : decode cX9_done 52 = .ok (.goto 45, 3) := by decide +kernel
theorem dX9_done_55 : decode cX9_done 55 = .ok (.aload_n 0, 1) := by decide +kernel
theorem dX9_done_56 : decode cX9_done 56 = .ok (.getfield 249, 3) := by decide +kernel
theorem dX9_done_59 : decode cX9_done 59 = .ok (.bipush 99, 2) := by decide +kernel
theorem dX9_done_61 : decode cX9_done 61 = .ok (.if_icmp .ne 12, 3) := by decide +kernel
theorem dX9_done_64 : decode cX9_done 64 = .ok (.aload_n 0, 1) := by decide +kernel
theorem dX9_done_65 : decode cX9_done 65 = .ok (.iload_n 1, 1) := by decide +kernel
theorem dX9_done_66 : decode cX9_done 66 = .ok (.iload_n 2, 1) := by decide +kernel
theorem dX9_done_67 : decode cX9_done 67 = .ok (.invokevirtual 201, 3) := by decide +kernel
theorem dX9_done_70 : decode cX9_done 70 = .ok (.goto 27, 3) := by decide +kernel
theorem dX9_done_73 : decode cX9_done 73 = .ok (.aload_n 0, 1) := by decide +kernel
theorem dX9_done_74 : decode cX9_done 74 = .ok (.getfield 249, 3) := by decide +kernel
theorem dX9_done_77 : decode cX9_done 77 = .ok (.bipush 112, 2) := by decide +kernel
theorem dX9_done_79 : decode cX9_done 79 = .ok (.if_icmp .ne 12, 3) := by decide +kernel
theorem dX9_done_82 : decode cX9_done 82 = .ok (.aload_n 0, 1) := by decide +kernel
theorem dX9_done_83 : decode cX9_done 83 = .ok (.iload_n 1, 1) := by decide +kernel
theorem dX9_done_84 : decode cX9_done 84 = .ok (.iload_n 2, 1) := by decide +kernel
theorem dX9_done_85 : decode cX9_done 85 = .ok (.invokevirtual 221, 3) := by decide +kernel
theorem dX9_done_88 : decode cX9_done 88 = .ok (.goto 9, 3) := by decide +kernel
theorem dX9_done_91 : decode cX9_done 91 = .ok (.aload_n 0, 1) := by decide +kernel
theorem dX9_done_92 : decode cX9_done 92 = .ok (.iload_n 1, 1) := by decide +kernel
theorem dX9_done_93 : decode cX9_done 93 = .ok (.iload_n 2, 1) := by decide +kernel
theorem dX9_done_94 : decode cX9_done 94 = .ok (.invokevirtual 92, 3) := by decide +kernel
theorem dX9_done_97 : decode cX9_done 97 = .ok (.istore_n 3, 1) := by decide +kernel
theorem dX9_done_98 : decode cX9_done 98 = .ok (.iload_n 3, 1) := by decide +kernel
theorem dX9_done_99 : decode cX9_done 99 = .ok (.ifCond .le 5, 3) := by decide +kernel
theorem dX9_done_102 : decode cX9_done 102 = .ok (.iconst 0, 1) := by decide +kernel
theorem dX9_done_103 : decode cX9_done 103 = .ok (.ireturn, 1) := by decide +kernel
theorem dX9_done_104 : decode cX9_done 104 = .ok (.aload_n 0, 1) := by decide +kernel
theorem dX9_done_105 : decode cX9_done 105 = .ok (.getfield 249, 3) := by decide +kernel
theorem dX9_done_108 : decode cX9_done 108 = .ok (.bipush 104, 2) := by decide +kernel
theorem dX9_done_110 : decode cX9_done 110 = .ok (.if_icmp .ne 13, 3) := by decide +kernel
theorem dX9_done_113 : decode cX9_done 113 = .ok (.aload_n 0, 1) := by decide +kernel
theorem dX9_done_114 : decode cX9_done 114 = .ok (.iload_n 1, 1) := by decide +kernel
theorem dX9_done_115 : decode cX9_done 115 = .ok (.invokevirtual 191, 3) := by decide +kernel
theorem dX9_done_118 : decode cX9_done 118 = .ok (.istore 4, 2) := by decide +kernel
theorem dX9_done_120 : decode cX9_done 120 = .ok (.goto 85, 3) := by decide +kernel
theorem dX9_done_123 : decode cX9_done 123 = .ok (.aload_n 0, 1) := by decide +kernel
theorem dX9_done_124 : decode cX9_done 124 = .ok (.getfield 249, 3) := by decide +kernel
theorem dX9_done_127 : decode cX9_done 127 = .ok (.bipush 111, 2) := by decide +kernel
theorem dX9_done_129 : decode cX9_done 129 = .ok (.if_icmp .ne 24, 3) := by decide +kernel
theorem dX9_done_132 : decode cX9_done 132 = .ok (.aload_n 0, 1) := by decide +kernel
theorem dX9_done_133 : decode cX9_done 133 = .ok (.iload_n 1, 1) := by decide +kernel
theorem dX9_done_134 : decode cX9_done 134 = .ok (.iload_n 2, 1) := by decide +kernel
theorem dX9_done_135 : decode cX9_done 135 = .ok (.aload_n 0, 1) := by decide +kernel
theorem dX9_done_136 : decode cX9_done 136 = .ok (.getfield 26, 3) := by decide +kernel
theorem dX9_done_139 : decode cX9_done 139 = .ok (.iconst 2, 1) := by decide +kernel
theorem dX9_done_140 : decode cX9_done 140 = .ok (.iaload, 1) := by decide +kernel
theorem dX9_done_141 : decode cX9_done 141 = .ok (.aload_n 0, 1) := by decide +kernel
theorem dX9_done_142 : decode cX9_done 142 = .ok (.getfield 258, 3) := by decide +kernel
theorem dX9_done_145 : decode cX9_done 145 = .ok (.invokevirtual 212, 3) := by decide +kernel
theorem dX9_done_148 : decode cX9_done 148 = .ok (.istore 4, 2) := by decide +kernel
theorem dX9_done_150 : decode cX9_done 150 = .ok (.goto 55, 3) := by decide +kernel
theorem dX9_done_153 : decode cX9_done 153 = .ok (.aload_n 0, 1) := by decide +kernel
theorem dX9_done_154 : decode cX9_done 154 = .ok (.getfield 249, 3) := by decide +kernel
theorem dX9_done_157 : decode cX9_done 157 = .ok (.bipush 99, 2) := by decide +kernel
theorem dX9_done_159 : decode cX9_done 159 = .ok (.if_icmp .ne 18, 3) := by decide +kernel
theorem dX9_done_162 : decode cX9_done 162 = .ok (.aload_n 0, 1) := by decide +kernel
theorem dX9_done_163 : decode cX9_done 163 = .ok (.getfield 7, 3) := by decide +kernel
theorem dX9_done_166 : decode cX9_done 166 = .ok (.sipush 507, 3) := by decide +kernel
theorem dX9_done_169 : decode cX9_done 169 = .ok (.iload_n 1, 1) := by decide +kernel
theorem dX9_done_170 : decode cX9_done 170 = .ok (.iadd, 1) := by decide +kernel
theorem dX9_done_171 : decode cX9_done 171 = .ok (.iload_n 2, 1) := by decide +kernel
theorem dX9_done_172 : decode cX9_done 172 = .ok (.i2l, 1) := by decide +kernel
theorem dX9_done_173 : decode cX9_done 173 = .ok (.lastore, 1) := by decide +kernel
theorem dX9_done_174 : decode cX9_done 174 = .ok (.goto 31, 3) := by decide +kernel
theorem dX9_done_177 : decode cX9_done 177 = .ok (.aload_n 0, 1) := by decide +kernel
theorem dX9_done_178 : decode cX9_done 178 = .ok (.getfield 249, 3) := by decide +kernel
theorem dX9_done_181 : decode cX9_done 181 = .ok (.bipush 112, 2) := by decide +kernel
theorem dX9_done_183 : decode cX9_done 183 = .ok (.if_icmp .ne 14, 3) := by decide +kernel
theorem dX9_done_186 : decode cX9_done 186 = .ok (.aload_n 0, 1) := by decide +kernel
theorem dX9_done_187 : decode cX9_done 187 = .ok (.iload_n 1, 1) := by decide +kernel
theorem dX9_done_188 : decode cX9_done 188 = .ok (.iload_n 2, 1) := by decide +kernel
theorem dX9_done_189 : decode cX9_done 189 = .ok (.invokevirtual 224, 3) := by decide +kernel
theorem dX9_done_192 : decode cX9_done 192 = .ok (.istore 4, 2) := by decide +kernel
theorem dX9_done_194 : decode cX9_done 194 = .ok (.goto 11, 3) := by decide +kernel
theorem dX9_done_197 : decode cX9_done 197 = .ok (.aload_n 0, 1) := by decide +kernel
theorem dX9_done_198 : decode cX9_done 198 = .ok (.iload_n 1, 1) := by decide +kernel
theorem dX9_done_199 : decode cX9_done 199 = .ok (.iload_n 2, 1) := by decide +kernel
theorem dX9_done_200 : decode cX9_done 200 = .ok (.invokevirtual 95, 3) := by decide +kernel
theorem dX9_done_203 : decode cX9_done 203 = .ok (.istore 4, 2) := by decide +kernel
theorem dX9_done_205 : decode cX9_done 205 = .ok (.iconst 1, 1) := by decide +kernel
theorem dX9_done_206 : decode cX9_done 206 = .ok (.ireturn, 1) := by decide +kernel
set_option maxRecDepth 20000 in
theorem ggX9_execute_X9_error : GoodIn wsX9_execute wsX9_error := goodIn_r _ [9, 3, 2, 4, 10, 11, 12, 8, 13, 14, 15, 16, 17, 18, 19, 20, 21, 22, 23, 24, 25, 26, 27, 28, 29, 30, 194, 195, 196, 197, 198, 199, 200, 201, 202, 203, 204, 205, 206] (by decide +kernel) (by decide +kernel)
set_option maxRecDepth 20000 in
theorem gX9_execute_X9_error : GoodIn wsX9_execute (wsV RX9 274 RX9 yX9_error wsX9_error) := goodIn_app (goodIn_of _ (by decide +kernel)) ggX9_execute_X9_error
set_option maxRecDepth 20000 in
theorem ggX9_execute_X9_refuse : GoodIn wsX9_execute wsX9_refuse := goodIn_r _ [34, 1, 194, 195, 196, 197, 198, 199, 200, 201, 202, 203, 204, 205, 206] (by decide +kernel) (by decide +kernel)
set_option maxRecDepth 20000 in
theorem gX9_execute_X9_refuse : GoodIn wsX9_execute (wsV RX9 60 RX9 yX9_refuse wsX9_refuse) := goodIn_app (goodIn_of _ (by decide +kernel)) ggX9_execute_X9_refuse
set_option maxRecDepth 20000 in
theorem ggX9_execute_X9_save : GoodIn wsX9_execute wsX9_save := goodIn_r _ [38, 39, 40, 41, 194, 195, 196, 197, 198, 199, 200, 201, 202, 203, 204, 205, 206] (by decide +kernel) (by decide +kernel)
set_option maxRecDepth 20000 in
theorem gX9_execute_X9_save : GoodIn wsX9_execute (wsV RX9 66 RX9 yX9_save wsX9_save) := goodIn_app (goodIn_of _ (by decide +kernel)) ggX9_execute_X9_save
set_option maxRecDepth 20000 in
theorem ggX9_execute_X9_readOne : GoodIn wsX9_execute wsX9_readOne := goodIn_r _ [13, 3, 14, 15, 16, 17, 18, 19, 20, 21, 8, 22, 23, 24, 25, 26, 194, 195, 196, 197, 198, 199, 200, 201, 202, 203, 204, 205, 206] (by decide +kernel) (by decide +kernel)
set_option maxRecDepth 20000 in
theorem gX9_execute_X9_readOne : GoodIn wsX9_execute (wsV RX9 267 RX9 yX9_readOne wsX9_readOne) := goodIn_app (goodIn_of _ (by decide +kernel)) ggX9_execute_X9_readOne
set_option maxRecDepth 20000 in
theorem ggX9_execute_X9_done : GoodIn wsX9_execute wsX9_done := goodIn_r _ [45, 19, 3, 16, 41, 46, 47, 48, 8, 49, 17, 50, 20, 21, 22, 51, 52, 53, 54, 55, 56, 57, 58, 59, 60, 61, 62, 63, 64, 65, 66, 67, 68, 69, 70, 71, 72, 73, 74, 75, 76, 77, 78, 79, 80, 81, 82, 83, 84, 85, 86, 87, 88, 89, 90, 91, 92, 93, 94, 95, 96, 97, 98, 99, 100, 101, 102, 103, 104, 105, 106, 107, 108, 109, 110, 111, 112, 113, 114, 115, 116, 117, 118, 119, 120, 121, 122, 123, 124, 125, 126, 127, 128, 129, 130, 131, 132, 133, 134, 135, 136, 137, 138, 139, 140, 141, 142, 143, 144, 145, 146, 147, 148, 149, 150, 151, 152, 153, 154, 155, 156, 157, 158, 159, 160, 161, 162, 163, 164, 165, 166, 167, 168, 169, 170, 171, 172, 173, 174, 175, 176, 177, 178, 179, 180, 181, 182, 183, 184, 185, 186, 187, 188, 189, 190, 191, 192, 193, 194, 195, 196, 197, 198, 199, 200, 201, 202, 203, 204, 205, 206] (by decide +kernel) (by decide +kernel)
set_option maxRecDepth 20000 in
theorem gX9_execute_X9_done : GoodIn wsX9_execute (wsV RX9 277 RX9 yX9_done wsX9_done) := goodIn_app (goodIn_of _ (by decide +kernel)) ggX9_execute_X9_done
theorem dX9_execute_0 : decode cX9_execute 0 = .ok (.aload_n 0, 1) := by decide +kernel
theorem dX9_execute_1 : decode cX9_execute 1 = .ok (.iconst 0, 1) := by decide +kernel
theorem dX9_execute_2 : decode cX9_execute 2 = .ok (.putfield 43, 3) := by decide +kernel
theorem dX9_execute_5 : decode cX9_execute 5 = .ok (.aload_n 0, 1) := by decide +kernel
theorem dX9_execute_6 : decode cX9_execute 6 = .ok (.invokevirtual 274, 3) := by decide +kernel
theorem dX9_execute_9 : decode cX9_execute 9 = .ok (.iconst (-1), 1) := by decide +kernel
theorem dX9_execute_10 : decode cX9_execute 10 = .ok (.if_icmp .eq 9, 3) := by decide +kernel
theorem dX9_execute_13 : decode cX9_execute 13 = .ok (.aload_n 0, 1) := by decide +kernel
theorem dX9_execute_14 : decode cX9_execute 14 = .ok (.iconst 1, 1) := by decide +kernel
theorem dX9_execute_15 : decode cX9_execute 15 = .ok (.invokevirtual 60, 3) := by decide +kernel
theorem dX9_execute_18 : decode cX9_execute 18 = .ok (.ireturn, 1) := by decide +kernel
theorem dX9_execute_19 : decode cX9_execute 19 = .ok (.aload_n 0, 1) := by decide +kernel
theorem dX9_execute_20 : decode cX9_execute 20 = .ok (.invokevirtual 66, 3) := by decide +kernel
theorem dX9_execute_23 : decode cX9_execute 23 = .ok (.iconst 0, 1) := by decide +kernel
theorem dX9_execute_24 : decode cX9_execute 24 = .ok (.istore_n 1, 1) := by decide +kernel
theorem dX9_execute_25 : decode cX9_execute 25 = .ok (.aload_n 0, 1) := by decide +kernel
theorem dX9_execute_26 : decode cX9_execute 26 = .ok (.getfield 246, 3) := by decide +kernel
theorem dX9_execute_29 : decode cX9_execute 29 = .ok (.ifCond .le 7, 3) := by decide +kernel
theorem dX9_execute_32 : decode cX9_execute 32 = .ok (.iconst 1, 1) := by decide +kernel
theorem dX9_execute_33 : decode cX9_execute 33 = .ok (.goto 4, 3) := by decide +kernel
theorem dX9_execute_36 : decode cX9_execute 36 = .ok (.iconst 0, 1) := by decide +kernel
theorem dX9_execute_37 : decode cX9_execute 37 = .ok (.istore_n 2, 1) := by decide +kernel
theorem dX9_execute_38 : decode cX9_execute 38 = .ok (.aload_n 0, 1) := by decide +kernel
theorem dX9_execute_39 : decode cX9_execute 39 = .ok (.iconst 0, 1) := by decide +kernel
theorem dX9_execute_40 : decode cX9_execute 40 = .ok (.putfield 249, 3) := by decide +kernel
theorem dX9_execute_43 : decode cX9_execute 43 = .ok (.iconst 0, 1) := by decide +kernel
theorem dX9_execute_44 : decode cX9_execute 44 = .ok (.istore_n 3, 1) := by decide +kernel
theorem dX9_execute_45 : decode cX9_execute 45 = .ok (.iload_n 3, 1) := by decide +kernel
theorem dX9_execute_46 : decode cX9_execute 46 = .ok (.aload_n 0, 1) := by decide +kernel
theorem dX9_execute_47 : decode cX9_execute 47 = .ok (.getfield 246, 3) := by decide +kernel
theorem dX9_execute_50 : decode cX9_execute 50 = .ok (.if_icmp .ge 68, 3) := by decide +kernel
theorem dX9_execute_53 : decode cX9_execute 53 = .ok (.iload_n 2, 1) := by decide +kernel
theorem dX9_execute_54 : decode cX9_execute 54 = .ok (.ifCond .eq 64, 3) := by decide +kernel
theorem dX9_execute_57 : decode cX9_execute 57 = .ok (.aload_n 0, 1) := by decide +kernel
theorem dX9_execute_58 : decode cX9_execute 58 = .ok (.aload_n 0, 1) := by decide +kernel
theorem dX9_execute_59 : decode cX9_execute 59 = .ok (.getfield 23, 3) := by decide +kernel
theorem dX9_execute_62 : decode cX9_execute 62 = .ok (.iload_n 3, 1) := by decide +kernel
theorem dX9_execute_63 : decode cX9_execute 63 = .ok (.iaload, 1) := by decide +kernel
theorem dX9_execute_64 : decode cX9_execute 64 = .ok (.invokevirtual 267, 3) := by decide +kernel
theorem dX9_execute_67 : decode cX9_execute 67 = .ok (.istore 4, 2) := by decide +kernel
theorem dX9_execute_69 : decode cX9_execute 69 = .ok (.aload_n 0, 1) := by decide +kernel
theorem dX9_execute_70 : decode cX9_execute 70 = .ok (.getfield 23, 3) := by decide +kernel
theorem dX9_execute_73 : decode cX9_execute 73 = .ok (.iload_n 3, 1) := by decide +kernel
theorem dX9_execute_74 : decode cX9_execute 74 = .ok (.iaload, 1) := by decide +kernel
theorem dX9_execute_75 : decode cX9_execute 75 = .ok (.bipush 59, 2) := by decide +kernel
theorem dX9_execute_77 : decode cX9_execute 77 = .ok (.if_icmp .eq 13, 3) := by decide +kernel
theorem dX9_execute_80 : decode cX9_execute 80 = .ok (.iload_n 3, 1) := by decide +kernel
theorem dX9_execute_81 : decode cX9_execute 81 = .ok (.aload_n 0, 1) := by decide +kernel
theorem dX9_execute_82 : decode cX9_execute 82 = .ok (.getfield 246, 3) := by decide +kernel
theorem dX9_execute_85 : decode cX9_execute 85 = .ok (.iconst 1, 1) := by decide +kernel
theorem dX9_execute_86 : decode cX9_execute 86 = .ok (.isub, 1) := by decide +kernel
theorem dX9_execute_87 : decode cX9_execute 87 = .ok (.if_icmp .ne 25, 3) := by decide +kernel
theorem dX9_execute_90 : decode cX9_execute 90 = .ok (.aload_n 0, 1) := by decide +kernel
theorem dX9_execute_91 : decode cX9_execute 91 = .ok (.invokevirtual 277, 3) := by decide +kernel
theorem dX9_execute_94 : decode cX9_execute 94 = .ok (.istore_n 2, 1) := by decide +kernel
theorem dX9_execute_95 : decode cX9_execute 95 = .ok (.iload_n 1, 1) := by decide +kernel
theorem dX9_execute_96 : decode cX9_execute 96 = .ok (.iload_n 2, 1) := by decide +kernel
theorem dX9_execute_97 : decode cX9_execute 97 = .ok (.ifCond .eq 7, 3) := by decide +kernel
theorem dX9_execute_100 : decode cX9_execute 100 = .ok (.iconst 1, 1) := by decide +kernel
theorem dX9_execute_101 : decode cX9_execute 101 = .ok (.goto 4, 3) := by decide +kernel
theorem dX9_execute_104 : decode cX9_execute 104 = .ok (.iconst 0, 1) := by decide +kernel
theorem dX9_execute_105 : decode cX9_execute 105 = .ok (.iadd, 1) := by decide +kernel
theorem dX9_execute_106 : decode cX9_execute 106 = .ok (.istore_n 1, 1) := by decide +kernel
theorem dX9_execute_107 : decode cX9_execute 107 = .ok (.aload_n 0, 1) := by decide +kernel
theorem dX9_execute_108 : decode cX9_execute 108 = .ok (.iconst 0, 1) := by decide +kernel
theorem dX9_execute_109 : decode cX9_execute 109 = .ok (.putfield 249, 3) := by decide +kernel
theorem dX9_execute_112 : decode cX9_execute 112 = .ok (.iinc 3 1, 3) := by decide +kernel
theorem dX9_execute_115 : decode cX9_execute 115 = .ok (.goto (-70), 3) := by decide +kernel
theorem dX9_execute_118 : decode cX9_execute 118 = .ok (.aload_n 0, 1) := by decide +kernel
theorem dX9_execute_119 : decode cX9_execute 119 = .ok (.iconst 0, 1) := by decide +kernel
theorem dX9_execute_120 : decode cX9_execute 120 = .ok (.putfield 246, 3) := by decide +kernel
theorem dX9_execute_123 : decode cX9_execute 123 = .ok (.iload_n 1, 1) := by decide +kernel
theorem dX9_execute_124 : decode cX9_execute 124 = .ok (.ireturn, 1) := by decide +kernel
set_option maxRecDepth 20000 in
theorem ggX9_undo_X9_refuse : GoodIn wsX9_undo wsX9_refuse := goodIn_r _ [9, 1, 10, 11, 12, 13, 14, 15, 16, 17, 18, 19, 20, 21, 22] (by decide +kernel) (by decide +kernel)
set_option maxRecDepth 20000 in
theorem gX9_undo_X9_refuse : GoodIn wsX9_undo (wsV RX9 60 RX9 yX9_refuse wsX9_refuse) := goodIn_app (goodIn_of _ (by decide +kernel)) ggX9_undo_X9_refuse
theorem dX9_undo_0 : decode cX9_undo 0 = .ok (.aload_n 0, 1) := by decide +kernel
theorem dX9_undo_1 : decode cX9_undo 1 = .ok (.iconst 0, 1) := by decide +kernel
theorem dX9_undo_2 : decode cX9_undo 2 = .ok (.putfield 43, 3) := by decide +kernel
theorem dX9_undo_5 : decode cX9_undo 5 = .ok (.aload_n 0, 1) := by decide +kernel
theorem dX9_undo_6 : decode cX9_undo 6 = .ok (.getfield 51, 3) := by decide +kernel
theorem dX9_undo_9 : decode cX9_undo 9 = .ok (.ifCond .ne 9, 3) := by decide +kernel
theorem dX9_undo_12 : decode cX9_undo 12 = .ok (.aload_n 0, 1) := by decide +kernel
theorem dX9_undo_13 : decode cX9_undo 13 = .ok (.iconst 1, 1) := by decide +kernel
theorem dX9_undo_14 : decode cX9_undo 14 = .ok (.invokevirtual 60, 3) := by decide +kernel
theorem dX9_undo_17 : decode cX9_undo 17 = .ok (.ireturn, 1) := by decide +kernel
theorem dX9_undo_18 : decode cX9_undo 18 = .ok (.aload_n 0, 1) := by decide +kernel
theorem dX9_undo_19 : decode cX9_undo 19 = .ok (.dup, 1) := by decide +kernel
theorem dX9_undo_20 : decode cX9_undo 20 = .ok (.getfield 51, 3) := by decide +kernel
theorem dX9_undo_23 : decode cX9_undo 23 = .ok (.iconst 1, 1) := by decide +kernel
theorem dX9_undo_24 : decode cX9_undo 24 = .ok (.isub, 1) := by decide +kernel
theorem dX9_undo_25 : decode cX9_undo 25 = .ok (.putfield 51, 3) := by decide +kernel
theorem dX9_undo_28 : decode cX9_undo 28 = .ok (.iconst 0, 1) := by decide +kernel
theorem dX9_undo_29 : decode cX9_undo 29 = .ok (.istore_n 1, 1) := by decide +kernel
theorem dX9_undo_30 : decode cX9_undo 30 = .ok (.iload_n 1, 1) := by decide +kernel
theorem dX9_undo_31 : decode cX9_undo 31 = .ok (.sipush 1888, 3) := by decide +kernel
theorem dX9_undo_34 : decode cX9_undo 34 = .ok (.if_icmp .ge 30, 3) := by decide +kernel
theorem dX9_undo_37 : decode cX9_undo 37 = .ok (.aload_n 0, 1) := by decide +kernel
theorem dX9_undo_38 : decode cX9_undo 38 = .ok (.getfield 7, 3) := by decide +kernel
theorem dX9_undo_41 : decode cX9_undo 41 = .ok (.iload_n 1, 1) := by decide +kernel
theorem dX9_undo_42 : decode cX9_undo 42 = .ok (.aload_n 0, 1) := by decide +kernel
theorem dX9_undo_43 : decode cX9_undo 43 = .ok (.getfield 13, 3) := by decide +kernel
theorem dX9_undo_46 : decode cX9_undo 46 = .ok (.aload_n 0, 1) := by decide +kernel
theorem dX9_undo_47 : decode cX9_undo 47 = .ok (.getfield 51, 3) := by decide +kernel
theorem dX9_undo_50 : decode cX9_undo 50 = .ok (.sipush 1888, 3) := by decide +kernel
theorem dX9_undo_53 : decode cX9_undo 53 = .ok (.imul, 1) := by decide +kernel
theorem dX9_undo_54 : decode cX9_undo 54 = .ok (.iload_n 1, 1) := by decide +kernel
theorem dX9_undo_55 : decode cX9_undo 55 = .ok (.iadd, 1) := by decide +kernel
theorem dX9_undo_56 : decode cX9_undo 56 = .ok (.laload, 1) := by decide +kernel
theorem dX9_undo_57 : decode cX9_undo 57 = .ok (.lastore, 1) := by decide +kernel
theorem dX9_undo_58 : decode cX9_undo 58 = .ok (.iinc 1 1, 3) := by decide +kernel
theorem dX9_undo_61 : decode cX9_undo 61 = .ok (.goto (-31), 3) := by decide +kernel
theorem dX9_undo_64 : decode cX9_undo 64 = .ok (.aload_n 0, 1) := by decide +kernel
theorem dX9_undo_65 : decode cX9_undo 65 = .ok (.getfield 51, 3) := by decide +kernel
theorem dX9_undo_68 : decode cX9_undo 68 = .ok (.ireturn, 1) := by decide +kernel
theorem dJ9_min_7cf53_0 : decode cJ9_min_7cf53 0 = .ok (.iload_n 0, 1) := by decide +kernel
theorem dJ9_min_7cf53_1 : decode cJ9_min_7cf53 1 = .ok (.iload_n 1, 1) := by decide +kernel
theorem dJ9_min_7cf53_2 : decode cJ9_min_7cf53 2 = .ok (.if_icmp .gt 7, 3) := by decide +kernel
theorem dJ9_min_7cf53_5 : decode cJ9_min_7cf53 5 = .ok (.iload_n 0, 1) := by decide +kernel
theorem dJ9_min_7cf53_6 : decode cJ9_min_7cf53 6 = .ok (.goto 4, 3) := by decide +kernel
theorem dJ9_min_7cf53_9 : decode cJ9_min_7cf53 9 = .ok (.iload_n 1, 1) := by decide +kernel
theorem dJ9_min_7cf53_10 : decode cJ9_min_7cf53 10 = .ok (.ireturn, 1) := by decide +kernel
set_option maxRecDepth 20000 in
theorem ggL_addSilo_X8_addSilo : GoodIn wsL_addSilo wsX8_addSilo := goodIn_ca (goodIn_ca (goodIn_ca (goodIn_r _ [7, 8, 9, 10, 11, 12, 13, 6, 14, 15, 16, 17, 18, 19, 20, 21, 22, 23, 24, 25, 26, 27, 28, 29, 30, 31, 32, 33, 34, 35, 36, 37, 38, 39, 40, 41, 42, 43, 44, 45, 46, 47, 48, 49, 50, 51, 52, 53, 54, 55, 56, 57, 58, 59, 60, 61, 62, 63, 64, 65, 66, 67, 68, 69, 70, 71, 72, 73, 74, 75, 76, 77, 78, 79, 80, 81, 82, 83, 84, 85, 86, 87, 88, 89, 90, 91, 92, 93, 94, 95, 96, 97, 98, 99, 100, 101, 102, 103, 104, 105, 106, 107, 108, 109, 110, 111, 112, 113, 114, 115, 116, 117, 118, 119, 120, 121, 122, 123, 124, 125, 126, 127, 128, 129, 130, 131, 132, 133, 134, 135, 136, 137, 138, 139, 140, 141, 142, 143, 144, 145, 146, 147, 148, 149, 150, 151, 152, 153, 154, 155, 156, 157, 158, 159, 160, 161, 162, 163, 164, 165, 166, 167, 168, 169, 170, 171, 172, 173, 174, 175, 176, 177, 178, 179, 180, 181, 182, 183, 184, 185, 186, 187] (by decide +kernel) (by decide +kernel)) (goodIn_sub (fun _ h => List.mem_cons_of_mem _ (List.mem_append_left _ (List.mem_append_left _ (List.mem_append_right _ h)))) (by decide +kernel))) (goodIn_sub (fun _ h => List.mem_cons_of_mem _ (List.mem_append_left _ (List.mem_append_right _ h))) (by decide +kernel))) (goodIn_sub (fun _ h => List.mem_cons_of_mem _ (List.mem_append_right _ h)) (by decide +kernel))
set_option maxRecDepth 20000 in
theorem gL_addSilo_X8_addSilo : GoodIn wsL_addSilo (wsV RL 7 RX8 yX8_addSilo wsX8_addSilo) := goodIn_app (goodIn_of _ (by decide +kernel)) ggL_addSilo_X8_addSilo
