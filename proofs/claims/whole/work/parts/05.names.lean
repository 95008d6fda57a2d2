theorem dX9_hour_0 : decode cX9_hour 0 = .ok (.aload_n 0, 1) := by decide +kernel
theorem dX9_hour_1 : decode cX9_hour 1 = .ok (.invokevirtual 169, 3) := by decide +kernel
theorem dX9_hour_4 : decode cX9_hour 4 = .ok (.aload_n 0, 1) := by decide +kernel
theorem dX9_hour_5 : decode cX9_hour 5 = .ok (.invokevirtual 172, 3) := by decide +kernel
theorem dX9_hour_8 : decode cX9_hour 8 = .ok (.aload_n 0, 1) := by decide +kernel
theorem dX9_hour_9 : decode cX9_hour 9 = .ok (.invokevirtual 175, 3) := by decide +kernel
theorem dX9_hour_12 : decode cX9_hour 12 = .ok (.aload_n 0, 1) := by decide +kernel
theorem dX9_hour_13 : decode cX9_hour 13 = .ok (.invokevirtual 178, 3) := by decide +kernel
theorem dX9_hour_16 : decode cX9_hour 16 = .ok (.iconst 0, 1) := by decide +kernel
theorem dX9_hour_17 : decode cX9_hour 17 = .ok (.istore_n 1, 1) := by decide +kernel
theorem dX9_hour_18 : decode cX9_hour 18 = .ok (.iload_n 1, 1) := by decide +kernel
theorem dX9_hour_19 : decode cX9_hour 19 = .ok (.i2l, 1) := by decide +kernel
theorem dX9_hour_20 : decode cX9_hour 20 = .ok (.aload_n 0, 1) := by decide +kernel
theorem dX9_hour_21 : decode cX9_hour 21 = .ok (.getfield 7, 3) := by decide +kernel
theorem dX9_hour_24 : decode cX9_hour 24 = .ok (.sipush 1880, 3) := by decide +kernel
theorem dX9_hour_27 : decode cX9_hour 27 = .ok (.laload, 1) := by decide +kernel
theorem dX9_hour_28 : decode cX9_hour 28 = .ok (.lcmp, 1) := by decide +kernel
theorem dX9_hour_29 : decode cX9_hour 29 = .ok (.ifCond .ge 51, 3) := by decide +kernel
theorem dX9_hour_32 : decode cX9_hour 32 = .ok (.iconst 0, 1) := by decide +kernel
theorem dX9_hour_33 : decode cX9_hour 33 = .ok (.istore_n 2, 1) := by decide +kernel
theorem dX9_hour_34 : decode cX9_hour 34 = .ok (.iload_n 2, 1) := by decide +kernel
theorem dX9_hour_35 : decode cX9_hour 35 = .ok (.i2l, 1) := by decide +kernel
theorem dX9_hour_36 : decode cX9_hour 36 = .ok (.aload_n 0, 1) := by decide +kernel
theorem dX9_hour_37 : decode cX9_hour 37 = .ok (.getfield 7, 3) := by decide +kernel
theorem dX9_hour_40 : decode cX9_hour 40 = .ok (.bipush 47, 2) := by decide +kernel
theorem dX9_hour_42 : decode cX9_hour 42 = .ok (.iload_n 1, 1) := by decide +kernel
theorem dX9_hour_43 : decode cX9_hour 43 = .ok (.iadd, 1) := by decide +kernel
theorem dX9_hour_44 : decode cX9_hour 44 = .ok (.laload, 1) := by decide +kernel
theorem dX9_hour_45 : decode cX9_hour 45 = .ok (.lcmp, 1) := by decide +kernel
theorem dX9_hour_46 : decode cX9_hour 46 = .ok (.ifCond .ge 28, 3) := by decide +kernel
theorem dX9_hour_49 : decode cX9_hour 49 = .ok (.aload_n 0, 1) := by decide +kernel
theorem dX9_hour_50 : decode cX9_hour 50 = .ok (.getfield 7, 3) := by decide +kernel
theorem dX9_hour_53 : decode cX9_hour 53 = .ok (.sipush 357, 3) := by decide +kernel
theorem dX9_hour_56 : decode cX9_hour 56 = .ok (.bipush 30, 2) := by decide +kernel
theorem dX9_hour_58 : decode cX9_hour 58 = .ok (.iload_n 1, 1) := by decide +kernel
theorem dX9_hour_59 : decode cX9_hour 59 = .ok (.imul, 1) := by decide +kernel
theorem dX9_hour_60 : decode cX9_hour 60 = .ok (.iadd, 1) := by decide +kernel
theorem dX9_hour_61 : decode cX9_hour 61 = .ok (.iload_n 2, 1) := by decide +kernel
theorem dX9_hour_62 : decode cX9_hour 62 = .ok (.iadd, 1) := by decide +kernel
theorem dX9_hour_63 : decode cX9_hour 63 = .ok (.dup2, 1) := by decide +kernel
theorem dX9_hour_64 : decode cX9_hour 64 = .ok (.laload, 1) := by decide +kernel
theorem dX9_hour_65 : decode cX9_hour 65 = .ok (.lconst 1, 1) := by decide +kernel
theorem dX9_hour_66 : decode cX9_hour 66 = .ok (.ladd, 1) := by decide +kernel
theorem dX9_hour_67 : decode cX9_hour 67 = .ok (.lastore, 1) := by decide +kernel
theorem dX9_hour_68 : decode cX9_hour 68 = .ok (.iinc 2 1, 3) := by decide +kernel
theorem dX9_hour_71 : decode cX9_hour 71 = .ok (.goto (-37), 3) := by decide +kernel
theorem dX9_hour_74 : decode cX9_hour 74 = .ok (.iinc 1 1, 3) := by decide +kernel
theorem dX9_hour_77 : decode cX9_hour 77 = .ok (.goto (-59), 3) := by decide +kernel
theorem dX9_hour_80 : decode cX9_hour 80 = .ok (.aload_n 0, 1) := by decide +kernel
theorem dX9_hour_81 : decode cX9_hour 81 = .ok (.getfield 7, 3) := by decide +kernel
theorem dX9_hour_84 : decode cX9_hour 84 = .ok (.sipush 1875, 3) := by decide +kernel
theorem dX9_hour_87 : decode cX9_hour 87 = .ok (.dup2, 1) := by decide +kernel
theorem dX9_hour_88 : decode cX9_hour 88 = .ok (.laload, 1) := by decide +kernel
theorem dX9_hour_89 : decode cX9_hour 89 = .ok (.lconst 1, 1) := by decide +kernel
theorem dX9_hour_90 : decode cX9_hour 90 = .ok (.ladd, 1) := by decide +kernel
theorem dX9_hour_91 : decode cX9_hour 91 = .ok (.lastore, 1) := by decide +kernel
theorem dX9_hour_92 : decode cX9_hour 92 = .ok (.return_, 1) := by decide +kernel
set_option maxRecDepth 20000 in
theorem ggX9_passThrows_X9_in : GoodIn wsX9_passThrows wsX9_in := goodIn_r _ [7] (by decide +kernel) (by decide +kernel)
set_option maxRecDepth 20000 in
theorem gX9_passThrows_X9_in : GoodIn wsX9_passThrows (va_wsS RX9 47 yX9_in wsX9_in) := goodIn_app (goodIn_of _ (by decide +kernel)) ggX9_passThrows_X9_in
theorem dX9_passThrows_0 : decode cX9_passThrows 0 = .ok (.iload_n 1, 1) := by decide +kernel
theorem dX9_passThrows_1 : decode cX9_passThrows 1 = .ok (.i2l, 1) := by decide +kernel
theorem dX9_passThrows_2 : decode cX9_passThrows 2 = .ok (.lconst 1, 1) := by decide +kernel
theorem dX9_passThrows_3 : decode cX9_passThrows 3 = .ok (.ldc2_w 181, 3) := by decide +kernel
theorem dX9_passThrows_6 : decode cX9_passThrows 6 = .ok (.invokestatic 47, 3) := by decide +kernel
theorem dX9_passThrows_9 : decode cX9_passThrows 9 = .ok (.ifCond .ne 7, 3) := by decide +kernel
theorem dX9_passThrows_12 : decode cX9_passThrows 12 = .ok (.iconst 1, 1) := by decide +kernel
theorem dX9_passThrows_13 : decode cX9_passThrows 13 = .ok (.goto 26, 3) := by decide +kernel
theorem dX9_passThrows_16 : decode cX9_passThrows 16 = .ok (.aload_n 0, 1) := by decide +kernel
theorem dX9_passThrows_17 : decode cX9_passThrows 17 = .ok (.getfield 7, 3) := by decide +kernel
theorem dX9_passThrows_20 : decode cX9_passThrows 20 = .ok (.sipush 1875, 3) := by decide +kernel
theorem dX9_passThrows_23 : decode cX9_passThrows 23 = .ok (.laload, 1) := by decide +kernel
theorem dX9_passThrows_24 : decode cX9_passThrows 24 = .ok (.iload_n 1, 1) := by decide +kernel
theorem dX9_passThrows_25 : decode cX9_passThrows 25 = .ok (.i2l, 1) := by decide +kernel
theorem dX9_passThrows_26 : decode cX9_passThrows 26 = .ok (.ladd, 1) := by decide +kernel
theorem dX9_passThrows_27 : decode cX9_passThrows 27 = .ok (.ldc2_w 183, 3) := by decide +kernel
theorem dX9_passThrows_30 : decode cX9_passThrows 30 = .ok (.lcmp, 1) := by decide +kernel
theorem dX9_passThrows_31 : decode cX9_passThrows 31 = .ok (.ifCond .le 7, 3) := by decide +kernel
theorem dX9_passThrows_34 : decode cX9_passThrows 34 = .ok (.iconst 2, 1) := by decide +kernel
theorem dX9_passThrows_35 : decode cX9_passThrows 35 = .ok (.goto 4, 3) := by decide +kernel
theorem dX9_passThrows_38 : decode cX9_passThrows 38 = .ok (.iconst 0, 1) := by decide +kernel
theorem dX9_passThrows_39 : decode cX9_passThrows 39 = .ok (.ireturn, 1) := by decide +kernel
set_option maxRecDepth 20000 in
theorem ggX9_doPass_X9_hour : GoodIn wsX9_doPass wsX9_hour := goodIn_r _ [6, 1, 7, 8, 9, 5, 10, 11, 12, 13, 14, 15, 16, 17, 18, 19, 20, 21, 22, 23, 24, 25, 26, 27, 28, 29, 30, 31, 32, 33, 34, 35, 36, 37, 38, 39, 40, 41, 42, 43, 44, 45, 46, 47, 48, 49, 50, 51, 52, 53, 54, 55, 56, 57, 58, 59, 60, 61, 62, 63, 64, 65, 66, 67, 68, 69, 70, 71, 72, 73, 74, 75, 76, 77, 78, 79, 80, 81, 82, 83, 84, 85, 86, 87, 88, 89, 90, 91, 92, 93, 94, 95, 96, 97, 98, 99, 100, 101, 102, 103, 104, 105, 106, 107, 108, 109, 110, 111, 112, 113, 114, 115, 116, 117] (by decide +kernel) (by decide +kernel)
set_option maxRecDepth 20000 in
theorem gX9_doPass_X9_hour : GoodIn wsX9_doPass (wsV RX9 185 RX9 yX9_hour wsX9_hour) := goodIn_app (goodIn_of _ (by decide +kernel)) ggX9_doPass_X9_hour
theorem dX9_doPass_0 : decode cX9_doPass 0 = .ok (.aload_n 0, 1) := by decide +kernel
theorem dX9_doPass_1 : decode cX9_doPass 1 = .ok (.getfield 7, 3) := by decide +kernel
theorem dX9_doPass_4 : decode cX9_doPass 4 = .ok (.sipush 1877, 3) := by decide +kernel
theorem dX9_doPass_7 : decode cX9_doPass 7 = .ok (.laload, 1) := by decide +kernel
theorem dX9_doPass_8 : decode cX9_doPass 8 = .ok (.lstore_n 2, 1) := by decide +kernel
theorem dX9_doPass_9 : decode cX9_doPass 9 = .ok (.iconst 0, 1) := by decide +kernel
theorem dX9_doPass_10 : decode cX9_doPass 10 = .ok (.istore 4, 2) := by decide +kernel
theorem dX9_doPass_12 : decode cX9_doPass 12 = .ok (.iload 4, 2) := by decide +kernel
theorem dX9_doPass_14 : decode cX9_doPass 14 = .ok (.iload_n 1, 1) := by decide +kernel
theorem dX9_doPass_15 : decode cX9_doPass 15 = .ok (.if_icmp .ge 13, 3) := by decide +kernel
theorem dX9_doPass_18 : decode cX9_doPass 18 = .ok (.aload_n 0, 1) := by decide +kernel
theorem dX9_doPass_19 : decode cX9_doPass 19 = .ok (.invokevirtual 185, 3) := by decide +kernel
theorem dX9_doPass_22 : decode cX9_doPass 22 = .ok (.iinc 4 1, 3) := by decide +kernel
theorem dX9_doPass_25 : decode cX9_doPass 25 = .ok (.goto (-13), 3) := by decide +kernel
theorem dX9_doPass_28 : decode cX9_doPass 28 = .ok (.aload_n 0, 1) := by decide +kernel
theorem dX9_doPass_29 : decode cX9_doPass 29 = .ok (.getfield 7, 3) := by decide +kernel
theorem dX9_doPass_32 : decode cX9_doPass 32 = .ok (.sipush 1877, 3) := by decide +kernel
theorem dX9_doPass_35 : decode cX9_doPass 35 = .ok (.laload, 1) := by decide +kernel
theorem dX9_doPass_36 : decode cX9_doPass 36 = .ok (.lload_n 2, 1) := by decide +kernel
theorem dX9_doPass_37 : decode cX9_doPass 37 = .ok (.lsub, 1) := by decide +kernel
theorem dX9_doPass_38 : decode cX9_doPass 38 = .ok (.l2i, 1) := by decide +kernel
theorem dX9_doPass_39 : decode cX9_doPass 39 = .ok (.ireturn, 1) := by decide +kernel
set_option maxRecDepth 20000 in
theorem ggX9_pass_X9_passThrows : GoodIn wsX9_pass wsX9_passThrows := goodIn_r _ [6, 7, 8, 9, 10, 11, 5, 12, 126, 127, 128, 129, 130, 131, 132, 133, 134, 135, 136, 137, 138] (by decide +kernel) (by decide +kernel)
set_option maxRecDepth 20000 in
theorem gX9_pass_X9_passThrows : GoodIn wsX9_pass (wsV RX9 188 RX9 yX9_passThrows wsX9_passThrows) := goodIn_app (goodIn_of _ (by decide +kernel)) ggX9_pass_X9_passThrows
set_option maxRecDepth 20000 in
theorem ggX9_pass_X9_refuse : GoodIn wsX9_pass wsX9_refuse := goodIn_r _ [16, 1, 126, 127, 128, 129, 130, 131, 132, 133, 134, 135, 136, 137, 138] (by decide +kernel) (by decide +kernel)
set_option maxRecDepth 20000 in
theorem gX9_pass_X9_refuse : GoodIn wsX9_pass (wsV RX9 60 RX9 yX9_refuse wsX9_refuse) := goodIn_app (goodIn_of _ (by decide +kernel)) ggX9_pass_X9_refuse
set_option maxRecDepth 20000 in
theorem ggX9_pass_X9_save : GoodIn wsX9_pass wsX9_save := goodIn_r _ [20, 21, 22, 8, 126, 127, 128, 129, 130, 131, 132, 133, 134, 135, 136, 137, 138] (by decide +kernel) (by decide +kernel)
set_option maxRecDepth 20000 in
theorem gX9_pass_X9_save : GoodIn wsX9_pass (wsV RX9 66 RX9 yX9_save wsX9_save) := goodIn_app (goodIn_of _ (by decide +kernel)) ggX9_pass_X9_save
set_option maxRecDepth 20000 in
theorem ggX9_pass_X9_doPass : GoodIn wsX9_pass wsX9_doPass := goodIn_r _ [26, 8, 27, 28, 29, 5, 30, 31, 32, 33, 34, 35, 36, 37, 38, 39, 40, 41, 42, 43, 44, 45, 46, 47, 48, 49, 50, 51, 52, 53, 54, 55, 56, 57, 58, 59, 60, 61, 62, 63, 64, 65, 66, 67, 68, 69, 70, 71, 72, 73, 74, 75, 76, 77, 78, 79, 80, 81, 82, 83, 84, 85, 86, 87, 88, 89, 90, 91, 92, 93, 94, 95, 96, 97, 98, 99, 100, 101, 102, 103, 10, 11, 12, 104, 105, 106, 107, 108, 109, 110, 111, 112, 113, 114, 115, 116, 117, 118, 119, 120, 121, 122, 123, 124, 125, 126, 127, 128, 129, 130, 131, 132, 133, 134, 135, 136, 137, 138] (by decide +kernel) (by decide +kernel)
set_option maxRecDepth 20000 in
theorem gX9_pass_X9_doPass : GoodIn wsX9_pass (wsV RX9 191 RX9 yX9_doPass wsX9_doPass) := goodIn_app (goodIn_of _ (by decide +kernel)) ggX9_pass_X9_doPass
theorem dX9_pass_0 : decode cX9_pass 0 = .ok (.aload_n 0, 1) := by decide +kernel
theorem dX9_pass_1 : decode cX9_pass 1 = .ok (.iconst 0, 1) := by decide +kernel
theorem dX9_pass_2 : decode cX9_pass 2 = .ok (.putfield 43, 3) := by decide +kernel
theorem dX9_pass_5 : decode cX9_pass 5 = .ok (.aload_n 0, 1) := by decide +kernel
theorem dX9_pass_6 : decode cX9_pass 6 = .ok (.iload_n 1, 1) := by decide +kernel
theorem dX9_pass_7 : decode cX9_pass 7 = .ok (.invokevirtual 188, 3) := by decide +kernel
theorem dX9_pass_10 : decode cX9_pass 10 = .ok (.istore_n 2, 1) := by decide +kernel
theorem dX9_pass_11 : decode cX9_pass 11 = .ok (.iload_n 2, 1) := by decide +kernel
theorem dX9_pass_12 : decode cX9_pass 12 = .ok (.ifCond .le 9, 3) := by decide +kernel
theorem dX9_pass_15 : decode cX9_pass 15 = .ok (.aload_n 0, 1) := by decide +kernel
theorem dX9_pass_16 : decode cX9_pass 16 = .ok (.iload_n 2, 1) := by decide +kernel
theorem dX9_pass_17 : decode cX9_pass 17 = .ok (.invokevirtual 60, 3) := by decide +kernel
theorem dX9_pass_20 : decode cX9_pass 20 = .ok (.ireturn, 1) := by decide +kernel
theorem dX9_pass_21 : decode cX9_pass 21 = .ok (.aload_n 0, 1) := by decide +kernel
theorem dX9_pass_22 : decode cX9_pass 22 = .ok (.invokevirtual 66, 3) := by decide +kernel
theorem dX9_pass_25 : decode cX9_pass 25 = .ok (.aload_n 0, 1) := by decide +kernel
theorem dX9_pass_26 : decode cX9_pass 26 = .ok (.iload_n 1, 1) := by decide +kernel
theorem dX9_pass_27 : decode cX9_pass 27 = .ok (.invokevirtual 191, 3) := by decide +kernel
theorem dX9_pass_30 : decode cX9_pass 30 = .ok (.ireturn, 1) := by decide +kernel
set_option maxRecDepth 20000 in
theorem ggX9_addBoat_X9_in : GoodIn wsX9_addBoat wsX9_in := goodIn_r _ [8] (by decide +kernel) (by decide +kernel)
set_option maxRecDepth 20000 in
theorem gX9_addBoat_X9_in : GoodIn wsX9_addBoat (va_wsS RX9 47 yX9_in wsX9_in) := goodIn_app (goodIn_of _ (by decide +kernel)) ggX9_addBoat_X9_in
set_option maxRecDepth 20000 in
theorem ggX9_addBoat_X9_refuse : GoodIn wsX9_addBoat wsX9_refuse := goodIn_r _ [12, 1, 19, 20, 21, 22, 23, 24, 25, 26, 27, 28, 29, 30, 31] (by decide +kernel) (by decide +kernel)
set_option maxRecDepth 20000 in
theorem gX9_addBoat_X9_refuse : GoodIn wsX9_addBoat (wsV RX9 60 RX9 yX9_refuse wsX9_refuse) := goodIn_app (goodIn_of _ (by decide +kernel)) ggX9_addBoat_X9_refuse
set_option maxRecDepth 20000 in
theorem ggX9_addBoat_X9_save : GoodIn wsX9_addBoat wsX9_save := goodIn_r _ [16, 17, 18, 3, 19, 20, 21, 22, 23, 24, 25, 26, 27, 28, 29, 30, 31] (by decide +kernel) (by decide +kernel)
set_option maxRecDepth 20000 in
theorem gX9_addBoat_X9_save : GoodIn wsX9_addBoat (wsV RX9 66 RX9 yX9_save wsX9_save) := goodIn_app (goodIn_of _ (by decide +kernel)) ggX9_addBoat_X9_save
theorem dX9_addBoat_0 : decode cX9_addBoat 0 = .ok (.aload_n 0, 1) := by decide +kernel
theorem dX9_addBoat_1 : decode cX9_addBoat 1 = .ok (.iconst 0, 1) := by decide +kernel
theorem dX9_addBoat_2 : decode cX9_addBoat 2 = .ok (.putfield 43, 3) := by decide +kernel
theorem dX9_addBoat_5 : decode cX9_addBoat 5 = .ok (.iload_n 1, 1) := by decide +kernel
theorem dX9_addBoat_6 : decode cX9_addBoat 6 = .ok (.i2l, 1) := by decide +kernel
theorem dX9_addBoat_7 : decode cX9_addBoat 7 = .ok (.lconst 0, 1) := by decide +kernel
theorem dX9_addBoat_8 : decode cX9_addBoat 8 = .ok (.ldc2_w 194, 3) := by decide +kernel
theorem dX9_addBoat_11 : decode cX9_addBoat 11 = .ok (.invokestatic 47, 3) := by decide +kernel
theorem dX9_addBoat_14 : decode cX9_addBoat 14 = .ok (.ifCond .ne 9, 3) := by decide +kernel
theorem dX9_addBoat_17 : decode cX9_addBoat 17 = .ok (.aload_n 0, 1) := by decide +kernel
theorem dX9_addBoat_18 : decode cX9_addBoat 18 = .ok (.iconst 1, 1) := by decide +kernel
theorem dX9_addBoat_19 : decode cX9_addBoat 19 = .ok (.invokevirtual 60, 3) := by decide +kernel
theorem dX9_addBoat_22 : decode cX9_addBoat 22 = .ok (.ireturn, 1) := by decide +kernel
theorem dX9_addBoat_23 : decode cX9_addBoat 23 = .ok (.aload_n 0, 1) := by decide +kernel
theorem dX9_addBoat_24 : decode cX9_addBoat 24 = .ok (.getfield 7, 3) := by decide +kernel
theorem dX9_addBoat_27 : decode cX9_addBoat 27 = .ok (.sipush 1881, 3) := by decide +kernel
theorem dX9_addBoat_30 : decode cX9_addBoat 30 = .ok (.laload, 1) := by decide +kernel
theorem dX9_addBoat_31 : decode cX9_addBoat 31 = .ok (.ldc2_w 196, 3) := by decide +kernel
theorem dX9_addBoat_34 : decode cX9_addBoat 34 = .ok (.lcmp, 1) := by decide +kernel
theorem dX9_addBoat_35 : decode cX9_addBoat 35 = .ok (.ifCond .ne 9, 3) := by decide +kernel
theorem dX9_addBoat_38 : decode cX9_addBoat 38 = .ok (.aload_n 0, 1) := by decide +kernel
theorem dX9_addBoat_39 : decode cX9_addBoat 39 = .ok (.iconst 2, 1) := by decide +kernel
theorem dX9_addBoat_40 : decode cX9_addBoat 40 = .ok (.invokevirtual 60, 3) := by decide +kernel
theorem dX9_addBoat_43 : decode cX9_addBoat 43 = .ok (.ireturn, 1) := by decide +kernel
theorem dX9_addBoat_44 : decode cX9_addBoat 44 = .ok (.aload_n 0, 1) := by decide +kernel
theorem dX9_addBoat_45 : decode cX9_addBoat 45 = .ok (.invokevirtual 66, 3) := by decide +kernel
theorem dX9_addBoat_48 : decode cX9_addBoat 48 = .ok (.aload_n 0, 1) := by decide +kernel
theorem dX9_addBoat_49 : decode cX9_addBoat 49 = .ok (.getfield 7, 3) := by decide +kernel
theorem dX9_addBoat_52 : decode cX9_addBoat 52 = .ok (.sipush 507, 3) := by decide +kernel
theorem dX9_addBoat_55 : decode cX9_addBoat 55 = .ok (.aload_n 0, 1) := by decide +kernel
theorem dX9_addBoat_56 : decode cX9_addBoat 56 = .ok (.getfield 7, 3) := by decide +kernel
theorem dX9_addBoat_59 : decode cX9_addBoat 59 = .ok (.sipush 1881, 3) := by decide +kernel
theorem dX9_addBoat_62 : decode cX9_addBoat 62 = .ok (.laload, 1) := by decide +kernel
theorem dX9_addBoat_63 : decode cX9_addBoat 63 = .ok (.l2i, 1) := by decide +kernel
theorem dX9_addBoat_64 : decode cX9_addBoat 64 = .ok (.iadd, 1) := by decide +kernel
theorem dX9_addBoat_65 : decode cX9_addBoat 65 = .ok (.iload_n 1, 1) := by decide +kernel
theorem dX9_addBoat_66 : decode cX9_addBoat 66 = .ok (.i2l, 1) := by decide +kernel
theorem dX9_addBoat_67 : decode cX9_addBoat 67 = .ok (.lastore, 1) := by decide +kernel
theorem dX9_addBoat_68 : decode cX9_addBoat 68 = .ok (.aload_n 0, 1) := by decide +kernel
theorem dX9_addBoat_69 : decode cX9_addBoat 69 = .ok (.getfield 7, 3) := by decide +kernel
theorem dX9_addBoat_72 : decode cX9_addBoat 72 = .ok (.sipush 1881, 3) := by decide +kernel
theorem dX9_addBoat_75 : decode cX9_addBoat 75 = .ok (.dup2, 1) := by decide +kernel
theorem dX9_addBoat_76 : decode cX9_addBoat 76 = .ok (.laload, 1) := by decide +kernel
theorem dX9_addBoat_77 : decode cX9_addBoat 77 = .ok (.lconst 1, 1) := by decide +kernel
theorem dX9_addBoat_78 : decode cX9_addBoat 78 = .ok (.ladd, 1) := by decide +kernel
theorem dX9_addBoat_79 : decode cX9_addBoat 79 = .ok (.lastore, 1) := by decide +kernel
theorem dX9_addBoat_80 : decode cX9_addBoat 80 = .ok (.aload_n 0, 1) := by decide +kernel
theorem dX9_addBoat_81 : decode cX9_addBoat 81 = .ok (.getfield 7, 3) := by decide +kernel
theorem dX9_addBoat_84 : decode cX9_addBoat 84 = .ok (.sipush 1881, 3) := by decide +kernel
theorem dX9_addBoat_87 : decode cX9_addBoat 87 = .ok (.laload, 1) := by decide +kernel
theorem dX9_addBoat_88 : decode cX9_addBoat 88 = .ok (.l2i, 1) := by decide +kernel
theorem dX9_addBoat_89 : decode cX9_addBoat 89 = .ok (.iconst 1, 1) := by decide +kernel
theorem dX9_addBoat_90 : decode cX9_addBoat 90 = .ok (.isub, 1) := by decide +kernel
theorem dX9_addBoat_91 : decode cX9_addBoat 91 = .ok (.ireturn, 1) := by decide +kernel
set_option maxRecDepth 20000 in
theorem ggX9_catchThrows_X9_isBoat : GoodIn wsX9_catchThrows wsX9_isBoat := goodIn_r _ [6, 7, 8, 9, 5, 10, 11, 12, 13, 14, 15, 16, 17, 18, 19, 20, 21, 22, 23] (by decide +kernel) (by decide +kernel)
set_option maxRecDepth 20000 in
theorem gX9_catchThrows_X9_isBoat : GoodIn wsX9_catchThrows (wsV RX9 198 RX9 yX9_isBoat wsX9_isBoat) := goodIn_app (goodIn_of _ (by decide +kernel)) ggX9_catchThrows_X9_isBoat
set_option maxRecDepth 20000 in
theorem ggX9_catchThrows_X9_in : GoodIn wsX9_catchThrows wsX9_in := goodIn_r _ [10] (by decide +kernel) (by decide +kernel)
set_option maxRecDepth 20000 in
theorem gX9_catchThrows_X9_in : GoodIn wsX9_catchThrows (va_wsS RX9 47 yX9_in wsX9_in) := goodIn_app (goodIn_of _ (by decide +kernel)) ggX9_catchThrows_X9_in
theorem dX9_catchThrows_0 : decode cX9_catchThrows 0 = .ok (.aload_n 0, 1) := by decide +kernel
theorem dX9_catchThrows_1 : decode cX9_catchThrows 1 = .ok (.iload_n 1, 1) := by decide +kernel
theorem dX9_catchThrows_2 : decode cX9_catchThrows 2 = .ok (.invokevirtual 198, 3) := by decide +kernel
theorem dX9_catchThrows_5 : decode cX9_catchThrows 5 = .ok (.ifCond .ne 7, 3) := by decide +kernel
theorem dX9_catchThrows_8 : decode cX9_catchThrows 8 = .ok (.iconst 1, 1) := by decide +kernel
theorem dX9_catchThrows_9 : decode cX9_catchThrows 9 = .ok (.goto 20, 3) := by decide +kernel
theorem dX9_catchThrows_12 : decode cX9_catchThrows 12 = .ok (.iload_n 2, 1) := by decide +kernel
theorem dX9_catchThrows_13 : decode cX9_catchThrows 13 = .ok (.i2l, 1) := by decide +kernel
theorem dX9_catchThrows_14 : decode cX9_catchThrows 14 = .ok (.lconst 0, 1) := by decide +kernel
theorem dX9_catchThrows_15 : decode cX9_catchThrows 15 = .ok (.ldc2_w 194, 3) := by decide +kernel
theorem dX9_catchThrows_18 : decode cX9_catchThrows 18 = .ok (.invokestatic 47, 3) := by decide +kernel
theorem dX9_catchThrows_21 : decode cX9_catchThrows 21 = .ok (.ifCond .ne 7, 3) := by decide +kernel
theorem dX9_catchThrows_24 : decode cX9_catchThrows 24 = .ok (.iconst 2, 1) := by decide +kernel
theorem dX9_catchThrows_25 : decode cX9_catchThrows 25 = .ok (.goto 4, 3) := by decide +kernel
theorem dX9_catchThrows_28 : decode cX9_catchThrows 28 = .ok (.iconst 0, 1) := by decide +kernel
theorem dX9_catchThrows_29 : decode cX9_catchThrows 29 = .ok (.ireturn, 1) := by decide +kernel
set_option maxRecDepth 20000 in
theorem ggX9_setCatch_X9_catchThrows : GoodIn wsX9_setCatch wsX9_catchThrows := goodIn_r _ [6, 7, 8, 9, 10, 5, 11, 12, 13, 14, 15, 30, 31, 32, 33, 34, 35, 36, 37, 38, 39, 40, 41, 42] (by decide +kernel) (by decide +kernel)
set_option maxRecDepth 20000 in
theorem gX9_setCatch_X9_catchThrows : GoodIn wsX9_setCatch (wsV RX9 201 RX9 yX9_catchThrows wsX9_catchThrows) := goodIn_app (goodIn_of _ (by decide +kernel)) ggX9_setCatch_X9_catchThrows
set_option maxRecDepth 20000 in
theorem ggX9_setCatch_X9_refuse : GoodIn wsX9_setCatch wsX9_refuse := goodIn_r _ [19, 1, 30, 31, 32, 33, 34, 35, 36, 37, 38, 39, 40, 41, 42] (by decide +kernel) (by decide +kernel)
set_option maxRecDepth 20000 in
theorem gX9_setCatch_X9_refuse : GoodIn wsX9_setCatch (wsV RX9 60 RX9 yX9_refuse wsX9_refuse) := goodIn_app (goodIn_of _ (by decide +kernel)) ggX9_setCatch_X9_refuse
set_option maxRecDepth 20000 in
theorem ggX9_setCatch_X9_change : GoodIn wsX9_setCatch wsX9_change := goodIn_r _ [23, 12, 24, 25, 26, 5, 27, 28, 29, 30, 31, 32, 33, 34, 35, 36, 37, 38, 39, 40, 41, 42] (by decide +kernel) (by decide +kernel)
set_option maxRecDepth 20000 in
theorem gX9_setCatch_X9_change : GoodIn wsX9_setCatch (wsV RX9 73 RX9 yX9_change wsX9_change) := goodIn_app (goodIn_of _ (by decide +kernel)) ggX9_setCatch_X9_change
theorem dX9_setCatch_0 : decode cX9_setCatch 0 = .ok (.aload_n 0, 1) := by decide +kernel
theorem dX9_setCatch_1 : decode cX9_setCatch 1 = .ok (.iconst 0, 1) := by decide +kernel
theorem dX9_setCatch_2 : decode cX9_setCatch 2 = .ok (.putfield 43, 3) := by decide +kernel
theorem dX9_setCatch_5 : decode cX9_setCatch 5 = .ok (.aload_n 0, 1) := by decide +kernel
theorem dX9_setCatch_6 : decode cX9_setCatch 6 = .ok (.iload_n 1, 1) := by decide +kernel
theorem dX9_setCatch_7 : decode cX9_setCatch 7 = .ok (.iload_n 2, 1) := by decide +kernel
theorem dX9_setCatch_8 : decode cX9_setCatch 8 = .ok (.invokevirtual 201, 3) := by decide +kernel
theorem dX9_setCatch_11 : decode cX9_setCatch 11 = .ok (.istore_n 3, 1) := by decide +kernel
theorem dX9_setCatch_12 : decode cX9_setCatch 12 = .ok (.iload_n 3, 1) := by decide +kernel
theorem dX9_setCatch_13 : decode cX9_setCatch 13 = .ok (.ifCond .le 11, 3) := by decide +kernel
theorem dX9_setCatch_16 : decode cX9_setCatch 16 = .ok (.aload_n 0, 1) := by decide +kernel
theorem dX9_setCatch_17 : decode cX9_setCatch 17 = .ok (.iload_n 3, 1) := by decide +kernel
theorem dX9_setCatch_18 : decode cX9_setCatch 18 = .ok (.invokevirtual 60, 3) := by decide +kernel
theorem dX9_setCatch_21 : decode cX9_setCatch 21 = .ok (.goto 13, 3) := by decide +kernel
theorem dX9_setCatch_24 : decode cX9_setCatch 24 = .ok (.aload_n 0, 1) := by decide +kernel
theorem dX9_setCatch_25 : decode cX9_setCatch 25 = .ok (.sipush 507, 3) := by decide +kernel
theorem dX9_setCatch_28 : decode cX9_setCatch 28 = .ok (.iload_n 1, 1) := by decide +kernel
theorem dX9_setCatch_29 : decode cX9_setCatch 29 = .ok (.iadd, 1) := by decide +kernel
theorem dX9_setCatch_30 : decode cX9_setCatch 30 = .ok (.iload_n 2, 1) := by decide +kernel
theorem dX9_setCatch_31 : decode cX9_setCatch 31 = .ok (.invokevirtual 73, 3) := by decide +kernel
theorem dX9_setCatch_34 : decode cX9_setCatch 34 = .ok (.ireturn, 1) := by decide +kernel
set_option maxRecDepth 20000 in
theorem ggX9_orderThrows_X9_isBoat : GoodIn wsX9_orderThrows wsX9_isBoat := goodIn_r _ [8, 3, 9, 10, 7, 11, 16, 17, 18, 19, 20, 21, 22, 23, 24, 25, 26, 27, 28] (by decide +kernel) (by decide +kernel)
set_option maxRecDepth 20000 in
theorem gX9_orderThrows_X9_isBoat : GoodIn wsX9_orderThrows (wsV RX9 198 RX9 yX9_isBoat wsX9_isBoat) := goodIn_app (goodIn_of _ (by decide +kernel)) ggX9_orderThrows_X9_isBoat
set_option maxRecDepth 20000 in
theorem ggX9_orderThrows_X9_in : GoodIn wsX9_orderThrows wsX9_in := goodIn_r _ [11] (by decide +kernel) (by decide +kernel)
set_option maxRecDepth 20000 in
theorem gX9_orderThrows_X9_in : GoodIn wsX9_orderThrows (va_wsS RX9 47 yX9_in wsX9_in) := goodIn_app (goodIn_of _ (by decide +kernel)) ggX9_orderThrows_X9_in
set_option maxRecDepth 20000 in
theorem ggX9_orderThrows_X9_openMany : GoodIn wsX9_orderThrows wsX9_openMany := goodIn_r _ [15, 3, 16, 17, 18, 19, 20, 21, 22, 23, 24, 25, 26, 27, 28] (by decide +kernel) (by decide +kernel)
set_option maxRecDepth 20000 in
theorem gX9_orderThrows_X9_openMany : GoodIn wsX9_orderThrows (wsV RX9 159 RX9 yX9_openMany wsX9_openMany) := goodIn_app (goodIn_of _ (by decide +kernel)) ggX9_orderThrows_X9_openMany
theorem dX9_orderThrows_0 : decode cX9_orderThrows 0 = .ok (.aload_n 0, 1) := by decide +kernel
theorem dX9_orderThrows_1 : decode cX9_orderThrows 1 = .ok (.iload_n 1, 1) := by decide +kernel
theorem dX9_orderThrows_2 : decode cX9_orderThrows 2 = .ok (.invokevirtual 198, 3) := by decide +kernel
theorem dX9_orderThrows_5 : decode cX9_orderThrows 5 = .ok (.ifCond .ne 5, 3) := by decide +kernel
theorem dX9_orderThrows_8 : decode cX9_orderThrows 8 = .ok (.iconst 1, 1) := by decide +kernel
theorem dX9_orderThrows_9 : decode cX9_orderThrows 9 = .ok (.ireturn, 1) := by decide +kernel
theorem dX9_orderThrows_10 : decode cX9_orderThrows 10 = .ok (.iload_n 2, 1) := by decide +kernel
theorem dX9_orderThrows_11 : decode cX9_orderThrows 11 = .ok (.i2l, 1) := by decide +kernel
theorem dX9_orderThrows_12 : decode cX9_orderThrows 12 = .ok (.lconst 1, 1) := by decide +kernel
theorem dX9_orderThrows_13 : decode cX9_orderThrows 13 = .ok (.ldc2_w 204, 3) := by decide +kernel
theorem dX9_orderThrows_16 : decode cX9_orderThrows 16 = .ok (.invokestatic 47, 3) := by decide +kernel
theorem dX9_orderThrows_19 : decode cX9_orderThrows 19 = .ok (.ifCond .eq 15, 3) := by decide +kernel
theorem dX9_orderThrows_22 : decode cX9_orderThrows 22 = .ok (.iload_n 3, 1) := by decide +kernel
theorem dX9_orderThrows_23 : decode cX9_orderThrows 23 = .ok (.i2l, 1) := by decide +kernel
theorem dX9_orderThrows_24 : decode cX9_orderThrows 24 = .ok (.lconst 1, 1) := by decide +kernel
theorem dX9_orderThrows_25 : decode cX9_orderThrows 25 = .ok (.ldc2_w 206, 3) := by decide +kernel
theorem dX9_orderThrows_28 : decode cX9_orderThrows 28 = .ok (.invokestatic 47, 3) := by decide +kernel
theorem dX9_orderThrows_31 : decode cX9_orderThrows 31 = .ok (.ifCond .ne 5, 3) := by decide +kernel
theorem dX9_orderThrows_34 : decode cX9_orderThrows 34 = .ok (.iconst 2, 1) := by decide +kernel
theorem dX9_orderThrows_35 : decode cX9_orderThrows 35 = .ok (.ireturn, 1) := by decide +kernel
theorem dX9_orderThrows_36 : decode cX9_orderThrows 36 = .ok (.aload_n 0, 1) := by decide +kernel
theorem dX9_orderThrows_37 : decode cX9_orderThrows 37 = .ok (.invokevirtual 159, 3) := by decide +kernel
theorem dX9_orderThrows_40 : decode cX9_orderThrows 40 = .ok (.bipush 20, 2) := by decide +kernel
theorem dX9_orderThrows_42 : decode cX9_orderThrows 42 = .ok (.if_icmp .eq 18, 3) := by decide +kernel
theorem dX9_orderThrows_45 : decode cX9_orderThrows 45 = .ok (.aload_n 0, 1) := by decide +kernel
theorem dX9_orderThrows_46 : decode cX9_orderThrows 46 = .ok (.getfield 7, 3) := by decide +kernel
theorem dX9_orderThrows_49 : decode cX9_orderThrows 49 = .ok (.sipush 1882, 3) := by decide +kernel
theorem dX9_orderThrows_52 : decode cX9_orderThrows 52 = .ok (.laload, 1) := by decide +kernel
theorem dX9_orderThrows_53 : decode cX9_orderThrows 53 = .ok (.ldc2_w 206, 3) := by decide +kernel
theorem dX9_orderThrows_56 : decode cX9_orderThrows 56 = .ok (.lcmp, 1) := by decide +kernel
theorem dX9_orderThrows_57 : decode cX9_orderThrows 57 = .ok (.ifCond .ne 7, 3) := by decide +kernel
theorem dX9_orderThrows_60 : decode cX9_orderThrows 60 = .ok (.iconst 3, 1) := by decide +kernel
theorem dX9_orderThrows_61 : decode cX9_orderThrows 61 = .ok (.goto 4, 3) := by decide +kernel
theorem dX9_orderThrows_64 : decode cX9_orderThrows 64 = .ok (.iconst 0, 1) := by decide +kernel
theorem dX9_orderThrows_65 : decode cX9_orderThrows 65 = .ok (.ireturn, 1) := by decide +kernel
theorem dX9_doOrder_0 : decode cX9_doOrder 0 = .ok (.aload_n 0, 1) := by decide +kernel
theorem dX9_doOrder_1 : decode cX9_doOrder 1 = .ok (.getfield 7, 3) := by decide +kernel
theorem dX9_doOrder_4 : decode cX9_doOrder 4 = .ok (.sipush 1882, 3) := by decide +kernel
theorem dX9_doOrder_7 : decode cX9_doOrder 7 = .ok (.laload, 1) := by decide +kernel
theorem dX9_doOrder_8 : decode cX9_doOrder 8 = .ok (.l2i, 1) := by decide +kernel
theorem dX9_doOrder_9 : decode cX9_doOrder 9 = .ok (.istore 5, 2) := by decide +kernel
theorem dX9_doOrder_11 : decode cX9_doOrder 11 = .ok (.aload_n 0, 1) := by decide +kernel
theorem dX9_doOrder_12 : decode cX9_doOrder 12 = .ok (.getfield 7, 3) := by decide +kernel
theorem dX9_doOrder_15 : decode cX9_doOrder 15 = .ok (.sipush 1882, 3) := by decide +kernel
theorem dX9_doOrder_18 : decode cX9_doOrder 18 = .ok (.dup2, 1) := by decide +kernel
theorem dX9_doOrder_19 : decode cX9_doOrder 19 = .ok (.laload, 1) := by decide +kernel
theorem dX9_doOrder_20 : decode cX9_doOrder 20 = .ok (.lconst 1, 1) := by decide +kernel
theorem dX9_doOrder_21 : decode cX9_doOrder 21 = .ok (.ladd, 1) := by decide +kernel
theorem dX9_doOrder_22 : decode cX9_doOrder 22 = .ok (.lastore, 1) := by decide +kernel
theorem dX9_doOrder_23 : decode cX9_doOrder 23 = .ok (.aload_n 0, 1) := by decide +kernel
theorem dX9_doOrder_24 : decode cX9_doOrder 24 = .ok (.getfield 7, 3) := by decide +kernel
theorem dX9_doOrder_27 : decode cX9_doOrder 27 = .ok (.sipush 531, 3) := by decide +kernel
theorem dX9_doOrder_30 : decode cX9_doOrder 30 = .ok (.iload 5, 2) := by decide +kernel
theorem dX9_doOrder_32 : decode cX9_doOrder 32 = .ok (.iadd, 1) := by decide +kernel
theorem dX9_doOrder_33 : decode cX9_doOrder 33 = .ok (.iload_n 1, 1) := by decide +kernel
theorem dX9_doOrder_34 : decode cX9_doOrder 34 = .ok (.i2l, 1) := by decide +kernel
theorem dX9_doOrder_35 : decode cX9_doOrder 35 = .ok (.lastore, 1) := by decide +kernel
theorem dX9_doOrder_36 : decode cX9_doOrder 36 = .ok (.aload_n 0, 1) := by decide +kernel
theorem dX9_doOrder_37 : decode cX9_doOrder 37 = .ok (.getfield 7, 3) := by decide +kernel
theorem dX9_doOrder_40 : decode cX9_doOrder 40 = .ok (.sipush 731, 3) := by decide +kernel
theorem dX9_doOrder_43 : decode cX9_doOrder 43 = .ok (.iload 5, 2) := by decide +kernel
theorem dX9_doOrder_45 : decode cX9_doOrder 45 = .ok (.iadd, 1) := by decide +kernel
theorem dX9_doOrder_46 : decode cX9_doOrder 46 = .ok (.iload_n 2, 1) := by decide +kernel
theorem dX9_doOrder_47 : decode cX9_doOrder 47 = .ok (.i2l, 1) := by decide +kernel
theorem dX9_doOrder_48 : decode cX9_doOrder 48 = .ok (.lastore, 1) := by decide +kernel
theorem dX9_doOrder_49 : decode cX9_doOrder 49 = .ok (.aload_n 0, 1) := by decide +kernel
theorem dX9_doOrder_50 : decode cX9_doOrder 50 = .ok (.getfield 7, 3) := by decide +kernel
theorem dX9_doOrder_53 : decode cX9_doOrder 53 = .ok (.sipush 1131, 3) := by decide +kernel
theorem dX9_doOrder_56 : decode cX9_doOrder 56 = .ok (.iload 5, 2) := by decide +kernel
theorem dX9_doOrder_58 : decode cX9_doOrder 58 = .ok (.iadd, 1) := by decide +kernel
theorem dX9_doOrder_59 : decode cX9_doOrder 59 = .ok (.iload_n 3, 1) := by decide +kernel
theorem dX9_doOrder_60 : decode cX9_doOrder 60 = .ok (.i2l, 1) := by decide +kernel
theorem dX9_doOrder_61 : decode cX9_doOrder 61 = .ok (.lastore, 1) := by decide +kernel
theorem dX9_doOrder_62 : decode cX9_doOrder 62 = .ok (.aload_n 0, 1) := by decide +kernel
theorem dX9_doOrder_63 : decode cX9_doOrder 63 = .ok (.getfield 7, 3) := by decide +kernel
theorem dX9_doOrder_66 : decode cX9_doOrder 66 = .ok (.sipush 1331, 3) := by decide +kernel
theorem dX9_doOrder_69 : decode cX9_doOrder 69 = .ok (.iload 5, 2) := by decide +kernel
theorem dX9_doOrder_71 : decode cX9_doOrder 71 = .ok (.iadd, 1) := by decide +kernel
theorem dX9_doOrder_72 : decode cX9_doOrder 72 = .ok (.iload 4, 2) := by decide +kernel
theorem dX9_doOrder_74 : decode cX9_doOrder 74 = .ok (.ifCond .eq 7, 3) := by decide +kernel
theorem dX9_doOrder_77 : decode cX9_doOrder 77 = .ok (.lconst 1, 1) := by decide +kernel
theorem dX9_doOrder_78 : decode cX9_doOrder 78 = .ok (.goto 4, 3) := by decide +kernel
theorem dX9_doOrder_81 : decode cX9_doOrder 81 = .ok (.lconst 0, 1) := by decide +kernel
theorem dX9_doOrder_82 : decode cX9_doOrder 82 = .ok (.lastore, 1) := by decide +kernel
theorem dX9_doOrder_83 : decode cX9_doOrder 83 = .ok (.iload 5, 2) := by decide +kernel
theorem dX9_doOrder_85 : decode cX9_doOrder 85 = .ok (.ireturn, 1) := by decide +kernel
set_option maxRecDepth 20000 in
theorem ggX9_order_X9_orderThrows : GoodIn wsX9_order wsX9_orderThrows := goodIn_r _ [6, 7, 8, 9, 10, 11, 12, 5, 13, 14, 15, 16, 17, 18, 19, 20, 35, 36, 37, 38, 39, 40, 41, 42, 43, 44, 45, 46, 47] (by decide +kernel) (by decide +kernel)
set_option maxRecDepth 20000 in
theorem gX9_order_X9_orderThrows : GoodIn wsX9_order (wsV RX9 208 RX9 yX9_orderThrows wsX9_orderThrows) := goodIn_app (goodIn_of _ (by decide +kernel)) ggX9_order_X9_orderThrows
set_option maxRecDepth 20000 in
theorem ggX9_order_X9_refuse : GoodIn wsX9_order wsX9_refuse := goodIn_r _ [24, 1, 35, 36, 37, 38, 39, 40, 41, 42, 43, 44, 45, 46, 47] (by decide +kernel) (by decide +kernel)
set_option maxRecDepth 20000 in
theorem gX9_order_X9_refuse : GoodIn wsX9_order (wsV RX9 60 RX9 yX9_refuse wsX9_refuse) := goodIn_app (goodIn_of _ (by decide +kernel)) ggX9_order_X9_refuse
set_option maxRecDepth 20000 in
theorem ggX9_order_X9_save : GoodIn wsX9_order wsX9_save := goodIn_r _ [28, 29, 30, 9, 35, 36, 37, 38, 39, 40, 41, 42, 43, 44, 45, 46, 47] (by decide +kernel) (by decide +kernel)
set_option maxRecDepth 20000 in
theorem gX9_order_X9_save : GoodIn wsX9_order (wsV RX9 66 RX9 yX9_save wsX9_save) := goodIn_app (goodIn_of _ (by decide +kernel)) ggX9_order_X9_save
set_option maxRecDepth 20000 in
theorem ggX9_order_X9_doOrder : GoodIn wsX9_order wsX9_doOrder := goodIn_r _ [34, 9, 35, 36, 37, 38, 39, 40, 41, 42, 43, 44, 45, 46, 47] (by decide +kernel) (by decide +kernel)
set_option maxRecDepth 20000 in
theorem gX9_order_X9_doOrder : GoodIn wsX9_order (wsV RX9 212 RX9 yX9_doOrder wsX9_doOrder) := goodIn_app (goodIn_of _ (by decide +kernel)) ggX9_order_X9_doOrder
theorem dX9_order_0 : decode cX9_order 0 = .ok (.aload_n 0, 1) := by decide +kernel
theorem dX9_order_1 : decode cX9_order 1 = .ok (.iconst 0, 1) := by decide +kernel
theorem dX9_order_2 : decode cX9_order 2 = .ok (.putfield 43, 3) := by decide +kernel
theorem dX9_order_5 : decode cX9_order 5 = .ok (.aload_n 0, 1) := by decide +kernel
theorem dX9_order_6 : decode cX9_order 6 = .ok (.iload_n 1, 1) := by decide +kernel
theorem dX9_order_7 : decode cX9_order 7 = .ok (.iload_n 2, 1) := by decide +kernel
theorem dX9_order_8 : decode cX9_order 8 = .ok (.iload_n 3, 1) := by decide +kernel
theorem dX9_order_9 : decode cX9_order 9 = .ok (.invokevirtual 208, 3) := by decide +kernel
theorem dX9_order_12 : decode cX9_order 12 = .ok (.istore 5, 2) := by decide +kernel
theorem dX9_order_14 : decode cX9_order 14 = .ok (.iload 5, 2) := by decide +kernel
theorem dX9_order_16 : decode cX9_order 16 = .ok (.ifCond .le 10, 3) := by decide +kernel
theorem dX9_order_19 : decode cX9_order 19 = .ok (.aload_n 0, 1) := by decide +kernel
theorem dX9_order_20 : decode cX9_order 20 = .ok (.iload 5, 2) := by decide +kernel
theorem dX9_order_22 : decode cX9_order 22 = .ok (.invokevirtual 60, 3) := by decide +kernel
theorem dX9_order_25 : decode cX9_order 25 = .ok (.ireturn, 1) := by decide +kernel
theorem dX9_order_26 : decode cX9_order 26 = .ok (.aload_n 0, 1) := by decide +kernel
theorem dX9_order_27 : decode cX9_order 27 = .ok (.invokevirtual 66, 3) := by decide +kernel
theorem dX9_order_30 : decode cX9_order 30 = .ok (.aload_n 0, 1) := by decide +kernel
theorem dX9_order_31 : decode cX9_order 31 = .ok (.iload_n 1, 1) := by decide +kernel
theorem dX9_order_32 : decode cX9_order 32 = .ok (.iload_n 2, 1) := by decide +kernel
theorem dX9_order_33 : decode cX9_order 33 = .ok (.iload_n 3, 1) := by decide +kernel
theorem dX9_order_34 : decode cX9_order 34 = .ok (.iload 4, 2) := by decide +kernel
theorem dX9_order_36 : decode cX9_order 36 = .ok (.invokevirtual 212, 3) := by decide +kernel
theorem dX9_order_39 : decode cX9_order 39 = .ok (.ireturn, 1) := by decide +kernel
set_option maxRecDepth 20000 in
theorem ggX9_cancel_X9_isOrder : GoodIn wsX9_cancel wsX9_isOrder := goodIn_r _ [8, 2, 9, 10, 7, 11, 26, 27, 28, 29, 30, 31, 32, 33, 34, 35, 36, 37, 38] (by decide +kernel) (by decide +kernel)
set_option maxRecDepth 20000 in
theorem gX9_cancel_X9_isOrder : GoodIn wsX9_cancel (wsV RX9 216 RX9 yX9_isOrder wsX9_isOrder) := goodIn_app (goodIn_of _ (by decide +kernel)) ggX9_cancel_X9_isOrder
set_option maxRecDepth 20000 in
theorem ggX9_cancel_X9_refuse : GoodIn wsX9_cancel wsX9_refuse := goodIn_r _ [15, 1, 26, 27, 28, 29, 30, 31, 32, 33, 34, 35, 36, 37, 38] (by decide +kernel) (by decide +kernel)
set_option maxRecDepth 20000 in
theorem gX9_cancel_X9_refuse : GoodIn wsX9_cancel (wsV RX9 60 RX9 yX9_refuse wsX9_refuse) := goodIn_app (goodIn_of _ (by decide +kernel)) ggX9_cancel_X9_refuse
set_option maxRecDepth 20000 in
theorem ggX9_cancel_X9_save : GoodIn wsX9_cancel wsX9_save := goodIn_r _ [19, 20, 21, 2, 26, 27, 28, 29, 30, 31, 32, 33, 34, 35, 36, 37, 38] (by decide +kernel) (by decide +kernel)
set_option maxRecDepth 20000 in
theorem gX9_cancel_X9_save : GoodIn wsX9_cancel (wsV RX9 66 RX9 yX9_save wsX9_save) := goodIn_app (goodIn_of _ (by decide +kernel)) ggX9_cancel_X9_save
set_option maxRecDepth 20000 in
theorem ggX9_cancel_X9_remaining : GoodIn wsX9_cancel wsX9_remaining := goodIn_r _ [25, 2, 26, 27, 28, 29, 30, 31, 32, 33, 34, 35, 36, 37, 38] (by decide +kernel) (by decide +kernel)
set_option maxRecDepth 20000 in
theorem gX9_cancel_X9_remaining : GoodIn wsX9_cancel (wsV RX9 122 RX9 yX9_remaining wsX9_remaining) := goodIn_app (goodIn_of _ (by decide +kernel)) ggX9_cancel_X9_remaining
theorem dX9_cancel_0 : decode cX9_cancel 0 = .ok (.aload_n 0, 1) := by decide +kernel
theorem dX9_cancel_1 : decode cX9_cancel 1 = .ok (.iconst 0, 1) := by decide +kernel
theorem dX9_cancel_2 : decode cX9_cancel 2 = .ok (.putfield 43, 3) := by decide +kernel
theorem dX9_cancel_5 : decode cX9_cancel 5 = .ok (.aload_n 0, 1) := by decide +kernel
theorem dX9_cancel_6 : decode cX9_cancel 6 = .ok (.iload_n 1, 1) := by decide +kernel
theorem dX9_cancel_7 : decode cX9_cancel 7 = .ok (.invokevirtual 216, 3) := by decide +kernel
theorem dX9_cancel_10 : decode cX9_cancel 10 = .ok (.ifCond .ne 9, 3) := by decide +kernel
theorem dX9_cancel_13 : decode cX9_cancel 13 = .ok (.aload_n 0, 1) := by decide +kernel
theorem dX9_cancel_14 : decode cX9_cancel 14 = .ok (.iconst 1, 1) := by decide +kernel
theorem dX9_cancel_15 : decode cX9_cancel 15 = .ok (.invokevirtual 60, 3) := by decide +kernel
theorem dX9_cancel_18 : decode cX9_cancel 18 = .ok (.ireturn, 1) := by decide +kernel
theorem dX9_cancel_19 : decode cX9_cancel 19 = .ok (.aload_n 0, 1) := by decide +kernel
theorem dX9_cancel_20 : decode cX9_cancel 20 = .ok (.getfield 7, 3) := by decide +kernel
theorem dX9_cancel_23 : decode cX9_cancel 23 = .ok (.sipush 1531, 3) := by decide +kernel
theorem dX9_cancel_26 : decode cX9_cancel 26 = .ok (.iload_n 1, 1) := by decide +kernel
theorem dX9_cancel_27 : decode cX9_cancel 27 = .ok (.iadd, 1) := by decide +kernel
theorem dX9_cancel_28 : decode cX9_cancel 28 = .ok (.laload, 1) := by decide +kernel
theorem dX9_cancel_29 : decode cX9_cancel 29 = .ok (.lconst 0, 1) := by decide +kernel
theorem dX9_cancel_30 : decode cX9_cancel 30 = .ok (.lcmp, 1) := by decide +kernel
theorem dX9_cancel_31 : decode cX9_cancel 31 = .ok (.ifCond .eq 9, 3) := by decide +kernel
theorem dX9_cancel_34 : decode cX9_cancel 34 = .ok (.aload_n 0, 1) := by decide +kernel
theorem dX9_cancel_35 : decode cX9_cancel 35 = .ok (.iconst 2, 1) := by decide +kernel
theorem dX9_cancel_36 : decode cX9_cancel 36 = .ok (.invokevirtual 60, 3) := by decide +kernel
theorem dX9_cancel_39 : decode cX9_cancel 39 = .ok (.ireturn, 1) := by decide +kernel
theorem dX9_cancel_40 : decode cX9_cancel 40 = .ok (.aload_n 0, 1) := by decide +kernel
theorem dX9_cancel_41 : decode cX9_cancel 41 = .ok (.invokevirtual 66, 3) := by decide +kernel
theorem dX9_cancel_44 : decode cX9_cancel 44 = .ok (.aload_n 0, 1) := by decide +kernel
theorem dX9_cancel_45 : decode cX9_cancel 45 = .ok (.getfield 7, 3) := by decide +kernel
theorem dX9_cancel_48 : decode cX9_cancel 48 = .ok (.sipush 1531, 3) := by decide +kernel
theorem dX9_cancel_51 : decode cX9_cancel 51 = .ok (.iload_n 1, 1) := by decide +kernel
theorem dX9_cancel_52 : decode cX9_cancel 52 = .ok (.iadd, 1) := by decide +kernel
theorem dX9_cancel_53 : decode cX9_cancel 53 = .ok (.ldc2_w 56, 3) := by decide +kernel
theorem dX9_cancel_56 : decode cX9_cancel 56 = .ok (.lastore, 1) := by decide +kernel
theorem dX9_cancel_57 : decode cX9_cancel 57 = .ok (.aload_n 0, 1) := by decide +kernel
theorem dX9_cancel_58 : decode cX9_cancel 58 = .ok (.iload_n 1, 1) := by decide +kernel
theorem dX9_cancel_59 : decode cX9_cancel 59 = .ok (.invokevirtual 122, 3) := by decide +kernel
theorem dX9_cancel_62 : decode cX9_cancel 62 = .ok (.l2i, 1) := by decide +kernel
theorem dX9_cancel_63 : decode cX9_cancel 63 = .ok (.ireturn, 1) := by decide +kernel
set_option maxRecDepth 20000 in
theorem ggX9_payThrows_X9_isBoat : GoodIn wsX9_payThrows wsX9_isBoat := goodIn_r _ [8, 2, 9, 10, 7, 11, 12, 13, 14, 15, 16, 17, 18, 19, 20, 21, 22, 23, 24] (by decide +kernel) (by decide +kernel)
set_option maxRecDepth 20000 in
theorem gX9_payThrows_X9_isBoat : GoodIn wsX9_payThrows (wsV RX9 198 RX9 yX9_isBoat wsX9_isBoat) := goodIn_app (goodIn_of _ (by decide +kernel)) ggX9_payThrows_X9_isBoat
set_option maxRecDepth 20000 in
theorem ggX9_payThrows_X9_in : GoodIn wsX9_payThrows wsX9_in := goodIn_r _ [11] (by decide +kernel) (by decide +kernel)
set_option maxRecDepth 20000 in
theorem gX9_payThrows_X9_in : GoodIn wsX9_payThrows (va_wsS RX9 47 yX9_in wsX9_in) := goodIn_app (goodIn_of _ (by decide +kernel)) ggX9_payThrows_X9_in
theorem dX9_payThrows_0 : decode cX9_payThrows 0 = .ok (.aload_n 0, 1) := by decide +kernel
theorem dX9_payThrows_1 : decode cX9_payThrows 1 = .ok (.iload_n 1, 1) := by decide +kernel
theorem dX9_payThrows_2 : decode cX9_payThrows 2 = .ok (.invokevirtual 198, 3) := by decide +kernel
theorem dX9_payThrows_5 : decode cX9_payThrows 5 = .ok (.ifCond .ne 5, 3) := by decide +kernel
theorem dX9_payThrows_8 : decode cX9_payThrows 8 = .ok (.iconst 1, 1) := by decide +kernel
theorem dX9_payThrows_9 : decode cX9_payThrows 9 = .ok (.ireturn, 1) := by decide +kernel
theorem dX9_payThrows_10 : decode cX9_payThrows 10 = .ok (.iload_n 2, 1) := by decide +kernel
theorem dX9_payThrows_11 : decode cX9_payThrows 11 = .ok (.i2l, 1) := by decide +kernel
theorem dX9_payThrows_12 : decode cX9_payThrows 12 = .ok (.lconst 1, 1) := by decide +kernel
theorem dX9_payThrows_13 : decode cX9_payThrows 13 = .ok (.ldc2_w 194, 3) := by decide +kernel
theorem dX9_payThrows_16 : decode cX9_payThrows 16 = .ok (.invokestatic 47, 3) := by decide +kernel
theorem dX9_payThrows_19 : decode cX9_payThrows 19 = .ok (.ifCond .ne 7, 3) := by decide +kernel
theorem dX9_payThrows_22 : decode cX9_payThrows 22 = .ok (.iconst 2, 1) := by decide +kernel
theorem dX9_payThrows_23 : decode cX9_payThrows 23 = .ok (.goto 28, 3) := by decide +kernel
theorem dX9_payThrows_26 : decode cX9_payThrows 26 = .ok (.aload_n 0, 1) := by decide +kernel
theorem dX9_payThrows_27 : decode cX9_payThrows 27 = .ok (.getfield 7, 3) := by decide +kernel
theorem dX9_payThrows_30 : decode cX9_payThrows 30 = .ok (.sipush 515, 3) := by decide +kernel
theorem dX9_payThrows_33 : decode cX9_payThrows 33 = .ok (.iload_n 1, 1) := by decide +kernel
theorem dX9_payThrows_34 : decode cX9_payThrows 34 = .ok (.iadd, 1) := by decide +kernel
theorem dX9_payThrows_35 : decode cX9_payThrows 35 = .ok (.laload, 1) := by decide +kernel
theorem dX9_payThrows_36 : decode cX9_payThrows 36 = .ok (.iload_n 2, 1) := by decide +kernel
theorem dX9_payThrows_37 : decode cX9_payThrows 37 = .ok (.i2l, 1) := by decide +kernel
theorem dX9_payThrows_38 : decode cX9_payThrows 38 = .ok (.lsub, 1) := by decide +kernel
theorem dX9_payThrows_39 : decode cX9_payThrows 39 = .ok (.ldc2_w 219, 3) := by decide +kernel
theorem dX9_payThrows_42 : decode cX9_payThrows 42 = .ok (.lcmp, 1) := by decide +kernel
theorem dX9_payThrows_43 : decode cX9_payThrows 43 = .ok (.ifCond .ge 7, 3) := by decide +kernel
theorem dX9_payThrows_46 : decode cX9_payThrows 46 = .ok (.iconst 3, 1) := by decide +kernel
theorem dX9_payThrows_47 : decode cX9_payThrows 47 = .ok (.goto 4, 3) := by decide +kernel
theorem dX9_payThrows_50 : decode cX9_payThrows 50 = .ok (.iconst 0, 1) := by decide +kernel
theorem dX9_payThrows_51 : decode cX9_payThrows 51 = .ok (.ireturn, 1) := by decide +kernel
theorem dX9_doPay_0 : decode cX9_doPay 0 = .ok (.aload_n 0, 1) := by decide +kernel
theorem dX9_doPay_1 : decode cX9_doPay 1 = .ok (.getfield 7, 3) := by decide +kernel
theorem dX9_doPay_4 : decode cX9_doPay 4 = .ok (.sipush 515, 3) := by decide +kernel
theorem dX9_doPay_7 : decode cX9_doPay 7 = .ok (.iload_n 1, 1) := by decide +kernel
theorem dX9_doPay_8 : decode cX9_doPay 8 = .ok (.iadd, 1) := by decide +kernel
theorem dX9_doPay_9 : decode cX9_doPay 9 = .ok (.dup2, 1) := by decide +kernel
theorem dX9_doPay_10 : decode cX9_doPay 10 = .ok (.laload, 1) := by decide +kernel
theorem dX9_doPay_11 : decode cX9_doPay 11 = .ok (.iload_n 2, 1) := by decide +kernel
theorem dX9_doPay_12 : decode cX9_doPay 12 = .ok (.i2l, 1) := by decide +kernel
theorem dX9_doPay_13 : decode cX9_doPay 13 = .ok (.lsub, 1) := by decide +kernel
theorem dX9_doPay_14 : decode cX9_doPay 14 = .ok (.lastore, 1) := by decide +kernel
theorem dX9_doPay_15 : decode cX9_doPay 15 = .ok (.aload_n 0, 1) := by decide +kernel
theorem dX9_doPay_16 : decode cX9_doPay 16 = .ok (.getfield 7, 3) := by decide +kernel
theorem dX9_doPay_19 : decode cX9_doPay 19 = .ok (.sipush 1884, 3) := by decide +kernel
theorem dX9_doPay_22 : decode cX9_doPay 22 = .ok (.dup2, 1) := by decide +kernel
theorem dX9_doPay_23 : decode cX9_doPay 23 = .ok (.laload, 1) := by decide +kernel
theorem dX9_doPay_24 : decode cX9_doPay 24 = .ok (.iload_n 2, 1) := by decide +kernel
theorem dX9_doPay_25 : decode cX9_doPay 25 = .ok (.i2l, 1) := by decide +kernel
theorem dX9_doPay_26 : decode cX9_doPay 26 = .ok (.ladd, 1) := by decide +kernel
theorem dX9_doPay_27 : decode cX9_doPay 27 = .ok (.lastore, 1) := by decide +kernel
theorem dX9_doPay_28 : decode cX9_doPay 28 = .ok (.aload_n 0, 1) := by decide +kernel
theorem dX9_doPay_29 : decode cX9_doPay 29 = .ok (.getfield 7, 3) := by decide +kernel
theorem dX9_doPay_32 : decode cX9_doPay 32 = .ok (.sipush 515, 3) := by decide +kernel
theorem dX9_doPay_35 : decode cX9_doPay 35 = .ok (.iload_n 1, 1) := by decide +kernel
theorem dX9_doPay_36 : decode cX9_doPay 36 = .ok (.iadd, 1) := by decide +kernel
theorem dX9_doPay_37 : decode cX9_doPay 37 = .ok (.laload, 1) := by decide +kernel
theorem dX9_doPay_38 : decode cX9_doPay 38 = .ok (.l2i, 1) := by decide +kernel
theorem dX9_doPay_39 : decode cX9_doPay 39 = .ok (.ireturn, 1) := by decide +kernel
set_option maxRecDepth 20000 in
theorem ggX9_pay_X9_payThrows : GoodIn wsX9_pay wsX9_payThrows := goodIn_r _ [6, 7, 8, 9, 10, 11, 12, 5, 13, 14, 15, 16, 31, 32, 33, 34, 35, 36, 37, 38, 39, 40, 41, 42, 43] (by decide +kernel) (by decide +kernel)
set_option maxRecDepth 20000 in
theorem gX9_pay_X9_payThrows : GoodIn wsX9_pay (wsV RX9 221 RX9 yX9_payThrows wsX9_payThrows) := goodIn_app (goodIn_of _ (by decide +kernel)) ggX9_pay_X9_payThrows
set_option maxRecDepth 20000 in
theorem ggX9_pay_X9_refuse : GoodIn wsX9_pay wsX9_refuse := goodIn_r _ [20, 1, 31, 32, 33, 34, 35, 36, 37, 38, 39, 40, 41, 42, 43] (by decide +kernel) (by decide +kernel)
set_option maxRecDepth 20000 in
theorem gX9_pay_X9_refuse : GoodIn wsX9_pay (wsV RX9 60 RX9 yX9_refuse wsX9_refuse) := goodIn_app (goodIn_of _ (by decide +kernel)) ggX9_pay_X9_refuse
set_option maxRecDepth 20000 in
theorem ggX9_pay_X9_save : GoodIn wsX9_pay wsX9_save := goodIn_r _ [24, 25, 26, 8, 31, 32, 33, 34, 35, 36, 37, 38, 39, 40, 41, 42, 43] (by decide +kernel) (by decide +kernel)
set_option maxRecDepth 20000 in
theorem gX9_pay_X9_save : GoodIn wsX9_pay (wsV RX9 66 RX9 yX9_save wsX9_save) := goodIn_app (goodIn_of _ (by decide +kernel)) ggX9_pay_X9_save
set_option maxRecDepth 20000 in
theorem ggX9_pay_X9_doPay : GoodIn wsX9_pay wsX9_doPay := goodIn_r _ [30, 8, 31, 32, 33, 34, 35, 36, 37, 38, 39, 40, 41, 42, 43] (by decide +kernel) (by decide +kernel)
set_option maxRecDepth 20000 in
theorem gX9_pay_X9_doPay : GoodIn wsX9_pay (wsV RX9 224 RX9 yX9_doPay wsX9_doPay) := goodIn_app (goodIn_of _ (by decide +kernel)) ggX9_pay_X9_doPay
theorem dX9_pay_0 : decode cX9_pay 0 = .ok (.aload_n 0, 1) := by decide +kernel
theorem dX9_pay_1 : decode cX9_pay 1 = .ok (.iconst 0, 1) := by decide +kernel
theorem dX9_pay_2 : decode cX9_pay 2 = .ok (.putfield 43, 3) := by decide +kernel
theorem dX9_pay_5 : decode cX9_pay 5 = .ok (.aload_n 0, 1) := by decide +kernel
theorem dX9_pay_6 : decode cX9_pay 6 = .ok (.iload_n 1, 1) := by decide +kernel
theorem dX9_pay_7 : decode cX9_pay 7 = .ok (.iload_n 2, 1) := by decide +kernel
theorem dX9_pay_8 : decode cX9_pay 8 = .ok (.invokevirtual 221, 3) := by decide +kernel
theorem dX9_pay_11 : decode cX9_pay 11 = .ok (.istore_n 3, 1) := by decide +kernel
theorem dX9_pay_12 : decode cX9_pay 12 = .ok (.iload_n 3, 1) := by decide +kernel
theorem dX9_pay_13 : decode cX9_pay 13 = .ok (.ifCond .le 9, 3) := by decide +kernel
theorem dX9_pay_16 : decode cX9_pay 16 = .ok (.aload_n 0, 1) := by decide +kernel
theorem dX9_pay_17 : decode cX9_pay 17 = .ok (.iload_n 3, 1) := by decide +kernel
theorem dX9_pay_18 : decode cX9_pay 18 = .ok (.invokevirtual 60, 3) := by decide +kernel
theorem dX9_pay_21 : decode cX9_pay 21 = .ok (.ireturn, 1) := by decide +kernel
theorem dX9_pay_22 : decode cX9_pay 22 = .ok (.aload_n 0, 1) := by decide +kernel
theorem dX9_pay_23 : decode cX9_pay 23 = .ok (.invokevirtual 66, 3) := by decide +kernel
theorem dX9_pay_26 : decode cX9_pay 26 = .ok (.aload_n 0, 1) := by decide +kernel
theorem dX9_pay_27 : decode cX9_pay 27 = .ok (.iload_n 1, 1) := by decide +kernel
theorem dX9_pay_28 : decode cX9_pay 28 = .ok (.iload_n 2, 1) := by decide +kernel
theorem dX9_pay_29 : decode cX9_pay 29 = .ok (.invokevirtual 224, 3) := by decide +kernel
theorem dX9_pay_32 : decode cX9_pay 32 = .ok (.ireturn, 1) := by decide +kernel
theorem dX9_massIn_0 : decode cX9_massIn 0 = .ok (.lconst 0, 1) := by decide +kernel
theorem dX9_massIn_1 : decode cX9_massIn 1 = .ok (.lstore_n 2, 1) := by decide +kernel
theorem dX9_massIn_2 : decode cX9_massIn 2 = .ok (.iconst 0, 1) := by decide +kernel
theorem dX9_massIn_3 : decode cX9_massIn 3 = .ok (.istore 4, 2) := by decide +kernel
theorem dX9_massIn_5 : decode cX9_massIn 5 = .ok (.iload 4, 2) := by decide +kernel
theorem dX9_massIn_7 : decode cX9_massIn 7 = .ok (.i2l, 1) := by decide +kernel
theorem dX9_massIn_8 : decode cX9_massIn 8 = .ok (.aload_n 0, 1) := by decide +kernel
theorem dX9_massIn_9 : decode cX9_massIn 9 = .ok (.getfield 7, 3) := by decide +kernel
theorem dX9_massIn_12 : decode cX9_massIn 12 = .ok (.bipush 47, 2) := by decide +kernel
theorem dX9_massIn_14 : decode cX9_massIn 14 = .ok (.iload_n 1, 1) := by decide +kernel
theorem dX9_massIn_15 : decode cX9_massIn 15 = .ok (.iadd, 1) := by decide +kernel
theorem dX9_massIn_16 : decode cX9_massIn 16 = .ok (.laload, 1) := by decide +kernel
theorem dX9_massIn_17 : decode cX9_massIn 17 = .ok (.lcmp, 1) := by decide +kernel
theorem dX9_massIn_18 : decode cX9_massIn 18 = .ok (.ifCond .ge 28, 3) := by decide +kernel
theorem dX9_massIn_21 : decode cX9_massIn 21 = .ok (.lload_n 2, 1) := by decide +kernel
theorem dX9_massIn_22 : decode cX9_massIn 22 = .ok (.aload_n 0, 1) := by decide +kernel
theorem dX9_massIn_23 : decode cX9_massIn 23 = .ok (.getfield 7, 3) := by decide +kernel
theorem dX9_massIn_26 : decode cX9_massIn 26 = .ok (.sipush 207, 3) := by decide +kernel
theorem dX9_massIn_29 : decode cX9_massIn 29 = .ok (.bipush 30, 2) := by decide +kernel
theorem dX9_massIn_31 : decode cX9_massIn 31 = .ok (.iload_n 1, 1) := by decide +kernel
theorem dX9_massIn_32 : decode cX9_massIn 32 = .ok (.imul, 1) := by decide +kernel
theorem dX9_massIn_33 : decode cX9_massIn 33 = .ok (.iadd, 1) := by decide +kernel
theorem dX9_massIn_34 : decode cX9_massIn 34 = .ok (.iload 4, 2) := by decide +kernel
theorem dX9_massIn_36 : decode cX9_massIn 36 = .ok (.iadd, 1) := by decide +kernel
theorem dX9_massIn_37 : decode cX9_massIn 37 = .ok (.laload, 1) := by decide +kernel
theorem dX9_massIn_38 : decode cX9_massIn 38 = .ok (.ladd, 1) := by decide +kernel
theorem dX9_massIn_39 : decode cX9_massIn 39 = .ok (.lstore_n 2, 1) := by decide +kernel
theorem dX9_massIn_40 : decode cX9_massIn 40 = .ok (.iinc 4 1, 3) := by decide +kernel
theorem dX9_massIn_43 : decode cX9_massIn 43 = .ok (.goto (-38), 3) := by decide +kernel
theorem dX9_massIn_46 : decode cX9_massIn 46 = .ok (.lload_n 2, 1) := by decide +kernel
theorem dX9_massIn_47 : decode cX9_massIn 47 = .ok (.lreturn, 1) := by decide +kernel
set_option maxRecDepth 20000 in
theorem ggX9_silo_X9_isSilo : GoodIn wsX9_silo wsX9_isSilo := goodIn_r _ [7, 2, 8, 9, 6, 10, 19, 20, 21, 22, 23, 24, 25, 26, 27, 28, 29, 30, 31] (by decide +kernel) (by decide +kernel)
set_option maxRecDepth 20000 in
theorem gX9_silo_X9_isSilo : GoodIn wsX9_silo (wsV RX9 69 RX9 yX9_isSilo wsX9_isSilo) := goodIn_app (goodIn_of _ (by decide +kernel)) ggX9_silo_X9_isSilo
set_option maxRecDepth 20000 in
theorem ggX9_silo_X9_refuse : GoodIn wsX9_silo wsX9_refuse := goodIn_r _ [14, 1, 19, 20, 21, 22, 23, 24, 25, 26, 27, 28, 29, 30, 31] (by decide +kernel) (by decide +kernel)
set_option maxRecDepth 20000 in
theorem gX9_silo_X9_refuse : GoodIn wsX9_silo (wsV RX9 60 RX9 yX9_refuse wsX9_refuse) := goodIn_app (goodIn_of _ (by decide +kernel)) ggX9_silo_X9_refuse
set_option maxRecDepth 20000 in
theorem ggX9_silo_X9_massIn : GoodIn wsX9_silo wsX9_massIn := goodIn_r _ [18, 2, 19, 20, 21, 22, 23, 24, 25, 26, 27, 28, 29, 30, 31] (by decide +kernel) (by decide +kernel)
set_option maxRecDepth 20000 in
theorem gX9_silo_X9_massIn : GoodIn wsX9_silo (wsV RX9 227 RX9 yX9_massIn wsX9_massIn) := goodIn_app (goodIn_of _ (by decide +kernel)) ggX9_silo_X9_massIn
theorem dX9_silo_0 : decode cX9_silo 0 = .ok (.aload_n 0, 1) := by decide +kernel
theorem dX9_silo_1 : decode cX9_silo 1 = .ok (.iconst 0, 1) := by decide +kernel
theorem dX9_silo_2 : decode cX9_silo 2 = .ok (.putfield 43, 3) := by decide +kernel
theorem dX9_silo_5 : decode cX9_silo 5 = .ok (.aload_n 0, 1) := by decide +kernel
theorem dX9_silo_6 : decode cX9_silo 6 = .ok (.iload_n 1, 1) := by decide +kernel
theorem dX9_silo_7 : decode cX9_silo 7 = .ok (.invokevirtual 69, 3) := by decide +kernel
theorem dX9_silo_10 : decode cX9_silo 10 = .ok (.ifCond .ne 9, 3) := by decide +kernel
theorem dX9_silo_13 : decode cX9_silo 13 = .ok (.aload_n 0, 1) := by decide +kernel
theorem dX9_silo_14 : decode cX9_silo 14 = .ok (.iconst 1, 1) := by decide +kernel
theorem dX9_silo_15 : decode cX9_silo 15 = .ok (.invokevirtual 60, 3) := by decide +kernel
theorem dX9_silo_18 : decode cX9_silo 18 = .ok (.ireturn, 1) := by decide +kernel
theorem dX9_silo_19 : decode cX9_silo 19 = .ok (.iload_n 2, 1) := by decide +kernel
theorem dX9_silo_20 : decode cX9_silo 20 = .ok (.tableswitch 102 0 5 #[40, 51, 62, 73, 84, 91], 40) := by decide +kernel
theorem dX9_silo_60 : decode cX9_silo 60 = .ok (.aload_n 0, 1) := by decide +kernel
theorem dX9_silo_61 : decode cX9_silo 61 = .ok (.getfield 7, 3) := by decide +kernel
theorem dX9_silo_64 : decode cX9_silo 64 = .ok (.bipush 32, 2) := by decide +kernel
theorem dX9_silo_66 : decode cX9_silo 66 = .ok (.iload_n 1, 1) := by decide +kernel
theorem dX9_silo_67 : decode cX9_silo 67 = .ok (.iadd, 1) := by decide +kernel
theorem dX9_silo_68 : decode cX9_silo 68 = .ok (.laload, 1) := by decide +kernel
theorem dX9_silo_69 : decode cX9_silo 69 = .ok (.l2i, 1) := by decide +kernel
theorem dX9_silo_70 : decode cX9_silo 70 = .ok (.ireturn, 1) := by decide +kernel
theorem dX9_silo_71 : decode cX9_silo 71 = .ok (.aload_n 0, 1) := by decide +kernel
theorem dX9_silo_72 : decode cX9_silo 72 = .ok (.getfield 7, 3) := by decide +kernel
theorem dX9_silo_75 : decode cX9_silo 75 = .ok (.bipush 37, 2) := by decide +kernel
theorem dX9_silo_77 : decode cX9_silo 77 = .ok (.iload_n 1, 1) := by decide +kernel
theorem dX9_silo_78 : decode cX9_silo 78 = .ok (.iadd, 1) := by decide +kernel
theorem dX9_silo_79 : decode cX9_silo 79 = .ok (.laload, 1) := by decide +kernel
theorem dX9_silo_80 : decode cX9_silo 80 = .ok (.l2i, 1) := by decide +kernel
theorem dX9_silo_81 : decode cX9_silo 81 = .ok (.ireturn, 1) := by decide +kernel
theorem dX9_silo_82 : decode cX9_silo 82 = .ok (.aload_n 0, 1) := by decide +kernel
theorem dX9_silo_83 : decode cX9_silo 83 = .ok (.getfield 7, 3) := by decide +kernel
theorem dX9_silo_86 : decode cX9_silo 86 = .ok (.bipush 42, 2) := by decide +kernel
theorem dX9_silo_88 : decode cX9_silo 88 = .ok (.iload_n 1, 1) := by decide +kernel
theorem dX9_silo_89 : decode cX9_silo 89 = .ok (.iadd, 1) := by decide +kernel
theorem dX9_silo_90 : decode cX9_silo 90 = .ok (.laload, 1) := by decide +kernel
theorem dX9_silo_91 : decode cX9_silo 91 = .ok (.l2i, 1) := by decide +kernel
theorem dX9_silo_92 : decode cX9_silo 92 = .ok (.ireturn, 1) := by decide +kernel
theorem dX9_silo_93 : decode cX9_silo 93 = .ok (.aload_n 0, 1) := by decide +kernel
theorem dX9_silo_94 : decode cX9_silo 94 = .ok (.getfield 7, 3) := by decide +kernel
theorem dX9_silo_97 : decode cX9_silo 97 = .ok (.bipush 47, 2) := by decide +kernel
theorem dX9_silo_99 : decode cX9_silo 99 = .ok (.iload_n 1, 1) := by decide +kernel
theorem dX9_silo_100 : decode cX9_silo 100 = .ok (.iadd, 1) := by decide +kernel
theorem dX9_silo_101 : decode cX9_silo 101 = .ok (.laload, 1) := by decide +kernel
theorem dX9_silo_102 : decode cX9_silo 102 = .ok (.l2i, 1) := by decide +kernel
theorem dX9_silo_103 : decode cX9_silo 103 = .ok (.ireturn, 1) := by decide +kernel
theorem dX9_silo_104 : decode cX9_silo 104 = .ok (.aload_n 0, 1) := by decide +kernel
theorem dX9_silo_105 : decode cX9_silo 105 = .ok (.iload_n 1, 1) := by decide +kernel
theorem dX9_silo_106 : decode cX9_silo 106 = .ok (.invokevirtual 227, 3) := by decide +kernel
theorem dX9_silo_109 : decode cX9_silo 109 = .ok (.l2i, 1) := by decide +kernel
theorem dX9_silo_110 : decode cX9_silo 110 = .ok (.ireturn, 1) := by decide +kernel
theorem dX9_silo_111 : decode cX9_silo 111 = .ok (.aload_n 0, 1) := by decide +kernel
theorem dX9_silo_112 : decode cX9_silo 112 = .ok (.getfield 7, 3) := by decide +kernel
theorem dX9_silo_115 : decode cX9_silo 115 = .ok (.bipush 52, 2) := by decide +kernel
theorem dX9_silo_117 : decode cX9_silo 117 = .ok (.iload_n 1, 1) := by decide +kernel
theorem dX9_silo_118 : decode cX9_silo 118 = .ok (.iadd, 1) := by decide +kernel
theorem dX9_silo_119 : decode cX9_silo 119 = .ok (.laload, 1) := by decide +kernel
theorem dX9_silo_120 : decode cX9_silo 120 = .ok (.l2i, 1) := by decide +kernel
theorem dX9_silo_121 : decode cX9_silo 121 = .ok (.ireturn, 1) := by decide +kernel
theorem dX9_silo_122 : decode cX9_silo 122 = .ok (.aload_n 0, 1) := by decide +kernel
theorem dX9_silo_123 : decode cX9_silo 123 = .ok (.iconst 2, 1) := by decide +kernel
theorem dX9_silo_124 : decode cX9_silo 124 = .ok (.invokevirtual 60, 3) := by decide +kernel
theorem dX9_silo_127 : decode cX9_silo 127 = .ok (.ireturn, 1) := by decide +kernel
set_option maxRecDepth 20000 in
theorem ggX9_block_X9_isSilo : GoodIn wsX9_block wsX9_isSilo := goodIn_r _ [7, 2, 8, 9, 6, 10, 15, 16, 17, 18, 19, 20, 21, 22, 23, 24, 25, 26, 27] (by decide +kernel) (by decide +kernel)
set_option maxRecDepth 20000 in
theorem gX9_block_X9_isSilo : GoodIn wsX9_block (wsV RX9 69 RX9 yX9_isSilo wsX9_isSilo) := goodIn_app (goodIn_of _ (by decide +kernel)) ggX9_block_X9_isSilo
set_option maxRecDepth 20000 in
theorem ggX9_block_X9_in : GoodIn wsX9_block wsX9_in := goodIn_r _ [10] (by decide +kernel) (by decide +kernel)
set_option maxRecDepth 20000 in
theorem gX9_block_X9_in : GoodIn wsX9_block (va_wsS RX9 47 yX9_in wsX9_in) := goodIn_app (goodIn_of _ (by decide +kernel)) ggX9_block_X9_in
set_option maxRecDepth 20000 in
theorem ggX9_block_X9_refuse : GoodIn wsX9_block wsX9_refuse := goodIn_r _ [14, 1, 15, 16, 17, 18, 19, 20, 21, 22, 23, 24, 25, 26, 27] (by decide +kernel) (by decide +kernel)
set_option maxRecDepth 20000 in
theorem gX9_block_X9_refuse : GoodIn wsX9_block (wsV RX9 60 RX9 yX9_refuse wsX9_refuse) := goodIn_app (goodIn_of _ (by decide +kernel)) ggX9_block_X9_refuse
theorem dX9_block_0 : decode cX9_block 0 = .ok (.aload_n 0, 1) := by decide +kernel
theorem dX9_block_1 : decode cX9_block 1 = .ok (.iconst 0, 1) := by decide +kernel
theorem dX9_block_2 : decode cX9_block 2 = .ok (.putfield 43, 3) := by decide +kernel
theorem dX9_block_5 : decode cX9_block 5 = .ok (.aload_n 0, 1) := by decide +kernel
theorem dX9_block_6 : decode cX9_block 6 = .ok (.iload_n 1, 1) := by decide +kernel
theorem dX9_block_7 : decode cX9_block 7 = .ok (.invokevirtual 69, 3) := by decide +kernel
theorem dX9_block_10 : decode cX9_block 10 = .ok (.ifCond .eq 23, 3) := by decide +kernel
theorem dX9_block_13 : decode cX9_block 13 = .ok (.iload_n 2, 1) := by decide +kernel
theorem dX9_block_14 : decode cX9_block 14 = .ok (.i2l, 1) := by decide +kernel
theorem dX9_block_15 : decode cX9_block 15 = .ok (.lconst 0, 1) := by decide +kernel
theorem dX9_block_16 : decode cX9_block 16 = .ok (.aload_n 0, 1) := by decide +kernel
theorem dX9_block_17 : decode cX9_block 17 = .ok (.getfield 7, 3) := by decide +kernel
theorem dX9_block_20 : decode cX9_block 20 = .ok (.bipush 47, 2) := by decide +kernel
theorem dX9_block_22 : decode cX9_block 22 = .ok (.iload_n 1, 1) := by decide +kernel
theorem dX9_block_23 : decode cX9_block 23 = .ok (.iadd, 1) := by decide +kernel
theorem dX9_block_24 : decode cX9_block 24 = .ok (.laload, 1) := by decide +kernel
theorem dX9_block_25 : decode cX9_block 25 = .ok (.lconst 1, 1) := by decide +kernel
theorem dX9_block_26 : decode cX9_block 26 = .ok (.lsub, 1) := by decide +kernel
theorem dX9_block_27 : decode cX9_block 27 = .ok (.invokestatic 47, 3) := by decide +kernel
theorem dX9_block_30 : decode cX9_block 30 = .ok (.ifCond .ne 9, 3) := by decide +kernel
theorem dX9_block_33 : decode cX9_block 33 = .ok (.aload_n 0, 1) := by decide +kernel
theorem dX9_block_34 : decode cX9_block 34 = .ok (.iconst 1, 1) := by decide +kernel
theorem dX9_block_35 : decode cX9_block 35 = .ok (.invokevirtual 60, 3) := by decide +kernel
theorem dX9_block_38 : decode cX9_block 38 = .ok (.ireturn, 1) := by decide +kernel
theorem dX9_block_39 : decode cX9_block 39 = .ok (.bipush 30, 2) := by decide +kernel
theorem dX9_block_41 : decode cX9_block 41 = .ok (.iload_n 1, 1) := by decide +kernel
theorem dX9_block_42 : decode cX9_block 42 = .ok (.imul, 1) := by decide +kernel
theorem dX9_block_43 : decode cX9_block 43 = .ok (.iload_n 2, 1) := by decide +kernel
theorem dX9_block_44 : decode cX9_block 44 = .ok (.iadd, 1) := by decide +kernel
theorem dX9_block_45 : decode cX9_block 45 = .ok (.istore 4, 2) := by decide +kernel
theorem dX9_block_47 : decode cX9_block 47 = .ok (.iload_n 3, 1) := by decide +kernel
theorem dX9_block_48 : decode cX9_block 48 = .ok (.tableswitch 66 0 2 #[28, 40, 53], 28) := by decide +kernel
theorem dX9_block_76 : decode cX9_block 76 = .ok (.aload_n 0, 1) := by decide +kernel
theorem dX9_block_77 : decode cX9_block 77 = .ok (.getfield 7, 3) := by decide +kernel
theorem dX9_block_80 : decode cX9_block 80 = .ok (.bipush 57, 2) := by decide +kernel
theorem dX9_block_82 : decode cX9_block 82 = .ok (.iload 4, 2) := by decide +kernel
theorem dX9_block_84 : decode cX9_block 84 = .ok (.iadd, 1) := by decide +kernel
theorem dX9_block_85 : decode cX9_block 85 = .ok (.laload, 1) := by decide +kernel
theorem dX9_block_86 : decode cX9_block 86 = .ok (.l2i, 1) := by decide +kernel
theorem dX9_block_87 : decode cX9_block 87 = .ok (.ireturn, 1) := by decide +kernel
theorem dX9_block_88 : decode cX9_block 88 = .ok (.aload_n 0, 1) := by decide +kernel
theorem dX9_block_89 : decode cX9_block 89 = .ok (.getfield 7, 3) := by decide +kernel
theorem dX9_block_92 : decode cX9_block 92 = .ok (.sipush 207, 3) := by decide +kernel
theorem dX9_block_95 : decode cX9_block 95 = .ok (.iload 4, 2) := by decide +kernel
theorem dX9_block_97 : decode cX9_block 97 = .ok (.iadd, 1) := by decide +kernel
theorem dX9_block_98 : decode cX9_block 98 = .ok (.laload, 1) := by decide +kernel
theorem dX9_block_99 : decode cX9_block 99 = .ok (.l2i, 1) := by decide +kernel
theorem dX9_block_100 : decode cX9_block 100 = .ok (.ireturn, 1) := by decide +kernel
theorem dX9_block_101 : decode cX9_block 101 = .ok (.aload_n 0, 1) := by decide +kernel
theorem dX9_block_102 : decode cX9_block 102 = .ok (.getfield 7, 3) := by decide +kernel
theorem dX9_block_105 : decode cX9_block 105 = .ok (.sipush 357, 3) := by decide +kernel
theorem dX9_block_108 : decode cX9_block 108 = .ok (.iload 4, 2) := by decide +kernel
theorem dX9_block_110 : decode cX9_block 110 = .ok (.iadd, 1) := by decide +kernel
theorem dX9_block_111 : decode cX9_block 111 = .ok (.laload, 1) := by decide +kernel
theorem dX9_block_112 : decode cX9_block 112 = .ok (.l2i, 1) := by decide +kernel
theorem dX9_block_113 : decode cX9_block 113 = .ok (.ireturn, 1) := by decide +kernel
theorem dX9_block_114 : decode cX9_block 114 = .ok (.aload_n 0, 1) := by decide +kernel
theorem dX9_block_115 : decode cX9_block 115 = .ok (.iconst 2, 1) := by decide +kernel
theorem dX9_block_116 : decode cX9_block 116 = .ok (.invokevirtual 60, 3) := by decide +kernel
theorem dX9_block_119 : decode cX9_block 119 = .ok (.ireturn, 1) := by decide +kernel
theorem dX9_openOf_0 : decode cX9_openOf 0 = .ok (.iconst 0, 1) := by decide +kernel
theorem dX9_openOf_1 : decode cX9_openOf 1 = .ok (.istore_n 2, 1) := by decide +kernel
theorem dX9_openOf_2 : decode cX9_openOf 2 = .ok (.iconst 0, 1) := by decide +kernel
theorem dX9_openOf_3 : decode cX9_openOf 3 = .ok (.istore_n 3, 1) := by decide +kernel
theorem dX9_openOf_4 : decode cX9_openOf 4 = .ok (.iload_n 3, 1) := by decide +kernel
theorem dX9_openOf_5 : decode cX9_openOf 5 = .ok (.i2l, 1) := by decide +kernel
theorem dX9_openOf_6 : decode cX9_openOf 6 = .ok (.aload_n 0, 1) := by decide +kernel
theorem dX9_openOf_7 : decode cX9_openOf 7 = .ok (.getfield 7, 3) := by decide +kernel
theorem dX9_openOf_10 : decode cX9_openOf 10 = .ok (.sipush 1882, 3) := by decide +kernel
theorem dX9_openOf_13 : decode cX9_openOf 13 = .ok (.laload, 1) := by decide +kernel
theorem dX9_openOf_14 : decode cX9_openOf 14 = .ok (.lcmp, 1) := by decide +kernel
theorem dX9_openOf_15 : decode cX9_openOf 15 = .ok (.ifCond .ge 48, 3) := by decide +kernel
theorem dX9_openOf_18 : decode cX9_openOf 18 = .ok (.iload_n 2, 1) := by decide +kernel
theorem dX9_openOf_19 : decode cX9_openOf 19 = .ok (.aload_n 0, 1) := by decide +kernel
theorem dX9_openOf_20 : decode cX9_openOf 20 = .ok (.getfield 7, 3) := by decide +kernel
theorem dX9_openOf_23 : decode cX9_openOf 23 = .ok (.sipush 1531, 3) := by decide +kernel
theorem dX9_openOf_26 : decode cX9_openOf 26 = .ok (.iload_n 3, 1) := by decide +kernel
theorem dX9_openOf_27 : decode cX9_openOf 27 = .ok (.iadd, 1) := by decide +kernel
theorem dX9_openOf_28 : decode cX9_openOf 28 = .ok (.laload, 1) := by decide +kernel
theorem dX9_openOf_29 : decode cX9_openOf 29 = .ok (.lconst 0, 1) := by decide +kernel
theorem dX9_openOf_30 : decode cX9_openOf 30 = .ok (.lcmp, 1) := by decide +kernel
theorem dX9_openOf_31 : decode cX9_openOf 31 = .ok (.ifCond .ne 23, 3) := by decide +kernel
theorem dX9_openOf_34 : decode cX9_openOf 34 = .ok (.aload_n 0, 1) := by decide +kernel
theorem dX9_openOf_35 : decode cX9_openOf 35 = .ok (.getfield 7, 3) := by decide +kernel
theorem dX9_openOf_38 : decode cX9_openOf 38 = .ok (.sipush 531, 3) := by decide +kernel
theorem dX9_openOf_41 : decode cX9_openOf 41 = .ok (.iload_n 3, 1) := by decide +kernel
theorem dX9_openOf_42 : decode cX9_openOf 42 = .ok (.iadd, 1) := by decide +kernel
theorem dX9_openOf_43 : decode cX9_openOf 43 = .ok (.laload, 1) := by decide +kernel
theorem dX9_openOf_44 : decode cX9_openOf 44 = .ok (.iload_n 1, 1) := by decide +kernel
theorem dX9_openOf_45 : decode cX9_openOf 45 = .ok (.i2l, 1) := by decide +kernel
theorem dX9_openOf_46 : decode cX9_openOf 46 = .ok (.lcmp, 1) := by decide +kernel
theorem dX9_openOf_47 : decode cX9_openOf 47 = .ok (.ifCond .ne 7, 3) := by decide +kernel
theorem dX9_openOf_50 : decode cX9_openOf 50 = .ok (.iconst 1, 1) := by decide +kernel
theorem dX9_openOf_51 : decode cX9_openOf 51 = .ok (.goto 4, 3) := by decide +kernel
theorem dX9_openOf_54 : decode cX9_openOf 54 = .ok (.iconst 0, 1) := by decide +kernel
theorem dX9_openOf_55 : decode cX9_openOf 55 = .ok (.iadd, 1) := by decide +kernel
theorem dX9_openOf_56 : decode cX9_openOf 56 = .ok (.istore_n 2, 1) := by decide +kernel
theorem dX9_openOf_57 : decode cX9_openOf 57 = .ok (.iinc 3 1, 3) := by decide +kernel
theorem dX9_openOf_60 : decode cX9_openOf 60 = .ok (.goto (-56), 3) := by decide +kernel
theorem dX9_openOf_63 : decode cX9_openOf 63 = .ok (.iload_n 2, 1) := by decide +kernel
theorem dX9_openOf_64 : decode cX9_openOf 64 = .ok (.ireturn, 1) := by decide +kernel
set_option maxRecDepth 20000 in
theorem ggX9_boat_X9_isBoat : GoodIn wsX9_boat wsX9_isBoat := goodIn_r _ [7, 2, 8, 9, 6, 10, 19, 20, 21, 22, 23, 24, 25, 26, 27, 28, 29, 30, 31] (by decide +kernel) (by decide +kernel)
set_option maxRecDepth 20000 in
theorem gX9_boat_X9_isBoat : GoodIn wsX9_boat (wsV RX9 198 RX9 yX9_isBoat wsX9_isBoat) := goodIn_app (goodIn_of _ (by decide +kernel)) ggX9_boat_X9_isBoat
set_option maxRecDepth 20000 in
theorem ggX9_boat_X9_refuse : GoodIn wsX9_boat wsX9_refuse := goodIn_r _ [14, 1, 19, 20, 21, 22, 23, 24, 25, 26, 27, 28, 29, 30, 31] (by decide +kernel) (by decide +kernel)
set_option maxRecDepth 20000 in
theorem gX9_boat_X9_refuse : GoodIn wsX9_boat (wsV RX9 60 RX9 yX9_refuse wsX9_refuse) := goodIn_app (goodIn_of _ (by decide +kernel)) ggX9_boat_X9_refuse
set_option maxRecDepth 20000 in
theorem ggX9_boat_X9_openOf : GoodIn wsX9_boat wsX9_openOf := goodIn_r _ [18, 2, 19, 20, 21, 22, 23, 24, 25, 26, 27, 28, 29, 30, 31] (by decide +kernel) (by decide +kernel)
set_option maxRecDepth 20000 in
theorem gX9_boat_X9_openOf : GoodIn wsX9_boat (wsV RX9 230 RX9 yX9_openOf wsX9_openOf) := goodIn_app (goodIn_of _ (by decide +kernel)) ggX9_boat_X9_openOf
theorem dX9_boat_0 : decode cX9_boat 0 = .ok (.aload_n 0, 1) := by decide +kernel
theorem dX9_boat_1 : decode cX9_boat 1 = .ok (.iconst 0, 1) := by decide +kernel
theorem dX9_boat_2 : decode cX9_boat 2 = .ok (.putfield 43, 3) := by decide +kernel
theorem dX9_boat_5 : decode cX9_boat 5 = .ok (.aload_n 0, 1) := by decide +kernel
theorem dX9_boat_6 : decode cX9_boat 6 = .ok (.iload_n 1, 1) := by decide +kernel
theorem dX9_boat_7 : decode cX9_boat 7 = .ok (.invokevirtual 198, 3) := by decide +kernel
theorem dX9_boat_10 : decode cX9_boat 10 = .ok (.ifCond .ne 9, 3) := by decide +kernel
theorem dX9_boat_13 : decode cX9_boat 13 = .ok (.aload_n 0, 1) := by decide +kernel
theorem dX9_boat_14 : decode cX9_boat 14 = .ok (.iconst 1, 1) := by decide +kernel
theorem dX9_boat_15 : decode cX9_boat 15 = .ok (.invokevirtual 60, 3) := by decide +kernel
theorem dX9_boat_18 : decode cX9_boat 18 = .ok (.ireturn, 1) := by decide +kernel
theorem dX9_boat_19 : decode cX9_boat 19 = .ok (.iload_n 2, 1) := by decide +kernel
theorem dX9_boat_20 : decode cX9_boat 20 = .ok (.tableswitch 74 0 3 #[32, 44, 56, 68], 32) := by decide +kernel
theorem dX9_boat_52 : decode cX9_boat 52 = .ok (.aload_n 0, 1) := by decide +kernel
theorem dX9_boat_53 : decode cX9_boat 53 = .ok (.getfield 7, 3) := by decide +kernel
theorem dX9_boat_56 : decode cX9_boat 56 = .ok (.sipush 507, 3) := by decide +kernel
theorem dX9_boat_59 : decode cX9_boat 59 = .ok (.iload_n 1, 1) := by decide +kernel
theorem dX9_boat_60 : decode cX9_boat 60 = .ok (.iadd, 1) := by decide +kernel
theorem dX9_boat_61 : decode cX9_boat 61 = .ok (.laload, 1) := by decide +kernel
theorem dX9_boat_62 : decode cX9_boat 62 = .ok (.l2i, 1) := by decide +kernel
theorem dX9_boat_63 : decode cX9_boat 63 = .ok (.ireturn, 1) := by decide +kernel
theorem dX9_boat_64 : decode cX9_boat 64 = .ok (.aload_n 0, 1) := by decide +kernel
theorem dX9_boat_65 : decode cX9_boat 65 = .ok (.getfield 7, 3) := by decide +kernel
theorem dX9_boat_68 : decode cX9_boat 68 = .ok (.sipush 515, 3) := by decide +kernel
theorem dX9_boat_71 : decode cX9_boat 71 = .ok (.iload_n 1, 1) := by decide +kernel
theorem dX9_boat_72 : decode cX9_boat 72 = .ok (.iadd, 1) := by decide +kernel
theorem dX9_boat_73 : decode cX9_boat 73 = .ok (.laload, 1) := by decide +kernel
theorem dX9_boat_74 : decode cX9_boat 74 = .ok (.l2i, 1) := by decide +kernel
theorem dX9_boat_75 : decode cX9_boat 75 = .ok (.ireturn, 1) := by decide +kernel
theorem dX9_boat_76 : decode cX9_boat 76 = .ok (.aload_n 0, 1) := by decide +kernel
theorem dX9_boat_77 : decode cX9_boat 77 = .ok (.getfield 7, 3) := by decide +kernel
theorem dX9_boat_80 : decode cX9_boat 80 = .ok (.sipush 523, 3) := by decide +kernel
theorem dX9_boat_83 : decode cX9_boat 83 = .ok (.iload_n 1, 1) := by decide +kernel
theorem dX9_boat_84 : decode cX9_boat 84 = .ok (.iadd, 1) := by decide +kernel
theorem dX9_boat_85 : decode cX9_boat 85 = .ok (.laload, 1) := by decide +kernel
theorem dX9_boat_86 : decode cX9_boat 86 = .ok (.l2i, 1) := by decide +kernel
theorem dX9_boat_87 : decode cX9_boat 87 = .ok (.ireturn, 1) := by decide +kernel
theorem dX9_boat_88 : decode cX9_boat 88 = .ok (.aload_n 0, 1) := by decide +kernel
theorem dX9_boat_89 : decode cX9_boat 89 = .ok (.iload_n 1, 1) := by decide +kernel
theorem dX9_boat_90 : decode cX9_boat 90 = .ok (.invokevirtual 230, 3) := by decide +kernel
theorem dX9_boat_93 : decode cX9_boat 93 = .ok (.ireturn, 1) := by decide +kernel
theorem dX9_boat_94 : decode cX9_boat 94 = .ok (.aload_n 0, 1) := by decide +kernel
theorem dX9_boat_95 : decode cX9_boat 95 = .ok (.iconst 2, 1) := by decide +kernel
theorem dX9_boat_96 : decode cX9_boat 96 = .ok (.invokevirtual 60, 3) := by decide +kernel
theorem dX9_boat_99 : decode cX9_boat 99 = .ok (.ireturn, 1) := by decide +kernel
set_option maxRecDepth 20000 in
theorem ggX9_orderProperty_X9_isOrder : GoodIn wsX9_orderProperty wsX9_isOrder := goodIn_r _ [7, 2, 8, 9, 6, 10, 33, 34, 35, 36, 37, 38, 39, 40, 41, 42, 43, 44, 45] (by decide +kernel) (by decide +kernel)
set_option maxRecDepth 20000 in
theorem gX9_orderProperty_X9_isOrder : GoodIn wsX9_orderProperty (wsV RX9 216 RX9 yX9_isOrder wsX9_isOrder) := goodIn_app (goodIn_of _ (by decide +kernel)) ggX9_orderProperty_X9_isOrder
set_option maxRecDepth 20000 in
theorem ggX9_orderProperty_X9_refuse : GoodIn wsX9_orderProperty wsX9_refuse := goodIn_r _ [14, 1, 33, 34, 35, 36, 37, 38, 39, 40, 41, 42, 43, 44, 45] (by decide +kernel) (by decide +kernel)
set_option maxRecDepth 20000 in
theorem gX9_orderProperty_X9_refuse : GoodIn wsX9_orderProperty (wsV RX9 60 RX9 yX9_refuse wsX9_refuse) := goodIn_app (goodIn_of _ (by decide +kernel)) ggX9_orderProperty_X9_refuse
set_option maxRecDepth 20000 in
theorem ggX9_orderProperty_X9_aheadOf : GoodIn wsX9_orderProperty wsX9_aheadOf := goodIn_r _ [18, 2, 19, 20, 21, 6, 22, 23, 24, 25, 26, 27, 28, 29, 30, 31, 32, 33, 34, 35, 36, 37, 38, 39, 40, 41, 42, 43, 44, 45] (by decide +kernel) (by decide +kernel)
set_option maxRecDepth 20000 in
theorem gX9_orderProperty_X9_aheadOf : GoodIn wsX9_orderProperty (wsV RX9 162 RX9 yX9_aheadOf wsX9_aheadOf) := goodIn_app (goodIn_of _ (by decide +kernel)) ggX9_orderProperty_X9_aheadOf
theorem dX9_orderProperty_0 : decode cX9_orderProperty 0 = .ok (.aload_n 0, 1) := by decide +kernel
theorem dX9_orderProperty_1 : decode cX9_orderProperty 1 = .ok (.iconst 0, 1) := by decide +kernel
theorem dX9_orderProperty_2 : decode cX9_orderProperty 2 = .ok (.putfield 43, 3) := by decide +kernel
theorem dX9_orderProperty_5 : decode cX9_orderProperty 5 = .ok (.aload_n 0, 1) := by decide +kernel
theorem dX9_orderProperty_6 : decode cX9_orderProperty 6 = .ok (.iload_n 1, 1) := by decide +kernel
theorem dX9_orderProperty_7 : decode cX9_orderProperty 7 = .ok (.invokevirtual 216, 3) := by decide +kernel
theorem dX9_orderProperty_10 : decode cX9_orderProperty 10 = .ok (.ifCond .ne 9, 3) := by decide +kernel
theorem dX9_orderProperty_13 : decode cX9_orderProperty 13 = .ok (.aload_n 0, 1) := by decide +kernel
theorem dX9_orderProperty_14 : decode cX9_orderProperty 14 = .ok (.iconst 1, 1) := by decide +kernel
theorem dX9_orderProperty_15 : decode cX9_orderProperty 15 = .ok (.invokevirtual 60, 3) := by decide +kernel
theorem dX9_orderProperty_18 : decode cX9_orderProperty 18 = .ok (.ireturn, 1) := by decide +kernel
theorem dX9_orderProperty_19 : decode cX9_orderProperty 19 = .ok (.iload_n 2, 1) := by decide +kernel
theorem dX9_orderProperty_20 : decode cX9_orderProperty 20 = .ok (.tableswitch 141 0 6 #[44, 56, 68, 80, 92, 104, 116], 44) := by decide +kernel
theorem dX9_orderProperty_64 : decode cX9_orderProperty 64 = .ok (.aload_n 0, 1) := by decide +kernel
theorem dX9_orderProperty_65 : decode cX9_orderProperty 65 = .ok (.getfield 7, 3) := by decide +kernel
theorem dX9_orderProperty_68 : decode cX9_orderProperty 68 = .ok (.sipush 531, 3) := by decide +kernel
theorem dX9_orderProperty_71 : decode cX9_orderProperty 71 = .ok (.iload_n 1, 1) := by decide +kernel
theorem dX9_orderProperty_72 : decode cX9_orderProperty 72 = .ok (.iadd, 1) := by decide +kernel
theorem dX9_orderProperty_73 : decode cX9_orderProperty 73 = .ok (.laload, 1) := by decide +kernel
theorem dX9_orderProperty_74 : decode cX9_orderProperty 74 = .ok (.l2i, 1) := by decide +kernel
theorem dX9_orderProperty_75 : decode cX9_orderProperty 75 = .ok (.ireturn, 1) := by decide +kernel
theorem dX9_orderProperty_76 : decode cX9_orderProperty 76 = .ok (.aload_n 0, 1) := by decide +kernel
theorem dX9_orderProperty_77 : decode cX9_orderProperty 77 = .ok (.getfield 7, 3) := by decide +kernel
theorem dX9_orderProperty_80 : decode cX9_orderProperty 80 = .ok (.sipush 731, 3) := by decide +kernel
theorem dX9_orderProperty_83 : decode cX9_orderProperty 83 = .ok (.iload_n 1, 1) := by decide +kernel
theorem dX9_orderProperty_84 : decode cX9_orderProperty 84 = .ok (.iadd, 1) := by decide +kernel
theorem dX9_orderProperty_85 : decode cX9_orderProperty 85 = .ok (.laload, 1) := by decide +kernel
theorem dX9_orderProperty_86 : decode cX9_orderProperty 86 = .ok (.l2i, 1) := by decide +kernel
theorem dX9_orderProperty_87 : decode cX9_orderProperty 87 = .ok (.ireturn, 1) := by decide +kernel
theorem dX9_orderProperty_88 : decode cX9_orderProperty 88 = .ok (.aload_n 0, 1) := by decide +kernel
theorem dX9_orderProperty_89 : decode cX9_orderProperty 89 = .ok (.getfield 7, 3) := by decide +kernel
theorem dX9_orderProperty_92 : decode cX9_orderProperty 92 = .ok (.sipush 931, 3) := by decide +kernel
theorem dX9_orderProperty_95 : decode cX9_orderProperty 95 = .ok (.iload_n 1, 1) := by decide +kernel
theorem dX9_orderProperty_96 : decode cX9_orderProperty 96 = .ok (.iadd, 1) := by decide +kernel
theorem dX9_orderProperty_97 : decode cX9_orderProperty 97 = .ok (.laload, 1) := by decide +kernel
theorem dX9_orderProperty_98 : decode cX9_orderProperty 98 = .ok (.l2i, 1) := by decide +kernel
theorem dX9_orderProperty_99 : decode cX9_orderProperty 99 = .ok (.ireturn, 1) := by decide +kernel
theorem dX9_orderProperty_100 : decode cX9_orderProperty 100 = .ok (.aload_n 0, 1) := by decide +kernel
theorem dX9_orderProperty_101 : decode cX9_orderProperty 101 = .ok (.getfield 7, 3) := by decide +kernel
theorem dX9_orderProperty_104 : decode cX9_orderProperty 104 = .ok (.sipush 1131, 3) := by decide +kernel
theorem dX9_orderProperty_107 : decode cX9_orderProperty 107 = .ok (.iload_n 1, 1) := by decide +kernel
theorem dX9_orderProperty_108 : decode cX9_orderProperty 108 = .ok (.iadd, 1) := by decide +kernel
theorem dX9_orderProperty_109 : decode cX9_orderProperty 109 = .ok (.laload, 1) := by decide +kernel
theorem dX9_orderProperty_110 : decode cX9_orderProperty 110 = .ok (.l2i, 1) := by decide +kernel
theorem dX9_orderProperty_111 : decode cX9_orderProperty 111 = .ok (.ireturn, 1) := by decide +kernel
theorem dX9_orderProperty_112 : decode cX9_orderProperty 112 = .ok (.aload_n 0, 1) := by decide +kernel
theorem dX9_orderProperty_113 : decode cX9_orderProperty 113 = .ok (.getfield 7, 3) := by decide +kernel
theorem dX9_orderProperty_116 : decode cX9_orderProperty 116 = .ok (.sipush 1331, 3) := by decide +kernel
theorem dX9_orderProperty_119 : decode cX9_orderProperty 119 = .ok (.iload_n 1, 1) := by decide +kernel
theorem dX9_orderProperty_120 : decode cX9_orderProperty 120 = .ok (.iadd, 1) := by decide +kernel
theorem dX9_orderProperty_121 : decode cX9_orderProperty 121 = .ok (.laload, 1) := by decide +kernel
theorem dX9_orderProperty_122 : decode cX9_orderProperty 122 = .ok (.l2i, 1) := by decide +kernel
theorem dX9_orderProperty_123 : decode cX9_orderProperty 123 = .ok (.ireturn, 1) := by decide +kernel
theorem dX9_orderProperty_124 : decode cX9_orderProperty 124 = .ok (.aload_n 0, 1) := by decide +kernel
theorem dX9_orderProperty_125 : decode cX9_orderProperty 125 = .ok (.getfield 7, 3) := by decide +kernel
theorem dX9_orderProperty_128 : decode cX9_orderProperty 128 = .ok (.sipush 1531, 3) := by decide +kernel
theorem dX9_orderProperty_131 : decode cX9_orderProperty 131 = .ok (.iload_n 1, 1) := by decide +kernel
theorem dX9_orderProperty_132 : decode cX9_orderProperty 132 = .ok (.iadd, 1) := by decide +kernel
theorem dX9_orderProperty_133 : decode cX9_orderProperty 133 = .ok (.laload, 1) := by decide +kernel
theorem dX9_orderProperty_134 : decode cX9_orderProperty 134 = .ok (.l2i, 1) := by decide +kernel
theorem dX9_orderProperty_135 : decode cX9_orderProperty 135 = .ok (.ireturn, 1) := by decide +kernel
theorem dX9_orderProperty_136 : decode cX9_orderProperty 136 = .ok (.aload_n 0, 1) := by decide +kernel
theorem dX9_orderProperty_137 : decode cX9_orderProperty 137 = .ok (.getfield 7, 3) := by decide +kernel
theorem dX9_orderProperty_140 : decode cX9_orderProperty 140 = .ok (.sipush 1531, 3) := by decide +kernel
theorem dX9_orderProperty_143 : decode cX9_orderProperty 143 = .ok (.iload_n 1, 1) := by decide +kernel
theorem dX9_orderProperty_144 : decode cX9_orderProperty 144 = .ok (.iadd, 1) := by decide +kernel
theorem dX9_orderProperty_145 : decode cX9_orderProperty 145 = .ok (.laload, 1) := by decide +kernel
theorem dX9_orderProperty_146 : decode cX9_orderProperty 146 = .ok (.lconst 0, 1) := by decide +kernel
theorem dX9_orderProperty_147 : decode cX9_orderProperty 147 = .ok (.lcmp, 1) := by decide +kernel
theorem dX9_orderProperty_148 : decode cX9_orderProperty 148 = .ok (.ifCond .ne 11, 3) := by decide +kernel
theorem dX9_orderProperty_151 : decode cX9_orderProperty 151 = .ok (.aload_n 0, 1) := by decide +kernel
theorem dX9_orderProperty_152 : decode cX9_orderProperty 152 = .ok (.iload_n 1, 1) := by decide +kernel
theorem dX9_orderProperty_153 : decode cX9_orderProperty 153 = .ok (.invokevirtual 162, 3) := by decide +kernel
theorem dX9_orderProperty_156 : decode cX9_orderProperty 156 = .ok (.goto 4, 3) := by decide +kernel
theorem dX9_orderProperty_159 : decode cX9_orderProperty 159 = .ok (.iconst (-1), 1) := by decide +kernel
theorem dX9_orderProperty_160 : decode cX9_orderProperty 160 = .ok (.ireturn, 1) := by decide +kernel
theorem dX9_orderProperty_161 : decode cX9_orderProperty 161 = .ok (.aload_n 0, 1) := by decide +kernel
theorem dX9_orderProperty_162 : decode cX9_orderProperty 162 = .ok (.iconst 2, 1) := by decide +kernel
theorem dX9_orderProperty_163 : decode cX9_orderProperty 163 = .ok (.invokevirtual 60, 3) := by decide +kernel
theorem dX9_orderProperty_166 : decode cX9_orderProperty 166 = .ok (.ireturn, 1) := by decide +kernel
set_option maxRecDepth 20000 in
theorem ggX9_receipt_X9_in : GoodIn wsX9_receipt wsX9_in := goodIn_r _ [6] (by decide +kernel) (by decide +kernel)
set_option maxRecDepth 20000 in
theorem gX9_receipt_X9_in : GoodIn wsX9_receipt (va_wsS RX9 47 yX9_in wsX9_in) := goodIn_app (goodIn_of _ (by decide +kernel)) ggX9_receipt_X9_in
set_option maxRecDepth 20000 in
theorem ggX9_receipt_X9_refuse : GoodIn wsX9_receipt wsX9_refuse := goodIn_r _ [10, 1, 11, 12, 13, 14, 15, 16, 17, 18, 19, 20, 21, 22, 23] (by decide +kernel) (by decide +kernel)
set_option maxRecDepth 20000 in
theorem gX9_receipt_X9_refuse : GoodIn wsX9_receipt (wsV RX9 60 RX9 yX9_refuse wsX9_refuse) := goodIn_app (goodIn_of _ (by decide +kernel)) ggX9_receipt_X9_refuse
theorem dX9_receipt_0 : decode cX9_receipt 0 = .ok (.aload_n 0, 1) := by decide +kernel
theorem dX9_receipt_1 : decode cX9_receipt 1 = .ok (.iconst 0, 1) := by decide +kernel
theorem dX9_receipt_2 : decode cX9_receipt 2 = .ok (.putfield 43, 3) := by decide +kernel
theorem dX9_receipt_5 : decode cX9_receipt 5 = .ok (.iload_n 1, 1) := by decide +kernel
theorem dX9_receipt_6 : decode cX9_receipt 6 = .ok (.i2l, 1) := by decide +kernel
theorem dX9_receipt_7 : decode cX9_receipt 7 = .ok (.lconst 0, 1) := by decide +kernel
theorem dX9_receipt_8 : decode cX9_receipt 8 = .ok (.aload_n 0, 1) := by decide +kernel
theorem dX9_receipt_9 : decode cX9_receipt 9 = .ok (.getfield 7, 3) := by decide +kernel
theorem dX9_receipt_12 : decode cX9_receipt 12 = .ok (.sipush 1885, 3) := by decide +kernel
theorem dX9_receipt_15 : decode cX9_receipt 15 = .ok (.laload, 1) := by decide +kernel
theorem dX9_receipt_16 : decode cX9_receipt 16 = .ok (.lconst 1, 1) := by decide +kernel
theorem dX9_receipt_17 : decode cX9_receipt 17 = .ok (.lsub, 1) := by decide +kernel
theorem dX9_receipt_18 : decode cX9_receipt 18 = .ok (.invokestatic 47, 3) := by decide +kernel
theorem dX9_receipt_21 : decode cX9_receipt 21 = .ok (.ifCond .ne 9, 3) := by decide +kernel
theorem dX9_receipt_24 : decode cX9_receipt 24 = .ok (.aload_n 0, 1) := by decide +kernel
theorem dX9_receipt_25 : decode cX9_receipt 25 = .ok (.iconst 1, 1) := by decide +kernel
theorem dX9_receipt_26 : decode cX9_receipt 26 = .ok (.invokevirtual 60, 3) := by decide +kernel
theorem dX9_receipt_29 : decode cX9_receipt 29 = .ok (.ireturn, 1) := by decide +kernel
theorem dX9_receipt_30 : decode cX9_receipt 30 = .ok (.aload_n 0, 1) := by decide +kernel
theorem dX9_receipt_31 : decode cX9_receipt 31 = .ok (.getfield 7, 3) := by decide +kernel
theorem dX9_receipt_34 : decode cX9_receipt 34 = .ok (.sipush 1885, 3) := by decide +kernel
theorem dX9_receipt_37 : decode cX9_receipt 37 = .ok (.laload, 1) := by decide +kernel
theorem dX9_receipt_38 : decode cX9_receipt 38 = .ok (.l2i, 1) := by decide +kernel
theorem dX9_receipt_39 : decode cX9_receipt 39 = .ok (.iconst 1, 1) := by decide +kernel
theorem dX9_receipt_40 : decode cX9_receipt 40 = .ok (.isub, 1) := by decide +kernel
theorem dX9_receipt_41 : decode cX9_receipt 41 = .ok (.iload_n 1, 1) := by decide +kernel
theorem dX9_receipt_42 : decode cX9_receipt 42 = .ok (.isub, 1) := by decide +kernel
theorem dX9_receipt_43 : decode cX9_receipt 43 = .ok (.istore_n 3, 1) := by decide +kernel
theorem dX9_receipt_44 : decode cX9_receipt 44 = .ok (.iload_n 2, 1) := by decide +kernel
theorem dX9_receipt_45 : decode cX9_receipt 45 = .ok (.tableswitch 95 0 4 #[35, 47, 59, 71, 83], 35) := by decide +kernel
theorem dX9_receipt_80 : decode cX9_receipt 80 = .ok (.aload_n 0, 1) := by decide +kernel
theorem dX9_receipt_81 : decode cX9_receipt 81 = .ok (.getfield 7, 3) := by decide +kernel
theorem dX9_receipt_84 : decode cX9_receipt 84 = .ok (.sipush 1731, 3) := by decide +kernel
theorem dX9_receipt_87 : decode cX9_receipt 87 = .ok (.iload_n 3, 1) := by decide +kernel
theorem dX9_receipt_88 : decode cX9_receipt 88 = .ok (.iadd, 1) := by decide +kernel
theorem dX9_receipt_89 : decode cX9_receipt 89 = .ok (.laload, 1) := by decide +kernel
theorem dX9_receipt_90 : decode cX9_receipt 90 = .ok (.l2i, 1) := by decide +kernel
theorem dX9_receipt_91 : decode cX9_receipt 91 = .ok (.ireturn, 1) := by decide +kernel
theorem dX9_receipt_92 : decode cX9_receipt 92 = .ok (.aload_n 0, 1) := by decide +kernel
theorem dX9_receipt_93 : decode cX9_receipt 93 = .ok (.getfield 7, 3) := by decide +kernel
theorem dX9_receipt_96 : decode cX9_receipt 96 = .ok (.sipush 1747, 3) := by decide +kernel
theorem dX9_receipt_99 : decode cX9_receipt 99 = .ok (.iload_n 3, 1) := by decide +kernel
theorem dX9_receipt_100 : decode cX9_receipt 100 = .ok (.iadd, 1) := by decide +kernel
theorem dX9_receipt_101 : decode cX9_receipt 101 = .ok (.laload, 1) := by decide +kernel
theorem dX9_receipt_102 : decode cX9_receipt 102 = .ok (.l2i, 1) := by decide +kernel
theorem dX9_receipt_103 : decode cX9_receipt 103 = .ok (.ireturn, 1) := by decide +kernel
theorem dX9_receipt_104 : decode cX9_receipt 104 = .ok (.aload_n 0, 1) := by decide +kernel
theorem dX9_receipt_105 : decode cX9_receipt 105 = .ok (.getfield 7, 3) := by decide +kernel
theorem dX9_receipt_108 : decode cX9_receipt 108 = .ok (.sipush 1763, 3) := by decide +kernel
theorem dX9_receipt_111 : decode cX9_receipt 111 = .ok (.iload_n 3, 1) := by decide +kernel
theorem dX9_receipt_112 : decode cX9_receipt 112 = .ok (.iadd, 1) := by decide +kernel
theorem dX9_receipt_113 : decode cX9_receipt 113 = .ok (.laload, 1) := by decide +kernel
theorem dX9_receipt_114 : decode cX9_receipt 114 = .ok (.l2i, 1) := by decide +kernel
theorem dX9_receipt_115 : decode cX9_receipt 115 = .ok (.ireturn, 1) := by decide +kernel
theorem dX9_receipt_116 : decode cX9_receipt 116 = .ok (.aload_n 0, 1) := by decide +kernel
theorem dX9_receipt_117 : decode cX9_receipt 117 = .ok (.getfield 7, 3) := by decide +kernel
theorem dX9_receipt_120 : decode cX9_receipt 120 = .ok (.sipush 1779, 3) := by decide +kernel
theorem dX9_receipt_123 : decode cX9_receipt 123 = .ok (.iload_n 3, 1) := by decide +kernel
theorem dX9_receipt_124 : decode cX9_receipt 124 = .ok (.iadd, 1) := by decide +kernel
theorem dX9_receipt_125 : decode cX9_receipt 125 = .ok (.laload, 1) := by decide +kernel
theorem dX9_receipt_126 : decode cX9_receipt 126 = .ok (.l2i, 1) := by decide +kernel
theorem dX9_receipt_127 : decode cX9_receipt 127 = .ok (.ireturn, 1) := by decide +kernel
theorem dX9_receipt_128 : decode cX9_receipt 128 = .ok (.aload_n 0, 1) := by decide +kernel
theorem dX9_receipt_129 : decode cX9_receipt 129 = .ok (.getfield 7, 3) := by decide +kernel
theorem dX9_receipt_132 : decode cX9_receipt 132 = .ok (.sipush 1795, 3) := by decide +kernel
theorem dX9_receipt_135 : decode cX9_receipt 135 = .ok (.iload_n 3, 1) := by decide +kernel
theorem dX9_receipt_136 : decode cX9_receipt 136 = .ok (.iadd, 1) := by decide +kernel
theorem dX9_receipt_137 : decode cX9_receipt 137 = .ok (.laload, 1) := by decide +kernel
theorem dX9_receipt_138 : decode cX9_receipt 138 = .ok (.l2i, 1) := by decide +kernel
theorem dX9_receipt_139 : decode cX9_receipt 139 = .ok (.ireturn, 1) := by decide +kernel
theorem dX9_receipt_140 : decode cX9_receipt 140 = .ok (.aload_n 0, 1) := by decide +kernel
theorem dX9_receipt_141 : decode cX9_receipt 141 = .ok (.iconst 2, 1) := by decide +kernel
theorem dX9_receipt_142 : decode cX9_receipt 142 = .ok (.invokevirtual 60, 3) := by decide +kernel
theorem dX9_receipt_145 : decode cX9_receipt 145 = .ok (.ireturn, 1) := by decide +kernel
set_option maxRecDepth 20000 in
theorem ggX9_account_X9_in : GoodIn wsX9_account wsX9_in := goodIn_r _ [6] (by decide +kernel) (by decide +kernel)
set_option maxRecDepth 20000 in
theorem gX9_account_X9_in : GoodIn wsX9_account (va_wsS RX9 47 yX9_in wsX9_in) := goodIn_app (goodIn_of _ (by decide +kernel)) ggX9_account_X9_in
set_option maxRecDepth 20000 in
theorem ggX9_account_X9_refuse : GoodIn wsX9_account wsX9_refuse := goodIn_r _ [10, 1, 11, 12, 13, 14, 15, 16, 17, 18, 19, 20, 21, 22, 23] (by decide +kernel) (by decide +kernel)
set_option maxRecDepth 20000 in
theorem gX9_account_X9_refuse : GoodIn wsX9_account (wsV RX9 60 RX9 yX9_refuse wsX9_refuse) := goodIn_app (goodIn_of _ (by decide +kernel)) ggX9_account_X9_refuse
theorem dX9_account_0 : decode cX9_account 0 = .ok (.aload_n 0, 1) := by decide +kernel
theorem dX9_account_1 : decode cX9_account 1 = .ok (.iconst 0, 1) := by decide +kernel
theorem dX9_account_2 : decode cX9_account 2 = .ok (.putfield 43, 3) := by decide +kernel
theorem dX9_account_5 : decode cX9_account 5 = .ok (.iload_n 1, 1) := by decide +kernel
theorem dX9_account_6 : decode cX9_account 6 = .ok (.i2l, 1) := by decide +kernel
theorem dX9_account_7 : decode cX9_account 7 = .ok (.lconst 0, 1) := by decide +kernel
theorem dX9_account_8 : decode cX9_account 8 = .ok (.aload_n 0, 1) := by decide +kernel
theorem dX9_account_9 : decode cX9_account 9 = .ok (.getfield 7, 3) := by decide +kernel
theorem dX9_account_12 : decode cX9_account 12 = .ok (.sipush 1886, 3) := by decide +kernel
theorem dX9_account_15 : decode cX9_account 15 = .ok (.laload, 1) := by decide +kernel
theorem dX9_account_16 : decode cX9_account 16 = .ok (.lconst 1, 1) := by decide +kernel
theorem dX9_account_17 : decode cX9_account 17 = .ok (.lsub, 1) := by decide +kernel
theorem dX9_account_18 : decode cX9_account 18 = .ok (.invokestatic 47, 3) := by decide +kernel
theorem dX9_account_21 : decode cX9_account 21 = .ok (.ifCond .ne 10, 3) := by decide +kernel
theorem dX9_account_24 : decode cX9_account 24 = .ok (.aload_n 0, 1) := by decide +kernel
theorem dX9_account_25 : decode cX9_account 25 = .ok (.iconst 1, 1) := by decide +kernel
theorem dX9_account_26 : decode cX9_account 26 = .ok (.invokevirtual 60, 3) := by decide +kernel
theorem dX9_account_29 : decode cX9_account 29 = .ok (.i2l, 1) := by decide +kernel
theorem dX9_account_30 : decode cX9_account 30 = .ok (.lreturn, 1) := by decide +kernel
theorem dX9_account_31 : decode cX9_account 31 = .ok (.iload_n 2, 1) := by decide +kernel
theorem dX9_account_32 : decode cX9_account 32 = .ok (.tableswitch 76 0 3 #[32, 43, 54, 65], 32) := by decide +kernel
theorem dX9_account_64 : decode cX9_account 64 = .ok (.aload_n 0, 1) := by decide +kernel
theorem dX9_account_65 : decode cX9_account 65 = .ok (.getfield 7, 3) := by decide +kernel
theorem dX9_account_68 : decode cX9_account 68 = .ok (.sipush 1811, 3) := by decide +kernel
theorem dX9_account_71 : decode cX9_account 71 = .ok (.iload_n 1, 1) := by decide +kernel
theorem dX9_account_72 : decode cX9_account 72 = .ok (.iadd, 1) := by decide +kernel
theorem dX9_account_73 : decode cX9_account 73 = .ok (.laload, 1) := by decide +kernel
theorem dX9_account_74 : decode cX9_account 74 = .ok (.lreturn, 1) := by decide +kernel
theorem dX9_account_75 : decode cX9_account 75 = .ok (.aload_n 0, 1) := by decide +kernel
theorem dX9_account_76 : decode cX9_account 76 = .ok (.getfield 7, 3) := by decide +kernel
theorem dX9_account_79 : decode cX9_account 79 = .ok (.sipush 1827, 3) := by decide +kernel
theorem dX9_account_82 : decode cX9_account 82 = .ok (.iload_n 1, 1) := by decide +kernel
theorem dX9_account_83 : decode cX9_account 83 = .ok (.iadd, 1) := by decide +kernel
theorem dX9_account_84 : decode cX9_account 84 = .ok (.laload, 1) := by decide +kernel
theorem dX9_account_85 : decode cX9_account 85 = .ok (.lreturn, 1) := by decide +kernel
theorem dX9_account_86 : decode cX9_account 86 = .ok (.aload_n 0, 1) := by decide +kernel
theorem dX9_account_87 : decode cX9_account 87 = .ok (.getfield 7, 3) := by decide +kernel
theorem dX9_account_90 : decode cX9_account 90 = .ok (.sipush 1843, 3) := by decide +kernel
theorem dX9_account_93 : decode cX9_account 93 = .ok (.iload_n 1, 1) := by decide +kernel
theorem dX9_account_94 : decode cX9_account 94 = .ok (.iadd, 1) := by decide +kernel
theorem dX9_account_95 : decode cX9_account 95 = .ok (.laload, 1) := by decide +kernel
theorem dX9_account_96 : decode cX9_account 96 = .ok (.lreturn, 1) := by decide +kernel
theorem dX9_account_97 : decode cX9_account 97 = .ok (.aload_n 0, 1) := by decide +kernel
theorem dX9_account_98 : decode cX9_account 98 = .ok (.getfield 7, 3) := by decide +kernel
theorem dX9_account_101 : decode cX9_account 101 = .ok (.sipush 1859, 3) := by decide +kernel
theorem dX9_account_104 : decode cX9_account 104 = .ok (.iload_n 1, 1) := by decide +kernel
theorem dX9_account_105 : decode cX9_account 105 = .ok (.iadd, 1) := by decide +kernel
theorem dX9_account_106 : decode cX9_account 106 = .ok (.laload, 1) := by decide +kernel
theorem dX9_account_107 : decode cX9_account 107 = .ok (.lreturn, 1) := by decide +kernel
theorem dX9_account_108 : decode cX9_account 108 = .ok (.aload_n 0, 1) := by decide +kernel
theorem dX9_account_109 : decode cX9_account 109 = .ok (.iconst 2, 1) := by decide +kernel
theorem dX9_account_110 : decode cX9_account 110 = .ok (.invokevirtual 60, 3) := by decide +kernel
theorem dX9_account_113 : decode cX9_account 113 = .ok (.i2l, 1) := by decide +kernel
theorem dX9_account_114 : decode cX9_account 114 = .ok (.lreturn, 1) := by decide +kernel
set_option maxRecDepth 20000 in
theorem ggX9_findAccount_X9_isBoat : GoodIn wsX9_findAccount wsX9_isBoat := goodIn_r _ [6, 7, 8, 9, 5, 10, 19, 20, 21, 22, 23, 24, 25, 26, 27, 28, 29, 30, 31] (by decide +kernel) (by decide +kernel)
set_option maxRecDepth 20000 in
theorem gX9_findAccount_X9_isBoat : GoodIn wsX9_findAccount (wsV RX9 198 RX9 yX9_isBoat wsX9_isBoat) := goodIn_app (goodIn_of _ (by decide +kernel)) ggX9_findAccount_X9_isBoat
set_option maxRecDepth 20000 in
theorem ggX9_findAccount_X9_refuse : GoodIn wsX9_findAccount wsX9_refuse := goodIn_r _ [14, 1, 19, 20, 21, 22, 23, 24, 25, 26, 27, 28, 29, 30, 31] (by decide +kernel) (by decide +kernel)
set_option maxRecDepth 20000 in
theorem gX9_findAccount_X9_refuse : GoodIn wsX9_findAccount (wsV RX9 60 RX9 yX9_refuse wsX9_refuse) := goodIn_app (goodIn_of _ (by decide +kernel)) ggX9_findAccount_X9_refuse
set_option maxRecDepth 20000 in
theorem ggX9_findAccount_X9_in : GoodIn wsX9_findAccount wsX9_in := goodIn_r _ [10] (by decide +kernel) (by decide +kernel)
set_option maxRecDepth 20000 in
theorem gX9_findAccount_X9_in : GoodIn wsX9_findAccount (va_wsS RX9 47 yX9_in wsX9_in) := goodIn_app (goodIn_of _ (by decide +kernel)) ggX9_findAccount_X9_in
set_option maxRecDepth 20000 in
theorem ggX9_findAccount_X9_accountOf : GoodIn wsX9_findAccount wsX9_accountOf := goodIn_r _ [18, 7, 19, 20, 21, 22, 23, 24, 25, 26, 27, 28, 29, 30, 31] (by decide +kernel) (by decide +kernel)
set_option maxRecDepth 20000 in
theorem gX9_findAccount_X9_accountOf : GoodIn wsX9_findAccount (wsV RX9 136 RX9 yX9_accountOf wsX9_accountOf) := goodIn_app (goodIn_of _ (by decide +kernel)) ggX9_findAccount_X9_accountOf
theorem dX9_findAccount_0 : decode cX9_findAccount 0 = .ok (.aload_n 0, 1) := by decide +kernel
theorem dX9_findAccount_1 : decode cX9_findAccount 1 = .ok (.iconst 0, 1) := by decide +kernel
theorem dX9_findAccount_2 : decode cX9_findAccount 2 = .ok (.putfield 43, 3) := by decide +kernel
theorem dX9_findAccount_5 : decode cX9_findAccount 5 = .ok (.aload_n 0, 1) := by decide +kernel
theorem dX9_findAccount_6 : decode cX9_findAccount 6 = .ok (.iload_n 1, 1) := by decide +kernel
theorem dX9_findAccount_7 : decode cX9_findAccount 7 = .ok (.invokevirtual 198, 3) := by decide +kernel
theorem dX9_findAccount_10 : decode cX9_findAccount 10 = .ok (.ifCond .ne 9, 3) := by decide +kernel
theorem dX9_findAccount_13 : decode cX9_findAccount 13 = .ok (.aload_n 0, 1) := by decide +kernel
theorem dX9_findAccount_14 : decode cX9_findAccount 14 = .ok (.iconst 1, 1) := by decide +kernel
theorem dX9_findAccount_15 : decode cX9_findAccount 15 = .ok (.invokevirtual 60, 3) := by decide +kernel
theorem dX9_findAccount_18 : decode cX9_findAccount 18 = .ok (.ireturn, 1) := by decide +kernel
theorem dX9_findAccount_19 : decode cX9_findAccount 19 = .ok (.iload_n 2, 1) := by decide +kernel
theorem dX9_findAccount_20 : decode cX9_findAccount 20 = .ok (.i2l, 1) := by decide +kernel
theorem dX9_findAccount_21 : decode cX9_findAccount 21 = .ok (.lconst 0, 1) := by decide +kernel
theorem dX9_findAccount_22 : decode cX9_findAccount 22 = .ok (.lconst 1, 1) := by decide +kernel
theorem dX9_findAccount_23 : decode cX9_findAccount 23 = .ok (.invokestatic 47, 3) := by decide +kernel
theorem dX9_findAccount_26 : decode cX9_findAccount 26 = .ok (.ifCond .eq 12, 3) := by decide +kernel
theorem dX9_findAccount_29 : decode cX9_findAccount 29 = .ok (.aload_n 0, 1) := by decide +kernel
theorem dX9_findAccount_30 : decode cX9_findAccount 30 = .ok (.iload_n 1, 1) := by decide +kernel
theorem dX9_findAccount_31 : decode cX9_findAccount 31 = .ok (.iload_n 2, 1) := by decide +kernel
theorem dX9_findAccount_32 : decode cX9_findAccount 32 = .ok (.invokevirtual 136, 3) := by decide +kernel
theorem dX9_findAccount_35 : decode cX9_findAccount 35 = .ok (.goto 8, 3) := by decide +kernel
theorem dX9_findAccount_38 : decode cX9_findAccount 38 = .ok (.aload_n 0, 1) := by decide +kernel
theorem dX9_findAccount_39 : decode cX9_findAccount 39 = .ok (.iconst 2, 1) := by decide +kernel
theorem dX9_findAccount_40 : decode cX9_findAccount 40 = .ok (.invokevirtual 60, 3) := by decide +kernel
theorem dX9_findAccount_43 : decode cX9_findAccount 43 = .ok (.ireturn, 1) := by decide +kernel
set_option maxRecDepth 20000 in
theorem ggX9_setting_X9_in : GoodIn wsX9_setting wsX9_in := goodIn_r _ [7] (by decide +kernel) (by decide +kernel)
set_option maxRecDepth 20000 in
theorem gX9_setting_X9_in : GoodIn wsX9_setting (va_wsS RX9 47 yX9_in wsX9_in) := goodIn_app (goodIn_of _ (by decide +kernel)) ggX9_setting_X9_in
set_option maxRecDepth 20000 in
theorem ggX9_setting_X9_refuse : GoodIn wsX9_setting wsX9_refuse := goodIn_r _ [11, 1, 12, 13, 14, 15, 16, 17, 18, 19, 20, 21, 22, 23, 24] (by decide +kernel) (by decide +kernel)
set_option maxRecDepth 20000 in
theorem gX9_setting_X9_refuse : GoodIn wsX9_setting (wsV RX9 60 RX9 yX9_refuse wsX9_refuse) := goodIn_app (goodIn_of _ (by decide +kernel)) ggX9_setting_X9_refuse
theorem dX9_setting_0 : decode cX9_setting 0 = .ok (.aload_n 0, 1) := by decide +kernel
theorem dX9_setting_1 : decode cX9_setting 1 = .ok (.iconst 0, 1) := by decide +kernel
theorem dX9_setting_2 : decode cX9_setting 2 = .ok (.putfield 43, 3) := by decide +kernel
theorem dX9_setting_5 : decode cX9_setting 5 = .ok (.iload_n 1, 1) := by decide +kernel
theorem dX9_setting_6 : decode cX9_setting 6 = .ok (.i2l, 1) := by decide +kernel
theorem dX9_setting_7 : decode cX9_setting 7 = .ok (.lconst 0, 1) := by decide +kernel
theorem dX9_setting_8 : decode cX9_setting 8 = .ok (.ldc2_w 84, 3) := by decide +kernel
theorem dX9_setting_11 : decode cX9_setting 11 = .ok (.invokestatic 47, 3) := by decide +kernel
theorem dX9_setting_14 : decode cX9_setting 14 = .ok (.ifCond .eq 15, 3) := by decide +kernel
theorem dX9_setting_17 : decode cX9_setting 17 = .ok (.aload_n 0, 1) := by decide +kernel
theorem dX9_setting_18 : decode cX9_setting 18 = .ok (.getfield 7, 3) := by decide +kernel
theorem dX9_setting_21 : decode cX9_setting 21 = .ok (.iconst 0, 1) := by decide +kernel
theorem dX9_setting_22 : decode cX9_setting 22 = .ok (.iload_n 1, 1) := by decide +kernel
theorem dX9_setting_23 : decode cX9_setting 23 = .ok (.iadd, 1) := by decide +kernel
theorem dX9_setting_24 : decode cX9_setting 24 = .ok (.laload, 1) := by decide +kernel
theorem dX9_setting_25 : decode cX9_setting 25 = .ok (.l2i, 1) := by decide +kernel
theorem dX9_setting_26 : decode cX9_setting 26 = .ok (.goto 8, 3) := by decide +kernel
theorem dX9_setting_29 : decode cX9_setting 29 = .ok (.aload_n 0, 1) := by decide +kernel
theorem dX9_setting_30 : decode cX9_setting 30 = .ok (.iconst 1, 1) := by decide +kernel
theorem dX9_setting_31 : decode cX9_setting 31 = .ok (.invokevirtual 60, 3) := by decide +kernel
theorem dX9_setting_34 : decode cX9_setting 34 = .ok (.ireturn, 1) := by decide +kernel
set_option maxRecDepth 20000 in
theorem ggX9_total_X9_stored : GoodIn wsX9_total wsX9_stored := goodIn_r _ [8, 2, 21, 22, 23, 24, 25, 26, 27, 28, 29, 30, 31, 32, 33] (by decide +kernel) (by decide +kernel)
set_option maxRecDepth 20000 in
theorem gX9_total_X9_stored : GoodIn wsX9_total (wsV RX9 142 RX9 yX9_stored wsX9_stored) := goodIn_app (goodIn_of _ (by decide +kernel)) ggX9_total_X9_stored
set_option maxRecDepth 20000 in
theorem ggX9_total_X9_blocks : GoodIn wsX9_total wsX9_blocks := goodIn_r _ [12, 2, 21, 22, 23, 24, 25, 26, 27, 28, 29, 30, 31, 32, 33] (by decide +kernel) (by decide +kernel)
set_option maxRecDepth 20000 in
theorem gX9_total_X9_blocks : GoodIn wsX9_total (wsV RX9 233 RX9 yX9_blocks wsX9_blocks) := goodIn_app (goodIn_of _ (by decide +kernel)) ggX9_total_X9_blocks
set_option maxRecDepth 20000 in
theorem ggX9_total_X9_openMany : GoodIn wsX9_total wsX9_openMany := goodIn_r _ [16, 2, 21, 22, 23, 24, 25, 26, 27, 28, 29, 30, 31, 32, 33] (by decide +kernel) (by decide +kernel)
set_option maxRecDepth 20000 in
theorem gX9_total_X9_openMany : GoodIn wsX9_total (wsV RX9 159 RX9 yX9_openMany wsX9_openMany) := goodIn_app (goodIn_of _ (by decide +kernel)) ggX9_total_X9_openMany
set_option maxRecDepth 20000 in
theorem ggX9_total_X9_refuse : GoodIn wsX9_total wsX9_refuse := goodIn_r _ [20, 1, 21, 22, 23, 24, 25, 26, 27, 28, 29, 30, 31, 32, 33] (by decide +kernel) (by decide +kernel)
set_option maxRecDepth 20000 in
theorem gX9_total_X9_refuse : GoodIn wsX9_total (wsV RX9 60 RX9 yX9_refuse wsX9_refuse) := goodIn_app (goodIn_of _ (by decide +kernel)) ggX9_total_X9_refuse
theorem dX9_total_0 : decode cX9_total 0 = .ok (.aload_n 0, 1) := by decide +kernel
theorem dX9_total_1 : decode cX9_total 1 = .ok (.iconst 0, 1) := by decide +kernel
theorem dX9_total_2 : decode cX9_total 2 = .ok (.putfield 43, 3) := by decide +kernel
theorem dX9_total_5 : decode cX9_total 5 = .ok (.iload_n 1, 1) := by decide +kernel
theorem dX9_total_6 : decode cX9_total 6 = .ok (.tableswitch 209 0 15 #[78, 87, 96, 105, 114, 119, 128, 134, 143, 152, 161, 167, 176, 185, 194, 203], 78) := by decide +kernel
theorem dX9_total_84 : decode cX9_total 84 = .ok (.aload_n 0, 1) := by decide +kernel
theorem dX9_total_85 : decode cX9_total 85 = .ok (.getfield 7, 3) := by decide +kernel
theorem dX9_total_88 : decode cX9_total 88 = .ok (.sipush 1875, 3) := by decide +kernel
theorem dX9_total_91 : decode cX9_total 91 = .ok (.laload, 1) := by decide +kernel
theorem dX9_total_92 : decode cX9_total 92 = .ok (.lreturn, 1) := by decide +kernel
theorem dX9_total_93 : decode cX9_total 93 = .ok (.aload_n 0, 1) := by decide +kernel
theorem dX9_total_94 : decode cX9_total 94 = .ok (.getfield 7, 3) := by decide +kernel
theorem dX9_total_97 : decode cX9_total 97 = .ok (.sipush 1876, 3) := by decide +kernel
theorem dX9_total_100 : decode cX9_total 100 = .ok (.laload, 1) := by decide +kernel
theorem dX9_total_101 : decode cX9_total 101 = .ok (.lreturn, 1) := by decide +kernel
theorem dX9_total_102 : decode cX9_total 102 = .ok (.aload_n 0, 1) := by decide +kernel
theorem dX9_total_103 : decode cX9_total 103 = .ok (.getfield 7, 3) := by decide +kernel
theorem dX9_total_106 : decode cX9_total 106 = .ok (.sipush 1877, 3) := by decide +kernel
theorem dX9_total_109 : decode cX9_total 109 = .ok (.laload, 1) := by decide +kernel
theorem dX9_total_110 : decode cX9_total 110 = .ok (.lreturn, 1) := by decide +kernel
theorem dX9_total_111 : decode cX9_total 111 = .ok (.aload_n 0, 1) := by decide +kernel
theorem dX9_total_112 : decode cX9_total 112 = .ok (.getfield 7, 3) := by decide +kernel
theorem dX9_total_115 : decode cX9_total 115 = .ok (.sipush 1878, 3) := by decide +kernel
theorem dX9_total_118 : decode cX9_total 118 = .ok (.laload, 1) := by decide +kernel
theorem dX9_total_119 : decode cX9_total 119 = .ok (.lreturn, 1) := by decide +kernel
theorem dX9_total_120 : decode cX9_total 120 = .ok (.aload_n 0, 1) := by decide +kernel
theorem dX9_total_121 : decode cX9_total 121 = .ok (.invokevirtual 142, 3) := by decide +kernel
theorem dX9_total_124 : decode cX9_total 124 = .ok (.lreturn, 1) := by decide +kernel
theorem dX9_total_125 : decode cX9_total 125 = .ok (.aload_n 0, 1) := by decide +kernel
theorem dX9_total_126 : decode cX9_total 126 = .ok (.getfield 7, 3) := by decide +kernel
theorem dX9_total_129 : decode cX9_total 129 = .ok (.sipush 1879, 3) := by decide +kernel
theorem dX9_total_132 : decode cX9_total 132 = .ok (.laload, 1) := by decide +kernel
theorem dX9_total_133 : decode cX9_total 133 = .ok (.lreturn, 1) := by decide +kernel
theorem dX9_total_134 : decode cX9_total 134 = .ok (.aload_n 0, 1) := by decide +kernel
theorem dX9_total_135 : decode cX9_total 135 = .ok (.invokevirtual 233, 3) := by decide +kernel
theorem dX9_total_138 : decode cX9_total 138 = .ok (.i2l, 1) := by decide +kernel
theorem dX9_total_139 : decode cX9_total 139 = .ok (.lreturn, 1) := by decide +kernel
theorem dX9_total_140 : decode cX9_total 140 = .ok (.aload_n 0, 1) := by decide +kernel
theorem dX9_total_141 : decode cX9_total 141 = .ok (.getfield 7, 3) := by decide +kernel
theorem dX9_total_144 : decode cX9_total 144 = .ok (.sipush 1880, 3) := by decide +kernel
theorem dX9_total_147 : decode cX9_total 147 = .ok (.laload, 1) := by decide +kernel
theorem dX9_total_148 : decode cX9_total 148 = .ok (.lreturn, 1) := by decide +kernel
theorem dX9_total_149 : decode cX9_total 149 = .ok (.aload_n 0, 1) := by decide +kernel
theorem dX9_total_150 : decode cX9_total 150 = .ok (.getfield 7, 3) := by decide +kernel
theorem dX9_total_153 : decode cX9_total 153 = .ok (.sipush 1881, 3) := by decide +kernel
theorem dX9_total_156 : decode cX9_total 156 = .ok (.laload, 1) := by decide +kernel
theorem dX9_total_157 : decode cX9_total 157 = .ok (.lreturn, 1) := by decide +kernel
theorem dX9_total_158 : decode cX9_total 158 = .ok (.aload_n 0, 1) := by decide +kernel
theorem dX9_total_159 : decode cX9_total 159 = .ok (.getfield 7, 3) := by decide +kernel
theorem dX9_total_162 : decode cX9_total 162 = .ok (.sipush 1882, 3) := by decide +kernel
theorem dX9_total_165 : decode cX9_total 165 = .ok (.laload, 1) := by decide +kernel
theorem dX9_total_166 : decode cX9_total 166 = .ok (.lreturn, 1) := by decide +kernel
theorem dX9_total_167 : decode cX9_total 167 = .ok (.aload_n 0, 1) := by decide +kernel
theorem dX9_total_168 : decode cX9_total 168 = .ok (.invokevirtual 159, 3) := by decide +kernel
theorem dX9_total_171 : decode cX9_total 171 = .ok (.i2l, 1) := by decide +kernel
theorem dX9_total_172 : decode cX9_total 172 = .ok (.lreturn, 1) := by decide +kernel
theorem dX9_total_173 : decode cX9_total 173 = .ok (.aload_n 0, 1) := by decide +kernel
theorem dX9_total_174 : decode cX9_total 174 = .ok (.getfield 7, 3) := by decide +kernel
theorem dX9_total_177 : decode cX9_total 177 = .ok (.sipush 1883, 3) := by decide +kernel
theorem dX9_total_180 : decode cX9_total 180 = .ok (.laload, 1) := by decide +kernel
theorem dX9_total_181 : decode cX9_total 181 = .ok (.lreturn, 1) := by decide +kernel
theorem dX9_total_182 : decode cX9_total 182 = .ok (.aload_n 0, 1) := by decide +kernel
theorem dX9_total_183 : decode cX9_total 183 = .ok (.getfield 7, 3) := by decide +kernel
theorem dX9_total_186 : decode cX9_total 186 = .ok (.sipush 1884, 3) := by decide +kernel
theorem dX9_total_189 : decode cX9_total 189 = .ok (.laload, 1) := by decide +kernel
theorem dX9_total_190 : decode cX9_total 190 = .ok (.lreturn, 1) := by decide +kernel
theorem dX9_total_191 : decode cX9_total 191 = .ok (.aload_n 0, 1) := by decide +kernel
theorem dX9_total_192 : decode cX9_total 192 = .ok (.getfield 7, 3) := by decide +kernel
theorem dX9_total_195 : decode cX9_total 195 = .ok (.sipush 1885, 3) := by decide +kernel
theorem dX9_total_198 : decode cX9_total 198 = .ok (.laload, 1) := by decide +kernel
theorem dX9_total_199 : decode cX9_total 199 = .ok (.lreturn, 1) := by decide +kernel
theorem dX9_total_200 : decode cX9_total 200 = .ok (.aload_n 0, 1) := by decide +kernel
theorem dX9_total_201 : decode cX9_total 201 = .ok (.getfield 7, 3) := by decide +kernel
theorem dX9_total_204 : decode cX9_total 204 = .ok (.sipush 1886, 3) := by decide +kernel
theorem dX9_total_207 : decode cX9_total 207 = .ok (.laload, 1) := by decide +kernel
theorem dX9_total_208 : decode cX9_total 208 = .ok (.lreturn, 1) := by decide +kernel
theorem dX9_total_209 : decode cX9_total 209 = .ok (.aload_n 0, 1) := by decide +kernel
theorem dX9_total_210 : decode cX9_total 210 = .ok (.getfield 51, 3) := by decide +kernel
theorem dX9_total_213 : decode cX9_total 213 = .ok (.i2l, 1) := by decide +kernel
theorem dX9_total_214 : decode cX9_total 214 = .ok (.lreturn, 1) := by decide +kernel
theorem dX9_total_215 : decode cX9_total 215 = .ok (.aload_n 0, 1) := by decide +kernel
theorem dX9_total_216 : decode cX9_total 216 = .ok (.iconst 1, 1) := by decide +kernel
theorem dX9_total_217 : decode cX9_total 217 = .ok (.invokevirtual 60, 3) := by decide +kernel
theorem dX9_total_220 : decode cX9_total 220 = .ok (.i2l, 1) := by decide +kernel
theorem dX9_total_221 : decode cX9_total 221 = .ok (.lreturn, 1) := by decide +kernel
set_option maxRecDepth 20000 in
theorem ggX9_meanAge_X9_blocks : GoodIn wsX9_meanAge wsX9_blocks := goodIn_r _ [7, 2, 8, 9, 10, 11, 12, 13, 14, 15, 16, 17, 18, 19, 20] (by decide +kernel) (by decide +kernel)
set_option maxRecDepth 20000 in
theorem gX9_meanAge_X9_blocks : GoodIn wsX9_meanAge (wsV RX9 233 RX9 yX9_blocks wsX9_blocks) := goodIn_app (goodIn_of _ (by decide +kernel)) ggX9_meanAge_X9_blocks
theorem dX9_meanAge_0 : decode cX9_meanAge 0 = .ok (.aload_n 0, 1) := by decide +kernel
theorem dX9_meanAge_1 : decode cX9_meanAge 1 = .ok (.iconst 0, 1) := by decide +kernel
theorem dX9_meanAge_2 : decode cX9_meanAge 2 = .ok (.putfield 43, 3) := by decide +kernel
theorem dX9_meanAge_5 : decode cX9_meanAge 5 = .ok (.lconst 0, 1) := by decide +kernel
theorem dX9_meanAge_6 : decode cX9_meanAge 6 = .ok (.lstore_n 1, 1) := by decide +kernel
theorem dX9_meanAge_7 : decode cX9_meanAge 7 = .ok (.iconst 0, 1) := by decide +kernel
theorem dX9_meanAge_8 : decode cX9_meanAge 8 = .ok (.istore_n 3, 1) := by decide +kernel
theorem dX9_meanAge_9 : decode cX9_meanAge 9 = .ok (.iload_n 3, 1) := by decide +kernel
theorem dX9_meanAge_10 : decode cX9_meanAge 10 = .ok (.i2l, 1) := by decide +kernel
theorem dX9_meanAge_11 : decode cX9_meanAge 11 = .ok (.aload_n 0, 1) := by decide +kernel
theorem dX9_meanAge_12 : decode cX9_meanAge 12 = .ok (.getfield 7, 3) := by decide +kernel
theorem dX9_meanAge_15 : decode cX9_meanAge 15 = .ok (.sipush 1880, 3) := by decide +kernel
theorem dX9_meanAge_18 : decode cX9_meanAge 18 = .ok (.laload, 1) := by decide +kernel
theorem dX9_meanAge_19 : decode cX9_meanAge 19 = .ok (.lcmp, 1) := by decide +kernel
theorem dX9_meanAge_20 : decode cX9_meanAge 20 = .ok (.ifCond .ge 53, 3) := by decide +kernel
theorem dX9_meanAge_23 : decode cX9_meanAge 23 = .ok (.iconst 0, 1) := by decide +kernel
theorem dX9_meanAge_24 : decode cX9_meanAge 24 = .ok (.istore 4, 2) := by decide +kernel
theorem dX9_meanAge_26 : decode cX9_meanAge 26 = .ok (.iload 4, 2) := by decide +kernel
theorem dX9_meanAge_28 : decode cX9_meanAge 28 = .ok (.i2l, 1) := by decide +kernel
theorem dX9_meanAge_29 : decode cX9_meanAge 29 = .ok (.aload_n 0, 1) := by decide +kernel
theorem dX9_meanAge_30 : decode cX9_meanAge 30 = .ok (.getfield 7, 3) := by decide +kernel
theorem dX9_meanAge_33 : decode cX9_meanAge 33 = .ok (.bipush 47, 2) := by decide +kernel
theorem dX9_meanAge_35 : decode cX9_meanAge 35 = .ok (.iload_n 3, 1) := by decide +kernel
theorem dX9_meanAge_36 : decode cX9_meanAge 36 = .ok (.iadd, 1) := by decide +kernel
theorem dX9_meanAge_37 : decode cX9_meanAge 37 = .ok (.laload, 1) := by decide +kernel
theorem dX9_meanAge_38 : decode cX9_meanAge 38 = .ok (.lcmp, 1) := by decide +kernel
theorem dX9_meanAge_39 : decode cX9_meanAge 39 = .ok (.ifCond .ge 28, 3) := by decide +kernel
theorem dX9_meanAge_42 : decode cX9_meanAge 42 = .ok (.lload_n 1, 1) := by decide +kernel
theorem dX9_meanAge_43 : decode cX9_meanAge 43 = .ok (.aload_n 0, 1) := by decide +kernel
theorem dX9_meanAge_44 : decode cX9_meanAge 44 = .ok (.getfield 7, 3) := by decide +kernel
theorem dX9_meanAge_47 : decode cX9_meanAge 47 = .ok (.sipush 357, 3) := by decide +kernel
theorem dX9_meanAge_50 : decode cX9_meanAge 50 = .ok (.bipush 30, 2) := by decide +kernel
theorem dX9_meanAge_52 : decode cX9_meanAge 52 = .ok (.iload_n 3, 1) := by decide +kernel
theorem dX9_meanAge_53 : decode cX9_meanAge 53 = .ok (.imul, 1) := by decide +kernel
theorem dX9_meanAge_54 : decode cX9_meanAge 54 = .ok (.iadd, 1) := by decide +kernel
theorem dX9_meanAge_55 : decode cX9_meanAge 55 = .ok (.iload 4, 2) := by decide +kernel
theorem dX9_meanAge_57 : decode cX9_meanAge 57 = .ok (.iadd, 1) := by decide +kernel
theorem dX9_meanAge_58 : decode cX9_meanAge 58 = .ok (.laload, 1) := by decide +kernel
theorem dX9_meanAge_59 : decode cX9_meanAge 59 = .ok (.ladd, 1) := by decide +kernel
theorem dX9_meanAge_60 : decode cX9_meanAge 60 = .ok (.lstore_n 1, 1) := by decide +kernel
theorem dX9_meanAge_61 : decode cX9_meanAge 61 = .ok (.iinc 4 1, 3) := by decide +kernel
theorem dX9_meanAge_64 : decode cX9_meanAge 64 = .ok (.goto (-38), 3) := by decide +kernel
theorem dX9_meanAge_67 : decode cX9_meanAge 67 = .ok (.iinc 3 1, 3) := by decide +kernel
theorem dX9_meanAge_70 : decode cX9_meanAge 70 = .ok (.goto (-61), 3) := by decide +kernel
theorem dX9_meanAge_73 : decode cX9_meanAge 73 = .ok (.aload_n 0, 1) := by decide +kernel
theorem dX9_meanAge_74 : decode cX9_meanAge 74 = .ok (.invokevirtual 233, 3) := by decide +kernel
theorem dX9_meanAge_77 : decode cX9_meanAge 77 = .ok (.istore_n 3, 1) := by decide +kernel
theorem dX9_meanAge_78 : decode cX9_meanAge 78 = .ok (.iload_n 3, 1) := by decide +kernel
theorem dX9_meanAge_79 : decode cX9_meanAge 79 = .ok (.ifCond .ne 7, 3) := by decide +kernel
theorem dX9_meanAge_82 : decode cX9_meanAge 82 = .ok (.dconst 0, 1) := by decide +kernel
theorem dX9_meanAge_83 : decode cX9_meanAge 83 = .ok (.goto 8, 3) := by decide +kernel
theorem dX9_meanAge_86 : decode cX9_meanAge 86 = .ok (.lload_n 1, 1) := by decide +kernel
theorem dX9_meanAge_87 : decode cX9_meanAge 87 = .ok (.l2d, 1) := by decide +kernel
theorem dX9_meanAge_88 : decode cX9_meanAge 88 = .ok (.iload_n 3, 1) := by decide +kernel
theorem dX9_meanAge_89 : decode cX9_meanAge 89 = .ok (.i2d, 1) := by decide +kernel
theorem dX9_meanAge_90 : decode cX9_meanAge 90 = .ok (.ddiv, 1) := by decide +kernel
theorem dX9_meanAge_91 : decode cX9_meanAge 91 = .ok (.dreturn, 1) := by decide +kernel
theorem dX9_beginTrial_0 : decode cX9_beginTrial 0 = .ok (.iconst 0, 1) := by decide +kernel
theorem dX9_beginTrial_1 : decode cX9_beginTrial 1 = .ok (.istore_n 1, 1) := by decide +kernel
theorem dX9_beginTrial_2 : decode cX9_beginTrial 2 = .ok (.iload_n 1, 1) := by decide +kernel
theorem dX9_beginTrial_3 : decode cX9_beginTrial 3 = .ok (.sipush 1888, 3) := by decide +kernel
theorem dX9_beginTrial_6 : decode cX9_beginTrial 6 = .ok (.if_icmp .ge 21, 3) := by decide +kernel
theorem dX9_beginTrial_9 : decode cX9_beginTrial 9 = .ok (.aload_n 0, 1) := by decide +kernel
theorem dX9_beginTrial_10 : decode cX9_beginTrial 10 = .ok (.getfield 16, 3) := by decide +kernel
theorem dX9_beginTrial_13 : decode cX9_beginTrial 13 = .ok (.iload_n 1, 1) := by decide +kernel
theorem dX9_beginTrial_14 : decode cX9_beginTrial 14 = .ok (.aload_n 0, 1) := by decide +kernel
theorem dX9_beginTrial_15 : decode cX9_beginTrial 15 = .ok (.getfield 7, 3) := by decide +kernel
theorem dX9_beginTrial_18 : decode cX9_beginTrial 18 = .ok (.iload_n 1, 1) := by decide +kernel
theorem dX9_beginTrial_19 : decode cX9_beginTrial 19 = .ok (.laload, 1) := by decide +kernel
theorem dX9_beginTrial_20 : decode cX9_beginTrial 20 = .ok (.lastore, 1) := by decide +kernel
theorem dX9_beginTrial_21 : decode cX9_beginTrial 21 = .ok (.iinc 1 1, 3) := by decide +kernel
theorem dX9_beginTrial_24 : decode cX9_beginTrial 24 = .ok (.goto (-22), 3) := by decide +kernel
theorem dX9_beginTrial_27 : decode cX9_beginTrial 27 = .ok (.return_, 1) := by decide +kernel
theorem dX9_endTrial_0 : decode cX9_endTrial 0 = .ok (.iconst 0, 1) := by decide +kernel
theorem dX9_endTrial_1 : decode cX9_endTrial 1 = .ok (.istore_n 1, 1) := by decide +kernel
theorem dX9_endTrial_2 : decode cX9_endTrial 2 = .ok (.iload_n 1, 1) := by decide +kernel
theorem dX9_endTrial_3 : decode cX9_endTrial 3 = .ok (.sipush 1888, 3) := by decide +kernel
theorem dX9_endTrial_6 : decode cX9_endTrial 6 = .ok (.if_icmp .ge 21, 3) := by decide +kernel
theorem dX9_endTrial_9 : decode cX9_endTrial 9 = .ok (.aload_n 0, 1) := by decide +kernel
theorem dX9_endTrial_10 : decode cX9_endTrial 10 = .ok (.getfield 7, 3) := by decide +kernel
theorem dX9_endTrial_13 : decode cX9_endTrial 13 = .ok (.iload_n 1, 1) := by decide +kernel
theorem dX9_endTrial_14 : decode cX9_endTrial 14 = .ok (.aload_n 0, 1) := by decide +kernel
theorem dX9_endTrial_15 : decode cX9_endTrial 15 = .ok (.getfield 16, 3) := by decide +kernel
theorem dX9_endTrial_18 : decode cX9_endTrial 18 = .ok (.iload_n 1, 1) := by decide +kernel
theorem dX9_endTrial_19 : decode cX9_endTrial 19 = .ok (.laload, 1) := by decide +kernel
theorem dX9_endTrial_20 : decode cX9_endTrial 20 = .ok (.lastore, 1) := by decide +kernel
theorem dX9_endTrial_21 : decode cX9_endTrial 21 = .ok (.iinc 1 1, 3) := by decide +kernel
theorem dX9_endTrial_24 : decode cX9_endTrial 24 = .ok (.goto (-22), 3) := by decide +kernel
theorem dX9_endTrial_27 : decode cX9_endTrial 27 = .ok (.return_, 1) := by decide +kernel
set_option maxRecDepth 20000 in
theorem ggX9_massAfter_X9_in : GoodIn wsX9_massAfter wsX9_in := goodIn_r _ [6] (by decide +kernel) (by decide +kernel)
set_option maxRecDepth 20000 in
theorem gX9_massAfter_X9_in : GoodIn wsX9_massAfter (va_wsS RX9 47 yX9_in wsX9_in) := goodIn_app (goodIn_of _ (by decide +kernel)) ggX9_massAfter_X9_in
set_option maxRecDepth 20000 in
theorem ggX9_massAfter_X9_refuse : GoodIn wsX9_massAfter wsX9_refuse := goodIn_r _ [10, 1, 124, 125, 126, 127, 128, 129, 130, 131, 132, 133, 134, 135, 136] (by decide +kernel) (by decide +kernel)
set_option maxRecDepth 20000 in
theorem gX9_massAfter_X9_refuse : GoodIn wsX9_massAfter (wsV RX9 60 RX9 yX9_refuse wsX9_refuse) := goodIn_app (goodIn_of _ (by decide +kernel)) ggX9_massAfter_X9_refuse
set_option maxRecDepth 20000 in
theorem ggX9_massAfter_X9_beginTrial : GoodIn wsX9_massAfter wsX9_beginTrial := goodIn_r _ [14, 15, 16, 124, 125, 126, 127, 128, 129, 130, 131, 132, 133, 134, 135, 136] (by decide +kernel) (by decide +kernel)
set_option maxRecDepth 20000 in
theorem gX9_massAfter_X9_beginTrial : GoodIn wsX9_massAfter (wsV RX9 236 RX9 yX9_beginTrial wsX9_beginTrial) := goodIn_app (goodIn_of _ (by decide +kernel)) ggX9_massAfter_X9_beginTrial
set_option maxRecDepth 20000 in
theorem ggX9_massAfter_X9_doPass : GoodIn wsX9_massAfter wsX9_doPass := goodIn_r _ [20, 16, 21, 22, 23, 5, 24, 25, 26, 27, 28, 29, 30, 31, 32, 33, 34, 35, 36, 37, 38, 39, 40, 41, 42, 43, 44, 45, 46, 47, 48, 49, 50, 51, 52, 53, 54, 55, 56, 57, 58, 59, 60, 61, 62, 63, 64, 65, 66, 67, 68, 69, 70, 71, 72, 73, 74, 75, 76, 77, 78, 79, 80, 81, 82, 83, 84, 85, 86, 87, 88, 89, 90, 91, 92, 93, 94, 95, 96, 97, 3, 4, 6, 98, 99, 100, 101, 102, 103, 104, 105, 106, 107, 108, 109, 110, 111, 112, 113, 114, 115, 116, 117, 118, 119, 124, 125, 126, 127, 128, 129, 130, 131, 132, 133, 134, 135, 136] (by decide +kernel) (by decide +kernel)
set_option maxRecDepth 20000 in
theorem gX9_massAfter_X9_doPass : GoodIn wsX9_massAfter (wsV RX9 191 RX9 yX9_doPass wsX9_doPass) := goodIn_app (goodIn_of _ (by decide +kernel)) ggX9_massAfter_X9_doPass
set_option maxRecDepth 20000 in
theorem ggX9_massAfter_X9_stored : GoodIn wsX9_massAfter wsX9_stored := goodIn_r _ [87, 16, 124, 125, 126, 127, 128, 129, 130, 131, 132, 133, 134, 135, 136] (by decide +kernel) (by decide +kernel)
set_option maxRecDepth 20000 in
theorem gX9_massAfter_X9_stored : GoodIn wsX9_massAfter (wsV RX9 142 RX9 yX9_stored wsX9_stored) := goodIn_app (goodIn_of _ (by decide +kernel)) ggX9_massAfter_X9_stored
set_option maxRecDepth 20000 in
theorem ggX9_massAfter_X9_endTrial : GoodIn wsX9_massAfter wsX9_endTrial := goodIn_r _ [123, 16, 15, 124, 125, 126, 127, 128, 129, 130, 131, 132, 133, 134, 135, 136] (by decide +kernel) (by decide +kernel)
set_option maxRecDepth 20000 in
theorem gX9_massAfter_X9_endTrial : GoodIn wsX9_massAfter (wsV RX9 239 RX9 yX9_endTrial wsX9_endTrial) := goodIn_app (goodIn_of _ (by decide +kernel)) ggX9_massAfter_X9_endTrial
theorem dX9_massAfter_0 : decode cX9_massAfter 0 = .ok (.aload_n 0, 1) := by decide +kernel
theorem dX9_massAfter_1 : decode cX9_massAfter 1 = .ok (.iconst 0, 1) := by decide +kernel
theorem dX9_massAfter_2 : decode cX9_massAfter 2 = .ok (.putfield 43, 3) := by decide +kernel
theorem dX9_massAfter_5 : decode cX9_massAfter 5 = .ok (.iload_n 1, 1) := by decide +kernel
theorem dX9_massAfter_6 : decode cX9_massAfter 6 = .ok (.i2l, 1) := by decide +kernel
theorem dX9_massAfter_7 : decode cX9_massAfter 7 = .ok (.lconst 0, 1) := by decide +kernel
theorem dX9_massAfter_8 : decode cX9_massAfter 8 = .ok (.ldc2_w 181, 3) := by decide +kernel
theorem dX9_massAfter_11 : decode cX9_massAfter 11 = .ok (.invokestatic 47, 3) := by decide +kernel
theorem dX9_massAfter_14 : decode cX9_massAfter 14 = .ok (.ifCond .ne 9, 3) := by decide +kernel
theorem dX9_massAfter_17 : decode cX9_massAfter 17 = .ok (.aload_n 0, 1) := by decide +kernel
theorem dX9_massAfter_18 : decode cX9_massAfter 18 = .ok (.iconst 1, 1) := by decide +kernel
theorem dX9_massAfter_19 : decode cX9_massAfter 19 = .ok (.invokevirtual 60, 3) := by decide +kernel
theorem dX9_massAfter_22 : decode cX9_massAfter 22 = .ok (.ireturn, 1) := by decide +kernel
theorem dX9_massAfter_23 : decode cX9_massAfter 23 = .ok (.aload_n 0, 1) := by decide +kernel
theorem dX9_massAfter_24 : decode cX9_massAfter 24 = .ok (.invokevirtual 236, 3) := by decide +kernel
theorem dX9_massAfter_27 : decode cX9_massAfter 27 = .ok (.aload_n 0, 1) := by decide +kernel
theorem dX9_massAfter_28 : decode cX9_massAfter 28 = .ok (.iload_n 1, 1) := by decide +kernel
theorem dX9_massAfter_29 : decode cX9_massAfter 29 = .ok (.invokevirtual 191, 3) := by decide +kernel
theorem dX9_massAfter_32 : decode cX9_massAfter 32 = .ok (.istore_n 2, 1) := by decide +kernel
theorem dX9_massAfter_33 : decode cX9_massAfter 33 = .ok (.aload_n 0, 1) := by decide +kernel
theorem dX9_massAfter_34 : decode cX9_massAfter 34 = .ok (.invokevirtual 142, 3) := by decide +kernel
theorem dX9_massAfter_37 : decode cX9_massAfter 37 = .ok (.l2i, 1) := by decide +kernel
theorem dX9_massAfter_38 : decode cX9_massAfter 38 = .ok (.istore_n 3, 1) := by decide +kernel
theorem dX9_massAfter_39 : decode cX9_massAfter 39 = .ok (.aload_n 0, 1) := by decide +kernel
theorem dX9_massAfter_40 : decode cX9_massAfter 40 = .ok (.invokevirtual 239, 3) := by decide +kernel
theorem dX9_massAfter_43 : decode cX9_massAfter 43 = .ok (.iload_n 3, 1) := by decide +kernel
theorem dX9_massAfter_44 : decode cX9_massAfter 44 = .ok (.ireturn, 1) := by decide +kernel
set_option maxRecDepth 20000 in
theorem ggX9_completeIn_X9_isOrder : GoodIn wsX9_completeIn wsX9_isOrder := goodIn_r _ [7, 2, 8, 9, 6, 10, 123, 124, 125, 126, 127, 128, 129, 130, 131, 132, 133, 134, 135] (by decide +kernel) (by decide +kernel)
set_option maxRecDepth 20000 in
theorem gX9_completeIn_X9_isOrder : GoodIn wsX9_completeIn (wsV RX9 216 RX9 yX9_isOrder wsX9_isOrder) := goodIn_app (goodIn_of _ (by decide +kernel)) ggX9_completeIn_X9_isOrder
set_option maxRecDepth 20000 in
theorem ggX9_completeIn_X9_refuse : GoodIn wsX9_completeIn wsX9_refuse := goodIn_r _ [14, 1, 123, 124, 125, 126, 127, 128, 129, 130, 131, 132, 133, 134, 135] (by decide +kernel) (by decide +kernel)
set_option maxRecDepth 20000 in
theorem gX9_completeIn_X9_refuse : GoodIn wsX9_completeIn (wsV RX9 60 RX9 yX9_refuse wsX9_refuse) := goodIn_app (goodIn_of _ (by decide +kernel)) ggX9_completeIn_X9_refuse
set_option maxRecDepth 20000 in
theorem ggX9_completeIn_X9_beginTrial : GoodIn wsX9_completeIn wsX9_beginTrial := goodIn_r _ [18, 19, 2, 123, 124, 125, 126, 127, 128, 129, 130, 131, 132, 133, 134, 135] (by decide +kernel) (by decide +kernel)
set_option maxRecDepth 20000 in
theorem gX9_completeIn_X9_beginTrial : GoodIn wsX9_completeIn (wsV RX9 236 RX9 yX9_beginTrial wsX9_beginTrial) := goodIn_app (goodIn_of _ (by decide +kernel)) ggX9_completeIn_X9_beginTrial
set_option maxRecDepth 20000 in
theorem ggX9_completeIn_X9_hour : GoodIn wsX9_completeIn wsX9_hour := goodIn_r _ [23, 2, 24, 25, 26, 6, 27, 28, 29, 30, 31, 32, 33, 34, 35, 36, 37, 38, 39, 40, 41, 42, 43, 44, 45, 46, 47, 48, 49, 50, 51, 52, 53, 54, 55, 56, 57, 58, 59, 60, 61, 62, 63, 64, 65, 66, 67, 68, 69, 70, 71, 72, 73, 74, 75, 76, 77, 78, 79, 80, 81, 82, 83, 84, 85, 86, 87, 88, 89, 90, 91, 92, 93, 94, 95, 96, 8, 9, 10, 97, 98, 99, 100, 101, 102, 103, 104, 105, 106, 107, 108, 109, 110, 111, 112, 113, 114, 115, 116, 117, 118, 123, 124, 125, 126, 127, 128, 129, 130, 131, 132, 133, 134, 135] (by decide +kernel) (by decide +kernel)
set_option maxRecDepth 20000 in
theorem gX9_completeIn_X9_hour : GoodIn wsX9_completeIn (wsV RX9 185 RX9 yX9_hour wsX9_hour) := goodIn_app (goodIn_of _ (by decide +kernel)) ggX9_completeIn_X9_hour
set_option maxRecDepth 20000 in
theorem ggX9_completeIn_X9_endTrial : GoodIn wsX9_completeIn wsX9_endTrial := goodIn_r _ [122, 2, 19, 123, 124, 125, 126, 127, 128, 129, 130, 131, 132, 133, 134, 135] (by decide +kernel) (by decide +kernel)
set_option maxRecDepth 20000 in
theorem gX9_completeIn_X9_endTrial : GoodIn wsX9_completeIn (wsV RX9 239 RX9 yX9_endTrial wsX9_endTrial) := goodIn_app (goodIn_of _ (by decide +kernel)) ggX9_completeIn_X9_endTrial
theorem dX9_completeIn_0 : decode cX9_completeIn 0 = .ok (.aload_n 0, 1) := by decide +kernel
theorem dX9_completeIn_1 : decode cX9_completeIn 1 = .ok (.iconst 0, 1) := by decide +kernel
theorem dX9_completeIn_2 : decode cX9_completeIn 2 = .ok (.putfield 43, 3) := by decide +kernel
theorem dX9_completeIn_5 : decode cX9_completeIn 5 = .ok (.aload_n 0, 1) := by decide +kernel
theorem dX9_completeIn_6 : decode cX9_completeIn 6 = .ok (.iload_n 1, 1) := by decide +kernel
theorem dX9_completeIn_7 : decode cX9_completeIn 7 = .ok (.invokevirtual 216, 3) := by decide +kernel
theorem dX9_completeIn_10 : decode cX9_completeIn 10 = .ok (.ifCond .ne 9, 3) := by decide +kernel
theorem dX9_completeIn_13 : decode cX9_completeIn 13 = .ok (.aload_n 0, 1) := by decide +kernel
theorem dX9_completeIn_14 : decode cX9_completeIn 14 = .ok (.iconst 1, 1) := by decide +kernel
theorem dX9_completeIn_15 : decode cX9_completeIn 15 = .ok (.invokevirtual 60, 3) := by decide +kernel
theorem dX9_completeIn_18 : decode cX9_completeIn 18 = .ok (.ireturn, 1) := by decide +kernel
theorem dX9_completeIn_19 : decode cX9_completeIn 19 = .ok (.aload_n 0, 1) := by decide +kernel
theorem dX9_completeIn_20 : decode cX9_completeIn 20 = .ok (.getfield 7, 3) := by decide +kernel
theorem dX9_completeIn_23 : decode cX9_completeIn 23 = .ok (.sipush 1531, 3) := by decide +kernel
theorem dX9_completeIn_26 : decode cX9_completeIn 26 = .ok (.iload_n 1, 1) := by decide +kernel
theorem dX9_completeIn_27 : decode cX9_completeIn 27 = .ok (.iadd, 1) := by decide +kernel
theorem dX9_completeIn_28 : decode cX9_completeIn 28 = .ok (.laload, 1) := by decide +kernel
theorem dX9_completeIn_29 : decode cX9_completeIn 29 = .ok (.lconst 0, 1) := by decide +kernel
theorem dX9_completeIn_30 : decode cX9_completeIn 30 = .ok (.lcmp, 1) := by decide +kernel
theorem dX9_completeIn_31 : decode cX9_completeIn 31 = .ok (.ifCond .eq 9, 3) := by decide +kernel
theorem dX9_completeIn_34 : decode cX9_completeIn 34 = .ok (.aload_n 0, 1) := by decide +kernel
theorem dX9_completeIn_35 : decode cX9_completeIn 35 = .ok (.iconst 2, 1) := by decide +kernel
theorem dX9_completeIn_36 : decode cX9_completeIn 36 = .ok (.invokevirtual 60, 3) := by decide +kernel
theorem dX9_completeIn_39 : decode cX9_completeIn 39 = .ok (.ireturn, 1) := by decide +kernel
theorem dX9_completeIn_40 : decode cX9_completeIn 40 = .ok (.aload_n 0, 1) := by decide +kernel
theorem dX9_completeIn_41 : decode cX9_completeIn 41 = .ok (.invokevirtual 236, 3) := by decide +kernel
theorem dX9_completeIn_44 : decode cX9_completeIn 44 = .ok (.iconst 0, 1) := by decide +kernel
theorem dX9_completeIn_45 : decode cX9_completeIn 45 = .ok (.istore_n 2, 1) := by decide +kernel
theorem dX9_completeIn_46 : decode cX9_completeIn 46 = .ok (.iload_n 2, 1) := by decide +kernel
theorem dX9_completeIn_47 : decode cX9_completeIn 47 = .ok (.bipush 48, 2) := by decide +kernel
theorem dX9_completeIn_49 : decode cX9_completeIn 49 = .ok (.if_icmp .ge 28, 3) := by decide +kernel
theorem dX9_completeIn_52 : decode cX9_completeIn 52 = .ok (.aload_n 0, 1) := by decide +kernel
theorem dX9_completeIn_53 : decode cX9_completeIn 53 = .ok (.getfield 7, 3) := by decide +kernel
theorem dX9_completeIn_56 : decode cX9_completeIn 56 = .ok (.sipush 1531, 3) := by decide +kernel
theorem dX9_completeIn_59 : decode cX9_completeIn 59 = .ok (.iload_n 1, 1) := by decide +kernel
theorem dX9_completeIn_60 : decode cX9_completeIn 60 = .ok (.iadd, 1) := by decide +kernel
theorem dX9_completeIn_61 : decode cX9_completeIn 61 = .ok (.laload, 1) := by decide +kernel
theorem dX9_completeIn_62 : decode cX9_completeIn 62 = .ok (.lconst 0, 1) := by decide +kernel
theorem dX9_completeIn_63 : decode cX9_completeIn 63 = .ok (.lcmp, 1) := by decide +kernel
theorem dX9_completeIn_64 : decode cX9_completeIn 64 = .ok (.ifCond .ne 13, 3) := by decide +kernel
theorem dX9_completeIn_67 : decode cX9_completeIn 67 = .ok (.aload_n 0, 1) := by decide +kernel
theorem dX9_completeIn_68 : decode cX9_completeIn 68 = .ok (.invokevirtual 185, 3) := by decide +kernel
theorem dX9_completeIn_71 : decode cX9_completeIn 71 = .ok (.iinc 2 1, 3) := by decide +kernel
theorem dX9_completeIn_74 : decode cX9_completeIn 74 = .ok (.goto (-28), 3) := by decide +kernel
theorem dX9_completeIn_77 : decode cX9_completeIn 77 = .ok (.aload_n 0, 1) := by decide +kernel
theorem dX9_completeIn_78 : decode cX9_completeIn 78 = .ok (.getfield 7, 3) := by decide +kernel
theorem dX9_completeIn_81 : decode cX9_completeIn 81 = .ok (.sipush 1531, 3) := by decide +kernel
theorem dX9_completeIn_84 : decode cX9_completeIn 84 = .ok (.iload_n 1, 1) := by decide +kernel
theorem dX9_completeIn_85 : decode cX9_completeIn 85 = .ok (.iadd, 1) := by decide +kernel
theorem dX9_completeIn_86 : decode cX9_completeIn 86 = .ok (.laload, 1) := by decide +kernel
theorem dX9_completeIn_87 : decode cX9_completeIn 87 = .ok (.lconst 1, 1) := by decide +kernel
theorem dX9_completeIn_88 : decode cX9_completeIn 88 = .ok (.lcmp, 1) := by decide +kernel
theorem dX9_completeIn_89 : decode cX9_completeIn 89 = .ok (.ifCond .ne 7, 3) := by decide +kernel
theorem dX9_completeIn_92 : decode cX9_completeIn 92 = .ok (.iconst 1, 1) := by decide +kernel
theorem dX9_completeIn_93 : decode cX9_completeIn 93 = .ok (.goto 4, 3) := by decide +kernel
theorem dX9_completeIn_96 : decode cX9_completeIn 96 = .ok (.iconst 0, 1) := by decide +kernel
theorem dX9_completeIn_97 : decode cX9_completeIn 97 = .ok (.istore_n 3, 1) := by decide +kernel
theorem dX9_completeIn_98 : decode cX9_completeIn 98 = .ok (.aload_n 0, 1) := by decide +kernel
theorem dX9_completeIn_99 : decode cX9_completeIn 99 = .ok (.invokevirtual 239, 3) := by decide +kernel
theorem dX9_completeIn_102 : decode cX9_completeIn 102 = .ok (.iload_n 3, 1) := by decide +kernel
theorem dX9_completeIn_103 : decode cX9_completeIn 103 = .ok (.ifCond .eq 7, 3) := by decide +kernel
theorem dX9_completeIn_106 : decode cX9_completeIn 106 = .ok (.iload_n 2, 1) := by decide +kernel
theorem dX9_completeIn_107 : decode cX9_completeIn 107 = .ok (.goto 4, 3) := by decide +kernel
theorem dX9_completeIn_110 : decode cX9_completeIn 110 = .ok (.iconst (-1), 1) := by decide +kernel
theorem dX9_completeIn_111 : decode cX9_completeIn 111 = .ok (.ireturn, 1) := by decide +kernel
set_option maxRecDepth 20000 in
theorem ggX9_bestRule_X9_isSilo : GoodIn wsX9_bestRule wsX9_isSilo := goodIn_r _ [9, 3, 10, 11, 8, 12, 127, 128, 129, 130, 131, 132, 133, 134, 135, 136, 137, 138, 139] (by decide +kernel) (by decide +kernel)
set_option maxRecDepth 20000 in
theorem gX9_bestRule_X9_isSilo : GoodIn wsX9_bestRule (wsV RX9 69 RX9 yX9_isSilo wsX9_isSilo) := goodIn_app (goodIn_of _ (by decide +kernel)) ggX9_bestRule_X9_isSilo
set_option maxRecDepth 20000 in
theorem ggX9_bestRule_X9_refuse : GoodIn wsX9_bestRule wsX9_refuse := goodIn_r _ [16, 1, 127, 128, 129, 130, 131, 132, 133, 134, 135, 136, 137, 138, 139] (by decide +kernel) (by decide +kernel)
set_option maxRecDepth 20000 in
theorem gX9_bestRule_X9_refuse : GoodIn wsX9_bestRule (wsV RX9 60 RX9 yX9_refuse wsX9_refuse) := goodIn_app (goodIn_of _ (by decide +kernel)) ggX9_bestRule_X9_refuse
set_option maxRecDepth 20000 in
theorem ggX9_bestRule_X9_in : GoodIn wsX9_bestRule wsX9_in := goodIn_r _ [12] (by decide +kernel) (by decide +kernel)
set_option maxRecDepth 20000 in
theorem gX9_bestRule_X9_in : GoodIn wsX9_bestRule (va_wsS RX9 47 yX9_in wsX9_in) := goodIn_app (goodIn_of _ (by decide +kernel)) ggX9_bestRule_X9_in
set_option maxRecDepth 20000 in
theorem ggX9_bestRule_X9_beginTrial : GoodIn wsX9_bestRule wsX9_beginTrial := goodIn_r _ [20, 4, 3, 127, 128, 129, 130, 131, 132, 133, 134, 135, 136, 137, 138, 139] (by decide +kernel) (by decide +kernel)
set_option maxRecDepth 20000 in
theorem gX9_bestRule_X9_beginTrial : GoodIn wsX9_bestRule (wsV RX9 236 RX9 yX9_beginTrial wsX9_beginTrial) := goodIn_app (goodIn_of _ (by decide +kernel)) ggX9_bestRule_X9_beginTrial
set_option maxRecDepth 20000 in
theorem ggX9_bestRule_X9_doPass : GoodIn wsX9_bestRule wsX9_doPass := goodIn_r _ [24, 3, 25, 26, 27, 8, 28, 29, 30, 31, 32, 33, 34, 35, 36, 37, 38, 39, 40, 41, 42, 43, 44, 2, 45, 46, 47, 48, 49, 50, 51, 52, 53, 54, 55, 56, 57, 58, 59, 60, 61, 62, 63, 64, 65, 66, 67, 68, 69, 70, 71, 72, 73, 74, 75, 76, 77, 78, 79, 80, 81, 82, 83, 84, 85, 86, 87, 88, 89, 90, 91, 92, 93, 94, 95, 96, 97, 98, 99, 100, 10, 11, 12, 101, 102, 103, 104, 105, 106, 107, 108, 109, 110, 111, 112, 113, 114, 115, 116, 117, 118, 119, 120, 121, 122, 127, 128, 129, 130, 131, 132, 133, 134, 135, 136, 137, 138, 139] (by decide +kernel) (by decide +kernel)
set_option maxRecDepth 20000 in
theorem gX9_bestRule_X9_doPass : GoodIn wsX9_bestRule (wsV RX9 191 RX9 yX9_doPass wsX9_doPass) := goodIn_app (goodIn_of _ (by decide +kernel)) ggX9_bestRule_X9_doPass
set_option maxRecDepth 20000 in
theorem ggX9_bestRule_X9_endTrial : GoodIn wsX9_bestRule wsX9_endTrial := goodIn_r _ [126, 3, 4, 127, 128, 129, 130, 131, 132, 133, 134, 135, 136, 137, 138, 139] (by decide +kernel) (by decide +kernel)
set_option maxRecDepth 20000 in
theorem gX9_bestRule_X9_endTrial : GoodIn wsX9_bestRule (wsV RX9 239 RX9 yX9_endTrial wsX9_endTrial) := goodIn_app (goodIn_of _ (by decide +kernel)) ggX9_bestRule_X9_endTrial
theorem dX9_bestRule_0 : decode cX9_bestRule 0 = .ok (.aload_n 0, 1) := by decide +kernel
theorem dX9_bestRule_1 : decode cX9_bestRule 1 = .ok (.iconst 0, 1) := by decide +kernel
theorem dX9_bestRule_2 : decode cX9_bestRule 2 = .ok (.putfield 43, 3) := by decide +kernel
theorem dX9_bestRule_5 : decode cX9_bestRule 5 = .ok (.aload_n 0, 1) := by decide +kernel
theorem dX9_bestRule_6 : decode cX9_bestRule 6 = .ok (.iload_n 1, 1) := by decide +kernel
theorem dX9_bestRule_7 : decode cX9_bestRule 7 = .ok (.invokevirtual 69, 3) := by decide +kernel
theorem dX9_bestRule_10 : decode cX9_bestRule 10 = .ok (.ifCond .ne 9, 3) := by decide +kernel
theorem dX9_bestRule_13 : decode cX9_bestRule 13 = .ok (.aload_n 0, 1) := by decide +kernel
theorem dX9_bestRule_14 : decode cX9_bestRule 14 = .ok (.iconst 1, 1) := by decide +kernel
theorem dX9_bestRule_15 : decode cX9_bestRule 15 = .ok (.invokevirtual 60, 3) := by decide +kernel
theorem dX9_bestRule_18 : decode cX9_bestRule 18 = .ok (.ireturn, 1) := by decide +kernel
theorem dX9_bestRule_19 : decode cX9_bestRule 19 = .ok (.iload_n 2, 1) := by decide +kernel
theorem dX9_bestRule_20 : decode cX9_bestRule 20 = .ok (.i2l, 1) := by decide +kernel
theorem dX9_bestRule_21 : decode cX9_bestRule 21 = .ok (.lconst 1, 1) := by decide +kernel
theorem dX9_bestRule_22 : decode cX9_bestRule 22 = .ok (.ldc2_w 98, 3) := by decide +kernel
theorem dX9_bestRule_25 : decode cX9_bestRule 25 = .ok (.invokestatic 47, 3) := by decide +kernel
theorem dX9_bestRule_28 : decode cX9_bestRule 28 = .ok (.ifCond .ne 9, 3) := by decide +kernel
theorem dX9_bestRule_31 : decode cX9_bestRule 31 = .ok (.aload_n 0, 1) := by decide +kernel
theorem dX9_bestRule_32 : decode cX9_bestRule 32 = .ok (.iconst 2, 1) := by decide +kernel
theorem dX9_bestRule_33 : decode cX9_bestRule 33 = .ok (.invokevirtual 60, 3) := by decide +kernel
theorem dX9_bestRule_36 : decode cX9_bestRule 36 = .ok (.ireturn, 1) := by decide +kernel
theorem dX9_bestRule_37 : decode cX9_bestRule 37 = .ok (.iconst 0, 1) := by decide +kernel
theorem dX9_bestRule_38 : decode cX9_bestRule 38 = .ok (.istore_n 3, 1) := by decide +kernel
theorem dX9_bestRule_39 : decode cX9_bestRule 39 = .ok (.lconst 0, 1) := by decide +kernel
theorem dX9_bestRule_40 : decode cX9_bestRule 40 = .ok (.lstore 4, 2) := by decide +kernel
theorem dX9_bestRule_42 : decode cX9_bestRule 42 = .ok (.aload_n 0, 1) := by decide +kernel
theorem dX9_bestRule_43 : decode cX9_bestRule 43 = .ok (.invokevirtual 236, 3) := by decide +kernel
theorem dX9_bestRule_46 : decode cX9_bestRule 46 = .ok (.iconst 0, 1) := by decide +kernel
theorem dX9_bestRule_47 : decode cX9_bestRule 47 = .ok (.istore 6, 2) := by decide +kernel
theorem dX9_bestRule_49 : decode cX9_bestRule 49 = .ok (.iload 6, 2) := by decide +kernel
theorem dX9_bestRule_51 : decode cX9_bestRule 51 = .ok (.iconst 4, 1) := by decide +kernel
theorem dX9_bestRule_52 : decode cX9_bestRule 52 = .ok (.if_icmp .ge 71, 3) := by decide +kernel
theorem dX9_bestRule_55 : decode cX9_bestRule 55 = .ok (.aload_n 0, 1) := by decide +kernel
theorem dX9_bestRule_56 : decode cX9_bestRule 56 = .ok (.getfield 7, 3) := by decide +kernel
theorem dX9_bestRule_59 : decode cX9_bestRule 59 = .ok (.bipush 37, 2) := by decide +kernel
theorem dX9_bestRule_61 : decode cX9_bestRule 61 = .ok (.iload_n 1, 1) := by decide +kernel
theorem dX9_bestRule_62 : decode cX9_bestRule 62 = .ok (.iadd, 1) := by decide +kernel
theorem dX9_bestRule_63 : decode cX9_bestRule 63 = .ok (.iload 6, 2) := by decide +kernel
theorem dX9_bestRule_65 : decode cX9_bestRule 65 = .ok (.i2l, 1) := by decide +kernel
theorem dX9_bestRule_66 : decode cX9_bestRule 66 = .ok (.lastore, 1) := by decide +kernel
theorem dX9_bestRule_67 : decode cX9_bestRule 67 = .ok (.aload_n 0, 1) := by decide +kernel
theorem dX9_bestRule_68 : decode cX9_bestRule 68 = .ok (.iload_n 2, 1) := by decide +kernel
theorem dX9_bestRule_69 : decode cX9_bestRule 69 = .ok (.invokevirtual 191, 3) := by decide +kernel
theorem dX9_bestRule_72 : decode cX9_bestRule 72 = .ok (.istore 7, 2) := by decide +kernel
theorem dX9_bestRule_74 : decode cX9_bestRule 74 = .ok (.aload_n 0, 1) := by decide +kernel
theorem dX9_bestRule_75 : decode cX9_bestRule 75 = .ok (.getfield 7, 3) := by decide +kernel
theorem dX9_bestRule_78 : decode cX9_bestRule 78 = .ok (.sipush 1878, 3) := by decide +kernel
theorem dX9_bestRule_81 : decode cX9_bestRule 81 = .ok (.laload, 1) := by decide +kernel
theorem dX9_bestRule_82 : decode cX9_bestRule 82 = .ok (.aload_n 0, 1) := by decide +kernel
theorem dX9_bestRule_83 : decode cX9_bestRule 83 = .ok (.getfield 16, 3) := by decide +kernel
theorem dX9_bestRule_86 : decode cX9_bestRule 86 = .ok (.sipush 1878, 3) := by decide +kernel
theorem dX9_bestRule_89 : decode cX9_bestRule 89 = .ok (.laload, 1) := by decide +kernel
theorem dX9_bestRule_90 : decode cX9_bestRule 90 = .ok (.lsub, 1) := by decide +kernel
theorem dX9_bestRule_91 : decode cX9_bestRule 91 = .ok (.lstore 8, 2) := by decide +kernel
theorem dX9_bestRule_93 : decode cX9_bestRule 93 = .ok (.aload_n 0, 1) := by decide +kernel
theorem dX9_bestRule_94 : decode cX9_bestRule 94 = .ok (.invokevirtual 239, 3) := by decide +kernel
theorem dX9_bestRule_97 : decode cX9_bestRule 97 = .ok (.iload 6, 2) := by decide +kernel
theorem dX9_bestRule_99 : decode cX9_bestRule 99 = .ok (.ifCond .eq 11, 3) := by decide +kernel
theorem dX9_bestRule_102 : decode cX9_bestRule 102 = .ok (.lload 8, 2) := by decide +kernel
theorem dX9_bestRule_104 : decode cX9_bestRule 104 = .ok (.lload 4, 2) := by decide +kernel
theorem dX9_bestRule_106 : decode cX9_bestRule 106 = .ok (.lcmp, 1) := by decide +kernel
theorem dX9_bestRule_107 : decode cX9_bestRule 107 = .ok (.ifCond .ge 10, 3) := by decide +kernel
theorem dX9_bestRule_110 : decode cX9_bestRule 110 = .ok (.iload 6, 2) := by decide +kernel
theorem dX9_bestRule_112 : decode cX9_bestRule 112 = .ok (.istore_n 3, 1) := by decide +kernel
theorem dX9_bestRule_113 : decode cX9_bestRule 113 = .ok (.lload 8, 2) := by decide +kernel
theorem dX9_bestRule_115 : decode cX9_bestRule 115 = .ok (.lstore 4, 2) := by decide +kernel
theorem dX9_bestRule_117 : decode cX9_bestRule 117 = .ok (.iinc 6 1, 3) := by decide +kernel
theorem dX9_bestRule_120 : decode cX9_bestRule 120 = .ok (.goto (-71), 3) := by decide +kernel
theorem dX9_bestRule_123 : decode cX9_bestRule 123 = .ok (.iload_n 3, 1) := by decide +kernel
theorem dX9_bestRule_124 : decode cX9_bestRule 124 = .ok (.ireturn, 1) := by decide +kernel
set_option maxRecDepth 20000 in
theorem ggX9_quote_X9_isBoat : GoodIn wsX9_quote wsX9_isBoat := goodIn_r _ [7, 8, 9, 10, 6, 11, 21, 22, 23, 24, 25, 26, 27, 28, 29, 30, 31, 32, 33] (by decide +kernel) (by decide +kernel)
set_option maxRecDepth 20000 in
theorem gX9_quote_X9_isBoat : GoodIn wsX9_quote (wsV RX9 198 RX9 yX9_isBoat wsX9_isBoat) := goodIn_app (goodIn_of _ (by decide +kernel)) ggX9_quote_X9_isBoat
set_option maxRecDepth 20000 in
theorem ggX9_quote_X9_refuse : GoodIn wsX9_quote wsX9_refuse := goodIn_r _ [15, 1, 21, 22, 23, 24, 25, 26, 27, 28, 29, 30, 31, 32, 33] (by decide +kernel) (by decide +kernel)
set_option maxRecDepth 20000 in
theorem gX9_quote_X9_refuse : GoodIn wsX9_quote (wsV RX9 60 RX9 yX9_refuse wsX9_refuse) := goodIn_app (goodIn_of _ (by decide +kernel)) ggX9_quote_X9_refuse
set_option maxRecDepth 20000 in
theorem ggX9_quote_X9_in : GoodIn wsX9_quote wsX9_in := goodIn_r _ [11] (by decide +kernel) (by decide +kernel)
set_option maxRecDepth 20000 in
theorem gX9_quote_X9_in : GoodIn wsX9_quote (va_wsS RX9 47 yX9_in wsX9_in) := goodIn_app (goodIn_of _ (by decide +kernel)) ggX9_quote_X9_in
set_option maxRecDepth 20000 in
theorem ggX9_quote_X9_priceOf : GoodIn wsX9_quote wsX9_priceOf := goodIn_r _ [19, 8, 20, 21, 22, 23, 24, 25, 26, 27, 28, 29, 30, 31, 32, 33] (by decide +kernel) (by decide +kernel)
set_option maxRecDepth 20000 in
theorem gX9_quote_X9_priceOf : GoodIn wsX9_quote (wsV RX9 148 RX9 yX9_priceOf wsX9_priceOf) := goodIn_app (goodIn_of _ (by decide +kernel)) ggX9_quote_X9_priceOf
theorem dX9_quote_0 : decode cX9_quote 0 = .ok (.aload_n 0, 1) := by decide +kernel
theorem dX9_quote_1 : decode cX9_quote 1 = .ok (.iconst 0, 1) := by decide +kernel
theorem dX9_quote_2 : decode cX9_quote 2 = .ok (.putfield 43, 3) := by decide +kernel
theorem dX9_quote_5 : decode cX9_quote 5 = .ok (.aload_n 0, 1) := by decide +kernel
theorem dX9_quote_6 : decode cX9_quote 6 = .ok (.iload_n 1, 1) := by decide +kernel
theorem dX9_quote_7 : decode cX9_quote 7 = .ok (.invokevirtual 198, 3) := by decide +kernel
theorem dX9_quote_10 : decode cX9_quote 10 = .ok (.ifCond .ne 9, 3) := by decide +kernel
theorem dX9_quote_13 : decode cX9_quote 13 = .ok (.aload_n 0, 1) := by decide +kernel
theorem dX9_quote_14 : decode cX9_quote 14 = .ok (.iconst 1, 1) := by decide +kernel
theorem dX9_quote_15 : decode cX9_quote 15 = .ok (.invokevirtual 60, 3) := by decide +kernel
theorem dX9_quote_18 : decode cX9_quote 18 = .ok (.ireturn, 1) := by decide +kernel
theorem dX9_quote_19 : decode cX9_quote 19 = .ok (.iload_n 2, 1) := by decide +kernel
theorem dX9_quote_20 : decode cX9_quote 20 = .ok (.i2l, 1) := by decide +kernel
theorem dX9_quote_21 : decode cX9_quote 21 = .ok (.lconst 0, 1) := by decide +kernel
theorem dX9_quote_22 : decode cX9_quote 22 = .ok (.ldc2_w 204, 3) := by decide +kernel
theorem dX9_quote_25 : decode cX9_quote 25 = .ok (.invokestatic 47, 3) := by decide +kernel
theorem dX9_quote_28 : decode cX9_quote 28 = .ok (.ifCond .eq 25, 3) := by decide +kernel
theorem dX9_quote_31 : decode cX9_quote 31 = .ok (.iload_n 3, 1) := by decide +kernel
theorem dX9_quote_32 : decode cX9_quote 32 = .ok (.i2l, 1) := by decide +kernel
theorem dX9_quote_33 : decode cX9_quote 33 = .ok (.lconst 0, 1) := by decide +kernel
theorem dX9_quote_34 : decode cX9_quote 34 = .ok (.lconst 1, 1) := by decide +kernel
theorem dX9_quote_35 : decode cX9_quote 35 = .ok (.invokestatic 47, 3) := by decide +kernel
theorem dX9_quote_38 : decode cX9_quote 38 = .ok (.ifCond .eq 15, 3) := by decide +kernel
theorem dX9_quote_41 : decode cX9_quote 41 = .ok (.aload_n 0, 1) := by decide +kernel
theorem dX9_quote_42 : decode cX9_quote 42 = .ok (.iload_n 1, 1) := by decide +kernel
theorem dX9_quote_43 : decode cX9_quote 43 = .ok (.iload_n 2, 1) := by decide +kernel
theorem dX9_quote_44 : decode cX9_quote 44 = .ok (.i2l, 1) := by decide +kernel
theorem dX9_quote_45 : decode cX9_quote 45 = .ok (.iload_n 3, 1) := by decide +kernel
theorem dX9_quote_46 : decode cX9_quote 46 = .ok (.invokevirtual 148, 3) := by decide +kernel
theorem dX9_quote_49 : decode cX9_quote 49 = .ok (.l2i, 1) := by decide +kernel
theorem dX9_quote_50 : decode cX9_quote 50 = .ok (.goto 8, 3) := by decide +kernel
theorem dX9_quote_53 : decode cX9_quote 53 = .ok (.aload_n 0, 1) := by decide +kernel
theorem dX9_quote_54 : decode cX9_quote 54 = .ok (.iconst 2, 1) := by decide +kernel
theorem dX9_quote_55 : decode cX9_quote 55 = .ok (.invokevirtual 60, 3) := by decide +kernel
theorem dX9_quote_58 : decode cX9_quote 58 = .ok (.ireturn, 1) := by decide +kernel
set_option maxRecDepth 20000 in
theorem ggX9_append_X9_in : GoodIn wsX9_append wsX9_in := goodIn_r _ [9] (by decide +kernel) (by decide +kernel)
set_option maxRecDepth 20000 in
theorem gX9_append_X9_in : GoodIn wsX9_append (va_wsS RX9 47 yX9_in wsX9_in) := goodIn_app (goodIn_of _ (by decide +kernel)) ggX9_append_X9_in
set_option maxRecDepth 20000 in
theorem ggX9_append_X9_refuse : GoodIn wsX9_append wsX9_refuse := goodIn_r _ [13, 1, 14, 15, 16, 17, 18, 19, 20, 21, 22, 23, 24, 25, 26] (by decide +kernel) (by decide +kernel)
set_option maxRecDepth 20000 in
theorem gX9_append_X9_refuse : GoodIn wsX9_append (wsV RX9 60 RX9 yX9_refuse wsX9_refuse) := goodIn_app (goodIn_of _ (by decide +kernel)) ggX9_append_X9_refuse
theorem dX9_append_0 : decode cX9_append 0 = .ok (.aload_n 0, 1) := by decide +kernel
theorem dX9_append_1 : decode cX9_append 1 = .ok (.iconst 0, 1) := by decide +kernel
theorem dX9_append_2 : decode cX9_append 2 = .ok (.putfield 43, 3) := by decide +kernel
theorem dX9_append_5 : decode cX9_append 5 = .ok (.iload_n 1, 1) := by decide +kernel
theorem dX9_append_6 : decode cX9_append 6 = .ok (.i2l, 1) := by decide +kernel
theorem dX9_append_7 : decode cX9_append 7 = .ok (.ldc2_w 242, 3) := by decide +kernel
theorem dX9_append_10 : decode cX9_append 10 = .ok (.ldc2_w 244, 3) := by decide +kernel
theorem dX9_append_13 : decode cX9_append 13 = .ok (.invokestatic 47, 3) := by decide +kernel
theorem dX9_append_16 : decode cX9_append 16 = .ok (.ifCond .ne 9, 3) := by decide +kernel
theorem dX9_append_19 : decode cX9_append 19 = .ok (.aload_n 0, 1) := by decide +kernel
theorem dX9_append_20 : decode cX9_append 20 = .ok (.iconst 1, 1) := by decide +kernel
theorem dX9_append_21 : decode cX9_append 21 = .ok (.invokevirtual 60, 3) := by decide +kernel
theorem dX9_append_24 : decode cX9_append 24 = .ok (.ireturn, 1) := by decide +kernel
theorem dX9_append_25 : decode cX9_append 25 = .ok (.aload_n 0, 1) := by decide +kernel
theorem dX9_append_26 : decode cX9_append 26 = .ok (.getfield 246, 3) := by decide +kernel
theorem dX9_append_29 : decode cX9_append 29 = .ok (.bipush 120, 2) := by decide +kernel
theorem dX9_append_31 : decode cX9_append 31 = .ok (.if_icmp .ne 9, 3) := by decide +kernel
theorem dX9_append_34 : decode cX9_append 34 = .ok (.aload_n 0, 1) := by decide +kernel
theorem dX9_append_35 : decode cX9_append 35 = .ok (.iconst 2, 1) := by decide +kernel
theorem dX9_append_36 : decode cX9_append 36 = .ok (.invokevirtual 60, 3) := by decide +kernel
theorem dX9_append_39 : decode cX9_append 39 = .ok (.ireturn, 1) := by decide +kernel
theorem dX9_append_40 : decode cX9_append 40 = .ok (.aload_n 0, 1) := by decide +kernel
theorem dX9_append_41 : decode cX9_append 41 = .ok (.getfield 23, 3) := by decide +kernel
theorem dX9_append_44 : decode cX9_append 44 = .ok (.aload_n 0, 1) := by decide +kernel
theorem dX9_append_45 : decode cX9_append 45 = .ok (.getfield 246, 3) := by decide +kernel
theorem dX9_append_48 : decode cX9_append 48 = .ok (.iload_n 1, 1) := by decide +kernel
theorem dX9_append_49 : decode cX9_append 49 = .ok (.iastore, 1) := by decide +kernel
theorem dX9_append_50 : decode cX9_append 50 = .ok (.aload_n 0, 1) := by decide +kernel
theorem dX9_append_51 : decode cX9_append 51 = .ok (.dup, 1) := by decide +kernel
theorem dX9_append_52 : decode cX9_append 52 = .ok (.getfield 246, 3) := by decide +kernel
theorem dX9_append_55 : decode cX9_append 55 = .ok (.iconst 1, 1) := by decide +kernel
theorem dX9_append_56 : decode cX9_append 56 = .ok (.iadd, 1) := by decide +kernel
theorem dX9_append_57 : decode cX9_append 57 = .ok (.putfield 246, 3) := by decide +kernel
theorem dX9_append_60 : decode cX9_append 60 = .ok (.aload_n 0, 1) := by decide +kernel
theorem dX9_append_61 : decode cX9_append 61 = .ok (.getfield 246, 3) := by decide +kernel
theorem dX9_append_64 : decode cX9_append 64 = .ok (.ireturn, 1) := by decide +kernel
theorem dX9_clear_0 : decode cX9_clear 0 = .ok (.aload_n 0, 1) := by decide +kernel
theorem dX9_clear_1 : decode cX9_clear 1 = .ok (.iconst 0, 1) := by decide +kernel
theorem dX9_clear_2 : decode cX9_clear 2 = .ok (.putfield 43, 3) := by decide +kernel
theorem dX9_clear_5 : decode cX9_clear 5 = .ok (.aload_n 0, 1) := by decide +kernel
theorem dX9_clear_6 : decode cX9_clear 6 = .ok (.getfield 246, 3) := by decide +kernel
theorem dX9_clear_9 : decode cX9_clear 9 = .ok (.istore_n 1, 1) := by decide +kernel
theorem dX9_clear_10 : decode cX9_clear 10 = .ok (.aload_n 0, 1) := by decide +kernel
theorem dX9_clear_11 : decode cX9_clear 11 = .ok (.iconst 0, 1) := by decide +kernel
theorem dX9_clear_12 : decode cX9_clear 12 = .ok (.putfield 246, 3) := by decide +kernel
theorem dX9_clear_15 : decode cX9_clear 15 = .ok (.iload_n 1, 1) := by decide +kernel
theorem dX9_clear_16 : decode cX9_clear 16 = .ok (.ireturn, 1) := by decide +kernel
theorem dX9_needs_0 : decode cX9_needs 0 = .ok (.aload_n 0, 1) := by decide +kernel
theorem dX9_needs_1 : decode cX9_needs 1 = .ok (.getfield 249, 3) := by decide +kernel
theorem dX9_needs_4 : decode cX9_needs 4 = .ok (.bipush 104, 2) := by decide +kernel
theorem dX9_needs_6 : decode cX9_needs 6 = .ok (.if_icmp .ne 7, 3) := by decide +kernel
theorem dX9_needs_9 : decode cX9_needs 9 = .ok (.iconst 1, 1) := by decide +kernel
theorem dX9_needs_10 : decode cX9_needs 10 = .ok (.goto 17, 3) := by decide +kernel
theorem dX9_needs_13 : decode cX9_needs 13 = .ok (.aload_n 0, 1) := by decide +kernel
theorem dX9_needs_14 : decode cX9_needs 14 = .ok (.getfield 249, 3) := by decide +kernel
theorem dX9_needs_17 : decode cX9_needs 17 = .ok (.bipush 111, 2) := by decide +kernel
theorem dX9_needs_19 : decode cX9_needs 19 = .ok (.if_icmp .ne 7, 3) := by decide +kernel
theorem dX9_needs_22 : decode cX9_needs 22 = .ok (.iconst 3, 1) := by decide +kernel
theorem dX9_needs_23 : decode cX9_needs 23 = .ok (.goto 4, 3) := by decide +kernel
theorem dX9_needs_26 : decode cX9_needs 26 = .ok (.iconst 2, 1) := by decide +kernel
theorem dX9_needs_27 : decode cX9_needs 27 = .ok (.ireturn, 1) := by decide +kernel
set_option maxRecDepth 20000 in
theorem ggX9_readOne_X9_in : GoodIn wsX9_readOne wsX9_in := goodIn_r _ [11] (by decide +kernel) (by decide +kernel)
set_option maxRecDepth 20000 in
theorem gX9_readOne_X9_in : GoodIn wsX9_readOne (va_wsS RX9 47 yX9_in wsX9_in) := goodIn_app (goodIn_of _ (by decide +kernel)) ggX9_readOne_X9_in
set_option maxRecDepth 20000 in
theorem ggX9_readOne_X9_needs : GoodIn wsX9_readOne wsX9_needs := goodIn_r _ [15, 1, 16, 17, 18, 19, 20, 21, 22, 23, 24, 25, 26, 27, 28] (by decide +kernel) (by decide +kernel)
set_option maxRecDepth 20000 in
theorem gX9_readOne_X9_needs : GoodIn wsX9_readOne (wsV RX9 264 RX9 yX9_needs wsX9_needs) := goodIn_app (goodIn_of _ (by decide +kernel)) ggX9_readOne_X9_needs
theorem dX9_readOne_0 : decode cX9_readOne 0 = .ok (.aload_n 0, 1) := by decide +kernel
theorem dX9_readOne_1 : decode cX9_readOne 1 = .ok (.getfield 249, 3) := by decide +kernel
theorem dX9_readOne_4 : decode cX9_readOne 4 = .ok (.ifCond .ne 77, 3) := by decide +kernel
theorem dX9_readOne_7 : decode cX9_readOne 7 = .ok (.iload_n 1, 1) := by decide +kernel
theorem dX9_readOne_8 : decode cX9_readOne 8 = .ok (.bipush 104, 2) := by decide +kernel
theorem dX9_readOne_10 : decode cX9_readOne 10 = .ok (.if_icmp .eq 27, 3) := by decide +kernel
theorem dX9_readOne_13 : decode cX9_readOne 13 = .ok (.iload_n 1, 1) := by decide +kernel
theorem dX9_readOne_14 : decode cX9_readOne 14 = .ok (.bipush 111, 2) := by decide +kernel
theorem dX9_readOne_16 : decode cX9_readOne 16 = .ok (.if_icmp .eq 21, 3) := by decide +kernel
theorem dX9_readOne_19 : decode cX9_readOne 19 = .ok (.iload_n 1, 1) := by decide +kernel
theorem dX9_readOne_20 : decode cX9_readOne 20 = .ok (.bipush 99, 2) := by decide +kernel
theorem dX9_readOne_22 : decode cX9_readOne 22 = .ok (.if_icmp .eq 15, 3) := by decide +kernel
theorem dX9_readOne_25 : decode cX9_readOne 25 = .ok (.iload_n 1, 1) := by decide +kernel
theorem dX9_readOne_26 : decode cX9_readOne 26 = .ok (.bipush 112, 2) := by decide +kernel
theorem dX9_readOne_28 : decode cX9_readOne 28 = .ok (.if_icmp .eq 9, 3) := by decide +kernel
theorem dX9_readOne_31 : decode cX9_readOne 31 = .ok (.iload_n 1, 1) := by decide +kernel
theorem dX9_readOne_32 : decode cX9_readOne 32 = .ok (.bipush 109, 2) := by decide +kernel
theorem dX9_readOne_34 : decode cX9_readOne 34 = .ok (.if_icmp .ne 7, 3) := by decide +kernel
theorem dX9_readOne_37 : decode cX9_readOne 37 = .ok (.iconst 1, 1) := by decide +kernel
theorem dX9_readOne_38 : decode cX9_readOne 38 = .ok (.goto 4, 3) := by decide +kernel
theorem dX9_readOne_41 : decode cX9_readOne 41 = .ok (.iconst 0, 1) := by decide +kernel
theorem dX9_readOne_42 : decode cX9_readOne 42 = .ok (.istore_n 2, 1) := by decide +kernel
theorem dX9_readOne_43 : decode cX9_readOne 43 = .ok (.aload_n 0, 1) := by decide +kernel
theorem dX9_readOne_44 : decode cX9_readOne 44 = .ok (.iload_n 2, 1) := by decide +kernel
theorem dX9_readOne_45 : decode cX9_readOne 45 = .ok (.ifCond .eq 7, 3) := by decide +kernel
theorem dX9_readOne_48 : decode cX9_readOne 48 = .ok (.iload_n 1, 1) := by decide +kernel
theorem dX9_readOne_49 : decode cX9_readOne 49 = .ok (.goto 4, 3) := by decide +kernel
theorem dX9_readOne_52 : decode cX9_readOne 52 = .ok (.iconst 0, 1) := by decide +kernel
theorem dX9_readOne_53 : decode cX9_readOne 53 = .ok (.putfield 249, 3) := by decide +kernel
theorem dX9_readOne_56 : decode cX9_readOne 56 = .ok (.aload_n 0, 1) := by decide +kernel
theorem dX9_readOne_57 : decode cX9_readOne 57 = .ok (.iconst 0, 1) := by decide +kernel
theorem dX9_readOne_58 : decode cX9_readOne 58 = .ok (.putfield 252, 3) := by decide +kernel
theorem dX9_readOne_61 : decode cX9_readOne 61 = .ok (.aload_n 0, 1) := by decide +kernel
theorem dX9_readOne_62 : decode cX9_readOne 62 = .ok (.iconst 0, 1) := by decide +kernel
theorem dX9_readOne_63 : decode cX9_readOne 63 = .ok (.putfield 255, 3) := by decide +kernel
theorem dX9_readOne_66 : decode cX9_readOne 66 = .ok (.aload_n 0, 1) := by decide +kernel
theorem dX9_readOne_67 : decode cX9_readOne 67 = .ok (.iconst 0, 1) := by decide +kernel
theorem dX9_readOne_68 : decode cX9_readOne 68 = .ok (.putfield 258, 3) := by decide +kernel
theorem dX9_readOne_71 : decode cX9_readOne 71 = .ok (.iload_n 2, 1) := by decide +kernel
theorem dX9_readOne_72 : decode cX9_readOne 72 = .ok (.ifCond .eq 7, 3) := by decide +kernel
theorem dX9_readOne_75 : decode cX9_readOne 75 = .ok (.iconst 0, 1) := by decide +kernel
theorem dX9_readOne_76 : decode cX9_readOne 76 = .ok (.goto 4, 3) := by decide +kernel
theorem dX9_readOne_79 : decode cX9_readOne 79 = .ok (.iconst 1, 1) := by decide +kernel
theorem dX9_readOne_80 : decode cX9_readOne 80 = .ok (.ireturn, 1) := by decide +kernel
theorem dX9_readOne_81 : decode cX9_readOne 81 = .ok (.iload_n 1, 1) := by decide +kernel
theorem dX9_readOne_82 : decode cX9_readOne 82 = .ok (.i2l, 1) := by decide +kernel
theorem dX9_readOne_83 : decode cX9_readOne 83 = .ok (.ldc2_w 181, 3) := by decide +kernel
theorem dX9_readOne_86 : decode cX9_readOne 86 = .ok (.ldc2_w 262, 3) := by decide +kernel
theorem dX9_readOne_89 : decode cX9_readOne 89 = .ok (.invokestatic 47, 3) := by decide +kernel
theorem dX9_readOne_92 : decode cX9_readOne 92 = .ok (.ifCond .eq 75, 3) := by decide +kernel
theorem dX9_readOne_95 : decode cX9_readOne 95 = .ok (.aload_n 0, 1) := by decide +kernel
theorem dX9_readOne_96 : decode cX9_readOne 96 = .ok (.getfield 258, 3) := by decide +kernel
theorem dX9_readOne_99 : decode cX9_readOne 99 = .ok (.ifCond .ne 68, 3) := by decide +kernel
theorem dX9_readOne_102 : decode cX9_readOne 102 = .ok (.aload_n 0, 1) := by decide +kernel
theorem dX9_readOne_103 : decode cX9_readOne 103 = .ok (.getfield 26, 3) := by decide +kernel
theorem dX9_readOne_106 : decode cX9_readOne 106 = .ok (.aload_n 0, 1) := by decide +kernel
theorem dX9_readOne_107 : decode cX9_readOne 107 = .ok (.getfield 252, 3) := by decide +kernel
theorem dX9_readOne_110 : decode cX9_readOne 110 = .ok (.aload_n 0, 1) := by decide +kernel
theorem dX9_readOne_111 : decode cX9_readOne 111 = .ok (.getfield 255, 3) := by decide +kernel
theorem dX9_readOne_114 : decode cX9_readOne 114 = .ok (.ifCond .ne 10, 3) := by decide +kernel
theorem dX9_readOne_117 : decode cX9_readOne 117 = .ok (.iload_n 1, 1) := by decide +kernel
theorem dX9_readOne_118 : decode cX9_readOne 118 = .ok (.bipush 48, 2) := by decide +kernel
theorem dX9_readOne_120 : decode cX9_readOne 120 = .ok (.isub, 1) := by decide +kernel
theorem dX9_readOne_121 : decode cX9_readOne 121 = .ok (.goto 20, 3) := by decide +kernel
theorem dX9_readOne_124 : decode cX9_readOne 124 = .ok (.bipush 10, 2) := by decide +kernel
theorem dX9_readOne_126 : decode cX9_readOne 126 = .ok (.aload_n 0, 1) := by decide +kernel
theorem dX9_readOne_127 : decode cX9_readOne 127 = .ok (.getfield 26, 3) := by decide +kernel
theorem dX9_readOne_130 : decode cX9_readOne 130 = .ok (.aload_n 0, 1) := by decide +kernel
theorem dX9_readOne_131 : decode cX9_readOne 131 = .ok (.getfield 252, 3) := by decide +kernel
theorem dX9_readOne_134 : decode cX9_readOne 134 = .ok (.iaload, 1) := by decide +kernel
theorem dX9_readOne_135 : decode cX9_readOne 135 = .ok (.imul, 1) := by decide +kernel
theorem dX9_readOne_136 : decode cX9_readOne 136 = .ok (.iload_n 1, 1) := by decide +kernel
theorem dX9_readOne_137 : decode cX9_readOne 137 = .ok (.iadd, 1) := by decide +kernel
theorem dX9_readOne_138 : decode cX9_readOne 138 = .ok (.bipush 48, 2) := by decide +kernel
theorem dX9_readOne_140 : decode cX9_readOne 140 = .ok (.isub, 1) := by decide +kernel
theorem dX9_readOne_141 : decode cX9_readOne 141 = .ok (.iastore, 1) := by decide +kernel
theorem dX9_readOne_142 : decode cX9_readOne 142 = .ok (.aload_n 0, 1) := by decide +kernel
theorem dX9_readOne_143 : decode cX9_readOne 143 = .ok (.dup, 1) := by decide +kernel
theorem dX9_readOne_144 : decode cX9_readOne 144 = .ok (.getfield 255, 3) := by decide +kernel
theorem dX9_readOne_147 : decode cX9_readOne 147 = .ok (.iconst 1, 1) := by decide +kernel
theorem dX9_readOne_148 : decode cX9_readOne 148 = .ok (.iadd, 1) := by decide +kernel
theorem dX9_readOne_149 : decode cX9_readOne 149 = .ok (.putfield 255, 3) := by decide +kernel
theorem dX9_readOne_152 : decode cX9_readOne 152 = .ok (.aload_n 0, 1) := by decide +kernel
theorem dX9_readOne_153 : decode cX9_readOne 153 = .ok (.getfield 255, 3) := by decide +kernel
theorem dX9_readOne_156 : decode cX9_readOne 156 = .ok (.bipush 6, 2) := by decide +kernel
theorem dX9_readOne_158 : decode cX9_readOne 158 = .ok (.if_icmp .le 7, 3) := by decide +kernel
theorem dX9_readOne_161 : decode cX9_readOne 161 = .ok (.iconst 2, 1) := by decide +kernel
theorem dX9_readOne_162 : decode cX9_readOne 162 = .ok (.goto 4, 3) := by decide +kernel
theorem dX9_readOne_165 : decode cX9_readOne 165 = .ok (.iconst 0, 1) := by decide +kernel
theorem dX9_readOne_166 : decode cX9_readOne 166 = .ok (.ireturn, 1) := by decide +kernel
theorem dX9_readOne_167 : decode cX9_readOne 167 = .ok (.aload_n 0, 1) := by decide +kernel
theorem dX9_readOne_168 : decode cX9_readOne 168 = .ok (.getfield 255, 3) := by decide +kernel
theorem dX9_readOne_171 : decode cX9_readOne 171 = .ok (.ifCond .ne 5, 3) := by decide +kernel
theorem dX9_readOne_174 : decode cX9_readOne 174 = .ok (.iconst 1, 1) := by decide +kernel
theorem dX9_readOne_175 : decode cX9_readOne 175 = .ok (.ireturn, 1) := by decide +kernel
theorem dX9_readOne_176 : decode cX9_readOne 176 = .ok (.iload_n 1, 1) := by decide +kernel
theorem dX9_readOne_177 : decode cX9_readOne 177 = .ok (.bipush 44, 2) := by decide +kernel
theorem dX9_readOne_179 : decode cX9_readOne 179 = .ok (.if_icmp .ne 33, 3) := by decide +kernel
theorem dX9_readOne_182 : decode cX9_readOne 182 = .ok (.aload_n 0, 1) := by decide +kernel
theorem dX9_readOne_183 : decode cX9_readOne 183 = .ok (.getfield 252, 3) := by decide +kernel
theorem dX9_readOne_186 : decode cX9_readOne 186 = .ok (.iconst 1, 1) := by decide +kernel
theorem dX9_readOne_187 : decode cX9_readOne 187 = .ok (.iadd, 1) := by decide +kernel
theorem dX9_readOne_188 : decode cX9_readOne 188 = .ok (.aload_n 0, 1) := by decide +kernel
theorem dX9_readOne_189 : decode cX9_readOne 189 = .ok (.invokevirtual 264, 3) := by decide +kernel
theorem dX9_readOne_192 : decode cX9_readOne 192 = .ok (.if_icmp .ge 20, 3) := by decide +kernel
theorem dX9_readOne_195 : decode cX9_readOne 195 = .ok (.aload_n 0, 1) := by decide +kernel
theorem dX9_readOne_196 : decode cX9_readOne 196 = .ok (.dup, 1) := by decide +kernel
theorem dX9_readOne_197 : decode cX9_readOne 197 = .ok (.getfield 252, 3) := by decide +kernel
theorem dX9_readOne_200 : decode cX9_readOne 200 = .ok (.iconst 1, 1) := by decide +kernel
theorem dX9_readOne_201 : decode cX9_readOne 201 = .ok (.iadd, 1) := by decide +kernel
theorem dX9_readOne_202 : decode cX9_readOne 202 = .ok (.putfield 252, 3) := by decide +kernel
theorem dX9_readOne_205 : decode cX9_readOne 205 = .ok (.aload_n 0, 1) := by decide +kernel
theorem dX9_readOne_206 : decode cX9_readOne 206 = .ok (.iconst 0, 1) := by decide +kernel
theorem dX9_readOne_207 : decode cX9_readOne 207 = .ok (.putfield 255, 3) := by decide +kernel
theorem dX9_readOne_210 : decode cX9_readOne 210 = .ok (.iconst 0, 1) := by decide +kernel
theorem dX9_readOne_211 : decode cX9_readOne 211 = .ok (.ireturn, 1) := by decide +kernel
theorem dX9_readOne_212 : decode cX9_readOne 212 = .ok (.iload_n 1, 1) := by decide +kernel
theorem dX9_readOne_213 : decode cX9_readOne 213 = .ok (.bipush 33, 2) := by decide +kernel
theorem dX9_readOne_215 : decode cX9_readOne 215 = .ok (.if_icmp .ne 34, 3) := by decide +kernel
theorem dX9_readOne_218 : decode cX9_readOne 218 = .ok (.aload_n 0, 1) := by decide +kernel
theorem dX9_readOne_219 : decode cX9_readOne 219 = .ok (.getfield 249, 3) := by decide +kernel
theorem dX9_readOne_222 : decode cX9_readOne 222 = .ok (.bipush 111, 2) := by decide +kernel
theorem dX9_readOne_224 : decode cX9_readOne 224 = .ok (.if_icmp .ne 25, 3) := by decide +kernel
theorem dX9_readOne_227 : decode cX9_readOne 227 = .ok (.aload_n 0, 1) := by decide +kernel
theorem dX9_readOne_228 : decode cX9_readOne 228 = .ok (.getfield 252, 3) := by decide +kernel
theorem dX9_readOne_231 : decode cX9_readOne 231 = .ok (.iconst 2, 1) := by decide +kernel
theorem dX9_readOne_232 : decode cX9_readOne 232 = .ok (.if_icmp .ne 17, 3) := by decide +kernel
theorem dX9_readOne_235 : decode cX9_readOne 235 = .ok (.aload_n 0, 1) := by decide +kernel
theorem dX9_readOne_236 : decode cX9_readOne 236 = .ok (.getfield 258, 3) := by decide +kernel
theorem dX9_readOne_239 : decode cX9_readOne 239 = .ok (.ifCond .ne 10, 3) := by decide +kernel
theorem dX9_readOne_242 : decode cX9_readOne 242 = .ok (.aload_n 0, 1) := by decide +kernel
theorem dX9_readOne_243 : decode cX9_readOne 243 = .ok (.iconst 1, 1) := by decide +kernel
theorem dX9_readOne_244 : decode cX9_readOne 244 = .ok (.putfield 258, 3) := by decide +kernel
theorem dX9_readOne_247 : decode cX9_readOne 247 = .ok (.iconst 0, 1) := by decide +kernel
theorem dX9_readOne_248 : decode cX9_readOne 248 = .ok (.ireturn, 1) := by decide +kernel
theorem dX9_readOne_249 : decode cX9_readOne 249 = .ok (.iload_n 1, 1) := by decide +kernel
theorem dX9_readOne_250 : decode cX9_readOne 250 = .ok (.bipush 59, 2) := by decide +kernel
theorem dX9_readOne_252 : decode cX9_readOne 252 = .ok (.if_icmp .ne 20, 3) := by decide +kernel
theorem dX9_readOne_255 : decode cX9_readOne 255 = .ok (.aload_n 0, 1) := by decide +kernel
theorem dX9_readOne_256 : decode cX9_readOne 256 = .ok (.getfield 252, 3) := by decide +kernel
theorem dX9_readOne_259 : decode cX9_readOne 259 = .ok (.iconst 1, 1) := by decide +kernel
theorem dX9_readOne_260 : decode cX9_readOne 260 = .ok (.iadd, 1) := by decide +kernel
theorem dX9_readOne_261 : decode cX9_readOne 261 = .ok (.aload_n 0, 1) := by decide +kernel
theorem dX9_readOne_262 : decode cX9_readOne 262 = .ok (.invokevirtual 264, 3) := by decide +kernel
theorem dX9_readOne_265 : decode cX9_readOne 265 = .ok (.if_icmp .ne 7, 3) := by decide +kernel
theorem dX9_readOne_268 : decode cX9_readOne 268 = .ok (.iconst 0, 1) := by decide +kernel
theorem dX9_readOne_269 : decode cX9_readOne 269 = .ok (.goto 4, 3) := by decide +kernel
theorem dX9_readOne_272 : decode cX9_readOne 272 = .ok (.iconst 1, 1) := by decide +kernel
theorem dX9_readOne_273 : decode cX9_readOne 273 = .ok (.ireturn, 1) := by decide +kernel
set_option maxRecDepth 20000 in
theorem ggX9_ends_X9_needs : GoodIn wsX9_ends wsX9_needs := goodIn_r _ [8, 1, 9, 10, 11, 12, 13, 14, 15, 16, 17, 18, 19, 20, 21] (by decide +kernel) (by decide +kernel)
set_option maxRecDepth 20000 in
theorem gX9_ends_X9_needs : GoodIn wsX9_ends (wsV RX9 264 RX9 yX9_needs wsX9_needs) := goodIn_app (goodIn_of _ (by decide +kernel)) ggX9_ends_X9_needs
theorem dX9_ends_0 : decode cX9_ends 0 = .ok (.aload_n 0, 1) := by decide +kernel
theorem dX9_ends_1 : decode cX9_ends 1 = .ok (.getfield 249, 3) := by decide +kernel
theorem dX9_ends_4 : decode cX9_ends 4 = .ok (.ifCond .le 27, 3) := by decide +kernel
theorem dX9_ends_7 : decode cX9_ends 7 = .ok (.aload_n 0, 1) := by decide +kernel
theorem dX9_ends_8 : decode cX9_ends 8 = .ok (.getfield 255, 3) := by decide +kernel
theorem dX9_ends_11 : decode cX9_ends 11 = .ok (.ifCond .le 20, 3) := by decide +kernel
theorem dX9_ends_14 : decode cX9_ends 14 = .ok (.aload_n 0, 1) := by decide +kernel
theorem dX9_ends_15 : decode cX9_ends 15 = .ok (.getfield 252, 3) := by decide +kernel
theorem dX9_ends_18 : decode cX9_ends 18 = .ok (.iconst 1, 1) := by decide +kernel
theorem dX9_ends_19 : decode cX9_ends 19 = .ok (.iadd, 1) := by decide +kernel
theorem dX9_ends_20 : decode cX9_ends 20 = .ok (.aload_n 0, 1) := by decide +kernel
theorem dX9_ends_21 : decode cX9_ends 21 = .ok (.invokevirtual 264, 3) := by decide +kernel
theorem dX9_ends_24 : decode cX9_ends 24 = .ok (.if_icmp .ne 7, 3) := by decide +kernel
theorem dX9_ends_27 : decode cX9_ends 27 = .ok (.iconst 1, 1) := by decide +kernel
theorem dX9_ends_28 : decode cX9_ends 28 = .ok (.goto 4, 3) := by decide +kernel
theorem dX9_ends_31 : decode cX9_ends 31 = .ok (.iconst 0, 1) := by decide +kernel
theorem dX9_ends_32 : decode cX9_ends 32 = .ok (.ireturn, 1) := by decide +kernel
set_option maxRecDepth 20000 in
theorem ggX9_error_X9_readOne : GoodIn wsX9_error wsX9_readOne := goodIn_r _ [8, 1, 9, 10, 11, 12, 13, 14, 15, 16, 7, 17, 18, 19, 20, 21, 26, 27, 28, 29, 30, 31, 32, 33, 34, 35, 36, 37, 38] (by decide +kernel) (by decide +kernel)
set_option maxRecDepth 20000 in
theorem gX9_error_X9_readOne : GoodIn wsX9_error (wsV RX9 267 RX9 yX9_readOne wsX9_readOne) := goodIn_app (goodIn_of _ (by decide +kernel)) ggX9_error_X9_readOne
set_option maxRecDepth 20000 in
theorem ggX9_error_X9_ends : GoodIn wsX9_error wsX9_ends := goodIn_r _ [25, 1, 10, 9, 18, 19, 20, 7, 21, 26, 27, 28, 29, 30, 31, 32, 33, 34, 35, 36, 37, 38] (by decide +kernel) (by decide +kernel)
set_option maxRecDepth 20000 in
theorem gX9_error_X9_ends : GoodIn wsX9_error (wsV RX9 270 RX9 yX9_ends wsX9_ends) := goodIn_app (goodIn_of _ (by decide +kernel)) ggX9_error_X9_ends
theorem dX9_error_0 : decode cX9_error 0 = .ok (.aload_n 0, 1) := by decide +kernel
theorem dX9_error_1 : decode cX9_error 1 = .ok (.iconst 0, 1) := by decide +kernel
theorem dX9_error_2 : decode cX9_error 2 = .ok (.putfield 249, 3) := by decide +kernel
theorem dX9_error_5 : decode cX9_error 5 = .ok (.iconst 0, 1) := by decide +kernel
theorem dX9_error_6 : decode cX9_error 6 = .ok (.istore_n 1, 1) := by decide +kernel
theorem dX9_error_7 : decode cX9_error 7 = .ok (.iload_n 1, 1) := by decide +kernel
theorem dX9_error_8 : decode cX9_error 8 = .ok (.aload_n 0, 1) := by decide +kernel
theorem dX9_error_9 : decode cX9_error 9 = .ok (.getfield 246, 3) := by decide +kernel
theorem dX9_error_12 : decode cX9_error 12 = .ok (.if_icmp .ge 53, 3) := by decide +kernel
theorem dX9_error_15 : decode cX9_error 15 = .ok (.aload_n 0, 1) := by decide +kernel
theorem dX9_error_16 : decode cX9_error 16 = .ok (.aload_n 0, 1) := by decide +kernel
theorem dX9_error_17 : decode cX9_error 17 = .ok (.getfield 23, 3) := by decide +kernel
theorem dX9_error_20 : decode cX9_error 20 = .ok (.iload_n 1, 1) := by decide +kernel
theorem dX9_error_21 : decode cX9_error 21 = .ok (.iaload, 1) := by decide +kernel
theorem dX9_error_22 : decode cX9_error 22 = .ok (.invokevirtual 267, 3) := by decide +kernel
theorem dX9_error_25 : decode cX9_error 25 = .ok (.istore_n 2, 1) := by decide +kernel
theorem dX9_error_26 : decode cX9_error 26 = .ok (.iload_n 2, 1) := by decide +kernel
theorem dX9_error_27 : decode cX9_error 27 = .ok (.ifCond .le 9, 3) := by decide +kernel
theorem dX9_error_30 : decode cX9_error 30 = .ok (.iconst 4, 1) := by decide +kernel
theorem dX9_error_31 : decode cX9_error 31 = .ok (.iload_n 1, 1) := by decide +kernel
theorem dX9_error_32 : decode cX9_error 32 = .ok (.imul, 1) := by decide +kernel
theorem dX9_error_33 : decode cX9_error 33 = .ok (.iload_n 2, 1) := by decide +kernel
theorem dX9_error_34 : decode cX9_error 34 = .ok (.iadd, 1) := by decide +kernel
theorem dX9_error_35 : decode cX9_error 35 = .ok (.ireturn, 1) := by decide +kernel
theorem dX9_error_36 : decode cX9_error 36 = .ok (.aload_n 0, 1) := by decide +kernel
theorem dX9_error_37 : decode cX9_error 37 = .ok (.aload_n 0, 1) := by decide +kernel
theorem dX9_error_38 : decode cX9_error 38 = .ok (.getfield 23, 3) := by decide +kernel
theorem dX9_error_41 : decode cX9_error 41 = .ok (.iload_n 1, 1) := by decide +kernel
theorem dX9_error_42 : decode cX9_error 42 = .ok (.iaload, 1) := by decide +kernel
theorem dX9_error_43 : decode cX9_error 43 = .ok (.bipush 59, 2) := by decide +kernel
theorem dX9_error_45 : decode cX9_error 45 = .ok (.if_icmp .ne 7, 3) := by decide +kernel
theorem dX9_error_48 : decode cX9_error 48 = .ok (.iconst 0, 1) := by decide +kernel
theorem dX9_error_49 : decode cX9_error 49 = .ok (.goto 7, 3) := by decide +kernel
theorem dX9_error_52 : decode cX9_error 52 = .ok (.aload_n 0, 1) := by decide +kernel
theorem dX9_error_53 : decode cX9_error 53 = .ok (.getfield 249, 3) := by decide +kernel
theorem dX9_error_56 : decode cX9_error 56 = .ok (.putfield 249, 3) := by decide +kernel
theorem dX9_error_59 : decode cX9_error 59 = .ok (.iinc 1 1, 3) := by decide +kernel
theorem dX9_error_62 : decode cX9_error 62 = .ok (.goto (-55), 3) := by decide +kernel
theorem dX9_error_65 : decode cX9_error 65 = .ok (.aload_n 0, 1) := by decide +kernel
theorem dX9_error_66 : decode cX9_error 66 = .ok (.getfield 246, 3) := by decide +kernel
theorem dX9_error_69 : decode cX9_error 69 = .ok (.ifCond .eq 10, 3) := by decide +kernel
theorem dX9_error_72 : decode cX9_error 72 = .ok (.aload_n 0, 1) := by decide +kernel
theorem dX9_error_73 : decode cX9_error 73 = .ok (.invokevirtual 270, 3) := by decide +kernel
theorem dX9_error_76 : decode cX9_error 76 = .ok (.ifCond .eq 7, 3) := by decide +kernel
theorem dX9_error_79 : decode cX9_error 79 = .ok (.iconst (-1), 1) := by decide +kernel
theorem dX9_error_80 : decode cX9_error 80 = .ok (.goto 11, 3) := by decide +kernel
theorem dX9_error_83 : decode cX9_error 83 = .ok (.iconst 4, 1) := by decide +kernel
theorem dX9_error_84 : decode cX9_error 84 = .ok (.aload_n 0, 1) := by decide +kernel
theorem dX9_error_85 : decode cX9_error 85 = .ok (.getfield 246, 3) := by decide +kernel
theorem dX9_error_88 : decode cX9_error 88 = .ok (.imul, 1) := by decide +kernel
theorem dX9_error_89 : decode cX9_error 89 = .ok (.iconst 3, 1) := by decide +kernel
theorem dX9_error_90 : decode cX9_error 90 = .ok (.iadd, 1) := by decide +kernel
theorem dX9_error_91 : decode cX9_error 91 = .ok (.ireturn, 1) := by decide +kernel
set_option maxRecDepth 20000 in
theorem ggX9_errorPosition_X9_error : GoodIn wsX9_errorPosition wsX9_error := goodIn_r _ [6, 7, 8, 9, 10, 11, 12, 5, 13, 14, 15, 16, 17, 18, 19, 20, 21, 22, 23, 24, 25, 26, 27, 28, 29, 30, 31, 32, 33, 34, 35, 36, 37, 38, 39, 40, 41, 42, 43] (by decide +kernel) (by decide +kernel)
set_option maxRecDepth 20000 in
theorem gX9_errorPosition_X9_error : GoodIn wsX9_errorPosition (wsV RX9 274 RX9 yX9_error wsX9_error) := goodIn_app (goodIn_of _ (by decide +kernel)) ggX9_errorPosition_X9_error
theorem dX9_errorPosition_0 : decode cX9_errorPosition 0 = .ok (.aload_n 0, 1) := by decide +kernel
theorem dX9_errorPosition_1 : decode cX9_errorPosition 1 = .ok (.iconst 0, 1) := by decide +kernel
theorem dX9_errorPosition_2 : decode cX9_errorPosition 2 = .ok (.putfield 43, 3) := by decide +kernel
theorem dX9_errorPosition_5 : decode cX9_errorPosition 5 = .ok (.aload_n 0, 1) := by decide +kernel
theorem dX9_errorPosition_6 : decode cX9_errorPosition 6 = .ok (.invokevirtual 274, 3) := by decide +kernel
theorem dX9_errorPosition_9 : decode cX9_errorPosition 9 = .ok (.istore_n 1, 1) := by decide +kernel
theorem dX9_errorPosition_10 : decode cX9_errorPosition 10 = .ok (.iload_n 1, 1) := by decide +kernel
theorem dX9_errorPosition_11 : decode cX9_errorPosition 11 = .ok (.iconst (-1), 1) := by decide +kernel
theorem dX9_errorPosition_12 : decode cX9_errorPosition 12 = .ok (.if_icmp .ne 7, 3) := by decide +kernel
theorem dX9_errorPosition_15 : decode cX9_errorPosition 15 = .ok (.iconst (-1), 1) := by decide +kernel
theorem dX9_errorPosition_16 : decode cX9_errorPosition 16 = .ok (.goto 6, 3) := by decide +kernel
theorem dX9_errorPosition_19 : decode cX9_errorPosition 19 = .ok (.iload_n 1, 1) := by decide +kernel
theorem dX9_errorPosition_20 : decode cX9_errorPosition 20 = .ok (.iconst 4, 1) := by decide +kernel
theorem dX9_errorPosition_21 : decode cX9_errorPosition 21 = .ok (.idiv, 1) := by decide +kernel
theorem dX9_errorPosition_22 : decode cX9_errorPosition 22 = .ok (.ireturn, 1) := by decide +kernel
set_option maxRecDepth 20000 in
theorem ggX9_errorKind_X9_error : GoodIn wsX9_errorKind wsX9_error := goodIn_r _ [6, 7, 8, 9, 10, 11, 12, 5, 13, 14, 15, 16, 17, 18, 19, 20, 21, 22, 23, 24, 25, 26, 27, 28, 29, 30, 31, 32, 33, 34, 35, 36, 37, 38, 39, 40, 41, 42, 43] (by decide +kernel) (by decide +kernel)
set_option maxRecDepth 20000 in
theorem gX9_errorKind_X9_error : GoodIn wsX9_errorKind (wsV RX9 274 RX9 yX9_error wsX9_error) := goodIn_app (goodIn_of _ (by decide +kernel)) ggX9_errorKind_X9_error
theorem dX9_errorKind_0 : decode cX9_errorKind 0 = .ok (.aload_n 0, 1) := by decide +kernel
theorem dX9_errorKind_1 : decode cX9_errorKind 1 = .ok (.iconst 0, 1) := by decide +kernel
theorem dX9_errorKind_2 : decode cX9_errorKind 2 = .ok (.putfield 43, 3) := by decide +kernel
theorem dX9_errorKind_5 : decode cX9_errorKind 5 = .ok (.aload_n 0, 1) := by decide +kernel
theorem dX9_errorKind_6 : decode cX9_errorKind 6 = .ok (.invokevirtual 274, 3) := by decide +kernel
theorem dX9_errorKind_9 : decode cX9_errorKind 9 = .ok (.istore_n 1, 1) := by decide +kernel
theorem dX9_errorKind_10 : decode cX9_errorKind 10 = .ok (.iload_n 1, 1) := by decide +kernel
theorem dX9_errorKind_11 : decode cX9_errorKind 11 = .ok (.iconst (-1), 1) := by decide +kernel
theorem dX9_errorKind_12 : decode cX9_errorKind 12 = .ok (.if_icmp .ne 7, 3) := by decide +kernel
theorem dX9_errorKind_15 : decode cX9_errorKind 15 = .ok (.iconst 0, 1) := by decide +kernel
theorem dX9_errorKind_16 : decode cX9_errorKind 16 = .ok (.goto 6, 3) := by decide +kernel
theorem dX9_errorKind_19 : decode cX9_errorKind 19 = .ok (.iload_n 1, 1) := by decide +kernel
theorem dX9_errorKind_20 : decode cX9_errorKind 20 = .ok (.iconst 4, 1) := by decide +kernel
theorem dX9_errorKind_21 : decode cX9_errorKind 21 = .ok (.irem, 1) := by decide +kernel
theorem dX9_errorKind_22 : decode cX9_errorKind 22 = .ok (.ireturn, 1) := by decide +kernel
set_option maxRecDepth 20000 in
theorem ggX9_done_X9_passThrows : GoodIn wsX9_done wsX9_passThrows := goodIn_r _ [9, 10, 4, 11, 12, 13, 8, 14, 158, 159, 160, 161, 162, 163, 164, 165, 166, 167, 168, 169, 170] (by decide +kernel) (by decide +kernel)
set_option maxRecDepth 20000 in
theorem gX9_done_X9_passThrows : GoodIn wsX9_done (wsV RX9 188 RX9 yX9_passThrows wsX9_passThrows) := goodIn_app (goodIn_of _ (by decide +kernel)) ggX9_done_X9_passThrows
set_option maxRecDepth 20000 in
theorem ggX9_done_X9_orderThrows : GoodIn wsX9_done wsX9_orderThrows := goodIn_r _ [18, 19, 20, 4, 21, 22, 23, 8, 24, 12, 13, 14, 25, 26, 27, 28, 158, 159, 160, 161, 162, 163, 164, 165, 166, 167, 168, 169, 170] (by decide +kernel) (by decide +kernel)
set_option maxRecDepth 20000 in
theorem gX9_done_X9_orderThrows : GoodIn wsX9_done (wsV RX9 208 RX9 yX9_orderThrows wsX9_orderThrows) := goodIn_app (goodIn_of _ (by decide +kernel)) ggX9_done_X9_orderThrows
set_option maxRecDepth 20000 in
theorem ggX9_done_X9_catchThrows : GoodIn wsX9_done wsX9_catchThrows := goodIn_r _ [32, 33, 21, 22, 23, 8, 24, 4, 12, 13, 14, 158, 159, 160, 161, 162, 163, 164, 165, 166, 167, 168, 169, 170] (by decide +kernel) (by decide +kernel)
set_option maxRecDepth 20000 in
theorem gX9_done_X9_catchThrows : GoodIn wsX9_done (wsV RX9 201 RX9 yX9_catchThrows wsX9_catchThrows) := goodIn_app (goodIn_of _ (by decide +kernel)) ggX9_done_X9_catchThrows
set_option maxRecDepth 20000 in
theorem ggX9_done_X9_payThrows : GoodIn wsX9_done wsX9_payThrows := goodIn_r _ [37, 33, 4, 38, 21, 22, 23, 8, 24, 12, 13, 14, 158, 159, 160, 161, 162, 163, 164, 165, 166, 167, 168, 169, 170] (by decide +kernel) (by decide +kernel)
set_option maxRecDepth 20000 in
theorem gX9_done_X9_payThrows : GoodIn wsX9_done (wsV RX9 221 RX9 yX9_payThrows wsX9_payThrows) := goodIn_app (goodIn_of _ (by decide +kernel)) ggX9_done_X9_payThrows
set_option maxRecDepth 20000 in
theorem ggX9_done_X9_moveThrows : GoodIn wsX9_done wsX9_moveThrows := goodIn_r _ [42, 4, 43, 44, 45, 8, 46, 12, 13, 14, 158, 159, 160, 161, 162, 163, 164, 165, 166, 167, 168, 169, 170] (by decide +kernel) (by decide +kernel)
set_option maxRecDepth 20000 in
theorem gX9_done_X9_moveThrows : GoodIn wsX9_done (wsV RX9 92 RX9 yX9_moveThrows wsX9_moveThrows) := goodIn_app (goodIn_of _ (by decide +kernel)) ggX9_done_X9_moveThrows
set_option maxRecDepth 20000 in
theorem ggX9_done_X9_doPass : GoodIn wsX9_done wsX9_doPass := goodIn_r _ [50, 4, 51, 52, 53, 8, 54, 55, 56, 57, 58, 59, 60, 61, 62, 63, 64, 65, 66, 67, 68, 69, 70, 71, 72, 73, 74, 75, 76, 77, 78, 79, 80, 81, 82, 83, 84, 85, 86, 87, 88, 25, 26, 27, 28, 89, 90, 91, 92, 93, 94, 95, 96, 97, 98, 99, 100, 101, 102, 103, 104, 105, 106, 107, 108, 109, 110, 111, 112, 113, 114, 115, 116, 117, 118, 119, 120, 121, 122, 123, 12, 13, 14, 124, 125, 126, 127, 128, 129, 130, 131, 132, 133, 134, 135, 136, 137, 138, 139, 140, 141, 142, 143, 144, 145, 158, 159, 160, 161, 162, 163, 164, 165, 166, 167, 168, 169, 170] (by decide +kernel) (by decide +kernel)
set_option maxRecDepth 20000 in
theorem gX9_done_X9_doPass : GoodIn wsX9_done (wsV RX9 191 RX9 yX9_doPass wsX9_doPass) := goodIn_app (goodIn_of _ (by decide +kernel)) ggX9_done_X9_doPass
set_option maxRecDepth 20000 in
theorem ggX9_done_X9_doOrder : GoodIn wsX9_done wsX9_doOrder := goodIn_r _ [149, 4, 158, 159, 160, 161, 162, 163, 164, 165, 166, 167, 168, 169, 170] (by decide +kernel) (by decide +kernel)
set_option maxRecDepth 20000 in
theorem gX9_done_X9_doOrder : GoodIn wsX9_done (wsV RX9 212 RX9 yX9_doOrder wsX9_doOrder) := goodIn_app (goodIn_of _ (by decide +kernel)) ggX9_done_X9_doOrder
set_option maxRecDepth 20000 in
theorem ggX9_done_X9_doPay : GoodIn wsX9_done wsX9_doPay := goodIn_r _ [153, 4, 158, 159, 160, 161, 162, 163, 164, 165, 166, 167, 168, 169, 170] (by decide +kernel) (by decide +kernel)
set_option maxRecDepth 20000 in
theorem gX9_done_X9_doPay : GoodIn wsX9_done (wsV RX9 224 RX9 yX9_doPay wsX9_doPay) := goodIn_app (goodIn_of _ (by decide +kernel)) ggX9_done_X9_doPay
set_option maxRecDepth 20000 in
theorem ggX9_done_X9_doMove : GoodIn wsX9_done wsX9_doMove := goodIn_r _ [157, 4, 158, 159, 160, 161, 162, 163, 164, 165, 166, 167, 168, 169, 170] (by decide +kernel) (by decide +kernel)
set_option maxRecDepth 20000 in
theorem gX9_done_X9_doMove : GoodIn wsX9_done (wsV RX9 95 RX9 yX9_doMove wsX9_doMove) := goodIn_app (goodIn_of _ (by decide +kernel)) ggX9_done_X9_doMove
theorem dX9_done_0 : decode cX9_done 0 = .ok (.aload_n 0, 1) := by decide +kernel
theorem dX9_done_1 : decode cX9_done 1 = .ok (.getfield 26, 3) := by decide +kernel
theorem dX9_done_4 : decode cX9_done 4 = .ok (.iconst 0, 1) := by decide +kernel
theorem dX9_done_5 : decode cX9_done 5 = .ok (.iaload, 1) := by decide +kernel
theorem dX9_done_6 : decode cX9_done 6 = .ok (.istore_n 1, 1) := by decide +kernel
theorem dX9_done_7 : decode cX9_done 7 = .ok (.aload_n 0, 1) := by decide +kernel
theorem dX9_done_8 : decode cX9_done 8 = .ok (.getfield 26, 3) := by decide +kernel
theorem dX9_done_11 : decode cX9_done 11 = .ok (.iconst 1, 1) := by decide +kernel
theorem dX9_done_12 : decode cX9_done 12 = .ok (.iaload, 1) := by decide +kernel
theorem dX9_done_13 : decode cX9_done 13 = .ok (.istore_n 2, 1) := by decide +kernel
theorem dX9_done_14 : decode cX9_done 14 = .ok (.aload_n 0, 1) := by decide +kernel
theorem dX9_done_15 : decode cX9_done 15 = .ok (.getfield 249, 3) := by decide +kernel
theorem dX9_done_18 : decode cX9_done 18 = .ok (.bipush 104, 2) := by decide +kernel
theorem dX9_done_20 : decode cX9_done 20 = .ok (.if_icmp .ne 11, 3) := by decide +kernel
theorem dX9_done_23 : decode cX9_done 23 = .ok (.aload_n 0, 1) := by decide +kernel
theorem dX9_done_24 : decode cX9_done 24 = .ok (.iload_n 1, 1) := by decide +kernel
theorem dX9_done_25 : decode cX9_done 25 = .ok (.invokevirtual 188, 3) := by decide +kernel
theorem dX9_done_28 : decode cX9_done 28 = .ok (.goto 69, 3) := by decide +kernel
theorem dX9_done_31 : decode cX9_done 31 = .ok (.aload_n 0, 1) := by decide +kernel
theorem dX9_done_32 : decode cX9_done 32 = .ok (.getfield 249, 3) := by decide +kernel
theorem dX9_done_35 : decode cX9_done 35 = .ok (.bipush 111, 2) := by decide +kernel
theorem dX9_done_37 : decode cX9_done 37 = .ok (.if_icmp .ne 18, 3) := by decide +kernel
theorem dX9_done_40 : decode cX9_done 40 = .ok (.aload_n 0, 1) := by decide +kernel
theorem dX9_done_41 : decode cX9_done 41 = .ok (.iload_n 1, 1) := by decide +kernel
theorem dX9_done_42 : decode cX9_done 42 = .ok (.iload_n 2, 1) := by decide +kernel
theorem dX9_done_43 : decode cX9_done 43 = .ok (.aload_n 0, 1) := by decide +kernel
theorem dX9_done_44 : decode cX9_done 44 = .ok (.getfield 26, 3) := by decide +kernel
theorem dX9_done_47 : decode cX9_done 47 = .ok (.iconst 2, 1) := by decide +kernel
theorem dX9_done_48 : decode cX9_done 48 = .ok (.iaload, 1) := by decide +kernel
theorem dX9_done_49 : decode cX9_done 49 = .ok (.invokevirtual 208, 3) := by decide +kernel
theorem dX9_done_52 : decode cX9_done 52 = .ok (.goto 45, 3) := by decide +kernel
theorem dX9_done_55 : decode cX9_done 55 = .ok (.aload_n 0, 1) := by decide +kernel
theorem dX9_done_56 : decode cX9_done 56 = .ok (.getfield 249, 3) := by decide +kernel
theorem dX9_done_59 : decode cX9_done 59 = .ok (.bipush 99, 2) := by decide +kernel
theorem dX9_done_61 : decode cX9_done 61 = .ok (.if_icmp .ne 12, 3) := by decide +kernel
theorem dX9_done_64 : decode cX9_done 64 = .ok (.aload_n 0, 1) := by decide +kernel
theorem dX9_done_65 : decode cX9_done 65 = .ok (.iload_n 1, 1) := by decide +kernel
theorem dX9_done_66 : decode cX9_done 66 = .ok (.iload_n 2, 1) := by decide +kernel
theorem dX9_done_67 : decode cX9_done 67 = .ok (.invokevirtual 201, 3) := by decide +kernel
theorem dX9_done_70 : decode cX9_done 70 = .ok (.goto 27, 3) := by decide +kernel
theorem dX9_done_73 : decode cX9_done 73 = .ok (.aload_n 0, 1) := by decide +kernel
theorem dX9_done_74 : decode cX9_done 74 = .ok (.getfield 249, 3) := by decide +kernel
theorem dX9_done_77 : decode cX9_done 77 = .ok (.bipush 112, 2) := by decide +kernel
theorem dX9_done_79 : decode cX9_done 79 = .ok (.if_icmp .ne 12, 3) := by decide +kernel
theorem dX9_done_82 : decode cX9_done 82 = .ok (.aload_n 0, 1) := by decide +kernel
theorem dX9_done_83 : decode cX9_done 83 = .ok (.iload_n 1, 1) := by decide +kernel
theorem dX9_done_84 : decode cX9_done 84 = .ok (.iload_n 2, 1) := by decide +kernel
theorem dX9_done_85 : decode cX9_done 85 = .ok (.invokevirtual 221, 3) := by decide +kernel
theorem dX9_done_88 : decode cX9_done 88 = .ok (.goto 9, 3) := by decide +kernel
theorem dX9_done_91 : decode cX9_done 91 = .ok (.aload_n 0, 1) := by decide +kernel
theorem dX9_done_92 : decode cX9_done 92 = .ok (.iload_n 1, 1) := by decide +kernel
theorem dX9_done_93 : decode cX9_done 93 = .ok (.iload_n 2, 1) := by decide +kernel
theorem dX9_done_94 : decode cX9_done 94 = .ok (.invokevirtual 92, 3) := by decide +kernel
theorem dX9_done_97 : decode cX9_done 97 = .ok (.istore_n 3, 1) := by decide +kernel
theorem dX9_done_98 : decode cX9_done 98 = .ok (.iload_n 3, 1) := by decide +kernel
theorem dX9_done_99 : decode cX9_done 99 = .ok (.ifCond .le 5, 3) := by decide +kernel
theorem dX9_done_102 : decode cX9_done 102 = .ok (.iconst 0, 1) := by decide +kernel
theorem dX9_done_103 : decode cX9_done 103 = .ok (.ireturn, 1) := by decide +kernel
theorem dX9_done_104 : decode cX9_done 104 = .ok (.aload_n 0, 1) := by decide +kernel
theorem dX9_done_105 : decode cX9_done 105 = .ok (.getfield 249, 3) := by decide +kernel
theorem dX9_done_108 : decode cX9_done 108 = .ok (.bipush 104, 2) := by decide +kernel
theorem dX9_done_110 : decode cX9_done 110 = .ok (.if_icmp .ne 13, 3) := by decide +kernel
theorem dX9_done_113 : decode cX9_done 113 = .ok (.aload_n 0, 1) := by decide +kernel
theorem dX9_done_114 : decode cX9_done 114 = .ok (.iload_n 1, 1) := by decide +kernel
theorem dX9_done_115 : decode cX9_done 115 = .ok (.invokevirtual 191, 3) := by decide +kernel
theorem dX9_done_118 : decode cX9_done 118 = .ok (.istore 4, 2) := by decide +kernel
theorem dX9_done_120 : decode cX9_done 120 = .ok (.goto 85, 3) := by decide +kernel
theorem dX9_done_123 : decode cX9_done 123 = .ok (.aload_n 0, 1) := by decide +kernel
theorem dX9_done_124 : decode cX9_done 124 = .ok (.getfield 249, 3) := by decide +kernel
theorem dX9_done_127 : decode cX9_done 127 = .ok (.bipush 111, 2) := by decide +kernel
theorem dX9_done_129 : decode cX9_done 129 = .ok (.if_icmp .ne 24, 3) := by decide +kernel
theorem dX9_done_132 : decode cX9_done 132 = .ok (.aload_n 0, 1) := by decide +kernel
theorem dX9_done_133 : decode cX9_done 133 = .ok (.iload_n 1, 1) := by decide +kernel
theorem dX9_done_134 : decode cX9_done 134 = .ok (.iload_n 2, 1) := by decide +kernel
theorem dX9_done_135 : decode cX9_done 135 = .ok (.aload_n 0, 1) := by decide +kernel
theorem dX9_done_136 : decode cX9_done 136 = .ok (.getfield 26, 3) := by decide +kernel
theorem dX9_done_139 : decode cX9_done 139 = .ok (.iconst 2, 1) := by decide +kernel
theorem dX9_done_140 : decode cX9_done 140 = .ok (.iaload, 1) := by decide +kernel
theorem dX9_done_141 : decode cX9_done 141 = .ok (.aload_n 0, 1) := by decide +kernel
theorem dX9_done_142 : decode cX9_done 142 = .ok (.getfield 258, 3) := by decide +kernel
theorem dX9_done_145 : decode cX9_done 145 = .ok (.invokevirtual 212, 3) := by decide +kernel
theorem dX9_done_148 : decode cX9_done 148 = .ok (.istore 4, 2) := by decide +kernel
theorem dX9_done_150 : decode cX9_done 150 = .ok (.goto 55, 3) := by decide +kernel
theorem dX9_done_153 : decode cX9_done 153 = .ok (.aload_n 0, 1) := by decide +kernel
theorem dX9_done_154 : decode cX9_done 154 = .ok (.getfield 249, 3) := by decide +kernel
theorem dX9_done_157 : decode cX9_done 157 = .ok (.bipush 99, 2) := by decide +kernel
theorem dX9_done_159 : decode cX9_done 159 = .ok (.if_icmp .ne 18, 3) := by decide +kernel
theorem dX9_done_162 : decode cX9_done 162 = .ok (.aload_n 0, 1) := by decide +kernel
theorem dX9_done_163 : decode cX9_done 163 = .ok (.getfield 7, 3) := by decide +kernel
theorem dX9_done_166 : decode cX9_done 166 = .ok (.sipush 507, 3) := by decide +kernel
theorem dX9_done_169 : decode cX9_done 169 = .ok (.iload_n 1, 1) := by decide +kernel
theorem dX9_done_170 : decode cX9_done 170 = .ok (.iadd, 1) := by decide +kernel
theorem dX9_done_171 : decode cX9_done 171 = .ok (.iload_n 2, 1) := by decide +kernel
theorem dX9_done_172 : decode cX9_done 172 = .ok (.i2l, 1) := by decide +kernel
theorem dX9_done_173 : decode cX9_done 173 = .ok (.lastore, 1) := by decide +kernel
theorem dX9_done_174 : decode cX9_done 174 = .ok (.goto 31, 3) := by decide +kernel
theorem dX9_done_177 : decode cX9_done 177 = .ok (.aload_n 0, 1) := by decide +kernel
theorem dX9_done_178 : decode cX9_done 178 = .ok (.getfield 249, 3) := by decide +kernel
theorem dX9_done_181 : decode cX9_done 181 = .ok (.bipush 112, 2) := by decide +kernel
theorem dX9_done_183 : decode cX9_done 183 = .ok (.if_icmp .ne 14, 3) := by decide +kernel
theorem dX9_done_186 : decode cX9_done 186 = .ok (.aload_n 0, 1) := by decide +kernel
theorem dX9_done_187 : decode cX9_done 187 = .ok (.iload_n 1, 1) := by decide +kernel
theorem dX9_done_188 : decode cX9_done 188 = .ok (.iload_n 2, 1) := by decide +kernel
theorem dX9_done_189 : decode cX9_done 189 = .ok (.invokevirtual 224, 3) := by decide +kernel
theorem dX9_done_192 : decode cX9_done 192 = .ok (.istore 4, 2) := by decide +kernel
theorem dX9_done_194 : decode cX9_done 194 = .ok (.goto 11, 3) := by decide +kernel
theorem dX9_done_197 : decode cX9_done 197 = .ok (.aload_n 0, 1) := by decide +kernel
theorem dX9_done_198 : decode cX9_done 198 = .ok (.iload_n 1, 1) := by decide +kernel
theorem dX9_done_199 : decode cX9_done 199 = .ok (.iload_n 2, 1) := by decide +kernel
theorem dX9_done_200 : decode cX9_done 200 = .ok (.invokevirtual 95, 3) := by decide +kernel
theorem dX9_done_203 : decode cX9_done 203 = .ok (.istore 4, 2) := by decide +kernel
theorem dX9_done_205 : decode cX9_done 205 = .ok (.iconst 1, 1) := by decide +kernel
theorem dX9_done_206 : decode cX9_done 206 = .ok (.ireturn, 1) := by decide +kernel
set_option maxRecDepth 20000 in
theorem ggX9_execute_X9_error : GoodIn wsX9_execute wsX9_error := goodIn_r _ [9, 3, 2, 4, 10, 11, 12, 8, 13, 14, 15, 16, 17, 18, 19, 20, 21, 22, 23, 24, 25, 26, 27, 28, 29, 30, 194, 195, 196, 197, 198, 199, 200, 201, 202, 203, 204, 205, 206] (by decide +kernel) (by decide +kernel)
set_option maxRecDepth 20000 in
theorem gX9_execute_X9_error : GoodIn wsX9_execute (wsV RX9 274 RX9 yX9_error wsX9_error) := goodIn_app (goodIn_of _ (by decide +kernel)) ggX9_execute_X9_error
set_option maxRecDepth 20000 in
theorem ggX9_execute_X9_refuse : GoodIn wsX9_execute wsX9_refuse := goodIn_r _ [34, 1, 194, 195, 196, 197, 198, 199, 200, 201, 202, 203, 204, 205, 206] (by decide +kernel) (by decide +kernel)
set_option maxRecDepth 20000 in
theorem gX9_execute_X9_refuse : GoodIn wsX9_execute (wsV RX9 60 RX9 yX9_refuse wsX9_refuse) := goodIn_app (goodIn_of _ (by decide +kernel)) ggX9_execute_X9_refuse
set_option maxRecDepth 20000 in
theorem ggX9_execute_X9_save : GoodIn wsX9_execute wsX9_save := goodIn_r _ [38, 39, 40, 41, 194, 195, 196, 197, 198, 199, 200, 201, 202, 203, 204, 205, 206] (by decide +kernel) (by decide +kernel)
set_option maxRecDepth 20000 in
theorem gX9_execute_X9_save : GoodIn wsX9_execute (wsV RX9 66 RX9 yX9_save wsX9_save) := goodIn_app (goodIn_of _ (by decide +kernel)) ggX9_execute_X9_save
set_option maxRecDepth 20000 in
theorem ggX9_execute_X9_readOne : GoodIn wsX9_execute wsX9_readOne := goodIn_r _ [13, 3, 14, 15, 16, 17, 18, 19, 20, 21, 8, 22, 23, 24, 25, 26, 194, 195, 196, 197, 198, 199, 200, 201, 202, 203, 204, 205, 206] (by decide +kernel) (by decide +kernel)
set_option maxRecDepth 20000 in
theorem gX9_execute_X9_readOne : GoodIn wsX9_execute (wsV RX9 267 RX9 yX9_readOne wsX9_readOne) := goodIn_app (goodIn_of _ (by decide +kernel)) ggX9_execute_X9_readOne
set_option maxRecDepth 20000 in
theorem ggX9_execute_X9_done : GoodIn wsX9_execute wsX9_done := goodIn_r _ [45, 19, 3, 16, 41, 46, 47, 48, 8, 49, 17, 50, 20, 21, 22, 51, 52, 53, 54, 55, 56, 57, 58, 59, 60, 61, 62, 63, 64, 65, 66, 67, 68, 69, 70, 71, 72, 73, 74, 75, 76, 77, 78, 79, 80, 81, 82, 83, 84, 85, 86, 87, 88, 89, 90, 91, 92, 93, 94, 95, 96, 97, 98, 99, 100, 101, 102, 103, 104, 105, 106, 107, 108, 109, 110, 111, 112, 113, 114, 115, 116, 117, 118, 119, 120, 121, 122, 123, 124, 125, 126, 127, 128, 129, 130, 131, 132, 133, 134, 135, 136, 137, 138, 139, 140, 141, 142, 143, 144, 145, 146, 147, 148, 149, 150, 151, 152, 153, 154, 155, 156, 157, 158, 159, 160, 161, 162, 163, 164, 165, 166, 167, 168, 169, 170, 171, 172, 173, 174, 175, 176, 177, 178, 179, 180, 181, 182, 183, 184, 185, 186, 187, 188, 189, 190, 191, 192, 193, 194, 195, 196, 197, 198, 199, 200, 201, 202, 203, 204, 205, 206] (by decide +kernel) (by decide +kernel)
set_option maxRecDepth 20000 in
theorem gX9_execute_X9_done : GoodIn wsX9_execute (wsV RX9 277 RX9 yX9_done wsX9_done) := goodIn_app (goodIn_of _ (by decide +kernel)) ggX9_execute_X9_done
theorem dX9_execute_0 : decode cX9_execute 0 = .ok (.aload_n 0, 1) := by decide +kernel
theorem dX9_execute_1 : decode cX9_execute 1 = .ok (.iconst 0, 1) := by decide +kernel
theorem dX9_execute_2 : decode cX9_execute 2 = .ok (.putfield 43, 3) := by decide +kernel
theorem dX9_execute_5 : decode cX9_execute 5 = .ok (.aload_n 0, 1) := by decide +kernel
theorem dX9_execute_6 : decode cX9_execute 6 = .ok (.invokevirtual 274, 3) := by decide +kernel
theorem dX9_execute_9 : decode cX9_execute 9 = .ok (.iconst (-1), 1) := by decide +kernel
theorem dX9_execute_10 : decode cX9_execute 10 = .ok (.if_icmp .eq 9, 3) := by decide +kernel
theorem dX9_execute_13 : decode cX9_execute 13 = .ok (.aload_n 0, 1) := by decide +kernel
theorem dX9_execute_14 : decode cX9_execute 14 = .ok (.iconst 1, 1) := by decide +kernel
theorem dX9_execute_15 : decode cX9_execute 15 = .ok (.invokevirtual 60, 3) := by decide +kernel
theorem dX9_execute_18 : decode cX9_execute 18 = .ok (.ireturn, 1) := by decide +kernel
theorem dX9_execute_19 : decode cX9_execute 19 = .ok (.aload_n 0, 1) := by decide +kernel
theorem dX9_execute_20 : decode cX9_execute 20 = .ok (.invokevirtual 66, 3) := by decide +kernel
theorem dX9_execute_23 : decode cX9_execute 23 = .ok (.iconst 0, 1) := by decide +kernel
theorem dX9_execute_24 : decode cX9_execute 24 = .ok (.istore_n 1, 1) := by decide +kernel
theorem dX9_execute_25 : decode cX9_execute 25 = .ok (.aload_n 0, 1) := by decide +kernel
theorem dX9_execute_26 : decode cX9_execute 26 = .ok (.getfield 246, 3) := by decide +kernel
theorem dX9_execute_29 : decode cX9_execute 29 = .ok (.ifCond .le 7, 3) := by decide +kernel
theorem dX9_execute_32 : decode cX9_execute 32 = .ok (.iconst 1, 1) := by decide +kernel
theorem dX9_execute_33 : decode cX9_execute 33 = .ok (.goto 4, 3) := by decide +kernel
theorem dX9_execute_36 : decode cX9_execute 36 = .ok (.iconst 0, 1) := by decide +kernel
theorem dX9_execute_37 : decode cX9_execute 37 = .ok (.istore_n 2, 1) := by decide +kernel
theorem dX9_execute_38 : decode cX9_execute 38 = .ok (.aload_n 0, 1) := by decide +kernel
theorem dX9_execute_39 : decode cX9_execute 39 = .ok (.iconst 0, 1) := by decide +kernel
theorem dX9_execute_40 : decode cX9_execute 40 = .ok (.putfield 249, 3) := by decide +kernel
theorem dX9_execute_43 : decode cX9_execute 43 = .ok (.iconst 0, 1) := by decide +kernel
theorem dX9_execute_44 : decode cX9_execute 44 = .ok (.istore_n 3, 1) := by decide +kernel
theorem dX9_execute_45 : decode cX9_execute 45 = .ok (.iload_n 3, 1) := by decide +kernel
theorem dX9_execute_46 : decode cX9_execute 46 = .ok (.aload_n 0, 1) := by decide +kernel
theorem dX9_execute_47 : decode cX9_execute 47 = .ok (.getfield 246, 3) := by decide +kernel
theorem dX9_execute_50 : decode cX9_execute 50 = .ok (.if_icmp .ge 68, 3) := by decide +kernel
theorem dX9_execute_53 : decode cX9_execute 53 = .ok (.iload_n 2, 1) := by decide +kernel
theorem dX9_execute_54 : decode cX9_execute 54 = .ok (.ifCond .eq 64, 3) := by decide +kernel
theorem dX9_execute_57 : decode cX9_execute 57 = .ok (.aload_n 0, 1) := by decide +kernel
theorem dX9_execute_58 : decode cX9_execute 58 = .ok (.aload_n 0, 1) := by decide +kernel
theorem dX9_execute_59 : decode cX9_execute 59 = .ok (.getfield 23, 3) := by decide +kernel
theorem dX9_execute_62 : decode cX9_execute 62 = .ok (.iload_n 3, 1) := by decide +kernel
theorem dX9_execute_63 : decode cX9_execute 63 = .ok (.iaload, 1) := by decide +kernel
theorem dX9_execute_64 : decode cX9_execute 64 = .ok (.invokevirtual 267, 3) := by decide +kernel
theorem dX9_execute_67 : decode cX9_execute 67 = .ok (.istore 4, 2) := by decide +kernel
theorem dX9_execute_69 : decode cX9_execute 69 = .ok (.aload_n 0, 1) := by decide +kernel
theorem dX9_execute_70 : decode cX9_execute 70 = .ok (.getfield 23, 3) := by decide +kernel
theorem dX9_execute_73 : decode cX9_execute 73 = .ok (.iload_n 3, 1) := by decide +kernel
theorem dX9_execute_74 : decode cX9_execute 74 = .ok (.iaload, 1) := by decide +kernel
theorem dX9_execute_75 : decode cX9_execute 75 = .ok (.bipush 59, 2) := by decide +kernel
theorem dX9_execute_77 : decode cX9_execute 77 = .ok (.if_icmp .eq 13, 3) := by decide +kernel
theorem dX9_execute_80 : decode cX9_execute 80 = .ok (.iload_n 3, 1) := by decide +kernel
theorem dX9_execute_81 : decode cX9_execute 81 = .ok (.aload_n 0, 1) := by decide +kernel
theorem dX9_execute_82 : decode cX9_execute 82 = .ok (.getfield 246, 3) := by decide +kernel
theorem dX9_execute_85 : decode cX9_execute 85 = .ok (.iconst 1, 1) := by decide +kernel
theorem dX9_execute_86 : decode cX9_execute 86 = .ok (.isub, 1) := by decide +kernel
theorem dX9_execute_87 : decode cX9_execute 87 = .ok (.if_icmp .ne 25, 3) := by decide +kernel
theorem dX9_execute_90 : decode cX9_execute 90 = .ok (.aload_n 0, 1) := by decide +kernel
theorem dX9_execute_91 : decode cX9_execute 91 = .ok (.invokevirtual 277, 3) := by decide +kernel
theorem dX9_execute_94 : decode cX9_execute 94 = .ok (.istore_n 2, 1) := by decide +kernel
theorem dX9_execute_95 : decode cX9_execute 95 = .ok (.iload_n 1, 1) := by decide +kernel
theorem dX9_execute_96 : decode cX9_execute 96 = .ok (.iload_n 2, 1) := by decide +kernel
theorem dX9_execute_97 : decode cX9_execute 97 = .ok (.ifCond .eq 7, 3) := by decide +kernel
theorem dX9_execute_100 : decode cX9_execute 100 = .ok (.iconst 1, 1) := by decide +kernel
theorem dX9_execute_101 : decode cX9_execute 101 = .ok (.goto 4, 3) := by decide +kernel
theorem dX9_execute_104 : decode cX9_execute 104 = .ok (.iconst 0, 1) := by decide +kernel
theorem dX9_execute_105 : decode cX9_execute 105 = .ok (.iadd, 1) := by decide +kernel
theorem dX9_execute_106 : decode cX9_execute 106 = .ok (.istore_n 1, 1) := by decide +kernel
theorem dX9_execute_107 : decode cX9_execute 107 = .ok (.aload_n 0, 1) := by decide +kernel
theorem dX9_execute_108 : decode cX9_execute 108 = .ok (.iconst 0, 1) := by decide +kernel
theorem dX9_execute_109 : decode cX9_execute 109 = .ok (.putfield 249, 3) := by decide +kernel
theorem dX9_execute_112 : decode cX9_execute 112 = .ok (.iinc 3 1, 3) := by decide +kernel
theorem dX9_execute_115 : decode cX9_execute 115 = .ok (.goto (-70), 3) := by decide +kernel
theorem dX9_execute_118 : decode cX9_execute 118 = .ok (.aload_n 0, 1) := by decide +kernel
theorem dX9_execute_119 : decode cX9_execute 119 = .ok (.iconst 0, 1) := by decide +kernel
theorem dX9_execute_120 : decode cX9_execute 120 = .ok (.putfield 246, 3) := by decide +kernel
theorem dX9_execute_123 : decode cX9_execute 123 = .ok (.iload_n 1, 1) := by decide +kernel
theorem dX9_execute_124 : decode cX9_execute 124 = .ok (.ireturn, 1) := by decide +kernel
set_option maxRecDepth 20000 in
theorem ggX9_undo_X9_refuse : GoodIn wsX9_undo wsX9_refuse := goodIn_r _ [9, 1, 10, 11, 12, 13, 14, 15, 16, 17, 18, 19, 20, 21, 22] (by decide +kernel) (by decide +kernel)
set_option maxRecDepth 20000 in
theorem gX9_undo_X9_refuse : GoodIn wsX9_undo (wsV RX9 60 RX9 yX9_refuse wsX9_refuse) := goodIn_app (goodIn_of _ (by decide +kernel)) ggX9_undo_X9_refuse
theorem dX9_undo_0 : decode cX9_undo 0 = .ok (.aload_n 0, 1) := by decide +kernel
theorem dX9_undo_1 : decode cX9_undo 1 = .ok (.iconst 0, 1) := by decide +kernel
theorem dX9_undo_2 : decode cX9_undo 2 = .ok (.putfield 43, 3) := by decide +kernel
theorem dX9_undo_5 : decode cX9_undo 5 = .ok (.aload_n 0, 1) := by decide +kernel
theorem dX9_undo_6 : decode cX9_undo 6 = .ok (.getfield 51, 3) := by decide +kernel
theorem dX9_undo_9 : decode cX9_undo 9 = .ok (.ifCond .ne 9, 3) := by decide +kernel
theorem dX9_undo_12 : decode cX9_undo 12 = .ok (.aload_n 0, 1) := by decide +kernel
theorem dX9_undo_13 : decode cX9_undo 13 = .ok (.iconst 1, 1) := by decide +kernel
theorem dX9_undo_14 : decode cX9_undo 14 = .ok (.invokevirtual 60, 3) := by decide +kernel
theorem dX9_undo_17 : decode cX9_undo 17 = .ok (.ireturn, 1) := by decide +kernel
theorem dX9_undo_18 : decode cX9_undo 18 = .ok (.aload_n 0, 1) := by decide +kernel
theorem dX9_undo_19 : decode cX9_undo 19 = .ok (.dup, 1) := by decide +kernel
theorem dX9_undo_20 : decode cX9_undo 20 = .ok (.getfield 51, 3) := by decide +kernel
theorem dX9_undo_23 : decode cX9_undo 23 = .ok (.iconst 1, 1) := by decide +kernel
theorem dX9_undo_24 : decode cX9_undo 24 = .ok (.isub, 1) := by decide +kernel
theorem dX9_undo_25 : decode cX9_undo 25 = .ok (.putfield 51, 3) := by decide +kernel
theorem dX9_undo_28 : decode cX9_undo 28 = .ok (.iconst 0, 1) := by decide +kernel
theorem dX9_undo_29 : decode cX9_undo 29 = .ok (.istore_n 1, 1) := by decide +kernel
theorem dX9_undo_30 : decode cX9_undo 30 = .ok (.iload_n 1, 1) := by decide +kernel
theorem dX9_undo_31 : decode cX9_undo 31 = .ok (.sipush 1888, 3) := by decide +kernel
theorem dX9_undo_34 : decode cX9_undo 34 = .ok (.if_icmp .ge 30, 3) := by decide +kernel
theorem dX9_undo_37 : decode cX9_undo 37 = .ok (.aload_n 0, 1) := by decide +kernel
theorem dX9_undo_38 : decode cX9_undo 38 = .ok (.getfield 7, 3) := by decide +kernel
theorem dX9_undo_41 : decode cX9_undo 41 = .ok (.iload_n 1, 1) := by decide +kernel
theorem dX9_undo_42 : decode cX9_undo 42 = .ok (.aload_n 0, 1) := by decide +kernel
theorem dX9_undo_43 : decode cX9_undo 43 = .ok (.getfield 13, 3) := by decide +kernel
theorem dX9_undo_46 : decode cX9_undo 46 = .ok (.aload_n 0, 1) := by decide +kernel
theorem dX9_undo_47 : decode cX9_undo 47 = .ok (.getfield 51, 3) := by decide +kernel
theorem dX9_undo_50 : decode cX9_undo 50 = .ok (.sipush 1888, 3) := by decide +kernel
theorem dX9_undo_53 : decode cX9_undo 53 = .ok (.imul, 1) := by decide +kernel
theorem dX9_undo_54 : decode cX9_undo 54 = .ok (.iload_n 1, 1) := by decide +kernel
theorem dX9_undo_55 : decode cX9_undo 55 = .ok (.iadd, 1) := by decide +kernel
theorem dX9_undo_56 : decode cX9_undo 56 = .ok (.laload, 1) := by decide +kernel
theorem dX9_undo_57 : decode cX9_undo 57 = .ok (.lastore, 1) := by decide +kernel
theorem dX9_undo_58 : decode cX9_undo 58 = .ok (.iinc 1 1, 3) := by decide +kernel
theorem dX9_undo_61 : decode cX9_undo 61 = .ok (.goto (-31), 3) := by decide +kernel
theorem dX9_undo_64 : decode cX9_undo 64 = .ok (.aload_n 0, 1) := by decide +kernel
theorem dX9_undo_65 : decode cX9_undo 65 = .ok (.getfield 51, 3) := by decide +kernel
theorem dX9_undo_68 : decode cX9_undo 68 = .ok (.ireturn, 1) := by decide +kernel
theorem dJ9_min_7cf53_0 : decode cJ9_min_7cf53 0 = .ok (.iload_n 0, 1) := by decide +kernel
theorem dJ9_min_7cf53_1 : decode cJ9_min_7cf53 1 = .ok (.iload_n 1, 1) := by decide +kernel
theorem dJ9_min_7cf53_2 : decode cJ9_min_7cf53 2 = .ok (.if_icmp .gt 7, 3) := by decide +kernel
theorem dJ9_min_7cf53_5 : decode cJ9_min_7cf53 5 = .ok (.iload_n 0, 1) := by decide +kernel
theorem dJ9_min_7cf53_6 : decode cJ9_min_7cf53 6 = .ok (.goto 4, 3) := by decide +kernel
theorem dJ9_min_7cf53_9 : decode cJ9_min_7cf53 9 = .ok (.iload_n 1, 1) := by decide +kernel
theorem dJ9_min_7cf53_10 : decode cJ9_min_7cf53 10 = .ok (.ireturn, 1) := by decide +kernel
set_option maxRecDepth 20000 in
theorem ggL_addSilo_X8_addSilo : GoodIn wsL_addSilo wsX8_addSilo := goodIn_ca (goodIn_ca (goodIn_ca (goodIn_r _ [7, 8, 9, 10, 11, 12, 13, 6, 14, 15, 16, 17, 18, 19, 20, 21, 22, 23, 24, 25, 26, 27, 28, 29, 30, 31, 32, 33, 34, 35, 36, 37, 38, 39, 40, 41, 42, 43, 44, 45, 46, 47, 48, 49, 50, 51, 52, 53, 54, 55, 56, 57, 58, 59, 60, 61, 62, 63, 64, 65, 66, 67, 68, 69, 70, 71, 72, 73, 74, 75, 76, 77, 78, 79, 80, 81, 82, 83, 84, 85, 86, 87, 88, 89, 90, 91, 92, 93, 94, 95, 96, 97, 98, 99, 100, 101, 102, 103, 104, 105, 106, 107, 108, 109, 110, 111, 112, 113, 114, 115, 116, 117, 118, 119, 120, 121, 122, 123, 124, 125, 126, 127, 128, 129, 130, 131, 132, 133, 134, 135, 136, 137, 138, 139, 140, 141, 142, 143, 144, 145, 146, 147, 148, 149, 150, 151, 152, 153, 154, 155, 156, 157, 158, 159, 160, 161, 162, 163, 164, 165, 166, 167, 168, 169, 170, 171, 172, 173, 174, 175, 176, 177, 178, 179, 180, 181, 182, 183, 184, 185, 186, 187] (by decide +kernel) (by decide +kernel)) (goodIn_sub (fun _ h => List.mem_cons_of_mem _ (List.mem_append_left _ (List.mem_append_left _ (List.mem_append_right _ h)))) (by decide +kernel))) (goodIn_sub (fun _ h => List.mem_cons_of_mem _ (List.mem_append_left _ (List.mem_append_right _ h))) (by decide +kernel))) (goodIn_sub (fun _ h => List.mem_cons_of_mem _ (List.mem_append_right _ h)) (by decide +kernel))
set_option maxRecDepth 20000 in
theorem gL_addSilo_X8_addSilo : GoodIn wsL_addSilo (wsV RL 7 RX8 yX8_addSilo wsX8_addSilo) := goodIn_app (goodIn_of _ (by decide +kernel)) ggL_addSilo_X8_addSilo
