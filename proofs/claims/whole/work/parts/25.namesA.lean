theorem dX9_hour_0 : decode cX9_hour 0 = .ok (.aload_n 0, 1) := by decide +kernel
theorem dX9_hour_1 : decode cX9_hour 1 = .ok (.invokevirtual 169, 3) := by decide +kernel
theorem dX9_hour_4 : decode cX9_hour 4 = .ok (.aload_n 0, 1) := by decide +kernel
theorem dX9_hour_5 : decode cX9_hour 5 = .ok (.invokevirtual 172, 3) := by decide +kernel
theorem dX9_hour_8 : decode cX9_hour 8 = .ok (.aload_n 0, 1) := by decide +kernel
theorem dX9_hour_9 : decode cX9_hour 9 = .ok (.invokevirtual 175, 3) := by decide +kernel
theorem dX9_hour_12 : decode cX9_hour 12 = .ok (.aload_n 0, 1) := by decide +kernel
theorem dX9_hour_13 : decode cX9_hour 13 = .ok (.invokevirtual 178, 3) := by decide +kernel
theorem dX9_hour_16 : decode cX9_hour 16 = .ok (.iconst 0, 1) := by decide +kernel
theorem dX9_hour_17 : decode cX9_hour 17 = .ok (.istore_n 1, 1) := by decide +kernel
theorem dX9_hour_18 : decode cX9_hour 18 = .ok (.iload_n 1, 1) := by decide +kernel
theorem dX9_hour_19 : decode cX9_hour 19 = .ok (.i2l, 1) := by decide +kernel
theorem dX9_hour_20 : decode cX9_hour 20 = .ok (.aload_n 0, 1) := by decide +kernel
theorem dX9_hour_21 : decode cX9_hour 21 = .ok (.getfield 7, 3) := by decide +kernel
theorem dX9_hour_24 : decode cX9_hour 24 = .ok (.sipush 1880, 3) := by decide +kernel
theorem dX9_hour_27 : decode cX9_hour 27 = .ok (.laload, 1) := by decide +kernel
theorem dX9_hour_28 : decode cX9_hour 28 = .ok (.lcmp, 1) := by decide +kernel
theorem dX9_hour_29 : decode cX9_hour 29 = .ok (.ifCond .ge 51, 3) := by decide +kernel
theorem dX9_hour_32 : decode cX9_hour 32 = .ok (.iconst 0, 1) := by decide +kernel
theorem dX9_hour_33 : decode cX9_hour 33 = .ok (.istore_n 2, 1) := by decide +kernel
theorem dX9_hour_34 : decode cX9_hour 34 = .ok (.iload_n 2, 1) := by decide +kernel
theorem dX9_hour_35 : decode cX9_hour 35 = .ok (.i2l, 1) := by decide +kernel
theorem dX9_hour_36 : decode cX9_hour 36 = .ok (.aload_n 0, 1) := by decide +kernel
theorem dX9_hour_37 : decode cX9_hour 37 = .ok (.getfield 7, 3) := by decide +kernel
theorem dX9_hour_40 : decode cX9_hour 40 = .ok (.bipush 47, 2) := by decide +kernel
theorem dX9_hour_42 : decode cX9_hour 42 = .ok (.iload_n 1, 1) := by decide +kernel
theorem dX9_hour_43 : decode cX9_hour 43 = .ok (.iadd, 1) := by decide +kernel
theorem dX9_hour_44 : decode cX9_hour 44 = .ok (.laload, 1) := by decide +kernel
theorem dX9_hour_45 : decode cX9_hour 45 = .ok (.lcmp, 1) := by decide +kernel
theorem dX9_hour_46 : decode cX9_hour 46 = .ok (.ifCond .ge 28, 3) := by decide +kernel
theorem dX9_hour_49 : decode cX9_hour 49 = .ok (.aload_n 0, 1) := by decide +kernel
theorem dX9_hour_50 : decode cX9_hour 50 = .ok (.getfield 7, 3) := by decide +kernel
theorem dX9_hour_53 : decode cX9_hour 53 = .ok (.sipush 357, 3) := by decide +kernel
theorem dX9_hour_56 : decode cX9_hour 56 = .ok (.bipush 30, 2) := by decide +kernel
theorem dX9_hour_58 : decode cX9_hour 58 = .ok (.iload_n 1, 1) := by decide +kernel
theorem dX9_hour_59 : decode cX9_hour 59 = .ok (.imul, 1) := by decide +kernel
theorem dX9_hour_60 : decode cX9_hour 60 = .ok (.iadd, 1) := by decide +kernel
theorem dX9_hour_61 : decode cX9_hour 61 = .ok (.iload_n 2, 1) := by decide +kernel
theorem dX9_hour_62 : decode cX9_hour 62 = .ok (.iadd, 1) := by decide +kernel
theorem dX9_hour_63 : decode cX9_hour 63 = .ok (.dup2, 1) := by decide +kernel
theorem dX9_hour_64 : decode cX9_hour 64 = .ok (.laload, 1) := by decide +kernel
theorem dX9_hour_65 : decode cX9_hour 65 = .ok (.lconst 1, 1) := by decide +kernel
theorem dX9_hour_66 : decode cX9_hour 66 = .ok (.ladd, 1) := by decide +kernel
theorem dX9_hour_67 : decode cX9_hour 67 = .ok (.lastore, 1) := by decide +kernel
theorem dX9_hour_68 : decode cX9_hour 68 = .ok (.iinc 2 1, 3) := by decide +kernel
theorem dX9_hour_71 : decode cX9_hour 71 = .ok (.goto (-37), 3) := by decide +kernel
theorem dX9_hour_74 : decode cX9_hour 74 = .ok (.iinc 1 1, 3) := by decide +kernel
theorem dX9_hour_77 : decode cX9_hour 77 = .ok (.goto (-59), 3) := by decide +kernel
theorem dX9_hour_80 : decode cX9_hour 80 = .ok (.aload_n 0, 1) := by decide +kernel
theorem dX9_hour_81 : decode cX9_hour 81 = .ok (.getfield 7, 3) := by decide +kernel
theorem dX9_hour_84 : decode cX9_hour 84 = .ok (.sipush 1875, 3) := by decide +kernel
theorem dX9_hour_87 : decode cX9_hour 87 = .ok (.dup2, 1) := by decide +kernel
theorem dX9_hour_88 : decode cX9_hour 88 = .ok (.laload, 1) := by decide +kernel
theorem dX9_hour_89 : decode cX9_hour 89 = .ok (.lconst 1, 1) := by decide +kernel
theorem dX9_hour_90 : decode cX9_hour 90 = .ok (.ladd, 1) := by decide +kernel
theorem dX9_hour_91 : decode cX9_hour 91 = .ok (.lastore, 1) := by decide +kernel
theorem dX9_hour_92 : decode cX9_hour 92 = .ok (.return_, 1) := by decide +kernel
set_option maxRecDepth 20000 in
theorem ggX9_passThrows_X9_in : GoodIn wsX9_passThrows wsX9_in := goodIn_r _ [7] (by decide +kernel) (by decide +kernel)
set_option maxRecDepth 20000 in
theorem gX9_passThrows_X9_in : GoodIn wsX9_passThrows (va_wsS RX9 47 yX9_in wsX9_in) := goodIn_app (goodIn_of _ (by decide +kernel)) ggX9_passThrows_X9_in
theorem dX9_passThrows_0 : decode cX9_passThrows 0 = .ok (.iload_n 1, 1) := by decide +kernel
theorem dX9_passThrows_1 : decode cX9_passThrows 1 = .ok (.i2l, 1) := by decide +kernel
theorem dX9_passThrows_2 : decode cX9_passThrows 2 = .ok (.lconst 1, 1) := by decide +kernel
theorem dX9_passThrows_3 : decode cX9_passThrows 3 = .ok (.ldc2_w 181, 3) := by decide +kernel
theorem dX9_passThrows_6 : decode cX9_passThrows 6 = .ok (.invokestatic 47, 3) := by decide +kernel
theorem dX9_passThrows_9 : decode cX9_passThrows 9 = .ok (.ifCond .ne 7, 3) := by decide +kernel
theorem dX9_passThrows_12 : decode cX9_passThrows 12 = .ok (.iconst 1, 1) := by decide +kernel
theorem dX9_passThrows_13 : decode cX9_passThrows 13 = .ok (.goto 26, 3) := by decide +kernel
theorem dX9_passThrows_16 : decode cX9_passThrows 16 = .ok (.aload_n 0, 1) := by decide +kernel
theorem dX9_passThrows_17 : decode cX9_passThrows 17 = .ok (.getfield 7, 3) := by decide +kernel
theorem dX9_passThrows_20 : decode cX9_passThrows 20 = .ok (.sipush 1875, 3) := by decide +kernel
theorem dX9_passThrows_23 : decode cX9_passThrows 23 = .ok (.laload, 1) := by decide +kernel
theorem dX9_passThrows_24 : decode cX9_passThrows 24 = .ok (.iload_n 1, 1) := by decide +kernel
theorem dX9_passThrows_25 : decode cX9_passThrows 25 = .ok (.i2l, 1) := by decide +kernel
theorem dX9_passThrows_26 : decode cX9_passThrows 26 = .ok (.ladd, 1) := by decide +kernel
theorem dX9_passThrows_27 : decode cX9_passThrows 27 = .ok (.ldc2_w 183, 3) := by decide +kernel
theorem dX9_passThrows_30 : decode cX9_passThrows 30 = .ok (.lcmp, 1) := by decide +kernel
theorem dX9_passThrows_31 : decode cX9_passThrows 31 = .ok (.ifCond .le 7, 3) := by decide +kernel
theorem dX9_passThrows_34 : decode cX9_passThrows 34 = .ok (.iconst 2, 1) := by decide +kernel
theorem dX9_passThrows_35 : decode cX9_passThrows 35 = .ok (.goto 4, 3) := by decide +kernel
theorem dX9_passThrows_38 : decode cX9_passThrows 38 = .ok (.iconst 0, 1) := by decide +kernel
theorem dX9_passThrows_39 : decode cX9_passThrows 39 = .ok (.ireturn, 1) := by decide +kernel
set_option maxRecDepth 20000 in
theorem ggX9_doPass_X9_hour : GoodIn wsX9_doPass wsX9_hour := goodIn_r _ [6, 1, 7, 8, 9, 5, 10, 11, 12, 13, 14, 15, 16, 17, 18, 19, 20, 21, 22, 23, 24, 25, 26, 27, 28, 29, 30, 31, 32, 33, 34, 35, 36, 37, 38, 39, 40, 41, 42, 43, 44, 45, 46, 47, 48, 49, 50, 51, 52, 53, 54, 55, 56, 57, 58, 59, 60, 61, 62, 63, 64, 65, 66, 67, 68, 69, 70, 71, 72, 73, 74, 75, 76, 77, 78, 79, 80, 81, 82, 83, 84, 85, 86, 87, 88, 89, 90, 91, 92, 93, 94, 95, 96, 97, 98, 99, 100, 101, 102, 103, 104, 105, 106, 107, 108, 109, 110, 111, 112, 113, 114, 115, 116, 117] (by decide +kernel) (by decide +kernel)
set_option maxRecDepth 20000 in
theorem gX9_doPass_X9_hour : GoodIn wsX9_doPass (wsV RX9 185 RX9 yX9_hour wsX9_hour) := goodIn_app (goodIn_of _ (by decide +kernel)) ggX9_doPass_X9_hour
theorem dX9_doPass_0 : decode cX9_doPass 0 = .ok (.aload_n 0, 1) := by decide +kernel
theorem dX9_doPass_1 : decode cX9_doPass 1 = .ok (.getfield 7, 3) := by decide +kernel
theorem dX9_doPass_4 : decode cX9_doPass 4 = .ok (.sipush 1877, 3) := by decide +kernel
theorem dX9_doPass_7 : decode cX9_doPass 7 = .ok (.laload, 1) := by decide +kernel
theorem dX9_doPass_8 : decode cX9_doPass 8 = .ok (.lstore_n 2, 1) := by decide +kernel
theorem dX9_doPass_9 : decode cX9_doPass 9 = .ok (.iconst 0, 1) := by decide +kernel
theorem dX9_doPass_10 : decode cX9_doPass 10 = .ok (.istore 4, 2) := by decide +kernel
theorem dX9_doPass_12 : decode cX9_doPass 12 = .ok (.iload 4, 2) := by decide +kernel
theorem dX9_doPass_14 : decode cX9_doPass 14 = .ok (.iload_n 1, 1) := by decide +kernel
theorem dX9_doPass_15 : decode cX9_doPass 15 = .ok (.if_icmp .ge 13, 3) := by decide +kernel
theorem dX9_doPass_18 : decode cX9_doPass 18 = .ok (.aload_n 0, 1) := by decide +kernel
theorem dX9_doPass_19 : decode cX9_doPass 19 = .ok (.invokevirtual 185, 3) := by decide +kernel
theorem dX9_doPass_22 : decode cX9_doPass 22 = .ok (.iinc 4 1, 3) := by decide +kernel
theorem dX9_doPass_25 : decode cX9_doPass 25 = .ok (.goto (-13), 3) := by decide +kernel
theorem dX9_doPass_28 : decode cX9_doPass 28 = .ok (.aload_n 0, 1) := by decide +kernel
theorem dX9_doPass_29 : decode cX9_doPass 29 = .ok (.getfield 7, 3) := by decide +kernel
theorem dX9_doPass_32 : decode cX9_doPass 32 = .ok (.sipush 1877, 3) := by decide +kernel
theorem dX9_doPass_35 : decode cX9_doPass 35 = .ok (.laload, 1) := by decide +kernel
theorem dX9_doPass_36 : decode cX9_doPass 36 = .ok (.lload_n 2, 1) := by decide +kernel
theorem dX9_doPass_37 : decode cX9_doPass 37 = .ok (.lsub, 1) := by decide +kernel
theorem dX9_doPass_38 : decode cX9_doPass 38 = .ok (.l2i, 1) := by decide +kernel
theorem dX9_doPass_39 : decode cX9_doPass 39 = .ok (.ireturn, 1) := by decide +kernel
set_option maxRecDepth 20000 in
theorem ggX9_pass_X9_passThrows : GoodIn wsX9_pass wsX9_passThrows := goodIn_r _ [6, 7, 8, 9, 10, 11, 5, 12, 126, 127, 128, 129, 130, 131, 132, 133, 134, 135, 136, 137, 138] (by decide +kernel) (by decide +kernel)
set_option maxRecDepth 20000 in
theorem gX9_pass_X9_passThrows : GoodIn wsX9_pass (wsV RX9 188 RX9 yX9_passThrows wsX9_passThrows) := goodIn_app (goodIn_of _ (by decide +kernel)) ggX9_pass_X9_passThrows
set_option maxRecDepth 20000 in
theorem ggX9_pass_X9_refuse : GoodIn wsX9_pass wsX9_refuse := goodIn_r _ [16, 1, 126, 127, 128, 129, 130, 131, 132, 133, 134, 135, 136, 137, 138] (by decide +kernel) (by decide +kernel)
set_option maxRecDepth 20000 in
theorem gX9_pass_X9_refuse : GoodIn wsX9_pass (wsV RX9 60 RX9 yX9_refuse wsX9_refuse) := goodIn_app (goodIn_of _ (by decide +kernel)) ggX9_pass_X9_refuse
set_option maxRecDepth 20000 in
theorem ggX9_pass_X9_save : GoodIn wsX9_pass wsX9_save := goodIn_r _ [20, 21, 22, 8, 126, 127, 128, 129, 130, 131, 132, 133, 134, 135, 136, 137, 138] (by decide +kernel) (by decide +kernel)
set_option maxRecDepth 20000 in
theorem gX9_pass_X9_save : GoodIn wsX9_pass (wsV RX9 66 RX9 yX9_save wsX9_save) := goodIn_app (goodIn_of _ (by decide +kernel)) ggX9_pass_X9_save
set_option maxRecDepth 20000 in
theorem ggX9_pass_X9_doPass : GoodIn wsX9_pass wsX9_doPass := goodIn_r _ [26, 8, 27, 28, 29, 5, 30, 31, 32, 33, 34, 35, 36, 37, 38, 39, 40, 41, 42, 43, 44, 45, 46, 47, 48, 49, 50, 51, 52, 53, 54, 55, 56, 57, 58, 59, 60, 61, 62, 63, 64, 65, 66, 67, 68, 69, 70, 71, 72, 73, 74, 75, 76, 77, 78, 79, 80, 81, 82, 83, 84, 85, 86, 87, 88, 89, 90, 91, 92, 93, 94, 95, 96, 97, 98, 99, 100, 101, 102, 103, 10, 11, 12, 104, 105, 106, 107, 108, 109, 110, 111, 112, 113, 114, 115, 116, 117, 118, 119, 120, 121, 122, 123, 124, 125, 126, 127, 128, 129, 130, 131, 132, 133, 134, 135, 136, 137, 138] (by decide +kernel) (by decide +kernel)
set_option maxRecDepth 20000 in
theorem gX9_pass_X9_doPass : GoodIn wsX9_pass (wsV RX9 191 RX9 yX9_doPass wsX9_doPass) := goodIn_app (goodIn_of _ (by decide +kernel)) ggX9_pass_X9_doPass
theorem dX9_pass_0 : decode cX9_pass 0 = .ok (.aload_n 0, 1) := by decide +kernel
theorem dX9_pass_1 : decode cX9_pass 1 = .ok (.iconst 0, 1) := by decide +kernel
theorem dX9_pass_2 : decode cX9_pass 2 = .ok (.putfield 43, 3) := by decide +kernel
theorem dX9_pass_5 : decode cX9_pass 5 = .ok (.aload_n 0, 1) := by decide +kernel
theorem dX9_pass_6 : decode cX9_pass 6 = .ok (.iload_n 1, 1) := by decide +kernel
theorem dX9_pass_7 : decode cX9_pass 7 = .ok (.invokevirtual 188, 3) := by decide +kernel
theorem dX9_pass_10 : decode cX9_pass 10 = .ok (.istore_n 2, 1) := by decide +kernel
theorem dX9_pass_11 : decode cX9_pass 11 = .ok (.iload_n 2, 1) := by decide +kernel
theorem dX9_pass_12 : decode cX9_pass 12 = .ok (.ifCond .le 9, 3) := by decide +kernel
theorem dX9_pass_15 : decode cX9_pass 15 = .ok (.aload_n 0, 1) := by decide +kernel
theorem dX9_pass_16 : decode cX9_pass 16 = .ok (.iload_n 2, 1) := by decide +kernel
theorem dX9_pass_17 : decode cX9_pass 17 = .ok (.invokevirtual 60, 3) := by decide +kernel
theorem dX9_pass_20 : decode cX9_pass 20 = .ok (.ireturn, 1) := by decide +kernel
theorem dX9_pass_21 : decode cX9_pass 21 = .ok (.aload_n 0, 1) := by decide +kernel
theorem dX9_pass_22 : decode cX9_pass 22 = .ok (.invokevirtual 66, 3) := by decide +kernel
theorem dX9_pass_25 : decode cX9_pass 25 = .ok (.aload_n 0, 1) := by decide +kernel
theorem dX9_pass_26 : decode cX9_pass 26 = .ok (.iload_n 1, 1) := by decide +kernel
theorem dX9_pass_27 : decode cX9_pass 27 = .ok (.invokevirtual 191, 3) := by decide +kernel
theorem dX9_pass_30 : decode cX9_pass 30 = .ok (.ireturn, 1) := by decide +kernel
set_option maxRecDepth 20000 in
theorem ggX9_addBoat_X9_in : GoodIn wsX9_addBoat wsX9_in := goodIn_r _ [8] (by decide +kernel) (by decide +kernel)
set_option maxRecDepth 20000 in
theorem gX9_addBoat_X9_in : GoodIn wsX9_addBoat (va_wsS RX9 47 yX9_in wsX9_in) := goodIn_app (goodIn_of _ (by decide +kernel)) ggX9_addBoat_X9_in
set_option maxRecDepth 20000 in
theorem ggX9_addBoat_X9_refuse : GoodIn wsX9_addBoat wsX9_refuse := goodIn_r _ [12, 1, 19, 20, 21, 22, 23, 24, 25, 26, 27, 28, 29, 30, 31] (by decide +kernel) (by decide +kernel)
set_option maxRecDepth 20000 in
theorem gX9_addBoat_X9_refuse : GoodIn wsX9_addBoat (wsV RX9 60 RX9 yX9_refuse wsX9_refuse) := goodIn_app (goodIn_of _ (by decide +kernel)) ggX9_addBoat_X9_refuse
set_option maxRecDepth 20000 in
theorem ggX9_addBoat_X9_save : GoodIn wsX9_addBoat wsX9_save := goodIn_r _ [16, 17, 18, 3, 19, 20, 21, 22, 23, 24, 25, 26, 27, 28, 29, 30, 31] (by decide +kernel) (by decide +kernel)
set_option maxRecDepth 20000 in
theorem gX9_addBoat_X9_save : GoodIn wsX9_addBoat (wsV RX9 66 RX9 yX9_save wsX9_save) := goodIn_app (goodIn_of _ (by decide +kernel)) ggX9_addBoat_X9_save
theorem dX9_addBoat_0 : decode cX9_addBoat 0 = .ok (.aload_n 0, 1) := by decide +kernel
theorem dX9_addBoat_1 : decode cX9_addBoat 1 = .ok (.iconst 0, 1) := by decide +kernel
theorem dX9_addBoat_2 : decode cX9_addBoat 2 = .ok (.putfield 43, 3) := by decide +kernel
theorem dX9_addBoat_5 : decode cX9_addBoat 5 = .ok (.iload_n 1, 1) := by decide +kernel
theorem dX9_addBoat_6 : decode cX9_addBoat 6 = .ok (.i2l, 1) := by decide +kernel
theorem dX9_addBoat_7 : decode cX9_addBoat 7 = .ok (.lconst 0, 1) := by decide +kernel
theorem dX9_addBoat_8 : decode cX9_addBoat 8 = .ok (.ldc2_w 194, 3) := by decide +kernel
theorem dX9_addBoat_11 : decode cX9_addBoat 11 = .ok (.invokestatic 47, 3) := by decide +kernel
theorem dX9_addBoat_14 : decode cX9_addBoat 14 = .ok (.ifCond .ne 9, 3) := by decide +kernel
theorem dX9_addBoat_17 : decode cX9_addBoat 17 = .ok (.aload_n 0, 1) := by decide +kernel
theorem dX9_addBoat_18 : decode cX9_addBoat 18 = .ok (.iconst 1, 1) := by decide +kernel
theorem dX9_addBoat_19 : decode cX9_addBoat 19 = .ok (.invokevirtual 60, 3) := by decide +kernel
theorem dX9_addBoat_22 : decode cX9_addBoat 22 = .ok (.ireturn, 1) := by decide +kernel
theorem dX9_addBoat_23 : decode cX9_addBoat 23 = .ok (.aload_n 0, 1) := by decide +kernel
theorem dX9_addBoat_24 : decode cX9_addBoat 24 = .ok (.getfield 7, 3) := by decide +kernel
theorem dX9_addBoat_27 : decode cX9_addBoat 27 = .ok (.sipush 1881, 3) := by decide +kernel
theorem dX9_addBoat_30 : decode cX9_addBoat 30 = .ok (.laload, 1) := by decide +kernel
theorem dX9_addBoat_31 : decode cX9_addBoat 31 = .ok (.ldc2_w 196, 3) := by decide +kernel
theorem dX9_addBoat_34 : decode cX9_addBoat 34 = .ok (.lcmp, 1) := by decide +kernel
theorem dX9_addBoat_35 : decode cX9_addBoat 35 = .ok (.ifCond .ne 9, 3) := by decide +kernel
theorem dX9_addBoat_38 : decode cX9_addBoat 38 = .ok (.aload_n 0, 1) := by decide +kernel
theorem dX9_addBoat_39 : decode cX9_addBoat 39 = .ok (.iconst 2, 1) := by decide +kernel
theorem dX9_addBoat_40 : decode cX9_addBoat 40 = .ok (.invokevirtual 60, 3) := by decide +kernel
theorem dX9_addBoat_43 : decode cX9_addBoat 43 = .ok (.ireturn, 1) := by decide +kernel
theorem dX9_addBoat_44 : decode cX9_addBoat 44 = .ok (.aload_n 0, 1) := by decide +kernel
theorem dX9_addBoat_45 : decode cX9_addBoat 45 = .ok (.invokevirtual 66, 3) := by decide +kernel
theorem dX9_addBoat_48 : decode cX9_addBoat 48 = .ok (.aload_n 0, 1) := by decide +kernel
theorem dX9_addBoat_49 : decode cX9_addBoat 49 = .ok (.getfield 7, 3) := by decide +kernel
theorem dX9_addBoat_52 : decode cX9_addBoat 52 = .ok (.sipush 507, 3) := by decide +kernel
theorem dX9_addBoat_55 : decode cX9_addBoat 55 = .ok (.aload_n 0, 1) := by decide +kernel
theorem dX9_addBoat_56 : decode cX9_addBoat 56 = .ok (.getfield 7, 3) := by decide +kernel
theorem dX9_addBoat_59 : decode cX9_addBoat 59 = .ok (.sipush 1881, 3) := by decide +kernel
theorem dX9_addBoat_62 : decode cX9_addBoat 62 = .ok (.laload, 1) := by decide +kernel
theorem dX9_addBoat_63 : decode cX9_addBoat 63 = .ok (.l2i, 1) := by decide +kernel
theorem dX9_addBoat_64 : decode cX9_addBoat 64 = .ok (.iadd, 1) := by decide +kernel
theorem dX9_addBoat_65 : decode cX9_addBoat 65 = .ok (.iload_n 1, 1) := by decide +kernel
theorem dX9_addBoat_66 : decode cX9_addBoat 66 = .ok (.i2l, 1) := by decide +kernel
theorem dX9_addBoat_67 : decode cX9_addBoat 67 = .ok (.lastore, 1) := by decide +kernel
theorem dX9_addBoat_68 : decode cX9_addBoat 68 = .ok (.aload_n 0, 1) := by decide +kernel
theorem dX9_addBoat_69 : decode cX9_addBoat 69 = .ok (.getfield 7, 3) := by decide +kernel
theorem dX9_addBoat_72 : decode cX9_addBoat 72 = .ok (.sipush 1881, 3) := by decide +kernel
theorem dX9_addBoat_75 : decode cX9_addBoat 75 = .ok (.dup2, 1) := by decide +kernel
theorem dX9_addBoat_76 : decode cX9_addBoat 76 = .ok (.laload, 1) := by decide +kernel
theorem dX9_addBoat_77 : decode cX9_addBoat 77 = .ok (.lconst 1, 1) := by decide +kernel
theorem dX9_addBoat_78 : decode cX9_addBoat 78 = .ok (.ladd, 1) := by decide +kernel
theorem dX9_addBoat_79 : decode cX9_addBoat 79 = .ok (.lastore, 1) := by decide +kernel
theorem dX9_addBoat_80 : decode cX9_addBoat 80 = .ok (.aload_n 0, 1) := by decide +kernel
theorem dX9_addBoat_81 : decode cX9_addBoat 81 = .ok (.getfield 7, 3) := by decide +kernel
theorem dX9_addBoat_84 : decode cX9_addBoat 84 = .ok (.sipush 1881, 3) := by decide +kernel
theorem dX9_addBoat_87 : decode cX9_addBoat 87 = .ok (.laload, 1) := by decide +kernel
theorem dX9_addBoat_88 : decode cX9_addBoat 88 = .ok (.l2i, 1) := by decide +kernel
theorem dX9_addBoat_89 : decode cX9_addBoat 89 = .ok (.iconst 1, 1) := by decide +kernel
theorem dX9_addBoat_90 : decode cX9_addBoat 90 = .ok (.isub, 1) := by decide +kernel
theorem dX9_addBoat_91 : decode cX9_addBoat 91 = .ok (.ireturn, 1) := by decide +kernel
set_option maxRecDepth 20000 in
theorem ggX9_catchThrows_X9_isBoat : GoodIn wsX9_catchThrows wsX9_isBoat := goodIn_r _ [6, 7, 8, 9, 5, 10, 11, 12, 13, 14, 15, 16, 17, 18, 19, 20, 21, 22, 23] (by decide +kernel) (by decide +kernel)
set_option maxRecDepth 20000 in
theorem gX9_catchThrows_X9_isBoat : GoodIn wsX9_catchThrows (wsV RX9 198 RX9 yX9_isBoat wsX9_isBoat) := goodIn_app (goodIn_of _ (by decide +kernel)) ggX9_catchThrows_X9_isBoat
set_option maxRecDepth 20000 in
theorem ggX9_catchThrows_X9_in : GoodIn wsX9_catchThrows wsX9_in := goodIn_r _ [10] (by decide +kernel) (by decide +kernel)
set_option maxRecDepth 20000 in
theorem gX9_catchThrows_X9_in : GoodIn wsX9_catchThrows (va_wsS RX9 47 yX9_in wsX9_in) := goodIn_app (goodIn_of _ (by decide +kernel)) ggX9_catchThrows_X9_in
theorem dX9_catchThrows_0 : decode cX9_catchThrows 0 = .ok (.aload_n 0, 1) := by decide +kernel
theorem dX9_catchThrows_1 : decode cX9_catchThrows 1 = .ok (.iload_n 1, 1) := by decide +kernel
theorem dX9_catchThrows_2 : decode cX9_catchThrows 2 = .ok (.invokevirtual 198, 3) := by decide +kernel
theorem dX9_catchThrows_5 : decode cX9_catchThrows 5 = .ok (.ifCond .ne 7, 3) := by decide +kernel
theorem dX9_catchThrows_8 : decode cX9_catchThrows 8 = .ok (.iconst 1, 1) := by decide +kernel
theorem dX9_catchThrows_9 : decode cX9_catchThrows 9 = .ok (.goto 20, 3) := by decide +kernel
theorem dX9_catchThrows_12 : decode cX9_catchThrows 12 = .ok (.iload_n 2, 1) := by decide +kernel
theorem dX9_catchThrows_13 : decode cX9_catchThrows 13 = .ok (.i2l, 1) := by decide +kernel
theorem dX9_catchThrows_14 : decode cX9_catchThrows 14 = .ok (.lconst 0, 1) := by decide +kernel
theorem dX9_catchThrows_15 : decode cX9_catchThrows 15 = .ok (.ldc2_w 194, 3) := by decide +kernel
theorem dX9_catchThrows_18 : decode cX9_catchThrows 18 = .ok (.invokestatic 47, 3) := by decide +kernel
theorem dX9_catchThrows_21 : decode cX9_catchThrows 21 = .ok (.ifCond .ne 7, 3) := by decide +kernel
theorem dX9_catchThrows_24 : decode cX9_catchThrows 24 = .ok (.iconst 2, 1) := by decide +kernel
theorem dX9_catchThrows_25 : decode cX9_catchThrows 25 = .ok (.goto 4, 3) := by decide +kernel
theorem dX9_catchThrows_28 : decode cX9_catchThrows 28 = .ok (.iconst 0, 1) := by decide +kernel
theorem dX9_catchThrows_29 : decode cX9_catchThrows 29 = .ok (.ireturn, 1) := by decide +kernel
set_option maxRecDepth 20000 in
theorem ggX9_setCatch_X9_catchThrows : GoodIn wsX9_setCatch wsX9_catchThrows := goodIn_r _ [6, 7, 8, 9, 10, 5, 11, 12, 13, 14, 15, 30, 31, 32, 33, 34, 35, 36, 37, 38, 39, 40, 41, 42] (by decide +kernel) (by decide +kernel)
set_option maxRecDepth 20000 in
theorem gX9_setCatch_X9_catchThrows : GoodIn wsX9_setCatch (wsV RX9 201 RX9 yX9_catchThrows wsX9_catchThrows) := goodIn_app (goodIn_of _ (by decide +kernel)) ggX9_setCatch_X9_catchThrows
set_option maxRecDepth 20000 in
theorem ggX9_setCatch_X9_refuse : GoodIn wsX9_setCatch wsX9_refuse := goodIn_r _ [19, 1, 30, 31, 32, 33, 34, 35, 36, 37, 38, 39, 40, 41, 42] (by decide +kernel) (by decide +kernel)
set_option maxRecDepth 20000 in
theorem gX9_setCatch_X9_refuse : GoodIn wsX9_setCatch (wsV RX9 60 RX9 yX9_refuse wsX9_refuse) := goodIn_app (goodIn_of _ (by decide +kernel)) ggX9_setCatch_X9_refuse
set_option maxRecDepth 20000 in
theorem ggX9_setCatch_X9_change : GoodIn wsX9_setCatch wsX9_change := goodIn_r _ [23, 12, 24, 25, 26, 5, 27, 28, 29, 30, 31, 32, 33, 34, 35, 36, 37, 38, 39, 40, 41, 42] (by decide +kernel) (by decide +kernel)
set_option maxRecDepth 20000 in
theorem gX9_setCatch_X9_change : GoodIn wsX9_setCatch (wsV RX9 73 RX9 yX9_change wsX9_change) := goodIn_app (goodIn_of _ (by decide +kernel)) ggX9_setCatch_X9_change
theorem dX9_setCatch_0 : decode cX9_setCatch 0 = .ok (.aload_n 0, 1) := by decide +kernel
theorem dX9_setCatch_1 : decode cX9_setCatch 1 = .ok (.iconst 0, 1) := by decide +kernel
theorem dX9_setCatch_2 : decode cX9_setCatch 2 = .ok (.putfield 43, 3) := by decide +kernel
theorem dX9_setCatch_5 : decode cX9_setCatch 5 = .ok (.aload_n 0, 1) := by decide +kernel
theorem dX9_setCatch_6 : decode cX9_setCatch 6 = .ok (.iload_n 1, 1) := by decide +kernel
theorem dX9_setCatch_7 : decode cX9_setCatch 7 = .ok (.iload_n 2, 1) := by decide +kernel
theorem dX9_setCatch_8 : decode cX9_setCatch 8 = .ok (.invokevirtual 201, 3) := by decide +kernel
theorem dX9_setCatch_11 : decode cX9_setCatch 11 = .ok (.istore_n 3, 1) := by decide +kernel
theorem dX9_setCatch_12 : decode cX9_setCatch 12 = .ok (.iload_n 3, 1) := by decide +kernel
theorem dX9_setCatch_13 : decode cX9_setCatch 13 = .ok (.ifCond .le 11, 3) := by decide +kernel
theorem dX9_setCatch_16 : decode cX9_setCatch 16 = .ok (.aload_n 0, 1) := by decide +kernel
theorem dX9_setCatch_17 : decode cX9_setCatch 17 = .ok (.iload_n 3, 1) := by decide +kernel
theorem dX9_setCatch_18 : decode cX9_setCatch 18 = .ok (.invokevirtual 60, 3) := by decide +kernel
theorem dX9_setCatch_21 : decode cX9_setCatch 21 = .ok (.goto 13, 3) := by decide +kernel
theorem dX9_setCatch_24 : decode cX9_setCatch 24 = .ok (.aload_n 0, 1) := by decide +kernel
theorem dX9_setCatch_25 : decode cX9_setCatch 25 = .ok (.sipush 507, 3) := by decide +kernel
theorem dX9_setCatch_28 : decode cX9_setCatch 28 = .ok (.iload_n 1, 1) := by decide +kernel
theorem dX9_setCatch_29 : decode cX9_setCatch 29 = .ok (.iadd, 1) := by decide +kernel
theorem dX9_setCatch_30 : decode cX9_setCatch 30 = .ok (.iload_n 2, 1) := by decide +kernel
theorem dX9_setCatch_31 : decode cX9_setCatch 31 = .ok (.invokevirtual 73, 3) := by decide +kernel
theorem dX9_setCatch_34 : decode cX9_setCatch 34 = .ok (.ireturn, 1) := by decide +kernel
set_option maxRecDepth 20000 in
theorem ggX9_orderThrows_X9_isBoat : GoodIn wsX9_orderThrows wsX9_isBoat := goodIn_r _ [8, 3, 9, 10, 7, 11, 16, 17, 18, 19, 20, 21, 22, 23, 24, 25, 26, 27, 28] (by decide +kernel) (by decide +kernel)
set_option maxRecDepth 20000 in
theorem gX9_orderThrows_X9_isBoat : GoodIn wsX9_orderThrows (wsV RX9 198 RX9 yX9_isBoat wsX9_isBoat) := goodIn_app (goodIn_of _ (by decide +kernel)) ggX9_orderThrows_X9_isBoat
set_option maxRecDepth 20000 in
theorem ggX9_orderThrows_X9_in : GoodIn wsX9_orderThrows wsX9_in := goodIn_r _ [11] (by decide +kernel) (by decide +kernel)
set_option maxRecDepth 20000 in
theorem gX9_orderThrows_X9_in : GoodIn wsX9_orderThrows (va_wsS RX9 47 yX9_in wsX9_in) := goodIn_app (goodIn_of _ (by decide +kernel)) ggX9_orderThrows_X9_in
set_option maxRecDepth 20000 in
theorem ggX9_orderThrows_X9_openMany : GoodIn wsX9_orderThrows wsX9_openMany := goodIn_r _ [15, 3, 16, 17, 18, 19, 20, 21, 22, 23, 24, 25, 26, 27, 28] (by decide +kernel) (by decide +kernel)
set_option maxRecDepth 20000 in
theorem gX9_orderThrows_X9_openMany : GoodIn wsX9_orderThrows (wsV RX9 159 RX9 yX9_openMany wsX9_openMany) := goodIn_app (goodIn_of _ (by decide +kernel)) ggX9_orderThrows_X9_openMany
theorem dX9_orderThrows_0 : decode cX9_orderThrows 0 = .ok (.aload_n 0, 1) := by decide +kernel
theorem dX9_orderThrows_1 : decode cX9_orderThrows 1 = .ok (.iload_n 1, 1) := by decide +kernel
theorem dX9_orderThrows_2 : decode cX9_orderThrows 2 = .ok (.invokevirtual 198, 3) := by decide +kernel
theorem dX9_orderThrows_5 : decode cX9_orderThrows 5 = .ok (.ifCond .ne 5, 3) := by decide +kernel
theorem dX9_orderThrows_8 : decode cX9_orderThrows 8 = .ok (.iconst 1, 1) := by decide +kernel
theorem dX9_orderThrows_9 : decode cX9_orderThrows 9 = .ok (.ireturn, 1) := by decide +kernel
theorem dX9_orderThrows_10 : decode cX9_orderThrows 10 = .ok (.iload_n 2, 1) := by decide +kernel
theorem dX9_orderThrows_11 : decode cX9_orderThrows 11 = .ok (.i2l, 1) := by decide +kernel
theorem dX9_orderThrows_12 : decode cX9_orderThrows 12 = .ok (.lconst 1, 1) := by decide +kernel
theorem dX9_orderThrows_13 : decode cX9_orderThrows 13 = .ok (.ldc2_w 204, 3) := by decide +kernel
theorem dX9_orderThrows_16 : decode cX9_orderThrows 16 = .ok (.invokestatic 47, 3) := by decide +kernel
theorem dX9_orderThrows_19 : decode cX9_orderThrows 19 = .ok (.ifCond .eq 15, 3) := by decide +kernel
theorem dX9_orderThrows_22 : decode cX9_orderThrows 22 = .ok (.iload_n 3, 1) := by decide +kernel
theorem dX9_orderThrows_23 : decode cX9_orderThrows 23 = .ok (.i2l, 1) := by decide +kernel
theorem dX9_orderThrows_24 : decode cX9_orderThrows 24 = .ok (.lconst 1, 1) := by decide +kernel
theorem dX9_orderThrows_25 : decode cX9_orderThrows 25 = .ok (.ldc2_w 206, 3) := by decide +kernel
theorem dX9_orderThrows_28 : decode cX9_orderThrows 28 = .ok (.invokestatic 47, 3) := by decide +kernel
theorem dX9_orderThrows_31 : decode cX9_orderThrows 31 = .ok (.ifCond .ne 5, 3) := by decide +kernel
theorem dX9_orderThrows_34 : decode cX9_orderThrows 34 = .ok (.iconst 2, 1) := by decide +kernel
theorem dX9_orderThrows_35 : decode cX9_orderThrows 35 = .ok (.ireturn, 1) := by decide +kernel
theorem dX9_orderThrows_36 : decode cX9_orderThrows 36 = .ok (.aload_n 0, 1) := by decide +kernel
theorem dX9_orderThrows_37 : decode cX9_orderThrows 37 = .ok (.invokevirtual 159, 3) := by decide +kernel
theorem dX9_orderThrows_40 : decode cX9_orderThrows 40 = .ok (.bipush 20, 2) := by decide +kernel
theorem dX9_orderThrows_42 : decode cX9_orderThrows 42 = .ok (.if_icmp .eq 18, 3) := by decide +kernel
theorem dX9_orderThrows_45 : decode cX9_orderThrows 45 = .ok (.aload_n 0, 1) := by decide +kernel
theorem dX9_orderThrows_46 : decode cX9_orderThrows 46 = .ok (.getfield 7, 3) := by decide +kernel
theorem dX9_orderThrows_49 : decode cX9_orderThrows 49 = .ok (.sipush 1882, 3) := by decide +kernel
theorem dX9_orderThrows_52 : decode cX9_orderThrows 52 = .ok (.laload, 1) := by decide +kernel
theorem dX9_orderThrows_53 : decode cX9_orderThrows 53 = .ok (.ldc2_w 206, 3) := by decide +kernel
theorem dX9_orderThrows_56 : decode cX9_orderThrows 56 = .ok (.lcmp, 1) := by decide +kernel
theorem dX9_orderThrows_57 : decode cX9_orderThrows 57 = .ok (.ifCond .ne 7, 3) := by decide +kernel
theorem dX9_orderThrows_60 : decode cX9_orderThrows 60 = .ok (.iconst 3, 1) := by decide +kernel
theorem dX9_orderThrows_61 : decode cX9_orderThrows 61 = .ok (.goto 4, 3) := by decide +kernel
theorem dX9_orderThrows_64 : decode cX9_orderThrows 64 = .ok (.iconst 0, 1) := by decide +kernel
theorem dX9_orderThrows_65 : decode cX9_orderThrows 65 = .ok (.ireturn, 1) := by decide +kernel
theorem dX9_doOrder_0 : decode cX9_doOrder 0 = .ok (.aload_n 0, 1) := by decide +kernel
theorem dX9_doOrder_1 : decode cX9_doOrder 1 = .ok (.getfield 7, 3) := by decide +kernel
theorem dX9_doOrder_4 : decode cX9_doOrder 4 = .ok (.sipush 1882, 3) := by decide +kernel
theorem dX9_doOrder_7 : decode cX9_doOrder 7 = .ok (.laload, 1) := by decide +kernel
theorem dX9_doOrder_8 : decode cX9_doOrder 8 = .ok (.l2i, 1) := by decide +kernel
theorem dX9_doOrder_9 : decode cX9_doOrder 9 = .ok (.istore 5, 2) := by decide +kernel
theorem dX9_doOrder_11 : decode cX9_doOrder 11 = .ok (.aload_n 0, 1) := by decide +kernel
theorem dX9_doOrder_12 : decode cX9_doOrder 12 = .ok (.getfield 7, 3) := by decide +kernel
theorem dX9_doOrder_15 : decode cX9_doOrder 15 = .ok (.sipush 1882, 3) := by decide +kernel
theorem dX9_doOrder_18 : decode cX9_doOrder 18 = .ok (.dup2, 1) := by decide +kernel
theorem dX9_doOrder_19 : decode cX9_doOrder 19 = .ok (.laload, 1) := by decide +kernel
theorem dX9_doOrder_20 : decode cX9_doOrder 20 = .ok (.lconst 1, 1) := by decide +kernel
theorem dX9_doOrder_21 : decode cX9_doOrder 21 = .ok (.ladd, 1) := by decide +kernel
theorem dX9_doOrder_22 : decode cX9_doOrder 22 = .ok (.lastore, 1) := by decide +kernel
theorem dX9_doOrder_23 : decode cX9_doOrder 23 = .ok (.aload_n 0, 1) := by decide +kernel
theorem dX9_doOrder_24 : decode cX9_doOrder 24 = .ok (.getfield 7, 3) := by decide +kernel
theorem dX9_doOrder_27 : decode cX9_doOrder 27 = .ok (.sipush 531, 3) := by decide +kernel
theorem dX9_doOrder_30 : decode cX9_doOrder 30 = .ok (.iload 5, 2) := by decide +kernel
theorem dX9_doOrder_32 : decode cX9_doOrder 32 = .ok (.iadd, 1) := by decide +kernel
theorem dX9_doOrder_33 : decode cX9_doOrder 33 = .ok (.iload_n 1, 1) := by decide +kernel
theorem dX9_doOrder_34 : decode cX9_doOrder 34 = .ok (.i2l, 1) := by decide +kernel
theorem dX9_doOrder_35 : decode cX9_doOrder 35 = .ok (.lastore, 1) := by decide +kernel
theorem dX9_doOrder_36 : decode cX9_doOrder 36 = .ok (.aload_n 0, 1) := by decide +kernel
theorem dX9_doOrder_37 : decode cX9_doOrder 37 = .ok (.getfield 7, 3) := by decide +kernel
theorem dX9_doOrder_40 : decode cX9_doOrder 40 = .ok (.sipush 731, 3) := by decide +kernel
theorem dX9_doOrder_43 : decode cX9_doOrder 43 = .ok (.iload 5, 2) := by decide +kernel
theorem dX9_doOrder_45 : decode cX9_doOrder 45 = .ok (.iadd, 1) := by decide +kernel
theorem dX9_doOrder_46 : decode cX9_doOrder 46 = .ok (.iload_n 2, 1) := by decide +kernel
theorem dX9_doOrder_47 : decode cX9_doOrder 47 = .ok (.i2l, 1) := by decide +kernel
theorem dX9_doOrder_48 : decode cX9_doOrder 48 = .ok (.lastore, 1) := by decide +kernel
theorem dX9_doOrder_49 : decode cX9_doOrder 49 = .ok (.aload_n 0, 1) := by decide +kernel
theorem dX9_doOrder_50 : decode cX9_doOrder 50 = .ok (.getfield 7, 3) := by decide +kernel
theorem dX9_doOrder_53 : decode cX9_doOrder 53 = .ok (.sipush 1131, 3) := by decide +kernel
theorem dX9_doOrder_56 : decode cX9_doOrder 56 = .ok (.iload 5, 2) := by decide +kernel
theorem dX9_doOrder_58 : decode cX9_doOrder 58 = .ok (.iadd, 1) := by decide +kernel
theorem dX9_doOrder_59 : decode cX9_doOrder 59 = .ok (.iload_n 3, 1) := by decide +kernel
theorem dX9_doOrder_60 : decode cX9_doOrder 60 = .ok (.i2l, 1) := by decide +kernel
theorem dX9_doOrder_61 : decode cX9_doOrder 61 = .ok (.lastore, 1) := by decide +kernel
theorem dX9_doOrder_62 : decode cX9_doOrder 62 = .ok (.aload_n 0, 1) := by decide +kernel
theorem dX9_doOrder_63 : decode cX9_doOrder 63 = .ok (.getfield 7, 3) := by decide +kernel
theorem dX9_doOrder_66 : decode cX9_doOrder 66 = .ok (.sipush 1331, 3) := by decide +kernel
theorem dX9_doOrder_69 : decode cX9_doOrder 69 = .ok (.iload 5, 2) := by decide +kernel
theorem dX9_doOrder_71 : decode cX9_doOrder 71 = .ok (.iadd, 1) := by decide +kernel
theorem dX9_doOrder_72 : decode cX9_doOrder 72 = .ok (.iload 4, 2) := by decide +kernel
theorem dX9_doOrder_74 : decode cX9_doOrder 74 = .ok (.ifCond .eq 7, 3) := by decide +kernel
theorem dX9_doOrder_77 : decode cX9_doOrder 77 = .ok (.lconst 1, 1) := by decide +kernel
theorem dX9_doOrder_78 : decode cX9_doOrder 78 = .ok (.goto 4, 3) := by decide +kernel
theorem dX9_doOrder_81 : decode cX9_doOrder 81 = .ok (.lconst 0, 1) := by decide +kernel
theorem dX9_doOrder_82 : decode cX9_doOrder 82 = .ok (.lastore, 1) := by decide +kernel
theorem dX9_doOrder_83 : decode cX9_doOrder 83 = .ok (.iload 5, 2) := by decide +kernel
theorem dX9_doOrder_85 : decode cX9_doOrder 85 = .ok (.ireturn, 1) := by decide +kernel
set_option maxRecDepth 20000 in
theorem ggX9_order_X9_orderThrows : GoodIn wsX9_order wsX9_orderThrows := goodIn_r _ [6, 7, 8, 9, 10, 11, 12, 5, 13, 14, 15, 16, 17, 18, 19, 20, 35, 36, 37, 38, 39, 40, 41, 42, 43, 44, 45, 46, 47] (by decide +kernel) (by decide +kernel)
set_option maxRecDepth 20000 in
theorem gX9_order_X9_orderThrows : GoodIn wsX9_order (wsV RX9 208 RX9 yX9_orderThrows wsX9_orderThrows) := goodIn_app (goodIn_of _ (by decide +kernel)) ggX9_order_X9_orderThrows
set_option maxRecDepth 20000 in
theorem ggX9_order_X9_refuse : GoodIn wsX9_order wsX9_refuse := goodIn_r _ [24, 1, 35, 36, 37, 38, 39, 40, 41, 42, 43, 44, 45, 46, 47] (by decide +kernel) (by decide +kernel)
set_option maxRecDepth 20000 in
theorem gX9_order_X9_refuse : GoodIn wsX9_order (wsV RX9 60 RX9 yX9_refuse wsX9_refuse) := goodIn_app (goodIn_of _ (by decide +kernel)) ggX9_order_X9_refuse
set_option maxRecDepth 20000 in
theorem ggX9_order_X9_save : GoodIn wsX9_order wsX9_save := goodIn_r _ [28, 29, 30, 9, 35, 36, 37, 38, 39, 40, 41, 42, 43, 44, 45, 46, 47] (by decide +kernel) (by decide +kernel)
set_option maxRecDepth 20000 in
theorem gX9_order_X9_save : GoodIn wsX9_order (wsV RX9 66 RX9 yX9_save wsX9_save) := goodIn_app (goodIn_of _ (by decide +kernel)) ggX9_order_X9_save
set_option maxRecDepth 20000 in
theorem ggX9_order_X9_doOrder : GoodIn wsX9_order wsX9_doOrder := goodIn_r _ [34, 9, 35, 36, 37, 38, 39, 40, 41, 42, 43, 44, 45, 46, 47] (by decide +kernel) (by decide +kernel)
set_option maxRecDepth 20000 in
theorem gX9_order_X9_doOrder : GoodIn wsX9_order (wsV RX9 212 RX9 yX9_doOrder wsX9_doOrder) := goodIn_app (goodIn_of _ (by decide +kernel)) ggX9_order_X9_doOrder
theorem dX9_order_0 : decode cX9_order 0 = .ok (.aload_n 0, 1) := by decide +kernel
theorem dX9_order_1 : decode cX9_order 1 = .ok (.iconst 0, 1) := by decide +kernel
theorem dX9_order_2 : decode cX9_order 2 = .ok (.putfield 43, 3) := by decide +kernel
theorem dX9_order_5 : decode cX9_order 5 = .ok (.aload_n 0, 1) := by decide +kernel
theorem dX9_order_6 : decode cX9_order 6 = .ok (.iload_n 1, 1) := by decide +kernel
theorem dX9_order_7 : decode cX9_order 7 = .ok (.iload_n 2, 1) := by decide +kernel
theorem dX9_order_8 : decode cX9_order 8 = .ok (.iload_n 3, 1) := by decide +kernel
theorem dX9_order_9 : decode cX9_order 9 = .ok (.invokevirtual 208, 3) := by decide +kernel
theorem dX9_order_12 : decode cX9_order 12 = .ok (.istore 5, 2) := by decide +kernel
theorem dX9_order_14 : decode cX9_order 14 = .ok (.iload 5, 2) := by decide +kernel
theorem dX9_order_16 : decode cX9_order 16 = .ok (.ifCond .le 10, 3) := by decide +kernel
theorem dX9_order_19 : decode cX9_order 19 = .ok (.aload_n 0, 1) := by decide +kernel
theorem dX9_order_20 : decode cX9_order 20 = .ok (.iload 5, 2) := by decide +kernel
theorem dX9_order_22 : decode cX9_order 22 = .ok (.invokevirtual 60, 3) := by decide +kernel
theorem dX9_order_25 : decode cX9_order 25 = .ok (.ireturn, 1) := by decide +kernel
theorem dX9_order_26 : decode cX9_order 26 = .ok (.aload_n 0, 1) := by decide +kernel
theorem dX9_order_27 : decode cX9_order 27 = .ok (.invokevirtual 66, 3) := by decide +kernel
theorem dX9_order_30 : decode cX9_order 30 = .ok (.aload_n 0, 1) := by decide +kernel
theorem dX9_order_31 : decode cX9_order 31 = .ok (.iload_n 1, 1) := by decide +kernel
theorem dX9_order_32 : decode cX9_order 32 = .ok (.iload_n 2, 1) := by decide +kernel
theorem dX9_order_33 : decode cX9_order 33 = .ok (.iload_n 3, 1) := by decide +kernel
theorem dX9_order_34 : decode cX9_order 34 = .ok (.iload 4, 2) := by decide +kernel
theorem dX9_order_36 : decode cX9_order 36 = .ok (.invokevirtual 212, 3) := by decide +kernel
theorem dX9_order_39 : decode cX9_order 39 = .ok (.ireturn, 1) := by decide +kernel
set_option maxRecDepth 20000 in
theorem ggX9_cancel_X9_isOrder : GoodIn wsX9_cancel wsX9_isOrder := goodIn_r _ [8, 2, 9, 10, 7, 11, 26, 27, 28, 29, 30, 31, 32, 33, 34, 35, 36, 37, 38] (by decide +kernel) (by decide +kernel)
set_option maxRecDepth 20000 in
theorem gX9_cancel_X9_isOrder : GoodIn wsX9_cancel (wsV RX9 216 RX9 yX9_isOrder wsX9_isOrder) := goodIn_app (goodIn_of _ (by decide +kernel)) ggX9_cancel_X9_isOrder
set_option maxRecDepth 20000 in
theorem ggX9_cancel_X9_refuse : GoodIn wsX9_cancel wsX9_refuse := goodIn_r _ [15, 1, 26, 27, 28, 29, 30, 31, 32, 33, 34, 35, 36, 37, 38] (by decide +kernel) (by decide +kernel)
set_option maxRecDepth 20000 in
theorem gX9_cancel_X9_refuse : GoodIn wsX9_cancel (wsV RX9 60 RX9 yX9_refuse wsX9_refuse) := goodIn_app (goodIn_of _ (by decide +kernel)) ggX9_cancel_X9_refuse
set_option maxRecDepth 20000 in
theorem ggX9_cancel_X9_save : GoodIn wsX9_cancel wsX9_save := goodIn_r _ [19, 20, 21, 2, 26, 27, 28, 29, 30, 31, 32, 33, 34, 35, 36, 37, 38] (by decide +kernel) (by decide +kernel)
set_option maxRecDepth 20000 in
theorem gX9_cancel_X9_save : GoodIn wsX9_cancel (wsV RX9 66 RX9 yX9_save wsX9_save) := goodIn_app (goodIn_of _ (by decide +kernel)) ggX9_cancel_X9_save
set_option maxRecDepth 20000 in
theorem ggX9_cancel_X9_remaining : GoodIn wsX9_cancel wsX9_remaining := goodIn_r _ [25, 2, 26, 27, 28, 29, 30, 31, 32, 33, 34, 35, 36, 37, 38] (by decide +kernel) (by decide +kernel)
set_option maxRecDepth 20000 in
theorem gX9_cancel_X9_remaining : GoodIn wsX9_cancel (wsV RX9 122 RX9 yX9_remaining wsX9_remaining) := goodIn_app (goodIn_of _ (by decide +kernel)) ggX9_cancel_X9_remaining
theorem dX9_cancel_0 : decode cX9_cancel 0 = .ok (.aload_n 0, 1) := by decide +kernel
theorem dX9_cancel_1 : decode cX9_cancel 1 = .ok (.iconst 0, 1) := by decide +kernel
theorem dX9_cancel_2 : decode cX9_cancel 2 = .ok (.putfield 43, 3) := by decide +kernel
theorem dX9_cancel_5 : decode cX9_cancel 5 = .ok (.aload_n 0, 1) := by decide +kernel
theorem dX9_cancel_6 : decode cX9_cancel 6 = .ok (.iload_n 1, 1) := by decide +kernel
theorem dX9_cancel_7 : decode cX9_cancel 7 = .ok (.invokevirtual 216, 3) := by decide +kernel
theorem dX9_cancel_10 : decode cX9_cancel 10 = .ok (.ifCond .ne 9, 3) := by decide +kernel
theorem dX9_cancel_13 : decode cX9_cancel 13 = .ok (.aload_n 0, 1) := by decide +kernel
theorem dX9_cancel_14 : decode cX9_cancel 14 = .ok (.iconst 1, 1) := by decide +kernel
theorem dX9_cancel_15 : decode cX9_cancel 15 = .ok (.invokevirtual 60, 3) := by decide +kernel
theorem dX9_cancel_18 : decode cX9_cancel 18 = .ok (.ireturn, 1) := by decide +kernel
theorem dX9_cancel_19 : decode cX9_cancel 19 = .ok (.aload_n 0, 1) := by decide +kernel
theorem dX9_cancel_20 : decode cX9_cancel 20 = .ok (.getfield 7, 3) := by decide +kernel
theorem dX9_cancel_23 : decode cX9_cancel 23 = .ok (.sipush 1531, 3) := by decide +kernel
theorem dX9_cancel_26 : decode cX9_cancel 26 = .ok (.iload_n 1, 1) := by decide +kernel
theorem dX9_cancel_27 : decode cX9_cancel 27 = .ok (.iadd, 1) := by decide +kernel
theorem dX9_cancel_28 : decode cX9_cancel 28 = .ok (.laload, 1) := by decide +kernel
theorem dX9_cancel_29 : decode cX9_cancel 29 = .ok (.lconst 0, 1) := by decide +kernel
theorem dX9_cancel_30 : decode cX9_cancel 30 = .ok (.lcmp, 1) := by decide +kernel
theorem dX9_cancel_31 : decode cX9_cancel 31 = .ok (.ifCond .eq 9, 3) := by decide +kernel
theorem dX9_cancel_34 : decode cX9_cancel 34 = .ok (.aload_n 0, 1) := by decide +kernel
theorem dX9_cancel_35 : decode cX9_cancel 35 = .ok (.iconst 2, 1) := by decide +kernel
theorem dX9_cancel_36 : decode cX9_cancel 36 = .ok (.invokevirtual 60, 3) := by decide +kernel
theorem dX9_cancel_39 : decode cX9_cancel 39 = .ok (.ireturn, 1) := by decide +kernel
theorem dX9_cancel_40 : decode cX9_cancel 40 = .ok (.aload_n 0, 1) := by decide +kernel
theorem dX9_cancel_41 : decode cX9_cancel 41 = .ok (.invokevirtual 66, 3) := by decide +kernel
theorem dX9_cancel_44 : decode cX9_cancel 44 = .ok (.aload_n 0, 1) := by decide +kernel
theorem dX9_cancel_45 : decode cX9_cancel 45 = .ok (.getfield 7, 3) := by decide +kernel
theorem dX9_cancel_48 : decode cX9_cancel 48 = .ok (.sipush 1531, 3) := by decide +kernel
theorem dX9_cancel_51 : decode cX9_cancel 51 = .ok (.iload_n 1, 1) := by decide +kernel
theorem dX9_cancel_52 : decode cX9_cancel 52 = .ok (.iadd, 1) := by decide +kernel
theorem dX9_cancel_53 : decode cX9_cancel 53 = .ok (.ldc2_w 56, 3) := by decide +kernel
theorem dX9_cancel_56 : decode cX9_cancel 56 = .ok (.lastore, 1) := by decide +kernel
theorem dX9_cancel_57 : decode cX9_cancel 57 = .ok (.aload_n 0, 1) := by decide +kernel
theorem dX9_cancel_58 : decode cX9_cancel 58 = .ok (.iload_n 1, 1) := by decide +kernel
theorem dX9_cancel_59 : decode cX9_cancel 59 = .ok (.invokevirtual 122, 3) := by decide +kernel
theorem dX9_cancel_62 : decode cX9_cancel 62 = .ok (.l2i, 1) := by decide +kernel
theorem dX9_cancel_63 : decode cX9_cancel 63 = .ok (.ireturn, 1) := by decide +kernel
set_option maxRecDepth 20000 in
theorem ggX9_payThrows_X9_isBoat : GoodIn wsX9_payThrows wsX9_isBoat := goodIn_r _ [8, 2, 9, 10, 7, 11, 12, 13, 14, 15, 16, 17, 18, 19, 20, 21, 22, 23, 24] (by decide +kernel) (by decide +kernel)
set_option maxRecDepth 20000 in
theorem gX9_payThrows_X9_isBoat : GoodIn wsX9_payThrows (wsV RX9 198 RX9 yX9_isBoat wsX9_isBoat) := goodIn_app (goodIn_of _ (by decide +kernel)) ggX9_payThrows_X9_isBoat
set_option maxRecDepth 20000 in
theorem ggX9_payThrows_X9_in : GoodIn wsX9_payThrows wsX9_in := goodIn_r _ [11] (by decide +kernel) (by decide +kernel)
set_option maxRecDepth 20000 in
theorem gX9_payThrows_X9_in : GoodIn wsX9_payThrows (va_wsS RX9 47 yX9_in wsX9_in) := goodIn_app (goodIn_of _ (by decide +kernel)) ggX9_payThrows_X9_in
theorem dX9_payThrows_0 : decode cX9_payThrows 0 = .ok (.aload_n 0, 1) := by decide +kernel
theorem dX9_payThrows_1 : decode cX9_payThrows 1 = .ok (.iload_n 1, 1) := by decide +kernel
theorem dX9_payThrows_2 : decode cX9_payThrows 2 = .ok (.invokevirtual 198, 3) := by decide +kernel
theorem dX9_payThrows_5 : decode cX9_payThrows 5 = .ok (.ifCond .ne 5, 3) := by decide +kernel
theorem dX9_payThrows_8 : decode cX9_payThrows 8 = .ok (.iconst 1, 1) := by decide +kernel
theorem dX9_payThrows_9 : decode cX9_payThrows 9 = .ok (.ireturn, 1) := by decide +kernel
theorem dX9_payThrows_10 : decode cX9_payThrows 10 = .ok (.iload_n 2, 1) := by decide +kernel
theorem dX9_payThrows_11 : decode cX9_payThrows 11 = .ok (.i2l, 1) := by decide +kernel
theorem dX9_payThrows_12 : decode cX9_payThrows 12 = .ok (.lconst 1, 1) := by decide +kernel
theorem dX9_payThrows_13 : decode cX9_payThrows 13 = .ok (.ldc2_w 194, 3) := by decide +kernel
theorem dX9_payThrows_16 : decode cX9_payThrows 16 = .ok (.invokestatic 47, 3) := by decide +kernel
theorem dX9_payThrows_19 : decode cX9_payThrows 19 = .ok (.ifCond .ne 7, 3) := by decide +kernel
theorem dX9_payThrows_22 : decode cX9_payThrows 22 = .ok (.iconst 2, 1) := by decide +kernel
theorem dX9_payThrows_23 : decode cX9_payThrows 23 = .ok (.goto 28, 3) := by decide +kernel
theorem dX9_payThrows_26 : decode cX9_payThrows 26 = .ok (.aload_n 0, 1) := by decide +kernel
theorem dX9_payThrows_27 : decode cX9_payThrows 27 = .ok (.getfield 7, 3) := by decide +kernel
theorem dX9_payThrows_30 : decode cX9_payThrows 30 = .ok (.sipush 515, 3) := by decide +kernel
theorem dX9_payThrows_33 : decode cX9_payThrows 33 = .ok (.iload_n 1, 1) := by decide +kernel
theorem dX9_payThrows_34 : decode cX9_payThrows 34 = .ok (.iadd, 1) := by decide +kernel
theorem dX9_payThrows_35 : decode cX9_payThrows 35 = .ok (.laload, 1) := by decide +kernel
theorem dX9_payThrows_36 : decode cX9_payThrows 36 = .ok (.iload_n 2, 1) := by decide +kernel
theorem dX9_payThrows_37 : decode cX9_payThrows 37 = .ok (.i2l, 1) := by decide +kernel
theorem dX9_payThrows_38 : decode cX9_payThrows 38 = .ok (.lsub, 1) := by decide +kernel
theorem dX9_payThrows_39 : decode cX9_payThrows 39 = .ok (.ldc2_w 219, 3) := by decide +kernel
theorem dX9_payThrows_42 : decode cX9_payThrows 42 = .ok (.lcmp, 1) := by decide +kernel
theorem dX9_payThrows_43 : decode cX9_payThrows 43 = .ok (.ifCond .ge 7, 3) := by decide +kernel
theorem dX9_payThrows_46 : decode cX9_payThrows 46 = .ok (.iconst 3, 1) := by decide +kernel
theorem dX9_payThrows_47 : decode cX9_payThrows 47 = .ok (.goto 4, 3) := by decide +kernel
theorem dX9_payThrows_50 : decode cX9_payThrows 50 = .ok (.iconst 0, 1) := by decide +kernel
theorem dX9_payThrows_51 : decode cX9_payThrows 51 = .ok (.ireturn, 1) := by decide +kernel
theorem dX9_doPay_0 : decode cX9_doPay 0 = .ok (.aload_n 0, 1) := by decide +kernel
theorem dX9_doPay_1 : decode cX9_doPay 1 = .ok (.getfield 7, 3) := by decide +kernel
theorem dX9_doPay_4 : decode cX9_doPay 4 = .ok (.sipush 515, 3) := by decide +kernel
theorem dX9_doPay_7 : decode cX9_doPay 7 = .ok (.iload_n 1, 1) := by decide +kernel
theorem dX9_doPay_8 : decode cX9_doPay 8 = .ok (.iadd, 1) := by decide +kernel
theorem dX9_doPay_9 : decode cX9_doPay 9 = .ok (.dup2, 1) := by decide +kernel
theorem dX9_doPay_10 : decode cX9_doPay 10 = .ok (.laload, 1) := by decide +kernel
theorem dX9_doPay_11 : decode cX9_doPay 11 = .ok (.iload_n 2, 1) := by decide +kernel
theorem dX9_doPay_12 : decode cX9_doPay 12 = .ok (.i2l, 1) := by decide +kernel
theorem dX9_doPay_13 : decode cX9_doPay 13 = .ok (.lsub, 1) := by decide +kernel
theorem dX9_doPay_14 : decode cX9_doPay 14 = .ok (.lastore, 1) := by decide +kernel
theorem dX9_doPay_15 : decode cX9_doPay 15 = .ok (.aload_n 0, 1) := by decide +kernel
theorem dX9_doPay_16 : decode cX9_doPay 16 = .ok (.getfield 7, 3) := by decide +kernel
theorem dX9_doPay_19 : decode cX9_doPay 19 = .ok (.sipush 1884, 3) := by decide +kernel
theorem dX9_doPay_22 : decode cX9_doPay 22 = .ok (.dup2, 1) := by decide +kernel
theorem dX9_doPay_23 : decode cX9_doPay 23 = .ok (.laload, 1) := by decide +kernel
theorem dX9_doPay_24 : decode cX9_doPay 24 = .ok (.iload_n 2, 1) := by decide +kernel
theorem dX9_doPay_25 : decode cX9_doPay 25 = .ok (.i2l, 1) := by decide +kernel
theorem dX9_doPay_26 : decode cX9_doPay 26 = .ok (.ladd, 1) := by decide +kernel
theorem dX9_doPay_27 : decode cX9_doPay 27 = .ok (.lastore, 1) := by decide +kernel
theorem dX9_doPay_28 : decode cX9_doPay 28 = .ok (.aload_n 0, 1) := by decide +kernel
theorem dX9_doPay_29 : decode cX9_doPay 29 = .ok (.getfield 7, 3) := by decide +kernel
theorem dX9_doPay_32 : decode cX9_doPay 32 = .ok (.sipush 515, 3) := by decide +kernel
theorem dX9_doPay_35 : decode cX9_doPay 35 = .ok (.iload_n 1, 1) := by decide +kernel
theorem dX9_doPay_36 : decode cX9_doPay 36 = .ok (.iadd, 1) := by decide +kernel
theorem dX9_doPay_37 : decode cX9_doPay 37 = .ok (.laload, 1) := by decide +kernel
theorem dX9_doPay_38 : decode cX9_doPay 38 = .ok (.l2i, 1) := by decide +kernel
theorem dX9_doPay_39 : decode cX9_doPay 39 = .ok (.ireturn, 1) := by decide +kernel
set_option maxRecDepth 20000 in
theorem ggX9_pay_X9_payThrows : GoodIn wsX9_pay wsX9_payThrows := goodIn_r _ [6, 7, 8, 9, 10, 11, 12, 5, 13, 14, 15, 16, 31, 32, 33, 34, 35, 36, 37, 38, 39, 40, 41, 42, 43] (by decide +kernel) (by decide +kernel)
set_option maxRecDepth 20000 in
theorem gX9_pay_X9_payThrows : GoodIn wsX9_pay (wsV RX9 221 RX9 yX9_payThrows wsX9_payThrows) := goodIn_app (goodIn_of _ (by decide +kernel)) ggX9_pay_X9_payThrows
set_option maxRecDepth 20000 in
theorem ggX9_pay_X9_refuse : GoodIn wsX9_pay wsX9_refuse := goodIn_r _ [20, 1, 31, 32, 33, 34, 35, 36, 37, 38, 39, 40, 41, 42, 43] (by decide +kernel) (by decide +kernel)
set_option maxRecDepth 20000 in
theorem gX9_pay_X9_refuse : GoodIn wsX9_pay (wsV RX9 60 RX9 yX9_refuse wsX9_refuse) := goodIn_app (goodIn_of _ (by decide +kernel)) ggX9_pay_X9_refuse
set_option maxRecDepth 20000 in
theorem ggX9_pay_X9_save : GoodIn wsX9_pay wsX9_save := goodIn_r _ [24, 25, 26, 8, 31, 32, 33, 34, 35, 36, 37, 38, 39, 40, 41, 42, 43] (by decide +kernel) (by decide +kernel)
set_option maxRecDepth 20000 in
theorem gX9_pay_X9_save : GoodIn wsX9_pay (wsV RX9 66 RX9 yX9_save wsX9_save) := goodIn_app (goodIn_of _ (by decide +kernel)) ggX9_pay_X9_save
set_option maxRecDepth 20000 in
theorem ggX9_pay_X9_doPay : GoodIn wsX9_pay wsX9_doPay := goodIn_r _ [30, 8, 31, 32, 33, 34, 35, 36, 37, 38, 39, 40, 41, 42, 43] (by decide +kernel) (by decide +kernel)
set_option maxRecDepth 20000 in
theorem gX9_pay_X9_doPay : GoodIn wsX9_pay (wsV RX9 224 RX9 yX9_doPay wsX9_doPay) := goodIn_app (goodIn_of _ (by decide +kernel)) ggX9_pay_X9_doPay
theorem dX9_pay_0 : decode cX9_pay 0 = .ok (.aload_n 0, 1) := by decide +kernel
theorem dX9_pay_1 : decode cX9_pay 1 = .ok (.iconst 0, 1) := by decide +kernel
theorem dX9_pay_2 : decode cX9_pay 2 = .ok (.putfield 43, 3) := by decide +kernel
theorem dX9_pay_5 : decode cX9_pay 5 = .ok (.aload_n 0, 1) := by decide +kernel
theorem dX9_pay_6 : decode cX9_pay 6 = .ok (.iload_n 1, 1) := by decide +kernel
theorem dX9_pay_7 : decode cX9_pay 7 = .ok (.iload_n 2, 1) := by decide +kernel
theorem dX9_pay_8 : decode cX9_pay 8 = .ok (.invokevirtual 221, 3) := by decide +kernel
theorem dX9_pay_11 : decode cX9_pay 11 = .ok (.istore_n 3, 1) := by decide +kernel
theorem dX9_pay_12 : decode cX9_pay 12 = .ok (.iload_n 3, 1) := by decide +kernel
theorem dX9_pay_13 : decode cX9_pay 13 = .ok (.ifCond .le 9, 3) := by decide +kernel
theorem dX9_pay_16 : decode cX9_pay 16 = .ok (.aload_n 0, 1) := by decide +kernel
theorem dX9_pay_17 : decode cX9_pay 17 = .ok (.iload_n 3, 1) := by decide +kernel
theorem dX9_pay_18 : decode cX9_pay 18 = .ok (.invokevirtual 60, 3) := by decide +kernel
theorem dX9_pay_21 : decode cX9_pay 21 = .ok (.ireturn, 1) := by decide +kernel
theorem dX9_pay_22 : decode cX9_pay 22 = .ok (.aload_n 0, 1) := by decide +kernel
theorem dX9_pay_23 : decode cX9_pay 23 = .ok (.invokevirtual 66, 3) := by decide +kernel
theorem dX9_pay_26 : decode cX9_pay 26 = .ok (.aload_n 0, 1) := by decide +kernel
theorem dX9_pay_27 : decode cX9_pay 27 = .ok (.iload_n 1, 1) := by decide +kernel
theorem dX9_pay_28 : decode cX9_pay 28 = .ok (.iload_n 2, 1) := by decide +kernel
theorem dX9_pay_29 : decode cX9_pay 29 = .ok (.invokevirtual 224, 3) := by decide +kernel
theorem dX9_pay_32 : decode cX9_pay 32 = .ok (.ireturn, 1) := by decide +kernel
theorem dX9_massIn_0 : decode cX9_massIn 0 = .ok (.lconst 0, 1) := by decide +kernel
theorem dX9_massIn_1 : decode cX9_massIn 1 = .ok (.lstore_n 2, 1) := by decide +kernel
theorem dX9_massIn_2 : decode cX9_massIn 2 = .ok (.iconst 0, 1) := by decide +kernel
theorem dX9_massIn_3 : decode cX9_massIn 3 = .ok (.istore 4, 2) := by decide +kernel
theorem dX9_massIn_5 : decode cX9_massIn 5 = .ok (.iload 4, 2) := by decide +kernel
theorem dX9_massIn_7 : decode cX9_massIn 7 = .ok (.i2l, 1) := by decide +kernel
theorem dX9_massIn_8 : decode cX9_massIn 8 = .ok (.aload_n 0, 1) := by decide +kernel
theorem dX9_massIn_9 : decode cX9_massIn 9 = .ok (.getfield 7, 3) := by decide +kernel
theorem dX9_massIn_12 : decode cX9_massIn 12 = .ok (.bipush 47, 2) := by decide +kernel
theorem dX9_massIn_14 : decode cX9_massIn 14 = .ok (.iload_n 1, 1) := by decide +kernel
theorem dX9_massIn_15 : decode cX9_massIn 15 = .ok (.iadd, 1) := by decide +kernel
theorem dX9_massIn_16 : decode cX9_massIn 16 = .ok (.laload, 1) := by decide +kernel
theorem dX9_massIn_17 : decode cX9_massIn 17 = .ok (.lcmp, 1) := by decide +kernel
theorem dX9_massIn_18 : decode cX9_massIn 18 = .ok (.ifCond .ge 28, 3) := by decide +kernel
theorem dX9_massIn_21 : decode cX9_massIn 21 = .ok (.lload_n 2, 1) := by decide +kernel
theorem dX9_massIn_22 : decode cX9_massIn 22 = .ok (.aload_n 0, 1) := by decide +kernel
theorem dX9_massIn_23 : decode cX9_massIn 23 = .ok (.getfield 7, 3) := by decide +kernel
theorem dX9_massIn_26 : decode cX9_massIn 26 = .ok (.sipush 207, 3) := by decide +kernel
theorem dX9_massIn_29 : decode cX9_massIn 29 = .ok (.bipush 30, 2) := by decide +kernel
theorem dX9_massIn_31 : decode cX9_massIn 31 = .ok (.iload_n 1, 1) := by decide +kernel
theorem dX9_massIn_32 : decode cX9_massIn 32 = .ok (.imul, 1) := by decide +kernel
theorem dX9_massIn_33 : decode cX9_massIn 33 = .ok (.iadd, 1) := by decide +kernel
theorem dX9_massIn_34 : decode cX9_massIn 34 = .ok (.iload 4, 2) := by decide +kernel
theorem dX9_massIn_36 : decode cX9_massIn 36 = .ok (.iadd, 1) := by decide +kernel
theorem dX9_massIn_37 : decode cX9_massIn 37 = .ok (.laload, 1) := by decide +kernel
theorem dX9_massIn_38 : decode cX9_massIn 38 = .ok (.ladd, 1) := by decide +kernel
theorem dX9_massIn_39 : decode cX9_massIn 39 = .ok (.lstore_n 2, 1) := by decide +kernel
theorem dX9_massIn_40 : decode cX9_massIn 40 = .ok (.iinc 4 1, 3) := by decide +kernel
theorem dX9_massIn_43 : decode cX9_massIn 43 = .ok (.goto (-38), 3) := by decide +kernel
theorem dX9_massIn_46 : decode cX9_massIn 46 = .ok (.lload_n 2, 1) := by decide +kernel
theorem dX9_massIn_47 : decode cX9_massIn 47 = .ok (.lreturn, 1) := by decide +kernel
set_option maxRecDepth 20000 in
theorem ggX9_silo_X9_isSilo : GoodIn wsX9_silo wsX9_isSilo := goodIn_r _ [7, 2, 8, 9, 6, 10, 19, 20, 21, 22, 23, 24, 25, 26, 27, 28, 29, 30, 31] (by decide +kernel) (by decide +kernel)
set_option maxRecDepth 20000 in
theorem gX9_silo_X9_isSilo : GoodIn wsX9_silo (wsV RX9 69 RX9 yX9_isSilo wsX9_isSilo) := goodIn_app (goodIn_of _ (by decide +kernel)) ggX9_silo_X9_isSilo
set_option maxRecDepth 20000 in
theorem ggX9_silo_X9_refuse : GoodIn wsX9_silo wsX9_refuse := goodIn_r _ [14, 1, 19, 20, 21, 22, 23, 24, 25, 26, 27, 28, 29, 30, 31] (by decide +kernel) (by decide +kernel)
set_option maxRecDepth 20000 in
theorem gX9_silo_X9_refuse : GoodIn wsX9_silo (wsV RX9 60 RX9 yX9_refuse wsX9_refuse) := goodIn_app (goodIn_of _ (by decide +kernel)) ggX9_silo_X9_refuse
set_option maxRecDepth 20000 in
theorem ggX9_silo_X9_massIn : GoodIn wsX9_silo wsX9_massIn := goodIn_r _ [18, 2, 19, 20, 21, 22, 23, 24, 25, 26, 27, 28, 29, 30, 31] (by decide +kernel) (by decide +kernel)
set_option maxRecDepth 20000 in
theorem gX9_silo_X9_massIn : GoodIn wsX9_silo (wsV RX9 227 RX9 yX9_massIn wsX9_massIn) := goodIn_app (goodIn_of _ (by decide +kernel)) ggX9_silo_X9_massIn
theorem dX9_silo_0 : decode cX9_silo 0 = .ok (.aload_n 0, 1) := by decide +kernel
theorem dX9_silo_1 : decode cX9_silo 1 = .ok (.iconst 0, 1) := by decide +kernel
theorem dX9_silo_2 : decode cX9_silo 2 = .ok (.putfield 43, 3) := by decide +kernel
theorem dX9_silo_5 : decode cX9_silo 5 = .ok (.aload_n 0, 1) := by decide +kernel
theorem dX9_silo_6 : decode cX9_silo 6 = .ok (.iload_n 1, 1) := by decide +kernel
theorem dX9_silo_7 : decode cX9_silo 7 = .ok (.invokevirtual 69, 3) := by decide +kernel
theorem dX9_silo_10 : decode cX9_silo 10 = .ok (.ifCond .ne 9, 3) := by decide +kernel
theorem dX9_silo_13 : decode cX9_silo 13 = .ok (.aload_n 0, 1) := by decide +kernel
theorem dX9_silo_14 : decode cX9_silo 14 = .ok (.iconst 1, 1) := by decide +kernel
theorem dX9_silo_15 : decode cX9_silo 15 = .ok (.invokevirtual 60, 3) := by decide +kernel
theorem dX9_silo_18 : decode cX9_silo 18 = .ok (.ireturn, 1) := by decide +kernel
theorem dX9_silo_19 : decode cX9_silo 19 = .ok (.iload_n 2, 1) := by decide +kernel
theorem dX9_silo_20 : decode cX9_silo 20 = .ok (.tableswitch 102 0 5 #[40, 51, 62, 73, 84, 91], 40) := by decide +kernel
theorem dX9_silo_60 : decode cX9_silo 60 = .ok (.aload_n 0, 1) := by decide +kernel
theorem dX9_silo_61 : decode cX9_silo 61 = .ok (.getfield 7, 3) := by decide +kernel
theorem dX9_silo_64 : decode cX9_silo 64 = .ok (.bipush 32, 2) := by decide +kernel
theorem dX9_silo_66 : decode cX9_silo 66 = .ok (.iload_n 1, 1) := by decide +kernel
theorem dX9_silo_67 : decode cX9_silo 67 = .ok (.iadd, 1) := by decide +kernel
theorem dX9_silo_68 : decode cX9_silo 68 = .ok (.laload, 1) := by decide +kernel
theorem dX9_silo_69 : decode cX9_silo 69 = .ok (.l2i, 1) := by decide +kernel
theorem dX9_silo_70 : decode cX9_silo 70 = .ok (.ireturn, 1) := by decide +kernel
theorem dX9_silo_71 : decode cX9_silo 71 = .ok (.aload_n 0, 1) := by decide +kernel
theorem dX9_silo_72 : decode cX9_silo 72 = .ok (.getfield 7, 3) := by decide +kernel
theorem dX9_silo_75 : decode cX9_silo 75 = .ok (.bipush 37, 2) := by decide +kernel
theorem dX9_silo_77 : decode cX9_silo 77 = .ok (.iload_n 1, 1) := by decide +kernel
theorem dX9_silo_78 : decode cX9_silo 78 = .ok (.iadd, 1) := by decide +kernel
theorem dX9_silo_79 : decode cX9_silo 79 = .ok (.laload, 1) := by decide +kernel
theorem dX9_silo_80 : decode cX9_silo 80 = .ok (.l2i, 1) := by decide +kernel
theorem dX9_silo_81 : decode cX9_silo 81 = .ok (.ireturn, 1) := by decide +kernel
theorem dX9_silo_82 : decode cX9_silo 82 = .ok (.aload_n 0, 1) := by decide +kernel
theorem dX9_silo_83 : decode cX9_silo 83 = .ok (.getfield 7, 3) := by decide +kernel
theorem dX9_silo_86 : decode cX9_silo 86 = .ok (.bipush 42, 2) := by decide +kernel
theorem dX9_silo_88 : decode cX9_silo 88 = .ok (.iload_n 1, 1) := by decide +kernel
theorem dX9_silo_89 : decode cX9_silo 89 = .ok (.iadd, 1) := by decide +kernel
theorem dX9_silo_90 : decode cX9_silo 90 = .ok (.laload, 1) := by decide +kernel
theorem dX9_silo_91 : decode cX9_silo 91 = .ok (.l2i, 1) := by decide +kernel
theorem dX9_silo_92 : decode cX9_silo 92 = .ok (.ireturn, 1) := by decide +kernel
theorem dX9_silo_93 : decode cX9_silo 93 = .ok (.aload_n 0, 1) := by decide +kernel
theorem dX9_silo_94 : decode cX9_silo 94 = .ok (.getfield 7, 3) := by decide +kernel
theorem dX9_silo_97 : decode cX9_silo 97 = .ok (.bipush 47, 2) := by decide +kernel
theorem dX9_silo_99 : decode cX9_silo 99 = .ok (.iload_n 1, 1) := by decide +kernel
theorem dX9_silo_100 : decode cX9_silo 100 = .ok (.iadd, 1) := by decide +kernel
theorem dX9_silo_101 : decode cX9_silo 101 = .ok (.laload, 1) := by decide +kernel
theorem dX9_silo_102 : decode cX9_silo 102 = .ok (.l2i, 1) := by decide +kernel
theorem dX9_silo_103 : decode cX9_silo 103 = .ok (.ireturn, 1) := by decide +kernel
theorem dX9_silo_104 : decode cX9_silo 104 = .ok (.aload_n 0, 1) := by decide +kernel
theorem dX9_silo_105 : decode cX9_silo 105 = .ok (.iload_n 1, 1) := by decide +kernel
theorem dX9_silo_106 : decode cX9_silo 106 = .ok (.invokevirtual 227, 3) := by decide +kernel
theorem dX9_silo_109 : decode cX9_silo 109 = .ok (.l2i, 1) := by decide +kernel
theorem dX9_silo_110 : decode cX9_silo 110 = .ok (.ireturn, 1) := by decide +kernel
theorem dX9_silo_111 : decode cX9_silo 111 = .ok (.aload_n 0, 1) := by decide +kernel
theorem dX9_silo_112 : decode cX9_silo 112 = .ok (.getfield 7, 3) := by decide +kernel
theorem dX9_silo_115 : decode cX9_silo 115 = .ok (.bipush 52, 2) := by decide +kernel
theorem dX9_silo_117 : decode cX9_silo 117 = .ok (.iload_n 1, 1) := by decide +kernel
theorem dX9_silo_118 : decode cX9_silo 118 = .ok (.iadd, 1) := by decide +kernel
theorem dX9_silo_119 : decode cX9_silo 119 = .ok (.laload, 1) := by decide +kernel
theorem dX9_silo_120 : decode cX9_silo 120 = .ok (.l2i, 1) := by decide +kernel
theorem dX9_silo_121 : decode cX9_silo 121 = .ok (.ireturn, 1) := by decide +kernel
theorem dX9_silo_122 : decode cX9_silo 122 = .ok (.aload_n 0, 1) := by decide +kernel
theorem dX9_silo_123 : decode cX9_silo 123 = .ok (.iconst 2, 1) := by decide +kernel
theorem dX9_silo_124 : decode cX9_silo 124 = .ok (.invokevirtual 60, 3) := by decide +kernel
theorem dX9_silo_127 : decode cX9_silo 127 = .ok (.ireturn, 1) := by decide +kernel
set_option maxRecDepth 20000 in
theorem ggX9_block_X9_isSilo : GoodIn wsX9_block wsX9_isSilo := goodIn_r _ [7, 2, 8, 9, 6, 10, 15, 16, 17, 18, 19, 20, 21, 22, 23, 24, 25, 26, 27] (by decide +kernel) (by decide +kernel)
set_option maxRecDepth 20000 in
theorem gX9_block_X9_isSilo : GoodIn wsX9_block (wsV RX9 69 RX9 yX9_isSilo wsX9_isSilo) := goodIn_app (goodIn_of _ (by decide +kernel)) ggX9_block_X9_isSilo
set_option maxRecDepth 20000 in
theorem ggX9_block_X9_in : GoodIn wsX9_block wsX9_in := goodIn_r _ [10] (by decide +kernel) (by decide +kernel)
set_option maxRecDepth 20000 in
theorem gX9_block_X9_in : GoodIn wsX9_block (va_wsS RX9 47 yX9_in wsX9_in) := goodIn_app (goodIn_of _ (by decide +kernel)) ggX9_block_X9_in
set_option maxRecDepth 20000 in
theorem ggX9_block_X9_refuse : GoodIn wsX9_block wsX9_refuse := goodIn_r _ [14, 1, 15, 16, 17, 18, 19, 20, 21, 22, 23, 24, 25, 26, 27] (by decide +kernel) (by decide +kernel)
set_option maxRecDepth 20000 in
theorem gX9_block_X9_refuse : GoodIn wsX9_block (wsV RX9 60 RX9 yX9_refuse wsX9_refuse) := goodIn_app (goodIn_of _ (by decide +kernel)) ggX9_block_X9_refuse
theorem dX9_block_0 : decode cX9_block 0 = .ok (.aload_n 0, 1) := by decide +kernel
theorem dX9_block_1 : decode cX9_block 1 = .ok (.iconst 0, 1) := by decide +kernel
theorem dX9_block_2 : decode cX9_block 2 = .ok (.putfield 43, 3) := by decide +kernel
theorem dX9_block_5 : decode cX9_block 5 = .ok (.aload_n 0, 1) := by decide +kernel
theorem dX9_block_6 : decode cX9_block 6 = .ok (.iload_n 1, 1) := by decide +kernel
theorem dX9_block_7 : decode cX9_block 7 = .ok (.invokevirtual 69, 3) := by decide +kernel
theorem dX9_block_10 : decode cX9_block 10 = .ok (.ifCond .eq 23, 3) := by decide +kernel
theorem dX9_block_13 : decode cX9_block 13 = .ok (.iload_n 2, 1) := by decide +kernel
theorem dX9_block_14 : decode cX9_block 14 = .ok (.i2l, 1) := by decide +kernel
theorem dX9_block_15 : decode cX9_block 15 = .ok (.lconst 0, 1) := by decide +kernel
theorem dX9_block_16 : decode cX9_block 16 = .ok (.aload_n 0, 1) := by decide +kernel
theorem dX9_block_17 : decode cX9_block 17 = .ok (.getfield 7, 3) := by decide +kernel
theorem dX9_block_20 : decode cX9_block 20 = .ok (.bipush 47, 2) := by decide +kernel
theorem dX9_block_22 : decode cX9_block 22 = .ok (.iload_n 1, 1) := by decide +kernel
theorem dX9_block_23 : decode cX9_block 23 = .ok (.iadd, 1) := by decide +kernel
theorem dX9_block_24 : decode cX9_block 24 = .ok (.laload, 1) := by decide +kernel
theorem dX9_block_25 : decode cX9_block 25 = .ok (.lconst 1, 1) := by decide +kernel
theorem dX9_block_26 : decode cX9_block 26 = .ok (.lsub, 1) := by decide +kernel
theorem dX9_block_27 : decode cX9_block 27 = .ok (.invokestatic 47, 3) := by decide +kernel
theorem dX9_block_30 : decode cX9_block 30 = .ok (.ifCond .ne 9, 3) := by decide +kernel
theorem dX9_block_33 : decode cX9_block 33 = .ok (.aload_n 0, 1) := by decide +kernel
theorem dX9_block_34 : decode cX9_block 34 = .ok (.iconst 1, 1) := by decide +kernel
theorem dX9_block_35 : decode cX9_block 35 = .ok (.invokevirtual 60, 3) := by decide +kernel
theorem dX9_block_38 : decode cX9_block 38 = .ok (.ireturn, 1) := by decide +kernel
theorem dX9_block_39 : decode cX9_block 39 = .ok (.bipush 30, 2) := by decide +kernel
theorem dX9_block_41 : decode cX9_block 41 = .ok (.iload_n 1, 1) := by decide +kernel
theorem dX9_block_42 : decode cX9_block 42 = .ok (.imul, 1) := by decide +kernel
theorem dX9_block_43 : decode cX9_block 43 = .ok (.iload_n 2, 1) := by decide +kernel
theorem dX9_block_44 : decode cX9_block 44 = .ok (.iadd, 1) := by decide +kernel
theorem dX9_block_45 : decode cX9_block 45 = .ok (.istore 4, 2) := by decide +kernel
theorem dX9_block_47 : decode cX9_block 47 = .ok (.iload_n 3, 1) := by decide +kernel
theorem dX9_block_48 : decode cX9_block 48 = .ok (.tableswitch 66 0 2 #[28, 40, 53], 28) := by decide +kernel
theorem dX9_block_76 : decode cX9_block 76 = .ok (.aload_n 0, 1) := by decide +kernel
theorem dX9_block_77 : decode cX9_block 77 = .ok (.getfield 7, 3) := by decide +kernel
theorem dX9_block_80 : decode cX9_block 80 = .ok (.bipush 57, 2) := by decide +kernel
theorem dX9_block_82 : decode cX9_block 82 = .ok (.iload 4, 2) := by decide +kernel
theorem dX9_block_84 : decode cX9_block 84 = .ok (.iadd, 1) := by decide +kernel
theorem dX9_block_85 : decode cX9_block 85 = .ok (.laload, 1) := by decide +kernel
theorem dX9_block_86 : decode cX9_block 86 = .ok (.l2i, 1) := by decide +kernel
theorem dX9_block_87 : decode cX9_block 87 = .ok (.ireturn, 1) := by decide +kernel
theorem dX9_block_88 : decode cX9_block 88 = .ok (.aload_n 0, 1) := by decide +kernel
theorem dX9_block_89 : decode cX9_block 89 = .ok (.getfield 7, 3) := by decide +kernel
theorem dX9_block_92 : decode cX9_block 92 = .ok (.sipush 207, 3) := by decide +kernel
theorem dX9_block_95 : decode cX9_block 95 = .ok (.iload 4, 2) := by decide +kernel
theorem dX9_block_97 : decode cX9_block 97 = .ok (.iadd, 1) := by decide +kernel
theorem dX9_block_98 : decode cX9_block 98 = .ok (.laload, 1) := by decide +kernel
theorem dX9_block_99 : decode cX9_block 99 = .ok (.l2i, 1) := by decide +kernel
theorem dX9_block_100 : decode cX9_block 100 = .ok (.ireturn, 1) := by decide +kernel
theorem dX9_block_101 : decode cX9_block 101 = .ok (.aload_n 0, 1) := by decide +kernel
theorem dX9_block_102 : decode cX9_block 102 = .ok (.getfield 7, 3) := by decide +kernel
theorem dX9_block_105 : decode cX9_block 105 = .ok (.sipush 357, 3) := by decide +kernel
theorem dX9_block_108 : decode cX9_block 108 = .ok (.iload 4, 2) := by decide +kernel
theorem dX9_block_110 : decode cX9_block 110 = .ok (.iadd, 1) := by decide +kernel
theorem dX9_block_111 : decode cX9_block 111 = .ok (.laload, 1) := by decide +kernel
theorem dX9_block_112 : decode cX9_block 112 = .ok (.l2i, 1) := by decide +kernel
theorem dX9_block_113 : decode cX9_block 113 = .ok (.ireturn, 1) := by decide +kernel
theorem dX9_block_114 : decode cX9_block 114 = .ok (.aload_n 0, 1) := by decide +kernel
theorem dX9_block_115 : decode cX9_block 115 = .ok (.iconst 2, 1) := by decide +kernel
theorem dX9_block_116 : decode cX9_block 116 = .ok (.invokevirtual 60, 3) := by decide +kernel
theorem dX9_block_119 : decode cX9_block 119 = .ok (.ireturn, 1) := by decide +kernel
theorem dX9_openOf_0 : decode cX9_openOf 0 = .ok (.iconst 0, 1) := by decide +kernel
theorem dX9_openOf_1 : decode cX9_openOf 1 = .ok (.istore_n 2, 1) := by decide +kernel
theorem dX9_openOf_2 : decode cX9_openOf 2 = .ok (.iconst 0, 1) := by decide +kernel
theorem dX9_openOf_3 : decode cX9_openOf 3 = .ok (.istore_n 3, 1) := by decide +kernel
theorem dX9_openOf_4 : decode cX9_openOf 4 = .ok (.iload_n 3, 1) := by decide +kernel
theorem dX9_openOf_5 : decode cX9_openOf 5 = .ok (.i2l, 1) := by decide +kernel
theorem dX9_openOf_6 : decode cX9_openOf 6 = .ok (.aload_n 0, 1) := by decide +kernel
theorem dX9_openOf_7 : decode cX9_openOf 7 = .ok (.getfield 7, 3) := by decide +kernel
theorem dX9_openOf_10 : decode cX9_openOf 10 = .ok (.sipush 1882, 3) := by decide +kernel
theorem dX9_openOf_13 : decode cX9_openOf 13 = .ok (.laload, 1) := by decide +kernel
theorem dX9_openOf_14 : decode cX9_openOf 14 = .ok (.lcmp, 1) := by decide +kernel
theorem dX9_openOf_15 : decode cX9_openOf 15 = .ok (.ifCond .ge 48, 3) := by decide +kernel
theorem dX9_openOf_18 : decode cX9_openOf 18 = .ok (.iload_n 2, 1) := by decide +kernel
theorem dX9_openOf_19 : decode cX9_openOf 19 = .ok (.aload_n 0, 1) := by decide +kernel
theorem dX9_openOf_20 : decode cX9_openOf 20 = .ok (.getfield 7, 3) := by decide +kernel
theorem dX9_openOf_23 : decode cX9_openOf 23 = .ok (.sipush 1531, 3) := by decide +kernel
theorem dX9_openOf_26 : decode cX9_openOf 26 = .ok (.iload_n 3, 1) := by decide +kernel
theorem dX9_openOf_27 : decode cX9_openOf 27 = .ok (.iadd, 1) := by decide +kernel
theorem dX9_openOf_28 : decode cX9_openOf 28 = .ok (.laload, 1) := by decide +kernel
theorem dX9_openOf_29 : decode cX9_openOf 29 = .ok (.lconst 0, 1) := by decide +kernel
theorem dX9_openOf_30 : decode cX9_openOf 30 = .ok (.lcmp, 1) := by decide +kernel
theorem dX9_openOf_31 : decode cX9_openOf 31 = .ok (.ifCond .ne 23, 3) := by decide +kernel
theorem dX9_openOf_34 : decode cX9_openOf 34 = .ok (.aload_n 0, 1) := by decide +kernel
theorem dX9_openOf_35 : decode cX9_openOf 35 = .ok (.getfield 7, 3) := by decide +kernel
theorem dX9_openOf_38 : decode cX9_openOf 38 = .ok (.sipush 531, 3) := by decide +kernel
theorem dX9_openOf_41 : decode cX9_openOf 41 = .ok (.iload_n 3, 1) := by decide +kernel
theorem dX9_openOf_42 : decode cX9_openOf 42 = .ok (.iadd, 1) := by decide +kernel
theorem dX9_openOf_43 : decode cX9_openOf 43 = .ok (.laload, 1) := by decide +kernel
theorem dX9_openOf_44 : decode cX9_openOf 44 = .ok (.iload_n 1, 1) := by decide +kernel
theorem dX9_openOf_45 : decode cX9_openOf 45 = .ok (.i2l, 1) := by decide +kernel
theorem dX9_openOf_46 : decode cX9_openOf 46 = .ok (.lcmp, 1) := by decide +kernel
theorem dX9_openOf_47 : decode cX9_openOf 47 = .ok (.ifCond .ne 7, 3) := by decide +kernel
theorem dX9_openOf_50 : decode cX9_openOf 50 = .ok (.iconst 1, 1) := by decide +kernel
theorem dX9_openOf_51 : decode cX9_openOf 51 = .ok (.goto 4, 3) := by decide +kernel
theorem dX9_openOf_54 : decode cX9_openOf 54 = .ok (.iconst 0, 1) := by decide +kernel
theorem dX9_openOf_55 : decode cX9_openOf 55 = .ok (.iadd, 1) := by decide +kernel
theorem dX9_openOf_56 : decode cX9_openOf 56 = .ok (.istore_n 2, 1) := by decide +kernel
theorem dX9_openOf_57 : decode cX9_openOf 57 = .ok (.iinc 3 1, 3) := by decide +kernel
theorem dX9_openOf_60 : decode cX9_openOf 60 = .ok (.goto (-56), 3) := by decide +kernel
theorem dX9_openOf_63 : decode cX9_openOf 63 = .ok (.iload_n 2, 1) := by decide +kernel
theorem dX9_openOf_64 : decode cX9_openOf 64 = .ok (.ireturn, 1) := by decide +kernel
set_option maxRecDepth 20000 in
theorem ggX9_boat_X9_isBoat : GoodIn wsX9_boat wsX9_isBoat := goodIn_r _ [7, 2, 8, 9, 6, 10, 19, 20, 21, 22, 23, 24, 25, 26, 27, 28, 29, 30, 31] (by decide +kernel) (by decide +kernel)
set_option maxRecDepth 20000 in
theorem gX9_boat_X9_isBoat : GoodIn wsX9_boat (wsV RX9 198 RX9 yX9_isBoat wsX9_isBoat) := goodIn_app (goodIn_of _ (by decide +kernel)) ggX9_boat_X9_isBoat
set_option maxRecDepth 20000 in
theorem ggX9_boat_X9_refuse : GoodIn wsX9_boat wsX9_refuse := goodIn_r _ [14, 1, 19, 20, 21, 22, 23, 24, 25, 26, 27, 28, 29, 30, 31] (by decide +kernel) (by decide +kernel)
set_option maxRecDepth 20000 in
theorem gX9_boat_X9_refuse : GoodIn wsX9_boat (wsV RX9 60 RX9 yX9_refuse wsX9_refuse) := goodIn_app (goodIn_of _ (by decide +kernel)) ggX9_boat_X9_refuse
set_option maxRecDepth 20000 in
theorem ggX9_boat_X9_openOf : GoodIn wsX9_boat wsX9_openOf := goodIn_r _ [18, 2, 19, 20, 21, 22, 23, 24, 25, 26, 27, 28, 29, 30, 31] (by decide +kernel) (by decide +kernel)
set_option maxRecDepth 20000 in
theorem gX9_boat_X9_openOf : GoodIn wsX9_boat (wsV RX9 230 RX9 yX9_openOf wsX9_openOf) := goodIn_app (goodIn_of _ (by decide +kernel)) ggX9_boat_X9_openOf
theorem dX9_boat_0 : decode cX9_boat 0 = .ok (.aload_n 0, 1) := by decide +kernel
theorem dX9_boat_1 : decode cX9_boat 1 = .ok (.iconst 0, 1) := by decide +kernel
theorem dX9_boat_2 : decode cX9_boat 2 = .ok (.putfield 43, 3) := by decide +kernel
theorem dX9_boat_5 : decode cX9_boat 5 = .ok (.aload_n 0, 1) := by decide +kernel
theorem dX9_boat_6 : decode cX9_boat 6 = .ok (.iload_n 1, 1) := by decide +kernel
theorem dX9_boat_7 : decode cX9_boat 7 = .ok (.invokevirtual 198, 3) := by decide +kernel
theorem dX9_boat_10 : decode cX9_boat 10 = .ok (.ifCond .ne 9, 3) := by decide +kernel
theorem dX9_boat_13 : decode cX9_boat 13 = .ok (.aload_n 0, 1) := by decide +kernel
theorem dX9_boat_14 : decode cX9_boat 14 = .ok (.iconst 1, 1) := by decide +kernel
theorem dX9_boat_15 : decode cX9_boat 15 = .ok (.invokevirtual 60, 3) := by decide +kernel
theorem dX9_boat_18 : decode cX9_boat 18 = .ok (.ireturn, 1) := by decide +kernel
theorem dX9_boat_19 : decode cX9_boat 19 = .ok (.iload_n 2, 1) := by decide +kernel
theorem dX9_boat_20 : decode cX9_boat 20 = .ok (.tableswitch 74 0 3 #[32, 44, 56, 68], 32) := by decide +kernel
theorem dX9_boat_52 : decode cX9_boat 52 = .ok (.aload_n 0, 1) := by decide +kernel
theorem dX9_boat_53 : decode cX9_boat 53 = .ok (.getfield 7, 3) := by decide +kernel
theorem dX9_boat_56 : decode cX9_boat 56 = .ok (.sipush 507, 3) := by decide +kernel
theorem dX9_boat_59 : decode cX9_boat 59 = .ok (.iload_n 1, 1) := by decide +kernel
theorem dX9_boat_60 : decode cX9_boat 60 = .ok (.iadd, 1) := by decide +kernel
theorem dX9_boat_61 : decode cX9_boat 61 = .ok (.laload, 1) := by decide +kernel
theorem dX9_boat_62 : decode cX9_boat 62 = .ok (.l2i, 1) := by decide +kernel
theorem dX9_boat_63 : decode cX9_boat 63 = .ok (.ireturn, 1) := by decide +kernel
theorem dX9_boat_64 : decode cX9_boat 64 = .ok (.aload_n 0, 1) := by decide +kernel
theorem dX9_boat_65 : decode cX9_boat 65 = .ok (.getfield 7, 3) := by decide +kernel
theorem dX9_boat_68 : decode cX9_boat 68 = .ok (.sipush 515, 3) := by decide +kernel
theorem dX9_boat_71 : decode cX9_boat 71 = .ok (.iload_n 1, 1) := by decide +kernel
theorem dX9_boat_72 : decode cX9_boat 72 = .ok (.iadd, 1) := by decide +kernel
theorem dX9_boat_73 : decode cX9_boat 73 = .ok (.laload, 1) := by decide +kernel
theorem dX9_boat_74 : decode cX9_boat 74 = .ok (.l2i, 1) := by decide +kernel
theorem dX9_boat_75 : decode cX9_boat 75 = .ok (.ireturn, 1) := by decide +kernel
theorem dX9_boat_76 : decode cX9_boat 76 = .ok (.aload_n 0, 1) := by decide +kernel
theorem dX9_boat_77 : decode cX9_boat 77 = .ok (.getfield 7, 3) := by decide +kernel
theorem dX9_boat_80 : decode cX9_boat 80 = .ok (.sipush 523, 3) := by decide +kernel
theorem dX9_boat_83 : decode cX9_boat 83 = .ok (.iload_n 1, 1) := by decide +kernel
theorem dX9_boat_84 : decode cX9_boat 84 = .ok (.iadd, 1) := by decide +kernel
theorem dX9_boat_85 : decode cX9_boat 85 = .ok (.laload, 1) := by decide +kernel
theorem dX9_boat_86 : decode cX9_boat 86 = .ok (.l2i, 1) := by decide +kernel
theorem dX9_boat_87 : decode cX9_boat 87 = .ok (.ireturn, 1) := by decide +kernel
theorem dX9_boat_88 : decode cX9_boat 88 = .ok (.aload_n 0, 1) := by decide +kernel
theorem dX9_boat_89 : decode cX9_boat 89 = .ok (.iload_n 1, 1) := by decide +kernel
theorem dX9_boat_90 : decode cX9_boat 90 = .ok (.invokevirtual 230, 3) := by decide +kernel
theorem dX9_boat_93 : decode cX9_boat 93 = .ok (.ireturn, 1) := by decide +kernel
theorem dX9_boat_94 : decode cX9_boat 94 = .ok (.aload_n 0, 1) := by decide +kernel
theorem dX9_boat_95 : decode cX9_boat 95 = .ok (.iconst 2, 1) := by decide +kernel
theorem dX9_boat_96 : decode cX9_boat 96 = .ok (.invokevirtual 60, 3) := by decide +kernel
theorem dX9_boat_99 : decode cX9_boat 99 = .ok (.ireturn, 1) := by decide +kernel
set_option maxRecDepth 20000 in
theorem ggX9_orderProperty_X9_isOrder : GoodIn wsX9_orderProperty wsX9_isOrder := goodIn_r _ [7, 2, 8, 9, 6, 10, 33, 34, 35, 36, 37, 38, 39, 40, 41, 42, 43, 44, 45] (by decide +kernel) (by decide +kernel)
set_option maxRecDepth 20000 in
theorem gX9_orderProperty_X9_isOrder : GoodIn wsX9_orderProperty (wsV RX9 216 RX9 yX9_isOrder wsX9_isOrder) := goodIn_app (goodIn_of _ (by decide +kernel)) ggX9_orderProperty_X9_isOrder
set_option maxRecDepth 20000 in
theorem ggX9_orderProperty_X9_refuse : GoodIn wsX9_orderProperty wsX9_refuse := goodIn_r _ [14, 1, 33, 34, 35, 36, 37, 38, 39, 40, 41, 42, 43, 44, 45] (by decide +kernel) (by decide +kernel)
set_option maxRecDepth 20000 in
theorem gX9_orderProperty_X9_refuse : GoodIn wsX9_orderProperty (wsV RX9 60 RX9 yX9_refuse wsX9_refuse) := goodIn_app (goodIn_of _ (by decide +kernel)) ggX9_orderProperty_X9_refuse
set_option maxRecDepth 20000 in
theorem ggX9_orderProperty_X9_aheadOf : GoodIn wsX9_orderProperty wsX9_aheadOf := goodIn_r _ [18, 2, 19, 20, 21, 6, 22, 23, 24, 25, 26, 27, 28, 29, 30, 31, 32, 33, 34, 35, 36, 37, 38, 39, 40, 41, 42, 43, 44, 45] (by decide +kernel) (by decide +kernel)
set_option maxRecDepth 20000 in
theorem gX9_orderProperty_X9_aheadOf : GoodIn wsX9_orderProperty (wsV RX9 162 RX9 yX9_aheadOf wsX9_aheadOf) := goodIn_app (goodIn_of _ (by decide +kernel)) ggX9_orderProperty_X9_aheadOf
theorem dX9_orderProperty_0 : decode cX9_orderProperty 0 = .ok (.aload_n 0, 1) := by decide +kernel
theorem dX9_orderProperty_1 : decode cX9_orderProperty 1 = .ok (.iconst 0, 1) := by decide +kernel
theorem dX9_orderProperty_2 : decode cX9_orderProperty 2 = .ok (.putfield 43, 3) := by decide +kernel
theorem dX9_orderProperty_5 : decode cX9_orderProperty 5 = .ok (.aload_n 0, 1) := by decide +kernel
theorem dX9_orderProperty_6 : decode cX9_orderProperty 6 = .ok (.iload_n 1, 1) := by decide +kernel
theorem dX9_orderProperty_7 : decode cX9_orderProperty 7 = .ok (.invokevirtual 216, 3) := by decide +kernel
theorem dX9_orderProperty_10 : decode cX9_orderProperty 10 = .ok (.ifCond .ne 9, 3) := by decide +kernel
theorem dX9_orderProperty_13 : decode cX9_orderProperty 13 = .ok (.aload_n 0, 1) := by decide +kernel
theorem dX9_orderProperty_14 : decode cX9_orderProperty 14 = .ok (.iconst 1, 1) := by decide +kernel
theorem dX9_orderProperty_15 : decode cX9_orderProperty 15 = .ok (.invokevirtual 60, 3) := by decide +kernel
theorem dX9_orderProperty_18 : decode cX9_orderProperty 18 = .ok (.ireturn, 1) := by decide +kernel
theorem dX9_orderProperty_19 : decode cX9_orderProperty 19 = .ok (.iload_n 2, 1) := by decide +kernel
theorem dX9_orderProperty_20 : decode cX9_orderProperty 20 = .ok (.tableswitch 141 0 6 #[44, 56, 68, 80, 92, 104, 116], 44) := by decide +kernel
theorem dX9_orderProperty_64 : decode cX9_orderProperty 64 = .ok (.aload_n 0, 1) := by decide +kernel
theorem dX9_orderProperty_65 : decode cX9_orderProperty 65 = .ok (.getfield 7, 3) := by decide +kernel
theorem dX9_orderProperty_68 : decode cX9_orderProperty 68 = .ok (.sipush 531, 3) := by decide +kernel
theorem dX9_orderProperty_71 : decode cX9_orderProperty 71 = .ok (.iload_n 1, 1) := by decide +kernel
theorem dX9_orderProperty_72 : decode cX9_orderProperty 72 = .ok (.iadd, 1) := by decide +kernel
theorem dX9_orderProperty_73 : decode cX9_orderProperty 73 = .ok (.laload, 1) := by decide +kernel
theorem dX9_orderProperty_74 : decode cX9_orderProperty 74 = .ok (.l2i, 1) := by decide +kernel
theorem dX9_orderProperty_75 : decode cX9_orderProperty 75 = .ok (.ireturn, 1) := by decide +kernel
theorem dX9_orderProperty_76 : decode cX9_orderProperty 76 = .ok (.aload_n 0, 1) := by decide +kernel
theorem dX9_orderProperty_77 : decode cX9_orderProperty 77 = .ok (.getfield 7, 3) := by decide +kernel
theorem dX9_orderProperty_80 : decode cX9_orderProperty 80 = .ok (.sipush 731, 3) := by decide +kernel
theorem dX9_orderProperty_83 : decode cX9_orderProperty 83 = .ok (.iload_n 1, 1) := by decide +kernel
theorem dX9_orderProperty_84 : decode cX9_orderProperty 84 = .ok (.iadd, 1) := by decide +kernel
theorem dX9_orderProperty_85 : decode cX9_orderProperty 85 = .ok (.laload, 1) := by decide +kernel
theorem dX9_orderProperty_86 : decode cX9_orderProperty 86 = .ok (.l2i, 1) := by decide +kernel
theorem dX9_orderProperty_87 : decode cX9_orderProperty 87 = .ok (.ireturn, 1) := by decide +kernel
theorem dX9_orderProperty_88 : decode cX9_orderProperty 88 = .ok (.aload_n 0, 1) := by decide +kernel
theorem dX9_orderProperty_89 : decode cX9_orderProperty 89 = .ok (.getfield 7, 3) := by decide +kernel
theorem dX9_orderProperty_92 : decode cX9_orderProperty 92 = .ok (.sipush 931, 3) := by decide +kernel
theorem dX9_orderProperty_95 : decode cX9_orderProperty 95 = .ok (.iload_n 1, 1) := by decide +kernel
theorem dX9_orderProperty_96 : decode cX9_orderProperty 96 = .ok (.iadd, 1) := by decide +kernel
theorem dX9_orderProperty_97 : decode cX9_orderProperty 97 = .ok (.laload, 1) := by decide +kernel
theorem dX9_orderProperty_98 : decode cX9_orderProperty 98 = .ok (.l2i, 1) := by decide +kernel
theorem dX9_orderProperty_99 : decode cX9_orderProperty 99 = .ok (.ireturn, 1) := by decide +kernel
theorem dX9_orderProperty_100 : decode cX9_orderProperty 100 = .ok (.aload_n 0, 1) := by decide +kernel
theorem dX9_orderProperty_101 : decode cX9_orderProperty 101 = .ok (.getfield 7, 3) := by decide +kernel
theorem dX9_orderProperty_104 : decode cX9_orderProperty 104 = .ok (.sipush 1131, 3) := by decide +kernel
theorem dX9_orderProperty_107 : decode cX9_orderProperty 107 = .ok (.iload_n 1, 1) := by decide +kernel
theorem dX9_orderProperty_108 : decode cX9_orderProperty 108 = .ok (.iadd, 1) := by decide +kernel
theorem dX9_orderProperty_109 : decode cX9_orderProperty 109 = .ok (.laload, 1) := by decide +kernel
theorem dX9_orderProperty_110 : decode cX9_orderProperty 110 = .ok (.l2i, 1) := by decide +kernel
theorem dX9_orderProperty_111 : decode cX9_orderProperty 111 = .ok (.ireturn, 1) := by decide +kernel
theorem dX9_orderProperty_112 : decode cX9_orderProperty 112 = .ok (.aload_n 0, 1) := by decide +kernel
theorem dX9_orderProperty_113 : decode cX9_orderProperty 113 = .ok (.getfield 7, 3) := by decide +kernel
theorem dX9_orderProperty_116 : decode cX9_orderProperty 116 = .ok (.sipush 1331, 3) := by decide +kernel
theorem dX9_orderProperty_119 : decode cX9_orderProperty 119 = .ok (.iload_n 1, 1) := by decide +kernel
theorem dX9_orderProperty_120 : decode cX9_orderProperty 120 = .ok (.iadd, 1) := by decide +kernel
theorem dX9_orderProperty_121 : decode cX9_orderProperty 121 = .ok (.laload, 1) := by decide +kernel
theorem dX9_orderProperty_122 : decode cX9_orderProperty 122 = .ok (.l2i, 1) := by decide +kernel
theorem dX9_orderProperty_123 : decode cX9_orderProperty 123 = .ok (.ireturn, 1) := by decide +kernel
theorem dX9_orderProperty_124 : decode cX9_orderProperty 124 = .ok (.aload_n 0, 1) := by decide +kernel
theorem dX9_orderProperty_125 : decode cX9_orderProperty 125 = .ok (.getfield 7, 3) := by decide +kernel
theorem dX9_orderProperty_128 : decode cX9_orderProperty 128 = .ok (.sipush 1531, 3) := by decide +kernel
theorem dX9_orderProperty_131 : decode cX9_orderProperty 131 = .ok (.iload_n 1, 1) := by decide +kernel
theorem dX9_orderProperty_132 : decode cX9_orderProperty 132 = .ok (.iadd, 1) := by decide +kernel
theorem dX9_orderProperty_133 : decode cX9_orderProperty 133 = .ok (.laload, 1) := by decide +kernel
theorem dX9_orderProperty_134 : decode cX9_orderProperty 134 = .ok (.l2i, 1) := by decide +kernel
theorem dX9_orderProperty_135 : decode cX9_orderProperty 135 = .ok (.ireturn, 1) := by decide +kernel
theorem dX9_orderProperty_136 : decode cX9_orderProperty 136 = .ok (.aload_n 0, 1) := by decide +kernel
theorem dX9_orderProperty_137 : decode cX9_orderProperty 137 = .ok (.getfield 7, 3) := by decide +kernel
theorem dX9_orderProperty_140 : decode cX9_orderProperty 140 = .ok (.sipush 1531, 3) := by decide +kernel
theorem dX9_orderProperty_143 : decode cX9_orderProperty 143 = .ok (.iload_n 1, 1) := by decide +kernel
theorem dX9_orderProperty_144 : decode cX9_orderProperty 144 = .ok (.iadd, 1) := by decide +kernel
theorem dX9_orderProperty_145 : decode cX9_orderProperty 145 = .ok (.laload, 1) := by decide +kernel
theorem dX9_orderProperty_146 : decode cX9_orderProperty 146 = .ok (.lconst 0, 1) := by decide +kernel
theorem dX9_orderProperty_147 : decode cX9_orderProperty 147 = .ok (.lcmp, 1) := by decide +kernel
theorem dX9_orderProperty_148 : decode cX9_orderProperty 148 = .ok (.ifCond .ne 11, 3) := by decide +kernel
theorem dX9_orderProperty_151 : decode cX9_orderProperty 151 = .ok (.aload_n 0, 1) := by decide +kernel
theorem dX9_orderProperty_152 : decode cX9_orderProperty 152 = .ok (.iload_n 1, 1) := by decide +kernel
theorem dX9_orderProperty_153 : decode cX9_orderProperty 153 = .ok (.invokevirtual 162, 3) := by decide +kernel
theorem dX9_orderProperty_156 : decode cX9_orderProperty 156 = .ok (.goto 4, 3) := by decide +kernel
theorem dX9_orderProperty_159 : decode cX9_orderProperty 159 = .ok (.iconst (-1), 1) := by decide +kernel
theorem dX9_orderProperty_160 : decode cX9_orderProperty 160 = .ok (.ireturn, 1) := by decide +kernel
theorem dX9_orderProperty_161 : decode cX9_orderProperty 161 = .ok (.aload_n 0, 1) := by decide +kernel
theorem dX9_orderProperty_162 : decode cX9_orderProperty 162 = .ok (.iconst 2, 1) := by decide +kernel
theorem dX9_orderProperty_163 : decode cX9_orderProperty 163 = .ok (.invokevirtual 60, 3) := by decide +kernel
theorem dX9_orderProperty_166 : decode cX9_orderProperty 166 = .ok (.ireturn, 1) := by decide +kernel
set_option maxRecDepth 20000 in
theorem ggX9_receipt_X9_in : GoodIn wsX9_receipt wsX9_in := goodIn_r _ [6] (by decide +kernel) (by decide +kernel)
set_option maxRecDepth 20000 in
theorem gX9_receipt_X9_in : GoodIn wsX9_receipt (va_wsS RX9 47 yX9_in wsX9_in) := goodIn_app (goodIn_of _ (by decide +kernel)) ggX9_receipt_X9_in
set_option maxRecDepth 20000 in
theorem ggX9_receipt_X9_refuse : GoodIn wsX9_receipt wsX9_refuse := goodIn_r _ [10, 1, 11, 12, 13, 14, 15, 16, 17, 18, 19, 20, 21, 22, 23] (by decide +kernel) (by decide +kernel)
set_option maxRecDepth 20000 in
theorem gX9_receipt_X9_refuse : GoodIn wsX9_receipt (wsV RX9 60 RX9 yX9_refuse wsX9_refuse) := goodIn_app (goodIn_of _ (by decide +kernel)) ggX9_receipt_X9_refuse
theorem dX9_receipt_0 : decode cX9_receipt 0 = .ok (.aload_n 0, 1) := by decide +kernel
theorem dX9_receipt_1 : decode cX9_receipt 1 = .ok (.iconst 0, 1) := by decide +kernel
theorem dX9_receipt_2 : decode cX9_receipt 2 = .ok (.putfield 43, 3) := by decide +kernel
theorem dX9_receipt_5 : decode cX9_receipt 5 = .ok (.iload_n 1, 1) := by decide +kernel
theorem dX9_receipt_6 : decode cX9_receipt 6 = .ok (.i2l, 1) := by decide +kernel
theorem dX9_receipt_7 : decode cX9_receipt 7 = .ok (.lconst 0, 1) := by decide +kernel
theorem dX9_receipt_8 : decode cX9_receipt 8 = .ok (.aload_n 0, 1) := by decide +kernel
theorem dX9_receipt_9 : decode cX9_receipt 9 = .ok (.getfield 7, 3) := by decide +kernel
theorem dX9_receipt_12 : decode cX9_receipt 12 = .ok (.sipush 1885, 3) := by decide +kernel
theorem dX9_receipt_15 : decode cX9_receipt 15 = .ok (.laload, 1) := by decide +kernel
theorem dX9_receipt_16 : decode cX9_receipt 16 = .ok (.lconst 1, 1) := by decide +kernel
theorem dX9_receipt_17 : decode cX9_receipt 17 = .ok (.lsub, 1) := by decide +kernel
theorem dX9_receipt_18 : decode cX9_receipt 18 = .ok (.invokestatic 47, 3) := by decide +kernel
theorem dX9_receipt_21 : decode cX9_receipt 21 = .ok (.ifCond .ne 9, 3) := by decide +kernel
theorem dX9_receipt_24 : decode cX9_receipt 24 = .ok (.aload_n 0, 1) := by decide +kernel
theorem dX9_receipt_25 : decode cX9_receipt 25 = .ok (.iconst 1, 1) := by decide +kernel
theorem dX9_receipt_26 : decode cX9_receipt 26 = .ok (.invokevirtual 60, 3) := by decide +kernel
theorem dX9_receipt_29 : decode cX9_receipt 29 = .ok (.ireturn, 1) := by decide +kernel
theorem dX9_receipt_30 : decode cX9_receipt 30 = .ok (.aload_n 0, 1) := by decide +kernel
theorem dX9_receipt_31 : decode cX9_receipt 31 = .ok (.getfield 7, 3) := by decide +kernel
theorem dX9_receipt_34 : decode cX9_receipt 34 = .ok (.sipush 1885, 3) := by decide +kernel
theorem dX9_receipt_37 : decode cX9_receipt 37 = .ok (.laload, 1) := by decide +kernel
theorem dX9_receipt_38 : decode cX9_receipt 38 = .ok (.l2i, 1) := by decide +kernel
theorem dX9_receipt_39 : decode cX9_receipt 39 = .ok (.iconst 1, 1) := by decide +kernel
theorem dX9_receipt_40 : decode cX9_receipt 40 = .ok (.isub, 1) := by decide +kernel
theorem dX9_receipt_41 : decode cX9_receipt 41 = .ok (.iload_n 1, 1) := by decide +kernel
theorem dX9_receipt_42 : decode cX9_receipt 42 = .ok (.isub, 1) := by decide +kernel
theorem dX9_receipt_43 : decode cX9_receipt 43 = .ok (.istore_n 3, 1) := by decide +kernel
theorem dX9_receipt_44 : decode cX9_receipt 44 = .ok (.iload_n 2, 1) := by decide +kernel
theorem dX9_receipt_45 : decode cX9_receipt 45 = .ok (.tableswitch 95 0 4 #[35, 47, 59, 71, 83], 35) := by decide +kernel
theorem dX9_receipt_80 : decode cX9_receipt 80 = .ok (.aload_n 0, 1) := by decide +kernel
theorem dX9_receipt_81 : decode cX9_receipt 81 = .ok (.getfield 7, 3) := by decide +kernel
theorem dX9_receipt_84 : decode cX9_receipt 84 = .ok (.sipush 1731, 3) := by decide +kernel
theorem dX9_receipt_87 : decode cX9_receipt 87 = .ok (.iload_n 3, 1) := by decide +kernel
theorem dX9_receipt_88 : decode cX9_receipt 88 = .ok (.iadd, 1) := by decide +kernel
theorem dX9_receipt_89 : decode cX9_receipt 89 = .ok (.laload, 1) := by decide +kernel
theorem dX9_receipt_90 : decode cX9_receipt 90 = .ok (.l2i, 1) := by decide +kernel
theorem dX9_receipt_91 : decode cX9_receipt 91 = .ok (.ireturn, 1) := by decide +kernel
theorem dX9_receipt_92 : decode cX9_receipt 92 = .ok (.aload_n 0, 1) := by decide +kernel
theorem dX9_receipt_93 : decode cX9_receipt 93 = .ok (.getfield 7, 3) := by decide +kernel
theorem dX9_receipt_96 : decode cX9_receipt 96 = .ok (.sipush 1747, 3) := by decide +kernel
theorem dX9_receipt_99 : decode cX9_receipt 99 = .ok (.iload_n 3, 1) := by decide +kernel
theorem dX9_receipt_100 : decode cX9_receipt 100 = .ok (.iadd, 1) := by decide +kernel
theorem dX9_receipt_101 : decode cX9_receipt 101 = .ok (.laload, 1) := by decide +kernel
theorem dX9_receipt_102 : decode cX9_receipt 102 = .ok (.l2i, 1) := by decide +kernel
theorem dX9_receipt_103 : decode cX9_receipt 103 = .ok (.ireturn, 1) := by decide +kernel
theorem dX9_receipt_104 : decode cX9_receipt 104 = .ok (.aload_n 0, 1) := by decide +kernel
theorem dX9_receipt_105 : decode cX9_receipt 105 = .ok (.getfield 7, 3) := by decide +kernel
theorem dX9_receipt_108 : decode cX9_receipt 108 = .ok (.sipush 1763, 3) := by decide +kernel
theorem dX9_receipt_111 : decode cX9_receipt 111 = .ok (.iload_n 3, 1) := by decide +kernel
theorem dX9_receipt_112 : decode cX9_receipt 112 = .ok (.iadd, 1) := by decide +kernel
theorem dX9_receipt_113 : decode cX9_receipt 113 = .ok (.laload, 1) := by decide +kernel
theorem dX9_receipt_114 : decode cX9_receipt 114 = .ok (.l2i, 1) := by decide +kernel
theorem dX9_receipt_115 : decode cX9_receipt 115 = .ok (.ireturn, 1) := by decide +kernel
theorem dX9_receipt_116 : decode cX9_receipt 116 = .ok (.aload_n 0, 1) := by decide +kernel
theorem dX9_receipt_117 : decode cX9_receipt 117 = .ok (.getfield 7, 3) := by decide +kernel
theorem dX9_receipt_120 : decode cX9_receipt 120 = .ok (.sipush 1779, 3) := by decide +kernel
theorem dX9_receipt_123 : decode cX9_receipt 123 = .ok (.iload_n 3, 1) := by decide +kernel
theorem dX9_receipt_124 : decode cX9_receipt 124 = .ok (.iadd, 1) := by decide +kernel
theorem dX9_receipt_125 : decode cX9_receipt 125 = .ok (.laload, 1) := by decide +kernel
theorem dX9_receipt_126 : decode cX9_receipt 126 = .ok (.l2i, 1) := by decide +kernel
theorem dX9_receipt_127 : decode cX9_receipt 127 = .ok (.ireturn, 1) := by decide +kernel
theorem dX9_receipt_128 : decode cX9_receipt 128 = .ok (.aload_n 0, 1) := by decide +kernel
theorem dX9_receipt_129 : decode cX9_receipt 129 = .ok (.getfield 7, 3) := by decide +kernel
theorem dX9_receipt_132 : decode cX9_receipt 132 = .ok (.sipush 1795, 3) := by decide +kernel
theorem dX9_receipt_135 : decode cX9_receipt 135 = .ok (.iload_n 3, 1) := by decide +kernel
theorem dX9_receipt_136 : decode cX9_receipt 136 = .ok (.iadd, 1) := by decide +kernel
theorem dX9_receipt_137 : decode cX9_receipt 137 = .ok (.laload, 1) := by decide +kernel
theorem dX9_receipt_138 : decode cX9_receipt 138 = .ok (.l2i, 1) := by decide +kernel
theorem dX9_receipt_139 : decode cX9_receipt 139 = .ok (.ireturn, 1) := by decide +kernel
theorem dX9_receipt_140 : decode cX9_receipt 140 = .ok (.aload_n 0, 1) := by decide +kernel
theorem dX9_receipt_141 : decode cX9_receipt 141 = .ok (.iconst 2, 1) := by decide +kernel
theorem dX9_receipt_142 : decode cX9_receipt 142 = .ok (.invokevirtual 60, 3) := by decide +kernel
theorem dX9_receipt_145 : decode cX9_receipt 145 = .ok (.ireturn, 1) := by decide +kernel
set_option maxRecDepth 20000 in
theorem ggX9_account_X9_in : GoodIn wsX9_account wsX9_in := goodIn_r _ [6] (by decide +kernel) (by decide +kernel)
set_option maxRecDepth 20000 in
theorem gX9_account_X9_in : GoodIn wsX9_account (va_wsS RX9 47 yX9_in wsX9_in) := goodIn_app (goodIn_of _ (by decide +kernel)) ggX9_account_X9_in
set_option maxRecDepth 20000 in
theorem ggX9_account_X9_refuse : GoodIn wsX9_account wsX9_refuse := goodIn_r _ [10, 1, 11, 12, 13, 14, 15, 16, 17, 18, 19, 20, 21, 22, 23] (by decide +kernel) (by decide +kernel)
set_option maxRecDepth 20000 in
theorem gX9_account_X9_refuse : GoodIn wsX9_account (wsV RX9 60 RX9 yX9_refuse wsX9_refuse) := goodIn_app (goodIn_of _ (by decide +kernel)) ggX9_account_X9_refuse
theorem dX9_account_0 : decode cX9_account 0 = .ok (.aload_n 0, 1) := by decide +kernel
theorem dX9_account_1 : decode cX9_account 1 = .ok (.iconst 0, 1) := by decide +kernel
theorem dX9_account_2 : decode cX9_account 2 = .ok (.putfield 43, 3) := by decide +kernel
theorem dX9_account_5 : decode cX9_account 5 = .ok (.iload_n 1, 1) := by decide +kernel
theorem dX9_account_6 : decode cX9_account 6 = .ok (.i2l, 1) := by decide +kernel
theorem dX9_account_7 : decode cX9_account 7 = .ok (.lconst 0, 1) := by decide +kernel
theorem dX9_account_8 : decode cX9_account 8 = .ok (.aload_n 0, 1) := by decide +kernel
theorem dX9_account_9 : decode cX9_account 9 = .ok (.getfield 7, 3) := by decide +kernel
theorem dX9_account_12 : decode cX9_account 12 = .ok (.sipush 1886, 3) := by decide +kernel
theorem dX9_account_15 : decode cX9_account 15 = .ok (.laload, 1) := by decide +kernel
theorem dX9_account_16 : decode cX9_account 16 = .ok (.lconst 1, 1) := by decide +kernel
theorem dX9_account_17 : decode cX9_account 17 = .ok (.lsub, 1) := by decide +kernel
theorem dX9_account_18 : decode cX9_account 18 = .ok (.invokestatic 47, 3) := by decide +kernel
theorem dX9_account_21 : decode cX9_account 21 = .ok (.ifCond .ne 10, 3) := by decide +kernel
theorem dX9_account_24 : decode cX9_account 24 = .ok (.aload_n 0, 1) := by decide +kernel
theorem dX9_account_25 : decode cX9_account 25 = .ok (.iconst 1, 1) := by decide +kernel
theorem dX9_account_26 : decode cX9_account 26 = .ok (.invokevirtual 60, 3) := by decide +kernel
theorem dX9_account_29 : decode cX9_account 29 = .ok (.i2l, 1) := by decide +kernel
theorem dX9_account_30 : decode cX9_account 30 = .ok (.lreturn, 1) := by decide +kernel
theorem dX9_account_31 : decode cX9_account 31 = .ok (.iload_n 2, 1) := by decide +kernel
theorem dX9_account_32 : decode cX9_account 32 = .ok (.tableswitch 76 0 3 #[32, 43, 54, 65], 32) := by decide +kernel
theorem dX9_account_64 : decode cX9_account 64 = .ok (.aload_n 0, 1) := by decide +kernel
theorem dX9_account_65 : decode cX9_account 65 = .ok (.getfield 7, 3) := by decide +kernel
theorem dX9_account_68 : decode cX9_account 68 = .ok (.sipush 1811, 3) := by decide +kernel
theorem dX9_account_71 : decode cX9_account 71 = .ok (.iload_n 1, 1) := by decide +kernel
theorem dX9_account_72 : decode cX9_account 72 = .ok (.iadd, 1) := by decide +kernel
theorem dX9_account_73 : decode cX9_account 73 = .ok (.laload, 1) := by decide +kernel
theorem dX9_account_74 : decode cX9_account 74 = .ok (.lreturn, 1) := by decide +kernel
theorem dX9_account_75 : decode cX9_account 75 = .ok (.aload_n 0, 1) := by decide +kernel
theorem dX9_account_76 : decode cX9_account 76 = .ok (.getfield 7, 3) := by decide +kernel
theorem dX9_account_79 : decode cX9_account 79 = .ok (.sipush 1827, 3) := by decide +kernel
theorem dX9_account_82 : decode cX9_account 82 = .ok (.iload_n 1, 1) := by decide +kernel
theorem dX9_account_83 : decode cX9_account 83 = .ok (.iadd, 1) := by decide +kernel
theorem dX9_account_84 : decode cX9_account 84 = .ok (.laload, 1) := by decide +kernel
theorem dX9_account_85 : decode cX9_account 85 = .ok (.lreturn, 1) := by decide +kernel
theorem dX9_account_86 : decode cX9_account 86 = .ok (.aload_n 0, 1) := by decide +kernel
theorem dX9_account_87 : decode cX9_account 87 = .ok (.getfield 7, 3) := by decide +kernel
theorem dX9_account_90 : decode cX9_account 90 = .ok (.sipush 1843, 3) := by decide +kernel
theorem dX9_account_93 : decode cX9_account 93 = .ok (.iload_n 1, 1) := by decide +kernel
theorem dX9_account_94 : decode cX9_account 94 = .ok (.iadd, 1) := by decide +kernel
theorem dX9_account_95 : decode cX9_account 95 = .ok (.laload, 1) := by decide +kernel
theorem dX9_account_96 : decode cX9_account 96 = .ok (.lreturn, 1) := by decide +kernel
theorem dX9_account_97 : decode cX9_account 97 = .ok (.aload_n 0, 1) := by decide +kernel
theorem dX9_account_98 : decode cX9_account 98 = .ok (.getfield 7, 3) := by decide +kernel
theorem dX9_account_101 : decode cX9_account 101 = .ok (.sipush 1859, 3) := by decide +kernel
theorem dX9_account_104 : decode cX9_account 104 = .ok (.iload_n 1, 1) := by decide +kernel
theorem dX9_account_105 : decode cX9_account 105 = .ok (.iadd, 1) := by decide +kernel
theorem dX9_account_106 : decode cX9_account 106 = .ok (.laload, 1) := by decide +kernel
theorem dX9_account_107 : decode cX9_account 107 = .ok (.lreturn, 1) := by decide +kernel
theorem dX9_account_108 : decode cX9_account 108 = .ok (.aload_n 0, 1) := by decide +kernel
theorem dX9_account_109 : decode cX9_account 109 = .ok (.iconst 2, 1) := by decide +kernel
theorem dX9_account_110 : decode cX9_account 110 = .ok (.invokevirtual 60, 3) := by decide +kernel
theorem dX9_account_113 : decode cX9_account 113 = .ok (.i2l, 1) := by decide +kernel
theorem dX9_account_114 : decode cX9_account 114 = .ok (.lreturn, 1) := by decide +kernel
set_option maxRecDepth 20000 in
theorem ggX9_findAccount_X9_isBoat : GoodIn wsX9_findAccount wsX9_isBoat := goodIn_r _ [6, 7, 8, 9, 5, 10, 19, 20, 21, 22, 23, 24, 25, 26, 27, 28, 29, 30, 31] (by decide +kernel) (by decide +kernel)
set_option maxRecDepth 20000 in
theorem gX9_findAccount_X9_isBoat : GoodIn wsX9_findAccount (wsV RX9 198 RX9 yX9_isBoat wsX9_isBoat) := goodIn_app (goodIn_of _ (by decide +kernel)) ggX9_findAccount_X9_isBoat
set_option maxRecDepth 20000 in
theorem ggX9_findAccount_X9_refuse : GoodIn wsX9_findAccount wsX9_refuse := goodIn_r _ [14, 1, 19, 20, 21, 22, 23, 24, 25, 26, 27, 28, 29, 30, 31] (by decide +kernel) (by decide +kernel)
set_option maxRecDepth 20000 in
theorem gX9_findAccount_X9_refuse : GoodIn wsX9_findAccount (wsV RX9 60 RX9 yX9_refuse wsX9_refuse) := goodIn_app (goodIn_of _ (by decide +kernel)) ggX9_findAccount_X9_refuse
set_option maxRecDepth 20000 in
theorem ggX9_findAccount_X9_in : GoodIn wsX9_findAccount wsX9_in := goodIn_r _ [10] (by decide +kernel) (by decide +kernel)
set_option maxRecDepth 20000 in
theorem gX9_findAccount_X9_in : GoodIn wsX9_findAccount (va_wsS RX9 47 yX9_in wsX9_in) := goodIn_app (goodIn_of _ (by decide +kernel)) ggX9_findAccount_X9_in
set_option maxRecDepth 20000 in
theorem ggX9_findAccount_X9_accountOf : GoodIn wsX9_findAccount wsX9_accountOf := goodIn_r _ [18, 7, 19, 20, 21, 22, 23, 24, 25, 26, 27, 28, 29, 30, 31] (by decide +kernel) (by decide +kernel)
set_option maxRecDepth 20000 in
theorem gX9_findAccount_X9_accountOf : GoodIn wsX9_findAccount (wsV RX9 136 RX9 yX9_accountOf wsX9_accountOf) := goodIn_app (goodIn_of _ (by decide +kernel)) ggX9_findAccount_X9_accountOf
theorem dX9_findAccount_0 : decode cX9_findAccount 0 = .ok (.aload_n 0, 1) := by decide +kernel
theorem dX9_findAccount_1 : decode cX9_findAccount 1 = .ok (.iconst 0, 1) := by decide +kernel
theorem dX9_findAccount_2 : decode cX9_findAccount 2 = .ok (.putfield 43, 3) := by decide +kernel
theorem dX9_findAccount_5 : decode cX9_findAccount 5 = .ok (.aload_n 0, 1) := by decide +kernel
theorem dX9_findAccount_6 : decode cX9_findAccount 6 = .ok (.iload_n 1, 1) := by decide +kernel
theorem dX9_findAccount_7 : decode cX9_findAccount 7 = .ok (.invokevirtual 198, 3) := by decide +kernel
theorem dX9_findAccount_10 : decode cX9_findAccount 10 = .ok (.ifCond .ne 9, 3) := by decide +kernel
theorem dX9_findAccount_13 : decode cX9_findAccount 13 = .ok (.aload_n 0, 1) := by decide +kernel
theorem dX9_findAccount_14 : decode cX9_findAccount 14 = .ok (.iconst 1, 1) := by decide +kernel
theorem dX9_findAccount_15 : decode cX9_findAccount 15 = .ok (.invokevirtual 60, 3) := by decide +kernel
theorem dX9_findAccount_18 : decode cX9_findAccount 18 = .ok (.ireturn, 1) := by decide +kernel
theorem dX9_findAccount_19 : decode cX9_findAccount 19 = .ok (.iload_n 2, 1) := by decide +kernel
theorem dX9_findAccount_20 : decode cX9_findAccount 20 = .ok (.i2l, 1) := by decide +kernel
theorem dX9_findAccount_21 : decode cX9_findAccount 21 = .ok (.lconst 0, 1) := by decide +kernel
theorem dX9_findAccount_22 : decode cX9_findAccount 22 = .ok (.lconst 1, 1) := by decide +kernel
theorem dX9_findAccount_23 : decode cX9_findAccount 23 = .ok (.invokestatic 47, 3) := by decide +kernel
theorem dX9_findAccount_26 : decode cX9_findAccount 26 = .ok (.ifCond .eq 12, 3) := by decide +kernel
theorem dX9_findAccount_29 : decode cX9_findAccount 29 = .ok (.aload_n 0, 1) := by decide +kernel
theorem dX9_findAccount_30 : decode cX9_findAccount 30 = .ok (.iload_n 1, 1) := by decide +kernel
theorem dX9_findAccount_31 : decode cX9_findAccount 31 = .ok (.iload_n 2, 1) := by decide +kernel
theorem dX9_findAccount_32 : decode cX9_findAccount 32 = .ok (.invokevirtual 136, 3) := by decide +kernel
theorem dX9_findAccount_35 : decode cX9_findAccount 35 = .ok (.goto 8, 3) := by decide +kernel
theorem dX9_findAccount_38 : decode cX9_findAccount 38 = .ok (.aload_n 0, 1) := by decide +kernel
theorem dX9_findAccount_39 : decode cX9_findAccount 39 = .ok (.iconst 2, 1) := by decide +kernel
theorem dX9_findAccount_40 : decode cX9_findAccount 40 = .ok (.invokevirtual 60, 3) := by decide +kernel
theorem dX9_findAccount_43 : decode cX9_findAccount 43 = .ok (.ireturn, 1) := by decide +kernel
set_option maxRecDepth 20000 in
theorem ggX9_setting_X9_in : GoodIn wsX9_setting wsX9_in := goodIn_r _ [7] (by decide +kernel) (by decide +kernel)
set_option maxRecDepth 20000 in
theorem gX9_setting_X9_in : GoodIn wsX9_setting (va_wsS RX9 47 yX9_in wsX9_in) := goodIn_app (goodIn_of _ (by decide +kernel)) ggX9_setting_X9_in
set_option maxRecDepth 20000 in
theorem ggX9_setting_X9_refuse : GoodIn wsX9_setting wsX9_refuse := goodIn_r _ [11, 1, 12, 13, 14, 15, 16, 17, 18, 19, 20, 21, 22, 23, 24] (by decide +kernel) (by decide +kernel)
set_option maxRecDepth 20000 in
theorem gX9_setting_X9_refuse : GoodIn wsX9_setting (wsV RX9 60 RX9 yX9_refuse wsX9_refuse) := goodIn_app (goodIn_of _ (by decide +kernel)) ggX9_setting_X9_refuse
