theorem dX9_init_0 : decode cX9_init 0 = .ok (.aload_n 0, 1) := by decide +kernel
theorem dX9_init_1 : decode cX9_init 1 = .ok (.invokespecial 1, 3) := by decide +kernel
theorem dX9_init_4 : decode cX9_init 4 = .ok (.aload_n 0, 1) := by decide +kernel
theorem dX9_init_5 : decode cX9_init 5 = .ok (.sipush 1888, 3) := by decide +kernel
theorem dX9_init_8 : decode cX9_init 8 = .ok (.newarray .long, 2) := by decide +kernel
theorem dX9_init_10 : decode cX9_init 10 = .ok (.putfield 7, 3) := by decide +kernel
theorem dX9_init_13 : decode cX9_init 13 = .ok (.aload_n 0, 1) := by decide +kernel
theorem dX9_init_14 : decode cX9_init 14 = .ok (.sipush 15104, 3) := by decide +kernel
theorem dX9_init_17 : decode cX9_init 17 = .ok (.newarray .long, 2) := by decide +kernel
theorem dX9_init_19 : decode cX9_init 19 = .ok (.putfield 13, 3) := by decide +kernel
theorem dX9_init_22 : decode cX9_init 22 = .ok (.aload_n 0, 1) := by decide +kernel
theorem dX9_init_23 : decode cX9_init 23 = .ok (.sipush 1888, 3) := by decide +kernel
theorem dX9_init_26 : decode cX9_init 26 = .ok (.newarray .long, 2) := by decide +kernel
theorem dX9_init_28 : decode cX9_init 28 = .ok (.putfield 16, 3) := by decide +kernel
theorem dX9_init_31 : decode cX9_init 31 = .ok (.aload_n 0, 1) := by decide +kernel
theorem dX9_init_32 : decode cX9_init 32 = .ok (.bipush 20, 2) := by decide +kernel
theorem dX9_init_34 : decode cX9_init 34 = .ok (.newarray .int, 2) := by decide +kernel
theorem dX9_init_36 : decode cX9_init 36 = .ok (.putfield 19, 3) := by decide +kernel
theorem dX9_init_39 : decode cX9_init 39 = .ok (.aload_n 0, 1) := by decide +kernel
theorem dX9_init_40 : decode cX9_init 40 = .ok (.bipush 120, 2) := by decide +kernel
theorem dX9_init_42 : decode cX9_init 42 = .ok (.newarray .int, 2) := by decide +kernel
theorem dX9_init_44 : decode cX9_init 44 = .ok (.putfield 23, 3) := by decide +kernel
theorem dX9_init_47 : decode cX9_init 47 = .ok (.aload_n 0, 1) := by decide +kernel
theorem dX9_init_48 : decode cX9_init 48 = .ok (.iconst 3, 1) := by decide +kernel
theorem dX9_init_49 : decode cX9_init 49 = .ok (.newarray .int, 2) := by decide +kernel
theorem dX9_init_51 : decode cX9_init 51 = .ok (.putfield 26, 3) := by decide +kernel
theorem dX9_init_54 : decode cX9_init 54 = .ok (.aload_n 0, 1) := by decide +kernel
theorem dX9_init_55 : decode cX9_init 55 = .ok (.getfield 7, 3) := by decide +kernel
theorem dX9_init_58 : decode cX9_init 58 = .ok (.iconst 0, 1) := by decide +kernel
theorem dX9_init_59 : decode cX9_init 59 = .ok (.ldc2_w 29, 3) := by decide +kernel
theorem dX9_init_62 : decode cX9_init 62 = .ok (.lastore, 1) := by decide +kernel
theorem dX9_init_63 : decode cX9_init 63 = .ok (.aload_n 0, 1) := by decide +kernel
theorem dX9_init_64 : decode cX9_init 64 = .ok (.getfield 7, 3) := by decide +kernel
theorem dX9_init_67 : decode cX9_init 67 = .ok (.iconst 1, 1) := by decide +kernel
theorem dX9_init_68 : decode cX9_init 68 = .ok (.ldc2_w 31, 3) := by decide +kernel
theorem dX9_init_71 : decode cX9_init 71 = .ok (.lastore, 1) := by decide +kernel
theorem dX9_init_72 : decode cX9_init 72 = .ok (.aload_n 0, 1) := by decide +kernel
theorem dX9_init_73 : decode cX9_init 73 = .ok (.getfield 7, 3) := by decide +kernel
theorem dX9_init_76 : decode cX9_init 76 = .ok (.iconst 3, 1) := by decide +kernel
theorem dX9_init_77 : decode cX9_init 77 = .ok (.ldc2_w 33, 3) := by decide +kernel
theorem dX9_init_80 : decode cX9_init 80 = .ok (.lastore, 1) := by decide +kernel
theorem dX9_init_81 : decode cX9_init 81 = .ok (.aload_n 0, 1) := by decide +kernel
theorem dX9_init_82 : decode cX9_init 82 = .ok (.getfield 7, 3) := by decide +kernel
theorem dX9_init_85 : decode cX9_init 85 = .ok (.iconst 4, 1) := by decide +kernel
theorem dX9_init_86 : decode cX9_init 86 = .ok (.ldc2_w 35, 3) := by decide +kernel
theorem dX9_init_89 : decode cX9_init 89 = .ok (.lastore, 1) := by decide +kernel
theorem dX9_init_90 : decode cX9_init 90 = .ok (.aload_n 0, 1) := by decide +kernel
theorem dX9_init_91 : decode cX9_init 91 = .ok (.getfield 7, 3) := by decide +kernel
theorem dX9_init_94 : decode cX9_init 94 = .ok (.iconst 5, 1) := by decide +kernel
theorem dX9_init_95 : decode cX9_init 95 = .ok (.ldc2_w 37, 3) := by decide +kernel
theorem dX9_init_98 : decode cX9_init 98 = .ok (.lastore, 1) := by decide +kernel
theorem dX9_init_99 : decode cX9_init 99 = .ok (.aload_n 0, 1) := by decide +kernel
theorem dX9_init_100 : decode cX9_init 100 = .ok (.getfield 7, 3) := by decide +kernel
theorem dX9_init_103 : decode cX9_init 103 = .ok (.bipush 6, 2) := by decide +kernel
theorem dX9_init_105 : decode cX9_init 105 = .ok (.ldc2_w 39, 3) := by decide +kernel
theorem dX9_init_108 : decode cX9_init 108 = .ok (.lastore, 1) := by decide +kernel
theorem dX9_init_109 : decode cX9_init 109 = .ok (.aload_n 0, 1) := by decide +kernel
theorem dX9_init_110 : decode cX9_init 110 = .ok (.getfield 7, 3) := by decide +kernel
theorem dX9_init_113 : decode cX9_init 113 = .ok (.bipush 7, 2) := by decide +kernel
theorem dX9_init_115 : decode cX9_init 115 = .ok (.ldc2_w 41, 3) := by decide +kernel
theorem dX9_init_118 : decode cX9_init 118 = .ok (.lastore, 1) := by decide +kernel
theorem dX9_init_119 : decode cX9_init 119 = .ok (.iconst 0, 1) := by decide +kernel
theorem dX9_init_120 : decode cX9_init 120 = .ok (.istore_n 1, 1) := by decide +kernel
theorem dX9_init_121 : decode cX9_init 121 = .ok (.iload_n 1, 1) := by decide +kernel
theorem dX9_init_122 : decode cX9_init 122 = .ok (.bipush 24, 2) := by decide +kernel
theorem dX9_init_124 : decode cX9_init 124 = .ok (.if_icmp .ge 21, 3) := by decide +kernel
theorem dX9_init_127 : decode cX9_init 127 = .ok (.aload_n 0, 1) := by decide +kernel
theorem dX9_init_128 : decode cX9_init 128 = .ok (.getfield 7, 3) := by decide +kernel
theorem dX9_init_131 : decode cX9_init 131 = .ok (.bipush 8, 2) := by decide +kernel
theorem dX9_init_133 : decode cX9_init 133 = .ok (.iload_n 1, 1) := by decide +kernel
theorem dX9_init_134 : decode cX9_init 134 = .ok (.iadd, 1) := by decide +kernel
theorem dX9_init_135 : decode cX9_init 135 = .ok (.ldc2_w 41, 3) := by decide +kernel
theorem dX9_init_138 : decode cX9_init 138 = .ok (.lastore, 1) := by decide +kernel
theorem dX9_init_139 : decode cX9_init 139 = .ok (.iinc 1 1, 3) := by decide +kernel
theorem dX9_init_142 : decode cX9_init 142 = .ok (.goto (-21), 3) := by decide +kernel
theorem dX9_init_145 : decode cX9_init 145 = .ok (.return_, 1) := by decide +kernel
theorem dX9_thrown_0 : decode cX9_thrown 0 = .ok (.aload_n 0, 1) := by decide +kernel
theorem dX9_thrown_1 : decode cX9_thrown 1 = .ok (.getfield 43, 3) := by decide +kernel
theorem dX9_thrown_4 : decode cX9_thrown 4 = .ok (.ireturn, 1) := by decide +kernel
theorem dX9_refuse_0 : decode cX9_refuse 0 = .ok (.aload_n 0, 1) := by decide +kernel
theorem dX9_refuse_1 : decode cX9_refuse 1 = .ok (.iload_n 1, 1) := by decide +kernel
theorem dX9_refuse_2 : decode cX9_refuse 2 = .ok (.putfield 43, 3) := by decide +kernel
theorem dX9_refuse_5 : decode cX9_refuse 5 = .ok (.iconst 0, 1) := by decide +kernel
theorem dX9_refuse_6 : decode cX9_refuse 6 = .ok (.ireturn, 1) := by decide +kernel
theorem dX9_in_0 : decode cX9_in 0 = .ok (.lload_n 0, 1) := by decide +kernel
theorem dX9_in_1 : decode cX9_in 1 = .ok (.lload_n 2, 1) := by decide +kernel
theorem dX9_in_2 : decode cX9_in 2 = .ok (.lcmp, 1) := by decide +kernel
theorem dX9_in_3 : decode cX9_in 3 = .ok (.ifCond .lt 14, 3) := by decide +kernel
theorem dX9_in_6 : decode cX9_in 6 = .ok (.lload_n 0, 1) := by decide +kernel
theorem dX9_in_7 : decode cX9_in 7 = .ok (.lload 4, 2) := by decide +kernel
theorem dX9_in_9 : decode cX9_in 9 = .ok (.lcmp, 1) := by decide +kernel
theorem dX9_in_10 : decode cX9_in 10 = .ok (.ifCond .gt 7, 3) := by decide +kernel
theorem dX9_in_13 : decode cX9_in 13 = .ok (.iconst 1, 1) := by decide +kernel
theorem dX9_in_14 : decode cX9_in 14 = .ok (.goto 4, 3) := by decide +kernel
theorem dX9_in_17 : decode cX9_in 17 = .ok (.iconst 0, 1) := by decide +kernel
theorem dX9_in_18 : decode cX9_in 18 = .ok (.ireturn, 1) := by decide +kernel
set_option maxRecDepth 20000 in
theorem ggX9_isSilo_X9_in : GoodIn wsX9_isSilo wsX9_in := goodIn_r _ [5] (by decide +kernel) (by decide +kernel)
set_option maxRecDepth 20000 in
theorem gX9_isSilo_X9_in : GoodIn wsX9_isSilo (va_wsS RX9 47 yX9_in wsX9_in) := goodIn_app (goodIn_of _ (by decide +kernel)) ggX9_isSilo_X9_in
theorem dX9_isSilo_0 : decode cX9_isSilo 0 = .ok (.iload_n 1, 1) := by decide +kernel
theorem dX9_isSilo_1 : decode cX9_isSilo 1 = .ok (.i2l, 1) := by decide +kernel
theorem dX9_isSilo_2 : decode cX9_isSilo 2 = .ok (.lconst 0, 1) := by decide +kernel
theorem dX9_isSilo_3 : decode cX9_isSilo 3 = .ok (.aload_n 0, 1) := by decide +kernel
theorem dX9_isSilo_4 : decode cX9_isSilo 4 = .ok (.getfield 7, 3) := by decide +kernel
theorem dX9_isSilo_7 : decode cX9_isSilo 7 = .ok (.sipush 1880, 3) := by decide +kernel
theorem dX9_isSilo_10 : decode cX9_isSilo 10 = .ok (.laload, 1) := by decide +kernel
theorem dX9_isSilo_11 : decode cX9_isSilo 11 = .ok (.lconst 1, 1) := by decide +kernel
theorem dX9_isSilo_12 : decode cX9_isSilo 12 = .ok (.lsub, 1) := by decide +kernel
theorem dX9_isSilo_13 : decode cX9_isSilo 13 = .ok (.invokestatic 47, 3) := by decide +kernel
theorem dX9_isSilo_16 : decode cX9_isSilo 16 = .ok (.ireturn, 1) := by decide +kernel
set_option maxRecDepth 20000 in
theorem ggX9_isBoat_X9_in : GoodIn wsX9_isBoat wsX9_in := goodIn_r _ [5] (by decide +kernel) (by decide +kernel)
set_option maxRecDepth 20000 in
theorem gX9_isBoat_X9_in : GoodIn wsX9_isBoat (va_wsS RX9 47 yX9_in wsX9_in) := goodIn_app (goodIn_of _ (by decide +kernel)) ggX9_isBoat_X9_in
theorem dX9_isBoat_0 : decode cX9_isBoat 0 = .ok (.iload_n 1, 1) := by decide +kernel
theorem dX9_isBoat_1 : decode cX9_isBoat 1 = .ok (.i2l, 1) := by decide +kernel
theorem dX9_isBoat_2 : decode cX9_isBoat 2 = .ok (.lconst 0, 1) := by decide +kernel
theorem dX9_isBoat_3 : decode cX9_isBoat 3 = .ok (.aload_n 0, 1) := by decide +kernel
theorem dX9_isBoat_4 : decode cX9_isBoat 4 = .ok (.getfield 7, 3) := by decide +kernel
theorem dX9_isBoat_7 : decode cX9_isBoat 7 = .ok (.sipush 1881, 3) := by decide +kernel
theorem dX9_isBoat_10 : decode cX9_isBoat 10 = .ok (.laload, 1) := by decide +kernel
theorem dX9_isBoat_11 : decode cX9_isBoat 11 = .ok (.lconst 1, 1) := by decide +kernel
theorem dX9_isBoat_12 : decode cX9_isBoat 12 = .ok (.lsub, 1) := by decide +kernel
theorem dX9_isBoat_13 : decode cX9_isBoat 13 = .ok (.invokestatic 47, 3) := by decide +kernel
theorem dX9_isBoat_16 : decode cX9_isBoat 16 = .ok (.ireturn, 1) := by decide +kernel
set_option maxRecDepth 20000 in
theorem ggX9_isOrder_X9_in : GoodIn wsX9_isOrder wsX9_in := goodIn_r _ [5] (by decide +kernel) (by decide +kernel)
set_option maxRecDepth 20000 in
theorem gX9_isOrder_X9_in : GoodIn wsX9_isOrder (va_wsS RX9 47 yX9_in wsX9_in) := goodIn_app (goodIn_of _ (by decide +kernel)) ggX9_isOrder_X9_in
theorem dX9_isOrder_0 : decode cX9_isOrder 0 = .ok (.iload_n 1, 1) := by decide +kernel
theorem dX9_isOrder_1 : decode cX9_isOrder 1 = .ok (.i2l, 1) := by decide +kernel
theorem dX9_isOrder_2 : decode cX9_isOrder 2 = .ok (.lconst 0, 1) := by decide +kernel
theorem dX9_isOrder_3 : decode cX9_isOrder 3 = .ok (.aload_n 0, 1) := by decide +kernel
theorem dX9_isOrder_4 : decode cX9_isOrder 4 = .ok (.getfield 7, 3) := by decide +kernel
theorem dX9_isOrder_7 : decode cX9_isOrder 7 = .ok (.sipush 1882, 3) := by decide +kernel
theorem dX9_isOrder_10 : decode cX9_isOrder 10 = .ok (.laload, 1) := by decide +kernel
theorem dX9_isOrder_11 : decode cX9_isOrder 11 = .ok (.lconst 1, 1) := by decide +kernel
theorem dX9_isOrder_12 : decode cX9_isOrder 12 = .ok (.lsub, 1) := by decide +kernel
theorem dX9_isOrder_13 : decode cX9_isOrder 13 = .ok (.invokestatic 47, 3) := by decide +kernel
theorem dX9_isOrder_16 : decode cX9_isOrder 16 = .ok (.ireturn, 1) := by decide +kernel
theorem dX9_save_0 : decode cX9_save 0 = .ok (.aload_n 0, 1) := by decide +kernel
theorem dX9_save_1 : decode cX9_save 1 = .ok (.getfield 51, 3) := by decide +kernel
theorem dX9_save_4 : decode cX9_save 4 = .ok (.bipush 8, 2) := by decide +kernel
theorem dX9_save_6 : decode cX9_save 6 = .ok (.if_icmp .ne 44, 3) := by decide +kernel
theorem dX9_save_9 : decode cX9_save 9 = .ok (.iconst 0, 1) := by decide +kernel
theorem dX9_save_10 : decode cX9_save 10 = .ok (.istore_n 1, 1) := by decide +kernel
theorem dX9_save_11 : decode cX9_save 11 = .ok (.iload_n 1, 1) := by decide +kernel
theorem dX9_save_12 : decode cX9_save 12 = .ok (.sipush 13216, 3) := by decide +kernel
theorem dX9_save_15 : decode cX9_save 15 = .ok (.if_icmp .ge 25, 3) := by decide +kernel
theorem dX9_save_18 : decode cX9_save 18 = .ok (.aload_n 0, 1) := by decide +kernel
theorem dX9_save_19 : decode cX9_save 19 = .ok (.getfield 13, 3) := by decide +kernel
theorem dX9_save_22 : decode cX9_save 22 = .ok (.iload_n 1, 1) := by decide +kernel
theorem dX9_save_23 : decode cX9_save 23 = .ok (.aload_n 0, 1) := by decide +kernel
theorem dX9_save_24 : decode cX9_save 24 = .ok (.getfield 13, 3) := by decide +kernel
theorem dX9_save_27 : decode cX9_save 27 = .ok (.iload_n 1, 1) := by decide +kernel
theorem dX9_save_28 : decode cX9_save 28 = .ok (.sipush 1888, 3) := by decide +kernel
theorem dX9_save_31 : decode cX9_save 31 = .ok (.iadd, 1) := by decide +kernel
theorem dX9_save_32 : decode cX9_save 32 = .ok (.laload, 1) := by decide +kernel
theorem dX9_save_33 : decode cX9_save 33 = .ok (.lastore, 1) := by decide +kernel
theorem dX9_save_34 : decode cX9_save 34 = .ok (.iinc 1 1, 3) := by decide +kernel
theorem dX9_save_37 : decode cX9_save 37 = .ok (.goto (-26), 3) := by decide +kernel
theorem dX9_save_40 : decode cX9_save 40 = .ok (.aload_n 0, 1) := by decide +kernel
theorem dX9_save_41 : decode cX9_save 41 = .ok (.dup, 1) := by decide +kernel
theorem dX9_save_42 : decode cX9_save 42 = .ok (.getfield 51, 3) := by decide +kernel
theorem dX9_save_45 : decode cX9_save 45 = .ok (.iconst 1, 1) := by decide +kernel
theorem dX9_save_46 : decode cX9_save 46 = .ok (.isub, 1) := by decide +kernel
theorem dX9_save_47 : decode cX9_save 47 = .ok (.putfield 51, 3) := by decide +kernel
theorem dX9_save_50 : decode cX9_save 50 = .ok (.iconst 0, 1) := by decide +kernel
theorem dX9_save_51 : decode cX9_save 51 = .ok (.istore_n 1, 1) := by decide +kernel
theorem dX9_save_52 : decode cX9_save 52 = .ok (.iload_n 1, 1) := by decide +kernel
theorem dX9_save_53 : decode cX9_save 53 = .ok (.sipush 1888, 3) := by decide +kernel
theorem dX9_save_56 : decode cX9_save 56 = .ok (.if_icmp .ge 30, 3) := by decide +kernel
theorem dX9_save_59 : decode cX9_save 59 = .ok (.aload_n 0, 1) := by decide +kernel
theorem dX9_save_60 : decode cX9_save 60 = .ok (.getfield 13, 3) := by decide +kernel
theorem dX9_save_63 : decode cX9_save 63 = .ok (.aload_n 0, 1) := by decide +kernel
theorem dX9_save_64 : decode cX9_save 64 = .ok (.getfield 51, 3) := by decide +kernel
theorem dX9_save_67 : decode cX9_save 67 = .ok (.sipush 1888, 3) := by decide +kernel
theorem dX9_save_70 : decode cX9_save 70 = .ok (.imul, 1) := by decide +kernel
theorem dX9_save_71 : decode cX9_save 71 = .ok (.iload_n 1, 1) := by decide +kernel
theorem dX9_save_72 : decode cX9_save 72 = .ok (.iadd, 1) := by decide +kernel
theorem dX9_save_73 : decode cX9_save 73 = .ok (.aload_n 0, 1) := by decide +kernel
theorem dX9_save_74 : decode cX9_save 74 = .ok (.getfield 7, 3) := by decide +kernel
theorem dX9_save_77 : decode cX9_save 77 = .ok (.iload_n 1, 1) := by decide +kernel
theorem dX9_save_78 : decode cX9_save 78 = .ok (.laload, 1) := by decide +kernel
theorem dX9_save_79 : decode cX9_save 79 = .ok (.lastore, 1) := by decide +kernel
theorem dX9_save_80 : decode cX9_save 80 = .ok (.iinc 1 1, 3) := by decide +kernel
theorem dX9_save_83 : decode cX9_save 83 = .ok (.goto (-31), 3) := by decide +kernel
theorem dX9_save_86 : decode cX9_save 86 = .ok (.aload_n 0, 1) := by decide +kernel
theorem dX9_save_87 : decode cX9_save 87 = .ok (.dup, 1) := by decide +kernel
theorem dX9_save_88 : decode cX9_save 88 = .ok (.getfield 51, 3) := by decide +kernel
theorem dX9_save_91 : decode cX9_save 91 = .ok (.iconst 1, 1) := by decide +kernel
theorem dX9_save_92 : decode cX9_save 92 = .ok (.iadd, 1) := by decide +kernel
theorem dX9_save_93 : decode cX9_save 93 = .ok (.putfield 51, 3) := by decide +kernel
theorem dX9_save_96 : decode cX9_save 96 = .ok (.return_, 1) := by decide +kernel
set_option maxRecDepth 20000 in
theorem ggX9_addSilo_X9_in : GoodIn wsX9_addSilo wsX9_in := goodIn_r _ [10] (by decide +kernel) (by decide +kernel)
set_option maxRecDepth 20000 in
theorem gX9_addSilo_X9_in : GoodIn wsX9_addSilo (va_wsS RX9 47 yX9_in wsX9_in) := goodIn_app (goodIn_of _ (by decide +kernel)) ggX9_addSilo_X9_in
set_option maxRecDepth 20000 in
theorem ggX9_addSilo_X9_refuse : GoodIn wsX9_addSilo wsX9_refuse := goodIn_r _ [14, 1, 21, 22, 23, 24, 25, 26, 27, 28, 29, 30, 31, 32, 33] (by decide +kernel) (by decide +kernel)
set_option maxRecDepth 20000 in
theorem gX9_addSilo_X9_refuse : GoodIn wsX9_addSilo (wsV RX9 60 RX9 yX9_refuse wsX9_refuse) := goodIn_app (goodIn_of _ (by decide +kernel)) ggX9_addSilo_X9_refuse
set_option maxRecDepth 20000 in
theorem ggX9_addSilo_X9_save : GoodIn wsX9_addSilo wsX9_save := goodIn_r _ [18, 19, 20, 5, 21, 22, 23, 24, 25, 26, 27, 28, 29, 30, 31, 32, 33] (by decide +kernel) (by decide +kernel)
set_option maxRecDepth 20000 in
theorem gX9_addSilo_X9_save : GoodIn wsX9_addSilo (wsV RX9 66 RX9 yX9_save wsX9_save) := goodIn_app (goodIn_of _ (by decide +kernel)) ggX9_addSilo_X9_save
theorem dX9_addSilo_0 : decode cX9_addSilo 0 = .ok (.aload_n 0, 1) := by decide +kernel
theorem dX9_addSilo_1 : decode cX9_addSilo 1 = .ok (.iconst 0, 1) := by decide +kernel
theorem dX9_addSilo_2 : decode cX9_addSilo 2 = .ok (.putfield 43, 3) := by decide +kernel
theorem dX9_addSilo_5 : decode cX9_addSilo 5 = .ok (.iload_n 1, 1) := by decide +kernel
theorem dX9_addSilo_6 : decode cX9_addSilo 6 = .ok (.i2l, 1) := by decide +kernel
theorem dX9_addSilo_7 : decode cX9_addSilo 7 = .ok (.lconst 1, 1) := by decide +kernel
theorem dX9_addSilo_8 : decode cX9_addSilo 8 = .ok (.ldc2_w 54, 3) := by decide +kernel
theorem dX9_addSilo_11 : decode cX9_addSilo 11 = .ok (.invokestatic 47, 3) := by decide +kernel
theorem dX9_addSilo_14 : decode cX9_addSilo 14 = .ok (.ifCond .eq 27, 3) := by decide +kernel
theorem dX9_addSilo_17 : decode cX9_addSilo 17 = .ok (.iload_n 2, 1) := by decide +kernel
theorem dX9_addSilo_18 : decode cX9_addSilo 18 = .ok (.i2l, 1) := by decide +kernel
theorem dX9_addSilo_19 : decode cX9_addSilo 19 = .ok (.lconst 0, 1) := by decide +kernel
theorem dX9_addSilo_20 : decode cX9_addSilo 20 = .ok (.ldc2_w 56, 3) := by decide +kernel
theorem dX9_addSilo_23 : decode cX9_addSilo 23 = .ok (.invokestatic 47, 3) := by decide +kernel
theorem dX9_addSilo_26 : decode cX9_addSilo 26 = .ok (.ifCond .eq 15, 3) := by decide +kernel
theorem dX9_addSilo_29 : decode cX9_addSilo 29 = .ok (.iload_n 3, 1) := by decide +kernel
theorem dX9_addSilo_30 : decode cX9_addSilo 30 = .ok (.i2l, 1) := by decide +kernel
theorem dX9_addSilo_31 : decode cX9_addSilo 31 = .ok (.lconst 0, 1) := by decide +kernel
theorem dX9_addSilo_32 : decode cX9_addSilo 32 = .ok (.ldc2_w 58, 3) := by decide +kernel
theorem dX9_addSilo_35 : decode cX9_addSilo 35 = .ok (.invokestatic 47, 3) := by decide +kernel
theorem dX9_addSilo_38 : decode cX9_addSilo 38 = .ok (.ifCond .ne 9, 3) := by decide +kernel
theorem dX9_addSilo_41 : decode cX9_addSilo 41 = .ok (.aload_n 0, 1) := by decide +kernel
theorem dX9_addSilo_42 : decode cX9_addSilo 42 = .ok (.iconst 1, 1) := by decide +kernel
theorem dX9_addSilo_43 : decode cX9_addSilo 43 = .ok (.invokevirtual 60, 3) := by decide +kernel
theorem dX9_addSilo_46 : decode cX9_addSilo 46 = .ok (.ireturn, 1) := by decide +kernel
theorem dX9_addSilo_47 : decode cX9_addSilo 47 = .ok (.aload_n 0, 1) := by decide +kernel
theorem dX9_addSilo_48 : decode cX9_addSilo 48 = .ok (.getfield 7, 3) := by decide +kernel
theorem dX9_addSilo_51 : decode cX9_addSilo 51 = .ok (.sipush 1880, 3) := by decide +kernel
theorem dX9_addSilo_54 : decode cX9_addSilo 54 = .ok (.laload, 1) := by decide +kernel
theorem dX9_addSilo_55 : decode cX9_addSilo 55 = .ok (.ldc2_w 64, 3) := by decide +kernel
theorem dX9_addSilo_58 : decode cX9_addSilo 58 = .ok (.lcmp, 1) := by decide +kernel
theorem dX9_addSilo_59 : decode cX9_addSilo 59 = .ok (.ifCond .ne 9, 3) := by decide +kernel
theorem dX9_addSilo_62 : decode cX9_addSilo 62 = .ok (.aload_n 0, 1) := by decide +kernel
theorem dX9_addSilo_63 : decode cX9_addSilo 63 = .ok (.iconst 2, 1) := by decide +kernel
theorem dX9_addSilo_64 : decode cX9_addSilo 64 = .ok (.invokevirtual 60, 3) := by decide +kernel
theorem dX9_addSilo_67 : decode cX9_addSilo 67 = .ok (.ireturn, 1) := by decide +kernel
theorem dX9_addSilo_68 : decode cX9_addSilo 68 = .ok (.aload_n 0, 1) := by decide +kernel
theorem dX9_addSilo_69 : decode cX9_addSilo 69 = .ok (.invokevirtual 66, 3) := by decide +kernel
theorem dX9_addSilo_72 : decode cX9_addSilo 72 = .ok (.aload_n 0, 1) := by decide +kernel
theorem dX9_addSilo_73 : decode cX9_addSilo 73 = .ok (.getfield 7, 3) := by decide +kernel
theorem dX9_addSilo_76 : decode cX9_addSilo 76 = .ok (.sipush 1880, 3) := by decide +kernel
theorem dX9_addSilo_79 : decode cX9_addSilo 79 = .ok (.laload, 1) := by decide +kernel
theorem dX9_addSilo_80 : decode cX9_addSilo 80 = .ok (.l2i, 1) := by decide +kernel
theorem dX9_addSilo_81 : decode cX9_addSilo 81 = .ok (.istore 4, 2) := by decide +kernel
theorem dX9_addSilo_83 : decode cX9_addSilo 83 = .ok (.aload_n 0, 1) := by decide +kernel
theorem dX9_addSilo_84 : decode cX9_addSilo 84 = .ok (.getfield 7, 3) := by decide +kernel
theorem dX9_addSilo_87 : decode cX9_addSilo 87 = .ok (.bipush 32, 2) := by decide +kernel
theorem dX9_addSilo_89 : decode cX9_addSilo 89 = .ok (.iload 4, 2) := by decide +kernel
theorem dX9_addSilo_91 : decode cX9_addSilo 91 = .ok (.iadd, 1) := by decide +kernel
theorem dX9_addSilo_92 : decode cX9_addSilo 92 = .ok (.iload_n 1, 1) := by decide +kernel
theorem dX9_addSilo_93 : decode cX9_addSilo 93 = .ok (.i2l, 1) := by decide +kernel
theorem dX9_addSilo_94 : decode cX9_addSilo 94 = .ok (.lastore, 1) := by decide +kernel
theorem dX9_addSilo_95 : decode cX9_addSilo 95 = .ok (.aload_n 0, 1) := by decide +kernel
theorem dX9_addSilo_96 : decode cX9_addSilo 96 = .ok (.getfield 7, 3) := by decide +kernel
theorem dX9_addSilo_99 : decode cX9_addSilo 99 = .ok (.bipush 37, 2) := by decide +kernel
theorem dX9_addSilo_101 : decode cX9_addSilo 101 = .ok (.iload 4, 2) := by decide +kernel
theorem dX9_addSilo_103 : decode cX9_addSilo 103 = .ok (.iadd, 1) := by decide +kernel
theorem dX9_addSilo_104 : decode cX9_addSilo 104 = .ok (.iload_n 2, 1) := by decide +kernel
theorem dX9_addSilo_105 : decode cX9_addSilo 105 = .ok (.i2l, 1) := by decide +kernel
theorem dX9_addSilo_106 : decode cX9_addSilo 106 = .ok (.lastore, 1) := by decide +kernel
theorem dX9_addSilo_107 : decode cX9_addSilo 107 = .ok (.aload_n 0, 1) := by decide +kernel
theorem dX9_addSilo_108 : decode cX9_addSilo 108 = .ok (.getfield 7, 3) := by decide +kernel
theorem dX9_addSilo_111 : decode cX9_addSilo 111 = .ok (.bipush 42, 2) := by decide +kernel
theorem dX9_addSilo_113 : decode cX9_addSilo 113 = .ok (.iload 4, 2) := by decide +kernel
theorem dX9_addSilo_115 : decode cX9_addSilo 115 = .ok (.iadd, 1) := by decide +kernel
theorem dX9_addSilo_116 : decode cX9_addSilo 116 = .ok (.iload_n 3, 1) := by decide +kernel
theorem dX9_addSilo_117 : decode cX9_addSilo 117 = .ok (.i2l, 1) := by decide +kernel
theorem dX9_addSilo_118 : decode cX9_addSilo 118 = .ok (.lastore, 1) := by decide +kernel
theorem dX9_addSilo_119 : decode cX9_addSilo 119 = .ok (.aload_n 0, 1) := by decide +kernel
theorem dX9_addSilo_120 : decode cX9_addSilo 120 = .ok (.getfield 7, 3) := by decide +kernel
theorem dX9_addSilo_123 : decode cX9_addSilo 123 = .ok (.sipush 1880, 3) := by decide +kernel
theorem dX9_addSilo_126 : decode cX9_addSilo 126 = .ok (.dup2, 1) := by decide +kernel
theorem dX9_addSilo_127 : decode cX9_addSilo 127 = .ok (.laload, 1) := by decide +kernel
theorem dX9_addSilo_128 : decode cX9_addSilo 128 = .ok (.lconst 1, 1) := by decide +kernel
theorem dX9_addSilo_129 : decode cX9_addSilo 129 = .ok (.ladd, 1) := by decide +kernel
theorem dX9_addSilo_130 : decode cX9_addSilo 130 = .ok (.lastore, 1) := by decide +kernel
theorem dX9_addSilo_131 : decode cX9_addSilo 131 = .ok (.iload 4, 2) := by decide +kernel
theorem dX9_addSilo_133 : decode cX9_addSilo 133 = .ok (.ireturn, 1) := by decide +kernel
set_option maxRecDepth 20000 in
theorem ggX9_change_X9_save : GoodIn wsX9_change wsX9_save := goodIn_r _ [6, 7, 8, 1, 9, 10, 11, 12, 13, 14, 15, 16, 17, 18, 19, 20, 21] (by decide +kernel) (by decide +kernel)
set_option maxRecDepth 20000 in
theorem gX9_change_X9_save : GoodIn wsX9_change (wsV RX9 66 RX9 yX9_save wsX9_save) := goodIn_app (goodIn_of _ (by decide +kernel)) ggX9_change_X9_save
theorem dX9_change_0 : decode cX9_change 0 = .ok (.aload_n 0, 1) := by decide +kernel
theorem dX9_change_1 : decode cX9_change 1 = .ok (.invokevirtual 66, 3) := by decide +kernel
theorem dX9_change_4 : decode cX9_change 4 = .ok (.aload_n 0, 1) := by decide +kernel
theorem dX9_change_5 : decode cX9_change 5 = .ok (.getfield 7, 3) := by decide +kernel
theorem dX9_change_8 : decode cX9_change 8 = .ok (.iload_n 1, 1) := by decide +kernel
theorem dX9_change_9 : decode cX9_change 9 = .ok (.laload, 1) := by decide +kernel
theorem dX9_change_10 : decode cX9_change 10 = .ok (.l2i, 1) := by decide +kernel
theorem dX9_change_11 : decode cX9_change 11 = .ok (.istore_n 3, 1) := by decide +kernel
theorem dX9_change_12 : decode cX9_change 12 = .ok (.aload_n 0, 1) := by decide +kernel
theorem dX9_change_13 : decode cX9_change 13 = .ok (.getfield 7, 3) := by decide +kernel
theorem dX9_change_16 : decode cX9_change 16 = .ok (.iload_n 1, 1) := by decide +kernel
theorem dX9_change_17 : decode cX9_change 17 = .ok (.iload_n 2, 1) := by decide +kernel
theorem dX9_change_18 : decode cX9_change 18 = .ok (.i2l, 1) := by decide +kernel
theorem dX9_change_19 : decode cX9_change 19 = .ok (.lastore, 1) := by decide +kernel
theorem dX9_change_20 : decode cX9_change 20 = .ok (.iload_n 3, 1) := by decide +kernel
theorem dX9_change_21 : decode cX9_change 21 = .ok (.ireturn, 1) := by decide +kernel
set_option maxRecDepth 20000 in
theorem ggX9_setRule_X9_isSilo : GoodIn wsX9_setRule wsX9_isSilo := goodIn_r _ [7, 8, 9, 10, 6, 11, 26, 27, 28, 29, 30, 31, 32, 33, 34, 35, 36, 37, 38] (by decide +kernel) (by decide +kernel)
set_option maxRecDepth 20000 in
theorem gX9_setRule_X9_isSilo : GoodIn wsX9_setRule (wsV RX9 69 RX9 yX9_isSilo wsX9_isSilo) := goodIn_app (goodIn_of _ (by decide +kernel)) ggX9_setRule_X9_isSilo
set_option maxRecDepth 20000 in
theorem ggX9_setRule_X9_refuse : GoodIn wsX9_setRule wsX9_refuse := goodIn_r _ [15, 1, 26, 27, 28, 29, 30, 31, 32, 33, 34, 35, 36, 37, 38] (by decide +kernel) (by decide +kernel)
set_option maxRecDepth 20000 in
theorem gX9_setRule_X9_refuse : GoodIn wsX9_setRule (wsV RX9 60 RX9 yX9_refuse wsX9_refuse) := goodIn_app (goodIn_of _ (by decide +kernel)) ggX9_setRule_X9_refuse
set_option maxRecDepth 20000 in
theorem ggX9_setRule_X9_in : GoodIn wsX9_setRule wsX9_in := goodIn_r _ [11] (by decide +kernel) (by decide +kernel)
set_option maxRecDepth 20000 in
theorem gX9_setRule_X9_in : GoodIn wsX9_setRule (va_wsS RX9 47 yX9_in wsX9_in) := goodIn_app (goodIn_of _ (by decide +kernel)) ggX9_setRule_X9_in
set_option maxRecDepth 20000 in
theorem ggX9_setRule_X9_change : GoodIn wsX9_setRule wsX9_change := goodIn_r _ [19, 8, 20, 21, 22, 6, 23, 24, 25, 26, 27, 28, 29, 30, 31, 32, 33, 34, 35, 36, 37, 38] (by decide +kernel) (by decide +kernel)
set_option maxRecDepth 20000 in
theorem gX9_setRule_X9_change : GoodIn wsX9_setRule (wsV RX9 73 RX9 yX9_change wsX9_change) := goodIn_app (goodIn_of _ (by decide +kernel)) ggX9_setRule_X9_change
theorem dX9_setRule_0 : decode cX9_setRule 0 = .ok (.aload_n 0, 1) := by decide +kernel
theorem dX9_setRule_1 : decode cX9_setRule 1 = .ok (.iconst 0, 1) := by decide +kernel
theorem dX9_setRule_2 : decode cX9_setRule 2 = .ok (.putfield 43, 3) := by decide +kernel
theorem dX9_setRule_5 : decode cX9_setRule 5 = .ok (.aload_n 0, 1) := by decide +kernel
theorem dX9_setRule_6 : decode cX9_setRule 6 = .ok (.iload_n 1, 1) := by decide +kernel
theorem dX9_setRule_7 : decode cX9_setRule 7 = .ok (.invokevirtual 69, 3) := by decide +kernel
theorem dX9_setRule_10 : decode cX9_setRule 10 = .ok (.ifCond .ne 9, 3) := by decide +kernel
theorem dX9_setRule_13 : decode cX9_setRule 13 = .ok (.aload_n 0, 1) := by decide +kernel
theorem dX9_setRule_14 : decode cX9_setRule 14 = .ok (.iconst 1, 1) := by decide +kernel
theorem dX9_setRule_15 : decode cX9_setRule 15 = .ok (.invokevirtual 60, 3) := by decide +kernel
theorem dX9_setRule_18 : decode cX9_setRule 18 = .ok (.ireturn, 1) := by decide +kernel
theorem dX9_setRule_19 : decode cX9_setRule 19 = .ok (.iload_n 2, 1) := by decide +kernel
theorem dX9_setRule_20 : decode cX9_setRule 20 = .ok (.i2l, 1) := by decide +kernel
theorem dX9_setRule_21 : decode cX9_setRule 21 = .ok (.lconst 0, 1) := by decide +kernel
theorem dX9_setRule_22 : decode cX9_setRule 22 = .ok (.ldc2_w 56, 3) := by decide +kernel
theorem dX9_setRule_25 : decode cX9_setRule 25 = .ok (.invokestatic 47, 3) := by decide +kernel
theorem dX9_setRule_28 : decode cX9_setRule 28 = .ok (.ifCond .eq 15, 3) := by decide +kernel
theorem dX9_setRule_31 : decode cX9_setRule 31 = .ok (.aload_n 0, 1) := by decide +kernel
theorem dX9_setRule_32 : decode cX9_setRule 32 = .ok (.bipush 37, 2) := by decide +kernel
theorem dX9_setRule_34 : decode cX9_setRule 34 = .ok (.iload_n 1, 1) := by decide +kernel
theorem dX9_setRule_35 : decode cX9_setRule 35 = .ok (.iadd, 1) := by decide +kernel
theorem dX9_setRule_36 : decode cX9_setRule 36 = .ok (.iload_n 2, 1) := by decide +kernel
theorem dX9_setRule_37 : decode cX9_setRule 37 = .ok (.invokevirtual 73, 3) := by decide +kernel
theorem dX9_setRule_40 : decode cX9_setRule 40 = .ok (.goto 8, 3) := by decide +kernel
theorem dX9_setRule_43 : decode cX9_setRule 43 = .ok (.aload_n 0, 1) := by decide +kernel
theorem dX9_setRule_44 : decode cX9_setRule 44 = .ok (.iconst 2, 1) := by decide +kernel
theorem dX9_setRule_45 : decode cX9_setRule 45 = .ok (.invokevirtual 60, 3) := by decide +kernel
theorem dX9_setRule_48 : decode cX9_setRule 48 = .ok (.ireturn, 1) := by decide +kernel
set_option maxRecDepth 20000 in
theorem ggX9_setStrength_X9_isSilo : GoodIn wsX9_setStrength wsX9_isSilo := goodIn_r _ [7, 8, 9, 10, 6, 11, 26, 27, 28, 29, 30, 31, 32, 33, 34, 35, 36, 37, 38] (by decide +kernel) (by decide +kernel)
set_option maxRecDepth 20000 in
theorem gX9_setStrength_X9_isSilo : GoodIn wsX9_setStrength (wsV RX9 69 RX9 yX9_isSilo wsX9_isSilo) := goodIn_app (goodIn_of _ (by decide +kernel)) ggX9_setStrength_X9_isSilo
set_option maxRecDepth 20000 in
theorem ggX9_setStrength_X9_refuse : GoodIn wsX9_setStrength wsX9_refuse := goodIn_r _ [15, 1, 26, 27, 28, 29, 30, 31, 32, 33, 34, 35, 36, 37, 38] (by decide +kernel) (by decide +kernel)
set_option maxRecDepth 20000 in
theorem gX9_setStrength_X9_refuse : GoodIn wsX9_setStrength (wsV RX9 60 RX9 yX9_refuse wsX9_refuse) := goodIn_app (goodIn_of _ (by decide +kernel)) ggX9_setStrength_X9_refuse
set_option maxRecDepth 20000 in
theorem ggX9_setStrength_X9_in : GoodIn wsX9_setStrength wsX9_in := goodIn_r _ [11] (by decide +kernel) (by decide +kernel)
set_option maxRecDepth 20000 in
theorem gX9_setStrength_X9_in : GoodIn wsX9_setStrength (va_wsS RX9 47 yX9_in wsX9_in) := goodIn_app (goodIn_of _ (by decide +kernel)) ggX9_setStrength_X9_in
set_option maxRecDepth 20000 in
theorem ggX9_setStrength_X9_change : GoodIn wsX9_setStrength wsX9_change := goodIn_r _ [19, 8, 20, 21, 22, 6, 23, 24, 25, 26, 27, 28, 29, 30, 31, 32, 33, 34, 35, 36, 37, 38] (by decide +kernel) (by decide +kernel)
set_option maxRecDepth 20000 in
theorem gX9_setStrength_X9_change : GoodIn wsX9_setStrength (wsV RX9 73 RX9 yX9_change wsX9_change) := goodIn_app (goodIn_of _ (by decide +kernel)) ggX9_setStrength_X9_change
theorem dX9_setStrength_0 : decode cX9_setStrength 0 = .ok (.aload_n 0, 1) := by decide +kernel
theorem dX9_setStrength_1 : decode cX9_setStrength 1 = .ok (.iconst 0, 1) := by decide +kernel
theorem dX9_setStrength_2 : decode cX9_setStrength 2 = .ok (.putfield 43, 3) := by decide +kernel
theorem dX9_setStrength_5 : decode cX9_setStrength 5 = .ok (.aload_n 0, 1) := by decide +kernel
theorem dX9_setStrength_6 : decode cX9_setStrength 6 = .ok (.iload_n 1, 1) := by decide +kernel
theorem dX9_setStrength_7 : decode cX9_setStrength 7 = .ok (.invokevirtual 69, 3) := by decide +kernel
theorem dX9_setStrength_10 : decode cX9_setStrength 10 = .ok (.ifCond .ne 9, 3) := by decide +kernel
theorem dX9_setStrength_13 : decode cX9_setStrength 13 = .ok (.aload_n 0, 1) := by decide +kernel
theorem dX9_setStrength_14 : decode cX9_setStrength 14 = .ok (.iconst 1, 1) := by decide +kernel
theorem dX9_setStrength_15 : decode cX9_setStrength 15 = .ok (.invokevirtual 60, 3) := by decide +kernel
theorem dX9_setStrength_18 : decode cX9_setStrength 18 = .ok (.ireturn, 1) := by decide +kernel
theorem dX9_setStrength_19 : decode cX9_setStrength 19 = .ok (.iload_n 2, 1) := by decide +kernel
theorem dX9_setStrength_20 : decode cX9_setStrength 20 = .ok (.i2l, 1) := by decide +kernel
theorem dX9_setStrength_21 : decode cX9_setStrength 21 = .ok (.lconst 0, 1) := by decide +kernel
theorem dX9_setStrength_22 : decode cX9_setStrength 22 = .ok (.ldc2_w 58, 3) := by decide +kernel
theorem dX9_setStrength_25 : decode cX9_setStrength 25 = .ok (.invokestatic 47, 3) := by decide +kernel
theorem dX9_setStrength_28 : decode cX9_setStrength 28 = .ok (.ifCond .eq 15, 3) := by decide +kernel
theorem dX9_setStrength_31 : decode cX9_setStrength 31 = .ok (.aload_n 0, 1) := by decide +kernel
theorem dX9_setStrength_32 : decode cX9_setStrength 32 = .ok (.bipush 42, 2) := by decide +kernel
theorem dX9_setStrength_34 : decode cX9_setStrength 34 = .ok (.iload_n 1, 1) := by decide +kernel
theorem dX9_setStrength_35 : decode cX9_setStrength 35 = .ok (.iadd, 1) := by decide +kernel
theorem dX9_setStrength_36 : decode cX9_setStrength 36 = .ok (.iload_n 2, 1) := by decide +kernel
theorem dX9_setStrength_37 : decode cX9_setStrength 37 = .ok (.invokevirtual 73, 3) := by decide +kernel
theorem dX9_setStrength_40 : decode cX9_setStrength 40 = .ok (.goto 8, 3) := by decide +kernel
theorem dX9_setStrength_43 : decode cX9_setStrength 43 = .ok (.aload_n 0, 1) := by decide +kernel
theorem dX9_setStrength_44 : decode cX9_setStrength 44 = .ok (.iconst 2, 1) := by decide +kernel
theorem dX9_setStrength_45 : decode cX9_setStrength 45 = .ok (.invokevirtual 60, 3) := by decide +kernel
theorem dX9_setStrength_48 : decode cX9_setStrength 48 = .ok (.ireturn, 1) := by decide +kernel
set_option maxRecDepth 20000 in
theorem ggX9_setTemperature_X9_in : GoodIn wsX9_setTemperature wsX9_in := goodIn_r _ [8] (by decide +kernel) (by decide +kernel)
set_option maxRecDepth 20000 in
theorem gX9_setTemperature_X9_in : GoodIn wsX9_setTemperature (va_wsS RX9 47 yX9_in wsX9_in) := goodIn_app (goodIn_of _ (by decide +kernel)) ggX9_setTemperature_X9_in
set_option maxRecDepth 20000 in
theorem ggX9_setTemperature_X9_refuse : GoodIn wsX9_setTemperature wsX9_refuse := goodIn_r _ [12, 1, 24, 25, 26, 27, 28, 29, 30, 31, 32, 33, 34, 35, 36] (by decide +kernel) (by decide +kernel)
set_option maxRecDepth 20000 in
theorem gX9_setTemperature_X9_refuse : GoodIn wsX9_setTemperature (wsV RX9 60 RX9 yX9_refuse wsX9_refuse) := goodIn_app (goodIn_of _ (by decide +kernel)) ggX9_setTemperature_X9_refuse
set_option maxRecDepth 20000 in
theorem ggX9_setTemperature_X9_change : GoodIn wsX9_setTemperature wsX9_change := goodIn_r _ [16, 17, 18, 19, 20, 7, 21, 22, 23, 24, 25, 26, 27, 28, 29, 30, 31, 32, 33, 34, 35, 36] (by decide +kernel) (by decide +kernel)
set_option maxRecDepth 20000 in
theorem gX9_setTemperature_X9_change : GoodIn wsX9_setTemperature (wsV RX9 73 RX9 yX9_change wsX9_change) := goodIn_app (goodIn_of _ (by decide +kernel)) ggX9_setTemperature_X9_change
theorem dX9_setTemperature_0 : decode cX9_setTemperature 0 = .ok (.aload_n 0, 1) := by decide +kernel
theorem dX9_setTemperature_1 : decode cX9_setTemperature 1 = .ok (.iconst 0, 1) := by decide +kernel
theorem dX9_setTemperature_2 : decode cX9_setTemperature 2 = .ok (.putfield 43, 3) := by decide +kernel
theorem dX9_setTemperature_5 : decode cX9_setTemperature 5 = .ok (.iload_n 1, 1) := by decide +kernel
theorem dX9_setTemperature_6 : decode cX9_setTemperature 6 = .ok (.i2l, 1) := by decide +kernel
theorem dX9_setTemperature_7 : decode cX9_setTemperature 7 = .ok (.lconst 0, 1) := by decide +kernel
theorem dX9_setTemperature_8 : decode cX9_setTemperature 8 = .ok (.ldc2_w 77, 3) := by decide +kernel
theorem dX9_setTemperature_11 : decode cX9_setTemperature 11 = .ok (.invokestatic 47, 3) := by decide +kernel
theorem dX9_setTemperature_14 : decode cX9_setTemperature 14 = .ok (.ifCond .ne 9, 3) := by decide +kernel
theorem dX9_setTemperature_17 : decode cX9_setTemperature 17 = .ok (.aload_n 0, 1) := by decide +kernel
theorem dX9_setTemperature_18 : decode cX9_setTemperature 18 = .ok (.iconst 1, 1) := by decide +kernel
theorem dX9_setTemperature_19 : decode cX9_setTemperature 19 = .ok (.invokevirtual 60, 3) := by decide +kernel
theorem dX9_setTemperature_22 : decode cX9_setTemperature 22 = .ok (.ireturn, 1) := by decide +kernel
theorem dX9_setTemperature_23 : decode cX9_setTemperature 23 = .ok (.iload_n 2, 1) := by decide +kernel
theorem dX9_setTemperature_24 : decode cX9_setTemperature 24 = .ok (.i2l, 1) := by decide +kernel
theorem dX9_setTemperature_25 : decode cX9_setTemperature 25 = .ok (.ldc2_w 79, 3) := by decide +kernel
theorem dX9_setTemperature_28 : decode cX9_setTemperature 28 = .ok (.ldc2_w 81, 3) := by decide +kernel
theorem dX9_setTemperature_31 : decode cX9_setTemperature 31 = .ok (.invokestatic 47, 3) := by decide +kernel
theorem dX9_setTemperature_34 : decode cX9_setTemperature 34 = .ok (.ifCond .eq 15, 3) := by decide +kernel
theorem dX9_setTemperature_37 : decode cX9_setTemperature 37 = .ok (.aload_n 0, 1) := by decide +kernel
theorem dX9_setTemperature_38 : decode cX9_setTemperature 38 = .ok (.bipush 8, 2) := by decide +kernel
theorem dX9_setTemperature_40 : decode cX9_setTemperature 40 = .ok (.iload_n 1, 1) := by decide +kernel
theorem dX9_setTemperature_41 : decode cX9_setTemperature 41 = .ok (.iadd, 1) := by decide +kernel
theorem dX9_setTemperature_42 : decode cX9_setTemperature 42 = .ok (.iload_n 2, 1) := by decide +kernel
theorem dX9_setTemperature_43 : decode cX9_setTemperature 43 = .ok (.invokevirtual 73, 3) := by decide +kernel
theorem dX9_setTemperature_46 : decode cX9_setTemperature 46 = .ok (.goto 8, 3) := by decide +kernel
theorem dX9_setTemperature_49 : decode cX9_setTemperature 49 = .ok (.aload_n 0, 1) := by decide +kernel
theorem dX9_setTemperature_50 : decode cX9_setTemperature 50 = .ok (.iconst 2, 1) := by decide +kernel
theorem dX9_setTemperature_51 : decode cX9_setTemperature 51 = .ok (.invokevirtual 60, 3) := by decide +kernel
theorem dX9_setTemperature_54 : decode cX9_setTemperature 54 = .ok (.ireturn, 1) := by decide +kernel
theorem dX9_least_0 : decode cX9_least 0 = .ok (.iload_n 0, 1) := by decide +kernel
theorem dX9_least_1 : decode cX9_least 1 = .ok (.ifCond .ne 7, 3) := by decide +kernel
theorem dX9_least_4 : decode cX9_least 4 = .ok (.iconst 1, 1) := by decide +kernel
theorem dX9_least_5 : decode cX9_least 5 = .ok (.goto 4, 3) := by decide +kernel
theorem dX9_least_8 : decode cX9_least 8 = .ok (.iconst 0, 1) := by decide +kernel
theorem dX9_least_9 : decode cX9_least 9 = .ok (.ireturn, 1) := by decide +kernel
theorem dX9_most_0 : decode cX9_most 0 = .ok (.iload_n 0, 1) := by decide +kernel
theorem dX9_most_1 : decode cX9_most 1 = .ok (.tableswitch 63 0 7 #[47, 51, 54, 63, 56, 56, 63, 60], 47) := by decide +kernel
theorem dX9_most_48 : decode cX9_most 48 = .ok (.sipush 200, 3) := by decide +kernel
theorem dX9_most_51 : decode cX9_most 51 = .ok (.ireturn, 1) := by decide +kernel
theorem dX9_most_52 : decode cX9_most 52 = .ok (.bipush 12, 2) := by decide +kernel
theorem dX9_most_54 : decode cX9_most 54 = .ok (.ireturn, 1) := by decide +kernel
theorem dX9_most_55 : decode cX9_most 55 = .ok (.iconst 3, 1) := by decide +kernel
theorem dX9_most_56 : decode cX9_most 56 = .ok (.ireturn, 1) := by decide +kernel
theorem dX9_most_57 : decode cX9_most 57 = .ok (.sipush 999, 3) := by decide +kernel
theorem dX9_most_60 : decode cX9_most 60 = .ok (.ireturn, 1) := by decide +kernel
theorem dX9_most_61 : decode cX9_most 61 = .ok (.bipush 100, 2) := by decide +kernel
theorem dX9_most_63 : decode cX9_most 63 = .ok (.ireturn, 1) := by decide +kernel
theorem dX9_most_64 : decode cX9_most 64 = .ok (.ldc 83, 2) := by decide +kernel
theorem dX9_most_66 : decode cX9_most 66 = .ok (.ireturn, 1) := by decide +kernel
set_option maxRecDepth 20000 in
theorem ggX9_set_X9_in : GoodIn wsX9_set wsX9_in := goodIn_r _ [6] (by decide +kernel) (by decide +kernel)
set_option maxRecDepth 20000 in
theorem gX9_set_X9_in : GoodIn wsX9_set (va_wsS RX9 47 yX9_in wsX9_in) := goodIn_app (goodIn_of _ (by decide +kernel)) ggX9_set_X9_in
set_option maxRecDepth 20000 in
theorem ggX9_set_X9_refuse : GoodIn wsX9_set wsX9_refuse := goodIn_r _ [10, 1, 29, 30, 31, 32, 33, 34, 35, 36, 37, 38, 39, 40, 41] (by decide +kernel) (by decide +kernel)
set_option maxRecDepth 20000 in
theorem gX9_set_X9_refuse : GoodIn wsX9_set (wsV RX9 60 RX9 yX9_refuse wsX9_refuse) := goodIn_app (goodIn_of _ (by decide +kernel)) ggX9_set_X9_refuse
set_option maxRecDepth 20000 in
theorem ggX9_set_X9_least : GoodIn wsX9_set wsX9_least := goodIn_r _ [13] (by decide +kernel) (by decide +kernel)
set_option maxRecDepth 20000 in
theorem gX9_set_X9_least : GoodIn wsX9_set (va_wsS RX9 86 yX9_least wsX9_least) := goodIn_app (goodIn_of _ (by decide +kernel)) ggX9_set_X9_least
set_option maxRecDepth 20000 in
theorem ggX9_set_X9_most : GoodIn wsX9_set wsX9_most := goodIn_r _ [16, 17] (by decide +kernel) (by decide +kernel)
set_option maxRecDepth 20000 in
theorem gX9_set_X9_most : GoodIn wsX9_set (va_wsS RX9 89 yX9_most wsX9_most) := goodIn_app (goodIn_of _ (by decide +kernel)) ggX9_set_X9_most
set_option maxRecDepth 20000 in
theorem ggX9_set_X9_change : GoodIn wsX9_set wsX9_change := goodIn_r _ [21, 22, 23, 24, 25, 5, 26, 27, 28, 29, 30, 31, 32, 33, 34, 35, 36, 37, 38, 39, 40, 41] (by decide +kernel) (by decide +kernel)
set_option maxRecDepth 20000 in
theorem gX9_set_X9_change : GoodIn wsX9_set (wsV RX9 73 RX9 yX9_change wsX9_change) := goodIn_app (goodIn_of _ (by decide +kernel)) ggX9_set_X9_change
theorem dX9_set_0 : decode cX9_set 0 = .ok (.aload_n 0, 1) := by decide +kernel
theorem dX9_set_1 : decode cX9_set 1 = .ok (.iconst 0, 1) := by decide +kernel
theorem dX9_set_2 : decode cX9_set 2 = .ok (.putfield 43, 3) := by decide +kernel
theorem dX9_set_5 : decode cX9_set 5 = .ok (.iload_n 1, 1) := by decide +kernel
theorem dX9_set_6 : decode cX9_set 6 = .ok (.i2l, 1) := by decide +kernel
theorem dX9_set_7 : decode cX9_set 7 = .ok (.lconst 0, 1) := by decide +kernel
theorem dX9_set_8 : decode cX9_set 8 = .ok (.ldc2_w 84, 3) := by decide +kernel
theorem dX9_set_11 : decode cX9_set 11 = .ok (.invokestatic 47, 3) := by decide +kernel
theorem dX9_set_14 : decode cX9_set 14 = .ok (.ifCond .ne 9, 3) := by decide +kernel
theorem dX9_set_17 : decode cX9_set 17 = .ok (.aload_n 0, 1) := by decide +kernel
theorem dX9_set_18 : decode cX9_set 18 = .ok (.iconst 1, 1) := by decide +kernel
theorem dX9_set_19 : decode cX9_set 19 = .ok (.invokevirtual 60, 3) := by decide +kernel
theorem dX9_set_22 : decode cX9_set 22 = .ok (.ireturn, 1) := by decide +kernel
theorem dX9_set_23 : decode cX9_set 23 = .ok (.iload_n 2, 1) := by decide +kernel
theorem dX9_set_24 : decode cX9_set 24 = .ok (.i2l, 1) := by decide +kernel
theorem dX9_set_25 : decode cX9_set 25 = .ok (.iload_n 1, 1) := by decide +kernel
theorem dX9_set_26 : decode cX9_set 26 = .ok (.invokestatic 86, 3) := by decide +kernel
theorem dX9_set_29 : decode cX9_set 29 = .ok (.i2l, 1) := by decide +kernel
theorem dX9_set_30 : decode cX9_set 30 = .ok (.iload_n 1, 1) := by decide +kernel
theorem dX9_set_31 : decode cX9_set 31 = .ok (.invokestatic 89, 3) := by decide +kernel
theorem dX9_set_34 : decode cX9_set 34 = .ok (.i2l, 1) := by decide +kernel
theorem dX9_set_35 : decode cX9_set 35 = .ok (.invokestatic 47, 3) := by decide +kernel
theorem dX9_set_38 : decode cX9_set 38 = .ok (.ifCond .eq 14, 3) := by decide +kernel
theorem dX9_set_41 : decode cX9_set 41 = .ok (.aload_n 0, 1) := by decide +kernel
theorem dX9_set_42 : decode cX9_set 42 = .ok (.iconst 0, 1) := by decide +kernel
theorem dX9_set_43 : decode cX9_set 43 = .ok (.iload_n 1, 1) := by decide +kernel
theorem dX9_set_44 : decode cX9_set 44 = .ok (.iadd, 1) := by decide +kernel
theorem dX9_set_45 : decode cX9_set 45 = .ok (.iload_n 2, 1) := by decide +kernel
theorem dX9_set_46 : decode cX9_set 46 = .ok (.invokevirtual 73, 3) := by decide +kernel
theorem dX9_set_49 : decode cX9_set 49 = .ok (.goto 8, 3) := by decide +kernel
theorem dX9_set_52 : decode cX9_set 52 = .ok (.aload_n 0, 1) := by decide +kernel
theorem dX9_set_53 : decode cX9_set 53 = .ok (.iconst 2, 1) := by decide +kernel
theorem dX9_set_54 : decode cX9_set 54 = .ok (.invokevirtual 60, 3) := by decide +kernel
theorem dX9_set_57 : decode cX9_set 57 = .ok (.ireturn, 1) := by decide +kernel
set_option maxRecDepth 20000 in
theorem ggX9_moveThrows_X9_isSilo : GoodIn wsX9_moveThrows wsX9_isSilo := goodIn_r _ [6, 1, 7, 8, 5, 9, 10, 11, 12, 13, 14, 15, 16, 17, 18, 19, 20, 21, 22] (by decide +kernel) (by decide +kernel)
set_option maxRecDepth 20000 in
theorem gX9_moveThrows_X9_isSilo : GoodIn wsX9_moveThrows (wsV RX9 69 RX9 yX9_isSilo wsX9_isSilo) := goodIn_app (goodIn_of _ (by decide +kernel)) ggX9_moveThrows_X9_isSilo
theorem dX9_moveThrows_0 : decode cX9_moveThrows 0 = .ok (.aload_n 0, 1) := by decide +kernel
theorem dX9_moveThrows_1 : decode cX9_moveThrows 1 = .ok (.iload_n 1, 1) := by decide +kernel
theorem dX9_moveThrows_2 : decode cX9_moveThrows 2 = .ok (.invokevirtual 69, 3) := by decide +kernel
theorem dX9_moveThrows_5 : decode cX9_moveThrows 5 = .ok (.ifCond .eq 11, 3) := by decide +kernel
theorem dX9_moveThrows_8 : decode cX9_moveThrows 8 = .ok (.aload_n 0, 1) := by decide +kernel
theorem dX9_moveThrows_9 : decode cX9_moveThrows 9 = .ok (.iload_n 2, 1) := by decide +kernel
theorem dX9_moveThrows_10 : decode cX9_moveThrows 10 = .ok (.invokevirtual 69, 3) := by decide +kernel
theorem dX9_moveThrows_13 : decode cX9_moveThrows 13 = .ok (.ifCond .ne 5, 3) := by decide +kernel
theorem dX9_moveThrows_16 : decode cX9_moveThrows 16 = .ok (.iconst 1, 1) := by decide +kernel
theorem dX9_moveThrows_17 : decode cX9_moveThrows 17 = .ok (.ireturn, 1) := by decide +kernel
theorem dX9_moveThrows_18 : decode cX9_moveThrows 18 = .ok (.iload_n 1, 1) := by decide +kernel
theorem dX9_moveThrows_19 : decode cX9_moveThrows 19 = .ok (.iload_n 2, 1) := by decide +kernel
theorem dX9_moveThrows_20 : decode cX9_moveThrows 20 = .ok (.if_icmp .ne 5, 3) := by decide +kernel
theorem dX9_moveThrows_23 : decode cX9_moveThrows 23 = .ok (.iconst 2, 1) := by decide +kernel
theorem dX9_moveThrows_24 : decode cX9_moveThrows 24 = .ok (.ireturn, 1) := by decide +kernel
theorem dX9_moveThrows_25 : decode cX9_moveThrows 25 = .ok (.aload_n 0, 1) := by decide +kernel
theorem dX9_moveThrows_26 : decode cX9_moveThrows 26 = .ok (.getfield 7, 3) := by decide +kernel
theorem dX9_moveThrows_29 : decode cX9_moveThrows 29 = .ok (.bipush 47, 2) := by decide +kernel
theorem dX9_moveThrows_31 : decode cX9_moveThrows 31 = .ok (.iload_n 1, 1) := by decide +kernel
theorem dX9_moveThrows_32 : decode cX9_moveThrows 32 = .ok (.iadd, 1) := by decide +kernel
theorem dX9_moveThrows_33 : decode cX9_moveThrows 33 = .ok (.laload, 1) := by decide +kernel
theorem dX9_moveThrows_34 : decode cX9_moveThrows 34 = .ok (.lconst 0, 1) := by decide +kernel
theorem dX9_moveThrows_35 : decode cX9_moveThrows 35 = .ok (.lcmp, 1) := by decide +kernel
theorem dX9_moveThrows_36 : decode cX9_moveThrows 36 = .ok (.ifCond .eq 25, 3) := by decide +kernel
theorem dX9_moveThrows_39 : decode cX9_moveThrows 39 = .ok (.aload_n 0, 1) := by decide +kernel
theorem dX9_moveThrows_40 : decode cX9_moveThrows 40 = .ok (.getfield 7, 3) := by decide +kernel
theorem dX9_moveThrows_43 : decode cX9_moveThrows 43 = .ok (.bipush 47, 2) := by decide +kernel
theorem dX9_moveThrows_45 : decode cX9_moveThrows 45 = .ok (.iload_n 2, 1) := by decide +kernel
theorem dX9_moveThrows_46 : decode cX9_moveThrows 46 = .ok (.iadd, 1) := by decide +kernel
theorem dX9_moveThrows_47 : decode cX9_moveThrows 47 = .ok (.laload, 1) := by decide +kernel
theorem dX9_moveThrows_48 : decode cX9_moveThrows 48 = .ok (.aload_n 0, 1) := by decide +kernel
theorem dX9_moveThrows_49 : decode cX9_moveThrows 49 = .ok (.getfield 7, 3) := by decide +kernel
theorem dX9_moveThrows_52 : decode cX9_moveThrows 52 = .ok (.bipush 32, 2) := by decide +kernel
theorem dX9_moveThrows_54 : decode cX9_moveThrows 54 = .ok (.iload_n 2, 1) := by decide +kernel
theorem dX9_moveThrows_55 : decode cX9_moveThrows 55 = .ok (.iadd, 1) := by decide +kernel
theorem dX9_moveThrows_56 : decode cX9_moveThrows 56 = .ok (.laload, 1) := by decide +kernel
theorem dX9_moveThrows_57 : decode cX9_moveThrows 57 = .ok (.lcmp, 1) := by decide +kernel
theorem dX9_moveThrows_58 : decode cX9_moveThrows 58 = .ok (.ifCond .ne 7, 3) := by decide +kernel
theorem dX9_moveThrows_61 : decode cX9_moveThrows 61 = .ok (.iconst 3, 1) := by decide +kernel
theorem dX9_moveThrows_62 : decode cX9_moveThrows 62 = .ok (.goto 4, 3) := by decide +kernel
theorem dX9_moveThrows_65 : decode cX9_moveThrows 65 = .ok (.iconst 0, 1) := by decide +kernel
theorem dX9_moveThrows_66 : decode cX9_moveThrows 66 = .ok (.ireturn, 1) := by decide +kernel
theorem dX9_doMove_0 : decode cX9_doMove 0 = .ok (.aload_n 0, 1) := by decide +kernel
theorem dX9_doMove_1 : decode cX9_doMove 1 = .ok (.getfield 7, 3) := by decide +kernel
theorem dX9_doMove_4 : decode cX9_doMove 4 = .ok (.bipush 47, 2) := by decide +kernel
theorem dX9_doMove_6 : decode cX9_doMove 6 = .ok (.iload_n 1, 1) := by decide +kernel
theorem dX9_doMove_7 : decode cX9_doMove 7 = .ok (.iadd, 1) := by decide +kernel
theorem dX9_doMove_8 : decode cX9_doMove 8 = .ok (.dup2, 1) := by decide +kernel
theorem dX9_doMove_9 : decode cX9_doMove 9 = .ok (.laload, 1) := by decide +kernel
theorem dX9_doMove_10 : decode cX9_doMove 10 = .ok (.lconst 1, 1) := by decide +kernel
theorem dX9_doMove_11 : decode cX9_doMove 11 = .ok (.lsub, 1) := by decide +kernel
theorem dX9_doMove_12 : decode cX9_doMove 12 = .ok (.lastore, 1) := by decide +kernel
theorem dX9_doMove_13 : decode cX9_doMove 13 = .ok (.bipush 30, 2) := by decide +kernel
theorem dX9_doMove_15 : decode cX9_doMove 15 = .ok (.iload_n 1, 1) := by decide +kernel
theorem dX9_doMove_16 : decode cX9_doMove 16 = .ok (.imul, 1) := by decide +kernel
theorem dX9_doMove_17 : decode cX9_doMove 17 = .ok (.aload_n 0, 1) := by decide +kernel
theorem dX9_doMove_18 : decode cX9_doMove 18 = .ok (.getfield 7, 3) := by decide +kernel
theorem dX9_doMove_21 : decode cX9_doMove 21 = .ok (.bipush 47, 2) := by decide +kernel
theorem dX9_doMove_23 : decode cX9_doMove 23 = .ok (.iload_n 1, 1) := by decide +kernel
theorem dX9_doMove_24 : decode cX9_doMove 24 = .ok (.iadd, 1) := by decide +kernel
theorem dX9_doMove_25 : decode cX9_doMove 25 = .ok (.laload, 1) := by decide +kernel
theorem dX9_doMove_26 : decode cX9_doMove 26 = .ok (.l2i, 1) := by decide +kernel
theorem dX9_doMove_27 : decode cX9_doMove 27 = .ok (.iadd, 1) := by decide +kernel
theorem dX9_doMove_28 : decode cX9_doMove 28 = .ok (.istore_n 3, 1) := by decide +kernel
theorem dX9_doMove_29 : decode cX9_doMove 29 = .ok (.bipush 30, 2) := by decide +kernel
theorem dX9_doMove_31 : decode cX9_doMove 31 = .ok (.iload_n 2, 1) := by decide +kernel
theorem dX9_doMove_32 : decode cX9_doMove 32 = .ok (.imul, 1) := by decide +kernel
theorem dX9_doMove_33 : decode cX9_doMove 33 = .ok (.aload_n 0, 1) := by decide +kernel
theorem dX9_doMove_34 : decode cX9_doMove 34 = .ok (.getfield 7, 3) := by decide +kernel
theorem dX9_doMove_37 : decode cX9_doMove 37 = .ok (.bipush 47, 2) := by decide +kernel
theorem dX9_doMove_39 : decode cX9_doMove 39 = .ok (.iload_n 2, 1) := by decide +kernel
theorem dX9_doMove_40 : decode cX9_doMove 40 = .ok (.iadd, 1) := by decide +kernel
theorem dX9_doMove_41 : decode cX9_doMove 41 = .ok (.laload, 1) := by decide +kernel
theorem dX9_doMove_42 : decode cX9_doMove 42 = .ok (.l2i, 1) := by decide +kernel
theorem dX9_doMove_43 : decode cX9_doMove 43 = .ok (.iadd, 1) := by decide +kernel
theorem dX9_doMove_44 : decode cX9_doMove 44 = .ok (.istore 4, 2) := by decide +kernel
theorem dX9_doMove_46 : decode cX9_doMove 46 = .ok (.aload_n 0, 1) := by decide +kernel
theorem dX9_doMove_47 : decode cX9_doMove 47 = .ok (.getfield 7, 3) := by decide +kernel
theorem dX9_doMove_50 : decode cX9_doMove 50 = .ok (.bipush 47, 2) := by decide +kernel
theorem dX9_doMove_52 : decode cX9_doMove 52 = .ok (.iload_n 2, 1) := by decide +kernel
theorem dX9_doMove_53 : decode cX9_doMove 53 = .ok (.iadd, 1) := by decide +kernel
theorem dX9_doMove_54 : decode cX9_doMove 54 = .ok (.dup2, 1) := by decide +kernel
theorem dX9_doMove_55 : decode cX9_doMove 55 = .ok (.laload, 1) := by decide +kernel
theorem dX9_doMove_56 : decode cX9_doMove 56 = .ok (.lconst 1, 1) := by decide +kernel
theorem dX9_doMove_57 : decode cX9_doMove 57 = .ok (.ladd, 1) := by decide +kernel
theorem dX9_doMove_58 : decode cX9_doMove 58 = .ok (.lastore, 1) := by decide +kernel
theorem dX9_doMove_59 : decode cX9_doMove 59 = .ok (.aload_n 0, 1) := by decide +kernel
theorem dX9_doMove_60 : decode cX9_doMove 60 = .ok (.getfield 7, 3) := by decide +kernel
theorem dX9_doMove_63 : decode cX9_doMove 63 = .ok (.bipush 57, 2) := by decide +kernel
theorem dX9_doMove_65 : decode cX9_doMove 65 = .ok (.iload 4, 2) := by decide +kernel
theorem dX9_doMove_67 : decode cX9_doMove 67 = .ok (.iadd, 1) := by decide +kernel
theorem dX9_doMove_68 : decode cX9_doMove 68 = .ok (.aload_n 0, 1) := by decide +kernel
theorem dX9_doMove_69 : decode cX9_doMove 69 = .ok (.getfield 7, 3) := by decide +kernel
theorem dX9_doMove_72 : decode cX9_doMove 72 = .ok (.bipush 57, 2) := by decide +kernel
theorem dX9_doMove_74 : decode cX9_doMove 74 = .ok (.iload_n 3, 1) := by decide +kernel
theorem dX9_doMove_75 : decode cX9_doMove 75 = .ok (.iadd, 1) := by decide +kernel
theorem dX9_doMove_76 : decode cX9_doMove 76 = .ok (.laload, 1) := by decide +kernel
theorem dX9_doMove_77 : decode cX9_doMove 77 = .ok (.lastore, 1) := by decide +kernel
theorem dX9_doMove_78 : decode cX9_doMove 78 = .ok (.aload_n 0, 1) := by decide +kernel
theorem dX9_doMove_79 : decode cX9_doMove 79 = .ok (.getfield 7, 3) := by decide +kernel
theorem dX9_doMove_82 : decode cX9_doMove 82 = .ok (.sipush 207, 3) := by decide +kernel
theorem dX9_doMove_85 : decode cX9_doMove 85 = .ok (.iload 4, 2) := by decide +kernel
theorem dX9_doMove_87 : decode cX9_doMove 87 = .ok (.iadd, 1) := by decide +kernel
theorem dX9_doMove_88 : decode cX9_doMove 88 = .ok (.aload_n 0, 1) := by decide +kernel
theorem dX9_doMove_89 : decode cX9_doMove 89 = .ok (.getfield 7, 3) := by decide +kernel
theorem dX9_doMove_92 : decode cX9_doMove 92 = .ok (.sipush 207, 3) := by decide +kernel
theorem dX9_doMove_95 : decode cX9_doMove 95 = .ok (.iload_n 3, 1) := by decide +kernel
theorem dX9_doMove_96 : decode cX9_doMove 96 = .ok (.iadd, 1) := by decide +kernel
theorem dX9_doMove_97 : decode cX9_doMove 97 = .ok (.laload, 1) := by decide +kernel
theorem dX9_doMove_98 : decode cX9_doMove 98 = .ok (.lastore, 1) := by decide +kernel
theorem dX9_doMove_99 : decode cX9_doMove 99 = .ok (.aload_n 0, 1) := by decide +kernel
theorem dX9_doMove_100 : decode cX9_doMove 100 = .ok (.getfield 7, 3) := by decide +kernel
theorem dX9_doMove_103 : decode cX9_doMove 103 = .ok (.sipush 357, 3) := by decide +kernel
theorem dX9_doMove_106 : decode cX9_doMove 106 = .ok (.iload 4, 2) := by decide +kernel
theorem dX9_doMove_108 : decode cX9_doMove 108 = .ok (.iadd, 1) := by decide +kernel
theorem dX9_doMove_109 : decode cX9_doMove 109 = .ok (.aload_n 0, 1) := by decide +kernel
theorem dX9_doMove_110 : decode cX9_doMove 110 = .ok (.getfield 7, 3) := by decide +kernel
theorem dX9_doMove_113 : decode cX9_doMove 113 = .ok (.sipush 357, 3) := by decide +kernel
theorem dX9_doMove_116 : decode cX9_doMove 116 = .ok (.iload_n 3, 1) := by decide +kernel
theorem dX9_doMove_117 : decode cX9_doMove 117 = .ok (.iadd, 1) := by decide +kernel
theorem dX9_doMove_118 : decode cX9_doMove 118 = .ok (.laload, 1) := by decide +kernel
theorem dX9_doMove_119 : decode cX9_doMove 119 = .ok (.lastore, 1) := by decide +kernel
theorem dX9_doMove_120 : decode cX9_doMove 120 = .ok (.aload_n 0, 1) := by decide +kernel
theorem dX9_doMove_121 : decode cX9_doMove 121 = .ok (.getfield 7, 3) := by decide +kernel
theorem dX9_doMove_124 : decode cX9_doMove 124 = .ok (.bipush 57, 2) := by decide +kernel
theorem dX9_doMove_126 : decode cX9_doMove 126 = .ok (.iload 4, 2) := by decide +kernel
theorem dX9_doMove_128 : decode cX9_doMove 128 = .ok (.iadd, 1) := by decide +kernel
theorem dX9_doMove_129 : decode cX9_doMove 129 = .ok (.laload, 1) := by decide +kernel
theorem dX9_doMove_130 : decode cX9_doMove 130 = .ok (.l2i, 1) := by decide +kernel
theorem dX9_doMove_131 : decode cX9_doMove 131 = .ok (.ireturn, 1) := by decide +kernel
set_option maxRecDepth 20000 in
theorem ggX9_move_X9_moveThrows : GoodIn wsX9_move wsX9_moveThrows := goodIn_r _ [6, 7, 8, 9, 10, 5, 11, 12, 13, 14, 29, 30, 31, 32, 33, 34, 35, 36, 37, 38, 39, 40, 41] (by decide +kernel) (by decide +kernel)
set_option maxRecDepth 20000 in
theorem gX9_move_X9_moveThrows : GoodIn wsX9_move (wsV RX9 92 RX9 yX9_moveThrows wsX9_moveThrows) := goodIn_app (goodIn_of _ (by decide +kernel)) ggX9_move_X9_moveThrows
set_option maxRecDepth 20000 in
theorem ggX9_move_X9_refuse : GoodIn wsX9_move wsX9_refuse := goodIn_r _ [18, 1, 29, 30, 31, 32, 33, 34, 35, 36, 37, 38, 39, 40, 41] (by decide +kernel) (by decide +kernel)
set_option maxRecDepth 20000 in
theorem gX9_move_X9_refuse : GoodIn wsX9_move (wsV RX9 60 RX9 yX9_refuse wsX9_refuse) := goodIn_app (goodIn_of _ (by decide +kernel)) ggX9_move_X9_refuse
set_option maxRecDepth 20000 in
theorem ggX9_move_X9_save : GoodIn wsX9_move wsX9_save := goodIn_r _ [22, 23, 24, 7, 29, 30, 31, 32, 33, 34, 35, 36, 37, 38, 39, 40, 41] (by decide +kernel) (by decide +kernel)
set_option maxRecDepth 20000 in
theorem gX9_move_X9_save : GoodIn wsX9_move (wsV RX9 66 RX9 yX9_save wsX9_save) := goodIn_app (goodIn_of _ (by decide +kernel)) ggX9_move_X9_save
set_option maxRecDepth 20000 in
theorem ggX9_move_X9_doMove : GoodIn wsX9_move wsX9_doMove := goodIn_r _ [28, 7, 29, 30, 31, 32, 33, 34, 35, 36, 37, 38, 39, 40, 41] (by decide +kernel) (by decide +kernel)
set_option maxRecDepth 20000 in
theorem gX9_move_X9_doMove : GoodIn wsX9_move (wsV RX9 95 RX9 yX9_doMove wsX9_doMove) := goodIn_app (goodIn_of _ (by decide +kernel)) ggX9_move_X9_doMove
theorem dX9_move_0 : decode cX9_move 0 = .ok (.aload_n 0, 1) := by decide +kernel
theorem dX9_move_1 : decode cX9_move 1 = .ok (.iconst 0, 1) := by decide +kernel
theorem dX9_move_2 : decode cX9_move 2 = .ok (.putfield 43, 3) := by decide +kernel
theorem dX9_move_5 : decode cX9_move 5 = .ok (.aload_n 0, 1) := by decide +kernel
theorem dX9_move_6 : decode cX9_move 6 = .ok (.iload_n 1, 1) := by decide +kernel
theorem dX9_move_7 : decode cX9_move 7 = .ok (.iload_n 2, 1) := by decide +kernel
theorem dX9_move_8 : decode cX9_move 8 = .ok (.invokevirtual 92, 3) := by decide +kernel
theorem dX9_move_11 : decode cX9_move 11 = .ok (.istore_n 3, 1) := by decide +kernel
theorem dX9_move_12 : decode cX9_move 12 = .ok (.iload_n 3, 1) := by decide +kernel
theorem dX9_move_13 : decode cX9_move 13 = .ok (.ifCond .le 9, 3) := by decide +kernel
theorem dX9_move_16 : decode cX9_move 16 = .ok (.aload_n 0, 1) := by decide +kernel
theorem dX9_move_17 : decode cX9_move 17 = .ok (.iload_n 3, 1) := by decide +kernel
theorem dX9_move_18 : decode cX9_move 18 = .ok (.invokevirtual 60, 3) := by decide +kernel
theorem dX9_move_21 : decode cX9_move 21 = .ok (.ireturn, 1) := by decide +kernel
theorem dX9_move_22 : decode cX9_move 22 = .ok (.aload_n 0, 1) := by decide +kernel
theorem dX9_move_23 : decode cX9_move 23 = .ok (.invokevirtual 66, 3) := by decide +kernel
theorem dX9_move_26 : decode cX9_move 26 = .ok (.aload_n 0, 1) := by decide +kernel
theorem dX9_move_27 : decode cX9_move 27 = .ok (.iload_n 1, 1) := by decide +kernel
theorem dX9_move_28 : decode cX9_move 28 = .ok (.iload_n 2, 1) := by decide +kernel
theorem dX9_move_29 : decode cX9_move 29 = .ok (.invokevirtual 95, 3) := by decide +kernel
theorem dX9_move_32 : decode cX9_move 32 = .ok (.ireturn, 1) := by decide +kernel
theorem dX9_heat_0 : decode cX9_heat 0 = .ok (.aload_n 0, 1) := by decide +kernel
theorem dX9_heat_1 : decode cX9_heat 1 = .ok (.getfield 7, 3) := by decide +kernel
theorem dX9_heat_4 : decode cX9_heat 4 = .ok (.bipush 8, 2) := by decide +kernel
theorem dX9_heat_6 : decode cX9_heat 6 = .ok (.aload_n 0, 1) := by decide +kernel
theorem dX9_heat_7 : decode cX9_heat 7 = .ok (.getfield 7, 3) := by decide +kernel
theorem dX9_heat_10 : decode cX9_heat 10 = .ok (.sipush 1875, 3) := by decide +kernel
theorem dX9_heat_13 : decode cX9_heat 13 = .ok (.laload, 1) := by decide +kernel
theorem dX9_heat_14 : decode cX9_heat 14 = .ok (.ldc2_w 98, 3) := by decide +kernel
theorem dX9_heat_17 : decode cX9_heat 17 = .ok (.lrem, 1) := by decide +kernel
theorem dX9_heat_18 : decode cX9_heat 18 = .ok (.l2i, 1) := by decide +kernel
theorem dX9_heat_19 : decode cX9_heat 19 = .ok (.iadd, 1) := by decide +kernel
theorem dX9_heat_20 : decode cX9_heat 20 = .ok (.laload, 1) := by decide +kernel
theorem dX9_heat_21 : decode cX9_heat 21 = .ok (.lstore_n 1, 1) := by decide +kernel
theorem dX9_heat_22 : decode cX9_heat 22 = .ok (.lload_n 1, 1) := by decide +kernel
theorem dX9_heat_23 : decode cX9_heat 23 = .ok (.lconst 0, 1) := by decide +kernel
theorem dX9_heat_24 : decode cX9_heat 24 = .ok (.lcmp, 1) := by decide +kernel
theorem dX9_heat_25 : decode cX9_heat 25 = .ok (.ifCond .ge 7, 3) := by decide +kernel
theorem dX9_heat_28 : decode cX9_heat 28 = .ok (.lconst 0, 1) := by decide +kernel
theorem dX9_heat_29 : decode cX9_heat 29 = .ok (.goto 4, 3) := by decide +kernel
theorem dX9_heat_32 : decode cX9_heat 32 = .ok (.lload_n 1, 1) := by decide +kernel
theorem dX9_heat_33 : decode cX9_heat 33 = .ok (.lreturn, 1) := by decide +kernel
set_option maxRecDepth 20000 in
theorem ggX9_lossOf_X9_heat : GoodIn wsX9_lossOf wsX9_heat := goodIn_r _ [10, 1, 11, 12, 13, 14, 15, 16, 17, 18, 19, 20, 21, 22, 23, 24] (by decide +kernel) (by decide +kernel)
set_option maxRecDepth 20000 in
theorem gX9_lossOf_X9_heat : GoodIn wsX9_lossOf (wsV RX9 102 RX9 yX9_heat wsX9_heat) := goodIn_app (goodIn_of _ (by decide +kernel)) ggX9_lossOf_X9_heat
theorem dX9_lossOf_0 : decode cX9_lossOf 0 = .ok (.aload_n 0, 1) := by decide +kernel
theorem dX9_lossOf_1 : decode cX9_lossOf 1 = .ok (.getfield 7, 3) := by decide +kernel
theorem dX9_lossOf_4 : decode cX9_lossOf 4 = .ok (.sipush 207, 3) := by decide +kernel
theorem dX9_lossOf_7 : decode cX9_lossOf 7 = .ok (.bipush 30, 2) := by decide +kernel
theorem dX9_lossOf_9 : decode cX9_lossOf 9 = .ok (.iload_n 1, 1) := by decide +kernel
theorem dX9_lossOf_10 : decode cX9_lossOf 10 = .ok (.imul, 1) := by decide +kernel
theorem dX9_lossOf_11 : decode cX9_lossOf 11 = .ok (.iadd, 1) := by decide +kernel
theorem dX9_lossOf_12 : decode cX9_lossOf 12 = .ok (.iload_n 2, 1) := by decide +kernel
theorem dX9_lossOf_13 : decode cX9_lossOf 13 = .ok (.iadd, 1) := by decide +kernel
theorem dX9_lossOf_14 : decode cX9_lossOf 14 = .ok (.laload, 1) := by decide +kernel
theorem dX9_lossOf_15 : decode cX9_lossOf 15 = .ok (.lstore 4, 2) := by decide +kernel
theorem dX9_lossOf_17 : decode cX9_lossOf 17 = .ok (.aload_n 0, 1) := by decide +kernel
theorem dX9_lossOf_18 : decode cX9_lossOf 18 = .ok (.getfield 7, 3) := by decide +kernel
theorem dX9_lossOf_21 : decode cX9_lossOf 21 = .ok (.bipush 42, 2) := by decide +kernel
theorem dX9_lossOf_23 : decode cX9_lossOf 23 = .ok (.iload_n 1, 1) := by decide +kernel
theorem dX9_lossOf_24 : decode cX9_lossOf 24 = .ok (.iadd, 1) := by decide +kernel
theorem dX9_lossOf_25 : decode cX9_lossOf 25 = .ok (.laload, 1) := by decide +kernel
theorem dX9_lossOf_26 : decode cX9_lossOf 26 = .ok (.lstore 6, 2) := by decide +kernel
theorem dX9_lossOf_28 : decode cX9_lossOf 28 = .ok (.lconst 0, 1) := by decide +kernel
theorem dX9_lossOf_29 : decode cX9_lossOf 29 = .ok (.lstore 8, 2) := by decide +kernel
theorem dX9_lossOf_31 : decode cX9_lossOf 31 = .ok (.aload_n 0, 1) := by decide +kernel
theorem dX9_lossOf_32 : decode cX9_lossOf 32 = .ok (.getfield 7, 3) := by decide +kernel
theorem dX9_lossOf_35 : decode cX9_lossOf 35 = .ok (.bipush 37, 2) := by decide +kernel
theorem dX9_lossOf_37 : decode cX9_lossOf 37 = .ok (.iload_n 1, 1) := by decide +kernel
theorem dX9_lossOf_38 : decode cX9_lossOf 38 = .ok (.iadd, 1) := by decide +kernel
theorem dX9_lossOf_39 : decode cX9_lossOf 39 = .ok (.laload, 1) := by decide +kernel
theorem dX9_lossOf_40 : decode cX9_lossOf 40 = .ok (.lconst 0, 1) := by decide +kernel
theorem dX9_lossOf_41 : decode cX9_lossOf 41 = .ok (.lcmp, 1) := by decide +kernel
theorem dX9_lossOf_42 : decode cX9_lossOf 42 = .ok (.ifCond .ne 10, 3) := by decide +kernel
theorem dX9_lossOf_45 : decode cX9_lossOf 45 = .ok (.lload 6, 2) := by decide +kernel
theorem dX9_lossOf_47 : decode cX9_lossOf 47 = .ok (.lstore 8, 2) := by decide +kernel
theorem dX9_lossOf_49 : decode cX9_lossOf 49 = .ok (.goto 75, 3) := by decide +kernel
theorem dX9_lossOf_52 : decode cX9_lossOf 52 = .ok (.aload_n 0, 1) := by decide +kernel
theorem dX9_lossOf_53 : decode cX9_lossOf 53 = .ok (.getfield 7, 3) := by decide +kernel
theorem dX9_lossOf_56 : decode cX9_lossOf 56 = .ok (.bipush 37, 2) := by decide +kernel
theorem dX9_lossOf_58 : decode cX9_lossOf 58 = .ok (.iload_n 1, 1) := by decide +kernel
theorem dX9_lossOf_59 : decode cX9_lossOf 59 = .ok (.iadd, 1) := by decide +kernel
theorem dX9_lossOf_60 : decode cX9_lossOf 60 = .ok (.laload, 1) := by decide +kernel
theorem dX9_lossOf_61 : decode cX9_lossOf 61 = .ok (.lconst 1, 1) := by decide +kernel
theorem dX9_lossOf_62 : decode cX9_lossOf 62 = .ok (.lcmp, 1) := by decide +kernel
theorem dX9_lossOf_63 : decode cX9_lossOf 63 = .ok (.ifCond .ne 21, 3) := by decide +kernel
theorem dX9_lossOf_66 : decode cX9_lossOf 66 = .ok (.lload 4, 2) := by decide +kernel
theorem dX9_lossOf_68 : decode cX9_lossOf 68 = .ok (.lload 6, 2) := by decide +kernel
theorem dX9_lossOf_70 : decode cX9_lossOf 70 = .ok (.lmul, 1) := by decide +kernel
theorem dX9_lossOf_71 : decode cX9_lossOf 71 = .ok (.ldc2_w 100, 3) := by decide +kernel
theorem dX9_lossOf_74 : decode cX9_lossOf 74 = .ok (.ladd, 1) := by decide +kernel
theorem dX9_lossOf_75 : decode cX9_lossOf 75 = .ok (.ldc2_w 58, 3) := by decide +kernel
theorem dX9_lossOf_78 : decode cX9_lossOf 78 = .ok (.ldiv, 1) := by decide +kernel
theorem dX9_lossOf_79 : decode cX9_lossOf 79 = .ok (.lstore 8, 2) := by decide +kernel
theorem dX9_lossOf_81 : decode cX9_lossOf 81 = .ok (.goto 43, 3) := by decide +kernel
theorem dX9_lossOf_84 : decode cX9_lossOf 84 = .ok (.aload_n 0, 1) := by decide +kernel
theorem dX9_lossOf_85 : decode cX9_lossOf 85 = .ok (.getfield 7, 3) := by decide +kernel
theorem dX9_lossOf_88 : decode cX9_lossOf 88 = .ok (.bipush 37, 2) := by decide +kernel
theorem dX9_lossOf_90 : decode cX9_lossOf 90 = .ok (.iload_n 1, 1) := by decide +kernel
theorem dX9_lossOf_91 : decode cX9_lossOf 91 = .ok (.iadd, 1) := by decide +kernel
theorem dX9_lossOf_92 : decode cX9_lossOf 92 = .ok (.laload, 1) := by decide +kernel
theorem dX9_lossOf_93 : decode cX9_lossOf 93 = .ok (.ldc2_w 31, 3) := by decide +kernel
theorem dX9_lossOf_96 : decode cX9_lossOf 96 = .ok (.lcmp, 1) := by decide +kernel
theorem dX9_lossOf_97 : decode cX9_lossOf 97 = .ok (.ifCond .ne 19, 3) := by decide +kernel
theorem dX9_lossOf_100 : decode cX9_lossOf 100 = .ok (.aload_n 0, 1) := by decide +kernel
theorem dX9_lossOf_101 : decode cX9_lossOf 101 = .ok (.invokevirtual 102, 3) := by decide +kernel
theorem dX9_lossOf_104 : decode cX9_lossOf 104 = .ok (.lload 6, 2) := by decide +kernel
theorem dX9_lossOf_106 : decode cX9_lossOf 106 = .ok (.lmul, 1) := by decide +kernel
theorem dX9_lossOf_107 : decode cX9_lossOf 107 = .ok (.ldc2_w 35, 3) := by decide +kernel
theorem dX9_lossOf_110 : decode cX9_lossOf 110 = .ok (.ldiv, 1) := by decide +kernel
theorem dX9_lossOf_111 : decode cX9_lossOf 111 = .ok (.lstore 8, 2) := by decide +kernel
theorem dX9_lossOf_113 : decode cX9_lossOf 113 = .ok (.goto 11, 3) := by decide +kernel
theorem dX9_lossOf_116 : decode cX9_lossOf 116 = .ok (.iload_n 3, 1) := by decide +kernel
theorem dX9_lossOf_117 : decode cX9_lossOf 117 = .ok (.ifCond .eq 7, 3) := by decide +kernel
theorem dX9_lossOf_120 : decode cX9_lossOf 120 = .ok (.lload 6, 2) := by decide +kernel
theorem dX9_lossOf_122 : decode cX9_lossOf 122 = .ok (.lstore 8, 2) := by decide +kernel
theorem dX9_lossOf_124 : decode cX9_lossOf 124 = .ok (.lload 8, 2) := by decide +kernel
theorem dX9_lossOf_126 : decode cX9_lossOf 126 = .ok (.lload 4, 2) := by decide +kernel
theorem dX9_lossOf_128 : decode cX9_lossOf 128 = .ok (.lcmp, 1) := by decide +kernel
theorem dX9_lossOf_129 : decode cX9_lossOf 129 = .ok (.ifCond .ge 8, 3) := by decide +kernel
theorem dX9_lossOf_132 : decode cX9_lossOf 132 = .ok (.lload 8, 2) := by decide +kernel
theorem dX9_lossOf_134 : decode cX9_lossOf 134 = .ok (.goto 5, 3) := by decide +kernel
theorem dX9_lossOf_137 : decode cX9_lossOf 137 = .ok (.lload 4, 2) := by decide +kernel
theorem dX9_lossOf_139 : decode cX9_lossOf 139 = .ok (.lreturn, 1) := by decide +kernel
theorem dX9_removeBlock_0 : decode cX9_removeBlock 0 = .ok (.aload_n 0, 1) := by decide +kernel
theorem dX9_removeBlock_1 : decode cX9_removeBlock 1 = .ok (.getfield 7, 3) := by decide +kernel
theorem dX9_removeBlock_4 : decode cX9_removeBlock 4 = .ok (.bipush 47, 2) := by decide +kernel
theorem dX9_removeBlock_6 : decode cX9_removeBlock 6 = .ok (.iload_n 1, 1) := by decide +kernel
theorem dX9_removeBlock_7 : decode cX9_removeBlock 7 = .ok (.iadd, 1) := by decide +kernel
theorem dX9_removeBlock_8 : decode cX9_removeBlock 8 = .ok (.dup2, 1) := by decide +kernel
theorem dX9_removeBlock_9 : decode cX9_removeBlock 9 = .ok (.laload, 1) := by decide +kernel
theorem dX9_removeBlock_10 : decode cX9_removeBlock 10 = .ok (.lconst 1, 1) := by decide +kernel
theorem dX9_removeBlock_11 : decode cX9_removeBlock 11 = .ok (.lsub, 1) := by decide +kernel
theorem dX9_removeBlock_12 : decode cX9_removeBlock 12 = .ok (.lastore, 1) := by decide +kernel
theorem dX9_removeBlock_13 : decode cX9_removeBlock 13 = .ok (.bipush 30, 2) := by decide +kernel
theorem dX9_removeBlock_15 : decode cX9_removeBlock 15 = .ok (.iload_n 1, 1) := by decide +kernel
theorem dX9_removeBlock_16 : decode cX9_removeBlock 16 = .ok (.imul, 1) := by decide +kernel
theorem dX9_removeBlock_17 : decode cX9_removeBlock 17 = .ok (.iload_n 2, 1) := by decide +kernel
theorem dX9_removeBlock_18 : decode cX9_removeBlock 18 = .ok (.iadd, 1) := by decide +kernel
theorem dX9_removeBlock_19 : decode cX9_removeBlock 19 = .ok (.istore_n 3, 1) := by decide +kernel
theorem dX9_removeBlock_20 : decode cX9_removeBlock 20 = .ok (.iload_n 3, 1) := by decide +kernel
theorem dX9_removeBlock_21 : decode cX9_removeBlock 21 = .ok (.i2l, 1) := by decide +kernel
theorem dX9_removeBlock_22 : decode cX9_removeBlock 22 = .ok (.bipush 30, 2) := by decide +kernel
theorem dX9_removeBlock_24 : decode cX9_removeBlock 24 = .ok (.iload_n 1, 1) := by decide +kernel
theorem dX9_removeBlock_25 : decode cX9_removeBlock 25 = .ok (.imul, 1) := by decide +kernel
theorem dX9_removeBlock_26 : decode cX9_removeBlock 26 = .ok (.i2l, 1) := by decide +kernel
theorem dX9_removeBlock_27 : decode cX9_removeBlock 27 = .ok (.aload_n 0, 1) := by decide +kernel
theorem dX9_removeBlock_28 : decode cX9_removeBlock 28 = .ok (.getfield 7, 3) := by decide +kernel
theorem dX9_removeBlock_31 : decode cX9_removeBlock 31 = .ok (.bipush 47, 2) := by decide +kernel
theorem dX9_removeBlock_33 : decode cX9_removeBlock 33 = .ok (.iload_n 1, 1) := by decide +kernel
theorem dX9_removeBlock_34 : decode cX9_removeBlock 34 = .ok (.iadd, 1) := by decide +kernel
theorem dX9_removeBlock_35 : decode cX9_removeBlock 35 = .ok (.laload, 1) := by decide +kernel
theorem dX9_removeBlock_36 : decode cX9_removeBlock 36 = .ok (.ladd, 1) := by decide +kernel
theorem dX9_removeBlock_37 : decode cX9_removeBlock 37 = .ok (.lcmp, 1) := by decide +kernel
theorem dX9_removeBlock_38 : decode cX9_removeBlock 38 = .ok (.ifCond .ge 73, 3) := by decide +kernel
theorem dX9_removeBlock_41 : decode cX9_removeBlock 41 = .ok (.aload_n 0, 1) := by decide +kernel
theorem dX9_removeBlock_42 : decode cX9_removeBlock 42 = .ok (.getfield 7, 3) := by decide +kernel
theorem dX9_removeBlock_45 : decode cX9_removeBlock 45 = .ok (.bipush 57, 2) := by decide +kernel
theorem dX9_removeBlock_47 : decode cX9_removeBlock 47 = .ok (.iload_n 3, 1) := by decide +kernel
theorem dX9_removeBlock_48 : decode cX9_removeBlock 48 = .ok (.iadd, 1) := by decide +kernel
theorem dX9_removeBlock_49 : decode cX9_removeBlock 49 = .ok (.aload_n 0, 1) := by decide +kernel
theorem dX9_removeBlock_50 : decode cX9_removeBlock 50 = .ok (.getfield 7, 3) := by decide +kernel
theorem dX9_removeBlock_53 : decode cX9_removeBlock 53 = .ok (.bipush 57, 2) := by decide +kernel
theorem dX9_removeBlock_55 : decode cX9_removeBlock 55 = .ok (.iload_n 3, 1) := by decide +kernel
theorem dX9_removeBlock_56 : decode cX9_removeBlock 56 = .ok (.iadd, 1) := by decide +kernel
theorem dX9_removeBlock_57 : decode cX9_removeBlock 57 = .ok (.iconst 1, 1) := by decide +kernel
theorem dX9_removeBlock_58 : decode cX9_removeBlock 58 = .ok (.iadd, 1) := by decide +kernel
theorem dX9_removeBlock_59 : decode cX9_removeBlock 59 = .ok (.laload, 1) := by decide +kernel
theorem dX9_removeBlock_60 : decode cX9_removeBlock 60 = .ok (.lastore, 1) := by decide +kernel
theorem dX9_removeBlock_61 : decode cX9_removeBlock 61 = .ok (.aload_n 0, 1) := by decide +kernel
theorem dX9_removeBlock_62 : decode cX9_removeBlock 62 = .ok (.getfield 7, 3) := by decide +kernel
theorem dX9_removeBlock_65 : decode cX9_removeBlock 65 = .ok (.sipush 207, 3) := by decide +kernel
theorem dX9_removeBlock_68 : decode cX9_removeBlock 68 = .ok (.iload_n 3, 1) := by decide +kernel
theorem dX9_removeBlock_69 : decode cX9_removeBlock 69 = .ok (.iadd, 1) := by decide +kernel
theorem dX9_removeBlock_70 : decode cX9_removeBlock 70 = .ok (.aload_n 0, 1) := by decide +kernel
theorem dX9_removeBlock_71 : decode cX9_removeBlock 71 = .ok (.getfield 7, 3) := by decide +kernel
theorem dX9_removeBlock_74 : decode cX9_removeBlock 74 = .ok (.sipush 207, 3) := by decide +kernel
theorem dX9_removeBlock_77 : decode cX9_removeBlock 77 = .ok (.iload_n 3, 1) := by decide +kernel
theorem dX9_removeBlock_78 : decode cX9_removeBlock 78 = .ok (.iadd, 1) := by decide +kernel
theorem dX9_removeBlock_79 : decode cX9_removeBlock 79 = .ok (.iconst 1, 1) := by decide +kernel
theorem dX9_removeBlock_80 : decode cX9_removeBlock 80 = .ok (.iadd, 1) := by decide +kernel
theorem dX9_removeBlock_81 : decode cX9_removeBlock 81 = .ok (.laload, 1) := by decide +kernel
theorem dX9_removeBlock_82 : decode cX9_removeBlock 82 = .ok (.lastore, 1) := by decide +kernel
theorem dX9_removeBlock_83 : decode cX9_removeBlock 83 = .ok (.aload_n 0, 1) := by decide +kernel
theorem dX9_removeBlock_84 : decode cX9_removeBlock 84 = .ok (.getfield 7, 3) := by decide +kernel
theorem dX9_removeBlock_87 : decode cX9_removeBlock 87 = .ok (.sipush 357, 3) := by decide +kernel
theorem dX9_removeBlock_90 : decode cX9_removeBlock 90 = .ok (.iload_n 3, 1) := by decide +kernel
theorem dX9_removeBlock_91 : decode cX9_removeBlock 91 = .ok (.iadd, 1) := by decide +kernel
theorem dX9_removeBlock_92 : decode cX9_removeBlock 92 = .ok (.aload_n 0, 1) := by decide +kernel
theorem dX9_removeBlock_93 : decode cX9_removeBlock 93 = .ok (.getfield 7, 3) := by decide +kernel
theorem dX9_removeBlock_96 : decode cX9_removeBlock 96 = .ok (.sipush 357, 3) := by decide +kernel
theorem dX9_removeBlock_99 : decode cX9_removeBlock 99 = .ok (.iload_n 3, 1) := by decide +kernel
theorem dX9_removeBlock_100 : decode cX9_removeBlock 100 = .ok (.iadd, 1) := by decide +kernel
theorem dX9_removeBlock_101 : decode cX9_removeBlock 101 = .ok (.iconst 1, 1) := by decide +kernel
theorem dX9_removeBlock_102 : decode cX9_removeBlock 102 = .ok (.iadd, 1) := by decide +kernel
theorem dX9_removeBlock_103 : decode cX9_removeBlock 103 = .ok (.laload, 1) := by decide +kernel
theorem dX9_removeBlock_104 : decode cX9_removeBlock 104 = .ok (.lastore, 1) := by decide +kernel
theorem dX9_removeBlock_105 : decode cX9_removeBlock 105 = .ok (.iinc 3 1, 3) := by decide +kernel
theorem dX9_removeBlock_108 : decode cX9_removeBlock 108 = .ok (.goto (-88), 3) := by decide +kernel
theorem dX9_removeBlock_111 : decode cX9_removeBlock 111 = .ok (.return_, 1) := by decide +kernel
set_option maxRecDepth 20000 in
theorem ggX9_melt_X9_lossOf : GoodIn wsX9_melt wsX9_lossOf := goodIn_r _ [6, 1, 7, 8, 9, 10, 11, 12, 13, 5, 14, 15, 20, 21, 22, 23, 24, 25, 26, 27, 28, 29, 30, 31, 32] (by decide +kernel) (by decide +kernel)
set_option maxRecDepth 20000 in
theorem gX9_melt_X9_lossOf : GoodIn wsX9_melt (wsV RX9 106 RX9 yX9_lossOf wsX9_lossOf) := goodIn_app (goodIn_of _ (by decide +kernel)) ggX9_melt_X9_lossOf
set_option maxRecDepth 20000 in
theorem ggX9_melt_X9_removeBlock : GoodIn wsX9_melt wsX9_removeBlock := goodIn_r _ [19, 1, 20, 21, 22, 23, 24, 25, 26, 27, 28, 29, 30, 31, 32] (by decide +kernel) (by decide +kernel)
set_option maxRecDepth 20000 in
theorem gX9_melt_X9_removeBlock : GoodIn wsX9_melt (wsV RX9 110 RX9 yX9_removeBlock wsX9_removeBlock) := goodIn_app (goodIn_of _ (by decide +kernel)) ggX9_melt_X9_removeBlock
theorem dX9_melt_0 : decode cX9_melt 0 = .ok (.iconst 0, 1) := by decide +kernel
theorem dX9_melt_1 : decode cX9_melt 1 = .ok (.istore_n 1, 1) := by decide +kernel
theorem dX9_melt_2 : decode cX9_melt 2 = .ok (.iload_n 1, 1) := by decide +kernel
theorem dX9_melt_3 : decode cX9_melt 3 = .ok (.i2l, 1) := by decide +kernel
theorem dX9_melt_4 : decode cX9_melt 4 = .ok (.aload_n 0, 1) := by decide +kernel
theorem dX9_melt_5 : decode cX9_melt 5 = .ok (.getfield 7, 3) := by decide +kernel
theorem dX9_melt_8 : decode cX9_melt 8 = .ok (.sipush 1880, 3) := by decide +kernel
theorem dX9_melt_11 : decode cX9_melt 11 = .ok (.laload, 1) := by decide +kernel
theorem dX9_melt_12 : decode cX9_melt 12 = .ok (.lcmp, 1) := by decide +kernel
theorem dX9_melt_13 : decode cX9_melt 13 = .ok (.ifCond .ge 154, 3) := by decide +kernel
theorem dX9_melt_16 : decode cX9_melt 16 = .ok (.iconst 0, 1) := by decide +kernel
theorem dX9_melt_17 : decode cX9_melt 17 = .ok (.istore_n 2, 1) := by decide +kernel
theorem dX9_melt_18 : decode cX9_melt 18 = .ok (.iload_n 2, 1) := by decide +kernel
theorem dX9_melt_19 : decode cX9_melt 19 = .ok (.i2l, 1) := by decide +kernel
theorem dX9_melt_20 : decode cX9_melt 20 = .ok (.aload_n 0, 1) := by decide +kernel
theorem dX9_melt_21 : decode cX9_melt 21 = .ok (.getfield 7, 3) := by decide +kernel
theorem dX9_melt_24 : decode cX9_melt 24 = .ok (.bipush 47, 2) := by decide +kernel
theorem dX9_melt_26 : decode cX9_melt 26 = .ok (.iload_n 1, 1) := by decide +kernel
theorem dX9_melt_27 : decode cX9_melt 27 = .ok (.iadd, 1) := by decide +kernel
theorem dX9_melt_28 : decode cX9_melt 28 = .ok (.laload, 1) := by decide +kernel
theorem dX9_melt_29 : decode cX9_melt 29 = .ok (.lcmp, 1) := by decide +kernel
theorem dX9_melt_30 : decode cX9_melt 30 = .ok (.ifCond .ge 82, 3) := by decide +kernel
theorem dX9_melt_33 : decode cX9_melt 33 = .ok (.aload_n 0, 1) := by decide +kernel
theorem dX9_melt_34 : decode cX9_melt 34 = .ok (.iload_n 1, 1) := by decide +kernel
theorem dX9_melt_35 : decode cX9_melt 35 = .ok (.iload_n 2, 1) := by decide +kernel
theorem dX9_melt_36 : decode cX9_melt 36 = .ok (.iload_n 2, 1) := by decide +kernel
theorem dX9_melt_37 : decode cX9_melt 37 = .ok (.i2l, 1) := by decide +kernel
theorem dX9_melt_38 : decode cX9_melt 38 = .ok (.aload_n 0, 1) := by decide +kernel
theorem dX9_melt_39 : decode cX9_melt 39 = .ok (.getfield 7, 3) := by decide +kernel
theorem dX9_melt_42 : decode cX9_melt 42 = .ok (.bipush 47, 2) := by decide +kernel
theorem dX9_melt_44 : decode cX9_melt 44 = .ok (.iload_n 1, 1) := by decide +kernel
theorem dX9_melt_45 : decode cX9_melt 45 = .ok (.iadd, 1) := by decide +kernel
theorem dX9_melt_46 : decode cX9_melt 46 = .ok (.laload, 1) := by decide +kernel
theorem dX9_melt_47 : decode cX9_melt 47 = .ok (.lconst 1, 1) := by decide +kernel
theorem dX9_melt_48 : decode cX9_melt 48 = .ok (.lsub, 1) := by decide +kernel
theorem dX9_melt_49 : decode cX9_melt 49 = .ok (.lcmp, 1) := by decide +kernel
theorem dX9_melt_50 : decode cX9_melt 50 = .ok (.ifCond .ne 7, 3) := by decide +kernel
theorem dX9_melt_53 : decode cX9_melt 53 = .ok (.iconst 1, 1) := by decide +kernel
theorem dX9_melt_54 : decode cX9_melt 54 = .ok (.goto 4, 3) := by decide +kernel
theorem dX9_melt_57 : decode cX9_melt 57 = .ok (.iconst 0, 1) := by decide +kernel
theorem dX9_melt_58 : decode cX9_melt 58 = .ok (.invokevirtual 106, 3) := by decide +kernel
theorem dX9_melt_61 : decode cX9_melt 61 = .ok (.lstore_n 3, 1) := by decide +kernel
theorem dX9_melt_62 : decode cX9_melt 62 = .ok (.aload_n 0, 1) := by decide +kernel
theorem dX9_melt_63 : decode cX9_melt 63 = .ok (.getfield 7, 3) := by decide +kernel
theorem dX9_melt_66 : decode cX9_melt 66 = .ok (.sipush 207, 3) := by decide +kernel
theorem dX9_melt_69 : decode cX9_melt 69 = .ok (.bipush 30, 2) := by decide +kernel
theorem dX9_melt_71 : decode cX9_melt 71 = .ok (.iload_n 1, 1) := by decide +kernel
theorem dX9_melt_72 : decode cX9_melt 72 = .ok (.imul, 1) := by decide +kernel
theorem dX9_melt_73 : decode cX9_melt 73 = .ok (.iadd, 1) := by decide +kernel
theorem dX9_melt_74 : decode cX9_melt 74 = .ok (.iload_n 2, 1) := by decide +kernel
theorem dX9_melt_75 : decode cX9_melt 75 = .ok (.iadd, 1) := by decide +kernel
theorem dX9_melt_76 : decode cX9_melt 76 = .ok (.dup2, 1) := by decide +kernel
theorem dX9_melt_77 : decode cX9_melt 77 = .ok (.laload, 1) := by decide +kernel
theorem dX9_melt_78 : decode cX9_melt 78 = .ok (.lload_n 3, 1) := by decide +kernel
theorem dX9_melt_79 : decode cX9_melt 79 = .ok (.lsub, 1) := by decide +kernel
theorem dX9_melt_80 : decode cX9_melt 80 = .ok (.lastore, 1) := by decide +kernel
theorem dX9_melt_81 : decode cX9_melt 81 = .ok (.aload_n 0, 1) := by decide +kernel
theorem dX9_melt_82 : decode cX9_melt 82 = .ok (.getfield 7, 3) := by decide +kernel
theorem dX9_melt_85 : decode cX9_melt 85 = .ok (.bipush 52, 2) := by decide +kernel
theorem dX9_melt_87 : decode cX9_melt 87 = .ok (.iload_n 1, 1) := by decide +kernel
theorem dX9_melt_88 : decode cX9_melt 88 = .ok (.iadd, 1) := by decide +kernel
theorem dX9_melt_89 : decode cX9_melt 89 = .ok (.dup2, 1) := by decide +kernel
theorem dX9_melt_90 : decode cX9_melt 90 = .ok (.laload, 1) := by decide +kernel
theorem dX9_melt_91 : decode cX9_melt 91 = .ok (.lload_n 3, 1) := by decide +kernel
theorem dX9_melt_92 : decode cX9_melt 92 = .ok (.ladd, 1) := by decide +kernel
theorem dX9_melt_93 : decode cX9_melt 93 = .ok (.lastore, 1) := by decide +kernel
theorem dX9_melt_94 : decode cX9_melt 94 = .ok (.aload_n 0, 1) := by decide +kernel
theorem dX9_melt_95 : decode cX9_melt 95 = .ok (.getfield 7, 3) := by decide +kernel
theorem dX9_melt_98 : decode cX9_melt 98 = .ok (.sipush 1878, 3) := by decide +kernel
theorem dX9_melt_101 : decode cX9_melt 101 = .ok (.dup2, 1) := by decide +kernel
theorem dX9_melt_102 : decode cX9_melt 102 = .ok (.laload, 1) := by decide +kernel
theorem dX9_melt_103 : decode cX9_melt 103 = .ok (.lload_n 3, 1) := by decide +kernel
theorem dX9_melt_104 : decode cX9_melt 104 = .ok (.ladd, 1) := by decide +kernel
theorem dX9_melt_105 : decode cX9_melt 105 = .ok (.lastore, 1) := by decide +kernel
theorem dX9_melt_106 : decode cX9_melt 106 = .ok (.iinc 2 1, 3) := by decide +kernel
theorem dX9_melt_109 : decode cX9_melt 109 = .ok (.goto (-91), 3) := by decide +kernel
theorem dX9_melt_112 : decode cX9_melt 112 = .ok (.aload_n 0, 1) := by decide +kernel
theorem dX9_melt_113 : decode cX9_melt 113 = .ok (.getfield 7, 3) := by decide +kernel
theorem dX9_melt_116 : decode cX9_melt 116 = .ok (.bipush 47, 2) := by decide +kernel
theorem dX9_melt_118 : decode cX9_melt 118 = .ok (.iload_n 1, 1) := by decide +kernel
theorem dX9_melt_119 : decode cX9_melt 119 = .ok (.iadd, 1) := by decide +kernel
theorem dX9_melt_120 : decode cX9_melt 120 = .ok (.laload, 1) := by decide +kernel
theorem dX9_melt_121 : decode cX9_melt 121 = .ok (.l2i, 1) := by decide +kernel
theorem dX9_melt_122 : decode cX9_melt 122 = .ok (.iconst 1, 1) := by decide +kernel
theorem dX9_melt_123 : decode cX9_melt 123 = .ok (.isub, 1) := by decide +kernel
theorem dX9_melt_124 : decode cX9_melt 124 = .ok (.istore_n 2, 1) := by decide +kernel
theorem dX9_melt_125 : decode cX9_melt 125 = .ok (.iload_n 2, 1) := by decide +kernel
theorem dX9_melt_126 : decode cX9_melt 126 = .ok (.ifCond .lt 35, 3) := by decide +kernel
theorem dX9_melt_129 : decode cX9_melt 129 = .ok (.aload_n 0, 1) := by decide +kernel
theorem dX9_melt_130 : decode cX9_melt 130 = .ok (.getfield 7, 3) := by decide +kernel
theorem dX9_melt_133 : decode cX9_melt 133 = .ok (.sipush 207, 3) := by decide +kernel
theorem dX9_melt_136 : decode cX9_melt 136 = .ok (.bipush 30, 2) := by decide +kernel
theorem dX9_melt_138 : decode cX9_melt 138 = .ok (.iload_n 1, 1) := by decide +kernel
theorem dX9_melt_139 : decode cX9_melt 139 = .ok (.imul, 1) := by decide +kernel
theorem dX9_melt_140 : decode cX9_melt 140 = .ok (.iadd, 1) := by decide +kernel
theorem dX9_melt_141 : decode cX9_melt 141 = .ok (.iload_n 2, 1) := by decide +kernel
theorem dX9_melt_142 : decode cX9_melt 142 = .ok (.iadd, 1) := by decide +kernel
theorem dX9_melt_143 : decode cX9_melt 143 = .ok (.laload, 1) := by decide +kernel
theorem dX9_melt_144 : decode cX9_melt 144 = .ok (.lconst 0, 1) := by decide +kernel
theorem dX9_melt_145 : decode cX9_melt 145 = .ok (.lcmp, 1) := by decide +kernel
theorem dX9_melt_146 : decode cX9_melt 146 = .ok (.ifCond .ne 9, 3) := by decide +kernel
theorem dX9_melt_149 : decode cX9_melt 149 = .ok (.aload_n 0, 1) := by decide +kernel
theorem dX9_melt_150 : decode cX9_melt 150 = .ok (.iload_n 1, 1) := by decide +kernel
theorem dX9_melt_151 : decode cX9_melt 151 = .ok (.iload_n 2, 1) := by decide +kernel
theorem dX9_melt_152 : decode cX9_melt 152 = .ok (.invokevirtual 110, 3) := by decide +kernel
theorem dX9_melt_155 : decode cX9_melt 155 = .ok (.iinc 2 (-1), 3) := by decide +kernel
theorem dX9_melt_158 : decode cX9_melt 158 = .ok (.goto (-33), 3) := by decide +kernel
theorem dX9_melt_161 : decode cX9_melt 161 = .ok (.iinc 1 1, 3) := by decide +kernel
theorem dX9_melt_164 : decode cX9_melt 164 = .ok (.goto (-162), 3) := by decide +kernel
theorem dX9_melt_167 : decode cX9_melt 167 = .ok (.return_, 1) := by decide +kernel
theorem dX9_freeSilo_0 : decode cX9_freeSilo 0 = .ok (.iconst 0, 1) := by decide +kernel
theorem dX9_freeSilo_1 : decode cX9_freeSilo 1 = .ok (.istore_n 1, 1) := by decide +kernel
theorem dX9_freeSilo_2 : decode cX9_freeSilo 2 = .ok (.iload_n 1, 1) := by decide +kernel
theorem dX9_freeSilo_3 : decode cX9_freeSilo 3 = .ok (.i2l, 1) := by decide +kernel
theorem dX9_freeSilo_4 : decode cX9_freeSilo 4 = .ok (.aload_n 0, 1) := by decide +kernel
theorem dX9_freeSilo_5 : decode cX9_freeSilo 5 = .ok (.getfield 7, 3) := by decide +kernel
theorem dX9_freeSilo_8 : decode cX9_freeSilo 8 = .ok (.sipush 1880, 3) := by decide +kernel
theorem dX9_freeSilo_11 : decode cX9_freeSilo 11 = .ok (.laload, 1) := by decide +kernel
theorem dX9_freeSilo_12 : decode cX9_freeSilo 12 = .ok (.lcmp, 1) := by decide +kernel
theorem dX9_freeSilo_13 : decode cX9_freeSilo 13 = .ok (.ifCond .ge 33, 3) := by decide +kernel
theorem dX9_freeSilo_16 : decode cX9_freeSilo 16 = .ok (.aload_n 0, 1) := by decide +kernel
theorem dX9_freeSilo_17 : decode cX9_freeSilo 17 = .ok (.getfield 7, 3) := by decide +kernel
theorem dX9_freeSilo_20 : decode cX9_freeSilo 20 = .ok (.bipush 47, 2) := by decide +kernel
theorem dX9_freeSilo_22 : decode cX9_freeSilo 22 = .ok (.iload_n 1, 1) := by decide +kernel
theorem dX9_freeSilo_23 : decode cX9_freeSilo 23 = .ok (.iadd, 1) := by decide +kernel
theorem dX9_freeSilo_24 : decode cX9_freeSilo 24 = .ok (.laload, 1) := by decide +kernel
theorem dX9_freeSilo_25 : decode cX9_freeSilo 25 = .ok (.aload_n 0, 1) := by decide +kernel
theorem dX9_freeSilo_26 : decode cX9_freeSilo 26 = .ok (.getfield 7, 3) := by decide +kernel
theorem dX9_freeSilo_29 : decode cX9_freeSilo 29 = .ok (.bipush 32, 2) := by decide +kernel
theorem dX9_freeSilo_31 : decode cX9_freeSilo 31 = .ok (.iload_n 1, 1) := by decide +kernel
theorem dX9_freeSilo_32 : decode cX9_freeSilo 32 = .ok (.iadd, 1) := by decide +kernel
theorem dX9_freeSilo_33 : decode cX9_freeSilo 33 = .ok (.laload, 1) := by decide +kernel
theorem dX9_freeSilo_34 : decode cX9_freeSilo 34 = .ok (.lcmp, 1) := by decide +kernel
theorem dX9_freeSilo_35 : decode cX9_freeSilo 35 = .ok (.ifCond .ge 5, 3) := by decide +kernel
theorem dX9_freeSilo_38 : decode cX9_freeSilo 38 = .ok (.iload_n 1, 1) := by decide +kernel
theorem dX9_freeSilo_39 : decode cX9_freeSilo 39 = .ok (.ireturn, 1) := by decide +kernel
theorem dX9_freeSilo_40 : decode cX9_freeSilo 40 = .ok (.iinc 1 1, 3) := by decide +kernel
theorem dX9_freeSilo_43 : decode cX9_freeSilo 43 = .ok (.goto (-41), 3) := by decide +kernel
theorem dX9_freeSilo_46 : decode cX9_freeSilo 46 = .ok (.iconst (-1), 1) := by decide +kernel
theorem dX9_freeSilo_47 : decode cX9_freeSilo 47 = .ok (.ireturn, 1) := by decide +kernel
set_option maxRecDepth 20000 in
theorem ggX9_produce_X9_freeSilo : GoodIn wsX9_produce wsX9_freeSilo := goodIn_r _ [6, 1, 7, 8, 9, 10, 11, 12, 13, 14, 15, 16, 17, 18, 19] (by decide +kernel) (by decide +kernel)
set_option maxRecDepth 20000 in
theorem gX9_produce_X9_freeSilo : GoodIn wsX9_produce (wsV RX9 114 RX9 yX9_freeSilo wsX9_freeSilo) := goodIn_app (goodIn_of _ (by decide +kernel)) ggX9_produce_X9_freeSilo
theorem dX9_produce_0 : decode cX9_produce 0 = .ok (.iconst 0, 1) := by decide +kernel
theorem dX9_produce_1 : decode cX9_produce 1 = .ok (.istore_n 1, 1) := by decide +kernel
theorem dX9_produce_2 : decode cX9_produce 2 = .ok (.iload_n 1, 1) := by decide +kernel
theorem dX9_produce_3 : decode cX9_produce 3 = .ok (.i2l, 1) := by decide +kernel
theorem dX9_produce_4 : decode cX9_produce 4 = .ok (.aload_n 0, 1) := by decide +kernel
theorem dX9_produce_5 : decode cX9_produce 5 = .ok (.getfield 7, 3) := by decide +kernel
theorem dX9_produce_8 : decode cX9_produce 8 = .ok (.iconst 1, 1) := by decide +kernel
theorem dX9_produce_9 : decode cX9_produce 9 = .ok (.laload, 1) := by decide +kernel
theorem dX9_produce_10 : decode cX9_produce 10 = .ok (.lcmp, 1) := by decide +kernel
theorem dX9_produce_11 : decode cX9_produce 11 = .ok (.ifCond .ge 136, 3) := by decide +kernel
theorem dX9_produce_14 : decode cX9_produce 14 = .ok (.aload_n 0, 1) := by decide +kernel
theorem dX9_produce_15 : decode cX9_produce 15 = .ok (.invokevirtual 114, 3) := by decide +kernel
theorem dX9_produce_18 : decode cX9_produce 18 = .ok (.istore_n 2, 1) := by decide +kernel
theorem dX9_produce_19 : decode cX9_produce 19 = .ok (.iload_n 2, 1) := by decide +kernel
theorem dX9_produce_20 : decode cX9_produce 20 = .ok (.iconst (-1), 1) := by decide +kernel
theorem dX9_produce_21 : decode cX9_produce 21 = .ok (.if_icmp .ne 18, 3) := by decide +kernel
theorem dX9_produce_24 : decode cX9_produce 24 = .ok (.aload_n 0, 1) := by decide +kernel
theorem dX9_produce_25 : decode cX9_produce 25 = .ok (.getfield 7, 3) := by decide +kernel
theorem dX9_produce_28 : decode cX9_produce 28 = .ok (.sipush 1879, 3) := by decide +kernel
theorem dX9_produce_31 : decode cX9_produce 31 = .ok (.dup2, 1) := by decide +kernel
theorem dX9_produce_32 : decode cX9_produce 32 = .ok (.laload, 1) := by decide +kernel
theorem dX9_produce_33 : decode cX9_produce 33 = .ok (.lconst 1, 1) := by decide +kernel
theorem dX9_produce_34 : decode cX9_produce 34 = .ok (.ladd, 1) := by decide +kernel
theorem dX9_produce_35 : decode cX9_produce 35 = .ok (.lastore, 1) := by decide +kernel
theorem dX9_produce_36 : decode cX9_produce 36 = .ok (.goto 105, 3) := by decide +kernel
theorem dX9_produce_39 : decode cX9_produce 39 = .ok (.bipush 30, 2) := by decide +kernel
theorem dX9_produce_41 : decode cX9_produce 41 = .ok (.iload_n 2, 1) := by decide +kernel
theorem dX9_produce_42 : decode cX9_produce 42 = .ok (.imul, 1) := by decide +kernel
theorem dX9_produce_43 : decode cX9_produce 43 = .ok (.aload_n 0, 1) := by decide +kernel
theorem dX9_produce_44 : decode cX9_produce 44 = .ok (.getfield 7, 3) := by decide +kernel
theorem dX9_produce_47 : decode cX9_produce 47 = .ok (.bipush 47, 2) := by decide +kernel
theorem dX9_produce_49 : decode cX9_produce 49 = .ok (.iload_n 2, 1) := by decide +kernel
theorem dX9_produce_50 : decode cX9_produce 50 = .ok (.iadd, 1) := by decide +kernel
theorem dX9_produce_51 : decode cX9_produce 51 = .ok (.laload, 1) := by decide +kernel
theorem dX9_produce_52 : decode cX9_produce 52 = .ok (.l2i, 1) := by decide +kernel
theorem dX9_produce_53 : decode cX9_produce 53 = .ok (.iadd, 1) := by decide +kernel
theorem dX9_produce_54 : decode cX9_produce 54 = .ok (.istore_n 3, 1) := by decide +kernel
theorem dX9_produce_55 : decode cX9_produce 55 = .ok (.aload_n 0, 1) := by decide +kernel
theorem dX9_produce_56 : decode cX9_produce 56 = .ok (.getfield 7, 3) := by decide +kernel
theorem dX9_produce_59 : decode cX9_produce 59 = .ok (.bipush 57, 2) := by decide +kernel
theorem dX9_produce_61 : decode cX9_produce 61 = .ok (.iload_n 3, 1) := by decide +kernel
theorem dX9_produce_62 : decode cX9_produce 62 = .ok (.iadd, 1) := by decide +kernel
theorem dX9_produce_63 : decode cX9_produce 63 = .ok (.aload_n 0, 1) := by decide +kernel
theorem dX9_produce_64 : decode cX9_produce 64 = .ok (.getfield 7, 3) := by decide +kernel
theorem dX9_produce_67 : decode cX9_produce 67 = .ok (.sipush 1887, 3) := by decide +kernel
theorem dX9_produce_70 : decode cX9_produce 70 = .ok (.laload, 1) := by decide +kernel
theorem dX9_produce_71 : decode cX9_produce 71 = .ok (.lastore, 1) := by decide +kernel
theorem dX9_produce_72 : decode cX9_produce 72 = .ok (.aload_n 0, 1) := by decide +kernel
theorem dX9_produce_73 : decode cX9_produce 73 = .ok (.getfield 7, 3) := by decide +kernel
theorem dX9_produce_76 : decode cX9_produce 76 = .ok (.sipush 207, 3) := by decide +kernel
theorem dX9_produce_79 : decode cX9_produce 79 = .ok (.iload_n 3, 1) := by decide +kernel
theorem dX9_produce_80 : decode cX9_produce 80 = .ok (.iadd, 1) := by decide +kernel
theorem dX9_produce_81 : decode cX9_produce 81 = .ok (.aload_n 0, 1) := by decide +kernel
theorem dX9_produce_82 : decode cX9_produce 82 = .ok (.getfield 7, 3) := by decide +kernel
theorem dX9_produce_85 : decode cX9_produce 85 = .ok (.iconst 0, 1) := by decide +kernel
theorem dX9_produce_86 : decode cX9_produce 86 = .ok (.laload, 1) := by decide +kernel
theorem dX9_produce_87 : decode cX9_produce 87 = .ok (.lastore, 1) := by decide +kernel
theorem dX9_produce_88 : decode cX9_produce 88 = .ok (.aload_n 0, 1) := by decide +kernel
theorem dX9_produce_89 : decode cX9_produce 89 = .ok (.getfield 7, 3) := by decide +kernel
theorem dX9_produce_92 : decode cX9_produce 92 = .ok (.sipush 357, 3) := by decide +kernel
theorem dX9_produce_95 : decode cX9_produce 95 = .ok (.iload_n 3, 1) := by decide +kernel
theorem dX9_produce_96 : decode cX9_produce 96 = .ok (.iadd, 1) := by decide +kernel
theorem dX9_produce_97 : decode cX9_produce 97 = .ok (.lconst 0, 1) := by decide +kernel
theorem dX9_produce_98 : decode cX9_produce 98 = .ok (.lastore, 1) := by decide +kernel
theorem dX9_produce_99 : decode cX9_produce 99 = .ok (.aload_n 0, 1) := by decide +kernel
theorem dX9_produce_100 : decode cX9_produce 100 = .ok (.getfield 7, 3) := by decide +kernel
theorem dX9_produce_103 : decode cX9_produce 103 = .ok (.sipush 1887, 3) := by decide +kernel
theorem dX9_produce_106 : decode cX9_produce 106 = .ok (.dup2, 1) := by decide +kernel
theorem dX9_produce_107 : decode cX9_produce 107 = .ok (.laload, 1) := by decide +kernel
theorem dX9_produce_108 : decode cX9_produce 108 = .ok (.lconst 1, 1) := by decide +kernel
theorem dX9_produce_109 : decode cX9_produce 109 = .ok (.ladd, 1) := by decide +kernel
theorem dX9_produce_110 : decode cX9_produce 110 = .ok (.lastore, 1) := by decide +kernel
theorem dX9_produce_111 : decode cX9_produce 111 = .ok (.aload_n 0, 1) := by decide +kernel
theorem dX9_produce_112 : decode cX9_produce 112 = .ok (.getfield 7, 3) := by decide +kernel
theorem dX9_produce_115 : decode cX9_produce 115 = .ok (.bipush 47, 2) := by decide +kernel
theorem dX9_produce_117 : decode cX9_produce 117 = .ok (.iload_n 2, 1) := by decide +kernel
theorem dX9_produce_118 : decode cX9_produce 118 = .ok (.iadd, 1) := by decide +kernel
theorem dX9_produce_119 : decode cX9_produce 119 = .ok (.dup2, 1) := by decide +kernel
theorem dX9_produce_120 : decode cX9_produce 120 = .ok (.laload, 1) := by decide +kernel
theorem dX9_produce_121 : decode cX9_produce 121 = .ok (.lconst 1, 1) := by decide +kernel
theorem dX9_produce_122 : decode cX9_produce 122 = .ok (.ladd, 1) := by decide +kernel
theorem dX9_produce_123 : decode cX9_produce 123 = .ok (.lastore, 1) := by decide +kernel
theorem dX9_produce_124 : decode cX9_produce 124 = .ok (.aload_n 0, 1) := by decide +kernel
theorem dX9_produce_125 : decode cX9_produce 125 = .ok (.getfield 7, 3) := by decide +kernel
theorem dX9_produce_128 : decode cX9_produce 128 = .ok (.sipush 1876, 3) := by decide +kernel
theorem dX9_produce_131 : decode cX9_produce 131 = .ok (.dup2, 1) := by decide +kernel
theorem dX9_produce_132 : decode cX9_produce 132 = .ok (.laload, 1) := by decide +kernel
theorem dX9_produce_133 : decode cX9_produce 133 = .ok (.aload_n 0, 1) := by decide +kernel
theorem dX9_produce_134 : decode cX9_produce 134 = .ok (.getfield 7, 3) := by decide +kernel
theorem dX9_produce_137 : decode cX9_produce 137 = .ok (.iconst 0, 1) := by decide +kernel
theorem dX9_produce_138 : decode cX9_produce 138 = .ok (.laload, 1) := by decide +kernel
theorem dX9_produce_139 : decode cX9_produce 139 = .ok (.ladd, 1) := by decide +kernel
theorem dX9_produce_140 : decode cX9_produce 140 = .ok (.lastore, 1) := by decide +kernel
theorem dX9_produce_141 : decode cX9_produce 141 = .ok (.iinc 1 1, 3) := by decide +kernel
theorem dX9_produce_144 : decode cX9_produce 144 = .ok (.goto (-142), 3) := by decide +kernel
theorem dX9_produce_147 : decode cX9_produce 147 = .ok (.return_, 1) := by decide +kernel
theorem dX9_remaining_0 : decode cX9_remaining 0 = .ok (.aload_n 0, 1) := by decide +kernel
theorem dX9_remaining_1 : decode cX9_remaining 1 = .ok (.getfield 7, 3) := by decide +kernel
theorem dX9_remaining_4 : decode cX9_remaining 4 = .ok (.sipush 731, 3) := by decide +kernel
theorem dX9_remaining_7 : decode cX9_remaining 7 = .ok (.iload_n 1, 1) := by decide +kernel
theorem dX9_remaining_8 : decode cX9_remaining 8 = .ok (.iadd, 1) := by decide +kernel
theorem dX9_remaining_9 : decode cX9_remaining 9 = .ok (.laload, 1) := by decide +kernel
theorem dX9_remaining_10 : decode cX9_remaining 10 = .ok (.aload_n 0, 1) := by decide +kernel
theorem dX9_remaining_11 : decode cX9_remaining 11 = .ok (.getfield 7, 3) := by decide +kernel
theorem dX9_remaining_14 : decode cX9_remaining 14 = .ok (.sipush 931, 3) := by decide +kernel
theorem dX9_remaining_17 : decode cX9_remaining 17 = .ok (.iload_n 1, 1) := by decide +kernel
theorem dX9_remaining_18 : decode cX9_remaining 18 = .ok (.iadd, 1) := by decide +kernel
theorem dX9_remaining_19 : decode cX9_remaining 19 = .ok (.laload, 1) := by decide +kernel
theorem dX9_remaining_20 : decode cX9_remaining 20 = .ok (.lsub, 1) := by decide +kernel
theorem dX9_remaining_21 : decode cX9_remaining 21 = .ok (.lstore_n 2, 1) := by decide +kernel
theorem dX9_remaining_22 : decode cX9_remaining 22 = .ok (.lload_n 2, 1) := by decide +kernel
theorem dX9_remaining_23 : decode cX9_remaining 23 = .ok (.lconst 0, 1) := by decide +kernel
theorem dX9_remaining_24 : decode cX9_remaining 24 = .ok (.lcmp, 1) := by decide +kernel
theorem dX9_remaining_25 : decode cX9_remaining 25 = .ok (.ifCond .ge 7, 3) := by decide +kernel
theorem dX9_remaining_28 : decode cX9_remaining 28 = .ok (.lconst 0, 1) := by decide +kernel
theorem dX9_remaining_29 : decode cX9_remaining 29 = .ok (.goto 4, 3) := by decide +kernel
theorem dX9_remaining_32 : decode cX9_remaining 32 = .ok (.lload_n 2, 1) := by decide +kernel
theorem dX9_remaining_33 : decode cX9_remaining 33 = .ok (.lreturn, 1) := by decide +kernel
theorem dX9_catchOf_0 : decode cX9_catchOf 0 = .ok (.aload_n 0, 1) := by decide +kernel
theorem dX9_catchOf_1 : decode cX9_catchOf 1 = .ok (.getfield 7, 3) := by decide +kernel
theorem dX9_catchOf_4 : decode cX9_catchOf 4 = .ok (.sipush 507, 3) := by decide +kernel
theorem dX9_catchOf_7 : decode cX9_catchOf 7 = .ok (.aload_n 0, 1) := by decide +kernel
theorem dX9_catchOf_8 : decode cX9_catchOf 8 = .ok (.getfield 7, 3) := by decide +kernel
theorem dX9_catchOf_11 : decode cX9_catchOf 11 = .ok (.sipush 531, 3) := by decide +kernel
theorem dX9_catchOf_14 : decode cX9_catchOf 14 = .ok (.iload_n 1, 1) := by decide +kernel
theorem dX9_catchOf_15 : decode cX9_catchOf 15 = .ok (.iadd, 1) := by decide +kernel
theorem dX9_catchOf_16 : decode cX9_catchOf 16 = .ok (.laload, 1) := by decide +kernel
theorem dX9_catchOf_17 : decode cX9_catchOf 17 = .ok (.l2i, 1) := by decide +kernel
theorem dX9_catchOf_18 : decode cX9_catchOf 18 = .ok (.iadd, 1) := by decide +kernel
theorem dX9_catchOf_19 : decode cX9_catchOf 19 = .ok (.laload, 1) := by decide +kernel
theorem dX9_catchOf_20 : decode cX9_catchOf 20 = .ok (.lreturn, 1) := by decide +kernel
set_option maxRecDepth 20000 in
theorem ggX9_isBefore_X9_catchOf : GoodIn wsX9_isBefore wsX9_catchOf := goodIn_r _ [8, 1, 13, 14, 15, 16, 17, 18, 19, 20, 21, 22, 23, 24, 25] (by decide +kernel) (by decide +kernel)
set_option maxRecDepth 20000 in
theorem gX9_isBefore_X9_catchOf : GoodIn wsX9_isBefore (wsV RX9 118 RX9 yX9_catchOf wsX9_catchOf) := goodIn_app (goodIn_of _ (by decide +kernel)) ggX9_isBefore_X9_catchOf
set_option maxRecDepth 20000 in
theorem ggX9_isBefore_X9_remaining : GoodIn wsX9_isBefore wsX9_remaining := goodIn_r _ [12, 1, 13, 14, 15, 16, 17, 18, 19, 20, 21, 22, 23, 24, 25] (by decide +kernel) (by decide +kernel)
set_option maxRecDepth 20000 in
theorem gX9_isBefore_X9_remaining : GoodIn wsX9_isBefore (wsV RX9 122 RX9 yX9_remaining wsX9_remaining) := goodIn_app (goodIn_of _ (by decide +kernel)) ggX9_isBefore_X9_remaining
theorem dX9_isBefore_0 : decode cX9_isBefore 0 = .ok (.lconst 0, 1) := by decide +kernel
theorem dX9_isBefore_1 : decode cX9_isBefore 1 = .ok (.lstore_n 3, 1) := by decide +kernel
theorem dX9_isBefore_2 : decode cX9_isBefore 2 = .ok (.lconst 0, 1) := by decide +kernel
theorem dX9_isBefore_3 : decode cX9_isBefore 3 = .ok (.lstore 5, 2) := by decide +kernel
theorem dX9_isBefore_5 : decode cX9_isBefore 5 = .ok (.aload_n 0, 1) := by decide +kernel
theorem dX9_isBefore_6 : decode cX9_isBefore 6 = .ok (.getfield 7, 3) := by decide +kernel
theorem dX9_isBefore_9 : decode cX9_isBefore 9 = .ok (.iconst 2, 1) := by decide +kernel
theorem dX9_isBefore_10 : decode cX9_isBefore 10 = .ok (.laload, 1) := by decide +kernel
theorem dX9_isBefore_11 : decode cX9_isBefore 11 = .ok (.lconst 1, 1) := by decide +kernel
theorem dX9_isBefore_12 : decode cX9_isBefore 12 = .ok (.lcmp, 1) := by decide +kernel
theorem dX9_isBefore_13 : decode cX9_isBefore 13 = .ok (.ifCond .ne 19, 3) := by decide +kernel
theorem dX9_isBefore_16 : decode cX9_isBefore 16 = .ok (.aload_n 0, 1) := by decide +kernel
theorem dX9_isBefore_17 : decode cX9_isBefore 17 = .ok (.iload_n 2, 1) := by decide +kernel
theorem dX9_isBefore_18 : decode cX9_isBefore 18 = .ok (.invokevirtual 118, 3) := by decide +kernel
theorem dX9_isBefore_21 : decode cX9_isBefore 21 = .ok (.lstore_n 3, 1) := by decide +kernel
theorem dX9_isBefore_22 : decode cX9_isBefore 22 = .ok (.aload_n 0, 1) := by decide +kernel
theorem dX9_isBefore_23 : decode cX9_isBefore 23 = .ok (.iload_n 1, 1) := by decide +kernel
theorem dX9_isBefore_24 : decode cX9_isBefore 24 = .ok (.invokevirtual 118, 3) := by decide +kernel
theorem dX9_isBefore_27 : decode cX9_isBefore 27 = .ok (.lstore 5, 2) := by decide +kernel
theorem dX9_isBefore_29 : decode cX9_isBefore 29 = .ok (.goto 80, 3) := by decide +kernel
theorem dX9_isBefore_32 : decode cX9_isBefore 32 = .ok (.aload_n 0, 1) := by decide +kernel
theorem dX9_isBefore_33 : decode cX9_isBefore 33 = .ok (.getfield 7, 3) := by decide +kernel
theorem dX9_isBefore_36 : decode cX9_isBefore 36 = .ok (.iconst 2, 1) := by decide +kernel
theorem dX9_isBefore_37 : decode cX9_isBefore 37 = .ok (.laload, 1) := by decide +kernel
theorem dX9_isBefore_38 : decode cX9_isBefore 38 = .ok (.ldc2_w 31, 3) := by decide +kernel
theorem dX9_isBefore_41 : decode cX9_isBefore 41 = .ok (.lcmp, 1) := by decide +kernel
theorem dX9_isBefore_42 : decode cX9_isBefore 42 = .ok (.ifCond .ne 29, 3) := by decide +kernel
theorem dX9_isBefore_45 : decode cX9_isBefore 45 = .ok (.aload_n 0, 1) := by decide +kernel
theorem dX9_isBefore_46 : decode cX9_isBefore 46 = .ok (.getfield 7, 3) := by decide +kernel
theorem dX9_isBefore_49 : decode cX9_isBefore 49 = .ok (.sipush 1131, 3) := by decide +kernel
theorem dX9_isBefore_52 : decode cX9_isBefore 52 = .ok (.iload_n 1, 1) := by decide +kernel
theorem dX9_isBefore_53 : decode cX9_isBefore 53 = .ok (.iadd, 1) := by decide +kernel
theorem dX9_isBefore_54 : decode cX9_isBefore 54 = .ok (.laload, 1) := by decide +kernel
theorem dX9_isBefore_55 : decode cX9_isBefore 55 = .ok (.lstore_n 3, 1) := by decide +kernel
theorem dX9_isBefore_56 : decode cX9_isBefore 56 = .ok (.aload_n 0, 1) := by decide +kernel
theorem dX9_isBefore_57 : decode cX9_isBefore 57 = .ok (.getfield 7, 3) := by decide +kernel
theorem dX9_isBefore_60 : decode cX9_isBefore 60 = .ok (.sipush 1131, 3) := by decide +kernel
theorem dX9_isBefore_63 : decode cX9_isBefore 63 = .ok (.iload_n 2, 1) := by decide +kernel
theorem dX9_isBefore_64 : decode cX9_isBefore 64 = .ok (.iadd, 1) := by decide +kernel
theorem dX9_isBefore_65 : decode cX9_isBefore 65 = .ok (.laload, 1) := by decide +kernel
theorem dX9_isBefore_66 : decode cX9_isBefore 66 = .ok (.lstore 5, 2) := by decide +kernel
theorem dX9_isBefore_68 : decode cX9_isBefore 68 = .ok (.goto 41, 3) := by decide +kernel
theorem dX9_isBefore_71 : decode cX9_isBefore 71 = .ok (.aload_n 0, 1) := by decide +kernel
theorem dX9_isBefore_72 : decode cX9_isBefore 72 = .ok (.getfield 7, 3) := by decide +kernel
theorem dX9_isBefore_75 : decode cX9_isBefore 75 = .ok (.iconst 2, 1) := by decide +kernel
theorem dX9_isBefore_76 : decode cX9_isBefore 76 = .ok (.laload, 1) := by decide +kernel
theorem dX9_isBefore_77 : decode cX9_isBefore 77 = .ok (.ldc2_w 56, 3) := by decide +kernel
theorem dX9_isBefore_80 : decode cX9_isBefore 80 = .ok (.lcmp, 1) := by decide +kernel
theorem dX9_isBefore_81 : decode cX9_isBefore 81 = .ok (.ifCond .ne 28, 3) := by decide +kernel
theorem dX9_isBefore_84 : decode cX9_isBefore 84 = .ok (.aload_n 0, 1) := by decide +kernel
theorem dX9_isBefore_85 : decode cX9_isBefore 85 = .ok (.iload_n 2, 1) := by decide +kernel
theorem dX9_isBefore_86 : decode cX9_isBefore 86 = .ok (.invokevirtual 118, 3) := by decide +kernel
theorem dX9_isBefore_89 : decode cX9_isBefore 89 = .ok (.aload_n 0, 1) := by decide +kernel
theorem dX9_isBefore_90 : decode cX9_isBefore 90 = .ok (.iload_n 1, 1) := by decide +kernel
theorem dX9_isBefore_91 : decode cX9_isBefore 91 = .ok (.invokevirtual 122, 3) := by decide +kernel
theorem dX9_isBefore_94 : decode cX9_isBefore 94 = .ok (.lmul, 1) := by decide +kernel
theorem dX9_isBefore_95 : decode cX9_isBefore 95 = .ok (.lstore_n 3, 1) := by decide +kernel
theorem dX9_isBefore_96 : decode cX9_isBefore 96 = .ok (.aload_n 0, 1) := by decide +kernel
theorem dX9_isBefore_97 : decode cX9_isBefore 97 = .ok (.iload_n 1, 1) := by decide +kernel
theorem dX9_isBefore_98 : decode cX9_isBefore 98 = .ok (.invokevirtual 118, 3) := by decide +kernel
theorem dX9_isBefore_101 : decode cX9_isBefore 101 = .ok (.aload_n 0, 1) := by decide +kernel
theorem dX9_isBefore_102 : decode cX9_isBefore 102 = .ok (.iload_n 2, 1) := by decide +kernel
theorem dX9_isBefore_103 : decode cX9_isBefore 103 = .ok (.invokevirtual 122, 3) := by decide +kernel
theorem dX9_isBefore_106 : decode cX9_isBefore 106 = .ok (.lmul, 1) := by decide +kernel
theorem dX9_isBefore_107 : decode cX9_isBefore 107 = .ok (.lstore 5, 2) := by decide +kernel
theorem dX9_isBefore_109 : decode cX9_isBefore 109 = .ok (.lload_n 3, 1) := by decide +kernel
theorem dX9_isBefore_110 : decode cX9_isBefore 110 = .ok (.lload 5, 2) := by decide +kernel
theorem dX9_isBefore_112 : decode cX9_isBefore 112 = .ok (.lcmp, 1) := by decide +kernel
theorem dX9_isBefore_113 : decode cX9_isBefore 113 = .ok (.ifCond .lt 15, 3) := by decide +kernel
theorem dX9_isBefore_116 : decode cX9_isBefore 116 = .ok (.lload_n 3, 1) := by decide +kernel
theorem dX9_isBefore_117 : decode cX9_isBefore 117 = .ok (.lload 5, 2) := by decide +kernel
theorem dX9_isBefore_119 : decode cX9_isBefore 119 = .ok (.lcmp, 1) := by decide +kernel
theorem dX9_isBefore_120 : decode cX9_isBefore 120 = .ok (.ifCond .ne 12, 3) := by decide +kernel
theorem dX9_isBefore_123 : decode cX9_isBefore 123 = .ok (.iload_n 1, 1) := by decide +kernel
theorem dX9_isBefore_124 : decode cX9_isBefore 124 = .ok (.iload_n 2, 1) := by decide +kernel
theorem dX9_isBefore_125 : decode cX9_isBefore 125 = .ok (.if_icmp .ge 7, 3) := by decide +kernel
theorem dX9_isBefore_128 : decode cX9_isBefore 128 = .ok (.iconst 1, 1) := by decide +kernel
theorem dX9_isBefore_129 : decode cX9_isBefore 129 = .ok (.goto 4, 3) := by decide +kernel
theorem dX9_isBefore_132 : decode cX9_isBefore 132 = .ok (.iconst 0, 1) := by decide +kernel
theorem dX9_isBefore_133 : decode cX9_isBefore 133 = .ok (.ireturn, 1) := by decide +kernel
set_option maxRecDepth 20000 in
theorem ggX9_aheadOf_X9_isBefore : GoodIn wsX9_aheadOf wsX9_isBefore := goodIn_r _ [6, 1, 7, 8, 9, 10, 11, 5, 12, 13, 14, 15, 16, 17, 18, 19, 20, 21, 22, 23, 24, 25, 26, 27, 28, 29] (by decide +kernel) (by decide +kernel)
set_option maxRecDepth 20000 in
theorem gX9_aheadOf_X9_isBefore : GoodIn wsX9_aheadOf (wsV RX9 125 RX9 yX9_isBefore wsX9_isBefore) := goodIn_app (goodIn_of _ (by decide +kernel)) ggX9_aheadOf_X9_isBefore
theorem dX9_aheadOf_0 : decode cX9_aheadOf 0 = .ok (.iconst 0, 1) := by decide +kernel
theorem dX9_aheadOf_1 : decode cX9_aheadOf 1 = .ok (.istore_n 2, 1) := by decide +kernel
theorem dX9_aheadOf_2 : decode cX9_aheadOf 2 = .ok (.iconst 0, 1) := by decide +kernel
theorem dX9_aheadOf_3 : decode cX9_aheadOf 3 = .ok (.istore_n 3, 1) := by decide +kernel
theorem dX9_aheadOf_4 : decode cX9_aheadOf 4 = .ok (.iload_n 3, 1) := by decide +kernel
theorem dX9_aheadOf_5 : decode cX9_aheadOf 5 = .ok (.i2l, 1) := by decide +kernel
theorem dX9_aheadOf_6 : decode cX9_aheadOf 6 = .ok (.aload_n 0, 1) := by decide +kernel
theorem dX9_aheadOf_7 : decode cX9_aheadOf 7 = .ok (.getfield 7, 3) := by decide +kernel
theorem dX9_aheadOf_10 : decode cX9_aheadOf 10 = .ok (.sipush 1882, 3) := by decide +kernel
theorem dX9_aheadOf_13 : decode cX9_aheadOf 13 = .ok (.laload, 1) := by decide +kernel
theorem dX9_aheadOf_14 : decode cX9_aheadOf 14 = .ok (.lcmp, 1) := by decide +kernel
theorem dX9_aheadOf_15 : decode cX9_aheadOf 15 = .ok (.ifCond .ge 36, 3) := by decide +kernel
theorem dX9_aheadOf_18 : decode cX9_aheadOf 18 = .ok (.aload_n 0, 1) := by decide +kernel
theorem dX9_aheadOf_19 : decode cX9_aheadOf 19 = .ok (.getfield 7, 3) := by decide +kernel
theorem dX9_aheadOf_22 : decode cX9_aheadOf 22 = .ok (.sipush 1531, 3) := by decide +kernel
theorem dX9_aheadOf_25 : decode cX9_aheadOf 25 = .ok (.iload_n 3, 1) := by decide +kernel
theorem dX9_aheadOf_26 : decode cX9_aheadOf 26 = .ok (.iadd, 1) := by decide +kernel
theorem dX9_aheadOf_27 : decode cX9_aheadOf 27 = .ok (.laload, 1) := by decide +kernel
theorem dX9_aheadOf_28 : decode cX9_aheadOf 28 = .ok (.lconst 0, 1) := by decide +kernel
theorem dX9_aheadOf_29 : decode cX9_aheadOf 29 = .ok (.lcmp, 1) := by decide +kernel
theorem dX9_aheadOf_30 : decode cX9_aheadOf 30 = .ok (.ifCond .ne 15, 3) := by decide +kernel
theorem dX9_aheadOf_33 : decode cX9_aheadOf 33 = .ok (.aload_n 0, 1) := by decide +kernel
theorem dX9_aheadOf_34 : decode cX9_aheadOf 34 = .ok (.iload_n 3, 1) := by decide +kernel
theorem dX9_aheadOf_35 : decode cX9_aheadOf 35 = .ok (.iload_n 1, 1) := by decide +kernel
theorem dX9_aheadOf_36 : decode cX9_aheadOf 36 = .ok (.invokevirtual 125, 3) := by decide +kernel
theorem dX9_aheadOf_39 : decode cX9_aheadOf 39 = .ok (.ifCond .eq 6, 3) := by decide +kernel
theorem dX9_aheadOf_42 : decode cX9_aheadOf 42 = .ok (.iinc 2 1, 3) := by decide +kernel
theorem dX9_aheadOf_45 : decode cX9_aheadOf 45 = .ok (.iinc 3 1, 3) := by decide +kernel
theorem dX9_aheadOf_48 : decode cX9_aheadOf 48 = .ok (.goto (-44), 3) := by decide +kernel
theorem dX9_aheadOf_51 : decode cX9_aheadOf 51 = .ok (.iload_n 2, 1) := by decide +kernel
theorem dX9_aheadOf_52 : decode cX9_aheadOf 52 = .ok (.ireturn, 1) := by decide +kernel
theorem dX9_stored_0 : decode cX9_stored 0 = .ok (.lconst 0, 1) := by decide +kernel
theorem dX9_stored_1 : decode cX9_stored 1 = .ok (.lstore_n 1, 1) := by decide +kernel
theorem dX9_stored_2 : decode cX9_stored 2 = .ok (.iconst 0, 1) := by decide +kernel
theorem dX9_stored_3 : decode cX9_stored 3 = .ok (.istore_n 3, 1) := by decide +kernel
theorem dX9_stored_4 : decode cX9_stored 4 = .ok (.iload_n 3, 1) := by decide +kernel
theorem dX9_stored_5 : decode cX9_stored 5 = .ok (.i2l, 1) := by decide +kernel
theorem dX9_stored_6 : decode cX9_stored 6 = .ok (.aload_n 0, 1) := by decide +kernel
theorem dX9_stored_7 : decode cX9_stored 7 = .ok (.getfield 7, 3) := by decide +kernel
theorem dX9_stored_10 : decode cX9_stored 10 = .ok (.sipush 1880, 3) := by decide +kernel
theorem dX9_stored_13 : decode cX9_stored 13 = .ok (.laload, 1) := by decide +kernel
theorem dX9_stored_14 : decode cX9_stored 14 = .ok (.lcmp, 1) := by decide +kernel
theorem dX9_stored_15 : decode cX9_stored 15 = .ok (.ifCond .ge 53, 3) := by decide +kernel
theorem dX9_stored_18 : decode cX9_stored 18 = .ok (.iconst 0, 1) := by decide +kernel
theorem dX9_stored_19 : decode cX9_stored 19 = .ok (.istore 4, 2) := by decide +kernel
theorem dX9_stored_21 : decode cX9_stored 21 = .ok (.iload 4, 2) := by decide +kernel
theorem dX9_stored_23 : decode cX9_stored 23 = .ok (.i2l, 1) := by decide +kernel
theorem dX9_stored_24 : decode cX9_stored 24 = .ok (.aload_n 0, 1) := by decide +kernel
theorem dX9_stored_25 : decode cX9_stored 25 = .ok (.getfield 7, 3) := by decide +kernel
theorem dX9_stored_28 : decode cX9_stored 28 = .ok (.bipush 47, 2) := by decide +kernel
theorem dX9_stored_30 : decode cX9_stored 30 = .ok (.iload_n 3, 1) := by decide +kernel
theorem dX9_stored_31 : decode cX9_stored 31 = .ok (.iadd, 1) := by decide +kernel
theorem dX9_stored_32 : decode cX9_stored 32 = .ok (.laload, 1) := by decide +kernel
theorem dX9_stored_33 : decode cX9_stored 33 = .ok (.lcmp, 1) := by decide +kernel
theorem dX9_stored_34 : decode cX9_stored 34 = .ok (.ifCond .ge 28, 3) := by decide +kernel
theorem dX9_stored_37 : decode cX9_stored 37 = .ok (.lload_n 1, 1) := by decide +kernel
theorem dX9_stored_38 : decode cX9_stored 38 = .ok (.aload_n 0, 1) := by decide +kernel
theorem dX9_stored_39 : decode cX9_stored 39 = .ok (.getfield 7, 3) := by decide +kernel
theorem dX9_stored_42 : decode cX9_stored 42 = .ok (.sipush 207, 3) := by decide +kernel
theorem dX9_stored_45 : decode cX9_stored 45 = .ok (.bipush 30, 2) := by decide +kernel
theorem dX9_stored_47 : decode cX9_stored 47 = .ok (.iload_n 3, 1) := by decide +kernel
theorem dX9_stored_48 : decode cX9_stored 48 = .ok (.imul, 1) := by decide +kernel
theorem dX9_stored_49 : decode cX9_stored 49 = .ok (.iadd, 1) := by decide +kernel
theorem dX9_stored_50 : decode cX9_stored 50 = .ok (.iload 4, 2) := by decide +kernel
theorem dX9_stored_52 : decode cX9_stored 52 = .ok (.iadd, 1) := by decide +kernel
theorem dX9_stored_53 : decode cX9_stored 53 = .ok (.laload, 1) := by decide +kernel
theorem dX9_stored_54 : decode cX9_stored 54 = .ok (.ladd, 1) := by decide +kernel
theorem dX9_stored_55 : decode cX9_stored 55 = .ok (.lstore_n 1, 1) := by decide +kernel
theorem dX9_stored_56 : decode cX9_stored 56 = .ok (.iinc 4 1, 3) := by decide +kernel
theorem dX9_stored_59 : decode cX9_stored 59 = .ok (.goto (-38), 3) := by decide +kernel
theorem dX9_stored_62 : decode cX9_stored 62 = .ok (.iinc 3 1, 3) := by decide +kernel
theorem dX9_stored_65 : decode cX9_stored 65 = .ok (.goto (-61), 3) := by decide +kernel
theorem dX9_stored_68 : decode cX9_stored 68 = .ok (.lload_n 1, 1) := by decide +kernel
theorem dX9_stored_69 : decode cX9_stored 69 = .ok (.lreturn, 1) := by decide +kernel
theorem dX9_blocks_0 : decode cX9_blocks 0 = .ok (.iconst 0, 1) := by decide +kernel
theorem dX9_blocks_1 : decode cX9_blocks 1 = .ok (.istore_n 1, 1) := by decide +kernel
theorem dX9_blocks_2 : decode cX9_blocks 2 = .ok (.iconst 0, 1) := by decide +kernel
theorem dX9_blocks_3 : decode cX9_blocks 3 = .ok (.istore_n 2, 1) := by decide +kernel
theorem dX9_blocks_4 : decode cX9_blocks 4 = .ok (.iload_n 2, 1) := by decide +kernel
theorem dX9_blocks_5 : decode cX9_blocks 5 = .ok (.i2l, 1) := by decide +kernel
theorem dX9_blocks_6 : decode cX9_blocks 6 = .ok (.aload_n 0, 1) := by decide +kernel
theorem dX9_blocks_7 : decode cX9_blocks 7 = .ok (.getfield 7, 3) := by decide +kernel
theorem dX9_blocks_10 : decode cX9_blocks 10 = .ok (.sipush 1880, 3) := by decide +kernel
theorem dX9_blocks_13 : decode cX9_blocks 13 = .ok (.laload, 1) := by decide +kernel
theorem dX9_blocks_14 : decode cX9_blocks 14 = .ok (.lcmp, 1) := by decide +kernel
theorem dX9_blocks_15 : decode cX9_blocks 15 = .ok (.ifCond .ge 22, 3) := by decide +kernel
theorem dX9_blocks_18 : decode cX9_blocks 18 = .ok (.iload_n 1, 1) := by decide +kernel
theorem dX9_blocks_19 : decode cX9_blocks 19 = .ok (.aload_n 0, 1) := by decide +kernel
theorem dX9_blocks_20 : decode cX9_blocks 20 = .ok (.getfield 7, 3) := by decide +kernel
theorem dX9_blocks_23 : decode cX9_blocks 23 = .ok (.bipush 47, 2) := by decide +kernel
theorem dX9_blocks_25 : decode cX9_blocks 25 = .ok (.iload_n 2, 1) := by decide +kernel
theorem dX9_blocks_26 : decode cX9_blocks 26 = .ok (.iadd, 1) := by decide +kernel
theorem dX9_blocks_27 : decode cX9_blocks 27 = .ok (.laload, 1) := by decide +kernel
theorem dX9_blocks_28 : decode cX9_blocks 28 = .ok (.l2i, 1) := by decide +kernel
theorem dX9_blocks_29 : decode cX9_blocks 29 = .ok (.iadd, 1) := by decide +kernel
theorem dX9_blocks_30 : decode cX9_blocks 30 = .ok (.istore_n 1, 1) := by decide +kernel
theorem dX9_blocks_31 : decode cX9_blocks 31 = .ok (.iinc 2 1, 3) := by decide +kernel
theorem dX9_blocks_34 : decode cX9_blocks 34 = .ok (.goto (-30), 3) := by decide +kernel
theorem dX9_blocks_37 : decode cX9_blocks 37 = .ok (.iload_n 1, 1) := by decide +kernel
theorem dX9_blocks_38 : decode cX9_blocks 38 = .ok (.ireturn, 1) := by decide +kernel
theorem dX9_oldest_0 : decode cX9_oldest 0 = .ok (.iconst (-1), 1) := by decide +kernel
theorem dX9_oldest_1 : decode cX9_oldest 1 = .ok (.istore_n 1, 1) := by decide +kernel
theorem dX9_oldest_2 : decode cX9_oldest 2 = .ok (.iconst 0, 1) := by decide +kernel
theorem dX9_oldest_3 : decode cX9_oldest 3 = .ok (.istore_n 2, 1) := by decide +kernel
theorem dX9_oldest_4 : decode cX9_oldest 4 = .ok (.iload_n 2, 1) := by decide +kernel
theorem dX9_oldest_5 : decode cX9_oldest 5 = .ok (.i2l, 1) := by decide +kernel
theorem dX9_oldest_6 : decode cX9_oldest 6 = .ok (.aload_n 0, 1) := by decide +kernel
theorem dX9_oldest_7 : decode cX9_oldest 7 = .ok (.getfield 7, 3) := by decide +kernel
theorem dX9_oldest_10 : decode cX9_oldest 10 = .ok (.sipush 1880, 3) := by decide +kernel
theorem dX9_oldest_13 : decode cX9_oldest 13 = .ok (.laload, 1) := by decide +kernel
theorem dX9_oldest_14 : decode cX9_oldest 14 = .ok (.lcmp, 1) := by decide +kernel
theorem dX9_oldest_15 : decode cX9_oldest 15 = .ok (.ifCond .ge 71, 3) := by decide +kernel
theorem dX9_oldest_18 : decode cX9_oldest 18 = .ok (.iconst 0, 1) := by decide +kernel
theorem dX9_oldest_19 : decode cX9_oldest 19 = .ok (.istore_n 3, 1) := by decide +kernel
theorem dX9_oldest_20 : decode cX9_oldest 20 = .ok (.iload_n 3, 1) := by decide +kernel
theorem dX9_oldest_21 : decode cX9_oldest 21 = .ok (.i2l, 1) := by decide +kernel
theorem dX9_oldest_22 : decode cX9_oldest 22 = .ok (.aload_n 0, 1) := by decide +kernel
theorem dX9_oldest_23 : decode cX9_oldest 23 = .ok (.getfield 7, 3) := by decide +kernel
theorem dX9_oldest_26 : decode cX9_oldest 26 = .ok (.bipush 47, 2) := by decide +kernel
theorem dX9_oldest_28 : decode cX9_oldest 28 = .ok (.iload_n 2, 1) := by decide +kernel
theorem dX9_oldest_29 : decode cX9_oldest 29 = .ok (.iadd, 1) := by decide +kernel
theorem dX9_oldest_30 : decode cX9_oldest 30 = .ok (.laload, 1) := by decide +kernel
theorem dX9_oldest_31 : decode cX9_oldest 31 = .ok (.lcmp, 1) := by decide +kernel
theorem dX9_oldest_32 : decode cX9_oldest 32 = .ok (.ifCond .ge 48, 3) := by decide +kernel
theorem dX9_oldest_35 : decode cX9_oldest 35 = .ok (.iload_n 1, 1) := by decide +kernel
theorem dX9_oldest_36 : decode cX9_oldest 36 = .ok (.iconst (-1), 1) := by decide +kernel
theorem dX9_oldest_37 : decode cX9_oldest 37 = .ok (.if_icmp .eq 30, 3) := by decide +kernel
theorem dX9_oldest_40 : decode cX9_oldest 40 = .ok (.aload_n 0, 1) := by decide +kernel
theorem dX9_oldest_41 : decode cX9_oldest 41 = .ok (.getfield 7, 3) := by decide +kernel
theorem dX9_oldest_44 : decode cX9_oldest 44 = .ok (.bipush 57, 2) := by decide +kernel
theorem dX9_oldest_46 : decode cX9_oldest 46 = .ok (.bipush 30, 2) := by decide +kernel
theorem dX9_oldest_48 : decode cX9_oldest 48 = .ok (.iload_n 2, 1) := by decide +kernel
theorem dX9_oldest_49 : decode cX9_oldest 49 = .ok (.imul, 1) := by decide +kernel
theorem dX9_oldest_50 : decode cX9_oldest 50 = .ok (.iadd, 1) := by decide +kernel
theorem dX9_oldest_51 : decode cX9_oldest 51 = .ok (.iload_n 3, 1) := by decide +kernel
theorem dX9_oldest_52 : decode cX9_oldest 52 = .ok (.iadd, 1) := by decide +kernel
theorem dX9_oldest_53 : decode cX9_oldest 53 = .ok (.laload, 1) := by decide +kernel
theorem dX9_oldest_54 : decode cX9_oldest 54 = .ok (.aload_n 0, 1) := by decide +kernel
theorem dX9_oldest_55 : decode cX9_oldest 55 = .ok (.getfield 7, 3) := by decide +kernel
theorem dX9_oldest_58 : decode cX9_oldest 58 = .ok (.bipush 57, 2) := by decide +kernel
theorem dX9_oldest_60 : decode cX9_oldest 60 = .ok (.iload_n 1, 1) := by decide +kernel
theorem dX9_oldest_61 : decode cX9_oldest 61 = .ok (.iadd, 1) := by decide +kernel
theorem dX9_oldest_62 : decode cX9_oldest 62 = .ok (.laload, 1) := by decide +kernel
theorem dX9_oldest_63 : decode cX9_oldest 63 = .ok (.lcmp, 1) := by decide +kernel
theorem dX9_oldest_64 : decode cX9_oldest 64 = .ok (.ifCond .ge 10, 3) := by decide +kernel
theorem dX9_oldest_67 : decode cX9_oldest 67 = .ok (.bipush 30, 2) := by decide +kernel
theorem dX9_oldest_69 : decode cX9_oldest 69 = .ok (.iload_n 2, 1) := by decide +kernel
theorem dX9_oldest_70 : decode cX9_oldest 70 = .ok (.imul, 1) := by decide +kernel
theorem dX9_oldest_71 : decode cX9_oldest 71 = .ok (.iload_n 3, 1) := by decide +kernel
theorem dX9_oldest_72 : decode cX9_oldest 72 = .ok (.iadd, 1) := by decide +kernel
theorem dX9_oldest_73 : decode cX9_oldest 73 = .ok (.istore_n 1, 1) := by decide +kernel
theorem dX9_oldest_74 : decode cX9_oldest 74 = .ok (.iinc 3 1, 3) := by decide +kernel
theorem dX9_oldest_77 : decode cX9_oldest 77 = .ok (.goto (-57), 3) := by decide +kernel
theorem dX9_oldest_80 : decode cX9_oldest 80 = .ok (.iinc 2 1, 3) := by decide +kernel
theorem dX9_oldest_83 : decode cX9_oldest 83 = .ok (.goto (-79), 3) := by decide +kernel
theorem dX9_oldest_86 : decode cX9_oldest 86 = .ok (.iload_n 1, 1) := by decide +kernel
theorem dX9_oldest_87 : decode cX9_oldest 87 = .ok (.ireturn, 1) := by decide +kernel
set_option maxRecDepth 20000 in
theorem ggX9_bandNow_X9_in : GoodIn wsX9_bandNow wsX9_in := goodIn_r _ [8] (by decide +kernel) (by decide +kernel)
set_option maxRecDepth 20000 in
theorem gX9_bandNow_X9_in : GoodIn wsX9_bandNow (va_wsS RX9 47 yX9_in wsX9_in) := goodIn_app (goodIn_of _ (by decide +kernel)) ggX9_bandNow_X9_in
theorem dX9_bandNow_0 : decode cX9_bandNow 0 = .ok (.aload_n 0, 1) := by decide +kernel
theorem dX9_bandNow_1 : decode cX9_bandNow 1 = .ok (.getfield 7, 3) := by decide +kernel
theorem dX9_bandNow_4 : decode cX9_bandNow 4 = .ok (.sipush 1875, 3) := by decide +kernel
theorem dX9_bandNow_7 : decode cX9_bandNow 7 = .ok (.laload, 1) := by decide +kernel
theorem dX9_bandNow_8 : decode cX9_bandNow 8 = .ok (.ldc2_w 98, 3) := by decide +kernel
theorem dX9_bandNow_11 : decode cX9_bandNow 11 = .ok (.lrem, 1) := by decide +kernel
theorem dX9_bandNow_12 : decode cX9_bandNow 12 = .ok (.ldc2_w 129, 3) := by decide +kernel
theorem dX9_bandNow_15 : decode cX9_bandNow 15 = .ok (.ldc2_w 131, 3) := by decide +kernel
theorem dX9_bandNow_18 : decode cX9_bandNow 18 = .ok (.invokestatic 47, 3) := by decide +kernel
theorem dX9_bandNow_21 : decode cX9_bandNow 21 = .ok (.ifCond .eq 7, 3) := by decide +kernel
theorem dX9_bandNow_24 : decode cX9_bandNow 24 = .ok (.iconst 1, 1) := by decide +kernel
theorem dX9_bandNow_25 : decode cX9_bandNow 25 = .ok (.goto 4, 3) := by decide +kernel
theorem dX9_bandNow_28 : decode cX9_bandNow 28 = .ok (.iconst 0, 1) := by decide +kernel
theorem dX9_bandNow_29 : decode cX9_bandNow 29 = .ok (.ireturn, 1) := by decide +kernel
theorem dX9_priceOf_0 : decode cX9_priceOf 0 = .ok (.lload_n 2, 1) := by decide +kernel
theorem dX9_priceOf_1 : decode cX9_priceOf 1 = .ok (.aload_n 0, 1) := by decide +kernel
theorem dX9_priceOf_2 : decode cX9_priceOf 2 = .ok (.getfield 7, 3) := by decide +kernel
theorem dX9_priceOf_5 : decode cX9_priceOf 5 = .ok (.iconst 0, 1) := by decide +kernel
theorem dX9_priceOf_6 : decode cX9_priceOf 6 = .ok (.iload 4, 2) := by decide +kernel
theorem dX9_priceOf_8 : decode cX9_priceOf 8 = .ok (.iconst 1, 1) := by decide +kernel
theorem dX9_priceOf_9 : decode cX9_priceOf 9 = .ok (.if_icmp .ne 7, 3) := by decide +kernel
theorem dX9_priceOf_12 : decode cX9_priceOf 12 = .ok (.iconst 4, 1) := by decide +kernel
theorem dX9_priceOf_13 : decode cX9_priceOf 13 = .ok (.goto 4, 3) := by decide +kernel
theorem dX9_priceOf_16 : decode cX9_priceOf 16 = .ok (.iconst 5, 1) := by decide +kernel
theorem dX9_priceOf_17 : decode cX9_priceOf 17 = .ok (.iadd, 1) := by decide +kernel
theorem dX9_priceOf_18 : decode cX9_priceOf 18 = .ok (.laload, 1) := by decide +kernel
theorem dX9_priceOf_19 : decode cX9_priceOf 19 = .ok (.lmul, 1) := by decide +kernel
theorem dX9_priceOf_20 : decode cX9_priceOf 20 = .ok (.lstore 5, 2) := by decide +kernel
theorem dX9_priceOf_22 : decode cX9_priceOf 22 = .ok (.aload_n 0, 1) := by decide +kernel
theorem dX9_priceOf_23 : decode cX9_priceOf 23 = .ok (.getfield 7, 3) := by decide +kernel
theorem dX9_priceOf_26 : decode cX9_priceOf 26 = .ok (.sipush 507, 3) := by decide +kernel
theorem dX9_priceOf_29 : decode cX9_priceOf 29 = .ok (.iload_n 1, 1) := by decide +kernel
theorem dX9_priceOf_30 : decode cX9_priceOf 30 = .ok (.iadd, 1) := by decide +kernel
theorem dX9_priceOf_31 : decode cX9_priceOf 31 = .ok (.laload, 1) := by decide +kernel
theorem dX9_priceOf_32 : decode cX9_priceOf 32 = .ok (.aload_n 0, 1) := by decide +kernel
theorem dX9_priceOf_33 : decode cX9_priceOf 33 = .ok (.getfield 7, 3) := by decide +kernel
theorem dX9_priceOf_36 : decode cX9_priceOf 36 = .ok (.bipush 6, 2) := by decide +kernel
theorem dX9_priceOf_38 : decode cX9_priceOf 38 = .ok (.laload, 1) := by decide +kernel
theorem dX9_priceOf_39 : decode cX9_priceOf 39 = .ok (.lcmp, 1) := by decide +kernel
theorem dX9_priceOf_40 : decode cX9_priceOf 40 = .ok (.ifCond .lt 23, 3) := by decide +kernel
theorem dX9_priceOf_43 : decode cX9_priceOf 43 = .ok (.lload 5, 2) := by decide +kernel
theorem dX9_priceOf_45 : decode cX9_priceOf 45 = .ok (.lload 5, 2) := by decide +kernel
theorem dX9_priceOf_47 : decode cX9_priceOf 47 = .ok (.aload_n 0, 1) := by decide +kernel
theorem dX9_priceOf_48 : decode cX9_priceOf 48 = .ok (.getfield 7, 3) := by decide +kernel
theorem dX9_priceOf_51 : decode cX9_priceOf 51 = .ok (.bipush 7, 2) := by decide +kernel
theorem dX9_priceOf_53 : decode cX9_priceOf 53 = .ok (.laload, 1) := by decide +kernel
theorem dX9_priceOf_54 : decode cX9_priceOf 54 = .ok (.lmul, 1) := by decide +kernel
theorem dX9_priceOf_55 : decode cX9_priceOf 55 = .ok (.ldc2_w 58, 3) := by decide +kernel
theorem dX9_priceOf_58 : decode cX9_priceOf 58 = .ok (.ldiv, 1) := by decide +kernel
theorem dX9_priceOf_59 : decode cX9_priceOf 59 = .ok (.lsub, 1) := by decide +kernel
theorem dX9_priceOf_60 : decode cX9_priceOf 60 = .ok (.goto 5, 3) := by decide +kernel
theorem dX9_priceOf_63 : decode cX9_priceOf 63 = .ok (.lload 5, 2) := by decide +kernel
theorem dX9_priceOf_65 : decode cX9_priceOf 65 = .ok (.lreturn, 1) := by decide +kernel
theorem dX9_accountOf_0 : decode cX9_accountOf 0 = .ok (.iconst 0, 1) := by decide +kernel
theorem dX9_accountOf_1 : decode cX9_accountOf 1 = .ok (.istore_n 3, 1) := by decide +kernel
theorem dX9_accountOf_2 : decode cX9_accountOf 2 = .ok (.iload_n 3, 1) := by decide +kernel
theorem dX9_accountOf_3 : decode cX9_accountOf 3 = .ok (.i2l, 1) := by decide +kernel
theorem dX9_accountOf_4 : decode cX9_accountOf 4 = .ok (.aload_n 0, 1) := by decide +kernel
theorem dX9_accountOf_5 : decode cX9_accountOf 5 = .ok (.getfield 7, 3) := by decide +kernel
theorem dX9_accountOf_8 : decode cX9_accountOf 8 = .ok (.sipush 1886, 3) := by decide +kernel
theorem dX9_accountOf_11 : decode cX9_accountOf 11 = .ok (.laload, 1) := by decide +kernel
theorem dX9_accountOf_12 : decode cX9_accountOf 12 = .ok (.lcmp, 1) := by decide +kernel
theorem dX9_accountOf_13 : decode cX9_accountOf 13 = .ok (.ifCond .ge 43, 3) := by decide +kernel
theorem dX9_accountOf_16 : decode cX9_accountOf 16 = .ok (.aload_n 0, 1) := by decide +kernel
theorem dX9_accountOf_17 : decode cX9_accountOf 17 = .ok (.getfield 7, 3) := by decide +kernel
theorem dX9_accountOf_20 : decode cX9_accountOf 20 = .ok (.sipush 1811, 3) := by decide +kernel
theorem dX9_accountOf_23 : decode cX9_accountOf 23 = .ok (.iload_n 3, 1) := by decide +kernel
theorem dX9_accountOf_24 : decode cX9_accountOf 24 = .ok (.iadd, 1) := by decide +kernel
theorem dX9_accountOf_25 : decode cX9_accountOf 25 = .ok (.laload, 1) := by decide +kernel
theorem dX9_accountOf_26 : decode cX9_accountOf 26 = .ok (.iload_n 1, 1) := by decide +kernel
theorem dX9_accountOf_27 : decode cX9_accountOf 27 = .ok (.i2l, 1) := by decide +kernel
theorem dX9_accountOf_28 : decode cX9_accountOf 28 = .ok (.lcmp, 1) := by decide +kernel
theorem dX9_accountOf_29 : decode cX9_accountOf 29 = .ok (.ifCond .ne 21, 3) := by decide +kernel
theorem dX9_accountOf_32 : decode cX9_accountOf 32 = .ok (.aload_n 0, 1) := by decide +kernel
theorem dX9_accountOf_33 : decode cX9_accountOf 33 = .ok (.getfield 7, 3) := by decide +kernel
theorem dX9_accountOf_36 : decode cX9_accountOf 36 = .ok (.sipush 1827, 3) := by decide +kernel
theorem dX9_accountOf_39 : decode cX9_accountOf 39 = .ok (.iload_n 3, 1) := by decide +kernel
theorem dX9_accountOf_40 : decode cX9_accountOf 40 = .ok (.iadd, 1) := by decide +kernel
theorem dX9_accountOf_41 : decode cX9_accountOf 41 = .ok (.laload, 1) := by decide +kernel
theorem dX9_accountOf_42 : decode cX9_accountOf 42 = .ok (.iload_n 2, 1) := by decide +kernel
theorem dX9_accountOf_43 : decode cX9_accountOf 43 = .ok (.i2l, 1) := by decide +kernel
theorem dX9_accountOf_44 : decode cX9_accountOf 44 = .ok (.lcmp, 1) := by decide +kernel
theorem dX9_accountOf_45 : decode cX9_accountOf 45 = .ok (.ifCond .ne 5, 3) := by decide +kernel
theorem dX9_accountOf_48 : decode cX9_accountOf 48 = .ok (.iload_n 3, 1) := by decide +kernel
theorem dX9_accountOf_49 : decode cX9_accountOf 49 = .ok (.ireturn, 1) := by decide +kernel
theorem dX9_accountOf_50 : decode cX9_accountOf 50 = .ok (.iinc 3 1, 3) := by decide +kernel
theorem dX9_accountOf_53 : decode cX9_accountOf 53 = .ok (.goto (-51), 3) := by decide +kernel
theorem dX9_accountOf_56 : decode cX9_accountOf 56 = .ok (.iconst (-1), 1) := by decide +kernel
theorem dX9_accountOf_57 : decode cX9_accountOf 57 = .ok (.ireturn, 1) := by decide +kernel
set_option maxRecDepth 20000 in
theorem ggX9_enter_X9_bandNow : GoodIn wsX9_enter wsX9_bandNow := goodIn_r _ [6, 1, 7, 8, 9, 10, 11, 5, 12, 17, 18, 19, 20, 21, 22, 23, 24, 25, 26, 27, 28, 29] (by decide +kernel) (by decide +kernel)
set_option maxRecDepth 20000 in
theorem gX9_enter_X9_bandNow : GoodIn wsX9_enter (wsV RX9 133 RX9 yX9_bandNow wsX9_bandNow) := goodIn_app (goodIn_of _ (by decide +kernel)) ggX9_enter_X9_bandNow
set_option maxRecDepth 20000 in
theorem ggX9_enter_X9_accountOf : GoodIn wsX9_enter wsX9_accountOf := goodIn_r _ [16, 1, 17, 18, 19, 20, 21, 22, 23, 24, 25, 26, 27, 28, 29] (by decide +kernel) (by decide +kernel)
set_option maxRecDepth 20000 in
theorem gX9_enter_X9_accountOf : GoodIn wsX9_enter (wsV RX9 136 RX9 yX9_accountOf wsX9_accountOf) := goodIn_app (goodIn_of _ (by decide +kernel)) ggX9_enter_X9_accountOf
theorem dX9_enter_0 : decode cX9_enter 0 = .ok (.aload_n 0, 1) := by decide +kernel
theorem dX9_enter_1 : decode cX9_enter 1 = .ok (.iload_n 1, 1) := by decide +kernel
theorem dX9_enter_2 : decode cX9_enter 2 = .ok (.aload_n 0, 1) := by decide +kernel
theorem dX9_enter_3 : decode cX9_enter 3 = .ok (.invokevirtual 133, 3) := by decide +kernel
theorem dX9_enter_6 : decode cX9_enter 6 = .ok (.invokevirtual 136, 3) := by decide +kernel
theorem dX9_enter_9 : decode cX9_enter 9 = .ok (.istore 6, 2) := by decide +kernel
theorem dX9_enter_11 : decode cX9_enter 11 = .ok (.iload 6, 2) := by decide +kernel
theorem dX9_enter_13 : decode cX9_enter 13 = .ok (.iconst (-1), 1) := by decide +kernel
theorem dX9_enter_14 : decode cX9_enter 14 = .ok (.if_icmp .ne 55, 3) := by decide +kernel
theorem dX9_enter_17 : decode cX9_enter 17 = .ok (.aload_n 0, 1) := by decide +kernel
theorem dX9_enter_18 : decode cX9_enter 18 = .ok (.getfield 7, 3) := by decide +kernel
theorem dX9_enter_21 : decode cX9_enter 21 = .ok (.sipush 1886, 3) := by decide +kernel
theorem dX9_enter_24 : decode cX9_enter 24 = .ok (.laload, 1) := by decide +kernel
theorem dX9_enter_25 : decode cX9_enter 25 = .ok (.l2i, 1) := by decide +kernel
theorem dX9_enter_26 : decode cX9_enter 26 = .ok (.istore 6, 2) := by decide +kernel
theorem dX9_enter_28 : decode cX9_enter 28 = .ok (.aload_n 0, 1) := by decide +kernel
theorem dX9_enter_29 : decode cX9_enter 29 = .ok (.getfield 7, 3) := by decide +kernel
theorem dX9_enter_32 : decode cX9_enter 32 = .ok (.sipush 1886, 3) := by decide +kernel
theorem dX9_enter_35 : decode cX9_enter 35 = .ok (.dup2, 1) := by decide +kernel
theorem dX9_enter_36 : decode cX9_enter 36 = .ok (.laload, 1) := by decide +kernel
theorem dX9_enter_37 : decode cX9_enter 37 = .ok (.lconst 1, 1) := by decide +kernel
theorem dX9_enter_38 : decode cX9_enter 38 = .ok (.ladd, 1) := by decide +kernel
theorem dX9_enter_39 : decode cX9_enter 39 = .ok (.lastore, 1) := by decide +kernel
theorem dX9_enter_40 : decode cX9_enter 40 = .ok (.aload_n 0, 1) := by decide +kernel
theorem dX9_enter_41 : decode cX9_enter 41 = .ok (.getfield 7, 3) := by decide +kernel
theorem dX9_enter_44 : decode cX9_enter 44 = .ok (.sipush 1811, 3) := by decide +kernel
theorem dX9_enter_47 : decode cX9_enter 47 = .ok (.iload 6, 2) := by decide +kernel
theorem dX9_enter_49 : decode cX9_enter 49 = .ok (.iadd, 1) := by decide +kernel
theorem dX9_enter_50 : decode cX9_enter 50 = .ok (.iload_n 1, 1) := by decide +kernel
theorem dX9_enter_51 : decode cX9_enter 51 = .ok (.i2l, 1) := by decide +kernel
theorem dX9_enter_52 : decode cX9_enter 52 = .ok (.lastore, 1) := by decide +kernel
theorem dX9_enter_53 : decode cX9_enter 53 = .ok (.aload_n 0, 1) := by decide +kernel
theorem dX9_enter_54 : decode cX9_enter 54 = .ok (.getfield 7, 3) := by decide +kernel
theorem dX9_enter_57 : decode cX9_enter 57 = .ok (.sipush 1827, 3) := by decide +kernel
theorem dX9_enter_60 : decode cX9_enter 60 = .ok (.iload 6, 2) := by decide +kernel
theorem dX9_enter_62 : decode cX9_enter 62 = .ok (.iadd, 1) := by decide +kernel
theorem dX9_enter_63 : decode cX9_enter 63 = .ok (.aload_n 0, 1) := by decide +kernel
theorem dX9_enter_64 : decode cX9_enter 64 = .ok (.invokevirtual 133, 3) := by decide +kernel
theorem dX9_enter_67 : decode cX9_enter 67 = .ok (.i2l, 1) := by decide +kernel
theorem dX9_enter_68 : decode cX9_enter 68 = .ok (.lastore, 1) := by decide +kernel
theorem dX9_enter_69 : decode cX9_enter 69 = .ok (.aload_n 0, 1) := by decide +kernel
theorem dX9_enter_70 : decode cX9_enter 70 = .ok (.getfield 7, 3) := by decide +kernel
theorem dX9_enter_73 : decode cX9_enter 73 = .ok (.sipush 1843, 3) := by decide +kernel
theorem dX9_enter_76 : decode cX9_enter 76 = .ok (.iload 6, 2) := by decide +kernel
theorem dX9_enter_78 : decode cX9_enter 78 = .ok (.iadd, 1) := by decide +kernel
theorem dX9_enter_79 : decode cX9_enter 79 = .ok (.dup2, 1) := by decide +kernel
theorem dX9_enter_80 : decode cX9_enter 80 = .ok (.laload, 1) := by decide +kernel
theorem dX9_enter_81 : decode cX9_enter 81 = .ok (.lload_n 2, 1) := by decide +kernel
theorem dX9_enter_82 : decode cX9_enter 82 = .ok (.ladd, 1) := by decide +kernel
theorem dX9_enter_83 : decode cX9_enter 83 = .ok (.lastore, 1) := by decide +kernel
theorem dX9_enter_84 : decode cX9_enter 84 = .ok (.aload_n 0, 1) := by decide +kernel
theorem dX9_enter_85 : decode cX9_enter 85 = .ok (.getfield 7, 3) := by decide +kernel
theorem dX9_enter_88 : decode cX9_enter 88 = .ok (.sipush 1859, 3) := by decide +kernel
theorem dX9_enter_91 : decode cX9_enter 91 = .ok (.iload 6, 2) := by decide +kernel
theorem dX9_enter_93 : decode cX9_enter 93 = .ok (.iadd, 1) := by decide +kernel
theorem dX9_enter_94 : decode cX9_enter 94 = .ok (.dup2, 1) := by decide +kernel
theorem dX9_enter_95 : decode cX9_enter 95 = .ok (.laload, 1) := by decide +kernel
theorem dX9_enter_96 : decode cX9_enter 96 = .ok (.lload 4, 2) := by decide +kernel
theorem dX9_enter_98 : decode cX9_enter 98 = .ok (.ladd, 1) := by decide +kernel
theorem dX9_enter_99 : decode cX9_enter 99 = .ok (.lastore, 1) := by decide +kernel
theorem dX9_enter_100 : decode cX9_enter 100 = .ok (.return_, 1) := by decide +kernel
theorem dX9_giveReceipt_0 : decode cX9_giveReceipt 0 = .ok (.aload_n 0, 1) := by decide +kernel
theorem dX9_giveReceipt_1 : decode cX9_giveReceipt 1 = .ok (.getfield 7, 3) := by decide +kernel
theorem dX9_giveReceipt_4 : decode cX9_giveReceipt 4 = .ok (.sipush 1885, 3) := by decide +kernel
theorem dX9_giveReceipt_7 : decode cX9_giveReceipt 7 = .ok (.laload, 1) := by decide +kernel
theorem dX9_giveReceipt_8 : decode cX9_giveReceipt 8 = .ok (.lconst 0, 1) := by decide +kernel
theorem dX9_giveReceipt_9 : decode cX9_giveReceipt 9 = .ok (.lcmp, 1) := by decide +kernel
theorem dX9_giveReceipt_10 : decode cX9_giveReceipt 10 = .ok (.ifCond .ne 7, 3) := by decide +kernel
theorem dX9_giveReceipt_13 : decode cX9_giveReceipt 13 = .ok (.iconst 0, 1) := by decide +kernel
theorem dX9_giveReceipt_14 : decode cX9_giveReceipt 14 = .ok (.goto 24, 3) := by decide +kernel
theorem dX9_giveReceipt_17 : decode cX9_giveReceipt 17 = .ok (.aload_n 0, 1) := by decide +kernel
theorem dX9_giveReceipt_18 : decode cX9_giveReceipt 18 = .ok (.getfield 7, 3) := by decide +kernel
theorem dX9_giveReceipt_21 : decode cX9_giveReceipt 21 = .ok (.sipush 1795, 3) := by decide +kernel
theorem dX9_giveReceipt_24 : decode cX9_giveReceipt 24 = .ok (.aload_n 0, 1) := by decide +kernel
theorem dX9_giveReceipt_25 : decode cX9_giveReceipt 25 = .ok (.getfield 7, 3) := by decide +kernel
theorem dX9_giveReceipt_28 : decode cX9_giveReceipt 28 = .ok (.sipush 1885, 3) := by decide +kernel
theorem dX9_giveReceipt_31 : decode cX9_giveReceipt 31 = .ok (.laload, 1) := by decide +kernel
theorem dX9_giveReceipt_32 : decode cX9_giveReceipt 32 = .ok (.l2i, 1) := by decide +kernel
theorem dX9_giveReceipt_33 : decode cX9_giveReceipt 33 = .ok (.iadd, 1) := by decide +kernel
theorem dX9_giveReceipt_34 : decode cX9_giveReceipt 34 = .ok (.iconst 1, 1) := by decide +kernel
theorem dX9_giveReceipt_35 : decode cX9_giveReceipt 35 = .ok (.isub, 1) := by decide +kernel
theorem dX9_giveReceipt_36 : decode cX9_giveReceipt 36 = .ok (.laload, 1) := by decide +kernel
theorem dX9_giveReceipt_37 : decode cX9_giveReceipt 37 = .ok (.l2i, 1) := by decide +kernel
theorem dX9_giveReceipt_38 : decode cX9_giveReceipt 38 = .ok (.istore 6, 2) := by decide +kernel
theorem dX9_giveReceipt_40 : decode cX9_giveReceipt 40 = .ok (.iload 6, 2) := by decide +kernel
theorem dX9_giveReceipt_42 : decode cX9_giveReceipt 42 = .ok (.iconst 5, 1) := by decide +kernel
theorem dX9_giveReceipt_43 : decode cX9_giveReceipt 43 = .ok (.ishl, 1) := by decide +kernel
theorem dX9_giveReceipt_44 : decode cX9_giveReceipt 44 = .ok (.iload 6, 2) := by decide +kernel
theorem dX9_giveReceipt_46 : decode cX9_giveReceipt 46 = .ok (.bipush 27, 2) := by decide +kernel
theorem dX9_giveReceipt_48 : decode cX9_giveReceipt 48 = .ok (.iushr, 1) := by decide +kernel
theorem dX9_giveReceipt_49 : decode cX9_giveReceipt 49 = .ok (.ior, 1) := by decide +kernel
theorem dX9_giveReceipt_50 : decode cX9_giveReceipt 50 = .ok (.iload_n 1, 1) := by decide +kernel
theorem dX9_giveReceipt_51 : decode cX9_giveReceipt 51 = .ok (.ldc 139, 2) := by decide +kernel
theorem dX9_giveReceipt_53 : decode cX9_giveReceipt 53 = .ok (.imul, 1) := by decide +kernel
theorem dX9_giveReceipt_54 : decode cX9_giveReceipt 54 = .ok (.lload_n 2, 1) := by decide +kernel
theorem dX9_giveReceipt_55 : decode cX9_giveReceipt 55 = .ok (.l2i, 1) := by decide +kernel
theorem dX9_giveReceipt_56 : decode cX9_giveReceipt 56 = .ok (.bipush 31, 2) := by decide +kernel
theorem dX9_giveReceipt_58 : decode cX9_giveReceipt 58 = .ok (.imul, 1) := by decide +kernel
theorem dX9_giveReceipt_59 : decode cX9_giveReceipt 59 = .ok (.iadd, 1) := by decide +kernel
theorem dX9_giveReceipt_60 : decode cX9_giveReceipt 60 = .ok (.lload 4, 2) := by decide +kernel
theorem dX9_giveReceipt_62 : decode cX9_giveReceipt 62 = .ok (.l2i, 1) := by decide +kernel
theorem dX9_giveReceipt_63 : decode cX9_giveReceipt 63 = .ok (.iadd, 1) := by decide +kernel
theorem dX9_giveReceipt_64 : decode cX9_giveReceipt 64 = .ok (.ixor, 1) := by decide +kernel
theorem dX9_giveReceipt_65 : decode cX9_giveReceipt 65 = .ok (.istore 7, 2) := by decide +kernel
theorem dX9_giveReceipt_67 : decode cX9_giveReceipt 67 = .ok (.aload_n 0, 1) := by decide +kernel
theorem dX9_giveReceipt_68 : decode cX9_giveReceipt 68 = .ok (.getfield 7, 3) := by decide +kernel
theorem dX9_giveReceipt_71 : decode cX9_giveReceipt 71 = .ok (.sipush 1885, 3) := by decide +kernel
theorem dX9_giveReceipt_74 : decode cX9_giveReceipt 74 = .ok (.laload, 1) := by decide +kernel
theorem dX9_giveReceipt_75 : decode cX9_giveReceipt 75 = .ok (.ldc2_w 140, 3) := by decide +kernel
theorem dX9_giveReceipt_78 : decode cX9_giveReceipt 78 = .ok (.lcmp, 1) := by decide +kernel
theorem dX9_giveReceipt_79 : decode cX9_giveReceipt 79 = .ok (.ifCond .ne 151, 3) := by decide +kernel
theorem dX9_giveReceipt_82 : decode cX9_giveReceipt 82 = .ok (.iconst 0, 1) := by decide +kernel
theorem dX9_giveReceipt_83 : decode cX9_giveReceipt 83 = .ok (.istore 8, 2) := by decide +kernel
theorem dX9_giveReceipt_85 : decode cX9_giveReceipt 85 = .ok (.iload 8, 2) := by decide +kernel
theorem dX9_giveReceipt_87 : decode cX9_giveReceipt 87 = .ok (.bipush 15, 2) := by decide +kernel
theorem dX9_giveReceipt_89 : decode cX9_giveReceipt 89 = .ok (.if_icmp .ge 129, 3) := by decide +kernel
theorem dX9_giveReceipt_92 : decode cX9_giveReceipt 92 = .ok (.aload_n 0, 1) := by decide +kernel
theorem dX9_giveReceipt_93 : decode cX9_giveReceipt 93 = .ok (.getfield 7, 3) := by decide +kernel
theorem dX9_giveReceipt_96 : decode cX9_giveReceipt 96 = .ok (.sipush 1731, 3) := by decide +kernel
theorem dX9_giveReceipt_99 : decode cX9_giveReceipt 99 = .ok (.iload 8, 2) := by decide +kernel
theorem dX9_giveReceipt_101 : decode cX9_giveReceipt 101 = .ok (.iadd, 1) := by decide +kernel
theorem dX9_giveReceipt_102 : decode cX9_giveReceipt 102 = .ok (.aload_n 0, 1) := by decide +kernel
theorem dX9_giveReceipt_103 : decode cX9_giveReceipt 103 = .ok (.getfield 7, 3) := by decide +kernel
theorem dX9_giveReceipt_106 : decode cX9_giveReceipt 106 = .ok (.sipush 1731, 3) := by decide +kernel
theorem dX9_giveReceipt_109 : decode cX9_giveReceipt 109 = .ok (.iload 8, 2) := by decide +kernel
theorem dX9_giveReceipt_111 : decode cX9_giveReceipt 111 = .ok (.iadd, 1) := by decide +kernel
theorem dX9_giveReceipt_112 : decode cX9_giveReceipt 112 = .ok (.iconst 1, 1) := by decide +kernel
theorem dX9_giveReceipt_113 : decode cX9_giveReceipt 113 = .ok (.iadd, 1) := by decide +kernel
theorem dX9_giveReceipt_114 : decode cX9_giveReceipt 114 = .ok (.laload, 1) := by decide +kernel
theorem dX9_giveReceipt_115 : decode cX9_giveReceipt 115 = .ok (.lastore, 1) := by decide +kernel
theorem dX9_giveReceipt_116 : decode cX9_giveReceipt 116 = .ok (.aload_n 0, 1) := by decide +kernel
theorem dX9_giveReceipt_117 : decode cX9_giveReceipt 117 = .ok (.getfield 7, 3) := by decide +kernel
theorem dX9_giveReceipt_120 : decode cX9_giveReceipt 120 = .ok (.sipush 1747, 3) := by decide +kernel
theorem dX9_giveReceipt_123 : decode cX9_giveReceipt 123 = .ok (.iload 8, 2) := by decide +kernel
theorem dX9_giveReceipt_125 : decode cX9_giveReceipt 125 = .ok (.iadd, 1) := by decide +kernel
theorem dX9_giveReceipt_126 : decode cX9_giveReceipt 126 = .ok (.aload_n 0, 1) := by decide +kernel
theorem dX9_giveReceipt_127 : decode cX9_giveReceipt 127 = .ok (.getfield 7, 3) := by decide +kernel
theorem dX9_giveReceipt_130 : decode cX9_giveReceipt 130 = .ok (.sipush 1747, 3) := by decide +kernel
theorem dX9_giveReceipt_133 : decode cX9_giveReceipt 133 = .ok (.iload 8, 2) := by decide +kernel
theorem dX9_giveReceipt_135 : decode cX9_giveReceipt 135 = .ok (.iadd, 1) := by decide +kernel
theorem dX9_giveReceipt_136 : decode cX9_giveReceipt 136 = .ok (.iconst 1, 1) := by decide +kernel
theorem dX9_giveReceipt_137 : decode cX9_giveReceipt 137 = .ok (.iadd, 1) := by decide +kernel
theorem dX9_giveReceipt_138 : decode cX9_giveReceipt 138 = .ok (.laload, 1) := by decide +kernel
theorem dX9_giveReceipt_139 : decode cX9_giveReceipt 139 = .ok (.lastore, 1) := by decide +kernel
theorem dX9_giveReceipt_140 : decode cX9_giveReceipt 140 = .ok (.aload_n 0, 1) := by decide +kernel
theorem dX9_giveReceipt_141 : decode cX9_giveReceipt 141 = .ok (.getfield 7, 3) := by decide +kernel
theorem dX9_giveReceipt_144 : decode cX9_giveReceipt 144 = .ok (.sipush 1763, 3) := by decide +kernel
theorem dX9_giveReceipt_147 : decode cX9_giveReceipt 147 = .ok (.iload 8, 2) := by decide +kernel
theorem dX9_giveReceipt_149 : decode cX9_giveReceipt 149 = .ok (.iadd, 1) := by decide +kernel
theorem dX9_giveReceipt_150 : decode cX9_giveReceipt 150 = .ok (.aload_n 0, 1) := by decide +kernel
theorem dX9_giveReceipt_151 : decode cX9_giveReceipt 151 = .ok (.getfield 7, 3) := by decide +kernel
theorem dX9_giveReceipt_154 : decode cX9_giveReceipt 154 = .ok (.sipush 1763, 3) := by decide +kernel
theorem dX9_giveReceipt_157 : decode cX9_giveReceipt 157 = .ok (.iload 8, 2) := by decide +kernel
theorem dX9_giveReceipt_159 : decode cX9_giveReceipt 159 = .ok (.iadd, 1) := by decide +kernel
theorem dX9_giveReceipt_160 : decode cX9_giveReceipt 160 = .ok (.iconst 1, 1) := by decide +kernel
theorem dX9_giveReceipt_161 : decode cX9_giveReceipt 161 = .ok (.iadd, 1) := by decide +kernel
theorem dX9_giveReceipt_162 : decode cX9_giveReceipt 162 = .ok (.laload, 1) := by decide +kernel
theorem dX9_giveReceipt_163 : decode cX9_giveReceipt 163 = .ok (.lastore, 1) := by decide +kernel
theorem dX9_giveReceipt_164 : decode cX9_giveReceipt 164 = .ok (.aload_n 0, 1) := by decide +kernel
theorem dX9_giveReceipt_165 : decode cX9_giveReceipt 165 = .ok (.getfield 7, 3) := by decide +kernel
theorem dX9_giveReceipt_168 : decode cX9_giveReceipt 168 = .ok (.sipush 1779, 3) := by decide +kernel
theorem dX9_giveReceipt_171 : decode cX9_giveReceipt 171 = .ok (.iload 8, 2) := by decide +kernel
theorem dX9_giveReceipt_173 : decode cX9_giveReceipt 173 = .ok (.iadd, 1) := by decide +kernel
theorem dX9_giveReceipt_174 : decode cX9_giveReceipt 174 = .ok (.aload_n 0, 1) := by decide +kernel
theorem dX9_giveReceipt_175 : decode cX9_giveReceipt 175 = .ok (.getfield 7, 3) := by decide +kernel
theorem dX9_giveReceipt_178 : decode cX9_giveReceipt 178 = .ok (.sipush 1779, 3) := by decide +kernel
theorem dX9_giveReceipt_181 : decode cX9_giveReceipt 181 = .ok (.iload 8, 2) := by decide +kernel
theorem dX9_giveReceipt_183 : decode cX9_giveReceipt 183 = .ok (.iadd, 1) := by decide +kernel
theorem dX9_giveReceipt_184 : decode cX9_giveReceipt 184 = .ok (.iconst 1, 1) := by decide +kernel
theorem dX9_giveReceipt_185 : decode cX9_giveReceipt 185 = .ok (.iadd, 1) := by decide +kernel
theorem dX9_giveReceipt_186 : decode cX9_giveReceipt 186 = .ok (.laload, 1) := by decide +kernel
theorem dX9_giveReceipt_187 : decode cX9_giveReceipt 187 = .ok (.lastore, 1) := by decide +kernel
theorem dX9_giveReceipt_188 : decode cX9_giveReceipt 188 = .ok (.aload_n 0, 1) := by decide +kernel
theorem dX9_giveReceipt_189 : decode cX9_giveReceipt 189 = .ok (.getfield 7, 3) := by decide +kernel
theorem dX9_giveReceipt_192 : decode cX9_giveReceipt 192 = .ok (.sipush 1795, 3) := by decide +kernel
theorem dX9_giveReceipt_195 : decode cX9_giveReceipt 195 = .ok (.iload 8, 2) := by decide +kernel
theorem dX9_giveReceipt_197 : decode cX9_giveReceipt 197 = .ok (.iadd, 1) := by decide +kernel
theorem dX9_giveReceipt_198 : decode cX9_giveReceipt 198 = .ok (.aload_n 0, 1) := by decide +kernel
theorem dX9_giveReceipt_199 : decode cX9_giveReceipt 199 = .ok (.getfield 7, 3) := by decide +kernel
theorem dX9_giveReceipt_202 : decode cX9_giveReceipt 202 = .ok (.sipush 1795, 3) := by decide +kernel
theorem dX9_giveReceipt_205 : decode cX9_giveReceipt 205 = .ok (.iload 8, 2) := by decide +kernel
theorem dX9_giveReceipt_207 : decode cX9_giveReceipt 207 = .ok (.iadd, 1) := by decide +kernel
theorem dX9_giveReceipt_208 : decode cX9_giveReceipt 208 = .ok (.iconst 1, 1) := by decide +kernel
theorem dX9_giveReceipt_209 : decode cX9_giveReceipt 209 = .ok (.iadd, 1) := by decide +kernel
theorem dX9_giveReceipt_210 : decode cX9_giveReceipt 210 = .ok (.laload, 1) := by decide +kernel
theorem dX9_giveReceipt_211 : decode cX9_giveReceipt 211 = .ok (.lastore, 1) := by decide +kernel
theorem dX9_giveReceipt_212 : decode cX9_giveReceipt 212 = .ok (.iinc 8 1, 3) := by decide +kernel
theorem dX9_giveReceipt_215 : decode cX9_giveReceipt 215 = .ok (.goto (-130), 3) := by decide +kernel
theorem dX9_giveReceipt_218 : decode cX9_giveReceipt 218 = .ok (.aload_n 0, 1) := by decide +kernel
theorem dX9_giveReceipt_219 : decode cX9_giveReceipt 219 = .ok (.getfield 7, 3) := by decide +kernel
theorem dX9_giveReceipt_222 : decode cX9_giveReceipt 222 = .ok (.sipush 1885, 3) := by decide +kernel
theorem dX9_giveReceipt_225 : decode cX9_giveReceipt 225 = .ok (.dup2, 1) := by decide +kernel
theorem dX9_giveReceipt_226 : decode cX9_giveReceipt 226 = .ok (.laload, 1) := by decide +kernel
theorem dX9_giveReceipt_227 : decode cX9_giveReceipt 227 = .ok (.lconst 1, 1) := by decide +kernel
theorem dX9_giveReceipt_228 : decode cX9_giveReceipt 228 = .ok (.lsub, 1) := by decide +kernel
theorem dX9_giveReceipt_229 : decode cX9_giveReceipt 229 = .ok (.lastore, 1) := by decide +kernel
theorem dX9_giveReceipt_230 : decode cX9_giveReceipt 230 = .ok (.aload_n 0, 1) := by decide +kernel
theorem dX9_giveReceipt_231 : decode cX9_giveReceipt 231 = .ok (.getfield 7, 3) := by decide +kernel
theorem dX9_giveReceipt_234 : decode cX9_giveReceipt 234 = .ok (.sipush 1885, 3) := by decide +kernel
theorem dX9_giveReceipt_237 : decode cX9_giveReceipt 237 = .ok (.laload, 1) := by decide +kernel
theorem dX9_giveReceipt_238 : decode cX9_giveReceipt 238 = .ok (.l2i, 1) := by decide +kernel
theorem dX9_giveReceipt_239 : decode cX9_giveReceipt 239 = .ok (.istore 8, 2) := by decide +kernel
theorem dX9_giveReceipt_241 : decode cX9_giveReceipt 241 = .ok (.aload_n 0, 1) := by decide +kernel
theorem dX9_giveReceipt_242 : decode cX9_giveReceipt 242 = .ok (.getfield 7, 3) := by decide +kernel
theorem dX9_giveReceipt_245 : decode cX9_giveReceipt 245 = .ok (.sipush 1885, 3) := by decide +kernel
theorem dX9_giveReceipt_248 : decode cX9_giveReceipt 248 = .ok (.dup2, 1) := by decide +kernel
theorem dX9_giveReceipt_249 : decode cX9_giveReceipt 249 = .ok (.laload, 1) := by decide +kernel
theorem dX9_giveReceipt_250 : decode cX9_giveReceipt 250 = .ok (.lconst 1, 1) := by decide +kernel
theorem dX9_giveReceipt_251 : decode cX9_giveReceipt 251 = .ok (.ladd, 1) := by decide +kernel
theorem dX9_giveReceipt_252 : decode cX9_giveReceipt 252 = .ok (.lastore, 1) := by decide +kernel
theorem dX9_giveReceipt_253 : decode cX9_giveReceipt 253 = .ok (.aload_n 0, 1) := by decide +kernel
theorem dX9_giveReceipt_254 : decode cX9_giveReceipt 254 = .ok (.getfield 7, 3) := by decide +kernel
theorem dX9_giveReceipt_257 : decode cX9_giveReceipt 257 = .ok (.sipush 1731, 3) := by decide +kernel
theorem dX9_giveReceipt_260 : decode cX9_giveReceipt 260 = .ok (.iload 8, 2) := by decide +kernel
theorem dX9_giveReceipt_262 : decode cX9_giveReceipt 262 = .ok (.iadd, 1) := by decide +kernel
theorem dX9_giveReceipt_263 : decode cX9_giveReceipt 263 = .ok (.iload_n 1, 1) := by decide +kernel
theorem dX9_giveReceipt_264 : decode cX9_giveReceipt 264 = .ok (.i2l, 1) := by decide +kernel
theorem dX9_giveReceipt_265 : decode cX9_giveReceipt 265 = .ok (.lastore, 1) := by decide +kernel
theorem dX9_giveReceipt_266 : decode cX9_giveReceipt 266 = .ok (.aload_n 0, 1) := by decide +kernel
theorem dX9_giveReceipt_267 : decode cX9_giveReceipt 267 = .ok (.getfield 7, 3) := by decide +kernel
theorem dX9_giveReceipt_270 : decode cX9_giveReceipt 270 = .ok (.sipush 1747, 3) := by decide +kernel
theorem dX9_giveReceipt_273 : decode cX9_giveReceipt 273 = .ok (.iload 8, 2) := by decide +kernel
theorem dX9_giveReceipt_275 : decode cX9_giveReceipt 275 = .ok (.iadd, 1) := by decide +kernel
theorem dX9_giveReceipt_276 : decode cX9_giveReceipt 276 = .ok (.lload_n 2, 1) := by decide +kernel
theorem dX9_giveReceipt_277 : decode cX9_giveReceipt 277 = .ok (.lastore, 1) := by decide +kernel
theorem dX9_giveReceipt_278 : decode cX9_giveReceipt 278 = .ok (.aload_n 0, 1) := by decide +kernel
theorem dX9_giveReceipt_279 : decode cX9_giveReceipt 279 = .ok (.getfield 7, 3) := by decide +kernel
theorem dX9_giveReceipt_282 : decode cX9_giveReceipt 282 = .ok (.sipush 1763, 3) := by decide +kernel
theorem dX9_giveReceipt_285 : decode cX9_giveReceipt 285 = .ok (.iload 8, 2) := by decide +kernel
theorem dX9_giveReceipt_287 : decode cX9_giveReceipt 287 = .ok (.iadd, 1) := by decide +kernel
theorem dX9_giveReceipt_288 : decode cX9_giveReceipt 288 = .ok (.lload 4, 2) := by decide +kernel
theorem dX9_giveReceipt_290 : decode cX9_giveReceipt 290 = .ok (.lastore, 1) := by decide +kernel
theorem dX9_giveReceipt_291 : decode cX9_giveReceipt 291 = .ok (.aload_n 0, 1) := by decide +kernel
theorem dX9_giveReceipt_292 : decode cX9_giveReceipt 292 = .ok (.getfield 7, 3) := by decide +kernel
theorem dX9_giveReceipt_295 : decode cX9_giveReceipt 295 = .ok (.sipush 1779, 3) := by decide +kernel
theorem dX9_giveReceipt_298 : decode cX9_giveReceipt 298 = .ok (.iload 8, 2) := by decide +kernel
theorem dX9_giveReceipt_300 : decode cX9_giveReceipt 300 = .ok (.iadd, 1) := by decide +kernel
theorem dX9_giveReceipt_301 : decode cX9_giveReceipt 301 = .ok (.aload_n 0, 1) := by decide +kernel
theorem dX9_giveReceipt_302 : decode cX9_giveReceipt 302 = .ok (.getfield 7, 3) := by decide +kernel
theorem dX9_giveReceipt_305 : decode cX9_giveReceipt 305 = .ok (.sipush 1875, 3) := by decide +kernel
theorem dX9_giveReceipt_308 : decode cX9_giveReceipt 308 = .ok (.laload, 1) := by decide +kernel
theorem dX9_giveReceipt_309 : decode cX9_giveReceipt 309 = .ok (.lastore, 1) := by decide +kernel
theorem dX9_giveReceipt_310 : decode cX9_giveReceipt 310 = .ok (.aload_n 0, 1) := by decide +kernel
theorem dX9_giveReceipt_311 : decode cX9_giveReceipt 311 = .ok (.getfield 7, 3) := by decide +kernel
theorem dX9_giveReceipt_314 : decode cX9_giveReceipt 314 = .ok (.sipush 1795, 3) := by decide +kernel
theorem dX9_giveReceipt_317 : decode cX9_giveReceipt 317 = .ok (.iload 8, 2) := by decide +kernel
theorem dX9_giveReceipt_319 : decode cX9_giveReceipt 319 = .ok (.iadd, 1) := by decide +kernel
theorem dX9_giveReceipt_320 : decode cX9_giveReceipt 320 = .ok (.iload 7, 2) := by decide +kernel
theorem dX9_giveReceipt_322 : decode cX9_giveReceipt 322 = .ok (.i2l, 1) := by decide +kernel
theorem dX9_giveReceipt_323 : decode cX9_giveReceipt 323 = .ok (.lastore, 1) := by decide +kernel
theorem dX9_giveReceipt_324 : decode cX9_giveReceipt 324 = .ok (.return_, 1) := by decide +kernel
set_option maxRecDepth 20000 in
theorem ggX9_serve_X9_stored : GoodIn wsX9_serve wsX9_stored := goodIn_r _ [6, 1, 48, 49, 50, 51, 52, 53, 54, 55, 56, 57, 58, 59, 60] (by decide +kernel) (by decide +kernel)
set_option maxRecDepth 20000 in
theorem gX9_serve_X9_stored : GoodIn wsX9_serve (wsV RX9 142 RX9 yX9_stored wsX9_stored) := goodIn_app (goodIn_of _ (by decide +kernel)) ggX9_serve_X9_stored
set_option maxRecDepth 20000 in
theorem ggX9_serve_X9_remaining : GoodIn wsX9_serve wsX9_remaining := goodIn_r _ [10, 1, 48, 49, 50, 51, 52, 53, 54, 55, 56, 57, 58, 59, 60] (by decide +kernel) (by decide +kernel)
set_option maxRecDepth 20000 in
theorem gX9_serve_X9_remaining : GoodIn wsX9_serve (wsV RX9 122 RX9 yX9_remaining wsX9_remaining) := goodIn_app (goodIn_of _ (by decide +kernel)) ggX9_serve_X9_remaining
set_option maxRecDepth 20000 in
theorem ggX9_serve_X9_oldest : GoodIn wsX9_serve wsX9_oldest := goodIn_r _ [14, 1, 48, 49, 50, 51, 52, 53, 54, 55, 56, 57, 58, 59, 60] (by decide +kernel) (by decide +kernel)
set_option maxRecDepth 20000 in
theorem gX9_serve_X9_oldest : GoodIn wsX9_serve (wsV RX9 145 RX9 yX9_oldest wsX9_oldest) := goodIn_app (goodIn_of _ (by decide +kernel)) ggX9_serve_X9_oldest
set_option maxRecDepth 20000 in
theorem ggX9_serve_X9_bandNow : GoodIn wsX9_serve wsX9_bandNow := goodIn_r _ [18, 1, 19, 20, 21, 22, 23, 5, 24, 48, 49, 50, 51, 52, 53, 54, 55, 56, 57, 58, 59, 60] (by decide +kernel) (by decide +kernel)
set_option maxRecDepth 20000 in
theorem gX9_serve_X9_bandNow : GoodIn wsX9_serve (wsV RX9 133 RX9 yX9_bandNow wsX9_bandNow) := goodIn_app (goodIn_of _ (by decide +kernel)) ggX9_serve_X9_bandNow
set_option maxRecDepth 20000 in
theorem ggX9_serve_X9_priceOf : GoodIn wsX9_serve wsX9_priceOf := goodIn_r _ [28, 1, 29, 48, 49, 50, 51, 52, 53, 54, 55, 56, 57, 58, 59, 60] (by decide +kernel) (by decide +kernel)
set_option maxRecDepth 20000 in
theorem gX9_serve_X9_priceOf : GoodIn wsX9_serve (wsV RX9 148 RX9 yX9_priceOf wsX9_priceOf) := goodIn_app (goodIn_of _ (by decide +kernel)) ggX9_serve_X9_priceOf
set_option maxRecDepth 20000 in
theorem ggX9_serve_X9_removeBlock : GoodIn wsX9_serve wsX9_removeBlock := goodIn_r _ [33, 1, 48, 49, 50, 51, 52, 53, 54, 55, 56, 57, 58, 59, 60] (by decide +kernel) (by decide +kernel)
set_option maxRecDepth 20000 in
theorem gX9_serve_X9_removeBlock : GoodIn wsX9_serve (wsV RX9 110 RX9 yX9_removeBlock wsX9_removeBlock) := goodIn_app (goodIn_of _ (by decide +kernel)) ggX9_serve_X9_removeBlock
set_option maxRecDepth 20000 in
theorem ggX9_serve_X9_enter : GoodIn wsX9_serve wsX9_enter := goodIn_r _ [37, 1, 15, 16, 17, 5, 18, 19, 20, 21, 22, 23, 24, 38, 39, 40, 41, 48, 49, 50, 51, 52, 53, 54, 55, 56, 57, 58, 59, 60] (by decide +kernel) (by decide +kernel)
set_option maxRecDepth 20000 in
theorem gX9_serve_X9_enter : GoodIn wsX9_serve (wsV RX9 152 RX9 yX9_enter wsX9_enter) := goodIn_app (goodIn_of _ (by decide +kernel)) ggX9_serve_X9_enter
set_option maxRecDepth 20000 in
theorem ggX9_serve_X9_giveReceipt : GoodIn wsX9_serve wsX9_giveReceipt := goodIn_r _ [45, 1, 46, 47, 48, 49, 50, 51, 52, 53, 54, 55, 56, 57, 58, 59, 60] (by decide +kernel) (by decide +kernel)
set_option maxRecDepth 20000 in
theorem gX9_serve_X9_giveReceipt : GoodIn wsX9_serve (wsV RX9 156 RX9 yX9_giveReceipt wsX9_giveReceipt) := goodIn_app (goodIn_of _ (by decide +kernel)) ggX9_serve_X9_giveReceipt
theorem dX9_serve_0 : decode cX9_serve 0 = .ok (.aload_n 0, 1) := by decide +kernel
theorem dX9_serve_1 : decode cX9_serve 1 = .ok (.getfield 7, 3) := by decide +kernel
theorem dX9_serve_4 : decode cX9_serve 4 = .ok (.sipush 531, 3) := by decide +kernel
theorem dX9_serve_7 : decode cX9_serve 7 = .ok (.iload_n 1, 1) := by decide +kernel
theorem dX9_serve_8 : decode cX9_serve 8 = .ok (.iadd, 1) := by decide +kernel
theorem dX9_serve_9 : decode cX9_serve 9 = .ok (.laload, 1) := by decide +kernel
theorem dX9_serve_10 : decode cX9_serve 10 = .ok (.l2i, 1) := by decide +kernel
theorem dX9_serve_11 : decode cX9_serve 11 = .ok (.istore_n 2, 1) := by decide +kernel
theorem dX9_serve_12 : decode cX9_serve 12 = .ok (.aload_n 0, 1) := by decide +kernel
theorem dX9_serve_13 : decode cX9_serve 13 = .ok (.getfield 7, 3) := by decide +kernel
theorem dX9_serve_16 : decode cX9_serve 16 = .ok (.sipush 515, 3) := by decide +kernel
theorem dX9_serve_19 : decode cX9_serve 19 = .ok (.iload_n 2, 1) := by decide +kernel
theorem dX9_serve_20 : decode cX9_serve 20 = .ok (.iadd, 1) := by decide +kernel
theorem dX9_serve_21 : decode cX9_serve 21 = .ok (.laload, 1) := by decide +kernel
theorem dX9_serve_22 : decode cX9_serve 22 = .ok (.aload_n 0, 1) := by decide +kernel
theorem dX9_serve_23 : decode cX9_serve 23 = .ok (.getfield 7, 3) := by decide +kernel
theorem dX9_serve_26 : decode cX9_serve 26 = .ok (.iconst 3, 1) := by decide +kernel
theorem dX9_serve_27 : decode cX9_serve 27 = .ok (.laload, 1) := by decide +kernel
theorem dX9_serve_28 : decode cX9_serve 28 = .ok (.lcmp, 1) := by decide +kernel
theorem dX9_serve_29 : decode cX9_serve 29 = .ok (.ifCond .gt 31, 3) := by decide +kernel
theorem dX9_serve_32 : decode cX9_serve 32 = .ok (.aload_n 0, 1) := by decide +kernel
theorem dX9_serve_33 : decode cX9_serve 33 = .ok (.getfield 7, 3) := by decide +kernel
theorem dX9_serve_36 : decode cX9_serve 36 = .ok (.sipush 1331, 3) := by decide +kernel
theorem dX9_serve_39 : decode cX9_serve 39 = .ok (.iload_n 1, 1) := by decide +kernel
theorem dX9_serve_40 : decode cX9_serve 40 = .ok (.iadd, 1) := by decide +kernel
theorem dX9_serve_41 : decode cX9_serve 41 = .ok (.laload, 1) := by decide +kernel
theorem dX9_serve_42 : decode cX9_serve 42 = .ok (.lconst 1, 1) := by decide +kernel
theorem dX9_serve_43 : decode cX9_serve 43 = .ok (.lcmp, 1) := by decide +kernel
theorem dX9_serve_44 : decode cX9_serve 44 = .ok (.ifCond .ne 17, 3) := by decide +kernel
theorem dX9_serve_47 : decode cX9_serve 47 = .ok (.aload_n 0, 1) := by decide +kernel
theorem dX9_serve_48 : decode cX9_serve 48 = .ok (.invokevirtual 142, 3) := by decide +kernel
theorem dX9_serve_51 : decode cX9_serve 51 = .ok (.aload_n 0, 1) := by decide +kernel
theorem dX9_serve_52 : decode cX9_serve 52 = .ok (.iload_n 1, 1) := by decide +kernel
theorem dX9_serve_53 : decode cX9_serve 53 = .ok (.invokevirtual 122, 3) := by decide +kernel
theorem dX9_serve_56 : decode cX9_serve 56 = .ok (.lcmp, 1) := by decide +kernel
theorem dX9_serve_57 : decode cX9_serve 57 = .ok (.ifCond .ge 4, 3) := by decide +kernel
theorem dX9_serve_60 : decode cX9_serve 60 = .ok (.return_, 1) := by decide +kernel
theorem dX9_serve_61 : decode cX9_serve 61 = .ok (.lconst 0, 1) := by decide +kernel
theorem dX9_serve_62 : decode cX9_serve 62 = .ok (.lstore_n 3, 1) := by decide +kernel
theorem dX9_serve_63 : decode cX9_serve 63 = .ok (.lconst 0, 1) := by decide +kernel
theorem dX9_serve_64 : decode cX9_serve 64 = .ok (.lstore 5, 2) := by decide +kernel
theorem dX9_serve_66 : decode cX9_serve 66 = .ok (.aload_n 0, 1) := by decide +kernel
theorem dX9_serve_67 : decode cX9_serve 67 = .ok (.invokevirtual 145, 3) := by decide +kernel
theorem dX9_serve_70 : decode cX9_serve 70 = .ok (.istore 7, 2) := by decide +kernel
theorem dX9_serve_72 : decode cX9_serve 72 = .ok (.aload_n 0, 1) := by decide +kernel
theorem dX9_serve_73 : decode cX9_serve 73 = .ok (.iload_n 1, 1) := by decide +kernel
theorem dX9_serve_74 : decode cX9_serve 74 = .ok (.invokevirtual 122, 3) := by decide +kernel
theorem dX9_serve_77 : decode cX9_serve 77 = .ok (.lconst 0, 1) := by decide +kernel
theorem dX9_serve_78 : decode cX9_serve 78 = .ok (.lcmp, 1) := by decide +kernel
theorem dX9_serve_79 : decode cX9_serve 79 = .ok (.ifCond .le 150, 3) := by decide +kernel
theorem dX9_serve_82 : decode cX9_serve 82 = .ok (.iload 7, 2) := by decide +kernel
theorem dX9_serve_84 : decode cX9_serve 84 = .ok (.iconst (-1), 1) := by decide +kernel
theorem dX9_serve_85 : decode cX9_serve 85 = .ok (.if_icmp .eq 144, 3) := by decide +kernel
theorem dX9_serve_88 : decode cX9_serve 88 = .ok (.aload_n 0, 1) := by decide +kernel
theorem dX9_serve_89 : decode cX9_serve 89 = .ok (.getfield 7, 3) := by decide +kernel
theorem dX9_serve_92 : decode cX9_serve 92 = .ok (.sipush 207, 3) := by decide +kernel
theorem dX9_serve_95 : decode cX9_serve 95 = .ok (.iload 7, 2) := by decide +kernel
theorem dX9_serve_97 : decode cX9_serve 97 = .ok (.iadd, 1) := by decide +kernel
theorem dX9_serve_98 : decode cX9_serve 98 = .ok (.laload, 1) := by decide +kernel
theorem dX9_serve_99 : decode cX9_serve 99 = .ok (.lstore 8, 2) := by decide +kernel
theorem dX9_serve_101 : decode cX9_serve 101 = .ok (.aload_n 0, 1) := by decide +kernel
theorem dX9_serve_102 : decode cX9_serve 102 = .ok (.iload_n 2, 1) := by decide +kernel
theorem dX9_serve_103 : decode cX9_serve 103 = .ok (.lload 8, 2) := by decide +kernel
theorem dX9_serve_105 : decode cX9_serve 105 = .ok (.aload_n 0, 1) := by decide +kernel
theorem dX9_serve_106 : decode cX9_serve 106 = .ok (.invokevirtual 133, 3) := by decide +kernel
theorem dX9_serve_109 : decode cX9_serve 109 = .ok (.invokevirtual 148, 3) := by decide +kernel
theorem dX9_serve_112 : decode cX9_serve 112 = .ok (.lstore 10, 2) := by decide +kernel
theorem dX9_serve_114 : decode cX9_serve 114 = .ok (.aload_n 0, 1) := by decide +kernel
theorem dX9_serve_115 : decode cX9_serve 115 = .ok (.iload 7, 2) := by decide +kernel
theorem dX9_serve_117 : decode cX9_serve 117 = .ok (.bipush 30, 2) := by decide +kernel
theorem dX9_serve_119 : decode cX9_serve 119 = .ok (.idiv, 1) := by decide +kernel
theorem dX9_serve_120 : decode cX9_serve 120 = .ok (.iload 7, 2) := by decide +kernel
theorem dX9_serve_122 : decode cX9_serve 122 = .ok (.bipush 30, 2) := by decide +kernel
theorem dX9_serve_124 : decode cX9_serve 124 = .ok (.irem, 1) := by decide +kernel
theorem dX9_serve_125 : decode cX9_serve 125 = .ok (.invokevirtual 110, 3) := by decide +kernel
theorem dX9_serve_128 : decode cX9_serve 128 = .ok (.aload_n 0, 1) := by decide +kernel
theorem dX9_serve_129 : decode cX9_serve 129 = .ok (.getfield 7, 3) := by decide +kernel
theorem dX9_serve_132 : decode cX9_serve 132 = .ok (.sipush 931, 3) := by decide +kernel
theorem dX9_serve_135 : decode cX9_serve 135 = .ok (.iload_n 1, 1) := by decide +kernel
theorem dX9_serve_136 : decode cX9_serve 136 = .ok (.iadd, 1) := by decide +kernel
theorem dX9_serve_137 : decode cX9_serve 137 = .ok (.dup2, 1) := by decide +kernel
theorem dX9_serve_138 : decode cX9_serve 138 = .ok (.laload, 1) := by decide +kernel
theorem dX9_serve_139 : decode cX9_serve 139 = .ok (.lload 8, 2) := by decide +kernel
theorem dX9_serve_141 : decode cX9_serve 141 = .ok (.ladd, 1) := by decide +kernel
theorem dX9_serve_142 : decode cX9_serve 142 = .ok (.lastore, 1) := by decide +kernel
theorem dX9_serve_143 : decode cX9_serve 143 = .ok (.aload_n 0, 1) := by decide +kernel
theorem dX9_serve_144 : decode cX9_serve 144 = .ok (.getfield 7, 3) := by decide +kernel
theorem dX9_serve_147 : decode cX9_serve 147 = .ok (.sipush 515, 3) := by decide +kernel
theorem dX9_serve_150 : decode cX9_serve 150 = .ok (.iload_n 2, 1) := by decide +kernel
theorem dX9_serve_151 : decode cX9_serve 151 = .ok (.iadd, 1) := by decide +kernel
theorem dX9_serve_152 : decode cX9_serve 152 = .ok (.dup2, 1) := by decide +kernel
theorem dX9_serve_153 : decode cX9_serve 153 = .ok (.laload, 1) := by decide +kernel
theorem dX9_serve_154 : decode cX9_serve 154 = .ok (.lload 10, 2) := by decide +kernel
theorem dX9_serve_156 : decode cX9_serve 156 = .ok (.ladd, 1) := by decide +kernel
theorem dX9_serve_157 : decode cX9_serve 157 = .ok (.lastore, 1) := by decide +kernel
theorem dX9_serve_158 : decode cX9_serve 158 = .ok (.aload_n 0, 1) := by decide +kernel
theorem dX9_serve_159 : decode cX9_serve 159 = .ok (.getfield 7, 3) := by decide +kernel
theorem dX9_serve_162 : decode cX9_serve 162 = .ok (.sipush 523, 3) := by decide +kernel
theorem dX9_serve_165 : decode cX9_serve 165 = .ok (.iload_n 2, 1) := by decide +kernel
theorem dX9_serve_166 : decode cX9_serve 166 = .ok (.iadd, 1) := by decide +kernel
theorem dX9_serve_167 : decode cX9_serve 167 = .ok (.dup2, 1) := by decide +kernel
theorem dX9_serve_168 : decode cX9_serve 168 = .ok (.laload, 1) := by decide +kernel
theorem dX9_serve_169 : decode cX9_serve 169 = .ok (.lload 8, 2) := by decide +kernel
theorem dX9_serve_171 : decode cX9_serve 171 = .ok (.ladd, 1) := by decide +kernel
theorem dX9_serve_172 : decode cX9_serve 172 = .ok (.lastore, 1) := by decide +kernel
theorem dX9_serve_173 : decode cX9_serve 173 = .ok (.aload_n 0, 1) := by decide +kernel
theorem dX9_serve_174 : decode cX9_serve 174 = .ok (.getfield 7, 3) := by decide +kernel
theorem dX9_serve_177 : decode cX9_serve 177 = .ok (.sipush 1877, 3) := by decide +kernel
theorem dX9_serve_180 : decode cX9_serve 180 = .ok (.dup2, 1) := by decide +kernel
theorem dX9_serve_181 : decode cX9_serve 181 = .ok (.laload, 1) := by decide +kernel
theorem dX9_serve_182 : decode cX9_serve 182 = .ok (.lload 8, 2) := by decide +kernel
theorem dX9_serve_184 : decode cX9_serve 184 = .ok (.ladd, 1) := by decide +kernel
theorem dX9_serve_185 : decode cX9_serve 185 = .ok (.lastore, 1) := by decide +kernel
theorem dX9_serve_186 : decode cX9_serve 186 = .ok (.aload_n 0, 1) := by decide +kernel
theorem dX9_serve_187 : decode cX9_serve 187 = .ok (.getfield 7, 3) := by decide +kernel
theorem dX9_serve_190 : decode cX9_serve 190 = .ok (.sipush 1883, 3) := by decide +kernel
theorem dX9_serve_193 : decode cX9_serve 193 = .ok (.dup2, 1) := by decide +kernel
theorem dX9_serve_194 : decode cX9_serve 194 = .ok (.laload, 1) := by decide +kernel
theorem dX9_serve_195 : decode cX9_serve 195 = .ok (.lload 10, 2) := by decide +kernel
theorem dX9_serve_197 : decode cX9_serve 197 = .ok (.ladd, 1) := by decide +kernel
theorem dX9_serve_198 : decode cX9_serve 198 = .ok (.lastore, 1) := by decide +kernel
theorem dX9_serve_199 : decode cX9_serve 199 = .ok (.aload_n 0, 1) := by decide +kernel
theorem dX9_serve_200 : decode cX9_serve 200 = .ok (.iload_n 2, 1) := by decide +kernel
theorem dX9_serve_201 : decode cX9_serve 201 = .ok (.lload 8, 2) := by decide +kernel
theorem dX9_serve_203 : decode cX9_serve 203 = .ok (.lload 10, 2) := by decide +kernel
theorem dX9_serve_205 : decode cX9_serve 205 = .ok (.invokevirtual 152, 3) := by decide +kernel
theorem dX9_serve_208 : decode cX9_serve 208 = .ok (.lload_n 3, 1) := by decide +kernel
theorem dX9_serve_209 : decode cX9_serve 209 = .ok (.lload 8, 2) := by decide +kernel
theorem dX9_serve_211 : decode cX9_serve 211 = .ok (.ladd, 1) := by decide +kernel
theorem dX9_serve_212 : decode cX9_serve 212 = .ok (.lstore_n 3, 1) := by decide +kernel
theorem dX9_serve_213 : decode cX9_serve 213 = .ok (.lload 5, 2) := by decide +kernel
theorem dX9_serve_215 : decode cX9_serve 215 = .ok (.lload 10, 2) := by decide +kernel
theorem dX9_serve_217 : decode cX9_serve 217 = .ok (.ladd, 1) := by decide +kernel
theorem dX9_serve_218 : decode cX9_serve 218 = .ok (.lstore 5, 2) := by decide +kernel
theorem dX9_serve_220 : decode cX9_serve 220 = .ok (.aload_n 0, 1) := by decide +kernel
theorem dX9_serve_221 : decode cX9_serve 221 = .ok (.invokevirtual 145, 3) := by decide +kernel
theorem dX9_serve_224 : decode cX9_serve 224 = .ok (.istore 7, 2) := by decide +kernel
theorem dX9_serve_226 : decode cX9_serve 226 = .ok (.goto (-154), 3) := by decide +kernel
theorem dX9_serve_229 : decode cX9_serve 229 = .ok (.aload_n 0, 1) := by decide +kernel
theorem dX9_serve_230 : decode cX9_serve 230 = .ok (.iload_n 1, 1) := by decide +kernel
theorem dX9_serve_231 : decode cX9_serve 231 = .ok (.invokevirtual 122, 3) := by decide +kernel
theorem dX9_serve_234 : decode cX9_serve 234 = .ok (.lconst 0, 1) := by decide +kernel
theorem dX9_serve_235 : decode cX9_serve 235 = .ok (.lcmp, 1) := by decide +kernel
theorem dX9_serve_236 : decode cX9_serve 236 = .ok (.ifCond .ne 14, 3) := by decide +kernel
theorem dX9_serve_239 : decode cX9_serve 239 = .ok (.aload_n 0, 1) := by decide +kernel
theorem dX9_serve_240 : decode cX9_serve 240 = .ok (.getfield 7, 3) := by decide +kernel
theorem dX9_serve_243 : decode cX9_serve 243 = .ok (.sipush 1531, 3) := by decide +kernel
theorem dX9_serve_246 : decode cX9_serve 246 = .ok (.iload_n 1, 1) := by decide +kernel
theorem dX9_serve_247 : decode cX9_serve 247 = .ok (.iadd, 1) := by decide +kernel
theorem dX9_serve_248 : decode cX9_serve 248 = .ok (.lconst 1, 1) := by decide +kernel
theorem dX9_serve_249 : decode cX9_serve 249 = .ok (.lastore, 1) := by decide +kernel
theorem dX9_serve_250 : decode cX9_serve 250 = .ok (.lload_n 3, 1) := by decide +kernel
theorem dX9_serve_251 : decode cX9_serve 251 = .ok (.lconst 0, 1) := by decide +kernel
theorem dX9_serve_252 : decode cX9_serve 252 = .ok (.lcmp, 1) := by decide +kernel
theorem dX9_serve_253 : decode cX9_serve 253 = .ok (.ifCond .le 11, 3) := by decide +kernel
theorem dX9_serve_256 : decode cX9_serve 256 = .ok (.aload_n 0, 1) := by decide +kernel
theorem dX9_serve_257 : decode cX9_serve 257 = .ok (.iload_n 1, 1) := by decide +kernel
theorem dX9_serve_258 : decode cX9_serve 258 = .ok (.lload_n 3, 1) := by decide +kernel
theorem dX9_serve_259 : decode cX9_serve 259 = .ok (.lload 5, 2) := by decide +kernel
theorem dX9_serve_261 : decode cX9_serve 261 = .ok (.invokevirtual 156, 3) := by decide +kernel
theorem dX9_serve_264 : decode cX9_serve 264 = .ok (.return_, 1) := by decide +kernel
theorem dX9_openMany_0 : decode cX9_openMany 0 = .ok (.iconst 0, 1) := by decide +kernel
theorem dX9_openMany_1 : decode cX9_openMany 1 = .ok (.istore_n 1, 1) := by decide +kernel
theorem dX9_openMany_2 : decode cX9_openMany 2 = .ok (.iconst 0, 1) := by decide +kernel
theorem dX9_openMany_3 : decode cX9_openMany 3 = .ok (.istore_n 2, 1) := by decide +kernel
theorem dX9_openMany_4 : decode cX9_openMany 4 = .ok (.iload_n 2, 1) := by decide +kernel
theorem dX9_openMany_5 : decode cX9_openMany 5 = .ok (.i2l, 1) := by decide +kernel
theorem dX9_openMany_6 : decode cX9_openMany 6 = .ok (.aload_n 0, 1) := by decide +kernel
theorem dX9_openMany_7 : decode cX9_openMany 7 = .ok (.getfield 7, 3) := by decide +kernel
theorem dX9_openMany_10 : decode cX9_openMany 10 = .ok (.sipush 1882, 3) := by decide +kernel
theorem dX9_openMany_13 : decode cX9_openMany 13 = .ok (.laload, 1) := by decide +kernel
theorem dX9_openMany_14 : decode cX9_openMany 14 = .ok (.lcmp, 1) := by decide +kernel
theorem dX9_openMany_15 : decode cX9_openMany 15 = .ok (.ifCond .ge 32, 3) := by decide +kernel
theorem dX9_openMany_18 : decode cX9_openMany 18 = .ok (.iload_n 1, 1) := by decide +kernel
theorem dX9_openMany_19 : decode cX9_openMany 19 = .ok (.aload_n 0, 1) := by decide +kernel
theorem dX9_openMany_20 : decode cX9_openMany 20 = .ok (.getfield 7, 3) := by decide +kernel
theorem dX9_openMany_23 : decode cX9_openMany 23 = .ok (.sipush 1531, 3) := by decide +kernel
theorem dX9_openMany_26 : decode cX9_openMany 26 = .ok (.iload_n 2, 1) := by decide +kernel
theorem dX9_openMany_27 : decode cX9_openMany 27 = .ok (.iadd, 1) := by decide +kernel
theorem dX9_openMany_28 : decode cX9_openMany 28 = .ok (.laload, 1) := by decide +kernel
theorem dX9_openMany_29 : decode cX9_openMany 29 = .ok (.lconst 0, 1) := by decide +kernel
theorem dX9_openMany_30 : decode cX9_openMany 30 = .ok (.lcmp, 1) := by decide +kernel
theorem dX9_openMany_31 : decode cX9_openMany 31 = .ok (.ifCond .ne 7, 3) := by decide +kernel
theorem dX9_openMany_34 : decode cX9_openMany 34 = .ok (.iconst 1, 1) := by decide +kernel
theorem dX9_openMany_35 : decode cX9_openMany 35 = .ok (.goto 4, 3) := by decide +kernel
theorem dX9_openMany_38 : decode cX9_openMany 38 = .ok (.iconst 0, 1) := by decide +kernel
theorem dX9_openMany_39 : decode cX9_openMany 39 = .ok (.iadd, 1) := by decide +kernel
theorem dX9_openMany_40 : decode cX9_openMany 40 = .ok (.istore_n 1, 1) := by decide +kernel
theorem dX9_openMany_41 : decode cX9_openMany 41 = .ok (.iinc 2 1, 3) := by decide +kernel
theorem dX9_openMany_44 : decode cX9_openMany 44 = .ok (.goto (-40), 3) := by decide +kernel
theorem dX9_openMany_47 : decode cX9_openMany 47 = .ok (.iload_n 1, 1) := by decide +kernel
theorem dX9_openMany_48 : decode cX9_openMany 48 = .ok (.ireturn, 1) := by decide +kernel
set_option maxRecDepth 20000 in
theorem ggX9_deliver_X9_openMany : GoodIn wsX9_deliver wsX9_openMany := goodIn_r _ [7, 1, 71, 72, 73, 74, 75, 76, 77, 78, 79, 80, 81, 82, 83] (by decide +kernel) (by decide +kernel)
set_option maxRecDepth 20000 in
theorem gX9_deliver_X9_openMany : GoodIn wsX9_deliver (wsV RX9 159 RX9 yX9_openMany wsX9_openMany) := goodIn_app (goodIn_of _ (by decide +kernel)) ggX9_deliver_X9_openMany
set_option maxRecDepth 20000 in
theorem ggX9_deliver_X9_aheadOf : GoodIn wsX9_deliver wsX9_aheadOf := goodIn_r _ [11, 1, 12, 13, 14, 6, 15, 16, 17, 18, 19, 20, 21, 22, 23, 24, 25, 71, 72, 73, 74, 75, 76, 77, 78, 79, 80, 81, 82, 83] (by decide +kernel) (by decide +kernel)
set_option maxRecDepth 20000 in
theorem gX9_deliver_X9_aheadOf : GoodIn wsX9_deliver (wsV RX9 162 RX9 yX9_aheadOf wsX9_aheadOf) := goodIn_app (goodIn_of _ (by decide +kernel)) ggX9_deliver_X9_aheadOf
set_option maxRecDepth 20000 in
theorem ggX9_deliver_X9_serve : GoodIn wsX9_deliver wsX9_serve := goodIn_r _ [29, 1, 30, 31, 32, 6, 33, 22, 23, 24, 25, 34, 35, 36, 37, 38, 39, 40, 41, 42, 43, 44, 45, 46, 47, 48, 49, 50, 51, 52, 53, 54, 55, 56, 57, 58, 59, 60, 61, 62, 63, 64, 65, 66, 67, 68, 69, 70, 71, 72, 73, 74, 75, 76, 77, 78, 79, 80, 81, 82, 83] (by decide +kernel) (by decide +kernel)
set_option maxRecDepth 20000 in
theorem gX9_deliver_X9_serve : GoodIn wsX9_deliver (wsV RX9 165 RX9 yX9_serve wsX9_serve) := goodIn_app (goodIn_of _ (by decide +kernel)) ggX9_deliver_X9_serve
theorem dX9_deliver_0 : decode cX9_deliver 0 = .ok (.aload_n 0, 1) := by decide +kernel
theorem dX9_deliver_1 : decode cX9_deliver 1 = .ok (.invokevirtual 159, 3) := by decide +kernel
theorem dX9_deliver_4 : decode cX9_deliver 4 = .ok (.istore_n 1, 1) := by decide +kernel
theorem dX9_deliver_5 : decode cX9_deliver 5 = .ok (.iconst 0, 1) := by decide +kernel
theorem dX9_deliver_6 : decode cX9_deliver 6 = .ok (.istore_n 2, 1) := by decide +kernel
theorem dX9_deliver_7 : decode cX9_deliver 7 = .ok (.iload_n 2, 1) := by decide +kernel
theorem dX9_deliver_8 : decode cX9_deliver 8 = .ok (.i2l, 1) := by decide +kernel
theorem dX9_deliver_9 : decode cX9_deliver 9 = .ok (.aload_n 0, 1) := by decide +kernel
theorem dX9_deliver_10 : decode cX9_deliver 10 = .ok (.getfield 7, 3) := by decide +kernel
theorem dX9_deliver_13 : decode cX9_deliver 13 = .ok (.sipush 1882, 3) := by decide +kernel
theorem dX9_deliver_16 : decode cX9_deliver 16 = .ok (.laload, 1) := by decide +kernel
theorem dX9_deliver_17 : decode cX9_deliver 17 = .ok (.lcmp, 1) := by decide +kernel
theorem dX9_deliver_18 : decode cX9_deliver 18 = .ok (.ifCond .ge 35, 3) := by decide +kernel
theorem dX9_deliver_21 : decode cX9_deliver 21 = .ok (.aload_n 0, 1) := by decide +kernel
theorem dX9_deliver_22 : decode cX9_deliver 22 = .ok (.getfield 7, 3) := by decide +kernel
theorem dX9_deliver_25 : decode cX9_deliver 25 = .ok (.sipush 1531, 3) := by decide +kernel
theorem dX9_deliver_28 : decode cX9_deliver 28 = .ok (.iload_n 2, 1) := by decide +kernel
theorem dX9_deliver_29 : decode cX9_deliver 29 = .ok (.iadd, 1) := by decide +kernel
theorem dX9_deliver_30 : decode cX9_deliver 30 = .ok (.laload, 1) := by decide +kernel
theorem dX9_deliver_31 : decode cX9_deliver 31 = .ok (.lconst 0, 1) := by decide +kernel
theorem dX9_deliver_32 : decode cX9_deliver 32 = .ok (.lcmp, 1) := by decide +kernel
theorem dX9_deliver_33 : decode cX9_deliver 33 = .ok (.ifCond .ne 14, 3) := by decide +kernel
theorem dX9_deliver_36 : decode cX9_deliver 36 = .ok (.aload_n 0, 1) := by decide +kernel
theorem dX9_deliver_37 : decode cX9_deliver 37 = .ok (.getfield 19, 3) := by decide +kernel
theorem dX9_deliver_40 : decode cX9_deliver 40 = .ok (.aload_n 0, 1) := by decide +kernel
theorem dX9_deliver_41 : decode cX9_deliver 41 = .ok (.iload_n 2, 1) := by decide +kernel
theorem dX9_deliver_42 : decode cX9_deliver 42 = .ok (.invokevirtual 162, 3) := by decide +kernel
theorem dX9_deliver_45 : decode cX9_deliver 45 = .ok (.iload_n 2, 1) := by decide +kernel
theorem dX9_deliver_46 : decode cX9_deliver 46 = .ok (.iastore, 1) := by decide +kernel
theorem dX9_deliver_47 : decode cX9_deliver 47 = .ok (.iinc 2 1, 3) := by decide +kernel
theorem dX9_deliver_50 : decode cX9_deliver 50 = .ok (.goto (-43), 3) := by decide +kernel
theorem dX9_deliver_53 : decode cX9_deliver 53 = .ok (.iconst 0, 1) := by decide +kernel
theorem dX9_deliver_54 : decode cX9_deliver 54 = .ok (.istore_n 2, 1) := by decide +kernel
theorem dX9_deliver_55 : decode cX9_deliver 55 = .ok (.iload_n 2, 1) := by decide +kernel
theorem dX9_deliver_56 : decode cX9_deliver 56 = .ok (.iload_n 1, 1) := by decide +kernel
theorem dX9_deliver_57 : decode cX9_deliver 57 = .ok (.if_icmp .ge 19, 3) := by decide +kernel
theorem dX9_deliver_60 : decode cX9_deliver 60 = .ok (.aload_n 0, 1) := by decide +kernel
theorem dX9_deliver_61 : decode cX9_deliver 61 = .ok (.aload_n 0, 1) := by decide +kernel
theorem dX9_deliver_62 : decode cX9_deliver 62 = .ok (.getfield 19, 3) := by decide +kernel
theorem dX9_deliver_65 : decode cX9_deliver 65 = .ok (.iload_n 2, 1) := by decide +kernel
theorem dX9_deliver_66 : decode cX9_deliver 66 = .ok (.iaload, 1) := by decide +kernel
theorem dX9_deliver_67 : decode cX9_deliver 67 = .ok (.invokevirtual 165, 3) := by decide +kernel
theorem dX9_deliver_70 : decode cX9_deliver 70 = .ok (.iinc 2 1, 3) := by decide +kernel
theorem dX9_deliver_73 : decode cX9_deliver 73 = .ok (.goto (-18), 3) := by decide +kernel
theorem dX9_deliver_76 : decode cX9_deliver 76 = .ok (.return_, 1) := by decide +kernel
theorem dX9_expire_0 : decode cX9_expire 0 = .ok (.iconst 0, 1) := by decide +kernel
theorem dX9_expire_1 : decode cX9_expire 1 = .ok (.istore_n 1, 1) := by decide +kernel
theorem dX9_expire_2 : decode cX9_expire 2 = .ok (.iload_n 1, 1) := by decide +kernel
theorem dX9_expire_3 : decode cX9_expire 3 = .ok (.i2l, 1) := by decide +kernel
theorem dX9_expire_4 : decode cX9_expire 4 = .ok (.aload_n 0, 1) := by decide +kernel
theorem dX9_expire_5 : decode cX9_expire 5 = .ok (.getfield 7, 3) := by decide +kernel
theorem dX9_expire_8 : decode cX9_expire 8 = .ok (.sipush 1882, 3) := by decide +kernel
theorem dX9_expire_11 : decode cX9_expire 11 = .ok (.laload, 1) := by decide +kernel
theorem dX9_expire_12 : decode cX9_expire 12 = .ok (.lcmp, 1) := by decide +kernel
theorem dX9_expire_13 : decode cX9_expire 13 = .ok (.ifCond .ge 70, 3) := by decide +kernel
theorem dX9_expire_16 : decode cX9_expire 16 = .ok (.aload_n 0, 1) := by decide +kernel
theorem dX9_expire_17 : decode cX9_expire 17 = .ok (.getfield 7, 3) := by decide +kernel
theorem dX9_expire_20 : decode cX9_expire 20 = .ok (.sipush 1531, 3) := by decide +kernel
theorem dX9_expire_23 : decode cX9_expire 23 = .ok (.iload_n 1, 1) := by decide +kernel
theorem dX9_expire_24 : decode cX9_expire 24 = .ok (.iadd, 1) := by decide +kernel
theorem dX9_expire_25 : decode cX9_expire 25 = .ok (.laload, 1) := by decide +kernel
theorem dX9_expire_26 : decode cX9_expire 26 = .ok (.lconst 0, 1) := by decide +kernel
theorem dX9_expire_27 : decode cX9_expire 27 = .ok (.lcmp, 1) := by decide +kernel
theorem dX9_expire_28 : decode cX9_expire 28 = .ok (.ifCond .ne 49, 3) := by decide +kernel
theorem dX9_expire_31 : decode cX9_expire 31 = .ok (.aload_n 0, 1) := by decide +kernel
theorem dX9_expire_32 : decode cX9_expire 32 = .ok (.getfield 7, 3) := by decide +kernel
theorem dX9_expire_35 : decode cX9_expire 35 = .ok (.sipush 1131, 3) := by decide +kernel
theorem dX9_expire_38 : decode cX9_expire 38 = .ok (.iload_n 1, 1) := by decide +kernel
theorem dX9_expire_39 : decode cX9_expire 39 = .ok (.iadd, 1) := by decide +kernel
theorem dX9_expire_40 : decode cX9_expire 40 = .ok (.dup2, 1) := by decide +kernel
theorem dX9_expire_41 : decode cX9_expire 41 = .ok (.laload, 1) := by decide +kernel
theorem dX9_expire_42 : decode cX9_expire 42 = .ok (.lconst 1, 1) := by decide +kernel
theorem dX9_expire_43 : decode cX9_expire 43 = .ok (.lsub, 1) := by decide +kernel
theorem dX9_expire_44 : decode cX9_expire 44 = .ok (.lastore, 1) := by decide +kernel
theorem dX9_expire_45 : decode cX9_expire 45 = .ok (.aload_n 0, 1) := by decide +kernel
theorem dX9_expire_46 : decode cX9_expire 46 = .ok (.getfield 7, 3) := by decide +kernel
theorem dX9_expire_49 : decode cX9_expire 49 = .ok (.sipush 1531, 3) := by decide +kernel
theorem dX9_expire_52 : decode cX9_expire 52 = .ok (.iload_n 1, 1) := by decide +kernel
theorem dX9_expire_53 : decode cX9_expire 53 = .ok (.iadd, 1) := by decide +kernel
theorem dX9_expire_54 : decode cX9_expire 54 = .ok (.aload_n 0, 1) := by decide +kernel
theorem dX9_expire_55 : decode cX9_expire 55 = .ok (.getfield 7, 3) := by decide +kernel
theorem dX9_expire_58 : decode cX9_expire 58 = .ok (.sipush 1131, 3) := by decide +kernel
theorem dX9_expire_61 : decode cX9_expire 61 = .ok (.iload_n 1, 1) := by decide +kernel
theorem dX9_expire_62 : decode cX9_expire 62 = .ok (.iadd, 1) := by decide +kernel
theorem dX9_expire_63 : decode cX9_expire 63 = .ok (.laload, 1) := by decide +kernel
theorem dX9_expire_64 : decode cX9_expire 64 = .ok (.lconst 0, 1) := by decide +kernel
theorem dX9_expire_65 : decode cX9_expire 65 = .ok (.lcmp, 1) := by decide +kernel
theorem dX9_expire_66 : decode cX9_expire 66 = .ok (.ifCond .ne 9, 3) := by decide +kernel
theorem dX9_expire_69 : decode cX9_expire 69 = .ok (.ldc2_w 31, 3) := by decide +kernel
theorem dX9_expire_72 : decode cX9_expire 72 = .ok (.goto 4, 3) := by decide +kernel
theorem dX9_expire_75 : decode cX9_expire 75 = .ok (.lconst 0, 1) := by decide +kernel
theorem dX9_expire_76 : decode cX9_expire 76 = .ok (.lastore, 1) := by decide +kernel
theorem dX9_expire_77 : decode cX9_expire 77 = .ok (.iinc 1 1, 3) := by decide +kernel
theorem dX9_expire_80 : decode cX9_expire 80 = .ok (.goto (-78), 3) := by decide +kernel
theorem dX9_expire_83 : decode cX9_expire 83 = .ok (.return_, 1) := by decide +kernel
set_option maxRecDepth 20000 in
theorem ggX9_hour_X9_melt : GoodIn wsX9_hour wsX9_melt := goodIn_r _ [6, 1, 7, 8, 9, 5, 10, 11, 12, 13, 14, 15, 16, 17, 18, 19, 20, 21, 22, 23, 101, 102, 103, 104, 105, 106, 107, 108, 109, 110, 111, 112, 113] (by decide +kernel) (by decide +kernel)
set_option maxRecDepth 20000 in
theorem gX9_hour_X9_melt : GoodIn wsX9_hour (wsV RX9 169 RX9 yX9_melt wsX9_melt) := goodIn_app (goodIn_of _ (by decide +kernel)) ggX9_hour_X9_melt
set_option maxRecDepth 20000 in
theorem ggX9_hour_X9_produce : GoodIn wsX9_hour wsX9_produce := goodIn_r _ [27, 1, 28, 29, 30, 5, 31, 101, 102, 103, 104, 105, 106, 107, 108, 109, 110, 111, 112, 113] (by decide +kernel) (by decide +kernel)
set_option maxRecDepth 20000 in
theorem gX9_hour_X9_produce : GoodIn wsX9_hour (wsV RX9 172 RX9 yX9_produce wsX9_produce) := goodIn_app (goodIn_of _ (by decide +kernel)) ggX9_hour_X9_produce
set_option maxRecDepth 20000 in
theorem ggX9_hour_X9_deliver : GoodIn wsX9_hour wsX9_deliver := goodIn_r _ [35, 1, 36, 37, 38, 39, 5, 40, 41, 42, 43, 44, 45, 46, 47, 48, 13, 49, 50, 51, 52, 53, 54, 55, 56, 57, 58, 59, 60, 61, 62, 63, 64, 65, 66, 67, 68, 69, 70, 71, 72, 73, 19, 74, 75, 76, 77, 78, 79, 80, 81, 82, 12, 20, 21, 22, 23, 83, 84, 85, 86, 87, 88, 89, 90, 91, 92, 93, 94, 95, 96, 101, 102, 103, 104, 105, 106, 107, 108, 109, 110, 111, 112, 113] (by decide +kernel) (by decide +kernel)
set_option maxRecDepth 20000 in
theorem gX9_hour_X9_deliver : GoodIn wsX9_hour (wsV RX9 175 RX9 yX9_deliver wsX9_deliver) := goodIn_app (goodIn_of _ (by decide +kernel)) ggX9_hour_X9_deliver
set_option maxRecDepth 20000 in
theorem ggX9_hour_X9_expire : GoodIn wsX9_hour wsX9_expire := goodIn_r _ [100, 1, 13, 101, 102, 103, 104, 105, 106, 107, 108, 109, 110, 111, 112, 113] (by decide +kernel) (by decide +kernel)
set_option maxRecDepth 20000 in
theorem gX9_hour_X9_expire : GoodIn wsX9_hour (wsV RX9 178 RX9 yX9_expire wsX9_expire) := goodIn_app (goodIn_of _ (by decide +kernel)) ggX9_hour_X9_expire
