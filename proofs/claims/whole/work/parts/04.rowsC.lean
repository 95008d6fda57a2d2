theorem dX9_init_0 : decode cX9_init 0 = .ok (.aload_n 0, 1) := by decide +kernel
theorem dX9_init_1 : decode cX9_init 1 = .ok (.invokespecial 1, 3) := by decide +kernel
theorem dX9_init_4 : decode cX9_init 4 = .ok (.aload_n 0, 1) := by decide +kernel
theorem dX9_init_5 : decode cX9_init 5 = .ok (.sipush 1888, 3) := by decide +kernel
theorem dX9_init_8 : decode cX9_init 8 = .ok (.newarray .long, 2) := by decide +kernel
theorem dX9_init_10 : decode cX9_init 10 = .ok (.putfield 7, 3) := by decide +kernel
theorem dX9_init_13 : decode cX9_init 13 = .ok (.aload_n 0, 1) := by decide +kernel
theorem dX9_init_14 : decode cX9_init 14 = .ok (.sipush 15104, 3) := by decide +kernel
theorem dX9_init_17 : decode cX9_init 17 = .ok (.newarray .long, 2) := by decide +kernel
theorem dX9_init_19 : decode cX9_init 19 = .ok (.putfield 13, 3) := by decide +kernel
theorem dX9_init_22 : decode cX9_init 22 = .ok (.aload_n 0, 1) := by decide +kernel
theorem dX9_init_23 : decode cX9_init 23 = .ok (.sipush 1888, 3) := by decide +kernel
theorem dX9_init_26 : decode cX9_init 26 = .ok (.newarray .long, 2) := by decide +kernel
theorem dX9_init_28 : decode cX9_init 28 = .ok (.putfield 16, 3) := by decide +kernel
theorem dX9_init_31 : decode cX9_init 31 = .ok (.aload_n 0, 1) := by decide +kernel
theorem dX9_init_32 : decode cX9_init 32 = .ok (.bipush 20, 2) := by decide +kernel
theorem dX9_init_34 : decode cX9_init 34 = .ok (.newarray .int, 2) := by decide +kernel
theorem dX9_init_36 : decode cX9_init 36 = .ok (.putfield 19, 3) := by decide +kernel
theorem dX9_init_39 : decode cX9_init 39 = .ok (.aload_n 0, 1) := by decide +kernel
theorem dX9_init_40 : decode cX9_init 40 = .ok (.bipush 120, 2) := by decide +kernel
theorem dX9_init_42 : decode cX9_init 42 = .ok (.newarray .int, 2) := by decide +kernel
theorem dX9_init_44 : decode cX9_init 44 = .ok (.putfield 23, 3) := by decide +kernel
theorem dX9_init_47 : decode cX9_init 47 = .ok (.aload_n 0, 1) := by decide +kernel
theorem dX9_init_48 : decode cX9_init 48 = .ok (.iconst 3, 1) := by decide +kernel
theorem dX9_init_49 : decode cX9_init 49 = .ok (.newarray .int, 2) := by decide +kernel
theorem dX9_init_51 : decode cX9_init 51 = .ok (.putfield 26, 3) := by decide +kernel
theorem dX9_init_54 : decode cX9_init 54 = .ok (.aload_n 0, 1) := by decide +kernel
theorem dX9_init_55 : decode cX9_init 55 = .ok (.getfield 7, 3) := by decide +kernel
theorem dX9_init_58 : decode cX9_init 58 = .ok (.iconst 0, 1) := by decide +kernel
theorem dX9_init_59 : decode cX9_init 59 = .ok (.ldc2_w 29, 3) := by decide +kernel
theorem dX9_init_62 : decode cX9_init 62 = .ok (.lastore, 1) := by decide +kernel
theorem dX9_init_63 : decode cX9_init 63 = .ok (.aload_n 0, 1) := by decide +kernel
theorem dX9_init_64 : decode cX9_init 64 = .ok (.getfield 7, 3) := by decide +kernel
theorem dX9_init_67 : decode cX9_init 67 = .ok (.iconst 1, 1) := by decide +kernel
theorem dX9_init_68 : decode cX9_init 68 = .ok (.ldc2_w 31, 3) := by decide +kernel
theorem dX9_init_71 : decode cX9_init 71 = .ok (.lastore, 1) := by decide +kernel
theorem dX9_init_72 : decode cX9_init 72 = .ok (.aload_n 0, 1) := by decide +kernel
theorem dX9_init_73 : decode cX9_init 73 = .ok (.getfield 7, 3) := by decide +kernel
theorem dX9_init_76 : decode cX9_init 76 = .ok (.iconst 3, 1) := by decide +kernel
theorem dX9_init_77 : decode cX9_init 77 = .ok (.ldc2_w 33, 3) := by decide +kernel
theorem dX9_init_80 : decode cX9_init 80 = .ok (.lastore, 1) := by decide +kernel
theorem dX9_init_81 : decode cX9_init 81 = .ok (.aload_n 0, 1) := by decide +kernel
theorem dX9_init_82 : decode cX9_init 82 = .ok (.getfield 7, 3) := by decide +kernel
theorem dX9_init_85 : decode cX9_init 85 = .ok (.iconst 4, 1) := by decide +kernel
theorem dX9_init_86 : decode cX9_init 86 = .ok (.ldc2_w 35, 3) := by decide +kernel
theorem dX9_init_89 : decode cX9_init 89 = .ok (.lastore, 1) := by decide +kernel
theorem dX9_init_90 : decode cX9_init 90 = .ok (.aload_n 0, 1) := by decide +kernel
theorem dX9_init_91 : decode cX9_init 91 = .ok (.getfield 7, 3) := by decide +kernel
theorem dX9_init_94 : decode cX9_init 94 = .ok (.iconst 5, 1) := by decide +kernel
theorem dX9_init_95 : decode cX9_init 95 = .ok (.ldc2_w 37, 3) := by decide +kernel
theorem dX9_init_98 : decode cX9_init 98 = .ok (.lastore, 1) := by decide +kernel
theorem dX9_init_99 : decode cX9_init 99 = .ok (.aload_n 0, 1) := by decide +kernel
theorem dX9_init_100 : decode cX9_init 100 = .ok (.getfield 7, 3) := by decide +kernel
theorem dX9_init_103 : decode cX9_init 103 = .ok (.bipush 6, 2) := by decide +kernel
theorem dX9_init_105 : decode cX9_init 105 = .ok (.ldc2_w 39, 3) := by decide +kernel
theorem dX9_init_108 : decode cX9_init 108 = .ok (.lastore, 1) := by decide +kernel
theorem dX9_init_109 : decode cX9_init 109 = .ok (.aload_n 0, 1) := by decide +kernel
theorem dX9_init_110 : decode cX9_init 110 = .ok (.getfield 7, 3) := by decide +kernel
theorem dX9_init_113 : decode cX9_init 113 = .ok (.bipush 7, 2) := by decide +kernel
theorem dX9_init_115 : decode cX9_init 115 = .ok (.ldc2_w 41, 3) := by decide +kernel
theorem dX9_init_118 : decode cX9_init 118 = .ok (.lastore, 1) := by decide +kernel
theorem dX9_init_119 : decode cX9_init 119 = .ok (.iconst 0, 1) := by decide +kernel
theorem dX9_init_120 : decode cX9_init 120 = .ok (.istore_n 1, 1) := by decide +kernel
theorem dX9_init_121 : decode cX9_init 121 = .ok (.iload_n 1, 1) := by decide +kernel
theorem dX9_init_122 : decode cX9_init 122 = .ok (.bipush 24, 2) := by decide +kernel
theorem dX9_init_124 : decode cX9_init 124 = .ok (.if_icmp .ge 21, 3) := by decide +kernel
theorem dX9_init_127 : decode cX9_init 127 = .ok (.aload_n 0, 1) := by decide +kernel
theorem dX9_init_128 : decode cX9_init 128 = .ok (.getfield 7, 3) := by decide +kernel
theorem dX9_init_131 : decode cX9_init 131 = .ok (.bipush 8, 2) := by decide +kernel
theorem dX9_init_133 : decode cX9_init 133 = .ok (.iload_n 1, 1) := by decide +kernel
theorem dX9_init_134 : decode cX9_init 134 = .ok (.iadd, 1) := by decide +kernel
theorem dX9_init_135 : decode cX9_init 135 = .ok (.ldc2_w 41, 3) := by decide +kernel
theorem dX9_init_138 : decode cX9_init 138 = .ok (.lastore, 1) := by decide +kernel
theorem dX9_init_139 : decode cX9_init 139 = .ok (.iinc 1 1, 3) := by decide +kernel
theorem dX9_init_142 : decode cX9_init 142 = .ok (.goto (-21), 3) := by decide +kernel
theorem dX9_init_145 : decode cX9_init 145 = .ok (.return_, 1) := by decide +kernel
theorem dX9_thrown_0 : decode cX9_thrown 0 = .ok (.aload_n 0, 1) := by decide +kernel
theorem dX9_thrown_1 : decode cX9_thrown 1 = .ok (.getfield 43, 3) := by decide +kernel
theorem dX9_thrown_4 : decode cX9_thrown 4 = .ok (.ireturn, 1) := by decide +kernel
theorem dX9_refuse_0 : decode cX9_refuse 0 = .ok (.aload_n 0, 1) := by decide +kernel
theorem dX9_refuse_1 : decode cX9_refuse 1 = .ok (.iload_n 1, 1) := by decide +kernel
theorem dX9_refuse_2 : decode cX9_refuse 2 = .ok (.putfield 43, 3) := by decide +kernel
theorem dX9_refuse_5 : decode cX9_refuse 5 = .ok (.iconst 0, 1) := by decide +kernel
theorem dX9_refuse_6 : decode cX9_refuse 6 = .ok (.ireturn, 1) := by decide +kernel
theorem dX9_in_0 : decode cX9_in 0 = .ok (.lload_n 0, 1) := by decide +kernel
theorem dX9_in_1 : decode cX9_in 1 = .ok (.lload_n 2, 1) := by decide +kernel
theorem dX9_in_2 : decode cX9_in 2 = .ok (.lcmp, 1) := by decide +kernel
theorem dX9_in_3 : decode cX9_in 3 = .ok (.ifCond .lt 14, 3) := by decide +kernel
theorem dX9_in_6 : decode cX9_in 6 = .ok (.lload_n 0, 1) := by decide +kernel
theorem dX9_in_7 : decode cX9_in 7 = .ok (.lload 4, 2) := by decide +kernel
theorem dX9_in_9 : decode cX9_in 9 = .ok (.lcmp, 1) := by decide +kernel
theorem dX9_in_10 : decode cX9_in 10 = .ok (.ifCond .gt 7, 3) := by decide +kernel
theorem dX9_in_13 : decode cX9_in 13 = .ok (.iconst 1, 1) := by decide +kernel
theorem dX9_in_14 : decode cX9_in 14 = .ok (.goto 4, 3) := by decide +kernel
theorem dX9_in_17 : decode cX9_in 17 = .ok (.iconst 0, 1) := by decide +kernel
theorem dX9_in_18 : decode cX9_in 18 = .ok (.ireturn, 1) := by decide +kernel
theorem dX9_isSilo_0 : decode cX9_isSilo 0 = .ok (.iload_n 1, 1) := by decide +kernel
theorem dX9_isSilo_1 : decode cX9_isSilo 1 = .ok (.i2l, 1) := by decide +kernel
theorem dX9_isSilo_2 : decode cX9_isSilo 2 = .ok (.lconst 0, 1) := by decide +kernel
theorem dX9_isSilo_3 : decode cX9_isSilo 3 = .ok (.aload_n 0, 1) := by decide +kernel
theorem dX9_isSilo_4 : decode cX9_isSilo 4 = .ok (.getfield 7, 3) := by decide +kernel
theorem dX9_isSilo_7 : decode cX9_isSilo 7 = .ok (.sipush 1880, 3) := by decide +kernel
theorem dX9_isSilo_10 : decode cX9_isSilo 10 = .ok (.laload, 1) := by decide +kernel
theorem dX9_isSilo_11 : decode cX9_isSilo 11 = .ok (.lconst 1, 1) := by decide +kernel
theorem dX9_isSilo_12 : decode cX9_isSilo 12 = .ok (.lsub, 1) := by decide +kernel
theorem dX9_isSilo_13 : decode cX9_isSilo 13 = .ok (.invokestatic 47, 3) := by decide +kernel
theorem dX9_isSilo_16 : decode cX9_isSilo 16 = .ok (.ireturn, 1) := by decide +kernel
theorem dX9_isBoat_0 : decode cX9_isBoat 0 = .ok (.iload_n 1, 1) := by decide +kernel
theorem dX9_isBoat_1 : decode cX9_isBoat 1 = .ok (.i2l, 1) := by decide +kernel
theorem dX9_isBoat_2 : decode cX9_isBoat 2 = .ok (.lconst 0, 1) := by decide +kernel
theorem dX9_isBoat_3 : decode cX9_isBoat 3 = .ok (.aload_n 0, 1) := by decide +kernel
theorem dX9_isBoat_4 : decode cX9_isBoat 4 = .ok (.getfield 7, 3) := by decide +kernel
theorem dX9_isBoat_7 : decode cX9_isBoat 7 = .ok (.sipush 1881, 3) := by decide +kernel
theorem dX9_isBoat_10 : decode cX9_isBoat 10 = .ok (.laload, 1) := by decide +kernel
theorem dX9_isBoat_11 : decode cX9_isBoat 11 = .ok (.lconst 1, 1) := by decide +kernel
theorem dX9_isBoat_12 : decode cX9_isBoat 12 = .ok (.lsub, 1) := by decide +kernel
theorem dX9_isBoat_13 : decode cX9_isBoat 13 = .ok (.invokestatic 47, 3) := by decide +kernel
theorem dX9_isBoat_16 : decode cX9_isBoat 16 = .ok (.ireturn, 1) := by decide +kernel
theorem dX9_isOrder_0 : decode cX9_isOrder 0 = .ok (.iload_n 1, 1) := by decide +kernel
theorem dX9_isOrder_1 : decode cX9_isOrder 1 = .ok (.i2l, 1) := by decide +kernel
theorem dX9_isOrder_2 : decode cX9_isOrder 2 = .ok (.lconst 0, 1) := by decide +kernel
theorem dX9_isOrder_3 : decode cX9_isOrder 3 = .ok (.aload_n 0, 1) := by decide +kernel
theorem dX9_isOrder_4 : decode cX9_isOrder 4 = .ok (.getfield 7, 3) := by decide +kernel
theorem dX9_isOrder_7 : decode cX9_isOrder 7 = .ok (.sipush 1882, 3) := by decide +kernel
theorem dX9_isOrder_10 : decode cX9_isOrder 10 = .ok (.laload, 1) := by decide +kernel
theorem dX9_isOrder_11 : decode cX9_isOrder 11 = .ok (.lconst 1, 1) := by decide +kernel
theorem dX9_isOrder_12 : decode cX9_isOrder 12 = .ok (.lsub, 1) := by decide +kernel
theorem dX9_isOrder_13 : decode cX9_isOrder 13 = .ok (.invokestatic 47, 3) := by decide +kernel
theorem dX9_isOrder_16 : decode cX9_isOrder 16 = .ok (.ireturn, 1) := by decide +kernel
theorem dX9_save_0 : decode cX9_save 0 = .ok (.aload_n 0, 1) := by decide +kernel
theorem dX9_save_1 : decode cX9_save 1 = .ok (.getfield 51, 3) := by decide +kernel
theorem dX9_save_4 : decode cX9_save 4 = .ok (.bipush 8, 2) := by decide +kernel
theorem dX9_save_6 : decode cX9_save 6 = .ok (.if_icmp .ne 44, 3) := by decide +kernel
theorem dX9_save_9 : decode cX9_save 9 = .ok (.iconst 0, 1) := by decide +kernel
theorem dX9_save_10 : decode cX9_save 10 = .ok (.istore_n 1, 1) := by decide +kernel
theorem dX9_save_11 : decode cX9_save 11 = .ok (.iload_n 1, 1) := by decide +kernel
theorem dX9_save_12 : decode cX9_save 12 = .ok (.sipush 13216, 3) := by decide +kernel
theorem dX9_save_15 : decode cX9_save 15 = .ok (.if_icmp .ge 25, 3) := by decide +kernel
theorem dX9_save_18 : decode cX9_save 18 = .ok (.aload_n 0, 1) := by decide +kernel
theorem dX9_save_19 : decode cX9_save 19 = .ok (.getfield 13, 3) := by decide +kernel
theorem dX9_save_22 : decode cX9_save 22 = .ok (.iload_n 1, 1) := by decide +kernel
theorem dX9_save_23 : decode cX9_save 23 = .ok (.aload_n 0, 1) := by decide +kernel
theorem dX9_save_24 : decode cX9_save 24 = .ok (.getfield 13, 3) := by decide +kernel
theorem dX9_save_27 : decode cX9_save 27 = .ok (.iload_n 1, 1) := by decide +kernel
theorem dX9_save_28 : decode cX9_save 28 = .ok (.sipush 1888, 3) := by decide +kernel
theorem dX9_save_31 : decode cX9_save 31 = .ok (.iadd, 1) := by decide +kernel
theorem dX9_save_32 : decode cX9_save 32 = .ok (.laload, 1) := by decide +kernel
theorem dX9_save_33 : decode cX9_save 33 = .ok (.lastore, 1) := by decide +kernel
theorem dX9_save_34 : decode cX9_save 34 = .ok (.iinc 1 1, 3) := by decide +kernel
theorem dX9_save_37 : decode cX9_save 37 = .ok (.goto (-26), 3) := by decide +kernel
theorem dX9_save_40 : decode cX9_save 40 = .ok (.aload_n 0, 1) := by decide +kernel
theorem dX9_save_41 : decode cX9_save 41 = .ok (.dup, 1) := by decide +kernel
theorem dX9_save_42 : decode cX9_save 42 = .ok (.getfield 51, 3) := by decide +kernel
theorem dX9_save_45 : decode cX9_save 45 = .ok (.iconst 1, 1) := by decide +kernel
theorem dX9_save_46 : decode cX9_save 46 = .ok (.isub, 1) := by decide +kernel
theorem dX9_save_47 : decode cX9_save 47 = .ok (.putfield 51, 3) := by decide +kernel
theorem dX9_save_50 : decode cX9_save 50 = .ok (.iconst 0, 1) := by decide +kernel
theorem dX9_save_51 : decode cX9_save 51 = .ok (.istore_n 1, 1) := by decide +kernel
theorem dX9_save_52 : decode cX9_save 52 = .ok (.iload_n 1, 1) := by decide +kernel
theorem dX9_save_53 : decode cX9_save 53 = .ok (.sipush 1888, 3) := by decide +kernel
theorem dX9_save_56 : decode cX9_save 56 = .ok (.if_icmp .ge 30, 3) := by decide +kernel
theorem dX9_save_59 : decode cX9_save 59 = .ok (.aload_n 0, 1) := by decide +kernel
theorem dX9_save_60 : decode cX9_save 60 = .ok (.getfield 13, 3) := by decide +kernel
theorem dX9_save_63 : decode cX9_save 63 = .ok (.aload_n 0, 1) := by decide +kernel
theorem dX9_save_64 : decode cX9_save 64 = .ok (.getfield 51, 3) := by decide +kernel
theorem dX9_save_67 : decode cX9_save 67 = .ok (.sipush 1888, 3) := by decide +kernel
theorem dX9_save_70 : decode cX9_save 70 = .ok (.imul, 1) := by decide +kernel
theorem dX9_save_71 : decode cX9_save 71 = .ok (.iload_n 1, 1) := by decide +kernel
theorem dX9_save_72 : decode cX9_save 72 = .ok (.iadd, 1) := by decide +kernel
theorem dX9_save_73 : decode cX9_save 73 = .ok (.aload_n 0, 1) := by decide +kernel
theorem dX9_save_74 : decode cX9_save 74 = .ok (.getfield 7, 3) := by decide +kernel
theorem dX9_save_77 : decode cX9_save 77 = .ok (.iload_n 1, 1) := by decide +kernel
theorem dX9_save_78 : decode cX9_save 78 = .ok (.laload, 1) := by decide +kernel
theorem dX9_save_79 : decode cX9_save 79 = .ok (.lastore, 1) := by decide +kernel
theorem dX9_save_80 : decode cX9_save 80 = .ok (.iinc 1 1, 3) := by decide +kernel
theorem dX9_save_83 : decode cX9_save 83 = .ok (.goto (-31), 3) := by decide +kernel
theorem dX9_save_86 : decode cX9_save 86 = .ok (.aload_n 0, 1) := by decide +kernel
theorem dX9_save_87 : decode cX9_save 87 = .ok (.dup, 1) := by decide +kernel
theorem dX9_save_88 : decode cX9_save 88 = .ok (.getfield 51, 3) := by decide +kernel
theorem dX9_save_91 : decode cX9_save 91 = .ok (.iconst 1, 1) := by decide +kernel
theorem dX9_save_92 : decode cX9_save 92 = .ok (.iadd, 1) := by decide +kernel
theorem dX9_save_93 : decode cX9_save 93 = .ok (.putfield 51, 3) := by decide +kernel
theorem dX9_save_96 : decode cX9_save 96 = .ok (.return_, 1) := by decide +kernel
theorem dX9_addSilo_0 : decode cX9_addSilo 0 = .ok (.aload_n 0, 1) := by decide +kernel
theorem dX9_addSilo_1 : decode cX9_addSilo 1 = .ok (.iconst 0, 1) := by decide +kernel
theorem dX9_addSilo_2 : decode cX9_addSilo 2 = .ok (.putfield 43, 3) := by decide +kernel
theorem dX9_addSilo_5 : decode cX9_addSilo 5 = .ok (.iload_n 1, 1) := by decide +kernel
theorem dX9_addSilo_6 : decode cX9_addSilo 6 = .ok (.i2l, 1) := by decide +kernel
theorem dX9_addSilo_7 : decode cX9_addSilo 7 = .ok (.lconst 1, 1) := by decide +kernel
theorem dX9_addSilo_8 : decode cX9_addSilo 8 = .ok (.ldc2_w 54, 3) := by decide +kernel
theorem dX9_addSilo_11 : decode cX9_addSilo 11 = .ok (.invokestatic 47, 3) := by decide +kernel
theorem dX9_addSilo_14 : decode cX9_addSilo 14 = .ok (.ifCond .eq 27, 3) := by decide +kernel
theorem dX9_addSilo_17 : decode cX9_addSilo 17 = .ok (.iload_n 2, 1) := by decide +kernel
theorem dX9_addSilo_18 : decode cX9_addSilo 18 = .ok (.i2l, 1) := by decide +kernel
theorem dX9_addSilo_19 : decode cX9_addSilo 19 = .ok (.lconst 0, 1) := by decide +kernel
theorem dX9_addSilo_20 : decode cX9_addSilo 20 = .ok (.ldc2_w 56, 3) := by decide +kernel
theorem dX9_addSilo_23 : decode cX9_addSilo 23 = .ok (.invokestatic 47, 3) := by decide +kernel
theorem dX9_addSilo_26 : decode cX9_addSilo 26 = .ok (.ifCond .eq 15, 3) := by decide +kernel
theorem dX9_addSilo_29 : decode cX9_addSilo 29 = .ok (.iload_n 3, 1) := by decide +kernel
theorem dX9_addSilo_30 : decode cX9_addSilo 30 = .ok (.i2l, 1) := by decide +kernel
theorem dX9_addSilo_31 : decode cX9_addSilo 31 = .ok (.lconst 0, 1) := by decide +kernel
theorem dX9_addSilo_32 : decode cX9_addSilo 32 = .ok (.ldc2_w 58, 3) := by decide +kernel
theorem dX9_addSilo_35 : decode cX9_addSilo 35 = .ok (.invokestatic 47, 3) := by decide +kernel
theorem dX9_addSilo_38 : decode cX9_addSilo 38 = .ok (.ifCond .ne 9, 3) := by decide +kernel
theorem dX9_addSilo_41 : decode cX9_addSilo 41 = .ok (.aload_n 0, 1) := by decide +kernel
theorem dX9_addSilo_42 : decode cX9_addSilo 42 = .ok (.iconst 1, 1) := by decide +kernel
theorem dX9_addSilo_43 : decode cX9_addSilo 43 = .ok (.invokevirtual 60, 3) := by decide +kernel
theorem dX9_addSilo_46 : decode cX9_addSilo 46 = .ok (.ireturn, 1) := by decide +kernel
theorem dX9_addSilo_47 : decode cX9_addSilo 47 = .ok (.aload_n 0, 1) := by decide +kernel
theorem dX9_addSilo_48 : decode cX9_addSilo 48 = .ok (.getfield 7, 3) := by decide +kernel
theorem dX9_addSilo_51 : decode cX9_addSilo 51 = .ok (.sipush 1880, 3) := by decide +kernel
theorem dX9_addSilo_54 : decode cX9_addSilo 54 = .ok (.laload, 1) := by decide +kernel
theorem dX9_addSilo_55 : decode cX9_addSilo 55 = .ok (.ldc2_w 64, 3) := by decide +kernel
theorem dX9_addSilo_58 : decode cX9_addSilo 58 = .ok (.lcmp, 1) := by decide +kernel
theorem dX9_addSilo_59 : decode cX9_addSilo 59 = .ok (.ifCond .ne 9, 3) := by decide +kernel
theorem dX9_addSilo_62 : decode cX9_addSilo 62 = .ok (.aload_n 0, 1) := by decide +kernel
theorem dX9_addSilo_63 : decode cX9_addSilo 63 = .ok (.iconst 2, 1) := by decide +kernel
theorem dX9_addSilo_64 : decode cX9_addSilo 64 = .ok (.invokevirtual 60, 3) := by decide +kernel
theorem dX9_addSilo_67 : decode cX9_addSilo 67 = .ok (.ireturn, 1) := by decide +kernel
theorem dX9_addSilo_68 : decode cX9_addSilo 68 = .ok (.aload_n 0, 1) := by decide +kernel
theorem dX9_addSilo_69 : decode cX9_addSilo 69 = .ok (.invokevirtual 66, 3) := by decide +kernel
theorem dX9_addSilo_72 : decode cX9_addSilo 72 = .ok (.aload_n 0, 1) := by decide +kernel
theorem dX9_addSilo_73 : decode cX9_addSilo 73 = .ok (.getfield 7, 3) := by decide +kernel
theorem dX9_addSilo_76 : decode cX9_addSilo 76 = .ok (.sipush 1880, 3) := by decide +kernel
theorem dX9_addSilo_79 : decode cX9_addSilo 79 = .ok (.laload, 1) := by decide +kernel
theorem dX9_addSilo_80 : decode cX9_addSilo 80 = .ok (.l2i, 1) := by decide +kernel
theorem dX9_addSilo_81 : decode cX9_addSilo 81 = .ok (.istore 4, 2) := by decide +kernel
theorem dX9_addSilo_83 : decode cX9_addSilo 83 = .ok (.aload_n 0, 1) := by decide +kernel
theorem dX9_addSilo_84 : decode cX9_addSilo 84 = .ok (.getfield 7, 3) := by decide +kernel
theorem dX9_addSilo_87 : decode cX9_addSilo 87 = .ok (.bipush 32, 2) := by decide +kernel
theorem dX9_addSilo_89 : decode cX9_addSilo 89 = .ok (.iload 4, 2) := by decide +kernel
theorem dX9_addSilo_91 : decode cX9_addSilo 91 = .ok (.iadd, 1) := by decide +kernel
theorem dX9_addSilo_92 : decode cX9_addSilo 92 = .ok (.iload_n 1, 1) := by decide +kernel
theorem dX9_addSilo_93 : decode cX9_addSilo 93 = .ok (.i2l, 1) := by decide +kernel
theorem dX9_addSilo_94 : decode cX9_addSilo 94 = .ok (.lastore, 1) := by decide +kernel
theorem dX9_addSilo_95 : decode cX9_addSilo 95 = .ok (.aload_n 0, 1) := by decide +kernel
theorem dX9_addSilo_96 : decode cX9_addSilo 96 = .ok (.getfield 7, 3) := by decide +kernel
theorem dX9_addSilo_99 : decode cX9_addSilo 99 = .ok (.bipush 37, 2) := by decide +kernel
theorem dX9_addSilo_101 : decode cX9_addSilo 101 = .ok (.iload 4, 2) := by decide +kernel
theorem dX9_addSilo_103 : decode cX9_addSilo 103 = .ok (.iadd, 1) := by decide +kernel
theorem dX9_addSilo_104 : decode cX9_addSilo 104 = .ok (.iload_n 2, 1) := by decide +kernel
theorem dX9_addSilo_105 : decode cX9_addSilo 105 = .ok (.i2l, 1) := by decide +kernel
theorem dX9_addSilo_106 : decode cX9_addSilo 106 = .ok (.lastore, 1) := by decide +kernel
theorem dX9_addSilo_107 : decode cX9_addSilo 107 = .ok (.aload_n 0, 1) := by decide +kernel
theorem dX9_addSilo_108 : decode cX9_addSilo 108 = .ok (.getfield 7, 3) := by decide +kernel
theorem dX9_addSilo_111 : decode cX9_addSilo 111 = .ok (.bipush 42, 2) := by decide +kernel
theorem dX9_addSilo_113 : decode cX9_addSilo 113 = .ok (.iload 4, 2) := by decide +kernel
theorem dX9_addSilo_115 : decode cX9_addSilo 115 = .ok (.iadd, 1) := by decide +kernel
theorem dX9_addSilo_116 : decode cX9_addSilo 116 = .ok (.iload_n 3, 1) := by decide +kernel
theorem dX9_addSilo_117 : decode cX9_addSilo 117 = .ok (.i2l, 1) := by decide +kernel
theorem dX9_addSilo_118 : decode cX9_addSilo 118 = .ok (.lastore, 1) := by decide +kernel
theorem dX9_addSilo_119 : decode cX9_addSilo 119 = .ok (.aload_n 0, 1) := by decide +kernel
theorem dX9_addSilo_120 : decode cX9_addSilo 120 = .ok (.getfield 7, 3) := by decide +kernel
theorem dX9_addSilo_123 : decode cX9_addSilo 123 = .ok (.sipush 1880, 3) := by decide +kernel
theorem dX9_addSilo_126 : decode cX9_addSilo 126 = .ok (.dup2, 1) := by decide +kernel
theorem dX9_addSilo_127 : decode cX9_addSilo 127 = .ok (.laload, 1) := by decide +kernel
theorem dX9_addSilo_128 : decode cX9_addSilo 128 = .ok (.lconst 1, 1) := by decide +kernel
theorem dX9_addSilo_129 : decode cX9_addSilo 129 = .ok (.ladd, 1) := by decide +kernel
theorem dX9_addSilo_130 : decode cX9_addSilo 130 = .ok (.lastore, 1) := by decide +kernel
theorem dX9_addSilo_131 : decode cX9_addSilo 131 = .ok (.iload 4, 2) := by decide +kernel
theorem dX9_addSilo_133 : decode cX9_addSilo 133 = .ok (.ireturn, 1) := by decide +kernel
theorem dX9_change_0 : decode cX9_change 0 = .ok (.aload_n 0, 1) := by decide +kernel
theorem dX9_change_1 : decode cX9_change 1 = .ok (.invokevirtual 66, 3) := by decide +kernel
theorem dX9_change_4 : decode cX9_change 4 = .ok (.aload_n 0, 1) := by decide +kernel
theorem dX9_change_5 : decode cX9_change 5 = .ok (.getfield 7, 3) := by decide +kernel
theorem dX9_change_8 : decode cX9_change 8 = .ok (.iload_n 1, 1) := by decide +kernel
theorem dX9_change_9 : decode cX9_change 9 = .ok (.laload, 1) := by decide +kernel
theorem dX9_change_10 : decode cX9_change 10 = .ok (.l2i, 1) := by decide +kernel
theorem dX9_change_11 : decode cX9_change 11 = .ok (.istore_n 3, 1) := by decide +kernel
theorem dX9_change_12 : decode cX9_change 12 = .ok (.aload_n 0, 1) := by decide +kernel
theorem dX9_change_13 : decode cX9_change 13 = .ok (.getfield 7, 3) := by decide +kernel
theorem dX9_change_16 : decode cX9_change 16 = .ok (.iload_n 1, 1) := by decide +kernel
theorem dX9_change_17 : decode cX9_change 17 = .ok (.iload_n 2, 1) := by decide +kernel
theorem dX9_change_18 : decode cX9_change 18 = .ok (.i2l, 1) := by decide +kernel
theorem dX9_change_19 : decode cX9_change 19 = .ok (.lastore, 1) := by decide +kernel
theorem dX9_change_20 : decode cX9_change 20 = .ok (.iload_n 3, 1) := by decide +kernel
theorem dX9_change_21 : decode cX9_change 21 = .ok (.ireturn, 1) := by decide +kernel
theorem dX9_setRule_0 : decode cX9_setRule 0 = .ok (.aload_n 0, 1) := by decide +kernel
theorem dX9_setRule_1 : decode cX9_setRule 1 = .ok (.iconst 0, 1) := by decide +kernel
theorem dX9_setRule_2 : decode cX9_setRule 2 = .ok (.putfield 43, 3) := by decide +kernel
theorem dX9_setRule_5 : decode cX9_setRule 5 = .ok (.aload_n 0, 1) := by decide +kernel
theorem dX9_setRule_6 : decode cX9_setRule 6 = .ok (.iload_n 1, 1) := by decide +kernel
theorem dX9_setRule_7 : decode cX9_setRule 7 = .ok (.invokevirtual 69, 3) := by decide +kernel
theorem dX9_setRule_10 : decode cX9_setRule 10 = .ok (.ifCond .ne 9, 3) := by decide +kernel
theorem dX9_setRule_13 : decode cX9_setRule 13 = .ok (.aload_n 0, 1) := by decide +kernel
theorem dX9_setRule_14 : decode cX9_setRule 14 = .ok (.iconst 1, 1) := by decide +kernel
theorem dX9_setRule_15 : decode cX9_setRule 15 = .ok (.invokevirtual 60, 3) := by decide +kernel
theorem dX9_setRule_18 : decode cX9_setRule 18 = .ok (.ireturn, 1) := by decide +kernel
theorem dX9_setRule_19 : decode cX9_setRule 19 = .ok (.iload_n 2, 1) := by decide +kernel
theorem dX9_setRule_20 : decode cX9_setRule 20 = .ok (.i2l, 1) := by decide +kernel
theorem dX9_setRule_21 : decode cX9_setRule 21 = .ok (.lconst 0, 1) := by decide +kernel
theorem dX9_setRule_22 : decode cX9_setRule 22 = .ok (.ldc2_w 56, 3) := by decide +kernel
theorem dX9_setRule_25 : decode cX9_setRule 25 = .ok (.invokestatic 47, 3) := by decide +kernel
theorem dX9_setRule_28 : decode cX9_setRule 28 = .ok (.ifCond .eq 15, 3) := by decide +kernel
theorem dX9_setRule_31 : decode cX9_setRule 31 = .ok (.aload_n 0, 1) := by decide +kernel
theorem dX9_setRule_32 : decode cX9_setRule 32 = .ok (.bipush 37, 2) := by decide +kernel
theorem dX9_setRule_34 : decode cX9_setRule 34 = .ok (.iload_n 1, 1) := by decide +kernel
theorem dX9_setRule_35 : decode cX9_setRule 35 = .ok (.iadd, 1) := by decide +kernel
theorem dX9_setRule_36 : decode cX9_setRule 36 = .ok (.iload_n 2, 1) := by decide +kernel
theorem dX9_setRule_37 : decode cX9_setRule 37 = .ok (.invokevirtual 73, 3) := by decide +kernel
theorem dX9_setRule_40 : decode cX9_setRule 40 = .ok (.goto 8, 3) := by decide +kernel
theorem dX9_setRule_43 : decode cX9_setRule 43 = .ok (.aload_n 0, 1) := by decide +kernel
theorem dX9_setRule_44 : decode cX9_setRule 44 = .ok (.iconst 2, 1) := by decide +kernel
theorem dX9_setRule_45 : decode cX9_setRule 45 = .ok (.invokevirtual 60, 3) := by decide +kernel
theorem dX9_setRule_48 : decode cX9_setRule 48 = .ok (.ireturn, 1) := by decide +kernel
theorem dX9_setStrength_0 : decode cX9_setStrength 0 = .ok (.aload_n 0, 1) := by decide +kernel
theorem dX9_setStrength_1 : decode cX9_setStrength 1 = .ok (.iconst 0, 1) := by decide +kernel
theorem dX9_setStrength_2 : decode cX9_setStrength 2 = .ok (.putfield 43, 3) := by decide +kernel
theorem dX9_setStrength_5 : decode cX9_setStrength 5 = .ok (.aload_n 0, 1) := by decide +kernel
theorem dX9_setStrength_6 : decode cX9_setStrength 6 = .ok (.iload_n 1, 1) := by decide +kernel
theorem dX9_setStrength_7 : decode cX9_setStrength 7 = .ok (.invokevirtual 69, 3) := by decide +kernel
theorem dX9_setStrength_10 : decode cX9_setStrength 10 = .ok (.ifCond .ne 9, 3) := by decide +kernel
theorem dX9_setStrength_13 : decode cX9_setStrength 13 = .ok (.aload_n 0, 1) := by decide +kernel
theorem dX9_setStrength_14 : decode cX9_setStrength 14 = .ok (.iconst 1, 1) := by decide +kernel
theorem dX9_setStrength_15 : decode cX9_setStrength 15 = .ok (.invokevirtual 60, 3) := by decide +kernel
theorem dX9_setStrength_18 : decode cX9_setStrength 18 = .ok (.ireturn, 1) := by decide +kernel
theorem dX9_setStrength_19 : decode cX9_setStrength 19 = .ok (.iload_n 2, 1) := by decide +kernel
theorem dX9_setStrength_20 : decode cX9_setStrength 20 = .ok (.i2l, 1) := by decide +kernel
theorem dX9_setStrength_21 : decode cX9_setStrength 21 = .ok (.lconst 0, 1) := by decide +kernel
theorem dX9_setStrength_22 : decode cX9_setStrength 22 = .ok (.ldc2_w 58, 3) := by decide +kernel
theorem dX9_setStrength_25 : decode cX9_setStrength 25 = .ok (.invokestatic 47, 3) := by decide +kernel
theorem dX9_setStrength_28 : decode cX9_setStrength 28 = .ok (.ifCond .eq 15, 3) := by decide +kernel
theorem dX9_setStrength_31 : decode cX9_setStrength 31 = .ok (.aload_n 0, 1) := by decide +kernel
theorem dX9_setStrength_32 : decode cX9_setStrength 32 = .ok (.bipush 42, 2) := by decide +kernel
theorem dX9_setStrength_34 : decode cX9_setStrength 34 = .ok (.iload_n 1, 1) := by decide +kernel
theorem dX9_setStrength_35 : decode cX9_setStrength 35 = .ok (.iadd, 1) := by decide +kernel
theorem dX9_setStrength_36 : decode cX9_setStrength 36 = .ok (.iload_n 2, 1) := by decide +kernel
theorem dX9_setStrength_37 : decode cX9_setStrength 37 = .ok (.invokevirtual 73, 3) := by decide +kernel
theorem dX9_setStrength_40 : decode cX9_setStrength 40 = .ok (.goto 8, 3) := by decide +kernel
theorem dX9_setStrength_43 : decode cX9_setStrength 43 = .ok (.aload_n 0, 1) := by decide +kernel
theorem dX9_setStrength_44 : decode cX9_setStrength 44 = .ok (.iconst 2, 1) := by decide +kernel
theorem dX9_setStrength_45 : decode cX9_setStrength 45 = .ok (.invokevirtual 60, 3) := by decide +kernel
theorem dX9_setStrength_48 : decode cX9_setStrength 48 = .ok (.ireturn, 1) := by decide +kernel
theorem dX9_setTemperature_0 : decode cX9_setTemperature 0 = .ok (.aload_n 0, 1) := by decide +kernel
theorem dX9_setTemperature_1 : decode cX9_setTemperature 1 = .ok (.iconst 0, 1) := by decide +kernel
theorem dX9_setTemperature_2 : decode cX9_setTemperature 2 = .ok (.putfield 43, 3) := by decide +kernel
theorem dX9_setTemperature_5 : decode cX9_setTemperature 5 = .ok (.iload_n 1, 1) := by decide +kernel
theorem dX9_setTemperature_6 : decode cX9_setTemperature 6 = .ok (.i2l, 1) := by decide +kernel
theorem dX9_setTemperature_7 : decode cX9_setTemperature 7 = .ok (.lconst 0, 1) := by decide +kernel
theorem dX9_setTemperature_8 : decode cX9_setTemperature 8 = .ok (.ldc2_w 77, 3) := by decide +kernel
theorem dX9_setTemperature_11 : decode cX9_setTemperature 11 = .ok (.invokestatic 47, 3) := by decide +kernel
theorem dX9_setTemperature_14 : decode cX9_setTemperature 14 = .ok (.ifCond .ne 9, 3) := by decide +kernel
theorem dX9_setTemperature_17 : decode cX9_setTemperature 17 = .ok (.aload_n 0, 1) := by decide +kernel
theorem dX9_setTemperature_18 : decode cX9_setTemperature 18 = .ok (.iconst 1, 1) := by decide +kernel
theorem dX9_setTemperature_19 : decode cX9_setTemperature 19 = .ok (.invokevirtual 60, 3) := by decide +kernel
theorem dX9_setTemperature_22 : decode cX9_setTemperature 22 = .ok (.ireturn, 1) := by decide +kernel
theorem dX9_setTemperature_23 : decode cX9_setTemperature 23 = .ok (.iload_n 2, 1) := by decide +kernel
theorem dX9_setTemperature_24 : decode cX9_setTemperature 24 = .ok (.i2l, 1) := by decide +kernel
theorem dX9_setTemperature_25 : decode cX9_setTemperature 25 = .ok (.ldc2_w 79, 3) := by decide +kernel
theorem dX9_setTemperature_28 : decode cX9_setTemperature 28 = .ok (.ldc2_w 81, 3) := by decide +kernel
theorem dX9_setTemperature_31 : decode cX9_setTemperature 31 = .ok (.invokestatic 47, 3) := by decide +kernel
theorem dX9_setTemperature_34 : decode cX9_setTemperature 34 = .ok (.ifCond .eq 15, 3) := by decide +kernel
theorem dX9_setTemperature_37 : decode cX9_setTemperature 37 = .ok (.aload_n 0, 1) := by decide +kernel
theorem dX9_setTemperature_38 : decode cX9_setTemperature 38 = .ok (.bipush 8, 2) := by decide +kernel
theorem dX9_setTemperature_40 : decode cX9_setTemperature 40 = .ok (.iload_n 1, 1) := by decide +kernel
theorem dX9_setTemperature_41 : decode cX9_setTemperature 41 = .ok (.iadd, 1) := by decide +kernel
theorem dX9_setTemperature_42 : decode cX9_setTemperature 42 = .ok (.iload_n 2, 1) := by decide +kernel
theorem dX9_setTemperature_43 : decode cX9_setTemperature 43 = .ok (.invokevirtual 73, 3) := by decide +kernel
theorem dX9_setTemperature_46 : decode cX9_setTemperature 46 = .ok (.goto 8, 3) := by decide +kernel
theorem dX9_setTemperature_49 : decode cX9_setTemperature 49 = .ok (.aload_n 0, 1) := by decide +kernel
theorem dX9_setTemperature_50 : decode cX9_setTemperature 50 = .ok (.iconst 2, 1) := by decide +kernel
theorem dX9_setTemperature_51 : decode cX9_setTemperature 51 = .ok (.invokevirtual 60, 3) := by decide +kernel
theorem dX9_setTemperature_54 : decode cX9_setTemperature 54 = .ok (.ireturn, 1) := by decide +kernel
theorem dX9_least_0 : decode cX9_least 0 = .ok (.iload_n 0, 1) := by decide +kernel
theorem dX9_least_1 : decode cX9_least 1 = .ok (.ifCond .ne 7, 3) := by decide +kernel
theorem dX9_least_4 : decode cX9_least 4 = .ok (.iconst 1, 1) := by decide +kernel
theorem dX9_least_5 : decode cX9_least 5 = .ok (.goto 4, 3) := by decide +kernel
theorem dX9_least_8 : decode cX9_least 8 = .ok (.iconst 0, 1) := by decide +kernel
theorem dX9_least_9 : decode cX9_least 9 = .ok (.ireturn, 1) := by decide +kernel
theorem dX9_most_0 : decode cX9_most 0 = .ok (.iload_n 0, 1) := by decide +kernel
theorem dX9_most_1 : decode cX9_most 1 = .ok (.tableswitch 63 0 7 #[47, 51, 54, 63, 56, 56, 63, 60], 47) := by decide +kernel
theorem dX9_most_48 : decode cX9_most 48 = .ok (.sipush 200, 3) := by decide +kernel
theorem dX9_most_51 : decode cX9_most 51 = .ok (.ireturn, 1) := by decide +kernel
theorem dX9_most_52 : decode cX9_most 52 = .ok (.bipush 12, 2) := by decide +kernel
theorem dX9_most_54 : decode cX9_most 54 = .ok (.ireturn, 1) := by decide +kernel
theorem dX9_most_55 : decode cX9_most 55 = .ok (.iconst 3, 1) := by decide +kernel
theorem dX9_most_56 : decode cX9_most 56 = .ok (.ireturn, 1) := by decide +kernel
theorem dX9_most_57 : decode cX9_most 57 = .ok (.sipush 999, 3) := by decide +kernel
theorem dX9_most_60 : decode cX9_most 60 = .ok (.ireturn, 1) := by decide +kernel
theorem dX9_most_61 : decode cX9_most 61 = .ok (.bipush 100, 2) := by decide +kernel
theorem dX9_most_63 : decode cX9_most 63 = .ok (.ireturn, 1) := by decide +kernel
theorem dX9_most_64 : decode cX9_most 64 = .ok (.ldc 83, 2) := by decide +kernel
theorem dX9_most_66 : decode cX9_most 66 = .ok (.ireturn, 1) := by decide +kernel
theorem dX9_set_0 : decode cX9_set 0 = .ok (.aload_n 0, 1) := by decide +kernel
theorem dX9_set_1 : decode cX9_set 1 = .ok (.iconst 0, 1) := by decide +kernel
theorem dX9_set_2 : decode cX9_set 2 = .ok (.putfield 43, 3) := by decide +kernel
theorem dX9_set_5 : decode cX9_set 5 = .ok (.iload_n 1, 1) := by decide +kernel
theorem dX9_set_6 : decode cX9_set 6 = .ok (.i2l, 1) := by decide +kernel
theorem dX9_set_7 : decode cX9_set 7 = .ok (.lconst 0, 1) := by decide +kernel
theorem dX9_set_8 : decode cX9_set 8 = .ok (.ldc2_w 84, 3) := by decide +kernel
theorem dX9_set_11 : decode cX9_set 11 = .ok (.invokestatic 47, 3) := by decide +kernel
theorem dX9_set_14 : decode cX9_set 14 = .ok (.ifCond .ne 9, 3) := by decide +kernel
theorem dX9_set_17 : decode cX9_set 17 = .ok (.aload_n 0, 1) := by decide +kernel
theorem dX9_set_18 : decode cX9_set 18 = .ok (.iconst 1, 1) := by decide +kernel
theorem dX9_set_19 : decode cX9_set 19 = .ok (.invokevirtual 60, 3) := by decide +kernel
theorem dX9_set_22 : decode cX9_set 22 = .ok (.ireturn, 1) := by decide +kernel
theorem dX9_set_23 : decode cX9_set 23 = .ok (.iload_n 2, 1) := by decide +kernel
theorem dX9_set_24 : decode cX9_set 24 = .ok (.i2l, 1) := by decide +kernel
theorem dX9_set_25 : decode cX9_set 25 = .ok (.iload_n 1, 1) := by decide +kernel
theorem dX9_set_26 : decode cX9_set 26 = .ok (.invokestatic 86, 3) := by decide +kernel
theorem dX9_set_29 : decode cX9_set 29 = .ok (.i2l, 1) := by decide +kernel
theorem dX9_set_30 : decode cX9_set 30 = .ok (.iload_n 1, 1) := by decide +kernel
theorem dX9_set_31 : decode cX9_set 31 = .ok (.invokestatic 89, 3) := by decide +kernel
theorem dX9_set_34 : decode cX9_set 34 = .ok (.i2l, 1) := by decide +kernel
theorem dX9_set_35 : decode cX9_set 35 = .ok (.invokestatic 47, 3) := by decide +kernel
theorem dX9_set_38 : decode cX9_set 38 = .ok (.ifCond .eq 14, 3) := by decide +kernel
theorem dX9_set_41 : decode cX9_set 41 = .ok (.aload_n 0, 1) := by decide +kernel
theorem dX9_set_42 : decode cX9_set 42 = .ok (.iconst 0, 1) := by decide +kernel
theorem dX9_set_43 : decode cX9_set 43 = .ok (.iload_n 1, 1) := by decide +kernel
theorem dX9_set_44 : decode cX9_set 44 = .ok (.iadd, 1) := by decide +kernel
theorem dX9_set_45 : decode cX9_set 45 = .ok (.iload_n 2, 1) := by decide +kernel
theorem dX9_set_46 : decode cX9_set 46 = .ok (.invokevirtual 73, 3) := by decide +kernel
theorem dX9_set_49 : decode cX9_set 49 = .ok (.goto 8, 3) := by decide +kernel
theorem dX9_set_52 : decode cX9_set 52 = .ok (.aload_n 0, 1) := by decide +kernel
theorem dX9_set_53 : decode cX9_set 53 = .ok (.iconst 2, 1) := by decide +kernel
theorem dX9_set_54 : decode cX9_set 54 = .ok (.invokevirtual 60, 3) := by decide +kernel
theorem dX9_set_57 : decode cX9_set 57 = .ok (.ireturn, 1) := by decide +kernel
theorem dX9_moveThrows_0 : decode cX9_moveThrows 0 = .ok (.aload_n 0, 1) := by decide +kernel
theorem dX9_moveThrows_1 : decode cX9_moveThrows 1 = .ok (.iload_n 1, 1) := by decide +kernel
theorem dX9_moveThrows_2 : decode cX9_moveThrows 2 = .ok (.invokevirtual 69, 3) := by decide +kernel
theorem dX9_moveThrows_5 : decode cX9_moveThrows 5 = .ok (.ifCond .eq 11, 3) := by decide +kernel
theorem dX9_moveThrows_8 : decode cX9_moveThrows 8 = .ok (.aload_n 0, 1) := by decide +kernel
theorem dX9_moveThrows_9 : decode cX9_moveThrows 9 = .ok (.iload_n 2, 1) := by decide +kernel
theorem dX9_moveThrows_10 : decode cX9_moveThrows 10 = .ok (.invokevirtual 69, 3) := by decide +kernel
theorem dX9_moveThrows_13 : decode cX9_moveThrows 13 = .ok (.ifCond .ne 5, 3) := by decide +kernel
theorem dX9_moveThrows_16 : decode cX9_moveThrows 16 = .ok (.iconst 1, 1) := by decide +kernel
theorem dX9_moveThrows_17 : decode cX9_moveThrows 17 = .ok (.ireturn, 1) := by decide +kernel
theorem dX9_moveThrows_18 : decode cX9_moveThrows 18 = .ok (.iload_n 1, 1) := by decide +kernel
theorem dX9_moveThrows_19 : decode cX9_moveThrows 19 = .ok (.iload_n 2, 1) := by decide +kernel
theorem dX9_moveThrows_20 : decode cX9_moveThrows 20 = .ok (.if_icmp .ne 5, 3) := by decide +kernel
theorem dX9_moveThrows_23 : decode cX9_moveThrows 23 = .ok (.iconst 2, 1) := by decide +kernel
theorem dX9_moveThrows_24 : decode cX9_moveThrows 24 = .ok (.ireturn, 1) := by decide +kernel
theorem dX9_moveThrows_25 : decode cX9_moveThrows 25 = .ok (.aload_n 0, 1) := by decide +kernel
theorem dX9_moveThrows_26 : decode cX9_moveThrows 26 = .ok (.getfield 7, 3) := by decide +kernel
theorem dX9_moveThrows_29 : decode cX9_moveThrows 29 = .ok (.bipush 47, 2) := by decide +kernel
theorem dX9_moveThrows_31 : decode cX9_moveThrows 31 = .ok (.iload_n 1, 1) := by decide +kernel
theorem dX9_moveThrows_32 : decode cX9_moveThrows 32 = .ok (.iadd, 1) := by decide +kernel
theorem dX9_moveThrows_33 : decode cX9_moveThrows 33 = .ok (.laload, 1) := by decide +kernel
theorem dX9_moveThrows_34 : decode cX9_moveThrows 34 = .ok (.lconst 0, 1) := by decide +kernel
theorem dX9_moveThrows_35 : decode cX9_moveThrows 35 = .ok (.lcmp, 1) := by decide +kernel
theorem dX9_moveThrows_36 : decode cX9_moveThrows 36 = .ok (.ifCond .eq 25, 3) := by decide +kernel
theorem dX9_moveThrows_39 : decode cX9_moveThrows 39 = .ok (.aload_n 0, 1) := by decide +kernel
theorem dX9_moveThrows_40 : decode cX9_moveThrows 40 = .ok (.getfield 7, 3) := by decide +kernel
theorem dX9_moveThrows_43 : decode cX9_moveThrows 43 = .ok (.bipush 47, 2) := by decide +kernel
theorem dX9_moveThrows_45 : decode cX9_moveThrows 45 = .ok (.iload_n 2, 1) := by decide +kernel
theorem dX9_moveThrows_46 : decode cX9_moveThrows 46 = .ok (.iadd, 1) := by decide +kernel
theorem dX9_moveThrows_47 : decode cX9_moveThrows 47 = .ok (.laload, 1) := by decide +kernel
theorem dX9_moveThrows_48 : decode cX9_moveThrows 48 = .ok (.aload_n 0, 1) := by decide +kernel
theorem dX9_moveThrows_49 : decode cX9_moveThrows 49 = .ok (.getfield 7, 3) := by decide +kernel
theorem dX9_moveThrows_52 : decode cX9_moveThrows 52 = .ok (.bipush 32, 2) := by decide +kernel
theorem dX9_moveThrows_54 : decode cX9_moveThrows 54 = .ok (.iload_n 2, 1) := by decide +kernel
theorem dX9_moveThrows_55 : decode cX9_moveThrows 55 = .ok (.iadd, 1) := by decide +kernel
theorem dX9_moveThrows_56 : decode cX9_moveThrows 56 = .ok (.laload, 1) := by decide +kernel
theorem dX9_moveThrows_57 : decode cX9_moveThrows 57 = .ok (.lcmp, 1) := by decide +kernel
theorem dX9_moveThrows_58 : decode cX9_moveThrows 58 = .ok (.ifCond .ne 7, 3) := by decide +kernel
theorem dX9_moveThrows_61 : decode cX9_moveThrows 61 = .ok (.iconst 3, 1) := by decide +kernel
theorem dX9_moveThrows_62 : decode cX9_moveThrows 62 = .ok (.goto 4, 3) := by decide +kernel
theorem dX9_moveThrows_65 : decode cX9_moveThrows 65 = .ok (.iconst 0, 1) := by decide +kernel
theorem dX9_moveThrows_66 : decode cX9_moveThrows 66 = .ok (.ireturn, 1) := by decide +kernel
theorem dX9_doMove_0 : decode cX9_doMove 0 = .ok (.aload_n 0, 1) := by decide +kernel
theorem dX9_doMove_1 : decode cX9_doMove 1 = .ok (.getfield 7, 3) := by decide +kernel
theorem dX9_doMove_4 : decode cX9_doMove 4 = .ok (.bipush 47, 2) := by decide +kernel
theorem dX9_doMove_6 : decode cX9_doMove 6 = .ok (.iload_n 1, 1) := by decide +kernel
theorem dX9_doMove_7 : decode cX9_doMove 7 = .ok (.iadd, 1) := by decide +kernel
theorem dX9_doMove_8 : decode cX9_doMove 8 = .ok (.dup2, 1) := by decide +kernel
theorem dX9_doMove_9 : decode cX9_doMove 9 = .ok (.laload, 1) := by decide +kernel
theorem dX9_doMove_10 : decode cX9_doMove 10 = .ok (.lconst 1, 1) := by decide +kernel
theorem dX9_doMove_11 : decode cX9_doMove 11 = .ok (.lsub, 1) := by decide +kernel
theorem dX9_doMove_12 : decode cX9_doMove 12 = .ok (.lastore, 1) := by decide +kernel
theorem dX9_doMove_13 : decode cX9_doMove 13 = .ok (.bipush 30, 2) := by decide +kernel
theorem dX9_doMove_15 : decode cX9_doMove 15 = .ok (.iload_n 1, 1) := by decide +kernel
theorem dX9_doMove_16 : decode cX9_doMove 16 = .ok (.imul, 1) := by decide +kernel
theorem dX9_doMove_17 : decode cX9_doMove 17 = .ok (.aload_n 0, 1) := by decide +kernel
theorem dX9_doMove_18 : decode cX9_doMove 18 = .ok (.getfield 7, 3) := by decide +kernel
theorem dX9_doMove_21 : decode cX9_doMove 21 = .ok (.bipush 47, 2) := by decide +kernel
theorem dX9_doMove_23 : decode cX9_doMove 23 = .ok (.iload_n 1, 1) := by decide +kernel
theorem dX9_doMove_24 : decode cX9_doMove 24 = .ok (.iadd, 1) := by decide +kernel
theorem dX9_doMove_25 : decode cX9_doMove 25 = .ok (.laload, 1) := by decide +kernel
theorem dX9_doMove_26 : decode cX9_doMove 26 = .ok (.l2i, 1) := by decide +kernel
theorem dX9_doMove_27 : decode cX9_doMove 27 = .ok (.iadd, 1) := by decide +kernel
theorem dX9_doMove_28 : decode cX9_doMove 28 = .ok (.istore_n 3, 1) := by decide +kernel
theorem dX9_doMove_29 : decode cX9_doMove 29 = .ok (.bipush 30, 2) := by decide +kernel
theorem dX9_doMove_31 : decode cX9_doMove 31 = .ok (.iload_n 2, 1) := by decide +kernel
theorem dX9_doMove_32 : decode cX9_doMove 32 = .ok (.imul, 1) := by decide +kernel
theorem dX9_doMove_33 : decode cX9_doMove 33 = .ok (.aload_n 0, 1) := by decide +kernel
theorem dX9_doMove_34 : decode cX9_doMove 34 = .ok (.getfield 7, 3) := by decide +kernel
theorem dX9_doMove_37 : decode cX9_doMove 37 = .ok (.bipush 47, 2) := by decide +kernel
theorem dX9_doMove_39 : decode cX9_doMove 39 = .ok (.iload_n 2, 1) := by decide +kernel
theorem dX9_doMove_40 : decode cX9_doMove 40 = .ok (.iadd, 1) := by decide +kernel
theorem dX9_doMove_41 : decode cX9_doMove 41 = .ok (.laload, 1) := by decide +kernel
theorem dX9_doMove_42 : decode cX9_doMove 42 = .ok (.l2i, 1) := by decide +kernel
theorem dX9_doMove_43 : decode cX9_doMove 43 = .ok (.iadd, 1) := by decide +kernel
theorem dX9_doMove_44 : decode cX9_doMove 44 = .ok (.istore 4, 2) := by decide +kernel
theorem dX9_doMove_46 : decode cX9_doMove 46 = .ok (.aload_n 0, 1) := by decide +kernel
theorem dX9_doMove_47 : decode cX9_doMove 47 = .ok (.getfield 7, 3) := by decide +kernel
theorem dX9_doMove_50 : decode cX9_doMove 50 = .ok (.bipush 47, 2) := by decide +kernel
theorem dX9_doMove_52 : decode cX9_doMove 52 = .ok (.iload_n 2, 1) := by decide +kernel
theorem dX9_doMove_53 : decode cX9_doMove 53 = .ok (.iadd, 1) := by decide +kernel
theorem dX9_doMove_54 : decode cX9_doMove 54 = .ok (.dup2, 1) := by decide +kernel
theorem dX9_doMove_55 : decode cX9_doMove 55 = .ok (.laload, 1) := by decide +kernel
theorem dX9_doMove_56 : decode cX9_doMove 56 = .ok (.lconst 1, 1) := by decide +kernel
theorem dX9_doMove_57 : decode cX9_doMove 57 = .ok (.ladd, 1) := by decide +kernel
theorem dX9_doMove_58 : decode cX9_doMove 58 = .ok (.lastore, 1) := by decide +kernel
theorem dX9_doMove_59 : decode cX9_doMove 59 = .ok (.aload_n 0, 1) := by decide +kernel
theorem dX9_doMove_60 : decode cX9_doMove 60 = .ok (.getfield 7, 3) := by decide +kernel
theorem dX9_doMove_63 : decode cX9_doMove 63 = .ok (.bipush 57, 2) := by decide +kernel
theorem dX9_doMove_65 : decode cX9_doMove 65 = .ok (.iload 4, 2) := by decide +kernel
theorem dX9_doMove_67 : decode cX9_doMove 67 = .ok (.iadd, 1) := by decide +kernel
theorem dX9_doMove_68 : decode cX9_doMove 68 = .ok (.aload_n 0, 1) := by decide +kernel
theorem dX9_doMove_69 : decode cX9_doMove 69 = .ok (.getfield 7, 3) := by decide +kernel
theorem dX9_doMove_72 : decode cX9_doMove 72 = .ok (.bipush 57, 2) := by decide +kernel
theorem dX9_doMove_74 : decode cX9_doMove 74 = .ok (.iload_n 3, 1) := by decide +kernel
theorem dX9_doMove_75 : decode cX9_doMove 75 = .ok (.iadd, 1) := by decide +kernel
theorem dX9_doMove_76 : decode cX9_doMove 76 = .ok (.laload, 1) := by decide +kernel
theorem dX9_doMove_77 : decode cX9_doMove 77 = .ok (.lastore, 1) := by decide +kernel
theorem dX9_doMove_78 : decode cX9_doMove 78 = .ok (.aload_n 0, 1) := by decide +kernel
theorem dX9_doMove_79 : decode cX9_doMove 79 = .ok (.getfield 7, 3) := by decide +kernel
theorem dX9_doMove_82 : decode cX9_doMove 82 = .ok (.sipush 207, 3) := by decide +kernel
theorem dX9_doMove_85 : decode cX9_doMove 85 = .ok (.iload 4, 2) := by decide +kernel
theorem dX9_doMove_87 : decode cX9_doMove 87 = .ok (.iadd, 1) := by decide +kernel
theorem dX9_doMove_88 : decode cX9_doMove 88 = .ok (.aload_n 0, 1) := by decide +kernel
theorem dX9_doMove_89 : decode cX9_doMove 89 = .ok (.getfield 7, 3) := by decide +kernel
theorem dX9_doMove_92 : decode cX9_doMove 92 = .ok (.sipush 207, 3) := by decide +kernel
theorem dX9_doMove_95 : decode cX9_doMove 95 = .ok (.iload_n 3, 1) := by decide +kernel
theorem dX9_doMove_96 : decode cX9_doMove 96 = .ok (.iadd, 1) := by decide +kernel
theorem dX9_doMove_97 : decode cX9_doMove 97 = .ok (.laload, 1) := by decide +kernel
theorem dX9_doMove_98 : decode cX9_doMove 98 = .ok (.lastore, 1) := by decide +kernel
theorem dX9_doMove_99 : decode cX9_doMove 99 = .ok (.aload_n 0, 1) := by decide +kernel
theorem dX9_doMove_100 : decode cX9_doMove 100 = .ok (.getfield 7, 3) := by decide +kernel
theorem dX9_doMove_103 : decode cX9_doMove 103 = .ok (.sipush 357, 3) := by decide +kernel
theorem dX9_doMove_106 : decode cX9_doMove 106 = .ok (.iload 4, 2) := by decide +kernel
theorem dX9_doMove_108 : decode cX9_doMove 108 = .ok (.iadd, 1) := by decide +kernel
theorem dX9_doMove_109 : decode cX9_doMove 109 = .ok (.aload_n 0, 1) := by decide +kernel
theorem dX9_doMove_110 : decode cX9_doMove 110 = .ok (.getfield 7, 3) := by decide +kernel
theorem dX9_doMove_113 : decode cX9_doMove 113 = .ok (.sipush 357, 3) := by decide +kernel
theorem dX9_doMove_116 : decode cX9_doMove 116 = .ok (.iload_n 3, 1) := by decide +kernel
theorem dX9_doMove_117 : decode cX9_doMove 117 = .ok (.iadd, 1) := by decide +kernel
theorem dX9_doMove_118 : decode cX9_doMove 118 = .ok (.laload, 1) := by decide +kernel
theorem dX9_doMove_119 : decode cX9_doMove 119 = .ok (.lastore, 1) := by decide +kernel
theorem dX9_doMove_120 : decode cX9_doMove 120 = .ok (.aload_n 0, 1) := by decide +kernel
theorem dX9_doMove_121 : decode cX9_doMove 121 = .ok (.getfield 7, 3) := by decide +kernel
theorem dX9_doMove_124 : decode cX9_doMove 124 = .ok (.bipush 57, 2) := by decide +kernel
theorem dX9_doMove_126 : decode cX9_doMove 126 = .ok (.iload 4, 2) := by decide +kernel
theorem dX9_doMove_128 : decode cX9_doMove 128 = .ok (.iadd, 1) := by decide +kernel
theorem dX9_doMove_129 : decode cX9_doMove 129 = .ok (.laload, 1) := by decide +kernel
theorem dX9_doMove_130 : decode cX9_doMove 130 = .ok (.l2i, 1) := by decide +kernel
theorem dX9_doMove_131 : decode cX9_doMove 131 = .ok (.ireturn, 1) := by decide +kernel
theorem dX9_move_0 : decode cX9_move 0 = .ok (.aload_n 0, 1) := by decide +kernel
theorem dX9_move_1 : decode cX9_move 1 = .ok (.iconst 0, 1) := by decide +kernel
theorem dX9_move_2 : decode cX9_move 2 = .ok (.putfield 43, 3) := by decide +kernel
theorem dX9_move_5 : decode cX9_move 5 = .ok (.aload_n 0, 1) := by decide +kernel
theorem dX9_move_6 : decode cX9_move 6 = .ok (.iload_n 1, 1) := by decide +kernel
theorem dX9_move_7 : decode cX9_move 7 = .ok (.iload_n 2, 1) := by decide +kernel
theorem dX9_move_8 : decode cX9_move 8 = .ok (.invokevirtual 92, 3) := by decide +kernel
theorem dX9_move_11 : decode cX9_move 11 = .ok (.istore_n 3, 1) := by decide +kernel
theorem dX9_move_12 : decode cX9_move 12 = .ok (.iload_n 3, 1) := by decide +kernel
theorem dX9_move_13 : decode cX9_move 13 = .ok (.ifCond .le 9, 3) := by decide +kernel
theorem dX9_move_16 : decode cX9_move 16 = .ok (.aload_n 0, 1) := by decide +kernel
theorem dX9_move_17 : decode cX9_move 17 = .ok (.iload_n 3, 1) := by decide +kernel
theorem dX9_move_18 : decode cX9_move 18 = .ok (.invokevirtual 60, 3) := by decide +kernel
theorem dX9_move_21 : decode cX9_move 21 = .ok (.ireturn, 1) := by decide +kernel
theorem dX9_move_22 : decode cX9_move 22 = .ok (.aload_n 0, 1) := by decide +kernel
theorem dX9_move_23 : decode cX9_move 23 = .ok (.invokevirtual 66, 3) := by decide +kernel
theorem dX9_move_26 : decode cX9_move 26 = .ok (.aload_n 0, 1) := by decide +kernel
theorem dX9_move_27 : decode cX9_move 27 = .ok (.iload_n 1, 1) := by decide +kernel
theorem dX9_move_28 : decode cX9_move 28 = .ok (.iload_n 2, 1) := by decide +kernel
theorem dX9_move_29 : decode cX9_move 29 = .ok (.invokevirtual 95, 3) := by decide +kernel
theorem dX9_move_32 : decode cX9_move 32 = .ok (.ireturn, 1) := by decide +kernel
theorem dX9_heat_0 : decode cX9_heat 0 = .ok (.aload_n 0, 1) := by decide +kernel
theorem dX9_heat_1 : decode cX9_heat 1 = .ok (.getfield 7, 3) := by decide +kernel
theorem dX9_heat_4 : decode cX9_heat 4 = .ok (.bipush 8, 2) := by decide +kernel
theorem dX9_heat_6 : decode cX9_heat 6 = .ok (.aload_n 0, 1) := by decide +kernel
theorem dX9_heat_7 : decode cX9_heat 7 = .ok (.getfield 7, 3) := by decide +kernel
theorem dX9_heat_10 : decode cX9_heat 10 = .ok (.sipush 1875, 3) := by decide +kernel
theorem dX9_heat_13 : decode cX9_heat 13 = .ok (.laload, 1) := by decide +kernel
theorem dX9_heat_14 : decode cX9_heat 14 = .ok (.ldc2_w 98, 3) := by decide +kernel
theorem dX9_heat_17 : decode cX9_heat 17 = .ok (.lrem, 1) := by decide +kernel
theorem dX9_heat_18 : decode cX9_heat 18 = .ok (.l2i, 1) := by decide +kernel
theorem dX9_heat_19 : decode cX9_heat 19 = .ok (.iadd, 1) := by decide +kernel
theorem dX9_heat_20 : decode cX9_heat 20 = .ok (.laload, 1) := by decide +kernel
theorem dX9_heat_21 : decode cX9_heat 21 = .ok (.lstore_n 1, 1) := by decide +kernel
theorem dX9_heat_22 : decode cX9_heat 22 = .ok (.lload_n 1, 1) := by decide +kernel
theorem dX9_heat_23 : decode cX9_heat 23 = .ok (.lconst 0, 1) := by decide +kernel
theorem dX9_heat_24 : decode cX9_heat 24 = .ok (.lcmp, 1) := by decide +kernel
theorem dX9_heat_25 : decode cX9_heat 25 = .ok (.ifCond .ge 7, 3) := by decide +kernel
theorem dX9_heat_28 : decode cX9_heat 28 = .ok (.lconst 0, 1) := by decide +kernel
theorem dX9_heat_29 : decode cX9_heat 29 = .ok (.goto 4, 3) := by decide +kernel
theorem dX9_heat_32 : decode cX9_heat 32 = .ok (.lload_n 1, 1) := by decide +kernel
theorem dX9_heat_33 : decode cX9_heat 33 = .ok (.lreturn, 1) := by decide +kernel
theorem dX9_lossOf_0 : decode cX9_lossOf 0 = .ok (.aload_n 0, 1) := by decide +kernel
theorem dX9_lossOf_1 : decode cX9_lossOf 1 = .ok (.getfield 7, 3) := by decide +kernel
theorem dX9_lossOf_4 : decode cX9_lossOf 4 = .ok (.sipush 207, 3) := by decide +kernel
theorem dX9_lossOf_7 : decode cX9_lossOf 7 = .ok (.bipush 30, 2) := by decide +kernel
theorem dX9_lossOf_9 : decode cX9_lossOf 9 = .ok (.iload_n 1, 1) := by decide +kernel
theorem dX9_lossOf_10 : decode cX9_lossOf 10 = .ok (.imul, 1) := by decide +kernel
theorem dX9_lossOf_11 : decode cX9_lossOf 11 = .ok (.iadd, 1) := by decide +kernel
theorem dX9_lossOf_12 : decode cX9_lossOf 12 = .ok (.iload_n 2, 1) := by decide +kernel
theorem dX9_lossOf_13 : decode cX9_lossOf 13 = .ok (.iadd, 1) := by decide +kernel
theorem dX9_lossOf_14 : decode cX9_lossOf 14 = .ok (.laload, 1) := by decide +kernel
theorem dX9_lossOf_15 : decode cX9_lossOf 15 = .ok (.lstore 4, 2) := by decide +kernel
theorem dX9_lossOf_17 : decode cX9_lossOf 17 = .ok (.aload_n 0, 1) := by decide +kernel
theorem dX9_lossOf_18 : decode cX9_lossOf 18 = .ok (.getfield 7, 3) := by decide +kernel
theorem dX9_lossOf_21 : decode cX9_lossOf 21 = .ok (.bipush 42, 2) := by decide +kernel
theorem dX9_lossOf_23 : decode cX9_lossOf 23 = .ok (.iload_n 1, 1) := by decide +kernel
theorem dX9_lossOf_24 : decode cX9_lossOf 24 = .ok (.iadd, 1) := by decide +kernel
theorem dX9_lossOf_25 : decode cX9_lossOf 25 = .ok (.laload, 1) := by decide +kernel
theorem dX9_lossOf_26 : decode cX9_lossOf 26 = .ok (.lstore 6, 2) := by decide +kernel
theorem dX9_lossOf_28 : decode cX9_lossOf 28 = .ok (.lconst 0, 1) := by decide +kernel
theorem dX9_lossOf_29 : decode cX9_lossOf 29 = .ok (.lstore 8, 2) := by decide +kernel
theorem dX9_lossOf_31 : decode cX9_lossOf 31 = .ok (.aload_n 0, 1) := by decide +kernel
theorem dX9_lossOf_32 : decode cX9_lossOf 32 = .ok (.getfield 7, 3) := by decide +kernel
theorem dX9_lossOf_35 : decode cX9_lossOf 35 = .ok (.bipush 37, 2) := by decide +kernel
theorem dX9_lossOf_37 : decode cX9_lossOf 37 = .ok (.iload_n 1, 1) := by decide +kernel
theorem dX9_lossOf_38 : decode cX9_lossOf 38 = .ok (.iadd, 1) := by decide +kernel
theorem dX9_lossOf_39 : decode cX9_lossOf 39 = .ok (.laload, 1) := by decide +kernel
theorem dX9_lossOf_40 : decode cX9_lossOf 40 = .ok (.lconst 0, 1) := by decide +kernel
theorem dX9_lossOf_41 : decode cX9_lossOf 41 = .ok (.lcmp, 1) := by decide +kernel
theorem dX9_lossOf_42 : decode cX9_lossOf 42 = .ok (.ifCond .ne 10, 3) := by decide +kernel
theorem dX9_lossOf_45 : decode cX9_lossOf 45 = .ok (.lload 6, 2) := by decide +kernel
theorem dX9_lossOf_47 : decode cX9_lossOf 47 = .ok (.lstore 8, 2) := by decide +kernel
theorem dX9_lossOf_49 : decode cX9_lossOf 49 = .ok (.goto 75, 3) := by decide +kernel
theorem dX9_lossOf_52 : decode cX9_lossOf 52 = .ok (.aload_n 0, 1) := by decide +kernel
theorem dX9_lossOf_53 : decode cX9_lossOf 53 = .ok (.getfield 7, 3) := by decide +kernel
theorem dX9_lossOf_56 : decode cX9_lossOf 56 = .ok (.bipush 37, 2) := by decide +kernel
theorem dX9_lossOf_58 : decode cX9_lossOf 58 = .ok (.iload_n 1, 1) := by decide +kernel
theorem dX9_lossOf_59 : decode cX9_lossOf 59 = .ok (.iadd, 1) := by decide +kernel
theorem dX9_lossOf_60 : decode cX9_lossOf 60 = .ok (.laload, 1) := by decide +kernel
theorem dX9_lossOf_61 : decode cX9_lossOf 61 = .ok (.lconst 1, 1) := by decide +kernel
theorem dX9_lossOf_62 : decode cX9_lossOf 62 = .ok (.lcmp, 1) := by decide +kernel
theorem dX9_lossOf_63 : decode cX9_lossOf 63 = .ok (.ifCond .ne 21, 3) := by decide +kernel
theorem dX9_lossOf_66 : decode cX9_lossOf 66 = .ok (.lload 4, 2) := by decide +kernel
theorem dX9_lossOf_68 : decode cX9_lossOf 68 = .ok (.lload 6, 2) := by decide +kernel
theorem dX9_lossOf_70 : decode cX9_lossOf 70 = .ok (.lmul, 1) := by decide +kernel
theorem dX9_lossOf_71 : decode cX9_lossOf 71 = .ok (.ldc2_w 100, 3) := by decide +kernel
theorem dX9_lossOf_74 : decode cX9_lossOf 74 = .ok (.ladd, 1) := by decide +kernel
theorem dX9_lossOf_75 : decode cX9_lossOf 75 = .ok (.ldc2_w 58, 3) := by decide +kernel
theorem dX9_lossOf_78 : decode cX9_lossOf 78 = .ok (.ldiv, 1) := by decide +kernel
theorem dX9_lossOf_79 : decode cX9_lossOf 79 = .ok (.lstore 8, 2) := by decide +kernel
theorem dX9_lossOf_81 : decode cX9_lossOf 81 = .ok (.goto 43, 3) := by decide +kernel
theorem dX9_lossOf_84 : decode cX9_lossOf 84 = .ok (.aload_n 0, 1) := by decide +kernel
theorem dX9_lossOf_85 : decode cX9_lossOf 85 = .ok (.getfield 7, 3) := by decide +kernel
theorem dX9_lossOf_88 : decode cX9_lossOf 88 = .ok (.bipush 37, 2) := by decide +kernel
theorem dX9_lossOf_90 : decode cX9_lossOf 90 = .ok (.iload_n 1, 1) := by decide +kernel
theorem dX9_lossOf_91 : decode cX9_lossOf 91 = .ok (.iadd, 1) := by decide +kernel
theorem dX9_lossOf_92 : decode cX9_lossOf 92 = .ok (.laload, 1) := by decide +kernel
theorem dX9_lossOf_93 : decode cX9_lossOf 93 = .ok (.ldc2_w 31, 3) := by decide +kernel
theorem dX9_lossOf_96 : decode cX9_lossOf 96 = .ok (.lcmp, 1) := by decide +kernel
theorem dX9_lossOf_97 : decode cX9_lossOf 97 = .ok (.ifCond .ne 19, 3) := by decide +kernel
theorem dX9_lossOf_100 : decode cX9_lossOf 100 = .ok (.aload_n 0, 1) := by decide +kernel
theorem dX9_lossOf_101 : decode cX9_lossOf 101 = .ok (.invokevirtual 102, 3) := by decide +kernel
theorem dX9_lossOf_104 : decode cX9_lossOf 104 = .ok (.lload 6, 2) := by decide +kernel
theorem dX9_lossOf_106 : decode cX9_lossOf 106 = .ok (.lmul, 1) := by decide +kernel
theorem dX9_lossOf_107 : decode cX9_lossOf 107 = .ok (.ldc2_w 35, 3) := by decide +kernel
theorem dX9_lossOf_110 : decode cX9_lossOf 110 = .ok (.ldiv, 1) := by decide +kernel
theorem dX9_lossOf_111 : decode cX9_lossOf 111 = .ok (.lstore 8, 2) := by decide +kernel
theorem dX9_lossOf_113 : decode cX9_lossOf 113 = .ok (.goto 11, 3) := by decide +kernel
theorem dX9_lossOf_116 : decode cX9_lossOf 116 = .ok (.iload_n 3, 1) := by decide +kernel
theorem dX9_lossOf_117 : decode cX9_lossOf 117 = .ok (.ifCond .eq 7, 3) := by decide +kernel
theorem dX9_lossOf_120 : decode cX9_lossOf 120 = .ok (.lload 6, 2) := by decide +kernel
theorem dX9_lossOf_122 : decode cX9_lossOf 122 = .ok (.lstore 8, 2) := by decide +kernel
theorem dX9_lossOf_124 : decode cX9_lossOf 124 = .ok (.lload 8, 2) := by decide +kernel
theorem dX9_lossOf_126 : decode cX9_lossOf 126 = .ok (.lload 4, 2) := by decide +kernel
theorem dX9_lossOf_128 : decode cX9_lossOf 128 = .ok (.lcmp, 1) := by decide +kernel
theorem dX9_lossOf_129 : decode cX9_lossOf 129 = .ok (.ifCond .ge 8, 3) := by decide +kernel
theorem dX9_lossOf_132 : decode cX9_lossOf 132 = .ok (.lload 8, 2) := by decide +kernel
theorem dX9_lossOf_134 : decode cX9_lossOf 134 = .ok (.goto 5, 3) := by decide +kernel
theorem dX9_lossOf_137 : decode cX9_lossOf 137 = .ok (.lload 4, 2) := by decide +kernel
theorem dX9_lossOf_139 : decode cX9_lossOf 139 = .ok (.lreturn, 1) := by decide +kernel
theorem dX9_removeBlock_0 : decode cX9_removeBlock 0 = .ok (.aload_n 0, 1) := by decide +kernel
theorem dX9_removeBlock_1 : decode cX9_removeBlock 1 = .ok (.getfield 7, 3) := by decide +kernel
theorem dX9_removeBlock_4 : decode cX9_removeBlock 4 = .ok (.bipush 47, 2) := by decide +kernel
theorem dX9_removeBlock_6 : decode cX9_removeBlock 6 = .ok (.iload_n 1, 1) := by decide +kernel
theorem dX9_removeBlock_7 : decode cX9_removeBlock 7 = .ok (.iadd, 1) := by decide +kernel
theorem dX9_removeBlock_8 : decode cX9_removeBlock 8 = .ok (.dup2, 1) := by decide +kernel
theorem dX9_removeBlock_9 : decode cX9_removeBlock 9 = .ok (.laload, 1) := by decide +kernel
theorem dX9_removeBlock_10 : decode cX9_removeBlock 10 = .ok (.lconst 1, 1) := by decide +kernel
theorem dX9_removeBlock_11 : decode cX9_removeBlock 11 = .ok (.lsub, 1) := by decide +kernel
theorem dX9_removeBlock_12 : decode cX9_removeBlock 12 = .ok (.lastore, 1) := by decide +kernel
theorem dX9_removeBlock_13 : decode cX9_removeBlock 13 = .ok (.bipush 30, 2) := by decide +kernel
theorem dX9_removeBlock_15 : decode cX9_removeBlock 15 = .ok (.iload_n 1, 1) := by decide +kernel
theorem dX9_removeBlock_16 : decode cX9_removeBlock 16 = .ok (.imul, 1) := by decide +kernel
theorem dX9_removeBlock_17 : decode cX9_removeBlock 17 = .ok (.iload_n 2, 1) := by decide +kernel
theorem dX9_removeBlock_18 : decode cX9_removeBlock 18 = .ok (.iadd, 1) := by decide +kernel
theorem dX9_removeBlock_19 : decode cX9_removeBlock 19 = .ok (.istore_n 3, 1) := by decide +kernel
theorem dX9_removeBlock_20 : decode cX9_removeBlock 20 = .ok (.iload_n 3, 1) := by decide +kernel
theorem dX9_removeBlock_21 : decode cX9_removeBlock 21 = .ok (.i2l, 1) := by decide +kernel
theorem dX9_removeBlock_22 : decode cX9_removeBlock 22 = .ok (.bipush 30, 2) := by decide +kernel
theorem dX9_removeBlock_24 : decode cX9_removeBlock 24 = .ok (.iload_n 1, 1) := by decide +kernel
theorem dX9_removeBlock_25 : decode cX9_removeBlock 25 = .ok (.imul, 1) := by decide +kernel
theorem dX9_removeBlock_26 : decode cX9_removeBlock 26 = .ok (.i2l, 1) := by decide +kernel
theorem dX9_removeBlock_27 : decode cX9_removeBlock 27 = .ok (.aload_n 0, 1) := by decide +kernel
theorem dX9_removeBlock_28 : decode cX9_removeBlock 28 = .ok (.getfield 7, 3) := by decide +kernel
theorem dX9_removeBlock_31 : decode cX9_removeBlock 31 = .ok (.bipush 47, 2) := by decide +kernel
theorem dX9_removeBlock_33 : decode cX9_removeBlock 33 = .ok (.iload_n 1, 1) := by decide +kernel
theorem dX9_removeBlock_34 : decode cX9_removeBlock 34 = .ok (.iadd, 1) := by decide +kernel
theorem dX9_removeBlock_35 : decode cX9_removeBlock 35 = .ok (.laload, 1) := by decide +kernel
theorem dX9_removeBlock_36 : decode cX9_removeBlock 36 = .ok (.ladd, 1) := by decide +kernel
theorem dX9_removeBlock_37 : decode cX9_removeBlock 37 = .ok (.lcmp, 1) := by decide +kernel
theorem dX9_removeBlock_38 : decode cX9_removeBlock 38 = .ok (.ifCond .ge 73, 3) := by decide +kernel
theorem dX9_removeBlock_41 : decode cX9_removeBlock 41 = .ok (.aload_n 0, 1) := by decide +kernel
theorem dX9_removeBlock_42 : decode cX9_removeBlock 42 = .ok (.getfield 7, 3) := by decide +kernel
theorem dX9_removeBlock_45 : decode cX9_removeBlock 45 = .ok (.bipush 57, 2) := by decide +kernel
theorem dX9_removeBlock_47 : decode cX9_removeBlock 47 = .ok (.iload_n 3, 1) := by decide +kernel
theorem dX9_removeBlock_48 : decode cX9_removeBlock 48 = .ok (.iadd, 1) := by decide +kernel
theorem dX9_removeBlock_49 : decode cX9_removeBlock 49 = .ok (.aload_n 0, 1) := by decide +kernel
theorem dX9_removeBlock_50 : decode cX9_removeBlock 50 = .ok (.getfield 7, 3) := by decide +kernel
theorem dX9_removeBlock_53 : decode cX9_removeBlock 53 = .ok (.bipush 57, 2) := by decide +kernel
theorem dX9_removeBlock_55 : decode cX9_removeBlock 55 = .ok (.iload_n 3, 1) := by decide +kernel
theorem dX9_removeBlock_56 : decode cX9_removeBlock 56 = .ok (.iadd, 1) := by decide +kernel
theorem dX9_removeBlock_57 : decode cX9_removeBlock 57 = .ok (.iconst 1, 1) := by decide +kernel
theorem dX9_removeBlock_58 : decode cX9_removeBlock 58 = .ok (.iadd, 1) := by decide +kernel
theorem dX9_removeBlock_59 : decode cX9_removeBlock 59 = .ok (.laload, 1) := by decide +kernel
theorem dX9_removeBlock_60 : decode cX9_removeBlock 60 = .ok (.lastore, 1) := by decide +kernel
theorem dX9_removeBlock_61 : decode cX9_removeBlock 61 = .ok (.aload_n 0, 1) := by decide +kernel
theorem dX9_removeBlock_62 : decode cX9_removeBlock 62 = .ok (.getfield 7, 3) := by decide +kernel
theorem dX9_removeBlock_65 : decode cX9_removeBlock 65 = .ok (.sipush 207, 3) := by decide +kernel
theorem dX9_removeBlock_68 : decode cX9_removeBlock 68 = .ok (.iload_n 3, 1) := by decide +kernel
theorem dX9_removeBlock_69 : decode cX9_removeBlock 69 = .ok (.iadd, 1) := by decide +kernel
theorem dX9_removeBlock_70 : decode cX9_removeBlock 70 = .ok (.aload_n 0, 1) := by decide +kernel
theorem dX9_removeBlock_71 : decode cX9_removeBlock 71 = .ok (.getfield 7, 3) := by decide +kernel
theorem dX9_removeBlock_74 : decode cX9_removeBlock 74 = .ok (.sipush 207, 3) := by decide +kernel
theorem dX9_removeBlock_77 : decode cX9_removeBlock 77 = .ok (.iload_n 3, 1) := by decide +kernel
theorem dX9_removeBlock_78 : decode cX9_removeBlock 78 = .ok (.iadd, 1) := by decide +kernel
theorem dX9_removeBlock_79 : decode cX9_removeBlock 79 = .ok (.iconst 1, 1) := by decide +kernel
theorem dX9_removeBlock_80 : decode cX9_removeBlock 80 = .ok (.iadd, 1) := by decide +kernel
theorem dX9_removeBlock_81 : decode cX9_removeBlock 81 = .ok (.laload, 1) := by decide +kernel
theorem dX9_removeBlock_82 : decode cX9_removeBlock 82 = .ok (.lastore, 1) := by decide +kernel
theorem dX9_removeBlock_83 : decode cX9_removeBlock 83 = .ok (.aload_n 0, 1) := by decide +kernel
theorem dX9_removeBlock_84 : decode cX9_removeBlock 84 = .ok (.getfield 7, 3) := by decide +kernel
theorem dX9_removeBlock_87 : decode cX9_removeBlock 87 = .ok (.sipush 357, 3) := by decide +kernel
theorem dX9_removeBlock_90 : decode cX9_removeBlock 90 = .ok (.iload_n 3, 1) := by decide +kernel
theorem dX9_removeBlock_91 : decode cX9_removeBlock 91 = .ok (.iadd, 1) := by decide +kernel
theorem dX9_removeBlock_92 : decode cX9_removeBlock 92 = .ok (.aload_n 0, 1) := by decide +kernel
theorem dX9_removeBlock_93 : decode cX9_removeBlock 93 = .ok (.getfield 7, 3) := by decide +kernel
theorem dX9_removeBlock_96 : decode cX9_removeBlock 96 = .ok (.sipush 357, 3) := by decide +kernel
theorem dX9_removeBlock_99 : decode cX9_removeBlock 99 = .ok (.iload_n 3, 1) := by decide +kernel
theorem dX9_removeBlock_100 : decode cX9_removeBlock 100 = .ok (.iadd, 1) := by decide +kernel
theorem dX9_removeBlock_101 : decode cX9_removeBlock 101 = .ok (.iconst 1, 1) := by decide +kernel
theorem dX9_removeBlock_102 : decode cX9_removeBlock 102 = .ok (.iadd, 1) := by decide +kernel
theorem dX9_removeBlock_103 : decode cX9_removeBlock 103 = .ok (.laload, 1) := by decide +kernel
theorem dX9_removeBlock_104 : decode cX9_removeBlock 104 = .ok (.lastore, 1) := by decide +kernel
theorem dX9_removeBlock_105 : decode cX9_removeBlock 105 = .ok (.iinc 3 1, 3) := by decide +kernel
theorem dX9_removeBlock_108 : decode cX9_removeBlock 108 = .ok (.goto (-88), 3) := by decide +kernel
theorem dX9_removeBlock_111 : decode cX9_removeBlock 111 = .ok (.return_, 1) := by decide +kernel
theorem dX9_melt_0 : decode cX9_melt 0 = .ok (.iconst 0, 1) := by decide +kernel
theorem dX9_melt_1 : decode cX9_melt 1 = .ok (.istore_n 1, 1) := by decide +kernel
theorem dX9_melt_2 : decode cX9_melt 2 = .ok (.iload_n 1, 1) := by decide +kernel
theorem dX9_melt_3 : decode cX9_melt 3 = .ok (.i2l, 1) := by decide +kernel
theorem dX9_melt_4 : decode cX9_melt 4 = .ok (.aload_n 0, 1) := by decide +kernel
theorem dX9_melt_5 : decode cX9_melt 5 = .ok (.getfield 7, 3) := by decide +kernel
theorem dX9_melt_8 : decode cX9_melt 8 = .ok (.sipush 1880, 3) := by decide +kernel
theorem dX9_melt_11 : decode cX9_melt 11 = .ok (.laload, 1) := by decide +kernel
theorem dX9_melt_12 : decode cX9_melt 12 = .ok (.lcmp, 1) := by decide +kernel
theorem dX9_melt_13 : decode cX9_melt 13 = .ok (.ifCond .ge 154, 3) := by decide +kernel
theorem dX9_melt_16 : decode cX9_melt 16 = .ok (.iconst 0, 1) := by decide +kernel
theorem dX9_melt_17 : decode cX9_melt 17 = .ok (.istore_n 2, 1) := by decide +kernel
theorem dX9_melt_18 : decode cX9_melt 18 = .ok (.iload_n 2, 1) := by decide +kernel
theorem dX9_melt_19 : decode cX9_melt 19 = .ok (.i2l, 1) := by decide +kernel
theorem dX9_melt_20 : decode cX9_melt 20 = .ok (.aload_n 0, 1) := by decide +kernel
theorem dX9_melt_21 : decode cX9_melt 21 = .ok (.getfield 7, 3) := by decide +kernel
theorem dX9_melt_24 : decode cX9_melt 24 = .ok (.bipush 47, 2) := by decide +kernel
theorem dX9_melt_26 : decode cX9_melt 26 = .ok (.iload_n 1, 1) := by decide +kernel
theorem dX9_melt_27 : decode cX9_melt 27 = .ok (.iadd, 1) := by decide +kernel
theorem dX9_melt_28 : decode cX9_melt 28 = .ok (.laload, 1) := by decide +kernel
theorem dX9_melt_29 : decode cX9_melt 29 = .ok (.lcmp, 1) := by decide +kernel
theorem dX9_melt_30 : decode cX9_melt 30 = .ok (.ifCond .ge 82, 3) := by decide +kernel
theorem dX9_melt_33 : decode cX9_melt 33 = .ok (.aload_n 0, 1) := by decide +kernel
theorem dX9_melt_34 : decode cX9_melt 34 = .ok (.iload_n 1, 1) := by decide +kernel
theorem dX9_melt_35 : decode cX9_melt 35 = .ok (.iload_n 2, 1) := by decide +kernel
theorem dX9_melt_36 : decode cX9_melt 36 = .ok (.iload_n 2, 1) := by decide +kernel
theorem dX9_melt_37 : decode cX9_melt 37 = .ok (.i2l, 1) := by decide +kernel
theorem dX9_melt_38 : decode cX9_melt 38 = .ok (.aload_n 0, 1) := by decide +kernel
theorem dX9_melt_39 : decode cX9_melt 39 = .ok (.getfield 7, 3) := by decide +kernel
theorem dX9_melt_42 : decode cX9_melt 42 = .ok (.bipush 47, 2) := by decide +kernel
theorem dX9_melt_44 : decode cX9_melt 44 = .ok (.iload_n 1, 1) := by decide +kernel
theorem dX9_melt_45 : decode cX9_melt 45 = .ok (.iadd, 1) := by decide +kernel
theorem dX9_melt_46 : decode cX9_melt 46 = .ok (.laload, 1) := by decide +kernel
theorem dX9_melt_47 : decode cX9_melt 47 = .ok (.lconst 1, 1) := by decide +kernel
theorem dX9_melt_48 : decode cX9_melt 48 = .ok (.lsub, 1) := by decide +kernel
theorem dX9_melt_49 : decode cX9_melt 49 = .ok (.lcmp, 1) := by decide +kernel
theorem dX9_melt_50 : decode cX9_melt 50 = .ok (.ifCond .ne 7, 3) := by decide +kernel
theorem dX9_melt_53 : decode cX9_melt 53 = .ok (.iconst 1, 1) := by decide +kernel
theorem dX9_melt_54 : decode cX9_melt 54 = .ok (.goto 4, 3) := by decide +kernel
theorem dX9_melt_57 : decode cX9_melt 57 = .ok (.iconst 0, 1) := by decide +kernel
theorem dX9_melt_58 : decode cX9_melt 58 = .ok (.invokevirtual 106, 3) := by decide +kernel
theorem dX9_melt_61 : decode cX9_melt 61 = .ok (.lstore_n 3, 1) := by decide +kernel
theorem dX9_melt_62 : decode cX9_melt 62 = .ok (.aload_n 0, 1) := by decide +kernel
theorem dX9_melt_63 : decode cX9_melt 63 = .ok (.getfield 7, 3) := by decide +kernel
theorem dX9_melt_66 : decode cX9_melt 66 = .ok (.sipush 207, 3) := by decide +kernel
theorem dX9_melt_69 : decode cX9_melt 69 = .ok (.bipush 30, 2) := by decide +kernel
theorem dX9_melt_71 : decode cX9_melt 71 = .ok (.iload_n 1, 1) := by decide +kernel
theorem dX9_melt_72 : decode cX9_melt 72 = .ok (.imul, 1) := by decide +kernel
theorem dX9_melt_73 : decode cX9_melt 73 = .ok (.iadd, 1) := by decide +kernel
theorem dX9_melt_74 : decode cX9_melt 74 = .ok (.iload_n 2, 1) := by decide +kernel
theorem dX9_melt_75 : decode cX9_melt 75 = .ok (.iadd, 1) := by decide +kernel
theorem dX9_melt_76 : decode cX9_melt 76 = .ok (.dup2, 1) := by decide +kernel
theorem dX9_melt_77 : decode cX9_melt 77 = .ok (.laload, 1) := by decide +kernel
theorem dX9_melt_78 : decode cX9_melt 78 = .ok (.lload_n 3, 1) := by decide +kernel
theorem dX9_melt_79 : decode cX9_melt 79 = .ok (.lsub, 1) := by decide +kernel
theorem dX9_melt_80 : decode cX9_melt 80 = .ok (.lastore, 1) := by decide +kernel
theorem dX9_melt_81 : decode cX9_melt 81 = .ok (.aload_n 0, 1) := by decide +kernel
theorem dX9_melt_82 : decode cX9_melt 82 = .ok (.getfield 7, 3) := by decide +kernel
theorem dX9_melt_85 : decode cX9_melt 85 = .ok (.bipush 52, 2) := by decide +kernel
theorem dX9_melt_87 : decode cX9_melt 87 = .ok (.iload_n 1, 1) := by decide +kernel
theorem dX9_melt_88 : decode cX9_melt 88 = .ok (.iadd, 1) := by decide +kernel
theorem dX9_melt_89 : decode cX9_melt 89 = .ok (.dup2, 1) := by decide +kernel
theorem dX9_melt_90 : decode cX9_melt 90 = .ok (.laload, 1) := by decide +kernel
theorem dX9_melt_91 : decode cX9_melt 91 = .ok (.lload_n 3, 1) := by decide +kernel
theorem dX9_melt_92 : decode cX9_melt 92 = .ok (.ladd, 1) := by decide +kernel
theorem dX9_melt_93 : decode cX9_melt 93 = .ok (.lastore, 1) := by decide +kernel
theorem dX9_melt_94 : decode cX9_melt 94 = .ok (.aload_n 0, 1) := by decide +kernel
theorem dX9_melt_95 : decode cX9_melt 95 = .ok (.getfield 7, 3) := by decide +kernel
theorem dX9_melt_98 : decode cX9_melt 98 = .ok (.sipush 1878, 3) := by decide +kernel
theorem dX9_melt_101 : decode cX9_melt 101 = .ok (.dup2, 1) := by decide +kernel
theorem dX9_melt_102 : decode cX9_melt 102 = .ok (.laload, 1) := by decide +kernel
theorem dX9_melt_103 : decode cX9_melt 103 = .ok (.lload_n 3, 1) := by decide +kernel
theorem dX9_melt_104 : decode cX9_melt 104 = .ok (.ladd, 1) := by decide +kernel
theorem dX9_melt_105 : decode cX9_melt 105 = .ok (.lastore, 1) := by decide +kernel
theorem dX9_melt_106 : decode cX9_melt 106 = .ok (.iinc 2 1, 3) := by decide +kernel
theorem dX9_melt_109 : decode cX9_melt 109 = .ok (.goto (-91), 3) := by decide +kernel
theorem dX9_melt_112 : decode cX9_melt 112 = .ok (.aload_n 0, 1) := by decide +kernel
theorem dX9_melt_113 : decode cX9_melt 113 = .ok (.getfield 7, 3) := by decide +kernel
theorem dX9_melt_116 : decode cX9_melt 116 = .ok (.bipush 47, 2) := by decide +kernel
theorem dX9_melt_118 : decode cX9_melt 118 = .ok (.iload_n 1, 1) := by decide +kernel
theorem dX9_melt_119 : decode cX9_melt 119 = .ok (.iadd, 1) := by decide +kernel
theorem dX9_melt_120 : decode cX9_melt 120 = .ok (.laload, 1) := by decide +kernel
theorem dX9_melt_121 : decode cX9_melt 121 = .ok (.l2i, 1) := by decide +kernel
theorem dX9_melt_122 : decode cX9_melt 122 = .ok (.iconst 1, 1) := by decide +kernel
theorem dX9_melt_123 : decode cX9_melt 123 = .ok (.isub, 1) := by decide +kernel
theorem dX9_melt_124 : decode cX9_melt 124 = .ok (.istore_n 2, 1) := by decide +kernel
theorem dX9_melt_125 : decode cX9_melt 125 = .ok (.iload_n 2, 1) := by decide +kernel
theorem dX9_melt_126 : decode cX9_melt 126 = .ok (.ifCond .lt 35, 3) := by decide +kernel
theorem dX9_melt_129 : decode cX9_melt 129 = .ok (.aload_n 0, 1) := by decide +kernel
theorem dX9_melt_130 : decode cX9_melt 130 = .ok (.getfield 7, 3) := by decide +kernel
theorem dX9_melt_133 : decode cX9_melt 133 = .ok (.sipush 207, 3) := by decide +kernel
theorem dX9_melt_136 : decode cX9_melt 136 = .ok (.bipush 30, 2) := by decide +kernel
theorem dX9_melt_138 : decode cX9_melt 138 = .ok (.iload_n 1, 1) := by decide +kernel
theorem dX9_melt_139 : decode cX9_melt 139 = .ok (.imul, 1) := by decide +kernel
theorem dX9_melt_140 : decode cX9_melt 140 = .ok (.iadd, 1) := by decide +kernel
theorem dX9_melt_141 : decode cX9_melt 141 = .ok (.iload_n 2, 1) := by decide +kernel
theorem dX9_melt_142 : decode cX9_melt 142 = .ok (.iadd, 1) := by decide +kernel
theorem dX9_melt_143 : decode cX9_melt 143 = .ok (.laload, 1) := by decide +kernel
theorem dX9_melt_144 : decode cX9_melt 144 = .ok (.lconst 0, 1) := by decide +kernel
theorem dX9_melt_145 : decode cX9_melt 145 = .ok (.lcmp, 1) := by decide +kernel
theorem dX9_melt_146 : decode cX9_melt 146 = .ok (.ifCond .ne 9, 3) := by decide +kernel
theorem dX9_melt_149 : decode cX9_melt 149 = .ok (.aload_n 0, 1) := by decide +kernel
theorem dX9_melt_150 : decode cX9_melt 150 = .ok (.iload_n 1, 1) := by decide +kernel
theorem dX9_melt_151 : decode cX9_melt 151 = .ok (.iload_n 2, 1) := by decide +kernel
theorem dX9_melt_152 : decode cX9_melt 152 = .ok (.invokevirtual 110, 3) := by decide +kernel
theorem dX9_melt_155 : decode cX9_melt 155 = .ok (.iinc 2 (-1), 3) := by decide +kernel
theorem dX9_melt_158 : decode cX9_melt 158 = .ok (.goto (-33), 3) := by decide +kernel
theorem dX9_melt_161 : decode cX9_melt 161 = .ok (.iinc 1 1, 3) := by decide +kernel
theorem dX9_melt_164 : decode cX9_melt 164 = .ok (.goto (-162), 3) := by decide +kernel
theorem dX9_melt_167 : decode cX9_melt 167 = .ok (.return_, 1) := by decide +kernel
theorem dX9_freeSilo_0 : decode cX9_freeSilo 0 = .ok (.iconst 0, 1) := by decide +kernel
theorem dX9_freeSilo_1 : decode cX9_freeSilo 1 = .ok (.istore_n 1, 1) := by decide +kernel
theorem dX9_freeSilo_2 : decode cX9_freeSilo 2 = .ok (.iload_n 1, 1) := by decide +kernel
theorem dX9_freeSilo_3 : decode cX9_freeSilo 3 = .ok (.i2l, 1) := by decide +kernel
theorem dX9_freeSilo_4 : decode cX9_freeSilo 4 = .ok (.aload_n 0, 1) := by decide +kernel
theorem dX9_freeSilo_5 : decode cX9_freeSilo 5 = .ok (.getfield 7, 3) := by decide +kernel
theorem dX9_freeSilo_8 : decode cX9_freeSilo 8 = .ok (.sipush 1880, 3) := by decide +kernel
theorem dX9_freeSilo_11 : decode cX9_freeSilo 11 = .ok (.laload, 1) := by decide +kernel
theorem dX9_freeSilo_12 : decode cX9_freeSilo 12 = .ok (.lcmp, 1) := by decide +kernel
theorem dX9_freeSilo_13 : decode cX9_freeSilo 13 = .ok (.ifCond .ge 33, 3) := by decide +kernel
theorem dX9_freeSilo_16 : decode cX9_freeSilo 16 = .ok (.aload_n 0, 1) := by decide +kernel
theorem dX9_freeSilo_17 : decode cX9_freeSilo 17 = .ok (.getfield 7, 3) := by decide +kernel
theorem dX9_freeSilo_20 : decode cX9_freeSilo 20 = .ok (.bipush 47, 2) := by decide +kernel
theorem dX9_freeSilo_22 : decode cX9_freeSilo 22 = .ok (.iload_n 1, 1) := by decide +kernel
theorem dX9_freeSilo_23 : decode cX9_freeSilo 23 = .ok (.iadd, 1) := by decide +kernel
theorem dX9_freeSilo_24 : decode cX9_freeSilo 24 = .ok (.laload, 1) := by decide +kernel
theorem dX9_freeSilo_25 : decode cX9_freeSilo 25 = .ok (.aload_n 0, 1) := by decide +kernel
theorem dX9_freeSilo_26 : decode cX9_freeSilo 26 = .ok (.getfield 7, 3) := by decide +kernel
theorem dX9_freeSilo_29 : decode cX9_freeSilo 29 = .ok (.bipush 32, 2) := by decide +kernel
theorem dX9_freeSilo_31 : decode cX9_freeSilo 31 = .ok (.iload_n 1, 1) := by decide +kernel
theorem dX9_freeSilo_32 : decode cX9_freeSilo 32 = .ok (.iadd, 1) := by decide +kernel
theorem dX9_freeSilo_33 : decode cX9_freeSilo 33 = .ok (.laload, 1) := by decide +kernel
theorem dX9_freeSilo_34 : decode cX9_freeSilo 34 = .ok (.lcmp, 1) := by decide +kernel
theorem dX9_freeSilo_35 : decode cX9_freeSilo 35 = .ok (.ifCond .ge 5, 3) := by decide +kernel
theorem dX9_freeSilo_38 : decode cX9_freeSilo 38 = .ok (.iload_n 1, 1) := by decide +kernel
theorem dX9_freeSilo_39 : decode cX9_freeSilo 39 = .ok (.ireturn, 1) := by decide +kernel
theorem dX9_freeSilo_40 : decode cX9_freeSilo 40 = .ok (.iinc 1 1, 3) := by decide +kernel
theorem dX9_freeSilo_43 : decode cX9_freeSilo 43 = .ok (.goto (-41), 3) := by decide +kernel
theorem dX9_freeSilo_46 : decode cX9_freeSilo 46 = .ok (.iconst (-1), 1) := by decide +kernel
theorem dX9_freeSilo_47 : decode cX9_freeSilo 47 = .ok (.ireturn, 1) := by decide +kernel
theorem dX9_produce_0 : decode cX9_produce 0 = .ok (.iconst 0, 1) := by decide +kernel
theorem dX9_produce_1 : decode cX9_produce 1 = .ok (.istore_n 1, 1) := by decide +kernel
theorem dX9_produce_2 : decode cX9_produce 2 = .ok (.iload_n 1, 1) := by decide +kernel
theorem dX9_produce_3 : decode cX9_produce 3 = .ok (.i2l, 1) := by decide +kernel
theorem dX9_produce_4 : decode cX9_produce 4 = .ok (.aload_n 0, 1) := by decide +kernel
theorem dX9_produce_5 : decode cX9_produce 5 = .ok (.getfield 7, 3) := by decide +kernel
theorem dX9_produce_8 : decode cX9_produce 8 = .ok (.iconst 1, 1) := by decide +kernel
theorem dX9_produce_9 : decode cX9_produce 9 = .ok (.laload, 1) := by decide +kernel
theorem dX9_produce_10 : decode cX9_produce 10 = .ok (.lcmp, 1) := by decide +kernel
theorem dX9_produce_11 : decode cX9_produce 11 = .ok (.ifCond .ge 136, 3) := by decide +kernel
theorem dX9_produce_14 : decode cX9_produce 14 = .ok (.aload_n 0, 1) := by decide +kernel
theorem dX9_produce_15 : decode cX9_produce 15 = .ok (.invokevirtual 114, 3) := by decide +kernel
theorem dX9_produce_18 : decode cX9_produce 18 = .ok (.istore_n 2, 1) := by decide +kernel
theorem dX9_produce_19 : decode cX9_produce 19 = .ok (.iload_n 2, 1) := by decide +kernel
theorem dX9_produce_20 : decode cX9_produce 20 = .ok (.iconst (-1), 1) := by decide +kernel
theorem dX9_produce_21 : decode cX9_produce 21 = .ok (.if_icmp .ne 18, 3) := by decide +kernel
theorem dX9_produce_24 : decode cX9_produce 24 = .ok (.aload_n 0, 1) := by decide +kernel
theorem dX9_produce_25 : decode cX9_produce 25 = .ok (.getfield 7, 3) := by decide +kernel
theorem dX9_produce_28 : decode cX9_produce 28 = .ok (.sipush 1879, 3) := by decide +kernel
theorem dX9_produce_31 : decode cX9_produce 31 = .ok (.dup2, 1) := by decide +kernel
theorem dX9_produce_32 : decode cX9_produce 32 = .ok (.laload, 1) := by decide +kernel
theorem dX9_produce_33 : decode cX9_produce 33 = .ok (.lconst 1, 1) := by decide +kernel
theorem dX9_produce_34 : decode cX9_produce 34 = .ok (.ladd, 1) := by decide +kernel
theorem dX9_produce_35 : decode cX9_produce 35 = .ok (.lastore, 1) := by decide +kernel
theorem dX9_produce_36 : decode cX9_produce 36 = .ok (.goto 105, 3) := by decide +kernel
theorem dX9_produce_39 : decode cX9_produce 39 = .ok (.bipush 30, 2) := by decide +kernel
theorem dX9_produce_41 : decode cX9_produce 41 = .ok (.iload_n 2, 1) := by decide +kernel
theorem dX9_produce_42 : decode cX9_produce 42 = .ok (.imul, 1) := by decide +kernel
theorem dX9_produce_43 : decode cX9_produce 43 = .ok (.aload_n 0, 1) := by decide +kernel
theorem dX9_produce_44 : decode cX9_produce 44 = .ok (.getfield 7, 3) := by decide +kernel
theorem dX9_produce_47 : decode cX9_produce 47 = .ok (.bipush 47, 2) := by decide +kernel
theorem dX9_produce_49 : decode cX9_produce 49 = .ok (.iload_n 2, 1) := by decide +kernel
theorem dX9_produce_50 : decode cX9_produce 50 = .ok (.iadd, 1) := by decide +kernel
theorem dX9_produce_51 : decode cX9_produce 51 = .ok (.laload, 1) := by decide +kernel
theorem dX9_produce_52 : decode cX9_produce 52 = .ok (.l2i, 1) := by decide +kernel
theorem dX9_produce_53 : decode cX9_produce 53 = .ok (.iadd, 1) := by decide +kernel
theorem dX9_produce_54 : decode cX9_produce 54 = .ok (.istore_n 3, 1) := by decide +kernel
theorem dX9_produce_55 : decode cX9_produce 55 = .ok (.aload_n 0, 1) := by decide +kernel
theorem dX9_produce_56 : decode cX9_produce 56 = .ok (.getfield 7, 3) := by decide +kernel
theorem dX9_produce_59 : decode cX9_produce 59 = .ok (.bipush 57, 2) := by decide +kernel
theorem dX9_produce_61 : decode cX9_produce 61 = .ok (.iload_n 3, 1) := by decide +kernel
theorem dX9_produce_62 : decode cX9_produce 62 = .ok (.iadd, 1) := by decide +kernel
theorem dX9_produce_63 : decode cX9_produce 63 = .ok (.aload_n 0, 1) := by decide +kernel
theorem dX9_produce_64 : decode cX9_produce 64 = .ok (.getfield 7, 3) := by decide +kernel
theorem dX9_produce_67 : decode cX9_produce 67 = .ok (.sipush 1887, 3) := by decide +kernel
theorem dX9_produce_70 : decode cX9_produce 70 = .ok (.laload, 1) := by decide +kernel
theorem dX9_produce_71 : decode cX9_produce 71 = .ok (.lastore, 1) := by decide +kernel
theorem dX9_produce_72 : decode cX9_produce 72 = .ok (.aload_n 0, 1) := by decide +kernel
theorem dX9_produce_73 : decode cX9_produce 73 = .ok (.getfield 7, 3) := by decide +kernel
theorem dX9_produce_76 : decode cX9_produce 76 = .ok (.sipush 207, 3) := by decide +kernel
theorem dX9_produce_79 : decode cX9_produce 79 = .ok (.iload_n 3, 1) := by decide +kernel
theorem dX9_produce_80 : decode cX9_produce 80 = .ok (.iadd, 1) := by decide +kernel
theorem dX9_produce_81 : decode cX9_produce 81 = .ok (.aload_n 0, 1) := by decide +kernel
theorem dX9_produce_82 : decode cX9_produce 82 = .ok (.getfield 7, 3) := by decide +kernel
theorem dX9_produce_85 : decode cX9_produce 85 = .ok (.iconst 0, 1) := by decide +kernel
theorem dX9_produce_86 : decode cX9_produce 86 = .ok (.laload, 1) := by decide +kernel
theorem dX9_produce_87 : decode cX9_produce 87 = .ok (.lastore, 1) := by decide +kernel
theorem dX9_produce_88 : decode cX9_produce 88 = .ok (.aload_n 0, 1) := by decide +kernel
theorem dX9_produce_89 : decode cX9_produce 89 = .ok (.getfield 7, 3) := by decide +kernel
theorem dX9_produce_92 : decode cX9_produce 92 = .ok (.sipush 357, 3) := by decide +kernel
theorem dX9_produce_95 : decode cX9_produce 95 = .ok (.iload_n 3, 1) := by decide +kernel
theorem dX9_produce_96 : decode cX9_produce 96 = .ok (.iadd, 1) := by decide +kernel
theorem dX9_produce_97 : decode cX9_produce 97 = .ok (.lconst 0, 1) := by decide +kernel
theorem dX9_produce_98 : decode cX9_produce 98 = .ok (.lastore, 1) := by decide +kernel
theorem dX9_produce_99 : decode cX9_produce 99 = .ok (.aload_n 0, 1) := by decide +kernel
theorem dX9_produce_100 : decode cX9_produce 100 = .ok (.getfield 7, 3) := by decide +kernel
theorem dX9_produce_103 : decode cX9_produce 103 = .ok (.sipush 1887, 3) := by decide +kernel
theorem dX9_produce_106 : decode cX9_produce 106 = .ok (.dup2, 1) := by decide +kernel
theorem dX9_produce_107 : decode cX9_produce 107 = .ok (.laload, 1) := by decide +kernel
theorem dX9_produce_108 : decode cX9_produce 108 = .ok (.lconst 1, 1) := by decide +kernel
theorem dX9_produce_109 : decode cX9_produce 109 = .ok (.ladd, 1) := by decide +kernel
theorem dX9_produce_110 : decode cX9_produce 110 = .ok (.lastore, 1) := by decide +kernel
theorem dX9_produce_111 : decode cX9_produce 111 = .ok (.aload_n 0, 1) := by decide +kernel
theorem dX9_produce_112 : decode cX9_produce 112 = .ok (.getfield 7, 3) := by decide +kernel
theorem dX9_produce_115 : decode cX9_produce 115 = .ok (.bipush 47, 2) := by decide +kernel
theorem dX9_produce_117 : decode cX9_produce 117 = .ok (.iload_n 2, 1) := by decide +kernel
theorem dX9_produce_118 : decode cX9_produce 118 = .ok (.iadd, 1) := by decide +kernel
theorem dX9_produce_119 : decode cX9_produce 119 = .ok (.dup2, 1) := by decide +kernel
theorem dX9_produce_120 : decode cX9_produce 120 = .ok (.laload, 1) := by decide +kernel
theorem dX9_produce_121 : decode cX9_produce 121 = .ok (.lconst 1, 1) := by decide +kernel
theorem dX9_produce_122 : decode cX9_produce 122 = .ok (.ladd, 1) := by decide +kernel
theorem dX9_produce_123 : decode cX9_produce 123 = .ok (.lastore, 1) := by decide +kernel
theorem dX9_produce_124 : decode cX9_produce 124 = .ok (.aload_n 0, 1) := by decide +kernel
theorem dX9_produce_125 : decode cX9_produce 125 = .ok (.getfield 7, 3) := by decide +kernel
theorem dX9_produce_128 : decode cX9_produce 128 = .ok (.sipush 1876, 3) := by decide +kernel
theorem dX9_produce_131 : decode cX9_produce 131 = .ok (.dup2, 1) := by decide +kernel
theorem dX9_produce_132 : decode cX9_produce 132 = .ok (.laload, 1) := by decide +kernel
theorem dX9_produce_133 : decode cX9_produce 133 = .ok (.aload_n 0, 1) := by decide +kernel
theorem dX9_produce_134 : decode cX9_produce 134 = .ok (.getfield 7, 3) := by decide +kernel
theorem dX9_produce_137 : decode cX9_produce 137 = .ok (.iconst 0, 1) := by decide +kernel
theorem dX9_produce_138 : decode cX9_produce 138 = .ok (.laload, 1) := by decide +kernel
theorem dX9_produce_139 : decode cX9_produce 139 = .ok (.ladd, 1) := by decide +kernel
theorem dX9_produce_140 : decode cX9_produce 140 = .ok (.lastore, 1) := by decide +kernel
theorem dX9_produce_141 : decode cX9_produce 141 = .ok (.iinc 1 1, 3) := by decide +kernel
theorem dX9_produce_144 : decode cX9_produce 144 = .ok (.goto (-142), 3) := by decide +kernel
theorem dX9_produce_147 : decode cX9_produce 147 = .ok (.return_, 1) := by decide +kernel
theorem dX9_remaining_0 : decode cX9_remaining 0 = .ok (.aload_n 0, 1) := by decide +kernel
theorem dX9_remaining_1 : decode cX9_remaining 1 = .ok (.getfield 7, 3) := by decide +kernel
theorem dX9_remaining_4 : decode cX9_remaining 4 = .ok (.sipush 731, 3) := by decide +kernel
theorem dX9_remaining_7 : decode cX9_remaining 7 = .ok (.iload_n 1, 1) := by decide +kernel
theorem dX9_remaining_8 : decode cX9_remaining 8 = .ok (.iadd, 1) := by decide +kernel
theorem dX9_remaining_9 : decode cX9_remaining 9 = .ok (.laload, 1) := by decide +kernel
theorem dX9_remaining_10 : decode cX9_remaining 10 = .ok (.aload_n 0, 1) := by decide +kernel
theorem dX9_remaining_11 : decode cX9_remaining 11 = .ok (.getfield 7, 3) := by decide +kernel
theorem dX9_remaining_14 : decode cX9_remaining 14 = .ok (.sipush 931, 3) := by decide +kernel
theorem dX9_remaining_17 : decode cX9_remaining 17 = .ok (.iload_n 1, 1) := by decide +kernel
theorem dX9_remaining_18 : decode cX9_remaining 18 = .ok (.iadd, 1) := by decide +kernel
theorem dX9_remaining_19 : decode cX9_remaining 19 = .ok (.laload, 1) := by decide +kernel
theorem dX9_remaining_20 : decode cX9_remaining 20 = .ok (.lsub, 1) := by decide +kernel
theorem dX9_remaining_21 : decode cX9_remaining 21 = .ok (.lstore_n 2, 1) := by decide +kernel
theorem dX9_remaining_22 : decode cX9_remaining 22 = .ok (.lload_n 2, 1) := by decide +kernel
theorem dX9_remaining_23 : decode cX9_remaining 23 = .ok (.lconst 0, 1) := by decide +kernel
theorem dX9_remaining_24 : decode cX9_remaining 24 = .ok (.lcmp, 1) := by decide +kernel
theorem dX9_remaining_25 : decode cX9_remaining 25 = .ok (.ifCond .ge 7, 3) := by decide +kernel
theorem dX9_remaining_28 : decode cX9_remaining 28 = .ok (.lconst 0, 1) := by decide +kernel
theorem dX9_remaining_29 : decode cX9_remaining 29 = .ok (.goto 4, 3) := by decide +kernel
theorem dX9_remaining_32 : decode cX9_remaining 32 = .ok (.lload_n 2, 1) := by decide +kernel
theorem dX9_remaining_33 : decode cX9_remaining 33 = .ok (.lreturn, 1) := by decide +kernel
theorem dX9_catchOf_0 : decode cX9_catchOf 0 = .ok (.aload_n 0, 1) := by decide +kernel
theorem dX9_catchOf_1 : decode cX9_catchOf 1 = .ok (.getfield 7, 3) := by decide +kernel
theorem dX9_catchOf_4 : decode cX9_catchOf 4 = .ok (.sipush 507, 3) := by decide +kernel
theorem dX9_catchOf_7 : decode cX9_catchOf 7 = .ok (.aload_n 0, 1) := by decide +kernel
theorem dX9_catchOf_8 : decode cX9_catchOf 8 = .ok (.getfield 7, 3) := by decide +kernel
theorem dX9_catchOf_11 : decode cX9_catchOf 11 = .ok (.sipush 531, 3) := by decide +kernel
theorem dX9_catchOf_14 : decode cX9_catchOf 14 = .ok (.iload_n 1, 1) := by decide +kernel
theorem dX9_catchOf_15 : decode cX9_catchOf 15 = .ok (.iadd, 1) := by decide +kernel
theorem dX9_catchOf_16 : decode cX9_catchOf 16 = .ok (.laload, 1) := by decide +kernel
theorem dX9_catchOf_17 : decode cX9_catchOf 17 = .ok (.l2i, 1) := by decide +kernel
theorem dX9_catchOf_18 : decode cX9_catchOf 18 = .ok (.iadd, 1) := by decide +kernel
theorem dX9_catchOf_19 : decode cX9_catchOf 19 = .ok (.laload, 1) := by decide +kernel
theorem dX9_catchOf_20 : decode cX9_catchOf 20 = .ok (.lreturn, 1) := by decide +kernel
theorem dX9_isBefore_0 : decode cX9_isBefore 0 = .ok (.lconst 0, 1) := by decide +kernel
theorem dX9_isBefore_1 : decode cX9_isBefore 1 = .ok (.lstore_n 3, 1) := by decide +kernel
theorem dX9_isBefore_2 : decode cX9_isBefore 2 = .ok (.lconst 0, 1) := by decide +kernel
theorem dX9_isBefore_3 : decode cX9_isBefore 3 = .ok (.lstore 5, 2) := by decide +kernel
theorem dX9_isBefore_5 : decode cX9_isBefore 5 = .ok (.aload_n 0, 1) := by decide +kernel
theorem dX9_isBefore_6 : decode cX9_isBefore 6 = .ok (.getfield 7, 3) := by decide +kernel
theorem dX9_isBefore_9 : decode cX9_isBefore 9 = .ok (.iconst 2, 1) := by decide +kernel
theorem dX9_isBefore_10 : decode cX9_isBefore 10 = .ok (.laload, 1) := by decide +kernel
theorem dX9_isBefore_11 : decode cX9_isBefore 11 = .ok (.lconst 1, 1) := by decide +kernel
theorem dX9_isBefore_12 : decode cX9_isBefore 12 = .ok (.lcmp, 1) := by decide +kernel
theorem dX9_isBefore_13 : decode cX9_isBefore 13 = .ok (.ifCond .ne 19, 3) := by decide +kernel
theorem dX9_isBefore_16 : decode cX9_isBefore 16 = .ok (.aload_n 0, 1) := by decide +kernel
theorem dX9_isBefore_17 : decode cX9_isBefore 17 = .ok (.iload_n 2, 1) := by decide +kernel
theorem dX9_isBefore_18 : decode cX9_isBefore 18 = .ok (.invokevirtual 118, 3) := by decide +kernel
theorem dX9_isBefore_21 : decode cX9_isBefore 21 = .ok (.lstore_n 3, 1) := by decide +kernel
theorem dX9_isBefore_22 : decode cX9_isBefore 22 = .ok (.aload_n 0, 1) := by decide +kernel
theorem dX9_isBefore_23 : decode cX9_isBefore 23 = .ok (.iload_n 1, 1) := by decide +kernel
theorem dX9_isBefore_24 : decode cX9_isBefore 24 = .ok (.invokevirtual 118, 3) := by decide +kernel
theorem dX9_isBefore_27 : decode cX9_isBefore 27 = .ok (.lstore 5, 2) := by decide +kernel
theorem dX9_isBefore_29 : decode cX9_isBefore 29 = .ok (.goto 80, 3) := by decide +kernel
theorem dX9_isBefore_32 : decode cX9_isBefore 32 = .ok (.aload_n 0, 1) := by decide +kernel
theorem dX9_isBefore_33 : decode cX9_isBefore 33 = .ok (.getfield 7, 3) := by decide +kernel
theorem dX9_isBefore_36 : decode cX9_isBefore 36 = .ok (.iconst 2, 1) := by decide +kernel
theorem dX9_isBefore_37 : decode cX9_isBefore 37 = .ok (.laload, 1) := by decide +kernel
theorem dX9_isBefore_38 : decode cX9_isBefore 38 = .ok (.ldc2_w 31, 3) := by decide +kernel
theorem dX9_isBefore_41 : decode cX9_isBefore 41 = .ok (.lcmp, 1) := by decide +kernel
theorem dX9_isBefore_42 : decode cX9_isBefore 42 = .ok (.ifCond .ne 29, 3) := by decide +kernel
theorem dX9_isBefore_45 : decode cX9_isBefore 45 = .ok (.aload_n 0, 1) := by decide +kernel
theorem dX9_isBefore_46 : decode cX9_isBefore 46 = .ok (.getfield 7, 3) := by decide +kernel
theorem dX9_isBefore_49 : decode cX9_isBefore 49 = .ok (.sipush 1131, 3) := by decide +kernel
theorem dX9_isBefore_52 : decode cX9_isBefore 52 = .ok (.iload_n 1, 1) := by decide +kernel
theorem dX9_isBefore_53 : decode cX9_isBefore 53 = .ok (.iadd, 1) := by decide +kernel
theorem dX9_isBefore_54 : decode cX9_isBefore 54 = .ok (.laload, 1) := by decide +kernel
theorem dX9_isBefore_55 : decode cX9_isBefore 55 = .ok (.lstore_n 3, 1) := by decide +kernel
theorem dX9_isBefore_56 : decode cX9_isBefore 56 = .ok (.aload_n 0, 1) := by decide +kernel
theorem dX9_isBefore_57 : decode cX9_isBefore 57 = .ok (.getfield 7, 3) := by decide +kernel
theorem dX9_isBefore_60 : decode cX9_isBefore 60 = .ok (.sipush 1131, 3) := by decide +kernel
theorem dX9_isBefore_63 : decode cX9_isBefore 63 = .ok (.iload_n 2, 1) := by decide +kernel
theorem dX9_isBefore_64 : decode cX9_isBefore 64 = .ok (.iadd, 1) := by decide +kernel
theorem dX9_isBefore_65 : decode cX9_isBefore 65 = .ok (.laload, 1) := by decide +kernel
theorem dX9_isBefore_66 : decode cX9_isBefore 66 = .ok (.lstore 5, 2) := by decide +kernel
theorem dX9_isBefore_68 : decode cX9_isBefore 68 = .ok (.goto 41, 3) := by decide +kernel
theorem dX9_isBefore_71 : decode cX9_isBefore 71 = .ok (.aload_n 0, 1) := by decide +kernel
theorem dX9_isBefore_72 : decode cX9_isBefore 72 = .ok (.getfield 7, 3) := by decide +kernel
theorem dX9_isBefore_75 : decode cX9_isBefore 75 = .ok (.iconst 2, 1) := by decide +kernel
theorem dX9_isBefore_76 : decode cX9_isBefore 76 = .ok (.laload, 1) := by decide +kernel
theorem dX9_isBefore_77 : decode cX9_isBefore 77 = .ok (.ldc2_w 56, 3) := by decide +kernel
theorem dX9_isBefore_80 : decode cX9_isBefore 80 = .ok (.lcmp, 1) := by decide +kernel
theorem dX9_isBefore_81 : decode cX9_isBefore 81 = .ok (.ifCond .ne 28, 3) := by decide +kernel
theorem dX9_isBefore_84 : decode cX9_isBefore 84 = .ok (.aload_n 0, 1) := by decide +kernel
theorem dX9_isBefore_85 : decode cX9_isBefore 85 = .ok (.iload_n 2, 1) := by decide +kernel
theorem dX9_isBefore_86 : decode cX9_isBefore 86 = .ok (.invokevirtual 118, 3) := by decide +kernel
theorem dX9_isBefore_89 : decode cX9_isBefore 89 = .ok (.aload_n 0, 1) := by decide +kernel
theorem dX9_isBefore_90 : decode cX9_isBefore 90 = .ok (.iload_n 1, 1) := by decide +kernel
theorem dX9_isBefore_91 : decode cX9_isBefore 91 = .ok (.invokevirtual 122, 3) := by decide +kernel
theorem dX9_isBefore_94 : decode cX9_isBefore 94 = .ok (.lmul, 1) := by decide +kernel
theorem dX9_isBefore_95 : decode cX9_isBefore 95 = .ok (.lstore_n 3, 1) := by decide +kernel
theorem dX9_isBefore_96 : decode cX9_isBefore 96 = .ok (.aload_n 0, 1) := by decide +kernel
theorem dX9_isBefore_97 : decode cX9_isBefore 97 = .ok (.iload_n 1, 1) := by decide +kernel
theorem dX9_isBefore_98 : decode cX9_isBefore 98 = .ok (.invokevirtual 118, 3) := by decide +kernel
theorem dX9_isBefore_101 : decode cX9_isBefore 101 = .ok (.aload_n 0, 1) := by decide +kernel
theorem dX9_isBefore_102 : decode cX9_isBefore 102 = .ok (.iload_n 2, 1) := by decide +kernel
theorem dX9_isBefore_103 : decode cX9_isBefore 103 = .ok (.invokevirtual 122, 3) := by decide +kernel
theorem dX9_isBefore_106 : decode cX9_isBefore 106 = .ok (.lmul, 1) := by decide +kernel
theorem dX9_isBefore_107 : decode cX9_isBefore 107 = .ok (.lstore 5, 2) := by decide +kernel
theorem dX9_isBefore_109 : decode cX9_isBefore 109 = .ok (.lload_n 3, 1) := by decide +kernel
theorem dX9_isBefore_110 : decode cX9_isBefore 110 = .ok (.lload 5, 2) := by decide +kernel
theorem dX9_isBefore_112 : decode cX9_isBefore 112 = .ok (.lcmp, 1) := by decide +kernel
theorem dX9_isBefore_113 : decode cX9_isBefore 113 = .ok (.ifCond .lt 15, 3) := by decide +kernel
theorem dX9_isBefore_116 : decode cX9_isBefore 116 = .ok (.lload_n 3, 1) := by decide +kernel
theorem dX9_isBefore_117 : decode cX9_isBefore 117 = .ok (.lload 5, 2) := by decide +kernel
theorem dX9_isBefore_119 : decode cX9_isBefore 119 = .ok (.lcmp, 1) := by decide +kernel
theorem dX9_isBefore_120 : decode cX9_isBefore 120 = .ok (.ifCond .ne 12, 3) := by decide +kernel
theorem dX9_isBefore_123 : decode cX9_isBefore 123 = .ok (.iload_n 1, 1) := by decide +kernel
theorem dX9_isBefore_124 : decode cX9_isBefore 124 = .ok (.iload_n 2, 1) := by decide +kernel
theorem dX9_isBefore_125 : decode cX9_isBefore 125 = .ok (.if_icmp .ge 7, 3) := by decide +kernel
theorem dX9_isBefore_128 : decode cX9_isBefore 128 = .ok (.iconst 1, 1) := by decide +kernel
theorem dX9_isBefore_129 : decode cX9_isBefore 129 = .ok (.goto 4, 3) := by decide +kernel
theorem dX9_isBefore_132 : decode cX9_isBefore 132 = .ok (.iconst 0, 1) := by decide +kernel
theorem dX9_isBefore_133 : decode cX9_isBefore 133 = .ok (.ireturn, 1) := by decide +kernel
theorem dX9_aheadOf_0 : decode cX9_aheadOf 0 = .ok (.iconst 0, 1) := by decide +kernel
theorem dX9_aheadOf_1 : decode cX9_aheadOf 1 = .ok (.istore_n 2, 1) := by decide +kernel
theorem dX9_aheadOf_2 : decode cX9_aheadOf 2 = .ok (.iconst 0, 1) := by decide +kernel
theorem dX9_aheadOf_3 : decode cX9_aheadOf 3 = .ok (.istore_n 3, 1) := by decide +kernel
theorem dX9_aheadOf_4 : decode cX9_aheadOf 4 = .ok (.iload_n 3, 1) := by decide +kernel
theorem dX9_aheadOf_5 : decode cX9_aheadOf 5 = .ok (.i2l, 1) := by decide +kernel
theorem dX9_aheadOf_6 : decode cX9_aheadOf 6 = .ok (.aload_n 0, 1) := by decide +kernel
theorem dX9_aheadOf_7 : decode cX9_aheadOf 7 = .ok (.getfield 7, 3) := by decide +kernel
theorem dX9_aheadOf_10 : decode cX9_aheadOf 10 = .ok (.sipush 1882, 3) := by decide +kernel
theorem dX9_aheadOf_13 : decode cX9_aheadOf 13 = .ok (.laload, 1) := by decide +kernel
theorem dX9_aheadOf_14 : decode cX9_aheadOf 14 = .ok (.lcmp, 1) := by decide +kernel
theorem dX9_aheadOf_15 : decode cX9_aheadOf 15 = .ok (.ifCond .ge 36, 3) := by decide +kernel
theorem dX9_aheadOf_18 : decode cX9_aheadOf 18 = .ok (.aload_n 0, 1) := by decide +kernel
theorem dX9_aheadOf_19 : decode cX9_aheadOf 19 = .ok (.getfield 7, 3) := by decide +kernel
theorem dX9_aheadOf_22 : decode cX9_aheadOf 22 = .ok (.sipush 1531, 3) := by decide +kernel
theorem dX9_aheadOf_25 : decode cX9_aheadOf 25 = .ok (.iload_n 3, 1) := by decide +kernel
theorem dX9_aheadOf_26 : decode cX9_aheadOf 26 = .ok (.iadd, 1) := by decide +kernel
theorem dX9_aheadOf_27 : decode cX9_aheadOf 27 = .ok (.laload, 1) := by decide +kernel
theorem dX9_aheadOf_28 : decode cX9_aheadOf 28 = .ok (.lconst 0, 1) := by decide +kernel
theorem dX9_aheadOf_29 : decode cX9_aheadOf 29 = .ok (.lcmp, 1) := by decide +kernel
theorem dX9_aheadOf_30 : decode cX9_aheadOf 30 = .ok (.ifCond .ne 15, 3) := by decide +kernel
theorem dX9_aheadOf_33 : decode cX9_aheadOf 33 = .ok (.aload_n 0, 1) := by decide +kernel
theorem dX9_aheadOf_34 : decode cX9_aheadOf 34 = .ok (.iload_n 3, 1) := by decide +kernel
theorem dX9_aheadOf_35 : decode cX9_aheadOf 35 = .ok (.iload_n 1, 1) := by decide +kernel
theorem dX9_aheadOf_36 : decode cX9_aheadOf 36 = .ok (.invokevirtual 125, 3) := by decide +kernel
theorem dX9_aheadOf_39 : decode cX9_aheadOf 39 = .ok (.ifCond .eq 6, 3) := by decide +kernel
theorem dX9_aheadOf_42 : decode cX9_aheadOf 42 = .ok (.iinc 2 1, 3) := by decide +kernel
theorem dX9_aheadOf_45 : decode cX9_aheadOf 45 = .ok (.iinc 3 1, 3) := by decide +kernel
theorem dX9_aheadOf_48 : decode cX9_aheadOf 48 = .ok (.goto (-44), 3) := by decide +kernel
theorem dX9_aheadOf_51 : decode cX9_aheadOf 51 = .ok (.iload_n 2, 1) := by decide +kernel
theorem dX9_aheadOf_52 : decode cX9_aheadOf 52 = .ok (.ireturn, 1) := by decide +kernel
theorem dX9_stored_0 : decode cX9_stored 0 = .ok (.lconst 0, 1) := by decide +kernel
theorem dX9_stored_1 : decode cX9_stored 1 = .ok (.lstore_n 1, 1) := by decide +kernel
theorem dX9_stored_2 : decode cX9_stored 2 = .ok (.iconst 0, 1) := by decide +kernel
theorem dX9_stored_3 : decode cX9_stored 3 = .ok (.istore_n 3, 1) := by decide +kernel
theorem dX9_stored_4 : decode cX9_stored 4 = .ok (.iload_n 3, 1) := by decide +kernel
theorem dX9_stored_5 : decode cX9_stored 5 = .ok (.i2l, 1) := by decide +kernel
theorem dX9_stored_6 : decode cX9_stored 6 = .ok (.aload_n 0, 1) := by decide +kernel
theorem dX9_stored_7 : decode cX9_stored 7 = .ok (.getfield 7, 3) := by decide +kernel
theorem dX9_stored_10 : decode cX9_stored 10 = .ok (.sipush 1880, 3) := by decide +kernel
theorem dX9_stored_13 : decode cX9_stored 13 = .ok (.laload, 1) := by decide +kernel
theorem dX9_stored_14 : decode cX9_stored 14 = .ok (.lcmp, 1) := by decide +kernel
theorem dX9_stored_15 : decode cX9_stored 15 = .ok (.ifCond .ge 53, 3) := by decide +kernel
theorem dX9_stored_18 : decode cX9_stored 18 = .ok (.iconst 0, 1) := by decide +kernel
theorem dX9_stored_19 : decode cX9_stored 19 = .ok (.istore 4, 2) := by decide +kernel
theorem dX9_stored_21 : decode cX9_stored 21 = .ok (.iload 4, 2) := by decide +kernel
theorem dX9_stored_23 : decode cX9_stored 23 = .ok (.i2l, 1) := by decide +kernel
theorem dX9_stored_24 : decode cX9_stored 24 = .ok (.aload_n 0, 1) := by decide +kernel
theorem dX9_stored_25 : decode cX9_stored 25 = .ok (.getfield 7, 3) := by decide +kernel
theorem dX9_stored_28 : decode cX9_stored 28 = .ok (.bipush 47, 2) := by decide +kernel
theorem dX9_stored_30 : decode cX9_stored 30 = .ok (.iload_n 3, 1) := by decide +kernel
theorem dX9_stored_31 : decode cX9_stored 31 = .ok (.iadd, 1) := by decide +kernel
theorem dX9_stored_32 : decode cX9_stored 32 = .ok (.laload, 1) := by decide +kernel
theorem dX9_stored_33 : decode cX9_stored 33 = .ok (.lcmp, 1) := by decide +kernel
theorem dX9_stored_34 : decode cX9_stored 34 = .ok (.ifCond .ge 28, 3) := by decide +kernel
theorem dX9_stored_37 : decode cX9_stored 37 = .ok (.lload_n 1, 1) := by decide +kernel
theorem dX9_stored_38 : decode cX9_stored 38 = .ok (.aload_n 0, 1) := by decide +kernel
theorem dX9_stored_39 : decode cX9_stored 39 = .ok (.getfield 7, 3) := by decide +kernel
theorem dX9_stored_42 : decode cX9_stored 42 = .ok (.sipush 207, 3) := by decide +kernel
theorem dX9_stored_45 : decode cX9_stored 45 = .ok (.bipush 30, 2) := by decide +kernel
theorem dX9_stored_47 : decode cX9_stored 47 = .ok (.iload_n 3, 1) := by decide +kernel
theorem dX9_stored_48 : decode cX9_stored 48 = .ok (.imul, 1) := by decide +kernel
theorem dX9_stored_49 : decode cX9_stored 49 = .ok (.iadd, 1) := by decide +kernel
theorem dX9_stored_50 : decode cX9_stored 50 = .ok (.iload 4, 2) := by decide +kernel
theorem dX9_stored_52 : decode cX9_stored 52 = .ok (.iadd, 1) := by decide +kernel
theorem dX9_stored_53 : decode cX9_stored 53 = .ok (.laload, 1) := by decide +kernel
theorem dX9_stored_54 : decode cX9_stored 54 = .ok (.ladd, 1) := by decide +kernel
theorem dX9_stored_55 : decode cX9_stored 55 = .ok (.lstore_n 1, 1) := by decide +kernel
theorem dX9_stored_56 : decode cX9_stored 56 = .ok (.iinc 4 1, 3) := by decide +kernel
theorem dX9_stored_59 : decode cX9_stored 59 = .ok (.goto (-38), 3) := by decide +kernel
theorem dX9_stored_62 : decode cX9_stored 62 = .ok (.iinc 3 1, 3) := by decide +kernel
theorem dX9_stored_65 : decode cX9_stored 65 = .ok (.goto (-61), 3) := by decide +kernel
theorem dX9_stored_68 : decode cX9_stored 68 = .ok (.lload_n 1, 1) := by decide +kernel
theorem dX9_stored_69 : decode cX9_stored 69 = .ok (.lreturn, 1) := by decide +kernel
theorem dX9_blocks_0 : decode cX9_blocks 0 = .ok (.iconst 0, 1) := by decide +kernel
theorem dX9_blocks_1 : decode cX9_blocks 1 = .ok (.istore_n 1, 1) := by decide +kernel
theorem dX9_blocks_2 : decode cX9_blocks 2 = .ok (.iconst 0, 1) := by decide +kernel
theorem dX9_blocks_3 : decode cX9_blocks 3 = .ok (.istore_n 2, 1) := by decide +kernel
theorem dX9_blocks_4 : decode cX9_blocks 4 = .ok (.iload_n 2, 1) := by decide +kernel
theorem dX9_blocks_5 : decode cX9_blocks 5 = .ok (.i2l, 1) := by decide +kernel
theorem dX9_blocks_6 : decode cX9_blocks 6 = .ok (.aload_n 0, 1) := by decide +kernel
theorem dX9_blocks_7 : decode cX9_blocks 7 = .ok (.getfield 7, 3) := by decide +kernel
theorem dX9_blocks_10 : decode cX9_blocks 10 = .ok (.sipush 1880, 3) := by decide +kernel
theorem dX9_blocks_13 : decode cX9_blocks 13 = .ok (.laload, 1) := by decide +kernel
theorem dX9_blocks_14 : decode cX9_blocks 14 = .ok (.lcmp, 1) := by decide +kernel
theorem dX9_blocks_15 : decode cX9_blocks 15 = .ok (.ifCond .ge 22, 3) := by decide +kernel
theorem dX9_blocks_18 : decode cX9_blocks 18 = .ok (.iload_n 1, 1) := by decide +kernel
theorem dX9_blocks_19 : decode cX9_blocks 19 = .ok (.aload_n 0, 1) := by decide +kernel
theorem dX9_blocks_20 : decode cX9_blocks 20 = .ok (.getfield 7, 3) := by decide +kernel
theorem dX9_blocks_23 : decode cX9_blocks 23 = .ok (.bipush 47, 2) := by decide +kernel
theorem dX9_blocks_25 : decode cX9_blocks 25 = .ok (.iload_n 2, 1) := by decide +kernel
theorem dX9_blocks_26 : decode cX9_blocks 26 = .ok (.iadd, 1) := by decide +kernel
theorem dX9_blocks_27 : decode cX9_blocks 27 = .ok (.laload, 1) := by decide +kernel
theorem dX9_blocks_28 : decode cX9_blocks 28 = .ok (.l2i, 1) := by decide +kernel
theorem dX9_blocks_29 : decode cX9_blocks 29 = .ok (.iadd, 1) := by decide +kernel
theorem dX9_blocks_30 : decode cX9_blocks 30 = .ok (.istore_n 1, 1) := by decide +kernel
theorem dX9_blocks_31 : decode cX9_blocks 31 = .ok (.iinc 2 1, 3) := by decide +kernel
theorem dX9_blocks_34 : decode cX9_blocks 34 = .ok (.goto (-30), 3) := by decide +kernel
theorem dX9_blocks_37 : decode cX9_blocks 37 = .ok (.iload_n 1, 1) := by decide +kernel
theorem dX9_blocks_38 : decode cX9_blocks 38 = .ok (.ireturn, 1) := by decide +kernel
theorem dX9_oldest_0 : decode cX9_oldest 0 = .ok (.iconst (-1), 1) := by decide +kernel
theorem dX9_oldest_1 : decode cX9_oldest 1 = .ok (.istore_n 1, 1) := by decide +kernel
theorem dX9_oldest_2 : decode cX9_oldest 2 = .ok (.iconst 0, 1) := by decide +kernel
theorem dX9_oldest_3 : decode cX9_oldest 3 = .ok (.istore_n 2, 1) := by decide +kernel
theorem dX9_oldest_4 : decode cX9_oldest 4 = .ok (.iload_n 2, 1) := by decide +kernel
theorem dX9_oldest_5 : decode cX9_oldest 5 = .ok (.i2l, 1) := by decide +kernel
theorem dX9_oldest_6 : decode cX9_oldest 6 = .ok (.aload_n 0, 1) := by decide +kernel
theorem dX9_oldest_7 : decode cX9_oldest 7 = .ok (.getfield 7, 3) := by decide +kernel
theorem dX9_oldest_10 : decode cX9_oldest 10 = .ok (.sipush 1880, 3) := by decide +kernel
theorem dX9_oldest_13 : decode cX9_oldest 13 = .ok (.laload, 1) := by decide +kernel
theorem dX9_oldest_14 : decode cX9_oldest 14 = .ok (.lcmp, 1) := by decide +kernel
theorem dX9_oldest_15 : decode cX9_oldest 15 = .ok (.ifCond .ge 71, 3) := by decide +kernel
theorem dX9_oldest_18 : decode cX9_oldest 18 = .ok (.iconst 0, 1) := by decide +kernel
theorem dX9_oldest_19 : decode cX9_oldest 19 = .ok (.istore_n 3, 1) := by decide +kernel
theorem dX9_oldest_20 : decode cX9_oldest 20 = .ok (.iload_n 3, 1) := by decide +kernel
theorem dX9_oldest_21 : decode cX9_oldest 21 = .ok (.i2l, 1) := by decide +kernel
theorem dX9_oldest_22 : decode cX9_oldest 22 = .ok (.aload_n 0, 1) := by decide +kernel
theorem dX9_oldest_23 : decode cX9_oldest 23 = .ok (.getfield 7, 3) := by decide +kernel
theorem dX9_oldest_26 : decode cX9_oldest 26 = .ok (.bipush 47, 2) := by decide +kernel
theorem dX9_oldest_28 : decode cX9_oldest 28 = .ok (.iload_n 2, 1) := by decide +kernel
theorem dX9_oldest_29 : decode cX9_oldest 29 = .ok (.iadd, 1) := by decide +kernel
theorem dX9_oldest_30 : decode cX9_oldest 30 = .ok (.laload, 1) := by decide +kernel
theorem dX9_oldest_31 : decode cX9_oldest 31 = .ok (.lcmp, 1) := by decide +kernel
theorem dX9_oldest_32 : decode cX9_oldest 32 = .ok (.ifCond .ge 48, 3) := by decide +kernel
theorem dX9_oldest_35 : decode cX9_oldest 35 = .ok (.iload_n 1, 1) := by decide +kernel
theorem dX9_oldest_36 : decode cX9_oldest 36 = .ok (.iconst (-1), 1) := by decide +kernel
theorem dX9_oldest_37 : decode cX9_oldest 37 = .ok (.if_icmp .eq 30, 3) := by decide +kernel
theorem dX9_oldest_40 : decode cX9_oldest 40 = .ok (.aload_n 0, 1) := by decide +kernel
theorem dX9_oldest_41 : decode cX9_oldest 41 = .ok (.getfield 7, 3) := by decide +kernel
theorem dX9_oldest_44 : decode cX9_oldest 44 = .ok (.bipush 57, 2) := by decide +kernel
theorem dX9_oldest_46 : decode cX9_oldest 46 = .ok (.bipush 30, 2) := by decide +kernel
theorem dX9_oldest_48 : decode cX9_oldest 48 = .ok (.iload_n 2, 1) := by decide +kernel
theorem dX9_oldest_49 : decode cX9_oldest 49 = .ok (.imul, 1) := by decide +kernel
theorem dX9_oldest_50 : decode cX9_oldest 50 = .ok (.iadd, 1) := by decide +kernel
theorem dX9_oldest_51 : decode cX9_oldest 51 = .ok (.iload_n 3, 1) := by decide +kernel
theorem dX9_oldest_52 : decode cX9_oldest 52 = .ok (.iadd, 1) := by decide +kernel
theorem dX9_oldest_53 : decode cX9_oldest 53 = .ok (.laload, 1) := by decide +kernel
theorem dX9_oldest_54 : decode cX9_oldest 54 = .ok (.aload_n 0, 1) := by decide +kernel
theorem dX9_oldest_55 : decode cX9_oldest 55 = .ok (.getfield 7, 3) := by decide +kernel
theorem dX9_oldest_58 : decode cX9_oldest 58 = .ok (.bipush 57, 2) := by decide +kernel
theorem dX9_oldest_60 : decode cX9_oldest 60 = .ok (.iload_n 1, 1) := by decide +kernel
theorem dX9_oldest_61 : decode cX9_oldest 61 = .ok (.iadd, 1) := by decide +kernel
theorem dX9_oldest_62 : decode cX9_oldest 62 = .ok (.laload, 1) := by decide +kernel
theorem dX9_oldest_63 : decode cX9_oldest 63 = .ok (.lcmp, 1) := by decide +kernel
theorem dX9_oldest_64 : decode cX9_oldest 64 = .ok (.ifCond .ge 10, 3) := by decide +kernel
theorem dX9_oldest_67 : decode cX9_oldest 67 = .ok (.bipush 30, 2) := by decide +kernel
theorem dX9_oldest_69 : decode cX9_oldest 69 = .ok (.iload_n 2, 1) := by decide +kernel
theorem dX9_oldest_70 : decode cX9_oldest 70 = .ok (.imul, 1) := by decide +kernel
theorem dX9_oldest_71 : decode cX9_oldest 71 = .ok (.iload_n 3, 1) := by decide +kernel
theorem dX9_oldest_72 : decode cX9_oldest 72 = .ok (.iadd, 1) := by decide +kernel
theorem dX9_oldest_73 : decode cX9_oldest 73 = .ok (.istore_n 1, 1) := by decide +kernel
theorem dX9_oldest_74 : decode cX9_oldest 74 = .ok (.iinc 3 1, 3) := by decide +kernel
theorem dX9_oldest_77 : decode cX9_oldest 77 = .ok (.goto (-57), 3) := by decide +kernel
theorem dX9_oldest_80 : decode cX9_oldest 80 = .ok (.iinc 2 1, 3) := by decide +kernel
theorem dX9_oldest_83 : decode cX9_oldest 83 = .ok (.goto (-79), 3) := by decide +kernel
theorem dX9_oldest_86 : decode cX9_oldest 86 = .ok (.iload_n 1, 1) := by decide +kernel
theorem dX9_oldest_87 : decode cX9_oldest 87 = .ok (.ireturn, 1) := by decide +kernel
theorem dX9_bandNow_0 : decode cX9_bandNow 0 = .ok (.aload_n 0, 1) := by decide +kernel
theorem dX9_bandNow_1 : decode cX9_bandNow 1 = .ok (.getfield 7, 3) := by decide +kernel
theorem dX9_bandNow_4 : decode cX9_bandNow 4 = .ok (.sipush 1875, 3) := by decide +kernel
theorem dX9_bandNow_7 : decode cX9_bandNow 7 = .ok (.laload, 1) := by decide +kernel
theorem dX9_bandNow_8 : decode cX9_bandNow 8 = .ok (.ldc2_w 98, 3) := by decide +kernel
theorem dX9_bandNow_11 : decode cX9_bandNow 11 = .ok (.lrem, 1) := by decide +kernel
theorem dX9_bandNow_12 : decode cX9_bandNow 12 = .ok (.ldc2_w 129, 3) := by decide +kernel
theorem dX9_bandNow_15 : decode cX9_bandNow 15 = .ok (.ldc2_w 131, 3) := by decide +kernel
theorem dX9_bandNow_18 : decode cX9_bandNow 18 = .ok (.invokestatic 47, 3) := by decide +kernel
theorem dX9_bandNow_21 : decode cX9_bandNow 21 = .ok (.ifCond .eq 7, 3) := by decide +kernel
theorem dX9_bandNow_24 : decode cX9_bandNow 24 = .ok (.iconst 1, 1) := by decide +kernel
theorem dX9_bandNow_25 : decode cX9_bandNow 25 = .ok (.goto 4, 3) := by decide +kernel
theorem dX9_bandNow_28 : decode cX9_bandNow 28 = .ok (.iconst 0, 1) := by decide +kernel
theorem dX9_bandNow_29 : decode cX9_bandNow 29 = .ok (.ireturn, 1) := by decide +kernel
theorem dX9_priceOf_0 : decode cX9_priceOf 0 = .ok (.lload_n 2, 1) := by decide +kernel
theorem dX9_priceOf_1 : decode cX9_priceOf 1 = .ok (.aload_n 0, 1) := by decide +kernel
theorem dX9_priceOf_2 : decode cX9_priceOf 2 = .ok (.getfield 7, 3) := by decide +kernel
theorem dX9_priceOf_5 : decode cX9_priceOf 5 = .ok (.iconst 0, 1) := by decide +kernel
theorem dX9_priceOf_6 : decode cX9_priceOf 6 = .ok (.iload 4, 2) := by decide +kernel
theorem dX9_priceOf_8 : decode cX9_priceOf 8 = .ok (.iconst 1, 1) := by decide +kernel
theorem dX9_priceOf_9 : decode cX9_priceOf 9 = .ok (.if_icmp .ne 7, 3) := by decide +kernel
theorem dX9_priceOf_12 : decode cX9_priceOf 12 = .ok (.iconst 4, 1) := by decide +kernel
theorem dX9_priceOf_13 : decode cX9_priceOf 13 = .ok (.goto 4, 3) := by decide +kernel
theorem dX9_priceOf_16 : decode cX9_priceOf 16 = .ok (.iconst 5, 1) := by decide +kernel
theorem dX9_priceOf_17 : decode cX9_priceOf 17 = .ok (.iadd, 1) := by decide +kernel
theorem dX9_priceOf_18 : decode cX9_priceOf 18 = .ok (.laload, 1) := by decide +kernel
theorem dX9_priceOf_19 : decode cX9_priceOf 19 = .ok (.lmul, 1) := by decide +kernel
theorem dX9_priceOf_20 : decode cX9_priceOf 20 = .ok (.lstore 5, 2) := by decide +kernel
theorem dX9_priceOf_22 : decode cX9_priceOf 22 = .ok (.aload_n 0, 1) := by decide +kernel
theorem dX9_priceOf_23 : decode cX9_priceOf 23 = .ok (.getfield 7, 3) := by decide +kernel
theorem dX9_priceOf_26 : decode cX9_priceOf 26 = .ok (.sipush 507, 3) := by decide +kernel
theorem dX9_priceOf_29 : decode cX9_priceOf 29 = .ok (.iload_n 1, 1) := by decide +kernel
theorem dX9_priceOf_30 : decode cX9_priceOf 30 = .ok (.iadd, 1) := by decide +kernel
theorem dX9_priceOf_31 : decode cX9_priceOf 31 = .ok (.laload, 1) := by decide +kernel
theorem dX9_priceOf_32 : decode cX9_priceOf 32 = .ok (.aload_n 0, 1) := by decide +kernel
theorem dX9_priceOf_33 : decode cX9_priceOf 33 = .ok (.getfield 7, 3) := by decide +kernel
theorem dX9_priceOf_36 : decode cX9_priceOf 36 = .ok (.bipush 6, 2) := by decide +kernel
theorem dX9_priceOf_38 : decode cX9_priceOf 38 = .ok (.laload, 1) := by decide +kernel
theorem dX9_priceOf_39 : decode cX9_priceOf 39 = .ok (.lcmp, 1) := by decide +kernel
theorem dX9_priceOf_40 : decode cX9_priceOf 40 = .ok (.ifCond .lt 23, 3) := by decide +kernel
theorem dX9_priceOf_43 : decode cX9_priceOf 43 = .ok (.lload 5, 2) := by decide +kernel
theorem dX9_priceOf_45 : decode cX9_priceOf 45 = .ok (.lload 5, 2) := by decide +kernel
theorem dX9_priceOf_47 : decode cX9_priceOf 47 = .ok (.aload_n 0, 1) := by decide +kernel
theorem dX9_priceOf_48 : decode cX9_priceOf 48 = .ok (.getfield 7, 3) := by decide +kernel
theorem dX9_priceOf_51 : decode cX9_priceOf 51 = .ok (.bipush 7, 2) := by decide +kernel
theorem dX9_priceOf_53 : decode cX9_priceOf 53 = .ok (.laload, 1) := by decide +kernel
theorem dX9_priceOf_54 : decode cX9_priceOf 54 = .ok (.lmul, 1) := by decide +kernel
theorem dX9_priceOf_55 : decode cX9_priceOf 55 = .ok (.ldc2_w 58, 3) := by decide +kernel
theorem dX9_priceOf_58 : decode cX9_priceOf 58 = .ok (.ldiv, 1) := by decide +kernel
theorem dX9_priceOf_59 : decode cX9_priceOf 59 = .ok (.lsub, 1) := by decide +kernel
theorem dX9_priceOf_60 : decode cX9_priceOf 60 = .ok (.goto 5, 3) := by decide +kernel
theorem dX9_priceOf_63 : decode cX9_priceOf 63 = .ok (.lload 5, 2) := by decide +kernel
theorem dX9_priceOf_65 : decode cX9_priceOf 65 = .ok (.lreturn, 1) := by decide +kernel
theorem dX9_accountOf_0 : decode cX9_accountOf 0 = .ok (.iconst 0, 1) := by decide +kernel
theorem dX9_accountOf_1 : decode cX9_accountOf 1 = .ok (.istore_n 3, 1) := by decide +kernel
theorem dX9_accountOf_2 : decode cX9_accountOf 2 = .ok (.iload_n 3, 1) := by decide +kernel
theorem dX9_accountOf_3 : decode cX9_accountOf 3 = .ok (.i2l, 1) := by decide +kernel
theorem dX9_accountOf_4 : decode cX9_accountOf 4 = .ok (.aload_n 0, 1) := by decide +kernel
theorem dX9_accountOf_5 : decode cX9_accountOf 5 = .ok (.getfield 7, 3) := by decide +kernel
theorem dX9_accountOf_8 : decode cX9_accountOf 8 = .ok (.sipush 1886, 3) := by decide +kernel
theorem dX9_accountOf_11 : decode cX9_accountOf 11 = .ok (.laload, 1) := by decide +kernel
theorem dX9_accountOf_12 : decode cX9_accountOf 12 = .ok (.lcmp, 1) := by decide +kernel
theorem dX9_accountOf_13 : decode cX9_accountOf 13 = .ok (.ifCond .ge 43, 3) := by decide +kernel
theorem dX9_accountOf_16 : decode cX9_accountOf 16 = .ok (.aload_n 0, 1) := by decide +kernel
theorem dX9_accountOf_17 : decode cX9_accountOf 17 = .ok (.getfield 7, 3) := by decide +kernel
theorem dX9_accountOf_20 : decode cX9_accountOf 20 = .ok (.sipush 1811, 3) := by decide +kernel
theorem dX9_accountOf_23 : decode cX9_accountOf 23 = .ok (.iload_n 3, 1) := by decide +kernel
theorem dX9_accountOf_24 : decode cX9_accountOf 24 = .ok (.iadd, 1) := by decide +kernel
theorem dX9_accountOf_25 : decode cX9_accountOf 25 = .ok (.laload, 1) := by decide +kernel
theorem dX9_accountOf_26 : decode cX9_accountOf 26 = .ok (.iload_n 1, 1) := by decide +kernel
theorem dX9_accountOf_27 : decode cX9_accountOf 27 = .ok (.i2l, 1) := by decide +kernel
theorem dX9_accountOf_28 : decode cX9_accountOf 28 = .ok (.lcmp, 1) := by decide +kernel
theorem dX9_accountOf_29 : decode cX9_accountOf 29 = .ok (.ifCond .ne 21, 3) := by decide +kernel
theorem dX9_accountOf_32 : decode cX9_accountOf 32 = .ok (.aload_n 0, 1) := by decide +kernel
theorem dX9_accountOf_33 : decode cX9_accountOf 33 = .ok (.getfield 7, 3) := by decide +kernel
theorem dX9_accountOf_36 : decode cX9_accountOf 36 = .ok (.sipush 1827, 3) := by decide +kernel
theorem dX9_accountOf_39 : decode cX9_accountOf 39 = .ok (.iload_n 3, 1) := by decide +kernel
theorem dX9_accountOf_40 : decode cX9_accountOf 40 = .ok (.iadd, 1) := by decide +kernel
theorem dX9_accountOf_41 : decode cX9_accountOf 41 = .ok (.laload, 1) := by decide +kernel
theorem dX9_accountOf_42 : decode cX9_accountOf 42 = .ok (.iload_n 2, 1) := by decide +kernel
theorem dX9_accountOf_43 : decode cX9_accountOf 43 = .ok (.i2l, 1) := by decide +kernel
theorem dX9_accountOf_44 : decode cX9_accountOf 44 = .ok (.lcmp, 1) := by decide +kernel
theorem dX9_accountOf_45 : decode cX9_accountOf 45 = .ok (.ifCond .ne 5, 3) := by decide +kernel
theorem dX9_accountOf_48 : decode cX9_accountOf 48 = .ok (.iload_n 3, 1) := by decide +kernel
theorem dX9_accountOf_49 : decode cX9_accountOf 49 = .ok (.ireturn, 1) := by decide +kernel
theorem dX9_accountOf_50 : decode cX9_accountOf 50 = .ok (.iinc 3 1, 3) := by decide +kernel
theorem dX9_accountOf_53 : decode cX9_accountOf 53 = .ok (.goto (-51), 3) := by decide +kernel
theorem dX9_accountOf_56 : decode cX9_accountOf 56 = .ok (.iconst (-1), 1) := by decide +kernel
theorem dX9_accountOf_57 : decode cX9_accountOf 57 = .ok (.ireturn, 1) := by decide +kernel
theorem dX9_enter_0 : decode cX9_enter 0 = .ok (.aload_n 0, 1) := by decide +kernel
theorem dX9_enter_1 : decode cX9_enter 1 = .ok (.iload_n 1, 1) := by decide +kernel
theorem dX9_enter_2 : decode cX9_enter 2 = .ok (.aload_n 0, 1) := by decide +kernel
theorem dX9_enter_3 : decode cX9_enter 3 = .ok (.invokevirtual 133, 3) := by decide +kernel
theorem dX9_enter_6 : decode cX9_enter 6 = .ok (.invokevirtual 136, 3) := by decide +kernel
theorem dX9_enter_9 : decode cX9_enter 9 = .ok (.istore 6, 2) := by decide +kernel
theorem dX9_enter_11 : decode cX9_enter 11 = .ok (.iload 6, 2) := by decide +kernel
theorem dX9_enter_13 : decode cX9_enter 13 = .ok (.iconst (-1), 1) := by decide +kernel
theorem dX9_enter_14 : decode cX9_enter 14 = .ok (.if_icmp .ne 55, 3) := by decide +kernel
theorem dX9_enter_17 : decode cX9_enter 17 = .ok (.aload_n 0, 1) := by decide +kernel
theorem dX9_enter_18 : decode cX9_enter 18 = .ok (.getfield 7, 3) := by decide +kernel
theorem dX9_enter_21 : decode cX9_enter 21 = .ok (.sipush 1886, 3) := by decide +kernel
theorem dX9_enter_24 : decode cX9_enter 24 = .ok (.laload, 1) := by decide +kernel
theorem dX9_enter_25 : decode cX9_enter 25 = .ok (.l2i, 1) := by decide +kernel
theorem dX9_enter_26 : decode cX9_enter 26 = .ok (.istore 6, 2) := by decide +kernel
theorem dX9_enter_28 : decode cX9_enter 28 = .ok (.aload_n 0, 1) := by decide +kernel
theorem dX9_enter_29 : decode cX9_enter 29 = .ok (.getfield 7, 3) := by decide +kernel
theorem dX9_enter_32 : decode cX9_enter 32 = .ok (.sipush 1886, 3) := by decide +kernel
theorem dX9_enter_35 : decode cX9_enter 35 = .ok (.dup2, 1) := by decide +kernel
theorem dX9_enter_36 : decode cX9_enter 36 = .ok (.laload, 1) := by decide +kernel
theorem dX9_enter_37 : decode cX9_enter 37 = .ok (.lconst 1, 1) := by decide +kernel
theorem dX9_enter_38 : decode cX9_enter 38 = .ok (.ladd, 1) := by decide +kernel
theorem dX9_enter_39 : decode cX9_enter 39 = .ok (.lastore, 1) := by decide +kernel
theorem dX9_enter_40 : decode cX9_enter 40 = .ok (.aload_n 0, 1) := by decide +kernel
theorem dX9_enter_41 : decode cX9_enter 41 = .ok (.getfield 7, 3) := by decide +kernel
theorem dX9_enter_44 : decode cX9_enter 44 = .ok (.sipush 1811, 3) := by decide +kernel
theorem dX9_enter_47 : decode cX9_enter 47 = .ok (.iload 6, 2) := by decide +kernel
theorem dX9_enter_49 : decode cX9_enter 49 = .ok (.iadd, 1) := by decide +kernel
theorem dX9_enter_50 : decode cX9_enter 50 = .ok (.iload_n 1, 1) := by decide +kernel
theorem dX9_enter_51 : decode cX9_enter 51 = .ok (.i2l, 1) := by decide +kernel
theorem dX9_enter_52 : decode cX9_enter 52 = .ok (.lastore, 1) := by decide +kernel
theorem dX9_enter_53 : decode cX9_enter 53 = .ok (.aload_n 0, 1) := by decide +kernel
theorem dX9_enter_54 : decode cX9_enter 54 = .ok (.getfield 7, 3) := by decide +kernel
theorem dX9_enter_57 : decode cX9_enter 57 = .ok (.sipush 1827, 3) := by decide +kernel
theorem dX9_enter_60 : decode cX9_enter 60 = .ok (.iload 6, 2) := by decide +kernel
theorem dX9_enter_62 : decode cX9_enter 62 = .ok (.iadd, 1) := by decide +kernel
theorem dX9_enter_63 : decode cX9_enter 63 = .ok (.aload_n 0, 1) := by decide +kernel
theorem dX9_enter_64 : decode cX9_enter 64 = .ok (.invokevirtual 133, 3) := by decide +kernel
theorem dX9_enter_67 : decode cX9_enter 67 = .ok (.i2l, 1) := by decide +kernel
theorem dX9_enter_68 : decode cX9_enter 68 = .ok (.lastore, 1) := by decide +kernel
theorem dX9_enter_69 : decode cX9_enter 69 = .ok (.aload_n 0, 1) := by decide +kernel
theorem dX9_enter_70 : decode cX9_enter 70 = .ok (.getfield 7, 3) := by decide +kernel
theorem dX9_enter_73 : decode cX9_enter 73 = .ok (.sipush 1843, 3) := by decide +kernel
theorem dX9_enter_76 : decode cX9_enter 76 = .ok (.iload 6, 2) := by decide +kernel
theorem dX9_enter_78 : decode cX9_enter 78 = .ok (.iadd, 1) := by decide +kernel
theorem dX9_enter_79 : decode cX9_enter 79 = .ok (.dup2, 1) := by decide +kernel
theorem dX9_enter_80 : decode cX9_enter 80 = .ok (.laload, 1) := by decide +kernel
theorem dX9_enter_81 : decode cX9_enter 81 = .ok (.lload_n 2, 1) := by decide +kernel
theorem dX9_enter_82 : decode cX9_enter 82 = .ok (.ladd, 1) := by decide +kernel
theorem dX9_enter_83 : decode cX9_enter 83 = .ok (.lastore, 1) := by decide +kernel
theorem dX9_enter_84 : decode cX9_enter 84 = .ok (.aload_n 0, 1) := by decide +kernel
theorem dX9_enter_85 : decode cX9_enter 85 = .ok (.getfield 7, 3) := by decide +kernel
theorem dX9_enter_88 : decode cX9_enter 88 = .ok (.sipush 1859, 3) := by decide +kernel
theorem dX9_enter_91 : decode cX9_enter 91 = .ok (.iload 6, 2) := by decide +kernel
theorem dX9_enter_93 : decode cX9_enter 93 = .ok (.iadd, 1) := by decide +kernel
theorem dX9_enter_94 : decode cX9_enter 94 = .ok (.dup2, 1) := by decide +kernel
theorem dX9_enter_95 : decode cX9_enter 95 = .ok (.laload, 1) := by decide +kernel
theorem dX9_enter_96 : decode cX9_enter 96 = .ok (.lload 4, 2) := by decide +kernel
theorem dX9_enter_98 : decode cX9_enter 98 = .ok (.ladd, 1) := by decide +kernel
theorem dX9_enter_99 : decode cX9_enter 99 = .ok (.lastore, 1) := by decide +kernel
theorem dX9_enter_100 : decode cX9_enter 100 = .ok (.return_, 1) := by decide +kernel
theorem dX9_giveReceipt_0 : decode cX9_giveReceipt 0 = .ok (.aload_n 0, 1) := by decide +kernel
theorem dX9_giveReceipt_1 : decode cX9_giveReceipt 1 = .ok (.getfield 7, 3) := by decide +kernel
theorem dX9_giveReceipt_4 : decode cX9_giveReceipt 4 = .ok (.sipush 1885, 3) := by decide +kernel
theorem dX9_giveReceipt_7 : decode cX9_giveReceipt 7 = .ok (.laload, 1) := by decide +kernel
theorem dX9_giveReceipt_8 : decode cX9_giveReceipt 8 = .ok (.lconst 0, 1) := by decide +kernel
theorem dX9_giveReceipt_9 : decode cX9_giveReceipt 9 = .ok (.lcmp, 1) := by decide +kernel
theorem dX9_giveReceipt_10 : decode cX9_giveReceipt 10 = .ok (.ifCond .ne 7, 3) := by decide +kernel
theorem dX9_giveReceipt_13 : decode cX9_giveReceipt 13 = .ok (.iconst 0, 1) := by decide +kernel
theorem dX9_giveReceipt_14 : decode cX9_giveReceipt 14 = .ok (.goto 24, 3) := by decide +kernel
theorem dX9_giveReceipt_17 : decode cX9_giveReceipt 17 = .ok (.aload_n 0, 1) := by decide +kernel
theorem dX9_giveReceipt_18 : decode cX9_giveReceipt 18 = .ok (.getfield 7, 3) := by decide +kernel
theorem dX9_giveReceipt_21 : decode cX9_giveReceipt 21 = .ok (.sipush 1795, 3) := by decide +kernel
theorem dX9_giveReceipt_24 : decode cX9_giveReceipt 24 = .ok (.aload_n 0, 1) := by decide +kernel
theorem dX9_giveReceipt_25 : decode cX9_giveReceipt 25 = .ok (.getfield 7, 3) := by decide +kernel
theorem dX9_giveReceipt_28 : decode cX9_giveReceipt 28 = .ok (.sipush 1885, 3) := by decide +kernel
theorem dX9_giveReceipt_31 : decode cX9_giveReceipt 31 = .ok (.laload, 1) := by decide +kernel
theorem dX9_giveReceipt_32 : decode cX9_giveReceipt 32 = .ok (.l2i, 1) := by decide +kernel
theorem dX9_giveReceipt_33 : decode cX9_giveReceipt 33 = .ok (.iadd, 1) := by decide +kernel
theorem dX9_giveReceipt_34 : decode cX9_giveReceipt 34 = .ok (.iconst 1, 1) := by decide +kernel
theorem dX9_giveReceipt_35 : decode cX9_giveReceipt 35 = .ok (.isub, 1) := by decide +kernel
theorem dX9_giveReceipt_36 : decode cX9_giveReceipt 36 = .ok (.laload, 1) := by decide +kernel
theorem dX9_giveReceipt_37 : decode cX9_giveReceipt 37 = .ok (.l2i, 1) := by decide +kernel
theorem dX9_giveReceipt_38 : decode cX9_giveReceipt 38 = .ok (.istore 6, 2) := by decide +kernel
theorem dX9_giveReceipt_40 : decode cX9_giveReceipt 40 = .ok (.iload 6, 2) := by decide +kernel
theorem dX9_giveReceipt_42 : decode cX9_giveReceipt 42 = .ok (.iconst 5, 1) := by decide +kernel
theorem dX9_giveReceipt_43 : decode cX9_giveReceipt 43 = .ok (.ishl, 1) := by decide +kernel
theorem dX9_giveReceipt_44 : decode cX9_giveReceipt 44 = .ok (.iload 6, 2) := by decide +kernel
theorem dX9_giveReceipt_46 : decode cX9_giveReceipt 46 = .ok (.bipush 27, 2) := by decide +kernel
theorem dX9_giveReceipt_48 : decode cX9_giveReceipt 48 = .ok (.iushr, 1) := by decide +kernel
theorem dX9_giveReceipt_49 : decode cX9_giveReceipt 49 = .ok (.ior, 1) := by decide +kernel
theorem dX9_giveReceipt_50 : decode cX9_giveReceipt 50 = .ok (.iload_n 1, 1) := by decide +kernel
theorem dX9_giveReceipt_51 : decode cX9_giveReceipt 51 = .ok (.ldc 139, 2) := by decide +kernel
theorem dX9_giveReceipt_53 : decode cX9_giveReceipt 53 = .ok (.imul, 1) := by decide +kernel
theorem dX9_giveReceipt_54 : decode cX9_giveReceipt 54 = .ok (.lload_n 2, 1) := by decide +kernel
theorem dX9_giveReceipt_55 : decode cX9_giveReceipt 55 = .ok (.l2i, 1) := by decide +kernel
theorem dX9_giveReceipt_56 : decode cX9_giveReceipt 56 = .ok (.bipush 31, 2) := by decide +kernel
theorem dX9_giveReceipt_58 : decode cX9_giveReceipt 58 = .ok (.imul, 1) := by decide +kernel
theorem dX9_giveReceipt_59 : decode cX9_giveReceipt 59 = .ok (.iadd, 1) := by decide +kernel
theorem dX9_giveReceipt_60 : decode cX9_giveReceipt 60 = .ok (.lload 4, 2) := by decide +kernel
theorem dX9_giveReceipt_62 : decode cX9_giveReceipt 62 = .ok (.l2i, 1) := by decide +kernel
theorem dX9_giveReceipt_63 : decode cX9_giveReceipt 63 = .ok (.iadd, 1) := by decide +kernel
theorem dX9_giveReceipt_64 : decode cX9_giveReceipt 64 = .ok (.ixor, 1) := by decide +kernel
theorem dX9_giveReceipt_65 : decode cX9_giveReceipt 65 = .ok (.istore 7, 2) := by decide +kernel
theorem dX9_giveReceipt_67 : decode cX9_giveReceipt 67 = .ok (.aload_n 0, 1) := by decide +kernel
theorem dX9_giveReceipt_68 : decode cX9_giveReceipt 68 = .ok (.getfield 7, 3) := by decide +kernel
theorem dX9_giveReceipt_71 : decode cX9_giveReceipt 71 = .ok (.sipush 1885, 3) := by decide +kernel
theorem dX9_giveReceipt_74 : decode cX9_giveReceipt 74 = .ok (.laload, 1) := by decide +kernel
theorem dX9_giveReceipt_75 : decode cX9_giveReceipt 75 = .ok (.ldc2_w 140, 3) := by decide +kernel
theorem dX9_giveReceipt_78 : decode cX9_giveReceipt 78 = .ok (.lcmp, 1) := by decide +kernel
theorem dX9_giveReceipt_79 : decode cX9_giveReceipt 79 = .ok (.ifCond .ne 151, 3) := by decide +kernel
theorem dX9_giveReceipt_82 : decode cX9_giveReceipt 82 = .ok (.iconst 0, 1) := by decide +kernel
theorem dX9_giveReceipt_83 : decode cX9_giveReceipt 83 = .ok (.istore 8, 2) := by decide +kernel
theorem dX9_giveReceipt_85 : decode cX9_giveReceipt 85 = .ok (.iload 8, 2) := by decide +kernel
theorem dX9_giveReceipt_87 : decode cX9_giveReceipt 87 = .ok (.bipush 15, 2) := by decide +kernel
theorem dX9_giveReceipt_89 : decode cX9_giveReceipt 89 = .ok (.if_icmp .ge 129, 3) := by decide +kernel
theorem dX9_giveReceipt_92 : decode cX9_giveReceipt 92 = .ok (.aload_n 0, 1) := by decide +kernel
theorem dX9_giveReceipt_93 : decode cX9_giveReceipt 93 = .ok (.getfield 7, 3) := by decide +kernel
theorem dX9_giveReceipt_96 : decode cX9_giveReceipt 96 = .ok (.sipush 1731, 3) := by decide +kernel
theorem dX9_giveReceipt_99 : decode cX9_giveReceipt 99 = .ok (.iload 8, 2) := by decide +kernel
theorem dX9_giveReceipt_101 : decode cX9_giveReceipt 101 = .ok (.iadd, 1) := by decide +kernel
theorem dX9_giveReceipt_102 : decode cX9_giveReceipt 102 = .ok (.aload_n 0, 1) := by decide +kernel
theorem dX9_giveReceipt_103 : decode cX9_giveReceipt 103 = .ok (.getfield 7, 3) := by decide +kernel
theorem dX9_giveReceipt_106 : decode cX9_giveReceipt 106 = .ok (.sipush 1731, 3) := by decide +kernel
theorem dX9_giveReceipt_109 : decode cX9_giveReceipt 109 = .ok (.iload 8, 2) := by decide +kernel
theorem dX9_giveReceipt_111 : decode cX9_giveReceipt 111 = .ok (.iadd, 1) := by decide +kernel
theorem dX9_giveReceipt_112 : decode cX9_giveReceipt 112 = .ok (.iconst 1, 1) := by decide +kernel
theorem dX9_giveReceipt_113 : decode cX9_giveReceipt 113 = .ok (.iadd, 1) := by decide +kernel
theorem dX9_giveReceipt_114 : decode cX9_giveReceipt 114 = .ok (.laload, 1) := by decide +kernel
theorem dX9_giveReceipt_115 : decode cX9_giveReceipt 115 = .ok (.lastore, 1) := by decide +kernel
theorem dX9_giveReceipt_116 : decode cX9_giveReceipt 116 = .ok (.aload_n 0, 1) := by decide +kernel
theorem dX9_giveReceipt_117 : decode cX9_giveReceipt 117 = .ok (.getfield 7, 3) := by decide +kernel
theorem dX9_giveReceipt_120 : decode cX9_giveReceipt 120 = .ok (.sipush 1747, 3) := by decide +kernel
theorem dX9_giveReceipt_123 : decode cX9_giveReceipt 123 = .ok (.iload 8, 2) := by decide +kernel
theorem dX9_giveReceipt_125 : decode cX9_giveReceipt 125 = .ok (.iadd, 1) := by decide +kernel
theorem dX9_giveReceipt_126 : decode cX9_giveReceipt 126 = .ok (.aload_n 0, 1) := by decide +kernel
theorem dX9_giveReceipt_127 : decode cX9_giveReceipt 127 = .ok (.getfield 7, 3) := by decide +kernel
theorem dX9_giveReceipt_130 : decode cX9_giveReceipt 130 = .ok (.sipush 1747, 3) := by decide +kernel
theorem dX9_giveReceipt_133 : decode cX9_giveReceipt 133 = .ok (.iload 8, 2) := by decide +kernel
theorem dX9_giveReceipt_135 : decode cX9_giveReceipt 135 = .ok (.iadd, 1) := by decide +kernel
theorem dX9_giveReceipt_136 : decode cX9_giveReceipt 136 = .ok (.iconst 1, 1) := by decide +kernel
theorem dX9_giveReceipt_137 : decode cX9_giveReceipt 137 = .ok (.iadd, 1) := by decide +kernel
theorem dX9_giveReceipt_138 : decode cX9_giveReceipt 138 = .ok (.laload, 1) := by decide +kernel
theorem dX9_giveReceipt_139 : decode cX9_giveReceipt 139 = .ok (.lastore, 1) := by decide +kernel
theorem dX9_giveReceipt_140 : decode cX9_giveReceipt 140 = .ok (.aload_n 0, 1) := by decide +kernel
theorem dX9_giveReceipt_141 : decode cX9_giveReceipt 141 = .ok (.getfield 7, 3) := by decide +kernel
theorem dX9_giveReceipt_144 : decode cX9_giveReceipt 144 = .ok (.sipush 1763, 3) := by decide +kernel
theorem dX9_giveReceipt_147 : decode cX9_giveReceipt 147 = .ok (.iload 8, 2) := by decide +kernel
theorem dX9_giveReceipt_149 : decode cX9_giveReceipt 149 = .ok (.iadd, 1) := by decide +kernel
theorem dX9_giveReceipt_150 : decode cX9_giveReceipt 150 = .ok (.aload_n 0, 1) := by decide +kernel
theorem dX9_giveReceipt_151 : decode cX9_giveReceipt 151 = .ok (.getfield 7, 3) := by decide +kernel
theorem dX9_giveReceipt_154 : decode cX9_giveReceipt 154 = .ok (.sipush 1763, 3) := by decide +kernel
theorem dX9_giveReceipt_157 : decode cX9_giveReceipt 157 = .ok (.iload 8, 2) := by decide +kernel
theorem dX9_giveReceipt_159 : decode cX9_giveReceipt 159 = .ok (.iadd, 1) := by decide +kernel
theorem dX9_giveReceipt_160 : decode cX9_giveReceipt 160 = .ok (.iconst 1, 1) := by decide +kernel
theorem dX9_giveReceipt_161 : decode cX9_giveReceipt 161 = .ok (.iadd, 1) := by decide +kernel
theorem dX9_giveReceipt_162 : decode cX9_giveReceipt 162 = .ok (.laload, 1) := by decide +kernel
theorem dX9_giveReceipt_163 : decode cX9_giveReceipt 163 = .ok (.lastore, 1) := by decide +kernel
theorem dX9_giveReceipt_164 : decode cX9_giveReceipt 164 = .ok (.aload_n 0, 1) := by decide +kernel
theorem dX9_giveReceipt_165 : decode cX9_giveReceipt 165 = .ok (.getfield 7, 3) := by decide +kernel
theorem dX9_giveReceipt_168 : decode cX9_giveReceipt 168 = .ok (.sipush 1779, 3) := by decide +kernel
theorem dX9_giveReceipt_171 : decode cX9_giveReceipt 171 = .ok (.iload 8, 2) := by decide +kernel
theorem dX9_giveReceipt_173 : decode cX9_giveReceipt 173 = .ok (.iadd, 1) := by decide +kernel
theorem dX9_giveReceipt_174 : decode cX9_giveReceipt 174 = .ok (.aload_n 0, 1) := by decide +kernel
theorem dX9_giveReceipt_175 : decode cX9_giveReceipt 175 = .ok (.getfield 7, 3) := by decide +kernel
theorem dX9_giveReceipt_178 : decode cX9_giveReceipt 178 = .ok (.sipush 1779, 3) := by decide +kernel
theorem dX9_giveReceipt_181 : decode cX9_giveReceipt 181 = .ok (.iload 8, 2) := by decide +kernel
theorem dX9_giveReceipt_183 : decode cX9_giveReceipt 183 = .ok (.iadd, 1) := by decide +kernel
theorem dX9_giveReceipt_184 : decode cX9_giveReceipt 184 = .ok (.iconst 1, 1) := by decide +kernel
theorem dX9_giveReceipt_185 : decode cX9_giveReceipt 185 = .ok (.iadd, 1) := by decide +kernel
theorem dX9_giveReceipt_186 : decode cX9_giveReceipt 186 = .ok (.laload, 1) := by decide +kernel
theorem dX9_giveReceipt_187 : decode cX9_giveReceipt 187 = .ok (.lastore, 1) := by decide +kernel
theorem dX9_giveReceipt_188 : decode cX9_giveReceipt 188 = .ok (.aload_n 0, 1) := by decide +kernel
theorem dX9_giveReceipt_189 : decode cX9_giveReceipt 189 = .ok (.getfield 7, 3) := by decide +kernel
theorem dX9_giveReceipt_192 : decode cX9_giveReceipt 192 = .ok (.sipush 1795, 3) := by decide +kernel
theorem dX9_giveReceipt_195 : decode cX9_giveReceipt 195 = .ok (.iload 8, 2) := by decide +kernel
theorem dX9_giveReceipt_197 : decode cX9_giveReceipt 197 = .ok (.iadd, 1) := by decide +kernel
theorem dX9_giveReceipt_198 : decode cX9_giveReceipt 198 = .ok (.aload_n 0, 1) := by decide +kernel
theorem dX9_giveReceipt_199 : decode cX9_giveReceipt 199 = .ok (.getfield 7, 3) := by decide +kernel
theorem dX9_giveReceipt_202 : decode cX9_giveReceipt 202 = .ok (.sipush 1795, 3) := by decide +kernel
theorem dX9_giveReceipt_205 : decode cX9_giveReceipt 205 = .ok (.iload 8, 2) := by decide +kernel
theorem dX9_giveReceipt_207 : decode cX9_giveReceipt 207 = .ok (.iadd, 1) := by decide +kernel
theorem dX9_giveReceipt_208 : decode cX9_giveReceipt 208 = .ok (.iconst 1, 1) := by decide +kernel
theorem dX9_giveReceipt_209 : decode cX9_giveReceipt 209 = .ok (.iadd, 1) := by decide +kernel
theorem dX9_giveReceipt_210 : decode cX9_giveReceipt 210 = .ok (.laload, 1) := by decide +kernel
theorem dX9_giveReceipt_211 : decode cX9_giveReceipt 211 = .ok (.lastore, 1) := by decide +kernel
theorem dX9_giveReceipt_212 : decode cX9_giveReceipt 212 = .ok (.iinc 8 1, 3) := by decide +kernel
theorem dX9_giveReceipt_215 : decode cX9_giveReceipt 215 = .ok (.goto (-130), 3) := by decide +kernel
theorem dX9_giveReceipt_218 : decode cX9_giveReceipt 218 = .ok (.aload_n 0, 1) := by decide +kernel
theorem dX9_giveReceipt_219 : decode cX9_giveReceipt 219 = .ok (.getfield 7, 3) := by decide +kernel
theorem dX9_giveReceipt_222 : decode cX9_giveReceipt 222 = .ok (.sipush 1885, 3) := by decide +kernel
theorem dX9_giveReceipt_225 : decode cX9_giveReceipt 225 = .ok (.dup2, 1) := by decide +kernel
theorem dX9_giveReceipt_226 : decode cX9_giveReceipt 226 = .ok (.laload, 1) := by decide +kernel
theorem dX9_giveReceipt_227 : decode cX9_giveReceipt 227 = .ok (.lconst 1, 1) := by decide +kernel
theorem dX9_giveReceipt_228 : decode cX9_giveReceipt 228 = .ok (.lsub, 1) := by decide +kernel
theorem dX9_giveReceipt_229 : decode cX9_giveReceipt 229 = .ok (.lastore, 1) := by decide +kernel
theorem dX9_giveReceipt_230 : decode cX9_giveReceipt 230 = .ok (.aload_n 0, 1) := by decide +kernel
theorem dX9_giveReceipt_231 : decode cX9_giveReceipt 231 = .ok (.getfield 7, 3) := by decide +kernel
theorem dX9_giveReceipt_234 : decode cX9_giveReceipt 234 = .ok (.sipush 1885, 3) := by decide +kernel
theorem dX9_giveReceipt_237 : decode cX9_giveReceipt 237 = .ok (.laload, 1) := by decide +kernel
theorem dX9_giveReceipt_238 : decode cX9_giveReceipt 238 = .ok (.l2i, 1) := by decide +kernel
theorem dX9_giveReceipt_239 : decode cX9_giveReceipt 239 = .ok (.istore 8, 2) := by decide +kernel
theorem dX9_giveReceipt_241 : decode cX9_giveReceipt 241 = .ok (.aload_n 0, 1) := by decide +kernel
theorem dX9_giveReceipt_242 : decode cX9_giveReceipt 242 = .ok (.getfield 7, 3) := by decide +kernel
theorem dX9_giveReceipt_245 : decode cX9_giveReceipt 245 = .ok (.sipush 1885, 3) := by decide +kernel
theorem dX9_giveReceipt_248 : decode cX9_giveReceipt 248 = .ok (.dup2, 1) := by decide +kernel
theorem dX9_giveReceipt_249 : decode cX9_giveReceipt 249 = .ok (.laload, 1) := by decide +kernel
theorem dX9_giveReceipt_250 : decode cX9_giveReceipt 250 = .ok (.lconst 1, 1) := by decide +kernel
theorem dX9_giveReceipt_251 : decode cX9_giveReceipt 251 = .ok (.ladd, 1) := by decide +kernel
theorem dX9_giveReceipt_252 : decode cX9_giveReceipt 252 = .ok (.lastore, 1) := by decide +kernel
theorem dX9_giveReceipt_253 : decode cX9_giveReceipt 253 = .ok (.aload_n 0, 1) := by decide +kernel
theorem dX9_giveReceipt_254 : decode cX9_giveReceipt 254 = .ok (.getfield 7, 3) := by decide +kernel
theorem dX9_giveReceipt_257 : decode cX9_giveReceipt 257 = .ok (.sipush 1731, 3) := by decide +kernel
theorem dX9_giveReceipt_260 : decode cX9_giveReceipt 260 = .ok (.iload 8, 2) := by decide +kernel
theorem dX9_giveReceipt_262 : decode cX9_giveReceipt 262 = .ok (.iadd, 1) := by decide +kernel
theorem dX9_giveReceipt_263 : decode cX9_giveReceipt 263 = .ok (.iload_n 1, 1) := by decide +kernel
theorem dX9_giveReceipt_264 : decode cX9_giveReceipt 264 = .ok (.i2l, 1) := by decide +kernel
theorem dX9_giveReceipt_265 : decode cX9_giveReceipt 265 = .ok (.lastore, 1) := by decide +kernel
theorem dX9_giveReceipt_266 : decode cX9_giveReceipt 266 = .ok (.aload_n 0, 1) := by decide +kernel
theorem dX9_giveReceipt_267 : decode cX9_giveReceipt 267 = .ok (.getfield 7, 3) := by decide +kernel
theorem dX9_giveReceipt_270 : decode cX9_giveReceipt 270 = .ok (.sipush 1747, 3) := by decide +kernel
theorem dX9_giveReceipt_273 : decode cX9_giveReceipt 273 = .ok (.iload 8, 2) := by decide +kernel
theorem dX9_giveReceipt_275 : decode cX9_giveReceipt 275 = .ok (.iadd, 1) := by decide +kernel
theorem dX9_giveReceipt_276 : decode cX9_giveReceipt 276 = .ok (.lload_n 2, 1) := by decide +kernel
theorem dX9_giveReceipt_277 : decode cX9_giveReceipt 277 = .ok (.lastore, 1) := by decide +kernel
theorem dX9_giveReceipt_278 : decode cX9_giveReceipt 278 = .ok (.aload_n 0, 1) := by decide +kernel
theorem dX9_giveReceipt_279 : decode cX9_giveReceipt 279 = .ok (.getfield 7, 3) := by decide +kernel
theorem dX9_giveReceipt_282 : decode cX9_giveReceipt 282 = .ok (.sipush 1763, 3) := by decide +kernel
theorem dX9_giveReceipt_285 : decode cX9_giveReceipt 285 = .ok (.iload 8, 2) := by decide +kernel
theorem dX9_giveReceipt_287 : decode cX9_giveReceipt 287 = .ok (.iadd, 1) := by decide +kernel
theorem dX9_giveReceipt_288 : decode cX9_giveReceipt 288 = .ok (.lload 4, 2) := by decide +kernel
theorem dX9_giveReceipt_290 : decode cX9_giveReceipt 290 = .ok (.lastore, 1) := by decide +kernel
theorem dX9_giveReceipt_291 : decode cX9_giveReceipt 291 = .ok (.aload_n 0, 1) := by decide +kernel
theorem dX9_giveReceipt_292 : decode cX9_giveReceipt 292 = .ok (.getfield 7, 3) := by decide +kernel
theorem dX9_giveReceipt_295 : decode cX9_giveReceipt 295 = .ok (.sipush 1779, 3) := by decide +kernel
theorem dX9_giveReceipt_298 : decode cX9_giveReceipt 298 = .ok (.iload 8, 2) := by decide +kernel
theorem dX9_giveReceipt_300 : decode cX9_giveReceipt 300 = .ok (.iadd, 1) := by decide +kernel
theorem dX9_giveReceipt_301 : decode cX9_giveReceipt 301 = .ok (.aload_n 0, 1) := by decide +kernel
theorem dX9_giveReceipt_302 : decode cX9_giveReceipt 302 = .ok (.getfield 7, 3) := by decide +kernel
theorem dX9_giveReceipt_305 : decode cX9_giveReceipt 305 = .ok (.sipush 1875, 3) := by decide +kernel
theorem dX9_giveReceipt_308 : decode cX9_giveReceipt 308 = .ok (.laload, 1) := by decide +kernel
theorem dX9_giveReceipt_309 : decode cX9_giveReceipt 309 = .ok (.lastore, 1) := by decide +kernel
theorem dX9_giveReceipt_310 : decode cX9_giveReceipt 310 = .ok (.aload_n 0, 1) := by decide +kernel
theorem dX9_giveReceipt_311 : decode cX9_giveReceipt 311 = .ok (.getfield 7, 3) := by decide +kernel
theorem dX9_giveReceipt_314 : decode cX9_giveReceipt 314 = .ok (.sipush 1795, 3) := by decide +kernel
theorem dX9_giveReceipt_317 : decode cX9_giveReceipt 317 = .ok (.iload 8, 2) := by decide +kernel
theorem dX9_giveReceipt_319 : decode cX9_giveReceipt 319 = .ok (.iadd, 1) := by decide +kernel
theorem dX9_giveReceipt_320 : decode cX9_giveReceipt 320 = .ok (.iload 7, 2) := by decide +kernel
theorem dX9_giveReceipt_322 : decode cX9_giveReceipt 322 = .ok (.i2l, 1) := by decide +kernel
theorem dX9_giveReceipt_323 : decode cX9_giveReceipt 323 = .ok (.lastore, 1) := by decide +kernel
theorem dX9_giveReceipt_324 : decode cX9_giveReceipt 324 = .ok (.return_, 1) := by decide +kernel
theorem dX9_serve_0 : decode cX9_serve 0 = .ok (.aload_n 0, 1) := by decide +kernel
theorem dX9_serve_1 : decode cX9_serve 1 = .ok (.getfield 7, 3) := by decide +kernel
theorem dX9_serve_4 : decode cX9_serve 4 = .ok (.sipush 531, 3) := by decide +kernel
theorem dX9_serve_7 : decode cX9_serve 7 = .ok (.iload_n 1, 1) := by decide +kernel
theorem dX9_serve_8 : decode cX9_serve 8 = .ok (.iadd, 1) := by decide +kernel
theorem dX9_serve_9 : decode cX9_serve 9 = .ok (.laload, 1) := by decide +kernel
theorem dX9_serve_10 : decode cX9_serve 10 = .ok (.l2i, 1) := by decide +kernel
theorem dX9_serve_11 : decode cX9_serve 11 = .ok (.istore_n 2, 1) := by decide +kernel
theorem dX9_serve_12 : decode cX9_serve 12 = .ok (.aload_n 0, 1) := by decide +kernel
theorem dX9_serve_13 : decode cX9_serve 13 = .ok (.getfield 7, 3) := by decide +kernel
theorem dX9_serve_16 : decode cX9_serve 16 = .ok (.sipush 515, 3) := by decide +kernel
theorem dX9_serve_19 : decode cX9_serve 19 = .ok (.iload_n 2, 1) := by decide +kernel
theorem dX9_serve_20 : decode cX9_serve 20 = .ok (.iadd, 1) := by decide +kernel
theorem dX9_serve_21 : decode cX9_serve 21 = .ok (.laload, 1) := by decide +kernel
theorem dX9_serve_22 : decode cX9_serve 22 = .ok (.aload_n 0, 1) := by decide +kernel
theorem dX9_serve_23 : decode cX9_serve 23 = .ok (.getfield 7, 3) := by decide +kernel
theorem dX9_serve_26 : decode cX9_serve 26 = .ok (.iconst 3, 1) := by decide +kernel
theorem dX9_serve_27 : decode cX9_serve 27 = .ok (.laload, 1) := by decide +kernel
theorem dX9_serve_28 : decode cX9_serve 28 = .ok (.lcmp, 1) := by decide +kernel
theorem dX9_serve_29 : decode cX9_serve 29 = .ok (.ifCond .gt 31, 3) := by decide +kernel
theorem dX9_serve_32 : decode cX9_serve 32 = .ok (.aload_n 0, 1) := by decide +kernel
theorem dX9_serve_33 : decode cX9_serve 33 = .ok (.getfield 7, 3) := by decide +kernel
theorem dX9_serve_36 : decode cX9_serve 36 = .ok (.sipush 1331, 3) := by decide +kernel
theorem dX9_serve_39 : decode cX9_serve 39 = .ok (.iload_n 1, 1) := by decide +kernel
theorem dX9_serve_40 : decode cX9_serve 40 = .ok (.iadd, 1) := by decide +kernel
theorem dX9_serve_41 : decode cX9_serve 41 = .ok (.laload, 1) := by decide +kernel
theorem dX9_serve_42 : decode cX9_serve 42 = .ok (.lconst 1, 1) := by decide +kernel
theorem dX9_serve_43 : decode cX9_serve 43 = .ok (.lcmp, 1) := by decide +kernel
theorem dX9_serve_44 : decode cX9_serve 44 = .ok (.ifCond .ne 17, 3) := by decide +kernel
theorem dX9_serve_47 : decode cX9_serve 47 = .ok (.aload_n 0, 1) := by decide +kernel
theorem dX9_serve_48 : decode cX9_serve 48 = .ok (.invokevirtual 142, 3) := by decide +kernel
theorem dX9_serve_51 : decode cX9_serve 51 = .ok (.aload_n 0, 1) := by decide +kernel
theorem dX9_serve_52 : decode cX9_serve 52 = .ok (.iload_n 1, 1) := by decide +kernel
theorem dX9_serve_53 : decode cX9_serve 53 = .ok (.invokevirtual 122, 3) := by decide +kernel
theorem dX9_serve_56 : decode cX9_serve 56 = .ok (.lcmp, 1) := by decide +kernel
theorem dX9_serve_57 : decode cX9_serve 57 = .ok (.ifCond .ge 4, 3) := by decide +kernel
theorem dX9_serve_60 : decode cX9_serve 60 = .ok (.return_, 1) := by decide +kernel
theorem dX9_serve_61 : decode cX9_serve 61 = .ok (.lconst 0, 1) := by decide +kernel
theorem dX9_serve_62 : decode cX9_serve 62 = .ok (.lstore_n 3, 1) := by decide +kernel
theorem dX9_serve_63 : decode cX9_serve 63 = .ok (.lconst 0, 1) := by decide +kernel
theorem dX9_serve_64 : decode cX9_serve 64 = .ok (.lstore 5, 2) := by decide +kernel
theorem dX9_serve_66 : decode cX9_serve 66 = .ok (.aload_n 0, 1) := by decide +kernel
theorem dX9_serve_67 : decode cX9_serve 67 = .ok (.invokevirtual 145, 3) := by decide +kernel
theorem dX9_serve_70 : decode cX9_serve 70 = .ok (.istore 7, 2) := by decide +kernel
theorem dX9_serve_72 : decode cX9_serve 72 = .ok (.aload_n 0, 1) := by decide +kernel
theorem dX9_serve_73 : decode cX9_serve 73 = .ok (.iload_n 1, 1) := by decide +kernel
theorem dX9_serve_74 : decode cX9_serve 74 = .ok (.invokevirtual 122, 3) := by decide +kernel
theorem dX9_serve_77 : decode cX9_serve 77 = .ok (.lconst 0, 1) := by decide +kernel
theorem dX9_serve_78 : decode cX9_serve 78 = .ok (.lcmp, 1) := by decide +kernel
theorem dX9_serve_79 : decode cX9_serve 79 = .ok (.ifCond .le 150, 3) := by decide +kernel
theorem dX9_serve_82 : decode cX9_serve 82 = .ok (.iload 7, 2) := by decide +kernel
theorem dX9_serve_84 : decode cX9_serve 84 = .ok (.iconst (-1), 1) := by decide +kernel
theorem dX9_serve_85 : decode cX9_serve 85 = .ok (.if_icmp .eq 144, 3) := by decide +kernel
theorem dX9_serve_88 : decode cX9_serve 88 = .ok (.aload_n 0, 1) := by decide +kernel
theorem dX9_serve_89 : decode cX9_serve 89 = .ok (.getfield 7, 3) := by decide +kernel
theorem dX9_serve_92 : decode cX9_serve 92 = .ok (.sipush 207, 3) := by decide +kernel
theorem dX9_serve_95 : decode cX9_serve 95 = .ok (.iload 7, 2) := by decide +kernel
theorem dX9_serve_97 : decode cX9_serve 97 = .ok (.iadd, 1) := by decide +kernel
theorem dX9_serve_98 : decode cX9_serve 98 = .ok (.laload, 1) := by decide +kernel
theorem dX9_serve_99 : decode cX9_serve 99 = .ok (.lstore 8, 2) := by decide +kernel
theorem dX9_serve_101 : decode cX9_serve 101 = .ok (.aload_n 0, 1) := by decide +kernel
theorem dX9_serve_102 : decode cX9_serve 102 = .ok (.iload_n 2, 1) := by decide +kernel
theorem dX9_serve_103 : decode cX9_serve 103 = .ok (.lload 8, 2) := by decide +kernel
theorem dX9_serve_105 : decode cX9_serve 105 = .ok (.aload_n 0, 1) := by decide +kernel
theorem dX9_serve_106 : decode cX9_serve 106 = .ok (.invokevirtual 133, 3) := by decide +kernel
theorem dX9_serve_109 : decode cX9_serve 109 = .ok (.invokevirtual 148, 3) := by decide +kernel
theorem dX9_serve_112 : decode cX9_serve 112 = .ok (.lstore 10, 2) := by decide +kernel
theorem dX9_serve_114 : decode cX9_serve 114 = .ok (.aload_n 0, 1) := by decide +kernel
theorem dX9_serve_115 : decode cX9_serve 115 = .ok (.iload 7, 2) := by decide +kernel
theorem dX9_serve_117 : decode cX9_serve 117 = .ok (.bipush 30, 2) := by decide +kernel
theorem dX9_serve_119 : decode cX9_serve 119 = .ok (.idiv, 1) := by decide +kernel
theorem dX9_serve_120 : decode cX9_serve 120 = .ok (.iload 7, 2) := by decide +kernel
theorem dX9_serve_122 : decode cX9_serve 122 = .ok (.bipush 30, 2) := by decide +kernel
theorem dX9_serve_124 : decode cX9_serve 124 = .ok (.irem, 1) := by decide +kernel
theorem dX9_serve_125 : decode cX9_serve 125 = .ok (.invokevirtual 110, 3) := by decide +kernel
theorem dX9_serve_128 : decode cX9_serve 128 = .ok (.aload_n 0, 1) := by decide +kernel
theorem dX9_serve_129 : decode cX9_serve 129 = .ok (.getfield 7, 3) := by decide +kernel
theorem dX9_serve_132 : decode cX9_serve 132 = .ok (.sipush 931, 3) := by decide +kernel
theorem dX9_serve_135 : decode cX9_serve 135 = .ok (.iload_n 1, 1) := by decide +kernel
theorem dX9_serve_136 : decode cX9_serve 136 = .ok (.iadd, 1) := by decide +kernel
theorem dX9_serve_137 : decode cX9_serve 137 = .ok (.dup2, 1) := by decide +kernel
theorem dX9_serve_138 : decode cX9_serve 138 = .ok (.laload, 1) := by decide +kernel
theorem dX9_serve_139 : decode cX9_serve 139 = .ok (.lload 8, 2) := by decide +kernel
theorem dX9_serve_141 : decode cX9_serve 141 = .ok (.ladd, 1) := by decide +kernel
theorem dX9_serve_142 : decode cX9_serve 142 = .ok (.lastore, 1) := by decide +kernel
theorem dX9_serve_143 : decode cX9_serve 143 = .ok (.aload_n 0, 1) := by decide +kernel
theorem dX9_serve_144 : decode cX9_serve 144 = .ok (.getfield 7, 3) := by decide +kernel
theorem dX9_serve_147 : decode cX9_serve 147 = .ok (.sipush 515, 3) := by decide +kernel
theorem dX9_serve_150 : decode cX9_serve 150 = .ok (.iload_n 2, 1) := by decide +kernel
theorem dX9_serve_151 : decode cX9_serve 151 = .ok (.iadd, 1) := by decide +kernel
theorem dX9_serve_152 : decode cX9_serve 152 = .ok (.dup2, 1) := by decide +kernel
theorem dX9_serve_153 : decode cX9_serve 153 = .ok (.laload, 1) := by decide +kernel
theorem dX9_serve_154 : decode cX9_serve 154 = .ok (.lload 10, 2) := by decide +kernel
theorem dX9_serve_156 : decode cX9_serve 156 = .ok (.ladd, 1) := by decide +kernel
theorem dX9_serve_157 : decode cX9_serve 157 = .ok (.lastore, 1) := by decide +kernel
theorem dX9_serve_158 : decode cX9_serve 158 = .ok (.aload_n 0, 1) := by decide +kernel
theorem dX9_serve_159 : decode cX9_serve 159 = .ok (.getfield 7, 3) := by decide +kernel
theorem dX9_serve_162 : decode cX9_serve 162 = .ok (.sipush 523, 3) := by decide +kernel
theorem dX9_serve_165 : decode cX9_serve 165 = .ok (.iload_n 2, 1) := by decide +kernel
theorem dX9_serve_166 : decode cX9_serve 166 = .ok (.iadd, 1) := by decide +kernel
theorem dX9_serve_167 : decode cX9_serve 167 = .ok (.dup2, 1) := by decide +kernel
theorem dX9_serve_168 : decode cX9_serve 168 = .ok (.laload, 1) := by decide +kernel
theorem dX9_serve_169 : decode cX9_serve 169 = .ok (.lload 8, 2) := by decide +kernel
theorem dX9_serve_171 : decode cX9_serve 171 = .ok (.ladd, 1) := by decide +kernel
theorem dX9_serve_172 : decode cX9_serve 172 = .ok (.lastore, 1) := by decide +kernel
theorem dX9_serve_173 : decode cX9_serve 173 = .ok (.aload_n 0, 1) := by decide +kernel
theorem dX9_serve_174 : decode cX9_serve 174 = .ok (.getfield 7, 3) := by decide +kernel
theorem dX9_serve_177 : decode cX9_serve 177 = .ok (.sipush 1877, 3) := by decide +kernel
theorem dX9_serve_180 : decode cX9_serve 180 = .ok (.dup2, 1) := by decide +kernel
theorem dX9_serve_181 : decode cX9_serve 181 = .ok (.laload, 1) := by decide +kernel
theorem dX9_serve_182 : decode cX9_serve 182 = .ok (.lload 8, 2) := by decide +kernel
theorem dX9_serve_184 : decode cX9_serve 184 = .ok (.ladd, 1) := by decide +kernel
theorem dX9_serve_185 : decode cX9_serve 185 = .ok (.lastore, 1) := by decide +kernel
theorem dX9_serve_186 : decode cX9_serve 186 = .ok (.aload_n 0, 1) := by decide +kernel
theorem dX9_serve_187 : decode cX9_serve 187 = .ok (.getfield 7, 3) := by decide +kernel
theorem dX9_serve_190 : decode cX9_serve 190 = .ok (.sipush 1883, 3) := by decide +kernel
theorem dX9_serve_193 : decode cX9_serve 193 = .ok (.dup2, 1) := by decide +kernel
theorem dX9_serve_194 : decode cX9_serve 194 = .ok (.laload, 1) := by decide +kernel
theorem dX9_serve_195 : decode cX9_serve 195 = .ok (.lload 10, 2) := by decide +kernel
theorem dX9_serve_197 : decode cX9_serve 197 = .ok (.ladd, 1) := by decide +kernel
theorem dX9_serve_198 : decode cX9_serve 198 = .ok (.lastore, 1) := by decide +kernel
theorem dX9_serve_199 : decode cX9_serve 199 = .ok (.aload_n 0, 1) := by decide +kernel
theorem dX9_serve_200 : decode cX9_serve 200 = .ok (.iload_n 2, 1) := by decide +kernel
theorem dX9_serve_201 : decode cX9_serve 201 = .ok (.lload 8, 2) := by decide +kernel
theorem dX9_serve_203 : decode cX9_serve 203 = .ok (.lload 10, 2) := by decide +kernel
theorem dX9_serve_205 : decode cX9_serve 205 = .ok (.invokevirtual 152, 3) := by decide +kernel
theorem dX9_serve_208 : decode cX9_serve 208 = .ok (.lload_n 3, 1) := by decide +kernel
theorem dX9_serve_209 : decode cX9_serve 209 = .ok (.lload 8, 2) := by decide +kernel
theorem dX9_serve_211 : decode cX9_serve 211 = .ok (.ladd, 1) := by decide +kernel
theorem dX9_serve_212 : decode cX9_serve 212 = .ok (.lstore_n 3, 1) := by decide +kernel
theorem dX9_serve_213 : decode cX9_serve 213 = .ok (.lload 5, 2) := by decide +kernel
theorem dX9_serve_215 : decode cX9_serve 215 = .ok (.lload 10, 2) := by decide +kernel
theorem dX9_serve_217 : decode cX9_serve 217 = .ok (.ladd, 1) := by decide +kernel
theorem dX9_serve_218 : decode cX9_serve 218 = .ok (.lstore 5, 2) := by decide +kernel
theorem dX9_serve_220 : decode cX9_serve 220 = .ok (.aload_n 0, 1) := by decide +kernel
theorem dX9_serve_221 : decode cX9_serve 221 = .ok (.invokevirtual 145, 3) := by decide +kernel
theorem dX9_serve_224 : decode cX9_serve 224 = .ok (.istore 7, 2) := by decide +kernel
theorem dX9_serve_226 : decode cX9_serve 226 = .ok (.goto (-154), 3) := by decide +kernel
theorem dX9_serve_229 : decode cX9_serve 229 = .ok (.aload_n 0, 1) := by decide +kernel
theorem dX9_serve_230 : decode cX9_serve 230 = .ok (.iload_n 1, 1) := by decide +kernel
theorem dX9_serve_231 : decode cX9_serve 231 = .ok (.invokevirtual 122, 3) := by decide +kernel
theorem dX9_serve_234 : decode cX9_serve 234 = .ok (.lconst 0, 1) := by decide +kernel
theorem dX9_serve_235 : decode cX9_serve 235 = .ok (.lcmp, 1) := by decide +kernel
theorem dX9_serve_236 : decode cX9_serve 236 = .ok (.ifCond .ne 14, 3) := by decide +kernel
theorem dX9_serve_239 : decode cX9_serve 239 = .ok (.aload_n 0, 1) := by decide +kernel
theorem dX9_serve_240 : decode cX9_serve 240 = .ok (.getfield 7, 3) := by decide +kernel
theorem dX9_serve_243 : decode cX9_serve 243 = .ok (.sipush 1531, 3) := by decide +kernel
theorem dX9_serve_246 : decode cX9_serve 246 = .ok (.iload_n 1, 1) := by decide +kernel
theorem dX9_serve_247 : decode cX9_serve 247 = .ok (.iadd, 1) := by decide +kernel
theorem dX9_serve_248 : decode cX9_serve 248 = .ok (.lconst 1, 1) := by decide +kernel
theorem dX9_serve_249 : decode cX9_serve 249 = .ok (.lastore, 1) := by decide +kernel
theorem dX9_serve_250 : decode cX9_serve 250 = .ok (.lload_n 3, 1) := by decide +kernel
theorem dX9_serve_251 : decode cX9_serve 251 = .ok (.lconst 0, 1) := by decide +kernel
theorem dX9_serve_252 : decode cX9_serve 252 = .ok (.lcmp, 1) := by decide +kernel
theorem dX9_serve_253 : decode cX9_serve 253 = .ok (.ifCond .le 11, 3) := by decide +kernel
theorem dX9_serve_256 : decode cX9_serve 256 = .ok (.aload_n 0, 1) := by decide +kernel
theorem dX9_serve_257 : decode cX9_serve 257 = .ok (.iload_n 1, 1) := by decide +kernel
theorem dX9_serve_258 : decode cX9_serve 258 = .ok (.lload_n 3, 1) := by decide +kernel
theorem dX9_serve_259 : decode cX9_serve 259 = .ok (.lload 5, 2) := by decide +kernel
theorem dX9_serve_261 : decode cX9_serve 261 = .ok (.invokevirtual 156, 3) := by decide +kernel
theorem dX9_serve_264 : decode cX9_serve 264 = .ok (.return_, 1) := by decide +kernel
theorem dX9_openMany_0 : decode cX9_openMany 0 = .ok (.iconst 0, 1) := by decide +kernel
theorem dX9_openMany_1 : decode cX9_openMany 1 = .ok (.istore_n 1, 1) := by decide +kernel
theorem dX9_openMany_2 : decode cX9_openMany 2 = .ok (.iconst 0, 1) := by decide +kernel
theorem dX9_openMany_3 : decode cX9_openMany 3 = .ok (.istore_n 2, 1) := by decide +kernel
theorem dX9_openMany_4 : decode cX9_openMany 4 = .ok (.iload_n 2, 1) := by decide +kernel
theorem dX9_openMany_5 : decode cX9_openMany 5 = .ok (.i2l, 1) := by decide +kernel
theorem dX9_openMany_6 : decode cX9_openMany 6 = .ok (.aload_n 0, 1) := by decide +kernel
theorem dX9_openMany_7 : decode cX9_openMany 7 = .ok (.getfield 7, 3) := by decide +kernel
theorem dX9_openMany_10 : decode cX9_openMany 10 = .ok (.sipush 1882, 3) := by decide +kernel
theorem dX9_openMany_13 : decode cX9_openMany 13 = .ok (.laload, 1) := by decide +kernel
theorem dX9_openMany_14 : decode cX9_openMany 14 = .ok (.lcmp, 1) := by decide +kernel
theorem dX9_openMany_15 : decode cX9_openMany 15 = .ok (.ifCond .ge 32, 3) := by decide +kernel
theorem dX9_openMany_18 : decode cX9_openMany 18 = .ok (.iload_n 1, 1) := by decide +kernel
theorem dX9_openMany_19 : decode cX9_openMany 19 = .ok (.aload_n 0, 1) := by decide +kernel
theorem dX9_openMany_20 : decode cX9_openMany 20 = .ok (.getfield 7, 3) := by decide +kernel
theorem dX9_openMany_23 : decode cX9_openMany 23 = .ok (.sipush 1531, 3) := by decide +kernel
theorem dX9_openMany_26 : decode cX9_openMany 26 = .ok (.iload_n 2, 1) := by decide +kernel
theorem dX9_openMany_27 : decode cX9_openMany 27 = .ok (.iadd, 1) := by decide +kernel
theorem dX9_openMany_28 : decode cX9_openMany 28 = .ok (.laload, 1) := by decide +kernel
theorem dX9_openMany_29 : decode cX9_openMany 29 = .ok (.lconst 0, 1) := by decide +kernel
theorem dX9_openMany_30 : decode cX9_openMany 30 = .ok (.lcmp, 1) := by decide +kernel
theorem dX9_openMany_31 : decode cX9_openMany 31 = .ok (.ifCond .ne 7, 3) := by decide +kernel
theorem dX9_openMany_34 : decode cX9_openMany 34 = .ok (.iconst 1, 1) := by decide +kernel
theorem dX9_openMany_35 : decode cX9_openMany 35 = .ok (.goto 4, 3) := by decide +kernel
theorem dX9_openMany_38 : decode cX9_openMany 38 = .ok (.iconst 0, 1) := by decide +kernel
theorem dX9_openMany_39 : decode cX9_openMany 39 = .ok (.iadd, 1) := by decide +kernel
theorem dX9_openMany_40 : decode cX9_openMany 40 = .ok (.istore_n 1, 1) := by decide +kernel
theorem dX9_openMany_41 : decode cX9_openMany 41 = .ok (.iinc 2 1, 3) := by decide +kernel
theorem dX9_openMany_44 : decode cX9_openMany 44 = .ok (.goto (-40), 3) := by decide +kernel
theorem dX9_openMany_47 : decode cX9_openMany 47 = .ok (.iload_n 1, 1) := by decide +kernel
theorem dX9_openMany_48 : decode cX9_openMany 48 = .ok (.ireturn, 1) := by decide +kernel
theorem dX9_deliver_0 : decode cX9_deliver 0 = .ok (.aload_n 0, 1) := by decide +kernel
theorem dX9_deliver_1 : decode cX9_deliver 1 = .ok (.invokevirtual 159, 3) := by decide +kernel
theorem dX9_deliver_4 : decode cX9_deliver 4 = .ok (.istore_n 1, 1) := by decide +kernel
theorem dX9_deliver_5 : decode cX9_deliver 5 = .ok (.iconst 0, 1) := by decide +kernel
theorem dX9_deliver_6 : decode cX9_deliver 6 = .ok (.istore_n 2, 1) := by decide +kernel
theorem dX9_deliver_7 : decode cX9_deliver 7 = .ok (.iload_n 2, 1) := by decide +kernel
theorem dX9_deliver_8 : decode cX9_deliver 8 = .ok (.i2l, 1) := by decide +kernel
theorem dX9_deliver_9 : decode cX9_deliver 9 = .ok (.aload_n 0, 1) := by decide +kernel
theorem dX9_deliver_10 : decode cX9_deliver 10 = .ok (.getfield 7, 3) := by decide +kernel
theorem dX9_deliver_13 : decode cX9_deliver 13 = .ok (.sipush 1882, 3) := by decide +kernel
theorem dX9_deliver_16 : decode cX9_deliver 16 = .ok (.laload, 1) := by decide +kernel
theorem dX9_deliver_17 : decode cX9_deliver 17 = .ok (.lcmp, 1) := by decide +kernel
theorem dX9_deliver_18 : decode cX9_deliver 18 = .ok (.ifCond .ge 35, 3) := by decide +kernel
theorem dX9_deliver_21 : decode cX9_deliver 21 = .ok (.aload_n 0, 1) := by decide +kernel
theorem dX9_deliver_22 : decode cX9_deliver 22 = .ok (.getfield 7, 3) := by decide +kernel
theorem dX9_deliver_25 : decode cX9_deliver 25 = .ok (.sipush 1531, 3) := by decide +kernel
theorem dX9_deliver_28 : decode cX9_deliver 28 = .ok (.iload_n 2, 1) := by decide +kernel
theorem dX9_deliver_29 : decode cX9_deliver 29 = .ok (.iadd, 1) := by decide +kernel
theorem dX9_deliver_30 : decode cX9_deliver 30 = .ok (.laload, 1) := by decide +kernel
theorem dX9_deliver_31 : decode cX9_deliver 31 = .ok (.lconst 0, 1) := by decide +kernel
theorem dX9_deliver_32 : decode cX9_deliver 32 = .ok (.lcmp, 1) := by decide +kernel
theorem dX9_deliver_33 : decode cX9_deliver 33 = .ok (.ifCond .ne 14, 3) := by decide +kernel
theorem dX9_deliver_36 : decode cX9_deliver 36 = .ok (.aload_n 0, 1) := by decide +kernel
theorem dX9_deliver_37 : decode cX9_deliver 37 = .ok (.getfield 19, 3) := by decide +kernel
theorem dX9_deliver_40 : decode cX9_deliver 40 = .ok (.aload_n 0, 1) := by decide +kernel
theorem dX9_deliver_41 : decode cX9_deliver 41 = .ok (.iload_n 2, 1) := by decide +kernel
theorem dX9_deliver_42 : decode cX9_deliver 42 = .ok (.invokevirtual 162, 3) := by decide +kernel
theorem dX9_deliver_45 : decode cX9_deliver 45 = .ok (.iload_n 2, 1) := by decide +kernel
theorem dX9_deliver_46 : decode cX9_deliver 46 = .ok (.iastore, 1) := by decide +kernel
theorem dX9_deliver_47 : decode cX9_deliver 47 = .ok (.iinc 2 1, 3) := by decide +kernel
theorem dX9_deliver_50 : decode cX9_deliver 50 = .ok (.goto (-43), 3) := by decide +kernel
theorem dX9_deliver_53 : decode cX9_deliver 53 = .ok (.iconst 0, 1) := by decide +kernel
theorem dX9_deliver_54 : decode cX9_deliver 54 = .ok (.istore_n 2, 1) := by decide +kernel
theorem dX9_deliver_55 : decode cX9_deliver 55 = .ok (.iload_n 2, 1) := by decide +kernel
theorem dX9_deliver_56 : decode cX9_deliver 56 = .ok (.iload_n 1, 1) := by decide +kernel
theorem dX9_deliver_57 : decode cX9_deliver 57 = .ok (.if_icmp .ge 19, 3) := by decide +kernel
theorem dX9_deliver_60 : decode cX9_deliver 60 = .ok (.aload_n 0, 1) := by decide +kernel
theorem dX9_deliver_61 : decode cX9_deliver 61 = .ok (.aload_n 0, 1) := by decide +kernel
theorem dX9_deliver_62 : decode cX9_deliver 62 = .ok (.getfield 19, 3) := by decide +kernel
theorem dX9_deliver_65 : decode cX9_deliver 65 = .ok (.iload_n 2, 1) := by decide +kernel
theorem dX9_deliver_66 : decode cX9_deliver 66 = .ok (.iaload, 1) := by decide +kernel
theorem dX9_deliver_67 : decode cX9_deliver 67 = .ok (.invokevirtual 165, 3) := by decide +kernel
theorem dX9_deliver_70 : decode cX9_deliver 70 = .ok (.iinc 2 1, 3) := by decide +kernel
theorem dX9_deliver_73 : decode cX9_deliver 73 = .ok (.goto (-18), 3) := by decide +kernel
theorem dX9_deliver_76 : decode cX9_deliver 76 = .ok (.return_, 1) := by decide +kernel
theorem dX9_expire_0 : decode cX9_expire 0 = .ok (.iconst 0, 1) := by decide +kernel
theorem dX9_expire_1 : decode cX9_expire 1 = .ok (.istore_n 1, 1) := by decide +kernel
theorem dX9_expire_2 : decode cX9_expire 2 = .ok (.iload_n 1, 1) := by decide +kernel
theorem dX9_expire_3 : decode cX9_expire 3 = .ok (.i2l, 1) := by decide +kernel
theorem dX9_expire_4 : decode cX9_expire 4 = .ok (.aload_n 0, 1) := by decide +kernel
theorem dX9_expire_5 : decode cX9_expire 5 = .ok (.getfield 7, 3) := by decide +kernel
theorem dX9_expire_8 : decode cX9_expire 8 = .ok (.sipush 1882, 3) := by decide +kernel
theorem dX9_expire_11 : decode cX9_expire 11 = .ok (.laload, 1) := by decide +kernel
theorem dX9_expire_12 : decode cX9_expire 12 = .ok (.lcmp, 1) := by decide +kernel
theorem dX9_expire_13 : decode cX9_expire 13 = .ok (.ifCond .ge 70, 3) := by decide +kernel
theorem dX9_expire_16 : decode cX9_expire 16 = .ok (.aload_n 0, 1) := by decide +kernel
theorem dX9_expire_17 : decode cX9_expire 17 = .ok (.getfield 7, 3) := by decide +kernel
theorem dX9_expire_20 : decode cX9_expire 20 = .ok (.sipush 1531, 3) := by decide +kernel
theorem dX9_expire_23 : decode cX9_expire 23 = .ok (.iload_n 1, 1) := by decide +kernel
theorem dX9_expire_24 : decode cX9_expire 24 = .ok (.iadd, 1) := by decide +kernel
theorem dX9_expire_25 : decode cX9_expire 25 = .ok (.laload, 1) := by decide +kernel
theorem dX9_expire_26 : decode cX9_expire 26 = .ok (.lconst 0, 1) := by decide +kernel
theorem dX9_expire_27 : decode cX9_expire 27 = .ok (.lcmp, 1) := by decide +kernel
theorem dX9_expire_28 : decode cX9_expire 28 = .ok (.ifCond .ne 49, 3) := by decide +kernel
theorem dX9_expire_31 : decode cX9_expire 31 = .ok (.aload_n 0, 1) := by decide +kernel
theorem dX9_expire_32 : decode cX9_expire 32 = .ok (.getfield 7, 3) := by decide +kernel
theorem dX9_expire_35 : decode cX9_expire 35 = .ok (.sipush 1131, 3) := by decide +kernel
theorem dX9_expire_38 : decode cX9_expire 38 = .ok (.iload_n 1, 1) := by decide +kernel
theorem dX9_expire_39 : decode cX9_expire 39 = .ok (.iadd, 1) := by decide +kernel
theorem dX9_expire_40 : decode cX9_expire 40 = .ok (.dup2, 1) := by decide +kernel
theorem dX9_expire_41 : decode cX9_expire 41 = .ok (.laload, 1) := by decide +kernel
theorem dX9_expire_42 : decode cX9_expire 42 = .ok (.lconst 1, 1) := by decide +kernel
theorem dX9_expire_43 : decode cX9_expire 43 = .ok (.lsub, 1) := by decide +kernel
theorem dX9_expire_44 : decode cX9_expire 44 = .ok (.lastore, 1) := by decide +kernel
theorem dX9_expire_45 : decode cX9_expire 45 = .ok (.aload_n 0, 1) := by decide +kernel
theorem dX9_expire_46 : decode cX9_expire 46 = .ok (.getfield 7, 3) := by decide +kernel
theorem dX9_expire_49 : decode cX9_expire 49 = .ok (.sipush 1531, 3) := by decide +kernel
theorem dX9_expire_52 : decode cX9_expire 52 = .ok (.iload_n 1, 1) := by decide +kernel
theorem dX9_expire_53 : decode cX9_expire 53 = .ok (.iadd, 1) := by decide +kernel
theorem dX9_expire_54 : decode cX9_expire 54 = .ok (.aload_n 0, 1) := by decide +kernel
theorem dX9_expire_55 : decode cX9_expire 55 = .ok (.getfield 7, 3) := by decide +kernel
theorem dX9_expire_58 : decode cX9_expire 58 = .ok (.sipush 1131, 3) := by decide +kernel
theorem dX9_expire_61 : decode cX9_expire 61 = .ok (.iload_n 1, 1) := by decide +kernel
theorem dX9_expire_62 : decode cX9_expire 62 = .ok (.iadd, 1) := by decide +kernel
theorem dX9_expire_63 : decode cX9_expire 63 = .ok (.laload, 1) := by decide +kernel
theorem dX9_expire_64 : decode cX9_expire 64 = .ok (.lconst 0, 1) := by decide +kernel
theorem dX9_expire_65 : decode cX9_expire 65 = .ok (.lcmp, 1) := by decide +kernel
theorem dX9_expire_66 : decode cX9_expire 66 = .ok (.ifCond .ne 9, 3) := by decide +kernel
theorem dX9_expire_69 : decode cX9_expire 69 = .ok (.ldc2_w 31, 3) := by decide +kernel
theorem dX9_expire_72 : decode cX9_expire 72 = .ok (.goto 4, 3) := by decide +kernel
theorem dX9_expire_75 : decode cX9_expire 75 = .ok (.lconst 0, 1) := by decide +kernel
theorem dX9_expire_76 : decode cX9_expire 76 = .ok (.lastore, 1) := by decide +kernel
theorem dX9_expire_77 : decode cX9_expire 77 = .ok (.iinc 1 1, 3) := by decide +kernel
theorem dX9_expire_80 : decode cX9_expire 80 = .ok (.goto (-78), 3) := by decide +kernel
theorem dX9_expire_83 : decode cX9_expire 83 = .ok (.return_, 1) := by decide +kernel
theorem dX9_hour_0 : decode cX9_hour 0 = .ok (.aload_n 0, 1) := by decide +kernel
theorem dX9_hour_1 : decode cX9_hour 1 = .ok (.invokevirtual 169, 3) := by decide +kernel
theorem dX9_hour_4 : decode cX9_hour 4 = .ok (.aload_n 0, 1) := by decide +kernel
theorem dX9_hour_5 : decode cX9_hour 5 = .ok (.invokevirtual 172, 3) := by decide +kernel
theorem dX9_hour_8 : decode cX9_hour 8 = .ok (.aload_n 0, 1) := by decide +kernel
theorem dX9_hour_9 : decode cX9_hour 9 = .ok (.invokevirtual 175, 3) := by decide +kernel
theorem dX9_hour_12 : decode cX9_hour 12 = .ok (.aload_n 0, 1) := by decide +kernel
theorem dX9_hour_13 : decode cX9_hour 13 = .ok (.invokevirtual 178, 3) := by decide +kernel
theorem dX9_hour_16 : decode cX9_hour 16 = .ok (.iconst 0, 1) := by decide +kernel
theorem dX9_hour_17 : decode cX9_hour 17 = .ok (.istore_n 1, 1) := by decide +kernel
theorem dX9_hour_18 : decode cX9_hour 18 = .ok (.iload_n 1, 1) := by decide +kernel
theorem dX9_hour_19 : decode cX9_hour 19 = .ok (.i2l, 1) := by decide +kernel
theorem dX9_hour_20 : decode cX9_hour 20 = .ok (.aload_n 0, 1) := by decide +kernel
theorem dX9_hour_21 : decode cX9_hour 21 = .ok (.getfield 7, 3) := by decide +kernel
theorem dX9_hour_24 : decode cX9_hour 24 = .ok (.sipush 1880, 3) := by decide +kernel
theorem dX9_hour_27 : decode cX9_hour 27 = .ok (.laload, 1) := by decide +kernel
theorem dX9_hour_28 : decode cX9_hour 28 = .ok (.lcmp, 1) := by decide +kernel
theorem dX9_hour_29 : decode cX9_hour 29 = .ok (.ifCond .ge 51, 3) := by decide +kernel
theorem dX9_hour_32 : decode cX9_hour 32 = .ok (.iconst 0, 1) := by decide +kernel
theorem dX9_hour_33 : decode cX9_hour 33 = .ok (.istore_n 2, 1) := by decide +kernel
theorem dX9_hour_34 : decode cX9_hour 34 = .ok (.iload_n 2, 1) := by decide +kernel
theorem dX9_hour_35 : decode cX9_hour 35 = .ok (.i2l, 1) := by decide +kernel
theorem dX9_hour_36 : decode cX9_hour 36 = .ok (.aload_n 0, 1) := by decide +kernel
theorem dX9_hour_37 : decode cX9_hour 37 = .ok (.getfield 7, 3) := by decide +kernel
theorem dX9_hour_40 : decode cX9_hour 40 = .ok (.bipush 47, 2) := by decide +kernel
theorem dX9_hour_42 : decode cX9_hour 42 = .ok (.iload_n 1, 1) := by decide +kernel
theorem dX9_hour_43 : decode cX9_hour 43 = .ok (.iadd, 1) := by decide +kernel
theorem dX9_hour_44 : decode cX9_hour 44 = .ok (.laload, 1) := by decide +kernel
theorem dX9_hour_45 : decode cX9_hour 45 = .ok (.lcmp, 1) := by decide +kernel
theorem dX9_hour_46 : decode cX9_hour 46 = .ok (.ifCond .ge 28, 3) := by decide +kernel
theorem dX9_hour_49 : decode cX9_hour 49 = .ok (.aload_n 0, 1) := by decide +kernel
theorem dX9_hour_50 : decode cX9_hour 50 = .ok (.getfield 7, 3) := by decide +kernel
theorem dX9_hour_53 : decode cX9_hour 53 = .ok (.sipush 357, 3) := by decide +kernel
theorem dX9_hour_56 : decode cX9_hour 56 = .ok (.bipush 30, 2) := by decide +kernel
theorem dX9_hour_58 : decode cX9_hour 58 = .ok (.iload_n 1, 1) := by decide +kernel
theorem dX9_hour_59 : decode cX9_hour 59 = .ok (.imul, 1) := by decide +kernel
theorem dX9_hour_60 : decode cX9_hour 60 = .ok (.iadd, 1) := by decide +kernel
theorem dX9_hour_61 : decode cX9_hour 61 = .ok (.iload_n 2, 1) := by decide +kernel
theorem dX9_hour_62 : decode cX9_hour 62 = .ok (.iadd, 1) := by decide +kernel
theorem dX9_hour_63 : decode cX9_hour 63 = .ok (.dup2, 1) := by decide +kernel
theorem dX9_hour_64 : decode cX9_hour 64 = .ok (.laload, 1) := by decide +kernel
theorem dX9_hour_65 : decode cX9_hour 65 = .ok (.lconst 1, 1) := by decide +kernel
theorem dX9_hour_66 : decode cX9_hour 66 = .ok (.ladd, 1) := by decide +kernel
theorem dX9_hour_67 : decode cX9_hour 67 = .ok (.lastore, 1) := by decide +kernel
theorem dX9_hour_68 : decode cX9_hour 68 = .ok (.iinc 2 1, 3) := by decide +kernel
theorem dX9_hour_71 : decode cX9_hour 71 = .ok (.goto (-37), 3) := by decide +kernel
theorem dX9_hour_74 : decode cX9_hour 74 = .ok (.iinc 1 1, 3) := by decide +kernel
theorem dX9_hour_77 : decode cX9_hour 77 = .ok (.goto (-59), 3) := by decide +kernel
theorem dX9_hour_80 : decode cX9_hour 80 = .ok (.aload_n 0, 1) := by decide +kernel
theorem dX9_hour_81 : decode cX9_hour 81 = .ok (.getfield 7, 3) := by decide +kernel
theorem dX9_hour_84 : decode cX9_hour 84 = .ok (.sipush 1875, 3) := by decide +kernel
theorem dX9_hour_87 : decode cX9_hour 87 = .ok (.dup2, 1) := by decide +kernel
theorem dX9_hour_88 : decode cX9_hour 88 = .ok (.laload, 1) := by decide +kernel
theorem dX9_hour_89 : decode cX9_hour 89 = .ok (.lconst 1, 1) := by decide +kernel
theorem dX9_hour_90 : decode cX9_hour 90 = .ok (.ladd, 1) := by decide +kernel
theorem dX9_hour_91 : decode cX9_hour 91 = .ok (.lastore, 1) := by decide +kernel
theorem dX9_hour_92 : decode cX9_hour 92 = .ok (.return_, 1) := by decide +kernel
theorem dX9_passThrows_0 : decode cX9_passThrows 0 = .ok (.iload_n 1, 1) := by decide +kernel
theorem dX9_passThrows_1 : decode cX9_passThrows 1 = .ok (.i2l, 1) := by decide +kernel
theorem dX9_passThrows_2 : decode cX9_passThrows 2 = .ok (.lconst 1, 1) := by decide +kernel
theorem dX9_passThrows_3 : decode cX9_passThrows 3 = .ok (.ldc2_w 181, 3) := by decide +kernel
theorem dX9_passThrows_6 : decode cX9_passThrows 6 = .ok (.invokestatic 47, 3) := by decide +kernel
theorem dX9_passThrows_9 : decode cX9_passThrows 9 = .ok (.ifCond .ne 7, 3) := by decide +kernel
theorem dX9_passThrows_12 : decode cX9_passThrows 12 = .ok (.iconst 1, 1) := by decide +kernel
theorem dX9_passThrows_13 : decode cX9_passThrows 13 = .ok (.goto 26, 3) := by decide +kernel
theorem dX9_passThrows_16 : decode cX9_passThrows 16 = .ok (.aload_n 0, 1) := by decide +kernel
theorem dX9_passThrows_17 : decode cX9_passThrows 17 = .ok (.getfield 7, 3) := by decide +kernel
theorem dX9_passThrows_20 : decode cX9_passThrows 20 = .ok (.sipush 1875, 3) := by decide +kernel
theorem dX9_passThrows_23 : decode cX9_passThrows 23 = .ok (.laload, 1) := by decide +kernel
theorem dX9_passThrows_24 : decode cX9_passThrows 24 = .ok (.iload_n 1, 1) := by decide +kernel
theorem dX9_passThrows_25 : decode cX9_passThrows 25 = .ok (.i2l, 1) := by decide +kernel
theorem dX9_passThrows_26 : decode cX9_passThrows 26 = .ok (.ladd, 1) := by decide +kernel
theorem dX9_passThrows_27 : decode cX9_passThrows 27 = .ok (.ldc2_w 183, 3) := by decide +kernel
theorem dX9_passThrows_30 : decode cX9_passThrows 30 = .ok (.lcmp, 1) := by decide +kernel
theorem dX9_passThrows_31 : decode cX9_passThrows 31 = .ok (.ifCond .le 7, 3) := by decide +kernel
theorem dX9_passThrows_34 : decode cX9_passThrows 34 = .ok (.iconst 2, 1) := by decide +kernel
theorem dX9_passThrows_35 : decode cX9_passThrows 35 = .ok (.goto 4, 3) := by decide +kernel
theorem dX9_passThrows_38 : decode cX9_passThrows 38 = .ok (.iconst 0, 1) := by decide +kernel
theorem dX9_passThrows_39 : decode cX9_passThrows 39 = .ok (.ireturn, 1) := by decide +kernel
theorem dX9_doPass_0 : decode cX9_doPass 0 = .ok (.aload_n 0, 1) := by decide +kernel
theorem dX9_doPass_1 : decode cX9_doPass 1 = .ok (.getfield 7, 3) := by decide +kernel
theorem dX9_doPass_4 : decode cX9_doPass 4 = .ok (.sipush 1877, 3) := by decide +kernel
theorem dX9_doPass_7 : decode cX9_doPass 7 = .ok (.laload, 1) := by decide +kernel
theorem dX9_doPass_8 : decode cX9_doPass 8 = .ok (.lstore_n 2, 1) := by decide +kernel
theorem dX9_doPass_9 : decode cX9_doPass 9 = .ok (.iconst 0, 1) := by decide +kernel
theorem dX9_doPass_10 : decode cX9_doPass 10 = .ok (.istore 4, 2) := by decide +kernel
theorem dX9_doPass_12 : decode cX9_doPass 12 = .ok (.iload 4, 2) := by decide +kernel
theorem dX9_doPass_14 : decode cX9_doPass 14 = .ok (.iload_n 1, 1) := by decide +kernel
theorem dX9_doPass_15 : decode cX9_doPass 15 = .ok (.if_icmp .ge 13, 3) := by decide +kernel
theorem dX9_doPass_18 : decode cX9_doPass 18 = .ok (.aload_n 0, 1) := by decide +kernel
theorem dX9_doPass_19 : decode cX9_doPass 19 = .ok (.invokevirtual 185, 3) := by decide +kernel
theorem dX9_doPass_22 : decode cX9_doPass 22 = .ok (.iinc 4 1, 3) := by decide +kernel
theorem dX9_doPass_25 : decode cX9_doPass 25 = .ok (.goto (-13), 3) := by decide +kernel
theorem dX9_doPass_28 : decode cX9_doPass 28 = .ok (.aload_n 0, 1) := by decide +kernel
theorem dX9_doPass_29 : decode cX9_doPass 29 = .ok (.getfield 7, 3) := by decide +kernel
theorem dX9_doPass_32 : decode cX9_doPass 32 = .ok (.sipush 1877, 3) := by decide +kernel
theorem dX9_doPass_35 : decode cX9_doPass 35 = .ok (.laload, 1) := by decide +kernel
theorem dX9_doPass_36 : decode cX9_doPass 36 = .ok (.lload_n 2, 1) := by decide +kernel
theorem dX9_doPass_37 : decode cX9_doPass 37 = .ok (.lsub, 1) := by decide +kernel
theorem dX9_doPass_38 : decode cX9_doPass 38 = .ok (.l2i, 1) := by decide +kernel
theorem dX9_doPass_39 : decode cX9_doPass 39 = .ok (.ireturn, 1) := by decide +kernel
theorem dX9_pass_0 : decode cX9_pass 0 = .ok (.aload_n 0, 1) := by decide +kernel
theorem dX9_pass_1 : decode cX9_pass 1 = .ok (.iconst 0, 1) := by decide +kernel
theorem dX9_pass_2 : decode cX9_pass 2 = .ok (.putfield 43, 3) := by decide +kernel
theorem dX9_pass_5 : decode cX9_pass 5 = .ok (.aload_n 0, 1) := by decide +kernel
theorem dX9_pass_6 : decode cX9_pass 6 = .ok (.iload_n 1, 1) := by decide +kernel
theorem dX9_pass_7 : decode cX9_pass 7 = .ok (.invokevirtual 188, 3) := by decide +kernel
theorem dX9_pass_10 : decode cX9_pass 10 = .ok (.istore_n 2, 1) := by decide +kernel
theorem dX9_pass_11 : decode cX9_pass 11 = .ok (.iload_n 2, 1) := by decide +kernel
theorem dX9_pass_12 : decode cX9_pass 12 = .ok (.ifCond .le 9, 3) := by decide +kernel
theorem dX9_pass_15 : decode cX9_pass 15 = .ok (.aload_n 0, 1) := by decide +kernel
theorem dX9_pass_16 : decode cX9_pass 16 = .ok (.iload_n 2, 1) := by decide +kernel
theorem dX9_pass_17 : decode cX9_pass 17 = .ok (.invokevirtual 60, 3) := by decide +kernel
theorem dX9_pass_20 : decode cX9_pass 20 = .ok (.ireturn, 1) := by decide +kernel
theorem dX9_pass_21 : decode cX9_pass 21 = .ok (.aload_n 0, 1) := by decide +kernel
theorem dX9_pass_22 : decode cX9_pass 22 = .ok (.invokevirtual 66, 3) := by decide +kernel
theorem dX9_pass_25 : decode cX9_pass 25 = .ok (.aload_n 0, 1) := by decide +kernel
theorem dX9_pass_26 : decode cX9_pass 26 = .ok (.iload_n 1, 1) := by decide +kernel
theorem dX9_pass_27 : decode cX9_pass 27 = .ok (.invokevirtual 191, 3) := by decide +kernel
theorem dX9_pass_30 : decode cX9_pass 30 = .ok (.ireturn, 1) := by decide +kernel
theorem dX9_addBoat_0 : decode cX9_addBoat 0 = .ok (.aload_n 0, 1) := by decide +kernel
theorem dX9_addBoat_1 : decode cX9_addBoat 1 = .ok (.iconst 0, 1) := by decide +kernel
theorem dX9_addBoat_2 : decode cX9_addBoat 2 = .ok (.putfield 43, 3) := by decide +kernel
theorem dX9_addBoat_5 : decode cX9_addBoat 5 = .ok (.iload_n 1, 1) := by decide +kernel
theorem dX9_addBoat_6 : decode cX9_addBoat 6 = .ok (.i2l, 1) := by decide +kernel
theorem dX9_addBoat_7 : decode cX9_addBoat 7 = .ok (.lconst 0, 1) := by decide +kernel
theorem dX9_addBoat_8 : decode cX9_addBoat 8 = .ok (.ldc2_w 194, 3) := by decide +kernel
theorem dX9_addBoat_11 : decode cX9_addBoat 11 = .ok (.invokestatic 47, 3) := by decide +kernel
theorem dX9_addBoat_14 : decode cX9_addBoat 14 = .ok (.ifCond .ne 9, 3) := by decide +kernel
theorem dX9_addBoat_17 : decode cX9_addBoat 17 = .ok (.aload_n 0, 1) := by decide +kernel
theorem dX9_addBoat_18 : decode cX9_addBoat 18 = .ok (.iconst 1, 1) := by decide +kernel
theorem dX9_addBoat_19 : decode cX9_addBoat 19 = .ok (.invokevirtual 60, 3) := by decide +kernel
theorem dX9_addBoat_22 : decode cX9_addBoat 22 = .ok (.ireturn, 1) := by decide +kernel
theorem dX9_addBoat_23 : decode cX9_addBoat 23 = .ok (.aload_n 0, 1) := by decide +kernel
theorem dX9_addBoat_24 : decode cX9_addBoat 24 = .ok (.getfield 7, 3) := by decide +kernel
theorem dX9_addBoat_27 : decode cX9_addBoat 27 = .ok (.sipush 1881, 3) := by decide +kernel
theorem dX9_addBoat_30 : decode cX9_addBoat 30 = .ok (.laload, 1) := by decide +kernel
theorem dX9_addBoat_31 : decode cX9_addBoat 31 = .ok (.ldc2_w 196, 3) := by decide +kernel
theorem dX9_addBoat_34 : decode cX9_addBoat 34 = .ok (.lcmp, 1) := by decide +kernel
theorem dX9_addBoat_35 : decode cX9_addBoat 35 = .ok (.ifCond .ne 9, 3) := by decide +kernel
theorem dX9_addBoat_38 : decode cX9_addBoat 38 = .ok (.aload_n 0, 1) := by decide +kernel
theorem dX9_addBoat_39 : decode cX9_addBoat 39 = .ok (.iconst 2, 1) := by decide +kernel
theorem dX9_addBoat_40 : decode cX9_addBoat 40 = .ok (.invokevirtual 60, 3) := by decide +kernel
theorem dX9_addBoat_43 : decode cX9_addBoat 43 = .ok (.ireturn, 1) := by decide +kernel
theorem dX9_addBoat_44 : decode cX9_addBoat 44 = .ok (.aload_n 0, 1) := by decide +kernel
theorem dX9_addBoat_45 : decode cX9_addBoat 45 = .ok (.invokevirtual 66, 3) := by decide +kernel
theorem dX9_addBoat_48 : decode cX9_addBoat 48 = .ok (.aload_n 0, 1) := by decide +kernel
theorem dX9_addBoat_49 : decode cX9_addBoat 49 = .ok (.getfield 7, 3) := by decide +kernel
theorem dX9_addBoat_52 : decode cX9_addBoat 52 = .ok (.sipush 507, 3) := by decide +kernel
theorem dX9_addBoat_55 : decode cX9_addBoat 55 = .ok (.aload_n 0, 1) := by decide +kernel
theorem dX9_addBoat_56 : decode cX9_addBoat 56 = .ok (.getfield 7, 3) := by decide +kernel
theorem dX9_addBoat_59 : decode cX9_addBoat 59 = .ok (.sipush 1881, 3) := by decide +kernel
theorem dX9_addBoat_62 : decode cX9_addBoat 62 = .ok (.laload, 1) := by decide +kernel
theorem dX9_addBoat_63 : decode cX9_addBoat 63 = .ok (.l2i, 1) := by decide +kernel
theorem dX9_addBoat_64 : decode cX9_addBoat 64 = .ok (.iadd, 1) := by decide +kernel
theorem dX9_addBoat_65 : decode cX9_addBoat 65 = .ok (.iload_n 1, 1) := by decide +kernel
theorem dX9_addBoat_66 : decode cX9_addBoat 66 = .ok (.i2l, 1) := by decide +kernel
theorem dX9_addBoat_67 : decode cX9_addBoat 67 = .ok (.lastore, 1) := by decide +kernel
theorem dX9_addBoat_68 : decode cX9_addBoat 68 = .ok (.aload_n 0, 1) := by decide +kernel
theorem dX9_addBoat_69 : decode cX9_addBoat 69 = .ok (.getfield 7, 3) := by decide +kernel
theorem dX9_addBoat_72 : decode cX9_addBoat 72 = .ok (.sipush 1881, 3) := by decide +kernel
theorem dX9_addBoat_75 : decode cX9_addBoat 75 = .ok (.dup2, 1) := by decide +kernel
theorem dX9_addBoat_76 : decode cX9_addBoat 76 = .ok (.laload, 1) := by decide +kernel
theorem dX9_addBoat_77 : decode cX9_addBoat 77 = .ok (.lconst 1, 1) := by decide +kernel
theorem dX9_addBoat_78 : decode cX9_addBoat 78 = .ok (.ladd, 1) := by decide +kernel
theorem dX9_addBoat_79 : decode cX9_addBoat 79 = .ok (.lastore, 1) := by decide +kernel
theorem dX9_addBoat_80 : decode cX9_addBoat 80 = .ok (.aload_n 0, 1) := by decide +kernel
theorem dX9_addBoat_81 : decode cX9_addBoat 81 = .ok (.getfield 7, 3) := by decide +kernel
theorem dX9_addBoat_84 : decode cX9_addBoat 84 = .ok (.sipush 1881, 3) := by decide +kernel
theorem dX9_addBoat_87 : decode cX9_addBoat 87 = .ok (.laload, 1) := by decide +kernel
theorem dX9_addBoat_88 : decode cX9_addBoat 88 = .ok (.l2i, 1) := by decide +kernel
theorem dX9_addBoat_89 : decode cX9_addBoat 89 = .ok (.iconst 1, 1) := by decide +kernel
theorem dX9_addBoat_90 : decode cX9_addBoat 90 = .ok (.isub, 1) := by decide +kernel
theorem dX9_addBoat_91 : decode cX9_addBoat 91 = .ok (.ireturn, 1) := by decide +kernel
theorem dX9_catchThrows_0 : decode cX9_catchThrows 0 = .ok (.aload_n 0, 1) := by decide +kernel
theorem dX9_catchThrows_1 : decode cX9_catchThrows 1 = .ok (.iload_n 1, 1) := by decide +kernel
theorem dX9_catchThrows_2 : decode cX9_catchThrows 2 = .ok (.invokevirtual 198, 3) := by decide +kernel
theorem dX9_catchThrows_5 : decode cX9_catchThrows 5 = .ok (.ifCond .ne 7, 3) := by decide +kernel
theorem dX9_catchThrows_8 : decode cX9_catchThrows 8 = .ok (.iconst 1, 1) := by decide +kernel
theorem dX9_catchThrows_9 : decode cX9_catchThrows 9 = .ok (.goto 20, 3) := by decide +kernel
theorem dX9_catchThrows_12 : decode cX9_catchThrows 12 = .ok (.iload_n 2, 1) := by decide +kernel
theorem dX9_catchThrows_13 : decode cX9_catchThrows 13 = .ok (.i2l, 1) := by decide +kernel
theorem dX9_catchThrows_14 : decode cX9_catchThrows 14 = .ok (.lconst 0, 1) := by decide +kernel
theorem dX9_catchThrows_15 : decode cX9_catchThrows 15 = .ok (.ldc2_w 194, 3) := by decide +kernel
theorem dX9_catchThrows_18 : decode cX9_catchThrows 18 = .ok (.invokestatic 47, 3) := by decide +kernel
theorem dX9_catchThrows_21 : decode cX9_catchThrows 21 = .ok (.ifCond .ne 7, 3) := by decide +kernel
theorem dX9_catchThrows_24 : decode cX9_catchThrows 24 = .ok (.iconst 2, 1) := by decide +kernel
theorem dX9_catchThrows_25 : decode cX9_catchThrows 25 = .ok (.goto 4, 3) := by decide +kernel
theorem dX9_catchThrows_28 : decode cX9_catchThrows 28 = .ok (.iconst 0, 1) := by decide +kernel
theorem dX9_catchThrows_29 : decode cX9_catchThrows 29 = .ok (.ireturn, 1) := by decide +kernel
theorem dX9_setCatch_0 : decode cX9_setCatch 0 = .ok (.aload_n 0, 1) := by decide +kernel
theorem dX9_setCatch_1 : decode cX9_setCatch 1 = .ok (.iconst 0, 1) := by decide +kernel
theorem dX9_setCatch_2 : decode cX9_setCatch 2 = .ok (.putfield 43, 3) := by decide +kernel
theorem dX9_setCatch_5 : decode cX9_setCatch 5 = .ok (.aload_n 0, 1) := by decide +kernel
theorem dX9_setCatch_6 : decode cX9_setCatch 6 = .ok (.iload_n 1, 1) := by decide +kernel
theorem dX9_setCatch_7 : decode cX9_setCatch 7 = .ok (.iload_n 2, 1) := by decide +kernel
theorem dX9_setCatch_8 : decode cX9_setCatch 8 = .ok (.invokevirtual 201, 3) := by decide +kernel
theorem dX9_setCatch_11 : decode cX9_setCatch 11 = .ok (.istore_n 3, 1) := by decide +kernel
theorem dX9_setCatch_12 : decode cX9_setCatch 12 = .ok (.iload_n 3, 1) := by decide +kernel
theorem dX9_setCatch_13 : decode cX9_setCatch 13 = .ok (.ifCond .le 11, 3) := by decide +kernel
theorem dX9_setCatch_16 : decode cX9_setCatch 16 = .ok (.aload_n 0, 1) := by decide +kernel
theorem dX9_setCatch_17 : decode cX9_setCatch 17 = .ok (.iload_n 3, 1) := by decide +kernel
theorem dX9_setCatch_18 : decode cX9_setCatch 18 = .ok (.invokevirtual 60, 3) := by decide +kernel
theorem dX9_setCatch_21 : decode cX9_setCatch 21 = .ok (.goto 13, 3) := by decide +kernel
theorem dX9_setCatch_24 : decode cX9_setCatch 24 = .ok (.aload_n 0, 1) := by decide +kernel
theorem dX9_setCatch_25 : decode cX9_setCatch 25 = .ok (.sipush 507, 3) := by decide +kernel
theorem dX9_setCatch_28 : decode cX9_setCatch 28 = .ok (.iload_n 1, 1) := by decide +kernel
theorem dX9_setCatch_29 : decode cX9_setCatch 29 = .ok (.iadd, 1) := by decide +kernel
theorem dX9_setCatch_30 : decode cX9_setCatch 30 = .ok (.iload_n 2, 1) := by decide +kernel
theorem dX9_setCatch_31 : decode cX9_setCatch 31 = .ok (.invokevirtual 73, 3) := by decide +kernel
theorem dX9_setCatch_34 : decode cX9_setCatch 34 = .ok (.ireturn, 1) := by decide +kernel
theorem dX9_orderThrows_0 : decode cX9_orderThrows 0 = .ok (.aload_n 0, 1) := by decide +kernel
theorem dX9_orderThrows_1 : decode cX9_orderThrows 1 = .ok (.iload_n 1, 1) := by decide +kernel
theorem dX9_orderThrows_2 : decode cX9_orderThrows 2 = .ok (.invokevirtual 198, 3) := by decide +kernel
theorem dX9_orderThrows_5 : decode cX9_orderThrows 5 = .ok (.ifCond .ne 5, 3) := by decide +kernel
theorem dX9_orderThrows_8 : decode cX9_orderThrows 8 = .ok (.iconst 1, 1) := by decide +kernel
theorem dX9_orderThrows_9 : decode cX9_orderThrows 9 = .ok (.ireturn, 1) := by decide +kernel
theorem dX9_orderThrows_10 : decode cX9_orderThrows 10 = .ok (.iload_n 2, 1) := by decide +kernel
theorem dX9_orderThrows_11 : decode cX9_orderThrows 11 = .ok (.i2l, 1) := by decide +kernel
theorem dX9_orderThrows_12 : decode cX9_orderThrows 12 = .ok (.lconst 1, 1) := by decide +kernel
theorem dX9_orderThrows_13 : decode cX9_orderThrows 13 = .ok (.ldc2_w 204, 3) := by decide +kernel
theorem dX9_orderThrows_16 : decode cX9_orderThrows 16 = .ok (.invokestatic 47, 3) := by decide +kernel
theorem dX9_orderThrows_19 : decode cX9_orderThrows 19 = .ok (.ifCond .eq 15, 3) := by decide +kernel
theorem dX9_orderThrows_22 : decode cX9_orderThrows 22 = .ok (.iload_n 3, 1) := by decide +kernel
theorem dX9_orderThrows_23 : decode cX9_orderThrows 23 = .ok (.i2l, 1) := by decide +kernel
theorem dX9_orderThrows_24 : decode cX9_orderThrows 24 = .ok (.lconst 1, 1) := by decide +kernel
theorem dX9_orderThrows_25 : decode cX9_orderThrows 25 = .ok (.ldc2_w 206, 3) := by decide +kernel
theorem dX9_orderThrows_28 : decode cX9_orderThrows 28 = .ok (.invokestatic 47, 3) := by decide +kernel
theorem dX9_orderThrows_31 : decode cX9_orderThrows 31 = .ok (.ifCond .ne 5, 3) := by decide +kernel
theorem dX9_orderThrows_34 : decode cX9_orderThrows 34 = .ok (.iconst 2, 1) := by decide +kernel
theorem dX9_orderThrows_35 : decode cX9_orderThrows 35 = .ok (.ireturn, 1) := by decide +kernel
theorem dX9_orderThrows_36 : decode cX9_orderThrows 36 = .ok (.aload_n 0, 1) := by decide +kernel
theorem dX9_orderThrows_37 : decode cX9_orderThrows 37 = .ok (.invokevirtual 159, 3) := by decide +kernel
theorem dX9_orderThrows_40 : decode cX9_orderThrows 40 = .ok (.bipush 20, 2) := by decide +kernel
theorem dX9_orderThrows_42 : decode cX9_orderThrows 42 = .ok (.if_icmp .eq 18, 3) := by decide +kernel
theorem dX9_orderThrows_45 : decode cX9_orderThrows 45 = .ok (.aload_n 0, 1) := by decide +kernel
theorem dX9_orderThrows_46 : decode cX9_orderThrows 46 = .ok (.getfield 7, 3) := by decide +kernel
theorem dX9_orderThrows_49 : decode cX9_orderThrows 49 = .ok (.sipush 1882, 3) := by decide +kernel
theorem dX9_orderThrows_52 : decode cX9_orderThrows 52 = .ok (.laload, 1) := by decide +kernel
theorem dX9_orderThrows_53 : decode cX9_orderThrows 53 = .ok (.ldc2_w 206, 3) := by decide +kernel
theorem dX9_orderThrows_56 : decode cX9_orderThrows 56 = .ok (.lcmp, 1) := by decide +kernel
theorem dX9_orderThrows_57 : decode cX9_orderThrows 57 = .ok (.ifCond .ne 7, 3) := by decide +kernel
theorem dX9_orderThrows_60 : decode cX9_orderThrows 60 = .ok (.iconst 3, 1) := by decide +kernel
theorem dX9_orderThrows_61 : decode cX9_orderThrows 61 = .ok (.goto 4, 3) := by decide +kernel
theorem dX9_orderThrows_64 : decode cX9_orderThrows 64 = .ok (.iconst 0, 1) := by decide +kernel
theorem dX9_orderThrows_65 : decode cX9_orderThrows 65 = .ok (.ireturn, 1) := by decide +kernel
theorem dX9_doOrder_0 : decode cX9_doOrder 0 = .ok (.aload_n 0, 1) := by decide +kernel
theorem dX9_doOrder_1 : decode cX9_doOrder 1 = .ok (.getfield 7, 3) := by decide +kernel
theorem dX9_doOrder_4 : decode cX9_doOrder 4 = .ok (.sipush 1882, 3) := by decide +kernel
theorem dX9_doOrder_7 : decode cX9_doOrder 7 = .ok (.laload, 1) := by decide +kernel
theorem dX9_doOrder_8 : decode cX9_doOrder 8 = .ok (.l2i, 1) := by decide +kernel
theorem dX9_doOrder_9 : decode cX9_doOrder 9 = .ok (.istore 5, 2) := by decide +kernel
theorem dX9_doOrder_11 : decode cX9_doOrder 11 = .ok (.aload_n 0, 1) := by decide +kernel
theorem dX9_doOrder_12 : decode cX9_doOrder 12 = .ok (.getfield 7, 3) := by decide +kernel
theorem dX9_doOrder_15 : decode cX9_doOrder 15 = .ok (.sipush 1882, 3) := by decide +kernel
theorem dX9_doOrder_18 : decode cX9_doOrder 18 = .ok (.dup2, 1) := by decide +kernel
theorem dX9_doOrder_19 : decode cX9_doOrder 19 = .ok (.laload, 1) := by decide +kernel
theorem dX9_doOrder_20 : decode cX9_doOrder 20 = .ok (.lconst 1, 1) := by decide +kernel
theorem dX9_doOrder_21 : decode cX9_doOrder 21 = .ok (.ladd, 1) := by decide +kernel
theorem dX9_doOrder_22 : decode cX9_doOrder 22 = .ok (.lastore, 1) := by decide +kernel
theorem dX9_doOrder_23 : decode cX9_doOrder 23 = .ok (.aload_n 0, 1) := by decide +kernel
theorem dX9_doOrder_24 : decode cX9_doOrder 24 = .ok (.getfield 7, 3) := by decide +kernel
theorem dX9_doOrder_27 : decode cX9_doOrder 27 = .ok (.sipush 531, 3) := by decide +kernel
theorem dX9_doOrder_30 : decode cX9_doOrder 30 = .ok (.iload 5, 2) := by decide +kernel
theorem dX9_doOrder_32 : decode cX9_doOrder 32 = .ok (.iadd, 1) := by decide +kernel
theorem dX9_doOrder_33 : decode cX9_doOrder 33 = .ok (.iload_n 1, 1) := by decide +kernel
theorem dX9_doOrder_34 : decode cX9_doOrder 34 = .ok (.i2l, 1) := by decide +kernel
theorem dX9_doOrder_35 : decode cX9_doOrder 35 = .ok (.lastore, 1) := by decide +kernel
theorem dX9_doOrder_36 : decode cX9_doOrder 36 = .ok (.aload_n 0, 1) := by decide +kernel
theorem dX9_doOrder_37 : decode cX9_doOrder 37 = .ok (.getfield 7, 3) := by decide +kernel
theorem dX9_doOrder_40 : decode cX9_doOrder 40 = .ok (.sipush 731, 3) := by decide +kernel
theorem dX9_doOrder_43 : decode cX9_doOrder 43 = .ok (.iload 5, 2) := by decide +kernel
theorem dX9_doOrder_45 : decode cX9_doOrder 45 = .ok (.iadd, 1) := by decide +kernel
theorem dX9_doOrder_46 : decode cX9_doOrder 46 = .ok (.iload_n 2, 1) := by decide +kernel
theorem dX9_doOrder_47 : decode cX9_doOrder 47 = .ok (.i2l, 1) := by decide +kernel
theorem dX9_doOrder_48 : decode cX9_doOrder 48 = .ok (.lastore, 1) := by decide +kernel
theorem dX9_doOrder_49 : decode cX9_doOrder 49 = .ok (.aload_n 0, 1) := by decide +kernel
theorem dX9_doOrder_50 : decode cX9_doOrder 50 = .ok (.getfield 7, 3) := by decide +kernel
theorem dX9_doOrder_53 : decode cX9_doOrder 53 = .ok (.sipush 1131, 3) := by decide +kernel
theorem dX9_doOrder_56 : decode cX9_doOrder 56 = .ok (.iload 5, 2) := by decide +kernel
theorem dX9_doOrder_58 : decode cX9_doOrder 58 = .ok (.iadd, 1) := by decide +kernel
theorem dX9_doOrder_59 : decode cX9_doOrder 59 = .ok (.iload_n 3, 1) := by decide +kernel
theorem dX9_doOrder_60 : decode cX9_doOrder 60 = .ok (.i2l, 1) := by decide +kernel
theorem dX9_doOrder_61 : decode cX9_doOrder 61 = .ok (.lastore, 1) := by decide +kernel
theorem dX9_doOrder_62 : decode cX9_doOrder 62 = .ok (.aload_n 0, 1) := by decide +kernel
theorem dX9_doOrder_63 : decode cX9_doOrder 63 = .ok (.getfield 7, 3) := by decide +kernel
theorem dX9_doOrder_66 : decode cX9_doOrder 66 = .ok (.sipush 1331, 3) := by decide +kernel
theorem dX9_doOrder_69 : decode cX9_doOrder 69 = .ok (.iload 5, 2) := by decide +kernel
theorem dX9_doOrder_71 : decode cX9_doOrder 71 = .ok (.iadd, 1) := by decide +kernel
theorem dX9_doOrder_72 : decode cX9_doOrder 72 = .ok (.iload 4, 2) := by decide +kernel
theorem dX9_doOrder_74 : decode cX9_doOrder 74 = .ok (.ifCond .eq 7, 3) := by decide +kernel
theorem dX9_doOrder_77 : decode cX9_doOrder 77 = .ok (.lconst 1, 1) := by decide +kernel
theorem dX9_doOrder_78 : decode cX9_doOrder 78 = .ok (.goto 4, 3) := by decide +kernel
theorem dX9_doOrder_81 : decode cX9_doOrder 81 = .ok (.lconst 0, 1) := by decide +kernel
theorem dX9_doOrder_82 : decode cX9_doOrder 82 = .ok (.lastore, 1) := by decide +kernel
theorem dX9_doOrder_83 : decode cX9_doOrder 83 = .ok (.iload 5, 2) := by decide +kernel
theorem dX9_doOrder_85 : decode cX9_doOrder 85 = .ok (.ireturn, 1) := by decide +kernel
theorem dX9_order_0 : decode cX9_order 0 = .ok (.aload_n 0, 1) := by decide +kernel
theorem dX9_order_1 : decode cX9_order 1 = .ok (.iconst 0, 1) := by decide +kernel
theorem dX9_order_2 : decode cX9_order 2 = .ok (.putfield 43, 3) := by decide +kernel
theorem dX9_order_5 : decode cX9_order 5 = .ok (.aload_n 0, 1) := by decide +kernel
theorem dX9_order_6 : decode cX9_order 6 = .ok (.iload_n 1, 1) := by decide +kernel
theorem dX9_order_7 : decode cX9_order 7 = .ok (.iload_n 2, 1) := by decide +kernel
theorem dX9_order_8 : decode cX9_order 8 = .ok (.iload_n 3, 1) := by decide +kernel
theorem dX9_order_9 : decode cX9_order 9 = .ok (.invokevirtual 208, 3) := by decide +kernel
theorem dX9_order_12 : decode cX9_order 12 = .ok (.istore 5, 2) := by decide +kernel
theorem dX9_order_14 : decode cX9_order 14 = .ok (.iload 5, 2) := by decide +kernel
theorem dX9_order_16 : decode cX9_order 16 = .ok (.ifCond .le 10, 3) := by decide +kernel
theorem dX9_order_19 : decode cX9_order 19 = .ok (.aload_n 0, 1) := by decide +kernel
theorem dX9_order_20 : decode cX9_order 20 = .ok (.iload 5, 2) := by decide +kernel
theorem dX9_order_22 : decode cX9_order 22 = .ok (.invokevirtual 60, 3) := by decide +kernel
theorem dX9_order_25 : decode cX9_order 25 = .ok (.ireturn, 1) := by decide +kernel
theorem dX9_order_26 : decode cX9_order 26 = .ok (.aload_n 0, 1) := by decide +kernel
theorem dX9_order_27 : decode cX9_order 27 = .ok (.invokevirtual 66, 3) := by decide +kernel
theorem dX9_order_30 : decode cX9_order 30 = .ok (.aload_n 0, 1) := by decide +kernel
theorem dX9_order_31 : decode cX9_order 31 = .ok (.iload_n 1, 1) := by decide +kernel
theorem dX9_order_32 : decode cX9_order 32 = .ok (.iload_n 2, 1) := by decide +kernel
theorem dX9_order_33 : decode cX9_order 33 = .ok (.iload_n 3, 1) := by decide +kernel
theorem dX9_order_34 : decode cX9_order 34 = .ok (.iload 4, 2) := by decide +kernel
theorem dX9_order_36 : decode cX9_order 36 = .ok (.invokevirtual 212, 3) := by decide +kernel
theorem dX9_order_39 : decode cX9_order 39 = .ok (.ireturn, 1) := by decide +kernel
theorem dX9_cancel_0 : decode cX9_cancel 0 = .ok (.aload_n 0, 1) := by decide +kernel
theorem dX9_cancel_1 : decode cX9_cancel 1 = .ok (.iconst 0, 1) := by decide +kernel
theorem dX9_cancel_2 : decode cX9_cancel 2 = .ok (.putfield 43, 3) := by decide +kernel
theorem dX9_cancel_5 : decode cX9_cancel 5 = .ok (.aload_n 0, 1) := by decide +kernel
theorem dX9_cancel_6 : decode cX9_cancel 6 = .ok (.iload_n 1, 1) := by decide +kernel
theorem dX9_cancel_7 : decode cX9_cancel 7 = .ok (.invokevirtual 216, 3) := by decide +kernel
theorem dX9_cancel_10 : decode cX9_cancel 10 = .ok (.ifCond .ne 9, 3) := by decide +kernel
theorem dX9_cancel_13 : decode cX9_cancel 13 = .ok (.aload_n 0, 1) := by decide +kernel
theorem dX9_cancel_14 : decode cX9_cancel 14 = .ok (.iconst 1, 1) := by decide +kernel
theorem dX9_cancel_15 : decode cX9_cancel 15 = .ok (.invokevirtual 60, 3) := by decide +kernel
theorem dX9_cancel_18 : decode cX9_cancel 18 = .ok (.ireturn, 1) := by decide +kernel
theorem dX9_cancel_19 : decode cX9_cancel 19 = .ok (.aload_n 0, 1) := by decide +kernel
theorem dX9_cancel_20 : decode cX9_cancel 20 = .ok (.getfield 7, 3) := by decide +kernel
theorem dX9_cancel_23 : decode cX9_cancel 23 = .ok (.sipush 1531, 3) := by decide +kernel
theorem dX9_cancel_26 : decode cX9_cancel 26 = .ok (.iload_n 1, 1) := by decide +kernel
theorem dX9_cancel_27 : decode cX9_cancel 27 = .ok (.iadd, 1) := by decide +kernel
theorem dX9_cancel_28 : decode cX9_cancel 28 = .ok (.laload, 1) := by decide +kernel
theorem dX9_cancel_29 : decode cX9_cancel 29 = .ok (.lconst 0, 1) := by decide +kernel
theorem dX9_cancel_30 : decode cX9_cancel 30 = .ok (.lcmp, 1) := by decide +kernel
theorem dX9_cancel_31 : decode cX9_cancel 31 = .ok (.ifCond .eq 9, 3) := by decide +kernel
theorem dX9_cancel_34 : decode cX9_cancel 34 = .ok (.aload_n 0, 1) := by decide +kernel
theorem dX9_cancel_35 : decode cX9_cancel 35 = .ok (.iconst 2, 1) := by decide +kernel
theorem dX9_cancel_36 : decode cX9_cancel 36 = .ok (.invokevirtual 60, 3) := by decide +kernel
theorem dX9_cancel_39 : decode cX9_cancel 39 = .ok (.ireturn, 1) := by decide +kernel
theorem dX9_cancel_40 : decode cX9_cancel 40 = .ok (.aload_n 0, 1) := by decide +kernel
theorem dX9_cancel_41 : decode cX9_cancel 41 = .ok (.invokevirtual 66, 3) := by decide +kernel
theorem dX9_cancel_44 : decode cX9_cancel 44 = .ok (.aload_n 0, 1) := by decide +kernel
theorem dX9_cancel_45 : decode cX9_cancel 45 = .ok (.getfield 7, 3) := by decide +kernel
theorem dX9_cancel_48 : decode cX9_cancel 48 = .ok (.sipush 1531, 3) := by decide +kernel
theorem dX9_cancel_51 : decode cX9_cancel 51 = .ok (.iload_n 1, 1) := by decide +kernel
theorem dX9_cancel_52 : decode cX9_cancel 52 = .ok (.iadd, 1) := by decide +kernel
theorem dX9_cancel_53 : decode cX9_cancel 53 = .ok (.ldc2_w 56, 3) := by decide +kernel
theorem dX9_cancel_56 : decode cX9_cancel 56 = .ok (.lastore, 1) := by decide +kernel
theorem dX9_cancel_57 : decode cX9_cancel 57 = .ok (.aload_n 0, 1) := by decide +kernel
theorem dX9_cancel_58 : decode cX9_cancel 58 = .ok (.iload_n 1, 1) := by decide +kernel
theorem dX9_cancel_59 : decode cX9_cancel 59 = .ok (.invokevirtual 122, 3) := by decide +kernel
theorem dX9_cancel_62 : decode cX9_cancel 62 = .ok (.l2i, 1) := by decide +kernel
theorem dX9_cancel_63 : decode cX9_cancel 63 = .ok (.ireturn, 1) := by decide +kernel
theorem dX9_payThrows_0 : decode cX9_payThrows 0 = .ok (.aload_n 0, 1) := by decide +kernel
theorem dX9_payThrows_1 : decode cX9_payThrows 1 = .ok (.iload_n 1, 1) := by decide +kernel
theorem dX9_payThrows_2 : decode cX9_payThrows 2 = .ok (.invokevirtual 198, 3) := by decide +kernel
theorem dX9_payThrows_5 : decode cX9_payThrows 5 = .ok (.ifCond .ne 5, 3) := by decide +kernel
theorem dX9_payThrows_8 : decode cX9_payThrows 8 = .ok (.iconst 1, 1) := by decide +kernel
theorem dX9_payThrows_9 : decode cX9_payThrows 9 = .ok (.ireturn, 1) := by decide +kernel
theorem dX9_payThrows_10 : decode cX9_payThrows 10 = .ok (.iload_n 2, 1) := by decide +kernel
theorem dX9_payThrows_11 : decode cX9_payThrows 11 = .ok (.i2l, 1) := by decide +kernel
theorem dX9_payThrows_12 : decode cX9_payThrows 12 = .ok (.lconst 1, 1) := by decide +kernel
theorem dX9_payThrows_13 : decode cX9_payThrows 13 = .ok (.ldc2_w 194, 3) := by decide +kernel
theorem dX9_payThrows_16 : decode cX9_payThrows 16 = .ok (.invokestatic 47, 3) := by decide +kernel
theorem dX9_payThrows_19 : decode cX9_payThrows 19 = .ok (.ifCond .ne 7, 3) := by decide +kernel
theorem dX9_payThrows_22 : decode cX9_payThrows 22 = .ok (.iconst 2, 1) := by decide +kernel
theorem dX9_payThrows_23 : decode cX9_payThrows 23 = .ok (.goto 28, 3) := by decide +kernel
theorem dX9_payThrows_26 : decode cX9_payThrows 26 = .ok (.aload_n 0, 1) := by decide +kernel
theorem dX9_payThrows_27 : decode cX9_payThrows 27 = .ok (.getfield 7, 3) := by decide +kernel
theorem dX9_payThrows_30 : decode cX9_payThrows 30 = .ok (.sipush 515, 3) := by decide +kernel
theorem dX9_payThrows_33 : decode cX9_payThrows 33 = .ok (.iload_n 1, 1) := by decide +kernel
theorem dX9_payThrows_34 : decode cX9_payThrows 34 = .ok (.iadd, 1) := by decide +kernel
theorem dX9_payThrows_35 : decode cX9_payThrows 35 = .ok (.laload, 1) := by decide +kernel
theorem dX9_payThrows_36 : decode cX9_payThrows 36 = .ok (.iload_n 2, 1) := by decide +kernel
theorem dX9_payThrows_37 : decode cX9_payThrows 37 = .ok (.i2l, 1) := by decide +kernel
theorem dX9_payThrows_38 : decode cX9_payThrows 38 = .ok (.lsub, 1) := by decide +kernel
theorem dX9_payThrows_39 : decode cX9_payThrows 39 = .ok (.ldc2_w 219, 3) := by decide +kernel
theorem dX9_payThrows_42 : decode cX9_payThrows 42 = .ok (.lcmp, 1) := by decide +kernel
theorem dX9_payThrows_43 : decode cX9_payThrows 43 = .ok (.ifCond .ge 7, 3) := by decide +kernel
theorem dX9_payThrows_46 : decode cX9_payThrows 46 = .ok (.iconst 3, 1) := by decide +kernel
theorem dX9_payThrows_47 : decode cX9_payThrows 47 = .ok (.goto 4, 3) := by decide +kernel
theorem dX9_payThrows_50 : decode cX9_payThrows 50 = .ok (.iconst 0, 1) := by decide +kernel
theorem dX9_payThrows_51 : decode cX9_payThrows 51 = .ok (.ireturn, 1) := by decide +kernel
theorem dX9_doPay_0 : decode cX9_doPay 0 = .ok (.aload_n 0, 1) := by decide +kernel
theorem dX9_doPay_1 : decode cX9_doPay 1 = .ok (.getfield 7, 3) := by decide +kernel
theorem dX9_doPay_4 : decode cX9_doPay 4 = .ok (.sipush 515, 3) := by decide +kernel
theorem dX9_doPay_7 : decode cX9_doPay 7 = .ok (.iload_n 1, 1) := by decide +kernel
theorem dX9_doPay_8 : decode cX9_doPay 8 = .ok (.iadd, 1) := by decide +kernel
theorem dX9_doPay_9 : decode cX9_doPay 9 = .ok (.dup2, 1) := by decide +kernel
theorem dX9_doPay_10 : decode cX9_doPay 10 = .ok (.laload, 1) := by decide +kernel
theorem dX9_doPay_11 : decode cX9_doPay 11 = .ok (.iload_n 2, 1) := by decide +kernel
theorem dX9_doPay_12 : decode cX9_doPay 12 = .ok (.i2l, 1) := by decide +kernel
theorem dX9_doPay_13 : decode cX9_doPay 13 = .ok (.lsub, 1) := by decide +kernel
theorem dX9_doPay_14 : decode cX9_doPay 14 = .ok (.lastore, 1) := by decide +kernel
theorem dX9_doPay_15 : decode cX9_doPay 15 = .ok (.aload_n 0, 1) := by decide +kernel
theorem dX9_doPay_16 : decode cX9_doPay 16 = .ok (.getfield 7, 3) := by decide +kernel
theorem dX9_doPay_19 : decode cX9_doPay 19 = .ok (.sipush 1884, 3) := by decide +kernel
theorem dX9_doPay_22 : decode cX9_doPay 22 = .ok (.dup2, 1) := by decide +kernel
theorem dX9_doPay_23 : decode cX9_doPay 23 = .ok (.laload, 1) := by decide +kernel
theorem dX9_doPay_24 : decode cX9_doPay 24 = .ok (.iload_n 2, 1) := by decide +kernel
theorem dX9_doPay_25 : decode cX9_doPay 25 = .ok (.i2l, 1) := by decide +kernel
theorem dX9_doPay_26 : decode cX9_doPay 26 = .ok (.ladd, 1) := by decide +kernel
theorem dX9_doPay_27 : decode cX9_doPay 27 = .ok (.lastore, 1) := by decide +kernel
theorem dX9_doPay_28 : decode cX9_doPay 28 = .ok (.aload_n 0, 1) := by decide +kernel
theorem dX9_doPay_29 : decode cX9_doPay 29 = .ok (.getfield 7, 3) := by decide +kernel
theorem dX9_doPay_32 : decode cX9_doPay 32 = .ok (.sipush 515, 3) := by decide +kernel
theorem dX9_doPay_35 : decode cX9_doPay 35 = .ok (.iload_n 1, 1) := by decide +kernel
theorem dX9_doPay_36 : decode cX9_doPay 36 = .ok (.iadd, 1) := by decide +kernel
theorem dX9_doPay_37 : decode cX9_doPay 37 = .ok (.laload, 1) := by decide +kernel
theorem dX9_doPay_38 : decode cX9_doPay 38 = .ok (.l2i, 1) := by decide +kernel
theorem dX9_doPay_39 : decode cX9_doPay 39 = .ok (.ireturn, 1) := by decide +kernel
theorem dX9_pay_0 : decode cX9_pay 0 = .ok (.aload_n 0, 1) := by decide +kernel
theorem dX9_pay_1 : decode cX9_pay 1 = .ok (.iconst 0, 1) := by decide +kernel
theorem dX9_pay_2 : decode cX9_pay 2 = .ok (.putfield 43, 3) := by decide +kernel
theorem dX9_pay_5 : decode cX9_pay 5 = .ok (.aload_n 0, 1) := by decide +kernel
theorem dX9_pay_6 : decode cX9_pay 6 = .ok (.iload_n 1, 1) := by decide +kernel
theorem dX9_pay_7 : decode cX9_pay 7 = .ok (.iload_n 2, 1) := by decide +kernel
theorem dX9_pay_8 : decode cX9_pay 8 = .ok (.invokevirtual 221, 3) := by decide +kernel
theorem dX9_pay_11 : decode cX9_pay 11 = .ok (.istore_n 3, 1) := by decide +kernel
theorem dX9_pay_12 : decode cX9_pay 12 = .ok (.iload_n 3, 1) := by decide +kernel
theorem dX9_pay_13 : decode cX9_pay 13 = .ok (.ifCond .le 9, 3) := by decide +kernel
theorem dX9_pay_16 : decode cX9_pay 16 = .ok (.aload_n 0, 1) := by decide +kernel
theorem dX9_pay_17 : decode cX9_pay 17 = .ok (.iload_n 3, 1) := by decide +kernel
theorem dX9_pay_18 : decode cX9_pay 18 = .ok (.invokevirtual 60, 3) := by decide +kernel
theorem dX9_pay_21 : decode cX9_pay 21 = .ok (.ireturn, 1) := by decide +kernel
theorem dX9_pay_22 : decode cX9_pay 22 = .ok (.aload_n 0, 1) := by decide +kernel
theorem dX9_pay_23 : decode cX9_pay 23 = .ok (.invokevirtual 66, 3) := by decide +kernel
theorem dX9_pay_26 : decode cX9_pay 26 = .ok (.aload_n 0, 1) := by decide +kernel
theorem dX9_pay_27 : decode cX9_pay 27 = .ok (.iload_n 1, 1) := by decide +kernel
theorem dX9_pay_28 : decode cX9_pay 28 = .ok (.iload_n 2, 1) := by decide +kernel
theorem dX9_pay_29 : decode cX9_pay 29 = .ok (.invokevirtual 224, 3) := by decide +kernel
theorem dX9_pay_32 : decode cX9_pay 32 = .ok (.ireturn, 1) := by decide +kernel
theorem dX9_massIn_0 : decode cX9_massIn 0 = .ok (.lconst 0, 1) := by decide +kernel
theorem dX9_massIn_1 : decode cX9_massIn 1 = .ok (.lstore_n 2, 1) := by decide +kernel
theorem dX9_massIn_2 : decode cX9_massIn 2 = .ok (.iconst 0, 1) := by decide +kernel
theorem dX9_massIn_3 : decode cX9_massIn 3 = .ok (.istore 4, 2) := by decide +kernel
theorem dX9_massIn_5 : decode cX9_massIn 5 = .ok (.iload 4, 2) := by decide +kernel
theorem dX9_massIn_7 : decode cX9_massIn 7 = .ok (.i2l, 1) := by decide +kernel
theorem dX9_massIn_8 : decode cX9_massIn 8 = .ok (.aload_n 0, 1) := by decide +kernel
theorem dX9_massIn_9 : decode cX9_massIn 9 = .ok (.getfield 7, 3) := by decide +kernel
theorem dX9_massIn_12 : decode cX9_massIn 12 = .ok (.bipush 47, 2) := by decide +kernel
theorem dX9_massIn_14 : decode cX9_massIn 14 = .ok (.iload_n 1, 1) := by decide +kernel
theorem dX9_massIn_15 : decode cX9_massIn 15 = .ok (.iadd, 1) := by decide +kernel
theorem dX9_massIn_16 : decode cX9_massIn 16 = .ok (.laload, 1) := by decide +kernel
theorem dX9_massIn_17 : decode cX9_massIn 17 = .ok (.lcmp, 1) := by decide +kernel
theorem dX9_massIn_18 : decode cX9_massIn 18 = .ok (.ifCond .ge 28, 3) := by decide +kernel
theorem dX9_massIn_21 : decode cX9_massIn 21 = .ok (.lload_n 2, 1) := by decide +kernel
theorem dX9_massIn_22 : decode cX9_massIn 22 = .ok (.aload_n 0, 1) := by decide +kernel
theorem dX9_massIn_23 : decode cX9_massIn 23 = .ok (.getfield 7, 3) := by decide +kernel
theorem dX9_massIn_26 : decode cX9_massIn 26 = .ok (.sipush 207, 3) := by decide +kernel
theorem dX9_massIn_29 : decode cX9_massIn 29 = .ok (.bipush 30, 2) := by decide +kernel
theorem dX9_massIn_31 : decode cX9_massIn 31 = .ok (.iload_n 1, 1) := by decide +kernel
theorem dX9_massIn_32 : decode cX9_massIn 32 = .ok (.imul, 1) := by decide +kernel
theorem dX9_massIn_33 : decode cX9_massIn 33 = .ok (.iadd, 1) := by decide +kernel
theorem dX9_massIn_34 : decode cX9_massIn 34 = .ok (.iload 4, 2) := by decide +kernel
theorem dX9_massIn_36 : decode cX9_massIn 36 = .ok (.iadd, 1) := by decide +kernel
theorem dX9_massIn_37 : decode cX9_massIn 37 = .ok (.laload, 1) := by decide +kernel
theorem dX9_massIn_38 : decode cX9_massIn 38 = .ok (.ladd, 1) := by decide +kernel
theorem dX9_massIn_39 : decode cX9_massIn 39 = .ok (.lstore_n 2, 1) := by decide +kernel
theorem dX9_massIn_40 : decode cX9_massIn 40 = .ok (.iinc 4 1, 3) := by decide +kernel
theorem dX9_massIn_43 : decode cX9_massIn 43 = .ok (.goto (-38), 3) := by decide +kernel
theorem dX9_massIn_46 : decode cX9_massIn 46 = .ok (.lload_n 2, 1) := by decide +kernel
theorem dX9_massIn_47 : decode cX9_massIn 47 = .ok (.lreturn, 1) := by decide +kernel
theorem dX9_silo_0 : decode cX9_silo 0 = .ok (.aload_n 0, 1) := by decide +kernel
theorem dX9_silo_1 : decode cX9_silo 1 = .ok (.iconst 0, 1) := by decide +kernel
theorem dX9_silo_2 : decode cX9_silo 2 = .ok (.putfield 43, 3) := by decide +kernel
theorem dX9_silo_5 : decode cX9_silo 5 = .ok (.aload_n 0, 1) := by decide +kernel
theorem dX9_silo_6 : decode cX9_silo 6 = .ok (.iload_n 1, 1) := by decide +kernel
theorem dX9_silo_7 : decode cX9_silo 7 = .ok (.invokevirtual 69, 3) := by decide +kernel
theorem dX9_silo_10 : decode cX9_silo 10 = .ok (.ifCond .ne 9, 3) := by decide +kernel
theorem dX9_silo_13 : decode cX9_silo 13 = .ok (.aload_n 0, 1) := by decide +kernel
theorem dX9_silo_14 : decode cX9_silo 14 = .ok (.iconst 1, 1) := by decide +kernel
theorem dX9_silo_15 : decode cX9_silo 15 = .ok (.invokevirtual 60, 3) := by decide +kernel
theorem dX9_silo_18 : decode cX9_silo 18 = .ok (.ireturn, 1) := by decide +kernel
theorem dX9_silo_19 : decode cX9_silo 19 = .ok (.iload_n 2, 1) := by decide +kernel
theorem dX9_silo_20 : decode cX9_silo 20 = .ok (.tableswitch 102 0 5 #[40, 51, 62, 73, 84, 91], 40) := by decide +kernel
theorem dX9_silo_60 : decode cX9_silo 60 = .ok (.aload_n 0, 1) := by decide +kernel
theorem dX9_silo_61 : decode cX9_silo 61 = .ok (.getfield 7, 3) := by decide +kernel
theorem dX9_silo_64 : decode cX9_silo 64 = .ok (.bipush 32, 2) := by decide +kernel
theorem dX9_silo_66 : decode cX9_silo 66 = .ok (.iload_n 1, 1) := by decide +kernel
theorem dX9_silo_67 : decode cX9_silo 67 = .ok (.iadd, 1) := by decide +kernel
theorem dX9_silo_68 : decode cX9_silo 68 = .ok (.laload, 1) := by decide +kernel
theorem dX9_silo_69 : decode cX9_silo 69 = .ok (.l2i, 1) := by decide +kernel
theorem dX9_silo_70 : decode cX9_silo 70 = .ok (.ireturn, 1) := by decide +kernel
theorem dX9_silo_71 : decode cX9_silo 71 = .ok (.aload_n 0, 1) := by decide +kernel
theorem dX9_silo_72 : decode cX9_silo 72 = .ok (.getfield 7, 3) := by decide +kernel
theorem dX9_silo_75 : decode cX9_silo 75 = .ok (.bipush 37, 2) := by decide +kernel
theorem dX9_silo_77 : decode cX9_silo 77 = .ok (.iload_n 1, 1) := by decide +kernel
theorem dX9_silo_78 : decode cX9_silo 78 = .ok (.iadd, 1) := by decide +kernel
theorem dX9_silo_79 : decode cX9_silo 79 = .ok (.laload, 1) := by decide +kernel
theorem dX9_silo_80 : decode cX9_silo 80 = .ok (.l2i, 1) := by decide +kernel
theorem dX9_silo_81 : decode cX9_silo 81 = .ok (.ireturn, 1) := by decide +kernel
theorem dX9_silo_82 : decode cX9_silo 82 = .ok (.aload_n 0, 1) := by decide +kernel
theorem dX9_silo_83 : decode cX9_silo 83 = .ok (.getfield 7, 3) := by decide +kernel
theorem dX9_silo_86 : decode cX9_silo 86 = .ok (.bipush 42, 2) := by decide +kernel
theorem dX9_silo_88 : decode cX9_silo 88 = .ok (.iload_n 1, 1) := by decide +kernel
theorem dX9_silo_89 : decode cX9_silo 89 = .ok (.iadd, 1) := by decide +kernel
theorem dX9_silo_90 : decode cX9_silo 90 = .ok (.laload, 1) := by decide +kernel
theorem dX9_silo_91 : decode cX9_silo 91 = .ok (.l2i, 1) := by decide +kernel
theorem dX9_silo_92 : decode cX9_silo 92 = .ok (.ireturn, 1) := by decide +kernel
theorem dX9_silo_93 : decode cX9_silo 93 = .ok (.aload_n 0, 1) := by decide +kernel
theorem dX9_silo_94 : decode cX9_silo 94 = .ok (.getfield 7, 3) := by decide +kernel
theorem dX9_silo_97 : decode cX9_silo 97 = .ok (.bipush 47, 2) := by decide +kernel
theorem dX9_silo_99 : decode cX9_silo 99 = .ok (.iload_n 1, 1) := by decide +kernel
theorem dX9_silo_100 : decode cX9_silo 100 = .ok (.iadd, 1) := by decide +kernel
theorem dX9_silo_101 : decode cX9_silo 101 = .ok (.laload, 1) := by decide +kernel
theorem dX9_silo_102 : decode cX9_silo 102 = .ok (.l2i, 1) := by decide +kernel
theorem dX9_silo_103 : decode cX9_silo 103 = .ok (.ireturn, 1) := by decide +kernel
theorem dX9_silo_104 : decode cX9_silo 104 = .ok (.aload_n 0, 1) := by decide +kernel
theorem dX9_silo_105 : decode cX9_silo 105 = .ok (.iload_n 1, 1) := by decide +kernel
theorem dX9_silo_106 : decode cX9_silo 106 = .ok (.invokevirtual 227, 3) := by decide +kernel
theorem dX9_silo_109 : decode cX9_silo 109 = .ok (.l2i, 1) := by decide +kernel
theorem dX9_silo_110 : decode cX9_silo 110 = .ok (.ireturn, 1) := by decide +kernel
theorem dX9_silo_111 : decode cX9_silo 111 = .ok (.aload_n 0, 1) := by decide +kernel
theorem dX9_silo_112 : decode cX9_silo 112 = .ok (.getfield 7, 3) := by decide +kernel
theorem dX9_silo_115 : decode cX9_silo 115 = .ok (.bipush 52, 2) := by decide +kernel
theorem dX9_silo_117 : decode cX9_silo 117 = .ok (.iload_n 1, 1) := by decide +kernel
theorem dX9_silo_118 : decode cX9_silo 118 = .ok (.iadd, 1) := by decide +kernel
theorem dX9_silo_119 : decode cX9_silo 119 = .ok (.laload, 1) := by decide +kernel
theorem dX9_silo_120 : decode cX9_silo 120 = .ok (.l2i, 1) := by decide +kernel
theorem dX9_silo_121 : decode cX9_silo 121 = .ok (.ireturn, 1) := by decide +kernel
theorem dX9_silo_122 : decode cX9_silo 122 = .ok (.aload_n 0, 1) := by decide +kernel
theorem dX9_silo_123 : decode cX9_silo 123 = .ok (.iconst 2, 1) := by decide +kernel
theorem dX9_silo_124 : decode cX9_silo 124 = .ok (.invokevirtual 60, 3) := by decide +kernel
theorem dX9_silo_127 : decode cX9_silo 127 = .ok (.ireturn, 1) := by decide +kernel
theorem dX9_block_0 : decode cX9_block 0 = .ok (.aload_n 0, 1) := by decide +kernel
theorem dX9_block_1 : decode cX9_block 1 = .ok (.iconst 0, 1) := by decide +kernel
theorem dX9_block_2 : decode cX9_block 2 = .ok (.putfield 43, 3) := by decide +kernel
theorem dX9_block_5 : decode cX9_block 5 = .ok (.aload_n 0, 1) := by decide +kernel
theorem dX9_block_6 : decode cX9_block 6 = .ok (.iload_n 1, 1) := by decide +kernel
theorem dX9_block_7 : decode cX9_block 7 = .ok (.invokevirtual 69, 3) := by decide +kernel
theorem dX9_block_10 : decode cX9_block 10 = .ok (.ifCond .eq 23, 3) := by decide +kernel
theorem dX9_block_13 : decode cX9_block 13 = .ok (.iload_n 2, 1) := by decide +kernel
theorem dX9_block_14 : decode cX9_block 14 = .ok (.i2l, 1) := by decide +kernel
theorem dX9_block_15 : decode cX9_block 15 = .ok (.lconst 0, 1) := by decide +kernel
theorem dX9_block_16 : decode cX9_block 16 = .ok (.aload_n 0, 1) := by decide +kernel
theorem dX9_block_17 : decode cX9_block 17 = .ok (.getfield 7, 3) := by decide +kernel
theorem dX9_block_20 : decode cX9_block 20 = .ok (.bipush 47, 2) := by decide +kernel
theorem dX9_block_22 : decode cX9_block 22 = .ok (.iload_n 1, 1) := by decide +kernel
theorem dX9_block_23 : decode cX9_block 23 = .ok (.iadd, 1) := by decide +kernel
theorem dX9_block_24 : decode cX9_block 24 = .ok (.laload, 1) := by decide +kernel
theorem dX9_block_25 : decode cX9_block 25 = .ok (.lconst 1, 1) := by decide +kernel
theorem dX9_block_26 : decode cX9_block 26 = .ok (.lsub, 1) := by decide +kernel
theorem dX9_block_27 : decode cX9_block 27 = .ok (.invokestatic 47, 3) := by decide +kernel
theorem dX9_block_30 : decode cX9_block 30 = .ok (.ifCond .ne 9, 3) := by decide +kernel
theorem dX9_block_33 : decode cX9_block 33 = .ok (.aload_n 0, 1) := by decide +kernel
theorem dX9_block_34 : decode cX9_block 34 = .ok (.iconst 1, 1) := by decide +kernel
theorem dX9_block_35 : decode cX9_block 35 = .ok (.invokevirtual 60, 3) := by decide +kernel
theorem dX9_block_38 : decode cX9_block 38 = .ok (.ireturn, 1) := by decide +kernel
theorem dX9_block_39 : decode cX9_block 39 = .ok (.bipush 30, 2) := by decide +kernel
theorem dX9_block_41 : decode cX9_block 41 = .ok (.iload_n 1, 1) := by decide +kernel
theorem dX9_block_42 : decode cX9_block 42 = .ok (.imul, 1) := by decide +kernel
theorem dX9_block_43 : decode cX9_block 43 = .ok (.iload_n 2, 1) := by decide +kernel
theorem dX9_block_44 : decode cX9_block 44 = .ok (.iadd, 1) := by decide +kernel
theorem dX9_block_45 : decode cX9_block 45 = .ok (.istore 4, 2) := by decide +kernel
theorem dX9_block_47 : decode cX9_block 47 = .ok (.iload_n 3, 1) := by decide +kernel
theorem dX9_block_48 : decode cX9_block 48 = .ok (.tableswitch 66 0 2 #[28, 40, 53], 28) := by decide +kernel
theorem dX9_block_76 : decode cX9_block 76 = .ok (.aload_n 0, 1) := by decide +kernel
theorem dX9_block_77 : decode cX9_block 77 = .ok (.getfield 7, 3) := by decide +kernel
theorem dX9_block_80 : decode cX9_block 80 = .ok (.bipush 57, 2) := by decide +kernel
theorem dX9_block_82 : decode cX9_block 82 = .ok (.iload 4, 2) := by decide +kernel
theorem dX9_block_84 : decode cX9_block 84 = .ok (.iadd, 1) := by decide +kernel
theorem dX9_block_85 : decode cX9_block 85 = .ok (.laload, 1) := by decide +kernel
theorem dX9_block_86 : decode cX9_block 86 = .ok (.l2i, 1) := by decide +kernel
theorem dX9_block_87 : decode cX9_block 87 = .ok (.ireturn, 1) := by decide +kernel
theorem dX9_block_88 : decode cX9_block 88 = .ok (.aload_n 0, 1) := by decide +kernel
theorem dX9_block_89 : decode cX9_block 89 = .ok (.getfield 7, 3) := by decide +kernel
theorem dX9_block_92 : decode cX9_block 92 = .ok (.sipush 207, 3) := by decide +kernel
theorem dX9_block_95 : decode cX9_block 95 = .ok (.iload 4, 2) := by decide +kernel
theorem dX9_block_97 : decode cX9_block 97 = .ok (.iadd, 1) := by decide +kernel
theorem dX9_block_98 : decode cX9_block 98 = .ok (.laload, 1) := by decide +kernel
theorem dX9_block_99 : decode cX9_block 99 = .ok (.l2i, 1) := by decide +kernel
theorem dX9_block_100 : decode cX9_block 100 = .ok (.ireturn, 1) := by decide +kernel
theorem dX9_block_101 : decode cX9_block 101 = .ok (.aload_n 0, 1) := by decide +kernel
theorem dX9_block_102 : decode cX9_block 102 = .ok (.getfield 7, 3) := by decide +kernel
theorem dX9_block_105 : decode cX9_block 105 = .ok (.sipush 357, 3) := by decide +kernel
theorem dX9_block_108 : decode cX9_block 108 = .ok (.iload 4, 2) := by decide +kernel
theorem dX9_block_110 : decode cX9_block 110 = .ok (.iadd, 1) := by decide +kernel
theorem dX9_block_111 : decode cX9_block 111 = .ok (.laload, 1) := by decide +kernel
theorem dX9_block_112 : decode cX9_block 112 = .ok (.l2i, 1) := by decide +kernel
theorem dX9_block_113 : decode cX9_block 113 = .ok (.ireturn, 1) := by decide +kernel
theorem dX9_block_114 : decode cX9_block 114 = .ok (.aload_n 0, 1) := by decide +kernel
theorem dX9_block_115 : decode cX9_block 115 = .ok (.iconst 2, 1) := by decide +kernel
theorem dX9_block_116 : decode cX9_block 116 = .ok (.invokevirtual 60, 3) := by decide +kernel
theorem dX9_block_119 : decode cX9_block 119 = .ok (.ireturn, 1) := by decide +kernel
theorem dX9_openOf_0 : decode cX9_openOf 0 = .ok (.iconst 0, 1) := by decide +kernel
theorem dX9_openOf_1 : decode cX9_openOf 1 = .ok (.istore_n 2, 1) := by decide +kernel
theorem dX9_openOf_2 : decode cX9_openOf 2 = .ok (.iconst 0, 1) := by decide +kernel
theorem dX9_openOf_3 : decode cX9_openOf 3 = .ok (.istore_n 3, 1) := by decide +kernel
theorem dX9_openOf_4 : decode cX9_openOf 4 = .ok (.iload_n 3, 1) := by decide +kernel
theorem dX9_openOf_5 : decode cX9_openOf 5 = .ok (.i2l, 1) := by decide +kernel
theorem dX9_openOf_6 : decode cX9_openOf 6 = .ok (.aload_n 0, 1) := by decide +kernel
theorem dX9_openOf_7 : decode cX9_openOf 7 = .ok (.getfield 7, 3) := by decide +kernel
theorem dX9_openOf_10 : decode cX9_openOf 10 = .ok (.sipush 1882, 3) := by decide +kernel
theorem dX9_openOf_13 : decode cX9_openOf 13 = .ok (.laload, 1) := by decide +kernel
theorem dX9_openOf_14 : decode cX9_openOf 14 = .ok (.lcmp, 1) := by decide +kernel
theorem dX9_openOf_15 : decode cX9_openOf 15 = .ok (.ifCond .ge 48, 3) := by decide +kernel
theorem dX9_openOf_18 : decode cX9_openOf 18 = .ok (.iload_n 2, 1) := by decide +kernel
theorem dX9_openOf_19 : decode cX9_openOf 19 = .ok (.aload_n 0, 1) := by decide +kernel
theorem dX9_openOf_20 : decode cX9_openOf 20 = .ok (.getfield 7, 3) := by decide +kernel
theorem dX9_openOf_23 : decode cX9_openOf 23 = .ok (.sipush 1531, 3) := by decide +kernel
theorem dX9_openOf_26 : decode cX9_openOf 26 = .ok (.iload_n 3, 1) := by decide +kernel
theorem dX9_openOf_27 : decode cX9_openOf 27 = .ok (.iadd, 1) := by decide +kernel
theorem dX9_openOf_28 : decode cX9_openOf 28 = .ok (.laload, 1) := by decide +kernel
theorem dX9_openOf_29 : decode cX9_openOf 29 = .ok (.lconst 0, 1) := by decide +kernel
theorem dX9_openOf_30 : decode cX9_openOf 30 = .ok (.lcmp, 1) := by decide +kernel
theorem dX9_openOf_31 : decode cX9_openOf 31 = .ok (.ifCond .ne 23, 3) := by decide +kernel
theorem dX9_openOf_34 : decode cX9_openOf 34 = .ok (.aload_n 0, 1) := by decide +kernel
theorem dX9_openOf_35 : decode cX9_openOf 35 = .ok (.getfield 7, 3) := by decide +kernel
theorem dX9_openOf_38 : decode cX9_openOf 38 = .ok (.sipush 531, 3) := by decide +kernel
theorem dX9_openOf_41 : decode cX9_openOf 41 = .ok (.iload_n 3, 1) := by decide +kernel
theorem dX9_openOf_42 : decode cX9_openOf 42 = .ok (.iadd, 1) := by decide +kernel
theorem dX9_openOf_43 : decode cX9_openOf 43 = .ok (.laload, 1) := by decide +kernel
theorem dX9_openOf_44 : decode cX9_openOf 44 = .ok (.iload_n 1, 1) := by decide +kernel
theorem dX9_openOf_45 : decode cX9_openOf 45 = .ok (.i2l, 1) := by decide +kernel
theorem dX9_openOf_46 : decode cX9_openOf 46 = .ok (.lcmp, 1) := by decide +kernel
theorem dX9_openOf_47 : decode cX9_openOf 47 = .ok (.ifCond .ne 7, 3) := by decide +kernel
theorem dX9_openOf_50 : decode cX9_openOf 50 = .ok (.iconst 1, 1) := by decide +kernel
theorem dX9_openOf_51 : decode cX9_openOf 51 = .ok (.goto 4, 3) := by decide +kernel
theorem dX9_openOf_54 : decode cX9_openOf 54 = .ok (.iconst 0, 1) := by decide +kernel
theorem dX9_openOf_55 : decode cX9_openOf 55 = .ok (.iadd, 1) := by decide +kernel
theorem dX9_openOf_56 : decode cX9_openOf 56 = .ok (.istore_n 2, 1) := by decide +kernel
theorem dX9_openOf_57 : decode cX9_openOf 57 = .ok (.iinc 3 1, 3) := by decide +kernel
theorem dX9_openOf_60 : decode cX9_openOf 60 = .ok (.goto (-56), 3) := by decide +kernel
theorem dX9_openOf_63 : decode cX9_openOf 63 = .ok (.iload_n 2, 1) := by decide +kernel
theorem dX9_openOf_64 : decode cX9_openOf 64 = .ok (.ireturn, 1) := by decide +kernel
theorem dX9_boat_0 : decode cX9_boat 0 = .ok (.aload_n 0, 1) := by decide +kernel
theorem dX9_boat_1 : decode cX9_boat 1 = .ok (.iconst 0, 1) := by decide +kernel
theorem dX9_boat_2 : decode cX9_boat 2 = .ok (.putfield 43, 3) := by decide +kernel
theorem dX9_boat_5 : decode cX9_boat 5 = .ok (.aload_n 0, 1) := by decide +kernel
theorem dX9_boat_6 : decode cX9_boat 6 = .ok (.iload_n 1, 1) := by decide +kernel
theorem dX9_boat_7 : decode cX9_boat 7 = .ok (.invokevirtual 198, 3) := by decide +kernel
theorem dX9_boat_10 : decode cX9_boat 10 = .ok (.ifCond .ne 9, 3) := by decide +kernel
theorem dX9_boat_13 : decode cX9_boat 13 = .ok (.aload_n 0, 1) := by decide +kernel
theorem dX9_boat_14 : decode cX9_boat 14 = .ok (.iconst 1, 1) := by decide +kernel
theorem dX9_boat_15 : decode cX9_boat 15 = .ok (.invokevirtual 60, 3) := by decide +kernel
theorem dX9_boat_18 : decode cX9_boat 18 = .ok (.ireturn, 1) := by decide +kernel
theorem dX9_boat_19 : decode cX9_boat 19 = .ok (.iload_n 2, 1) := by decide +kernel
theorem dX9_boat_20 : decode cX9_boat 20 = .ok (.tableswitch 74 0 3 #[32, 44, 56, 68], 32) := by decide +kernel
theorem dX9_boat_52 : decode cX9_boat 52 = .ok (.aload_n 0, 1) := by decide +kernel
theorem dX9_boat_53 : decode cX9_boat 53 = .ok (.getfield 7, 3) := by decide +kernel
theorem dX9_boat_56 : decode cX9_boat 56 = .ok (.sipush 507, 3) := by decide +kernel
theorem dX9_boat_59 : decode cX9_boat 59 = .ok (.iload_n 1, 1) := by decide +kernel
theorem dX9_boat_60 : decode cX9_boat 60 = .ok (.iadd, 1) := by decide +kernel
theorem dX9_boat_61 : decode cX9_boat 61 = .ok (.laload, 1) := by decide +kernel
theorem dX9_boat_62 : decode cX9_boat 62 = .ok (.l2i, 1) := by decide +kernel
theorem dX9_boat_63 : decode cX9_boat 63 = .ok (.ireturn, 1) := by decide +kernel
theorem dX9_boat_64 : decode cX9_boat 64 = .ok (.aload_n 0, 1) := by decide +kernel
theorem dX9_boat_65 : decode cX9_boat 65 = .ok (.getfield 7, 3) := by decide +kernel
theorem dX9_boat_68 : decode cX9_boat 68 = .ok (.sipush 515, 3) := by decide +kernel
theorem dX9_boat_71 : decode cX9_boat 71 = .ok (.iload_n 1, 1) := by decide +kernel
theorem dX9_boat_72 : decode cX9_boat 72 = .ok (.iadd, 1) := by decide +kernel
theorem dX9_boat_73 : decode cX9_boat 73 = .ok (.laload, 1) := by decide +kernel
theorem dX9_boat_74 : decode cX9_boat 74 = .ok (.l2i, 1) := by decide +kernel
theorem dX9_boat_75 : decode cX9_boat 75 = .ok (.ireturn, 1) := by decide +kernel
theorem dX9_boat_76 : decode cX9_boat 76 = .ok (.aload_n 0, 1) := by decide +kernel
theorem dX9_boat_77 : decode cX9_boat 77 = .ok (.getfield 7, 3) := by decide +kernel
theorem dX9_boat_80 : decode cX9_boat 80 = .ok (.sipush 523, 3) := by decide +kernel
theorem dX9_boat_83 : decode cX9_boat 83 = .ok (.iload_n 1, 1) := by decide +kernel
theorem dX9_boat_84 : decode cX9_boat 84 = .ok (.iadd, 1) := by decide +kernel
theorem dX9_boat_85 : decode cX9_boat 85 = .ok (.laload, 1) := by decide +kernel
theorem dX9_boat_86 : decode cX9_boat 86 = .ok (.l2i, 1) := by decide +kernel
theorem dX9_boat_87 : decode cX9_boat 87 = .ok (.ireturn, 1) := by decide +kernel
theorem dX9_boat_88 : decode cX9_boat 88 = .ok (.aload_n 0, 1) := by decide +kernel
theorem dX9_boat_89 : decode cX9_boat 89 = .ok (.iload_n 1, 1) := by decide +kernel
theorem dX9_boat_90 : decode cX9_boat 90 = .ok (.invokevirtual 230, 3) := by decide +kernel
theorem dX9_boat_93 : decode cX9_boat 93 = .ok (.ireturn, 1) := by decide +kernel
theorem dX9_boat_94 : decode cX9_boat 94 = .ok (.aload_n 0, 1) := by decide +kernel
theorem dX9_boat_95 : decode cX9_boat 95 = .ok (.iconst 2, 1) := by decide +kernel
theorem dX9_boat_96 : decode cX9_boat 96 = .ok (.invokevirtual 60, 3) := by decide +kernel
theorem dX9_boat_99 : decode cX9_boat 99 = .ok (.ireturn, 1) := by decide +kernel
theorem dX9_orderProperty_0 : decode cX9_orderProperty 0 = .ok (.aload_n 0, 1) := by decide +kernel
theorem dX9_orderProperty_1 : decode cX9_orderProperty 1 = .ok (.iconst 0, 1) := by decide +kernel
theorem dX9_orderProperty_2 : decode cX9_orderProperty 2 = .ok (.putfield 43, 3) := by decide +kernel
theorem dX9_orderProperty_5 : decode cX9_orderProperty 5 = .ok (.aload_n 0, 1) := by decide +kernel
theorem dX9_orderProperty_6 : decode cX9_orderProperty 6 = .ok (.iload_n 1, 1) := by decide +kernel
theorem dX9_orderProperty_7 : decode cX9_orderProperty 7 = .ok (.invokevirtual 216, 3) := by decide +kernel
theorem dX9_orderProperty_10 : decode cX9_orderProperty 10 = .ok (.ifCond .ne 9, 3) := by decide +kernel
theorem dX9_orderProperty_13 : decode cX9_orderProperty 13 = .ok (.aload_n 0, 1) := by decide +kernel
theorem dX9_orderProperty_14 : decode cX9_orderProperty 14 = .ok (.iconst 1, 1) := by decide +kernel
theorem dX9_orderProperty_15 : decode cX9_orderProperty 15 = .ok (.invokevirtual 60, 3) := by decide +kernel
theorem dX9_orderProperty_18 : decode cX9_orderProperty 18 = .ok (.ireturn, 1) := by decide +kernel
theorem dX9_orderProperty_19 : decode cX9_orderProperty 19 = .ok (.iload_n 2, 1) := by decide +kernel
theorem dX9_orderProperty_20 : decode cX9_orderProperty 20 = .ok (.tableswitch 141 0 6 #[44, 56, 68, 80, 92, 104, 116], 44) := by decide +kernel
theorem dX9_orderProperty_64 : decode cX9_orderProperty 64 = .ok (.aload_n 0, 1) := by decide +kernel
theorem dX9_orderProperty_65 : decode cX9_orderProperty 65 = .ok (.getfield 7, 3) := by decide +kernel
theorem dX9_orderProperty_68 : decode cX9_orderProperty 68 = .ok (.sipush 531, 3) := by decide +kernel
theorem dX9_orderProperty_71 : decode cX9_orderProperty 71 = .ok (.iload_n 1, 1) := by decide +kernel
theorem dX9_orderProperty_72 : decode cX9_orderProperty 72 = .ok (.iadd, 1) := by decide +kernel
theorem dX9_orderProperty_73 : decode cX9_orderProperty 73 = .ok (.laload, 1) := by decide +kernel
theorem dX9_orderProperty_74 : decode cX9_orderProperty 74 = .ok (.l2i, 1) := by decide +kernel
theorem dX9_orderProperty_75 : decode cX9_orderProperty 75 = .ok (.ireturn, 1) := by decide +kernel
theorem dX9_orderProperty_76 : decode cX9_orderProperty 76 = .ok (.aload_n 0, 1) := by decide +kernel
theorem dX9_orderProperty_77 : decode cX9_orderProperty 77 = .ok (.getfield 7, 3) := by decide +kernel
theorem dX9_orderProperty_80 : decode cX9_orderProperty 80 = .ok (.sipush 731, 3) := by decide +kernel
theorem dX9_orderProperty_83 : decode cX9_orderProperty 83 = .ok (.iload_n 1, 1) := by decide +kernel
theorem dX9_orderProperty_84 : decode cX9_orderProperty 84 = .ok (.iadd, 1) := by decide +kernel
theorem dX9_orderProperty_85 : decode cX9_orderProperty 85 = .ok (.laload, 1) := by decide +kernel
theorem dX9_orderProperty_86 : decode cX9_orderProperty 86 = .ok (.l2i, 1) := by decide +kernel
theorem dX9_orderProperty_87 : decode cX9_orderProperty 87 = .ok (.ireturn, 1) := by decide +kernel
theorem dX9_orderProperty_88 : decode cX9_orderProperty 88 = .ok (.aload_n 0, 1) := by decide +kernel
theorem dX9_orderProperty_89 : decode cX9_orderProperty 89 = .ok (.getfield 7, 3) := by decide +kernel
theorem dX9_orderProperty_92 : decode cX9_orderProperty 92 = .ok (.sipush 931, 3) := by decide +kernel
theorem dX9_orderProperty_95 : decode cX9_orderProperty 95 = .ok (.iload_n 1, 1) := by decide +kernel
theorem dX9_orderProperty_96 : decode cX9_orderProperty 96 = .ok (.iadd, 1) := by decide +kernel
theorem dX9_orderProperty_97 : decode cX9_orderProperty 97 = .ok (.laload, 1) := by decide +kernel
theorem dX9_orderProperty_98 : decode cX9_orderProperty 98 = .ok (.l2i, 1) := by decide +kernel
theorem dX9_orderProperty_99 : decode cX9_orderProperty 99 = .ok (.ireturn, 1) := by decide +kernel
theorem dX9_orderProperty_100 : decode cX9_orderProperty 100 = .ok (.aload_n 0, 1) := by decide +kernel
theorem dX9_orderProperty_101 : decode cX9_orderProperty 101 = .ok (.getfield 7, 3) := by decide +kernel
theorem dX9_orderProperty_104 : decode cX9_orderProperty 104 = .ok (.sipush 1131, 3) := by decide +kernel
theorem dX9_orderProperty_107 : decode cX9_orderProperty 107 = .ok (.iload_n 1, 1) := by decide +kernel
theorem dX9_orderProperty_108 : decode cX9_orderProperty 108 = .ok (.iadd, 1) := by decide +kernel
theorem dX9_orderProperty_109 : decode cX9_orderProperty 109 = .ok (.laload, 1) := by decide +kernel
theorem dX9_orderProperty_110 : decode cX9_orderProperty 110 = .ok (.l2i, 1) := by decide +kernel
theorem dX9_orderProperty_111 : decode cX9_orderProperty 111 = .ok (.ireturn, 1) := by decide +kernel
theorem dX9_orderProperty_112 : decode cX9_orderProperty 112 = .ok (.aload_n 0, 1) := by decide +kernel
theorem dX9_orderProperty_113 : decode cX9_orderProperty 113 = .ok (.getfield 7, 3) := by decide +kernel
theorem dX9_orderProperty_116 : decode cX9_orderProperty 116 = .ok (.sipush 1331, 3) := by decide +kernel
theorem dX9_orderProperty_119 : decode cX9_orderProperty 119 = .ok (.iload_n 1, 1) := by decide +kernel
theorem dX9_orderProperty_120 : decode cX9_orderProperty 120 = .ok (.iadd, 1) := by decide +kernel
theorem dX9_orderProperty_121 : decode cX9_orderProperty 121 = .ok (.laload, 1) := by decide +kernel
theorem dX9_orderProperty_122 : decode cX9_orderProperty 122 = .ok (.l2i, 1) := by decide +kernel
theorem dX9_orderProperty_123 : decode cX9_orderProperty 123 = .ok (.ireturn, 1) := by decide +kernel
theorem dX9_orderProperty_124 : decode cX9_orderProperty 124 = .ok (.aload_n 0, 1) := by decide +kernel
theorem dX9_orderProperty_125 : decode cX9_orderProperty 125 = .ok (.getfield 7, 3) := by decide +kernel
theorem dX9_orderProperty_128 : decode cX9_orderProperty 128 = .ok (.sipush 1531, 3) := by decide +kernel
theorem dX9_orderProperty_131 : decode cX9_orderProperty 131 = .ok (.iload_n 1, 1) := by decide +kernel
theorem dX9_orderProperty_132 : decode cX9_orderProperty 132 = .ok (.iadd, 1) := by decide +kernel
theorem dX9_orderProperty_133 : decode cX9_orderProperty 133 = .ok (.laload, 1) := by decide +kernel
theorem dX9_orderProperty_134 : decode cX9_orderProperty 134 = .ok (.l2i, 1) := by decide +kernel
theorem dX9_orderProperty_135 : decode cX9_orderProperty 135 = .ok (.ireturn, 1) := by decide +kernel
theorem dX9_orderProperty_136 : decode cX9_orderProperty 136 = .ok (.aload_n 0, 1) := by decide +kernel
theorem dX9_orderProperty_137 : decode cX9_orderProperty 137 = .ok (.getfield 7, 3) := by decide +kernel
theorem dX9_orderProperty_140 : decode cX9_orderProperty 140 = .ok (.sipush 1531, 3) := by decide +kernel
theorem dX9_orderProperty_143 : decode cX9_orderProperty 143 = .ok (.iload_n 1, 1) := by decide +kernel
theorem dX9_orderProperty_144 : decode cX9_orderProperty 144 = .ok (.iadd, 1) := by decide +kernel
theorem dX9_orderProperty_145 : decode cX9_orderProperty 145 = .ok (.laload, 1) := by decide +kernel
theorem dX9_orderProperty_146 : decode cX9_orderProperty 146 = .ok (.lconst 0, 1) := by decide +kernel
theorem dX9_orderProperty_147 : decode cX9_orderProperty 147 = .ok (.lcmp, 1) := by decide +kernel
theorem dX9_orderProperty_148 : decode cX9_orderProperty 148 = .ok (.ifCond .ne 11, 3) := by decide +kernel
theorem dX9_orderProperty_151 : decode cX9_orderProperty 151 = .ok (.aload_n 0, 1) := by decide +kernel
theorem dX9_orderProperty_152 : decode cX9_orderProperty 152 = .ok (.iload_n 1, 1) := by decide +kernel
theorem dX9_orderProperty_153 : decode cX9_orderProperty 153 = .ok (.invokevirtual 162, 3) := by decide +kernel
theorem dX9_orderProperty_156 : decode cX9_orderProperty 156 = .ok (.goto 4, 3) := by decide +kernel
theorem dX9_orderProperty_159 : decode cX9_orderProperty 159 = .ok (.iconst (-1), 1) := by decide +kernel
theorem dX9_orderProperty_160 : decode cX9_orderProperty 160 = .ok (.ireturn, 1) := by decide +kernel
theorem dX9_orderProperty_161 : decode cX9_orderProperty 161 = .ok (.aload_n 0, 1) := by decide +kernel
theorem dX9_orderProperty_162 : decode cX9_orderProperty 162 = .ok (.iconst 2, 1) := by decide +kernel
theorem dX9_orderProperty_163 : decode cX9_orderProperty 163 = .ok (.invokevirtual 60, 3) := by decide +kernel
theorem dX9_orderProperty_166 : decode cX9_orderProperty 166 = .ok (.ireturn, 1) := by decide +kernel
theorem dX9_receipt_0 : decode cX9_receipt 0 = .ok (.aload_n 0, 1) := by decide +kernel
theorem dX9_receipt_1 : decode cX9_receipt 1 = .ok (.iconst 0, 1) := by decide +kernel
theorem dX9_receipt_2 : decode cX9_receipt 2 = .ok (.putfield 43, 3) := by decide +kernel
theorem dX9_receipt_5 : decode cX9_receipt 5 = .ok (.iload_n 1, 1) := by decide +kernel
theorem dX9_receipt_6 : decode cX9_receipt 6 = .ok (.i2l, 1) := by decide +kernel
theorem dX9_receipt_7 : decode cX9_receipt 7 = .ok (.lconst 0, 1) := by decide +kernel
theorem dX9_receipt_8 : decode cX9_receipt 8 = .ok (.aload_n 0, 1) := by decide +kernel
theorem dX9_receipt_9 : decode cX9_receipt 9 = .ok (.getfield 7, 3) := by decide +kernel
theorem dX9_receipt_12 : decode cX9_receipt 12 = .ok (.sipush 1885, 3) := by decide +kernel
theorem dX9_receipt_15 : decode cX9_receipt 15 = .ok (.laload, 1) := by decide +kernel
theorem dX9_receipt_16 : decode cX9_receipt 16 = .ok (.lconst 1, 1) := by decide +kernel
theorem dX9_receipt_17 : decode cX9_receipt 17 = .ok (.lsub, 1) := by decide +kernel
theorem dX9_receipt_18 : decode cX9_receipt 18 = .ok (.invokestatic 47, 3) := by decide +kernel
theorem dX9_receipt_21 : decode cX9_receipt 21 = .ok (.ifCond .ne 9, 3) := by decide +kernel
theorem dX9_receipt_24 : decode cX9_receipt 24 = .ok (.aload_n 0, 1) := by decide +kernel
theorem dX9_receipt_25 : decode cX9_receipt 25 = .ok (.iconst 1, 1) := by decide +kernel
theorem dX9_receipt_26 : decode cX9_receipt 26 = .ok (.invokevirtual 60, 3) := by decide +kernel
theorem dX9_receipt_29 : decode cX9_receipt 29 = .ok (.ireturn, 1) := by decide +kernel
theorem dX9_receipt_30 : decode cX9_receipt 30 = .ok (.aload_n 0, 1) := by decide +kernel
theorem dX9_receipt_31 : decode cX9_receipt 31 = .ok (.getfield 7, 3) := by decide +kernel
theorem dX9_receipt_34 : decode cX9_receipt 34 = .ok (.sipush 1885, 3) := by decide +kernel
theorem dX9_receipt_37 : decode cX9_receipt 37 = .ok (.laload, 1) := by decide +kernel
theorem dX9_receipt_38 : decode cX9_receipt 38 = .ok (.l2i, 1) := by decide +kernel
theorem dX9_receipt_39 : decode cX9_receipt 39 = .ok (.iconst 1, 1) := by decide +kernel
theorem dX9_receipt_40 : decode cX9_receipt 40 = .ok (.isub, 1) := by decide +kernel
theorem dX9_receipt_41 : decode cX9_receipt 41 = .ok (.iload_n 1, 1) := by decide +kernel
theorem dX9_receipt_42 : decode cX9_receipt 42 = .ok (.isub, 1) := by decide +kernel
theorem dX9_receipt_43 : decode cX9_receipt 43 = .ok (.istore_n 3, 1) := by decide +kernel
theorem dX9_receipt_44 : decode cX9_receipt 44 = .ok (.iload_n 2, 1) := by decide +kernel
theorem dX9_receipt_45 : decode cX9_receipt 45 = .ok (.tableswitch 95 0 4 #[35, 47, 59, 71, 83], 35) := by decide +kernel
theorem dX9_receipt_80 : decode cX9_receipt 80 = .ok (.aload_n 0, 1) := by decide +kernel
theorem dX9_receipt_81 : decode cX9_receipt 81 = .ok (.getfield 7, 3) := by decide +kernel
theorem dX9_receipt_84 : decode cX9_receipt 84 = .ok (.sipush 1731, 3) := by decide +kernel
theorem dX9_receipt_87 : decode cX9_receipt 87 = .ok (.iload_n 3, 1) := by decide +kernel
theorem dX9_receipt_88 : decode cX9_receipt 88 = .ok (.iadd, 1) := by decide +kernel
theorem dX9_receipt_89 : decode cX9_receipt 89 = .ok (.laload, 1) := by decide +kernel
theorem dX9_receipt_90 : decode cX9_receipt 90 = .ok (.l2i, 1) := by decide +kernel
theorem dX9_receipt_91 : decode cX9_receipt 91 = .ok (.ireturn, 1) := by decide +kernel
theorem dX9_receipt_92 : decode cX9_receipt 92 = .ok (.aload_n 0, 1) := by decide +kernel
theorem dX9_receipt_93 : decode cX9_receipt 93 = .ok (.getfield 7, 3) := by decide +kernel
theorem dX9_receipt_96 : decode cX9_receipt 96 = .ok (.sipush 1747, 3) := by decide +kernel
theorem dX9_receipt_99 : decode cX9_receipt 99 = .ok (.iload_n 3, 1) := by decide +kernel
theorem dX9_receipt_100 : decode cX9_receipt 100 = .ok (.iadd, 1) := by decide +kernel
theorem dX9_receipt_101 : decode cX9_receipt 101 = .ok (.laload, 1) := by decide +kernel
theorem dX9_receipt_102 : decode cX9_receipt 102 = .ok (.l2i, 1) := by decide +kernel
theorem dX9_receipt_103 : decode cX9_receipt 103 = .ok (.ireturn, 1) := by decide +kernel
theorem dX9_receipt_104 : decode cX9_receipt 104 = .ok (.aload_n 0, 1) := by decide +kernel
theorem dX9_receipt_105 : decode cX9_receipt 105 = .ok (.getfield 7, 3) := by decide +kernel
theorem dX9_receipt_108 : decode cX9_receipt 108 = .ok (.sipush 1763, 3) := by decide +kernel
theorem dX9_receipt_111 : decode cX9_receipt 111 = .ok (.iload_n 3, 1) := by decide +kernel
theorem dX9_receipt_112 : decode cX9_receipt 112 = .ok (.iadd, 1) := by decide +kernel
theorem dX9_receipt_113 : decode cX9_receipt 113 = .ok (.laload, 1) := by decide +kernel
theorem dX9_receipt_114 : decode cX9_receipt 114 = .ok (.l2i, 1) := by decide +kernel
theorem dX9_receipt_115 : decode cX9_receipt 115 = .ok (.ireturn, 1) := by decide +kernel
theorem dX9_receipt_116 : decode cX9_receipt 116 = .ok (.aload_n 0, 1) := by decide +kernel
theorem dX9_receipt_117 : decode cX9_receipt 117 = .ok (.getfield 7, 3) := by decide +kernel
theorem dX9_receipt_120 : decode cX9_receipt 120 = .ok (.sipush 1779, 3) := by decide +kernel
theorem dX9_receipt_123 : decode cX9_receipt 123 = .ok (.iload_n 3, 1) := by decide +kernel
theorem dX9_receipt_124 : decode cX9_receipt 124 = .ok (.iadd, 1) := by decide +kernel
theorem dX9_receipt_125 : decode cX9_receipt 125 = .ok (.laload, 1) := by decide +kernel
theorem dX9_receipt_126 : decode cX9_receipt 126 = .ok (.l2i, 1) := by decide +kernel
theorem dX9_receipt_127 : decode cX9_receipt 127 = .ok (.ireturn, 1) := by decide +kernel
theorem dX9_receipt_128 : decode cX9_receipt 128 = .ok (.aload_n 0, 1) := by decide +kernel
theorem dX9_receipt_129 : decode cX9_receipt 129 = .ok (.getfield 7, 3) := by decide +kernel
theorem dX9_receipt_132 : decode cX9_receipt 132 = .ok (.sipush 1795, 3) := by decide +kernel
theorem dX9_receipt_135 : decode cX9_receipt 135 = .ok (.iload_n 3, 1) := by decide +kernel
theorem dX9_receipt_136 : decode cX9_receipt 136 = .ok (.iadd, 1) := by decide +kernel
theorem dX9_receipt_137 : decode cX9_receipt 137 = .ok (.laload, 1) := by decide +kernel
theorem dX9_receipt_138 : decode cX9_receipt 138 = .ok (.l2i, 1) := by decide +kernel
theorem dX9_receipt_139 : decode cX9_receipt 139 = .ok (.ireturn, 1) := by decide +kernel
theorem dX9_receipt_140 : decode cX9_receipt 140 = .ok (.aload_n 0, 1) := by decide +kernel
theorem dX9_receipt_141 : decode cX9_receipt 141 = .ok (.iconst 2, 1) := by decide +kernel
theorem dX9_receipt_142 : decode cX9_receipt 142 = .ok (.invokevirtual 60, 3) := by decide +kernel
theorem dX9_receipt_145 : decode cX9_receipt 145 = .ok (.ireturn, 1) := by decide +kernel
theorem dX9_account_0 : decode cX9_account 0 = .ok (.aload_n 0, 1) := by decide +kernel
theorem dX9_account_1 : decode cX9_account 1 = .ok (.iconst 0, 1) := by decide +kernel
theorem dX9_account_2 : decode cX9_account 2 = .ok (.putfield 43, 3) := by decide +kernel
theorem dX9_account_5 : decode cX9_account 5 = .ok (.iload_n 1, 1) := by decide +kernel
theorem dX9_account_6 : decode cX9_account 6 = .ok (.i2l, 1) := by decide +kernel
theorem dX9_account_7 : decode cX9_account 7 = .ok (.lconst 0, 1) := by decide +kernel
theorem dX9_account_8 : decode cX9_account 8 = .ok (.aload_n 0, 1) := by decide +kernel
theorem dX9_account_9 : decode cX9_account 9 = .ok (.getfield 7, 3) := by decide +kernel
theorem dX9_account_12 : decode cX9_account 12 = .ok (.sipush 1886, 3) := by decide +kernel
theorem dX9_account_15 : decode cX9_account 15 = .ok (.laload, 1) := by decide +kernel
theorem dX9_account_16 : decode cX9_account 16 = .ok (.lconst 1, 1) := by decide +kernel
theorem dX9_account_17 : decode cX9_account 17 = .ok (.lsub, 1) := by decide +kernel
theorem dX9_account_18 : decode cX9_account 18 = .ok (.invokestatic 47, 3) := by decide +kernel
theorem dX9_account_21 : decode cX9_account 21 = .ok (.ifCond .ne 10, 3) := by decide +kernel
theorem dX9_account_24 : decode cX9_account 24 = .ok (.aload_n 0, 1) := by decide +kernel
theorem dX9_account_25 : decode cX9_account 25 = .ok (.iconst 1, 1) := by decide +kernel
theorem dX9_account_26 : decode cX9_account 26 = .ok (.invokevirtual 60, 3) := by decide +kernel
theorem dX9_account_29 : decode cX9_account 29 = .ok (.i2l, 1) := by decide +kernel
theorem dX9_account_30 : decode cX9_account 30 = .ok (.lreturn, 1) := by decide +kernel
theorem dX9_account_31 : decode cX9_account 31 = .ok (.iload_n 2, 1) := by decide +kernel
theorem dX9_account_32 : decode cX9_account 32 = .ok (.tableswitch 76 0 3 #[32, 43, 54, 65], 32) := by decide +kernel
theorem dX9_account_64 : decode cX9_account 64 = .ok (.aload_n 0, 1) := by decide +kernel
theorem dX9_account_65 : decode cX9_account 65 = .ok (.getfield 7, 3) := by decide +kernel
theorem dX9_account_68 : decode cX9_account 68 = .ok (.sipush 1811, 3) := by decide +kernel
theorem dX9_account_71 : decode cX9_account 71 = .ok (.iload_n 1, 1) := by decide +kernel
theorem dX9_account_72 : decode cX9_account 72 = .ok (.iadd, 1) := by decide +kernel
theorem dX9_account_73 : decode cX9_account 73 = .ok (.laload, 1) := by decide +kernel
theorem dX9_account_74 : decode cX9_account 74 = .ok (.lreturn, 1) := by decide +kernel
theorem dX9_account_75 : decode cX9_account 75 = .ok (.aload_n 0, 1) := by decide +kernel
theorem dX9_account_76 : decode cX9_account 76 = .ok (.getfield 7, 3) := by decide +kernel
theorem dX9_account_79 : decode cX9_account 79 = .ok (.sipush 1827, 3) := by decide +kernel
theorem dX9_account_82 : decode cX9_account 82 = .ok (.iload_n 1, 1) := by decide +kernel
theorem dX9_account_83 : decode cX9_account 83 = .ok (.iadd, 1) := by decide +kernel
theorem dX9_account_84 : decode cX9_account 84 = .ok (.laload, 1) := by decide +kernel
theorem dX9_account_85 : decode cX9_account 85 = .ok (.lreturn, 1) := by decide +kernel
theorem dX9_account_86 : decode cX9_account 86 = .ok (.aload_n 0, 1) := by decide +kernel
theorem dX9_account_87 : decode cX9_account 87 = .ok (.getfield 7, 3) := by decide +kernel
theorem dX9_account_90 : decode cX9_account 90 = .ok (.sipush 1843, 3) := by decide +kernel
theorem dX9_account_93 : decode cX9_account 93 = .ok (.iload_n 1, 1) := by decide +kernel
theorem dX9_account_94 : decode cX9_account 94 = .ok (.iadd, 1) := by decide +kernel
theorem dX9_account_95 : decode cX9_account 95 = .ok (.laload, 1) := by decide +kernel
theorem dX9_account_96 : decode cX9_account 96 = .ok (.lreturn, 1) := by decide +kernel
theorem dX9_account_97 : decode cX9_account 97 = .ok (.aload_n 0, 1) := by decide +kernel
theorem dX9_account_98 : decode cX9_account 98 = .ok (.getfield 7, 3) := by decide +kernel
theorem dX9_account_101 : decode cX9_account 101 = .ok (.sipush 1859, 3) := by decide +kernel
theorem dX9_account_104 : decode cX9_account 104 = .ok (.iload_n 1, 1) := by decide +kernel
theorem dX9_account_105 : decode cX9_account 105 = .ok (.iadd, 1) := by decide +kernel
theorem dX9_account_106 : decode cX9_account 106 = .ok (.laload, 1) := by decide +kernel
theorem dX9_account_107 : decode cX9_account 107 = .ok (.lreturn, 1) := by decide +kernel
theorem dX9_account_108 : decode cX9_account 108 = .ok (.aload_n 0, 1) := by decide +kernel
theorem dX9_account_109 : decode cX9_account 109 = .ok (.iconst 2, 1) := by decide +kernel
theorem dX9_account_110 : decode cX9_account 110 = .ok (.invokevirtual 60, 3) := by decide +kernel
theorem dX9_account_113 : decode cX9_account 113 = .ok (.i2l, 1) := by decide +kernel
theorem dX9_account_114 : decode cX9_account 114 = .ok (.lreturn, 1) := by decide +kernel
theorem dX9_findAccount_0 : decode cX9_findAccount 0 = .ok (.aload_n 0, 1) := by decide +kernel
theorem dX9_findAccount_1 : decode cX9_findAccount 1 = .ok (.iconst 0, 1) := by decide +kernel
theorem dX9_findAccount_2 : decode cX9_findAccount 2 = .ok (.putfield 43, 3) := by decide +kernel
theorem dX9_findAccount_5 : decode cX9_findAccount 5 = .ok (.aload_n 0, 1) := by decide +kernel
theorem dX9_findAccount_6 : decode cX9_findAccount 6 = .ok (.iload_n 1, 1) := by decide +kernel
theorem dX9_findAccount_7 : decode cX9_findAccount 7 = .ok (.invokevirtual 198, 3) := by decide +kernel
theorem dX9_findAccount_10 : decode cX9_findAccount 10 = .ok (.ifCond .ne 9, 3) := by decide +kernel
theorem dX9_findAccount_13 : decode cX9_findAccount 13 = .ok (.aload_n 0, 1) := by decide +kernel
theorem dX9_findAccount_14 : decode cX9_findAccount 14 = .ok (.iconst 1, 1) := by decide +kernel
theorem dX9_findAccount_15 : decode cX9_findAccount 15 = .ok (.invokevirtual 60, 3) := by decide +kernel
theorem dX9_findAccount_18 : decode cX9_findAccount 18 = .ok (.ireturn, 1) := by decide +kernel
theorem dX9_findAccount_19 : decode cX9_findAccount 19 = .ok (.iload_n 2, 1) := by decide +kernel
theorem dX9_findAccount_20 : decode cX9_findAccount 20 = .ok (.i2l, 1) := by decide +kernel
theorem dX9_findAccount_21 : decode cX9_findAccount 21 = .ok (.lconst 0, 1) := by decide +kernel
theorem dX9_findAccount_22 : decode cX9_findAccount 22 = .ok (.lconst 1, 1) := by decide +kernel
theorem dX9_findAccount_23 : decode cX9_findAccount 23 = .ok (.invokestatic 47, 3) := by decide +kernel
theorem dX9_findAccount_26 : decode cX9_findAccount 26 = .ok (.ifCond .eq 12, 3) := by decide +kernel
theorem dX9_findAccount_29 : decode cX9_findAccount 29 = .ok (.aload_n 0, 1) := by decide +kernel
theorem dX9_findAccount_30 : decode cX9_findAccount 30 = .ok (.iload_n 1, 1) := by decide +kernel
theorem dX9_findAccount_31 : decode cX9_findAccount 31 = .ok (.iload_n 2, 1) := by decide +kernel
theorem dX9_findAccount_32 : decode cX9_findAccount 32 = .ok (.invokevirtual 136, 3) := by decide +kernel
theorem dX9_findAccount_35 : decode cX9_findAccount 35 = .ok (.goto 8, 3) := by decide +kernel
theorem dX9_findAccount_38 : decode cX9_findAccount 38 = .ok (.aload_n 0, 1) := by decide +kernel
theorem dX9_findAccount_39 : decode cX9_findAccount 39 = .ok (.iconst 2, 1) := by decide +kernel
theorem dX9_findAccount_40 : decode cX9_findAccount 40 = .ok (.invokevirtual 60, 3) := by decide +kernel
theorem dX9_findAccount_43 : decode cX9_findAccount 43 = .ok (.ireturn, 1) := by decide +kernel
theorem dX9_setting_0 : decode cX9_setting 0 = .ok (.aload_n 0, 1) := by decide +kernel
theorem dX9_setting_1 : decode cX9_setting 1 = .ok (.iconst 0, 1) := by decide +kernel
theorem dX9_setting_2 : decode cX9_setting 2 = .ok (.putfield 43, 3) := by decide +kernel
theorem dX9_setting_5 : decode cX9_setting 5 = .ok (.iload_n 1, 1) := by decide +kernel
theorem dX9_setting_6 : decode cX9_setting 6 = .ok (.i2l, 1) := by decide +kernel
theorem dX9_setting_7 : decode cX9_setting 7 = .ok (.lconst 0, 1) := by decide +kernel
theorem dX9_setting_8 : decode cX9_setting 8 = .ok (.ldc2_w 84, 3) := by decide +kernel
theorem dX9_setting_11 : decode cX9_setting 11 = .ok (.invokestatic 47, 3) := by decide +kernel
theorem dX9_setting_14 : decode cX9_setting 14 = .ok (.ifCond .eq 15, 3) := by decide +kernel
theorem dX9_setting_17 : decode cX9_setting 17 = .ok (.aload_n 0, 1) := by decide +kernel
theorem dX9_setting_18 : decode cX9_setting 18 = .ok (.getfield 7, 3) := by decide +kernel
theorem dX9_setting_21 : decode cX9_setting 21 = .ok (.iconst 0, 1) := by decide +kernel
theorem dX9_setting_22 : decode cX9_setting 22 = .ok (.iload_n 1, 1) := by decide +kernel
theorem dX9_setting_23 : decode cX9_setting 23 = .ok (.iadd, 1) := by decide +kernel
theorem dX9_setting_24 : decode cX9_setting 24 = .ok (.laload, 1) := by decide +kernel
theorem dX9_setting_25 : decode cX9_setting 25 = .ok (.l2i, 1) := by decide +kernel
theorem dX9_setting_26 : decode cX9_setting 26 = .ok (.goto 8, 3) := by decide +kernel
theorem dX9_setting_29 : decode cX9_setting 29 = .ok (.aload_n 0, 1) := by decide +kernel
theorem dX9_setting_30 : decode cX9_setting 30 = .ok (.iconst 1, 1) := by decide +kernel
theorem dX9_setting_31 : decode cX9_setting 31 = .ok (.invokevirtual 60, 3) := by decide +kernel
theorem dX9_setting_34 : decode cX9_setting 34 = .ok (.ireturn, 1) := by decide +kernel
theorem dX9_total_0 : decode cX9_total 0 = .ok (.aload_n 0, 1) := by decide +kernel
theorem dX9_total_1 : decode cX9_total 1 = .ok (.iconst 0, 1) := by decide +kernel
theorem dX9_total_2 : decode cX9_total 2 = .ok (.putfield 43, 3) := by decide +kernel
theorem dX9_total_5 : decode cX9_total 5 = .ok (.iload_n 1, 1) := by decide +kernel
theorem dX9_total_6 : decode cX9_total 6 = .ok (.tableswitch 209 0 15 #[78, 87, 96, 105, 114, 119, 128, 134, 143, 152, 161, 167, 176, 185, 194, 203], 78) := by decide +kernel
theorem dX9_total_84 : decode cX9_total 84 = .ok (.aload_n 0, 1) := by decide +kernel
theorem dX9_total_85 : decode cX9_total 85 = .ok (.getfield 7, 3) := by decide +kernel
theorem dX9_total_88 : decode cX9_total 88 = .ok (.sipush 1875, 3) := by decide +kernel
theorem dX9_total_91 : decode cX9_total 91 = .ok (.laload, 1) := by decide +kernel
theorem dX9_total_92 : decode cX9_total 92 = .ok (.lreturn, 1) := by decide +kernel
theorem dX9_total_93 : decode cX9_total 93 = .ok (.aload_n 0, 1) := by decide +kernel
theorem dX9_total_94 : decode cX9_total 94 = .ok (.getfield 7, 3) := by decide +kernel
theorem dX9_total_97 : decode cX9_total 97 = .ok (.sipush 1876, 3) := by decide +kernel
theorem dX9_total_100 : decode cX9_total 100 = .ok (.laload, 1) := by decide +kernel
theorem dX9_total_101 : decode cX9_total 101 = .ok (.lreturn, 1) := by decide +kernel
theorem dX9_total_102 : decode cX9_total 102 = .ok (.aload_n 0, 1) := by decide +kernel
theorem dX9_total_103 : decode cX9_total 103 = .ok (.getfield 7, 3) := by decide +kernel
theorem dX9_total_106 : decode cX9_total 106 = .ok (.sipush 1877, 3) := by decide +kernel
theorem dX9_total_109 : decode cX9_total 109 = .ok (.laload, 1) := by decide +kernel
theorem dX9_total_110 : decode cX9_total 110 = .ok (.lreturn, 1) := by decide +kernel
theorem dX9_total_111 : decode cX9_total 111 = .ok (.aload_n 0, 1) := by decide +kernel
theorem dX9_total_112 : decode cX9_total 112 = .ok (.getfield 7, 3) := by decide +kernel
theorem dX9_total_115 : decode cX9_total 115 = .ok (.sipush 1878, 3) := by decide +kernel
theorem dX9_total_118 : decode cX9_total 118 = .ok (.laload, 1) := by decide +kernel
theorem dX9_total_119 : decode cX9_total 119 = .ok (.lreturn, 1) := by decide +kernel
theorem dX9_total_120 : decode cX9_total 120 = .ok (.aload_n 0, 1) := by decide +kernel
theorem dX9_total_121 : decode cX9_total 121 = .ok (.invokevirtual 142, 3) := by decide +kernel
theorem dX9_total_124 : decode cX9_total 124 = .ok (.lreturn, 1) := by decide +kernel
theorem dX9_total_125 : decode cX9_total 125 = .ok (.aload_n 0, 1) := by decide +kernel
theorem dX9_total_126 : decode cX9_total 126 = .ok (.getfield 7, 3) := by decide +kernel
theorem dX9_total_129 : decode cX9_total 129 = .ok (.sipush 1879, 3) := by decide +kernel
theorem dX9_total_132 : decode cX9_total 132 = .ok (.laload, 1) := by decide +kernel
theorem dX9_total_133 : decode cX9_total 133 = .ok (.lreturn, 1) := by decide +kernel
theorem dX9_total_134 : decode cX9_total 134 = .ok (.aload_n 0, 1) := by decide +kernel
theorem dX9_total_135 : decode cX9_total 135 = .ok (.invokevirtual 233, 3) := by decide +kernel
theorem dX9_total_138 : decode cX9_total 138 = .ok (.i2l, 1) := by decide +kernel
theorem dX9_total_139 : decode cX9_total 139 = .ok (.lreturn, 1) := by decide +kernel
theorem dX9_total_140 : decode cX9_total 140 = .ok (.aload_n 0, 1) := by decide +kernel
theorem dX9_total_141 : decode cX9_total 141 = .ok (.getfield 7, 3) := by decide +kernel
theorem dX9_total_144 : decode cX9_total 144 = .ok (.sipush 1880, 3) := by decide +kernel
theorem dX9_total_147 : decode cX9_total 147 = .ok (.laload, 1) := by decide +kernel
theorem dX9_total_148 : decode cX9_total 148 = .ok (.lreturn, 1) := by decide +kernel
theorem dX9_total_149 : decode cX9_total 149 = .ok (.aload_n 0, 1) := by decide +kernel
theorem dX9_total_150 : decode cX9_total 150 = .ok (.getfield 7, 3) := by decide +kernel
theorem dX9_total_153 : decode cX9_total 153 = .ok (.sipush 1881, 3) := by decide +kernel
theorem dX9_total_156 : decode cX9_total 156 = .ok (.laload, 1) := by decide +kernel
theorem dX9_total_157 : decode cX9_total 157 = .ok (.lreturn, 1) := by decide +kernel
theorem dX9_total_158 : decode cX9_total 158 = .ok (.aload_n 0, 1) := by decide +kernel
theorem dX9_total_159 : decode cX9_total 159 = .ok (.getfield 7, 3) := by decide +kernel
theorem dX9_total_162 : decode cX9_total 162 = .ok (.sipush 1882, 3) := by decide +kernel
theorem dX9_total_165 : decode cX9_total 165 = .ok (.laload, 1) := by decide +kernel
theorem dX9_total_166 : decode cX9_total 166 = .ok (.lreturn, 1) := by decide +kernel
theorem dX9_total_167 : decode cX9_total 167 = .ok (.aload_n 0, 1) := by decide +kernel
theorem dX9_total_168 : decode cX9_total 168 = .ok (.invokevirtual 159, 3) := by decide +kernel
theorem dX9_total_171 : decode cX9_total 171 = .ok (.i2l, 1) := by decide +kernel
theorem dX9_total_172 : decode cX9_total 172 = .ok (.lreturn, 1) := by decide +kernel
theorem dX9_total_173 : decode cX9_total 173 = .ok (.aload_n 0, 1) := by decide +kernel
theorem dX9_total_174 : decode cX9_total 174 = .ok (.getfield 7, 3) := by decide +kernel
theorem dX9_total_177 : decode cX9_total 177 = .ok (.sipush 1883, 3) := by decide +kernel
theorem dX9_total_180 : decode cX9_total 180 = .ok (.laload, 1) := by decide +kernel
theorem dX9_total_181 : decode cX9_total 181 = .ok (.lreturn, 1) := by decide +kernel
theorem dX9_total_182 : decode cX9_total 182 = .ok (.aload_n 0, 1) := by decide +kernel
theorem dX9_total_183 : decode cX9_total 183 = .ok (.getfield 7, 3) := by decide +kernel
theorem dX9_total_186 : decode cX9_total 186 = .ok (.sipush 1884, 3) := by decide +kernel
theorem dX9_total_189 : decode cX9_total 189 = .ok (.laload, 1) := by decide +kernel
theorem dX9_total_190 : decode cX9_total 190 = .ok (.lreturn, 1) := by decide +kernel
theorem dX9_total_191 : decode cX9_total 191 = .ok (.aload_n 0, 1) := by decide +kernel
theorem dX9_total_192 : decode cX9_total 192 = .ok (.getfield 7, 3) := by decide +kernel
theorem dX9_total_195 : decode cX9_total 195 = .ok (.sipush 1885, 3) := by decide +kernel
theorem dX9_total_198 : decode cX9_total 198 = .ok (.laload, 1) := by decide +kernel
theorem dX9_total_199 : decode cX9_total 199 = .ok (.lreturn, 1) := by decide +kernel
theorem dX9_total_200 : decode cX9_total 200 = .ok (.aload_n 0, 1) := by decide +kernel
theorem dX9_total_201 : decode cX9_total 201 = .ok (.getfield 7, 3) := by decide +kernel
theorem dX9_total_204 : decode cX9_total 204 = .ok (.sipush 1886, 3) := by decide +kernel
theorem dX9_total_207 : decode cX9_total 207 = .ok (.laload, 1) := by decide +kernel
theorem dX9_total_208 : decode cX9_total 208 = .ok (.lreturn, 1) := by decide +kernel
theorem dX9_total_209 : decode cX9_total 209 = .ok (.aload_n 0, 1) := by decide +kernel
theorem dX9_total_210 : decode cX9_total 210 = .ok (.getfield 51, 3) := by decide +kernel
theorem dX9_total_213 : decode cX9_total 213 = .ok (.i2l, 1) := by decide +kernel
theorem dX9_total_214 : decode cX9_total 214 = .ok (.lreturn, 1) := by decide +kernel
theorem dX9_total_215 : decode cX9_total 215 = .ok (.aload_n 0, 1) := by decide +kernel
theorem dX9_total_216 : decode cX9_total 216 = .ok (.iconst 1, 1) := by decide +kernel
theorem dX9_total_217 : decode cX9_total 217 = .ok (.invokevirtual 60, 3) := by decide +kernel
theorem dX9_total_220 : decode cX9_total 220 = .ok (.i2l, 1) := by decide +kernel
theorem dX9_total_221 : decode cX9_total 221 = .ok (.lreturn, 1) := by decide +kernel
theorem dX9_meanAge_0 : decode cX9_meanAge 0 = .ok (.aload_n 0, 1) := by decide +kernel
theorem dX9_meanAge_1 : decode cX9_meanAge 1 = .ok (.iconst 0, 1) := by decide +kernel
theorem dX9_meanAge_2 : decode cX9_meanAge 2 = .ok (.putfield 43, 3) := by decide +kernel
theorem dX9_meanAge_5 : decode cX9_meanAge 5 = .ok (.lconst 0, 1) := by decide +kernel
theorem dX9_meanAge_6 : decode cX9_meanAge 6 = .ok (.lstore_n 1, 1) := by decide +kernel
theorem dX9_meanAge_7 : decode cX9_meanAge 7 = .ok (.iconst 0, 1) := by decide +kernel
theorem dX9_meanAge_8 : decode cX9_meanAge 8 = .ok (.istore_n 3, 1) := by decide +kernel
theorem dX9_meanAge_9 : decode cX9_meanAge 9 = .ok (.iload_n 3, 1) := by decide +kernel
theorem dX9_meanAge_10 : decode cX9_meanAge 10 = .ok (.i2l, 1) := by decide +kernel
theorem dX9_meanAge_11 : decode cX9_meanAge 11 = .ok (.aload_n 0, 1) := by decide +kernel
theorem dX9_meanAge_12 : decode cX9_meanAge 12 = .ok (.getfield 7, 3) := by decide +kernel
theorem dX9_meanAge_15 : decode cX9_meanAge 15 = .ok (.sipush 1880, 3) := by decide +kernel
theorem dX9_meanAge_18 : decode cX9_meanAge 18 = .ok (.laload, 1) := by decide +kernel
theorem dX9_meanAge_19 : decode cX9_meanAge 19 = .ok (.lcmp, 1) := by decide +kernel
theorem dX9_meanAge_20 : decode cX9_meanAge 20 = .ok (.ifCond .ge 53, 3) := by decide +kernel
theorem dX9_meanAge_23 : decode cX9_meanAge 23 = .ok (.iconst 0, 1) := by decide +kernel
theorem dX9_meanAge_24 : decode cX9_meanAge 24 = .ok (.istore 4, 2) := by decide +kernel
theorem dX9_meanAge_26 : decode cX9_meanAge 26 = .ok (.iload 4, 2) := by decide +kernel
theorem dX9_meanAge_28 : decode cX9_meanAge 28 = .ok (.i2l, 1) := by decide +kernel
theorem dX9_meanAge_29 : decode cX9_meanAge 29 = .ok (.aload_n 0, 1) := by decide +kernel
theorem dX9_meanAge_30 : decode cX9_meanAge 30 = .ok (.getfield 7, 3) := by decide +kernel
theorem dX9_meanAge_33 : decode cX9_meanAge 33 = .ok (.bipush 47, 2) := by decide +kernel
theorem dX9_meanAge_35 : decode cX9_meanAge 35 = .ok (.iload_n 3, 1) := by decide +kernel
theorem dX9_meanAge_36 : decode cX9_meanAge 36 = .ok (.iadd, 1) := by decide +kernel
theorem dX9_meanAge_37 : decode cX9_meanAge 37 = .ok (.laload, 1) := by decide +kernel
theorem dX9_meanAge_38 : decode cX9_meanAge 38 = .ok (.lcmp, 1) := by decide +kernel
theorem dX9_meanAge_39 : decode cX9_meanAge 39 = .ok (.ifCond .ge 28, 3) := by decide +kernel
theorem dX9_meanAge_42 : decode cX9_meanAge 42 = .ok (.lload_n 1, 1) := by decide +kernel
theorem dX9_meanAge_43 : decode cX9_meanAge 43 = .ok (.aload_n 0, 1) := by decide +kernel
theorem dX9_meanAge_44 : decode cX9_meanAge 44 = .ok (.getfield 7, 3) := by decide +kernel
theorem dX9_meanAge_47 : decode cX9_meanAge 47 = .ok (.sipush 357, 3) := by decide +kernel
theorem dX9_meanAge_50 : decode cX9_meanAge 50 = .ok (.bipush 30, 2) := by decide +kernel
theorem dX9_meanAge_52 : decode cX9_meanAge 52 = .ok (.iload_n 3, 1) := by decide +kernel
theorem dX9_meanAge_53 : decode cX9_meanAge 53 = .ok (.imul, 1) := by decide +kernel
theorem dX9_meanAge_54 : decode cX9_meanAge 54 = .ok (.iadd, 1) := by decide +kernel
theorem dX9_meanAge_55 : decode cX9_meanAge 55 = .ok (.iload 4, 2) := by decide +kernel
theorem dX9_meanAge_57 : decode cX9_meanAge 57 = .ok (.iadd, 1) := by decide +kernel
theorem dX9_meanAge_58 : decode cX9_meanAge 58 = .ok (.laload, 1) := by decide +kernel
theorem dX9_meanAge_59 : decode cX9_meanAge 59 = .ok (.ladd, 1) := by decide +kernel
theorem dX9_meanAge_60 : decode cX9_meanAge 60 = .ok (.lstore_n 1, 1) := by decide +kernel
theorem dX9_meanAge_61 : decode cX9_meanAge 61 = .ok (.iinc 4 1, 3) := by decide +kernel
theorem dX9_meanAge_64 : decode cX9_meanAge 64 = .ok (.goto (-38), 3) := by decide +kernel
theorem dX9_meanAge_67 : decode cX9_meanAge 67 = .ok (.iinc 3 1, 3) := by decide +kernel
theorem dX9_meanAge_70 : decode cX9_meanAge 70 = .ok (.goto (-61), 3) := by decide +kernel
theorem dX9_meanAge_73 : decode cX9_meanAge 73 = .ok (.aload_n 0, 1) := by decide +kernel
theorem dX9_meanAge_74 : decode cX9_meanAge 74 = .ok (.invokevirtual 233, 3) := by decide +kernel
theorem dX9_meanAge_77 : decode cX9_meanAge 77 = .ok (.istore_n 3, 1) := by decide +kernel
theorem dX9_meanAge_78 : decode cX9_meanAge 78 = .ok (.iload_n 3, 1) := by decide +kernel
theorem dX9_meanAge_79 : decode cX9_meanAge 79 = .ok (.ifCond .ne 7, 3) := by decide +kernel
theorem dX9_meanAge_82 : decode cX9_meanAge 82 = .ok (.dconst 0, 1) := by decide +kernel
theorem dX9_meanAge_83 : decode cX9_meanAge 83 = .ok (.goto 8, 3) := by decide +kernel
theorem dX9_meanAge_86 : decode cX9_meanAge 86 = .ok (.lload_n 1, 1) := by decide +kernel
theorem dX9_meanAge_87 : decode cX9_meanAge 87 = .ok (.l2d, 1) := by decide +kernel
theorem dX9_meanAge_88 : decode cX9_meanAge 88 = .ok (.iload_n 3, 1) := by decide +kernel
theorem dX9_meanAge_89 : decode cX9_meanAge 89 = .ok (.i2d, 1) := by decide +kernel
theorem dX9_meanAge_90 : decode cX9_meanAge 90 = .ok (.ddiv, 1) := by decide +kernel
theorem dX9_meanAge_91 : decode cX9_meanAge 91 = .ok (.dreturn, 1) := by decide +kernel
theorem dX9_beginTrial_0 : decode cX9_beginTrial 0 = .ok (.iconst 0, 1) := by decide +kernel
theorem dX9_beginTrial_1 : decode cX9_beginTrial 1 = .ok (.istore_n 1, 1) := by decide +kernel
theorem dX9_beginTrial_2 : decode cX9_beginTrial 2 = .ok (.iload_n 1, 1) := by decide +kernel
theorem dX9_beginTrial_3 : decode cX9_beginTrial 3 = .ok (.sipush 1888, 3) := by decide +kernel
theorem dX9_beginTrial_6 : decode cX9_beginTrial 6 = .ok (.if_icmp .ge 21, 3) := by decide +kernel
theorem dX9_beginTrial_9 : decode cX9_beginTrial 9 = .ok (.aload_n 0, 1) := by decide +kernel
theorem dX9_beginTrial_10 : decode cX9_beginTrial 10 = .ok (.getfield 16, 3) := by decide +kernel
theorem dX9_beginTrial_13 : decode cX9_beginTrial 13 = .ok (.iload_n 1, 1) := by decide +kernel
theorem dX9_beginTrial_14 : decode cX9_beginTrial 14 = .ok (.aload_n 0, 1) := by decide +kernel
theorem dX9_beginTrial_15 : decode cX9_beginTrial 15 = .ok (.getfield 7, 3) := by decide +kernel
theorem dX9_beginTrial_18 : decode cX9_beginTrial 18 = .ok (.iload_n 1, 1) := by decide +kernel
theorem dX9_beginTrial_19 : decode cX9_beginTrial 19 = .ok (.laload, 1) := by decide +kernel
theorem dX9_beginTrial_20 : decode cX9_beginTrial 20 = .ok (.lastore, 1) := by decide +kernel
theorem dX9_beginTrial_21 : decode cX9_beginTrial 21 = .ok (.iinc 1 1, 3) := by decide +kernel
theorem dX9_beginTrial_24 : decode cX9_beginTrial 24 = .ok (.goto (-22), 3) := by decide +kernel
theorem dX9_beginTrial_27 : decode cX9_beginTrial 27 = .ok (.return_, 1) := by decide +kernel
theorem dX9_endTrial_0 : decode cX9_endTrial 0 = .ok (.iconst 0, 1) := by decide +kernel
theorem dX9_endTrial_1 : decode cX9_endTrial 1 = .ok (.istore_n 1, 1) := by decide +kernel
theorem dX9_endTrial_2 : decode cX9_endTrial 2 = .ok (.iload_n 1, 1) := by decide +kernel
theorem dX9_endTrial_3 : decode cX9_endTrial 3 = .ok (.sipush 1888, 3) := by decide +kernel
theorem dX9_endTrial_6 : decode cX9_endTrial 6 = .ok (.if_icmp .ge 21, 3) := by decide +kernel
theorem dX9_endTrial_9 : decode cX9_endTrial 9 = .ok (.aload_n 0, 1) := by decide +kernel
theorem dX9_endTrial_10 : decode cX9_endTrial 10 = .ok (.getfield 7, 3) := by decide +kernel
theorem dX9_endTrial_13 : decode cX9_endTrial 13 = .ok (.iload_n 1, 1) := by decide +kernel
theorem dX9_endTrial_14 : decode cX9_endTrial 14 = .ok (.aload_n 0, 1) := by decide +kernel
theorem dX9_endTrial_15 : decode cX9_endTrial 15 = .ok (.getfield 16, 3) := by decide +kernel
theorem dX9_endTrial_18 : decode cX9_endTrial 18 = .ok (.iload_n 1, 1) := by decide +kernel
theorem dX9_endTrial_19 : decode cX9_endTrial 19 = .ok (.laload, 1) := by decide +kernel
theorem dX9_endTrial_20 : decode cX9_endTrial 20 = .ok (.lastore, 1) := by decide +kernel
theorem dX9_endTrial_21 : decode cX9_endTrial 21 = .ok (.iinc 1 1, 3) := by decide +kernel
theorem dX9_endTrial_24 : decode cX9_endTrial 24 = .ok (.goto (-22), 3) := by decide +kernel
theorem dX9_endTrial_27 : decode cX9_endTrial 27 = .ok (.return_, 1) := by decide +kernel
theorem dX9_massAfter_0 : decode cX9_massAfter 0 = .ok (.aload_n 0, 1) := by decide +kernel
theorem dX9_massAfter_1 : decode cX9_massAfter 1 = .ok (.iconst 0, 1) := by decide +kernel
theorem dX9_massAfter_2 : decode cX9_massAfter 2 = .ok (.putfield 43, 3) := by decide +kernel
theorem dX9_massAfter_5 : decode cX9_massAfter 5 = .ok (.iload_n 1, 1) := by decide +kernel
theorem dX9_massAfter_6 : decode cX9_massAfter 6 = .ok (.i2l, 1) := by decide +kernel
theorem dX9_massAfter_7 : decode cX9_massAfter 7 = .ok (.lconst 0, 1) := by decide +kernel
theorem dX9_massAfter_8 : decode cX9_massAfter 8 = .ok (.ldc2_w 181, 3) := by decide +kernel
theorem dX9_massAfter_11 : decode cX9_massAfter 11 = .ok (.invokestatic 47, 3) := by decide +kernel
theorem dX9_massAfter_14 : decode cX9_massAfter 14 = .ok (.ifCond .ne 9, 3) := by decide +kernel
theorem dX9_massAfter_17 : decode cX9_massAfter 17 = .ok (.aload_n 0, 1) := by decide +kernel
theorem dX9_massAfter_18 : decode cX9_massAfter 18 = .ok (.iconst 1, 1) := by decide +kernel
theorem dX9_massAfter_19 : decode cX9_massAfter 19 = .ok (.invokevirtual 60, 3) := by decide +kernel
theorem dX9_massAfter_22 : decode cX9_massAfter 22 = .ok (.ireturn, 1) := by decide +kernel
theorem dX9_massAfter_23 : decode cX9_massAfter 23 = .ok (.aload_n 0, 1) := by decide +kernel
theorem dX9_massAfter_24 : decode cX9_massAfter 24 = .ok (.invokevirtual 236, 3) := by decide +kernel
theorem dX9_massAfter_27 : decode cX9_massAfter 27 = .ok (.aload_n 0, 1) := by decide +kernel
theorem dX9_massAfter_28 : decode cX9_massAfter 28 = .ok (.iload_n 1, 1) := by decide +kernel
theorem dX9_massAfter_29 : decode cX9_massAfter 29 = .ok (.invokevirtual 191, 3) := by decide +kernel
theorem dX9_massAfter_32 : decode cX9_massAfter 32 = .ok (.istore_n 2, 1) := by decide +kernel
theorem dX9_massAfter_33 : decode cX9_massAfter 33 = .ok (.aload_n 0, 1) := by decide +kernel
theorem dX9_massAfter_34 : decode cX9_massAfter 34 = .ok (.invokevirtual 142, 3) := by decide +kernel
theorem dX9_massAfter_37 : decode cX9_massAfter 37 = .ok (.l2i, 1) := by decide +kernel
theorem dX9_massAfter_38 : decode cX9_massAfter 38 = .ok (.istore_n 3, 1) := by decide +kernel
theorem dX9_massAfter_39 : decode cX9_massAfter 39 = .ok (.aload_n 0, 1) := by decide +kernel
theorem dX9_massAfter_40 : decode cX9_massAfter 40 = .ok (.invokevirtual 239, 3) := by decide +kernel
theorem dX9_massAfter_43 : decode cX9_massAfter 43 = .ok (.iload_n 3, 1) := by decide +kernel
theorem dX9_massAfter_44 : decode cX9_massAfter 44 = .ok (.ireturn, 1) := by decide +kernel
theorem dX9_completeIn_0 : decode cX9_completeIn 0 = .ok (.aload_n 0, 1) := by decide +kernel
theorem dX9_completeIn_1 : decode cX9_completeIn 1 = .ok (.iconst 0, 1) := by decide +kernel
theorem dX9_completeIn_2 : decode cX9_completeIn 2 = .ok (.putfield 43, 3) := by decide +kernel
theorem dX9_completeIn_5 : decode cX9_completeIn 5 = .ok (.aload_n 0, 1) := by decide +kernel
theorem dX9_completeIn_6 : decode cX9_completeIn 6 = .ok (.iload_n 1, 1) := by decide +kernel
theorem dX9_completeIn_7 : decode cX9_completeIn 7 = .ok (.invokevirtual 216, 3) := by decide +kernel
theorem dX9_completeIn_10 : decode cX9_completeIn 10 = .ok (.ifCond .ne 9, 3) := by decide +kernel
theorem dX9_completeIn_13 : decode cX9_completeIn 13 = .ok (.aload_n 0, 1) := by decide +kernel
theorem dX9_completeIn_14 : decode cX9_completeIn 14 = .ok (.iconst 1, 1) := by decide +kernel
theorem dX9_completeIn_15 : decode cX9_completeIn 15 = .ok (.invokevirtual 60, 3) := by decide +kernel
theorem dX9_completeIn_18 : decode cX9_completeIn 18 = .ok (.ireturn, 1) := by decide +kernel
theorem dX9_completeIn_19 : decode cX9_completeIn 19 = .ok (.aload_n 0, 1) := by decide +kernel
theorem dX9_completeIn_20 : decode cX9_completeIn 20 = .ok (.getfield 7, 3) := by decide +kernel
theorem dX9_completeIn_23 : decode cX9_completeIn 23 = .ok (.sipush 1531, 3) := by decide +kernel
theorem dX9_completeIn_26 : decode cX9_completeIn 26 = .ok (.iload_n 1, 1) := by decide +kernel
theorem dX9_completeIn_27 : decode cX9_completeIn 27 = .ok (.iadd, 1) := by decide +kernel
theorem dX9_completeIn_28 : decode cX9_completeIn 28 = .ok (.laload, 1) := by decide +kernel
theorem dX9_completeIn_29 : decode cX9_completeIn 29 = .ok (.lconst 0, 1) := by decide +kernel
theorem dX9_completeIn_30 : decode cX9_completeIn 30 = .ok (.lcmp, 1) := by decide +kernel
theorem dX9_completeIn_31 : decode cX9_completeIn 31 = .ok (.ifCond .eq 9, 3) := by decide +kernel
theorem dX9_completeIn_34 : decode cX9_completeIn 34 = .ok (.aload_n 0, 1) := by decide +kernel
theorem dX9_completeIn_35 : decode cX9_completeIn 35 = .ok (.iconst 2, 1) := by decide +kernel
theorem dX9_completeIn_36 : decode cX9_completeIn 36 = .ok (.invokevirtual 60, 3) := by decide +kernel
theorem dX9_completeIn_39 : decode cX9_completeIn 39 = .ok (.ireturn, 1) := by decide +kernel
theorem dX9_completeIn_40 : decode cX9_completeIn 40 = .ok (.aload_n 0, 1) := by decide +kernel
theorem dX9_completeIn_41 : decode cX9_completeIn 41 = .ok (.invokevirtual 236, 3) := by decide +kernel
theorem dX9_completeIn_44 : decode cX9_completeIn 44 = .ok (.iconst 0, 1) := by decide +kernel
theorem dX9_completeIn_45 : decode cX9_completeIn 45 = .ok (.istore_n 2, 1) := by decide +kernel
theorem dX9_completeIn_46 : decode cX9_completeIn 46 = .ok (.iload_n 2, 1) := by decide +kernel
theorem dX9_completeIn_47 : decode cX9_completeIn 47 = .ok (.bipush 48, 2) := by decide +kernel
theorem dX9_completeIn_49 : decode cX9_completeIn 49 = .ok (.if_icmp .ge 28, 3) := by decide +kernel
theorem dX9_completeIn_52 : decode cX9_completeIn 52 = .ok (.aload_n 0, 1) := by decide +kernel
theorem dX9_completeIn_53 : decode cX9_completeIn 53 = .ok (.getfield 7, 3) := by decide +kernel
theorem dX9_completeIn_56 : decode cX9_completeIn 56 = .ok (.sipush 1531, 3) := by decide +kernel
theorem dX9_completeIn_59 : decode cX9_completeIn 59 = .ok (.iload_n 1, 1) := by decide +kernel
theorem dX9_completeIn_60 : decode cX9_completeIn 60 = .ok (.iadd, 1) := by decide +kernel
theorem dX9_completeIn_61 : decode cX9_completeIn 61 = .ok (.laload, 1) := by decide +kernel
theorem dX9_completeIn_62 : decode cX9_completeIn 62 = .ok (.lconst 0, 1) := by decide +kernel
theorem dX9_completeIn_63 : decode cX9_completeIn 63 = .ok (.lcmp, 1) := by decide +kernel
theorem dX9_completeIn_64 : decode cX9_completeIn 64 = .ok (.ifCond .ne 13, 3) := by decide +kernel
theorem dX9_completeIn_67 : decode cX9_completeIn 67 = .ok (.aload_n 0, 1) := by decide +kernel
theorem dX9_completeIn_68 : decode cX9_completeIn 68 = .ok (.invokevirtual 185, 3) := by decide +kernel
theorem dX9_completeIn_71 : decode cX9_completeIn 71 = .ok (.iinc 2 1, 3) := by decide +kernel
theorem dX9_completeIn_74 : decode cX9_completeIn 74 = .ok (.goto (-28), 3) := by decide +kernel
theorem dX9_completeIn_77 : decode cX9_completeIn 77 = .ok (.aload_n 0, 1) := by decide +kernel
theorem dX9_completeIn_78 : decode cX9_completeIn 78 = .ok (.getfield 7, 3) := by decide +kernel
theorem dX9_completeIn_81 : decode cX9_completeIn 81 = .ok (.sipush 1531, 3) := by decide +kernel
theorem dX9_completeIn_84 : decode cX9_completeIn 84 = .ok (.iload_n 1, 1) := by decide +kernel
theorem dX9_completeIn_85 : decode cX9_completeIn 85 = .ok (.iadd, 1) := by decide +kernel
theorem dX9_completeIn_86 : decode cX9_completeIn 86 = .ok (.laload, 1) := by decide +kernel
theorem dX9_completeIn_87 : decode cX9_completeIn 87 = .ok (.lconst 1, 1) := by decide +kernel
theorem dX9_completeIn_88 : decode cX9_completeIn 88 = .ok (.lcmp, 1) := by decide +kernel
theorem dX9_completeIn_89 : decode cX9_completeIn 89 = .ok (.ifCond .ne 7, 3) := by decide +kernel
theorem dX9_completeIn_92 : decode cX9_completeIn 92 = .ok (.iconst 1, 1) := by decide +kernel
theorem dX9_completeIn_93 : decode cX9_completeIn 93 = .ok (.goto 4, 3) := by decide +kernel
theorem dX9_completeIn_96 : decode cX9_completeIn 96 = .ok (.iconst 0, 1) := by decide +kernel
theorem dX9_completeIn_97 : decode cX9_completeIn 97 = .ok (.istore_n 3, 1) := by decide +kernel
theorem dX9_completeIn_98 : decode cX9_completeIn 98 = .ok (.aload_n 0, 1) := by decide +kernel
theorem dX9_completeIn_99 : decode cX9_completeIn 99 = .ok (.invokevirtual 239, 3) := by decide +kernel
theorem dX9_completeIn_102 : decode cX9_completeIn 102 = .ok (.iload_n 3, 1) := by decide +kernel
theorem dX9_completeIn_103 : decode cX9_completeIn 103 = .ok (.ifCond .eq 7, 3) := by decide +kernel
theorem dX9_completeIn_106 : decode cX9_completeIn 106 = .ok (.iload_n 2, 1) := by decide +kernel
theorem dX9_completeIn_107 : decode cX9_completeIn 107 = .ok (.goto 4, 3) := by decide +kernel
theorem dX9_completeIn_110 : decode cX9_completeIn 110 = .ok (.iconst (-1), 1) := by decide +kernel
theorem dX9_completeIn_111 : decode cX9_completeIn 111 = .ok (.ireturn, 1) := by decide +kernel
theorem dX9_bestRule_0 : decode cX9_bestRule 0 = .ok (.aload_n 0, 1) := by decide +kernel
theorem dX9_bestRule_1 : decode cX9_bestRule 1 = .ok (.iconst 0, 1) := by decide +kernel
theorem dX9_bestRule_2 : decode cX9_bestRule 2 = .ok (.putfield 43, 3) := by decide +kernel
theorem dX9_bestRule_5 : decode cX9_bestRule 5 = .ok (.aload_n 0, 1) := by decide +kernel
theorem dX9_bestRule_6 : decode cX9_bestRule 6 = .ok (.iload_n 1, 1) := by decide +kernel
theorem dX9_bestRule_7 : decode cX9_bestRule 7 = .ok (.invokevirtual 69, 3) := by decide +kernel
theorem dX9_bestRule_10 : decode cX9_bestRule 10 = .ok (.ifCond .ne 9, 3) := by decide +kernel
theorem dX9_bestRule_13 : decode cX9_bestRule 13 = .ok (.aload_n 0, 1) := by decide +kernel
theorem dX9_bestRule_14 : decode cX9_bestRule 14 = .ok (.iconst 1, 1) := by decide +kernel
theorem dX9_bestRule_15 : decode cX9_bestRule 15 = .ok (.invokevirtual 60, 3) := by decide +kernel
theorem dX9_bestRule_18 : decode cX9_bestRule 18 = .ok (.ireturn, 1) := by decide +kernel
theorem dX9_bestRule_19 : decode cX9_bestRule 19 = .ok (.iload_n 2, 1) := by decide +kernel
theorem dX9_bestRule_20 : decode cX9_bestRule 20 = .ok (.i2l, 1) := by decide +kernel
theorem dX9_bestRule_21 : decode cX9_bestRule 21 = .ok (.lconst 1, 1) := by decide +kernel
theorem dX9_bestRule_22 : decode cX9_bestRule 22 = .ok (.ldc2_w 98, 3) := by decide +kernel
theorem dX9_bestRule_25 : decode cX9_bestRule 25 = .ok (.invokestatic 47, 3) := by decide +kernel
theorem dX9_bestRule_28 : decode cX9_bestRule 28 = .ok (.ifCond .ne 9, 3) := by decide +kernel
theorem dX9_bestRule_31 : decode cX9_bestRule 31 = .ok (.aload_n 0, 1) := by decide +kernel
theorem dX9_bestRule_32 : decode cX9_bestRule 32 = .ok (.iconst 2, 1) := by decide +kernel
theorem dX9_bestRule_33 : decode cX9_bestRule 33 = .ok (.invokevirtual 60, 3) := by decide +kernel
theorem dX9_bestRule_36 : decode cX9_bestRule 36 = .ok (.ireturn, 1) := by decide +kernel
theorem dX9_bestRule_37 : decode cX9_bestRule 37 = .ok (.iconst 0, 1) := by decide +kernel
theorem dX9_bestRule_38 : decode cX9_bestRule 38 = .ok (.istore_n 3, 1) := by decide +kernel
theorem dX9_bestRule_39 : decode cX9_bestRule 39 = .ok (.lconst 0, 1) := by decide +kernel
theorem dX9_bestRule_40 : decode cX9_bestRule 40 = .ok (.lstore 4, 2) := by decide +kernel
theorem dX9_bestRule_42 : decode cX9_bestRule 42 = .ok (.aload_n 0, 1) := by decide +kernel
theorem dX9_bestRule_43 : decode cX9_bestRule 43 = .ok (.invokevirtual 236, 3) := by decide +kernel
theorem dX9_bestRule_46 : decode cX9_bestRule 46 = .ok (.iconst 0, 1) := by decide +kernel
theorem dX9_bestRule_47 : decode cX9_bestRule 47 = .ok (.istore 6, 2) := by decide +kernel
theorem dX9_bestRule_49 : decode cX9_bestRule 49 = .ok (.iload 6, 2) := by decide +kernel
theorem dX9_bestRule_51 : decode cX9_bestRule 51 = .ok (.iconst 4, 1) := by decide +kernel
theorem dX9_bestRule_52 : decode cX9_bestRule 52 = .ok (.if_icmp .ge 71, 3) := by decide +kernel
theorem dX9_bestRule_55 : decode cX9_bestRule 55 = .ok (.aload_n 0, 1) := by decide +kernel
theorem dX9_bestRule_56 : decode cX9_bestRule 56 = .ok (.getfield 7, 3) := by decide +kernel
theorem dX9_bestRule_59 : decode cX9_bestRule 59 = .ok (.bipush 37, 2) := by decide +kernel
theorem dX9_bestRule_61 : decode cX9_bestRule 61 = .ok (.iload_n 1, 1) := by decide +kernel
theorem dX9_bestRule_62 : decode cX9_bestRule 62 = .ok (.iadd, 1) := by decide +kernel
theorem dX9_bestRule_63 : decode cX9_bestRule 63 = .ok (.iload 6, 2) := by decide +kernel
theorem dX9_bestRule_65 : decode cX9_bestRule 65 = .ok (.i2l, 1) := by decide +kernel
theorem dX9_bestRule_66 : decode cX9_bestRule 66 = .ok (.lastore, 1) := by decide +kernel
theorem dX9_bestRule_67 : decode cX9_bestRule 67 = .ok (.aload_n 0, 1) := by decide +kernel
theorem dX9_bestRule_68 : decode cX9_bestRule 68 = .ok (.iload_n 2, 1) := by decide +kernel
theorem dX9_bestRule_69 : decode cX9_bestRule 69 = .ok (.invokevirtual 191, 3) := by decide +kernel
theorem dX9_bestRule_72 : decode cX9_bestRule 72 = .ok (.istore 7, 2) := by decide +kernel
theorem dX9_bestRule_74 : decode cX9_bestRule 74 = .ok (.aload_n 0, 1) := by decide +kernel
theorem dX9_bestRule_75 : decode cX9_bestRule 75 = .ok (.getfield 7, 3) := by decide +kernel
theorem dX9_bestRule_78 : decode cX9_bestRule 78 = .ok (.sipush 1878, 3) := by decide +kernel
theorem dX9_bestRule_81 : decode cX9_bestRule 81 = .ok (.laload, 1) := by decide +kernel
theorem dX9_bestRule_82 : decode cX9_bestRule 82 = .ok (.aload_n 0, 1) := by decide +kernel
theorem dX9_bestRule_83 : decode cX9_bestRule 83 = .ok (.getfield 16, 3) := by decide +kernel
theorem dX9_bestRule_86 : decode cX9_bestRule 86 = .ok (.sipush 1878, 3) := by decide +kernel
theorem dX9_bestRule_89 : decode cX9_bestRule 89 = .ok (.laload, 1) := by decide +kernel
theorem dX9_bestRule_90 : decode cX9_bestRule 90 = .ok (.lsub, 1) := by decide +kernel
theorem dX9_bestRule_91 : decode cX9_bestRule 91 = .ok (.lstore 8, 2) := by decide +kernel
theorem dX9_bestRule_93 : decode cX9_bestRule 93 = .ok (.aload_n 0, 1) := by decide +kernel
theorem dX9_bestRule_94 : decode cX9_bestRule 94 = .ok (.invokevirtual 239, 3) := by decide +kernel
theorem dX9_bestRule_97 : decode cX9_bestRule 97 = .ok (.iload 6, 2) := by decide +kernel
theorem dX9_bestRule_99 : decode cX9_bestRule 99 = .ok (.ifCond .eq 11, 3) := by decide +kernel
theorem dX9_bestRule_102 : decode cX9_bestRule 102 = .ok (.lload 8, 2) := by decide +kernel
theorem dX9_bestRule_104 : decode cX9_bestRule 104 = .ok (.lload 4, 2) := by decide +kernel
theorem dX9_bestRule_106 : decode cX9_bestRule 106 = .ok (.lcmp, 1) := by decide +kernel
theorem dX9_bestRule_107 : decode cX9_bestRule 107 = .ok (.ifCond .ge 10, 3) := by decide +kernel
theorem dX9_bestRule_110 : decode cX9_bestRule 110 = .ok (.iload 6, 2) := by decide +kernel
theorem dX9_bestRule_112 : decode cX9_bestRule 112 = .ok (.istore_n 3, 1) := by decide +kernel
theorem dX9_bestRule_113 : decode cX9_bestRule 113 = .ok (.lload 8, 2) := by decide +kernel
theorem dX9_bestRule_115 : decode cX9_bestRule 115 = .ok (.lstore 4, 2) := by decide +kernel
theorem dX9_bestRule_117 : decode cX9_bestRule 117 = .ok (.iinc 6 1, 3) := by decide +kernel
theorem dX9_bestRule_120 : decode cX9_bestRule 120 = .ok (.goto (-71), 3) := by decide +kernel
theorem dX9_bestRule_123 : decode cX9_bestRule 123 = .ok (.iload_n 3, 1) := by decide +kernel
theorem dX9_bestRule_124 : decode cX9_bestRule 124 = .ok (.ireturn, 1) := by decide +kernel
theorem dX9_quote_0 : decode cX9_quote 0 = .ok (.aload_n 0, 1) := by decide +kernel
theorem dX9_quote_1 : decode cX9_quote 1 = .ok (.iconst 0, 1) := by decide +kernel
theorem dX9_quote_2 : decode cX9_quote 2 = .ok (.putfield 43, 3) := by decide +kernel
theorem dX9_quote_5 : decode cX9_quote 5 = .ok (.aload_n 0, 1) := by decide +kernel
theorem dX9_quote_6 : decode cX9_quote 6 = .ok (.iload_n 1, 1) := by decide +kernel
theorem dX9_quote_7 : decode cX9_quote 7 = .ok (.invokevirtual 198, 3) := by decide +kernel
theorem dX9_quote_10 : decode cX9_quote 10 = .ok (.ifCond .ne 9, 3) := by decide +kernel
theorem dX9_quote_13 : decode cX9_quote 13 = .ok (.aload_n 0, 1) := by decide +kernel
theorem dX9_quote_14 : decode cX9_quote 14 = .ok (.iconst 1, 1) := by decide +kernel
theorem dX9_quote_15 : decode cX9_quote 15 = .ok (.invokevirtual 60, 3) := by decide +kernel
theorem dX9_quote_18 : decode cX9_quote 18 = .ok (.ireturn, 1) := by decide +kernel
theorem dX9_quote_19 : decode cX9_quote 19 = .ok (.iload_n 2, 1) := by decide +kernel
theorem dX9_quote_20 : decode cX9_quote 20 = .ok (.i2l, 1) := by decide +kernel
theorem dX9_quote_21 : decode cX9_quote 21 = .ok (.lconst 0, 1) := by decide +kernel
theorem dX9_quote_22 : decode cX9_quote 22 = .ok (.ldc2_w 204, 3) := by decide +kernel
theorem dX9_quote_25 : decode cX9_quote 25 = .ok (.invokestatic 47, 3) := by decide +kernel
theorem dX9_quote_28 : decode cX9_quote 28 = .ok (.ifCond .eq 25, 3) := by decide +kernel
theorem dX9_quote_31 : decode cX9_quote 31 = .ok (.iload_n 3, 1) := by decide +kernel
theorem dX9_quote_32 : decode cX9_quote 32 = .ok (.i2l, 1) := by decide +kernel
theorem dX9_quote_33 : decode cX9_quote 33 = .ok (.lconst 0, 1) := by decide +kernel
theorem dX9_quote_34 : decode cX9_quote 34 = .ok (.lconst 1, 1) := by decide +kernel
theorem dX9_quote_35 : decode cX9_quote 35 = .ok (.invokestatic 47, 3) := by decide +kernel
theorem dX9_quote_38 : decode cX9_quote 38 = .ok (.ifCond .eq 15, 3) := by decide +kernel
theorem dX9_quote_41 : decode cX9_quote 41 = .ok (.aload_n 0, 1) := by decide +kernel
theorem dX9_quote_42 : decode cX9_quote 42 = .ok (.iload_n 1, 1) := by decide +kernel
theorem dX9_quote_43 : decode cX9_quote 43 = .ok (.iload_n 2, 1) := by decide +kernel
theorem dX9_quote_44 : decode cX9_quote 44 = .ok (.i2l, 1) := by decide +kernel
theorem dX9_quote_45 : decode cX9_quote 45 = .ok (.iload_n 3, 1) := by decide +kernel
theorem dX9_quote_46 : decode cX9_quote 46 = .ok (.invokevirtual 148, 3) := by decide +kernel
theorem dX9_quote_49 : decode cX9_quote 49 = .ok (.l2i, 1) := by decide +kernel
theorem dX9_quote_50 : decode cX9_quote 50 = .ok (.goto 8, 3) := by decide +kernel
theorem dX9_quote_53 : decode cX9_quote 53 = .ok (.aload_n 0, 1) := by decide +kernel
theorem dX9_quote_54 : decode cX9_quote 54 = .ok (.iconst 2, 1) := by decide +kernel
theorem dX9_quote_55 : decode cX9_quote 55 = .ok (.invokevirtual 60, 3) := by decide +kernel
theorem dX9_quote_58 : decode cX9_quote 58 = .ok (.ireturn, 1) := by decide +kernel
theorem dX9_append_0 : decode cX9_append 0 = .ok (.aload_n 0, 1) := by decide +kernel
theorem dX9_append_1 : decode cX9_append 1 = .ok (.iconst 0, 1) := by decide +kernel
theorem dX9_append_2 : decode cX9_append 2 = .ok (.putfield 43, 3) := by decide +kernel
theorem dX9_append_5 : decode cX9_append 5 = .ok (.iload_n 1, 1) := by decide +kernel
theorem dX9_append_6 : decode cX9_append 6 = .ok (.i2l, 1) := by decide +kernel
theorem dX9_append_7 : decode cX9_append 7 = .ok (.ldc2_w 242, 3) := by decide +kernel
theorem dX9_append_10 : decode cX9_append 10 = .ok (.ldc2_w 244, 3) := by decide +kernel
theorem dX9_append_13 : decode cX9_append 13 = .ok (.invokestatic 47, 3) := by decide +kernel
theorem dX9_append_16 : decode cX9_append 16 = .ok (.ifCond .ne 9, 3) := by decide +kernel
theorem dX9_append_19 : decode cX9_append 19 = .ok (.aload_n 0, 1) := by decide +kernel
theorem dX9_append_20 : decode cX9_append 20 = .ok (.iconst 1, 1) := by decide +kernel
theorem dX9_append_21 : decode cX9_append 21 = .ok (.invokevirtual 60, 3) := by decide +kernel
theorem dX9_append_24 : decode cX9_append 24 = .ok (.ireturn, 1) := by decide +kernel
theorem dX9_append_25 : decode cX9_append 25 = .ok (.aload_n 0, 1) := by decide +kernel
theorem dX9_append_26 : decode cX9_append 26 = .ok (.getfield 246, 3) := by decide +kernel
theorem dX9_append_29 : decode cX9_append 29 = .ok (.bipush 120, 2) := by decide +kernel
theorem dX9_append_31 : decode cX9_append 31 = .ok (.if_icmp .ne 9, 3) := by decide +kernel
theorem dX9_append_34 : decode cX9_append 34 = .ok (.aload_n 0, 1) := by decide +kernel
theorem dX9_append_35 : decode cX9_append 35 = .ok (.iconst 2, 1) := by decide +kernel
theorem dX9_append_36 : decode cX9_append 36 = .ok (.invokevirtual 60, 3) := by decide +kernel
theorem dX9_append_39 : decode cX9_append 39 = .ok (.ireturn, 1) := by decide +kernel
theorem dX9_append_40 : decode cX9_append 40 = .ok (.aload_n 0, 1) := by decide +kernel
theorem dX9_append_41 : decode cX9_append 41 = .ok (.getfield 23, 3) := by decide +kernel
theorem dX9_append_44 : decode cX9_append 44 = .ok (.aload_n 0, 1) := by decide +kernel
theorem dX9_append_45 : decode cX9_append 45 = .ok (.getfield 246, 3) := by decide +kernel
theorem dX9_append_48 : decode cX9_append 48 = .ok (.iload_n 1, 1) := by decide +kernel
theorem dX9_append_49 : decode cX9_append 49 = .ok (.iastore, 1) := by decide +kernel
theorem dX9_append_50 : decode cX9_append 50 = .ok (.aload_n 0, 1) := by decide +kernel
theorem dX9_append_51 : decode cX9_append 51 = .ok (.dup, 1) := by decide +kernel
theorem dX9_append_52 : decode cX9_append 52 = .ok (.getfield 246, 3) := by decide +kernel
theorem dX9_append_55 : decode cX9_append 55 = .ok (.iconst 1, 1) := by decide +kernel
theorem dX9_append_56 : decode cX9_append 56 = .ok (.iadd, 1) := by decide +kernel
theorem dX9_append_57 : decode cX9_append 57 = .ok (.putfield 246, 3) := by decide +kernel
theorem dX9_append_60 : decode cX9_append 60 = .ok (.aload_n 0, 1) := by decide +kernel
theorem dX9_append_61 : decode cX9_append 61 = .ok (.getfield 246, 3) := by decide +kernel
theorem dX9_append_64 : decode cX9_append 64 = .ok (.ireturn, 1) := by decide +kernel
theorem dX9_clear_0 : decode cX9_clear 0 = .ok (.aload_n 0, 1) := by decide +kernel
theorem dX9_clear_1 : decode cX9_clear 1 = .ok (.iconst 0, 1) := by decide +kernel
theorem dX9_clear_2 : decode cX9_clear 2 = .ok (.putfield 43, 3) := by decide +kernel
theorem dX9_clear_5 : decode cX9_clear 5 = .ok (.aload_n 0, 1) := by decide +kernel
theorem dX9_clear_6 : decode cX9_clear 6 = .ok (.getfield 246, 3) := by decide +kernel
theorem dX9_clear_9 : decode cX9_clear 9 = .ok (.istore_n 1, 1) := by decide +kernel
theorem dX9_clear_10 : decode cX9_clear 10 = .ok (.aload_n 0, 1) := by decide +kernel
theorem dX9_clear_11 : decode cX9_clear 11 = .ok (.iconst 0, 1) := by decide +kernel
theorem dX9_clear_12 : decode cX9_clear 12 = .ok (.putfield 246, 3) := by decide +kernel
theorem dX9_clear_15 : decode cX9_clear 15 = .ok (.iload_n 1, 1) := by decide +kernel
theorem dX9_clear_16 : decode cX9_clear 16 = .ok (.ireturn, 1) := by decide +kernel
theorem dX9_needs_0 : decode cX9_needs 0 = .ok (.aload_n 0, 1) := by decide +kernel
theorem dX9_needs_1 : decode cX9_needs 1 = .ok (.getfield 249, 3) := by decide +kernel
theorem dX9_needs_4 : decode cX9_needs 4 = .ok (.bipush 104, 2) := by decide +kernel
theorem dX9_needs_6 : decode cX9_needs 6 = .ok (.if_icmp .ne 7, 3) := by decide +kernel
theorem dX9_needs_9 : decode cX9_needs 9 = .ok (.iconst 1, 1) := by decide +kernel
theorem dX9_needs_10 : decode cX9_needs 10 = .ok (.goto 17, 3) := by decide +kernel
theorem dX9_needs_13 : decode cX9_needs 13 = .ok (.aload_n 0, 1) := by decide +kernel
theorem dX9_needs_14 : decode cX9_needs 14 = .ok (.getfield 249, 3) := by decide +kernel
theorem dX9_needs_17 : decode cX9_needs 17 = .ok (.bipush 111, 2) := by decide +kernel
theorem dX9_needs_19 : decode cX9_needs 19 = .ok (.if_icmp .ne 7, 3) := by decide +kernel
theorem dX9_needs_22 : decode cX9_needs 22 = .ok (.iconst 3, 1) := by decide +kernel
theorem dX9_needs_23 : decode cX9_needs 23 = .ok (.goto 4, 3) := by decide +kernel
theorem dX9_needs_26 : decode cX9_needs 26 = .ok (.iconst 2, 1) := by decide +kernel
theorem dX9_needs_27 : decode cX9_needs 27 = .ok (.ireturn, 1) := by decide +kernel
theorem dX9_readOne_0 : decode cX9_readOne 0 = .ok (.aload_n 0, 1) := by decide +kernel
theorem dX9_readOne_1 : decode cX9_readOne 1 = .ok (.getfield 249, 3) := by decide +kernel
theorem dX9_readOne_4 : decode cX9_readOne 4 = .ok (.ifCond .ne 77, 3) := by decide +kernel
theorem dX9_readOne_7 : decode cX9_readOne 7 = .ok (.iload_n 1, 1) := by decide +kernel
theorem dX9_readOne_8 : decode cX9_readOne 8 = .ok (.bipush 104, 2) := by decide +kernel
theorem dX9_readOne_10 : decode cX9_readOne 10 = .ok (.if_icmp .eq 27, 3) := by decide +kernel
theorem dX9_readOne_13 : decode cX9_readOne 13 = .ok (.iload_n 1, 1) := by decide +kernel
theorem dX9_readOne_14 : decode cX9_readOne 14 = .ok (.bipush 111, 2) := by decide +kernel
theorem dX9_readOne_16 : decode cX9_readOne 16 = .ok (.if_icmp .eq 21, 3) := by decide +kernel
theorem dX9_readOne_19 : decode cX9_readOne 19 = .ok (.iload_n 1, 1) := by decide +kernel
theorem dX9_readOne_20 : decode cX9_readOne 20 = .ok (.bipush 99, 2) := by decide +kernel
theorem dX9_readOne_22 : decode cX9_readOne 22 = .ok (.if_icmp .eq 15, 3) := by decide +kernel
theorem dX9_readOne_25 : decode cX9_readOne 25 = .ok (.iload_n 1, 1) := by decide +kernel
theorem dX9_readOne_26 : decode cX9_readOne 26 = .ok (.bipush 112, 2) := by decide +kernel
theorem dX9_readOne_28 : decode cX9_readOne 28 = .ok (.if_icmp .eq 9, 3) := by decide +kernel
theorem dX9_readOne_31 : decode cX9_readOne 31 = .ok (.iload_n 1, 1) := by decide +kernel
theorem dX9_readOne_32 : decode cX9_readOne 32 = .ok (.bipush 109, 2) := by decide +kernel
theorem dX9_readOne_34 : decode cX9_readOne 34 = .ok (.if_icmp .ne 7, 3) := by decide +kernel
theorem dX9_readOne_37 : decode cX9_readOne 37 = .ok (.iconst 1, 1) := by decide +kernel
theorem dX9_readOne_38 : decode cX9_readOne 38 = .ok (.goto 4, 3) := by decide +kernel
theorem dX9_readOne_41 : decode cX9_readOne 41 = .ok (.iconst 0, 1) := by decide +kernel
theorem dX9_readOne_42 : decode cX9_readOne 42 = .ok (.istore_n 2, 1) := by decide +kernel
theorem dX9_readOne_43 : decode cX9_readOne 43 = .ok (.aload_n 0, 1) := by decide +kernel
theorem dX9_readOne_44 : decode cX9_readOne 44 = .ok (.iload_n 2, 1) := by decide +kernel
theorem dX9_readOne_45 : decode cX9_readOne 45 = .ok (.ifCond .eq 7, 3) := by decide +kernel
theorem dX9_readOne_48 : decode cX9_readOne 48 = .ok (.iload_n 1, 1) := by decide +kernel
theorem dX9_readOne_49 : decode cX9_readOne 49 = .ok (.goto 4, 3) := by decide +kernel
theorem dX9_readOne_52 : decode cX9_readOne 52 = .ok (.iconst 0, 1) := by decide +kernel
theorem dX9_readOne_53 : decode cX9_readOne 53 = .ok (.putfield 249, 3) := by decide +kernel
theorem dX9_readOne_56 : decode cX9_readOne 56 = .ok (.aload_n 0, 1) := by decide +kernel
theorem dX9_readOne_57 : decode cX9_readOne 57 = .ok (.iconst 0, 1) := by decide +kernel
theorem dX9_readOne_58 : decode cX9_readOne 58 = .ok (.putfield 252, 3) := by decide +kernel
theorem dX9_readOne_61 : decode cX9_readOne 61 = .ok (.aload_n 0, 1) := by decide +kernel
theorem dX9_readOne_62 : decode cX9_readOne 62 = .ok (.iconst 0, 1) := by decide +kernel
theorem dX9_readOne_63 : decode cX9_readOne 63 = .ok (.putfield 255, 3) := by decide +kernel
theorem dX9_readOne_66 : decode cX9_readOne 66 = .ok (.aload_n 0, 1) := by decide +kernel
theorem dX9_readOne_67 : decode cX9_readOne 67 = .ok (.iconst 0, 1) := by decide +kernel
theorem dX9_readOne_68 : decode cX9_readOne 68 = .ok (.putfield 258, 3) := by decide +kernel
theorem dX9_readOne_71 : decode cX9_readOne 71 = .ok (.iload_n 2, 1) := by decide +kernel
theorem dX9_readOne_72 : decode cX9_readOne 72 = .ok (.ifCond .eq 7, 3) := by decide +kernel
theorem dX9_readOne_75 : decode cX9_readOne 75 = .ok (.iconst 0, 1) := by decide +kernel
theorem dX9_readOne_76 : decode cX9_readOne 76 = .ok (.goto 4, 3) := by decide +kernel
theorem dX9_readOne_79 : decode cX9_readOne 79 = .ok (.iconst 1, 1) := by decide +kernel
theorem dX9_readOne_80 : decode cX9_readOne 80 = .ok (.ireturn, 1) := by decide +kernel
theorem dX9_readOne_81 : decode cX9_readOne 81 = .ok (.iload_n 1, 1) := by decide +kernel
theorem dX9_readOne_82 : decode cX9_readOne 82 = .ok (.i2l, 1) := by decide +kernel
theorem dX9_readOne_83 : decode cX9_readOne 83 = .ok (.ldc2_w 181, 3) := by decide +kernel
theorem dX9_readOne_86 : decode cX9_readOne 86 = .ok (.ldc2_w 262, 3) := by decide +kernel
theorem dX9_readOne_89 : decode cX9_readOne 89 = .ok (.invokestatic 47, 3) := by decide +kernel
theorem dX9_readOne_92 : decode cX9_readOne 92 = .ok (.ifCond .eq 75, 3) := by decide +kernel
theorem dX9_readOne_95 : decode cX9_readOne 95 = .ok (.aload_n 0, 1) := by decide +kernel
theorem dX9_readOne_96 : decode cX9_readOne 96 = .ok (.getfield 258, 3) := by decide +kernel
theorem dX9_readOne_99 : decode cX9_readOne 99 = .ok (.ifCond .ne 68, 3) := by decide +kernel
theorem dX9_readOne_102 : decode cX9_readOne 102 = .ok (.aload_n 0, 1) := by decide +kernel
theorem dX9_readOne_103 : decode cX9_readOne 103 = .ok (.getfield 26, 3) := by decide +kernel
theorem dX9_readOne_106 : decode cX9_readOne 106 = .ok (.aload_n 0, 1) := by decide +kernel
theorem dX9_readOne_107 : decode cX9_readOne 107 = .ok (.getfield 252, 3) := by decide +kernel
theorem dX9_readOne_110 : decode cX9_readOne 110 = .ok (.aload_n 0, 1) := by decide +kernel
theorem dX9_readOne_111 : decode cX9_readOne 111 = .ok (.getfield 255, 3) := by decide +kernel
theorem dX9_readOne_114 : decode cX9_readOne 114 = .ok (.ifCond .ne 10, 3) := by decide +kernel
theorem dX9_readOne_117 : decode cX9_readOne 117 = .ok (.iload_n 1, 1) := by decide +kernel
theorem dX9_readOne_118 : decode cX9_readOne 118 = .ok (.bipush 48, 2) := by decide +kernel
theorem dX9_readOne_120 : decode cX9_readOne 120 = .ok (.isub, 1) := by decide +kernel
theorem dX9_readOne_121 : decode cX9_readOne 121 = .ok (.goto 20, 3) := by decide +kernel
theorem dX9_readOne_124 : decode cX9_readOne 124 = .ok (.bipush 10, 2) := by decide +kernel
theorem dX9_readOne_126 : decode cX9_readOne 126 = .ok (.aload_n 0, 1) := by decide +kernel
theorem dX9_readOne_127 : decode cX9_readOne 127 = .ok (.getfield 26, 3) := by decide +kernel
theorem dX9_readOne_130 : decode cX9_readOne 130 = .ok (.aload_n 0, 1) := by decide +kernel
theorem dX9_readOne_131 : decode cX9_readOne 131 = .ok (.getfield 252, 3) := by decide +kernel
theorem dX9_readOne_134 : decode cX9_readOne 134 = .ok (.iaload, 1) := by decide +kernel
theorem dX9_readOne_135 : decode cX9_readOne 135 = .ok (.imul, 1) := by decide +kernel
theorem dX9_readOne_136 : decode cX9_readOne 136 = .ok (.iload_n 1, 1) := by decide +kernel
theorem dX9_readOne_137 : decode cX9_readOne 137 = .ok (.iadd, 1) := by decide +kernel
theorem dX9_readOne_138 : decode cX9_readOne 138 = .ok (.bipush 48, 2) := by decide +kernel
theorem dX9_readOne_140 : decode cX9_readOne 140 = .ok (.isub, 1) := by decide +kernel
theorem dX9_readOne_141 : decode cX9_readOne 141 = .ok (.iastore, 1) := by decide +kernel
theorem dX9_readOne_142 : decode cX9_readOne 142 = .ok (.aload_n 0, 1) := by decide +kernel
theorem dX9_readOne_143 : decode cX9_readOne 143 = .ok (.dup, 1) := by decide +kernel
theorem dX9_readOne_144 : decode cX9_readOne 144 = .ok (.getfield 255, 3) := by decide +kernel
theorem dX9_readOne_147 : decode cX9_readOne 147 = .ok (.iconst 1, 1) := by decide +kernel
theorem dX9_readOne_148 : decode cX9_readOne 148 = .ok (.iadd, 1) := by decide +kernel
theorem dX9_readOne_149 : decode cX9_readOne 149 = .ok (.putfield 255, 3) := by decide +kernel
theorem dX9_readOne_152 : decode cX9_readOne 152 = .ok (.aload_n 0, 1) := by decide +kernel
theorem dX9_readOne_153 : decode cX9_readOne 153 = .ok (.getfield 255, 3) := by decide +kernel
theorem dX9_readOne_156 : decode cX9_readOne 156 = .ok (.bipush 6, 2) := by decide +kernel
theorem dX9_readOne_158 : decode cX9_readOne 158 = .ok (.if_icmp .le 7, 3) := by decide +kernel
theorem dX9_readOne_161 : decode cX9_readOne 161 = .ok (.iconst 2, 1) := by decide +kernel
theorem dX9_readOne_162 : decode cX9_readOne 162 = .ok (.goto 4, 3) := by decide +kernel
theorem dX9_readOne_165 : decode cX9_readOne 165 = .ok (.iconst 0, 1) := by decide +kernel
theorem dX9_readOne_166 : decode cX9_readOne 166 = .ok (.ireturn, 1) := by decide +kernel
theorem dX9_readOne_167 : decode cX9_readOne 167 = .ok (.aload_n 0, 1) := by decide +kernel
theorem dX9_readOne_168 : decode cX9_readOne 168 = .ok (.getfield 255, 3) := by decide +kernel
theorem dX9_readOne_171 : decode cX9_readOne 171 = .ok (.ifCond .ne 5, 3) := by decide +kernel
theorem dX9_readOne_174 : decode cX9_readOne 174 = .ok (.iconst 1, 1) := by decide +kernel
theorem dX9_readOne_175 : decode cX9_readOne 175 = .ok (.ireturn, 1) := by decide +kernel
theorem dX9_readOne_176 : decode cX9_readOne 176 = .ok (.iload_n 1, 1) := by decide +kernel
theorem dX9_readOne_177 : decode cX9_readOne 177 = .ok (.bipush 44, 2) := by decide +kernel
theorem dX9_readOne_179 : decode cX9_readOne 179 = .ok (.if_icmp .ne 33, 3) := by decide +kernel
theorem dX9_readOne_182 : decode cX9_readOne 182 = .ok (.aload_n 0, 1) := by decide +kernel
theorem dX9_readOne_183 : decode cX9_readOne 183 = .ok (.getfield 252, 3) := by decide +kernel
theorem dX9_readOne_186 : decode cX9_readOne 186 = .ok (.iconst 1, 1) := by decide +kernel
theorem dX9_readOne_187 : decode cX9_readOne 187 = .ok (.iadd, 1) := by decide +kernel
theorem dX9_readOne_188 : decode cX9_readOne 188 = .ok (.aload_n 0, 1) := by decide +kernel
theorem dX9_readOne_189 : decode cX9_readOne 189 = .ok (.invokevirtual 264, 3) := by decide +kernel
theorem dX9_readOne_192 : decode cX9_readOne 192 = .ok (.if_icmp .ge 20, 3) := by decide +kernel
theorem dX9_readOne_195 : decode cX9_readOne 195 = .ok (.aload_n 0, 1) := by decide +kernel
theorem dX9_readOne_196 : decode cX9_readOne 196 = .ok (.dup, 1) := by decide +kernel
theorem dX9_readOne_197 : decode cX9_readOne 197 = .ok (.getfield 252, 3) := by decide +kernel
theorem dX9_readOne_200 : decode cX9_readOne 200 = .ok (.iconst 1, 1) := by decide +kernel
theorem dX9_readOne_201 : decode cX9_readOne 201 = .ok (.iadd, 1) := by decide +kernel
theorem dX9_readOne_202 : decode cX9_readOne 202 = .ok (.putfield 252, 3) := by decide +kernel
theorem dX9_readOne_205 : decode cX9_readOne 205 = .ok (.aload_n 0, 1) := by decide +kernel
theorem dX9_readOne_206 : decode cX9_readOne 206 = .ok (.iconst 0, 1) := by decide +kernel
theorem dX9_readOne_207 : decode cX9_readOne 207 = .ok (.putfield 255, 3) := by decide +kernel
theorem dX9_readOne_210 : decode cX9_readOne 210 = .ok (.iconst 0, 1) := by decide +kernel
theorem dX9_readOne_211 : decode cX9_readOne 211 = .ok (.ireturn, 1) := by decide +kernel
theorem dX9_readOne_212 : decode cX9_readOne 212 = .ok (.iload_n 1, 1) := by decide +kernel
theorem dX9_readOne_213 : decode cX9_readOne 213 = .ok (.bipush 33, 2) := by decide +kernel
theorem dX9_readOne_215 : decode cX9_readOne 215 = .ok (.if_icmp .ne 34, 3) := by decide +kernel
theorem dX9_readOne_218 : decode cX9_readOne 218 = .ok (.aload_n 0, 1) := by decide +kernel
theorem dX9_readOne_219 : decode cX9_readOne 219 = .ok (.getfield 249, 3) := by decide +kernel
theorem dX9_readOne_222 : decode cX9_readOne 222 = .ok (.bipush 111, 2) := by decide +kernel
theorem dX9_readOne_224 : decode cX9_readOne 224 = .ok (.if_icmp .ne 25, 3) := by decide +kernel
theorem dX9_readOne_227 : decode cX9_readOne 227 = .ok (.aload_n 0, 1) := by decide +kernel
theorem dX9_readOne_228 : decode cX9_readOne 228 = .ok (.getfield 252, 3) := by decide +kernel
theorem dX9_readOne_231 : decode cX9_readOne 231 = .ok (.iconst 2, 1) := by decide +kernel
theorem dX9_readOne_232 : decode cX9_readOne 232 = .ok (.if_icmp .ne 17, 3) := by decide +kernel
theorem dX9_readOne_235 : decode cX9_readOne 235 = .ok (.aload_n 0, 1) := by decide +kernel
theorem dX9_readOne_236 : decode cX9_readOne 236 = .ok (.getfield 258, 3) := by decide +kernel
theorem dX9_readOne_239 : decode cX9_readOne 239 = .ok (.ifCond .ne 10, 3) := by decide +kernel
theorem dX9_readOne_242 : decode cX9_readOne 242 = .ok (.aload_n 0, 1) := by decide +kernel
theorem dX9_readOne_243 : decode cX9_readOne 243 = .ok (.iconst 1, 1) := by decide +kernel
theorem dX9_readOne_244 : decode cX9_readOne 244 = .ok (.putfield 258, 3) := by decide +kernel
theorem dX9_readOne_247 : decode cX9_readOne 247 = .ok (.iconst 0, 1) := by decide +kernel
theorem dX9_readOne_248 : decode cX9_readOne 248 = .ok (.ireturn, 1) := by decide +kernel
theorem dX9_readOne_249 : decode cX9_readOne 249 = .ok (.iload_n 1, 1) := by decide +kernel
theorem dX9_readOne_250 : decode cX9_readOne 250 = .ok (.bipush 59, 2) := by decide +kernel
theorem dX9_readOne_252 : decode cX9_readOne 252 = .ok (.if_icmp .ne 20, 3) := by decide +kernel
theorem dX9_readOne_255 : decode cX9_readOne 255 = .ok (.aload_n 0, 1) := by decide +kernel
theorem dX9_readOne_256 : decode cX9_readOne 256 = .ok (.getfield 252, 3) := by decide +kernel
theorem dX9_readOne_259 : decode cX9_readOne 259 = .ok (.iconst 1, 1) := by decide +kernel
theorem dX9_readOne_260 : decode cX9_readOne 260 = .ok (.iadd, 1) := by decide +kernel
theorem dX9_readOne_261 : decode cX9_readOne 261 = .ok (.aload_n 0, 1) := by decide +kernel
theorem dX9_readOne_262 : decode cX9_readOne 262 = .ok (.invokevirtual 264, 3) := by decide +kernel
theorem dX9_readOne_265 : decode cX9_readOne 265 = .ok (.if_icmp .ne 7, 3) := by decide +kernel
theorem dX9_readOne_268 : decode cX9_readOne 268 = .ok (.iconst 0, 1) := by decide +kernel
theorem dX9_readOne_269 : decode cX9_readOne 269 = .ok (.goto 4, 3) := by decide +kernel
theorem dX9_readOne_272 : decode cX9_readOne 272 = .ok (.iconst 1, 1) := by decide +kernel
theorem dX9_readOne_273 : decode cX9_readOne 273 = .ok (.ireturn, 1) := by decide +kernel
theorem dX9_ends_0 : decode cX9_ends 0 = .ok (.aload_n 0, 1) := by decide +kernel
theorem dX9_ends_1 : decode cX9_ends 1 = .ok (.getfield 249, 3) := by decide +kernel
theorem dX9_ends_4 : decode cX9_ends 4 = .ok (.ifCond .le 27, 3) := by decide +kernel
theorem dX9_ends_7 : decode cX9_ends 7 = .ok (.aload_n 0, 1) := by decide +kernel
theorem dX9_ends_8 : decode cX9_ends 8 = .ok (.getfield 255, 3) := by decide +kernel
theorem dX9_ends_11 : decode cX9_ends 11 = .ok (.ifCond .le 20, 3) := by decide +kernel
theorem dX9_ends_14 : decode cX9_ends 14 = .ok (.aload_n 0, 1) := by decide +kernel
theorem dX9_ends_15 : decode cX9_ends 15 = .ok (.getfield 252, 3) := by decide +kernel
theorem dX9_ends_18 : decode cX9_ends 18 = .ok (.iconst 1, 1) := by decide +kernel
theorem dX9_ends_19 : decode cX9_ends 19 = .ok (.iadd, 1) := by decide +kernel
theorem dX9_ends_20 : decode cX9_ends 20 = .ok (.aload_n 0, 1) := by decide +kernel
theorem dX9_ends_21 : decode cX9_ends 21 = .ok (.invokevirtual 264, 3) := by decide +kernel
theorem dX9_ends_24 : decode cX9_ends 24 = .ok (.if_icmp .ne 7, 3) := by decide +kernel
theorem dX9_ends_27 : decode cX9_ends 27 = .ok (.iconst 1, 1) := by decide +kernel
theorem dX9_ends_28 : decode cX9_ends 28 = .ok (.goto 4, 3) := by decide +kernel
theorem dX9_ends_31 : decode cX9_ends 31 = .ok (.iconst 0, 1) := by decide +kernel
theorem dX9_ends_32 : decode cX9_ends 32 = .ok (.ireturn, 1) := by decide +kernel
theorem dX9_error_0 : decode cX9_error 0 = .ok (.aload_n 0, 1) := by decide +kernel
theorem dX9_error_1 : decode cX9_error 1 = .ok (.iconst 0, 1) := by decide +kernel
theorem dX9_error_2 : decode cX9_error 2 = .ok (.putfield 249, 3) := by decide +kernel
theorem dX9_error_5 : decode cX9_error 5 = .ok (.iconst 0, 1) := by decide +kernel
theorem dX9_error_6 : decode cX9_error 6 = .ok (.istore_n 1, 1) := by decide +kernel
theorem dX9_error_7 : decode cX9_error 7 = .ok (.iload_n 1, 1) := by decide +kernel
theorem dX9_error_8 : decode cX9_error 8 = .ok (.aload_n 0, 1) := by decide +kernel
theorem dX9_error_9 : decode cX9_error 9 = .ok (.getfield 246, 3) := by decide +kernel
theorem dX9_error_12 : decode cX9_error 12 = .ok (.if_icmp .ge 53, 3) := by decide +kernel
theorem dX9_error_15 : decode cX9_error 15 = .ok (.aload_n 0, 1) := by decide +kernel
theorem dX9_error_16 : decode cX9_error 16 = .ok (.aload_n 0, 1) := by decide +kernel
theorem dX9_error_17 : decode cX9_error 17 = .ok (.getfield 23, 3) := by decide +kernel
theorem dX9_error_20 : decode cX9_error 20 = .ok (.iload_n 1, 1) := by decide +kernel
theorem dX9_error_21 : decode cX9_error 21 = .ok (.iaload, 1) := by decide +kernel
theorem dX9_error_22 : decode cX9_error 22 = .ok (.invokevirtual 267, 3) := by decide +kernel
theorem dX9_error_25 : decode cX9_error 25 = .ok (.istore_n 2, 1) := by decide +kernel
theorem dX9_error_26 : decode cX9_error 26 = .ok (.iload_n 2, 1) := by decide +kernel
theorem dX9_error_27 : decode cX9_error 27 = .ok (.ifCond .le 9, 3) := by decide +kernel
theorem dX9_error_30 : decode cX9_error 30 = .ok (.iconst 4, 1) := by decide +kernel
theorem dX9_error_31 : decode cX9_error 31 = .ok (.iload_n 1, 1) := by decide +kernel
theorem dX9_error_32 : decode cX9_error 32 = .ok (.imul, 1) := by decide +kernel
theorem dX9_error_33 : decode cX9_error 33 = .ok (.iload_n 2, 1) := by decide +kernel
theorem dX9_error_34 : decode cX9_error 34 = .ok (.iadd, 1) := by decide +kernel
theorem dX9_error_35 : decode cX9_error 35 = .ok (.ireturn, 1) := by decide +kernel
theorem dX9_error_36 : decode cX9_error 36 = .ok (.aload_n 0, 1) := by decide +kernel
theorem dX9_error_37 : decode cX9_error 37 = .ok (.aload_n 0, 1) := by decide +kernel
theorem dX9_error_38 : decode cX9_error 38 = .ok (.getfield 23, 3) := by decide +kernel
theorem dX9_error_41 : decode cX9_error 41 = .ok (.iload_n 1, 1) := by decide +kernel
theorem dX9_error_42 : decode cX9_error 42 = .ok (.iaload, 1) := by decide +kernel
theorem dX9_error_43 : decode cX9_error 43 = .ok (.bipush 59, 2) := by decide +kernel
theorem dX9_error_45 : decode cX9_error 45 = .ok (.if_icmp .ne 7, 3) := by decide +kernel
theorem dX9_error_48 : decode cX9_error 48 = .ok (.iconst 0, 1) := by decide +kernel
theorem dX9_error_49 : decode cX9_error 49 = .ok (.goto 7, 3) := by decide +kernel
theorem dX9_error_52 : decode cX9_error 52 = .ok (.aload_n 0, 1) := by decide +kernel
theorem dX9_error_53 : decode cX9_error 53 = .ok (.getfield 249, 3) := by decide +kernel
theorem dX9_error_56 : decode cX9_error 56 = .ok (.putfield 249, 3) := by decide +kernel
theorem dX9_error_59 : decode cX9_error 59 = .ok (.iinc 1 1, 3) := by decide +kernel
theorem dX9_error_62 : decode cX9_error 62 = .ok (.goto (-55), 3) := by decide +kernel
theorem dX9_error_65 : decode cX9_error 65 = .ok (.aload_n 0, 1) := by decide +kernel
theorem dX9_error_66 : decode cX9_error 66 = .ok (.getfield 246, 3) := by decide +kernel
theorem dX9_error_69 : decode cX9_error 69 = .ok (.ifCond .eq 10, 3) := by decide +kernel
theorem dX9_error_72 : decode cX9_error 72 = .ok (.aload_n 0, 1) := by decide +kernel
theorem dX9_error_73 : decode cX9_error 73 = .ok (.invokevirtual 270, 3) := by decide +kernel
theorem dX9_error_76 : decode cX9_error 76 = .ok (.ifCond .eq 7, 3) := by decide +kernel
theorem dX9_error_79 : decode cX9_error 79 = .ok (.iconst (-1), 1) := by decide +kernel
theorem dX9_error_80 : decode cX9_error 80 = .ok (.goto 11, 3) := by decide +kernel
theorem dX9_error_83 : decode cX9_error 83 = .ok (.iconst 4, 1) := by decide +kernel
theorem dX9_error_84 : decode cX9_error 84 = .ok (.aload_n 0, 1) := by decide +kernel
theorem dX9_error_85 : decode cX9_error 85 = .ok (.getfield 246, 3) := by decide +kernel
theorem dX9_error_88 : decode cX9_error 88 = .ok (.imul, 1) := by decide +kernel
theorem dX9_error_89 : decode cX9_error 89 = .ok (.iconst 3, 1) := by decide +kernel
theorem dX9_error_90 : decode cX9_error 90 = .ok (.iadd, 1) := by decide +kernel
theorem dX9_error_91 : decode cX9_error 91 = .ok (.ireturn, 1) := by decide +kernel
theorem dX9_errorPosition_0 : decode cX9_errorPosition 0 = .ok (.aload_n 0, 1) := by decide +kernel
theorem dX9_errorPosition_1 : decode cX9_errorPosition 1 = .ok (.iconst 0, 1) := by decide +kernel
theorem dX9_errorPosition_2 : decode cX9_errorPosition 2 = .ok (.putfield 43, 3) := by decide +kernel
theorem dX9_errorPosition_5 : decode cX9_errorPosition 5 = .ok (.aload_n 0, 1) := by decide +kernel
theorem dX9_errorPosition_6 : decode cX9_errorPosition 6 = .ok (.invokevirtual 274, 3) := by decide +kernel
theorem dX9_errorPosition_9 : decode cX9_errorPosition 9 = .ok (.istore_n 1, 1) := by decide +kernel
theorem dX9_errorPosition_10 : decode cX9_errorPosition 10 = .ok (.iload_n 1, 1) := by decide +kernel
theorem dX9_errorPosition_11 : decode cX9_errorPosition 11 = .ok (.iconst (-1), 1) := by decide +kernel
theorem dX9_errorPosition_12 : decode cX9_errorPosition 12 = .ok (.if_icmp .ne 7, 3) := by decide +kernel
theorem dX9_errorPosition_15 : decode cX9_errorPosition 15 = .ok (.iconst (-1), 1) := by decide +kernel
theorem dX9_errorPosition_16 : decode cX9_errorPosition 16 = .ok (.goto 6, 3) := by decide +kernel
theorem dX9_errorPosition_19 : decode cX9_errorPosition 19 = .ok (.iload_n 1, 1) := by decide +kernel
theorem dX9_errorPosition_20 : decode cX9_errorPosition 20 = .ok (.iconst 4, 1) := by decide +kernel
theorem dX9_errorPosition_21 : decode cX9_errorPosition 21 = .ok (.idiv, 1) := by decide +kernel
theorem dX9_errorPosition_22 : decode cX9_errorPosition 22 = .ok (.ireturn, 1) := by decide +kernel
theorem dX9_errorKind_0 : decode cX9_errorKind 0 = .ok (.aload_n 0, 1) := by decide +kernel
theorem dX9_errorKind_1 : decode cX9_errorKind 1 = .ok (.iconst 0, 1) := by decide +kernel
theorem dX9_errorKind_2 : decode cX9_errorKind 2 = .ok (.putfield 43, 3) := by decide +kernel
theorem dX9_errorKind_5 : decode cX9_errorKind 5 = .ok (.aload_n 0, 1) := by decide +kernel
theorem dX9_errorKind_6 : decode cX9_errorKind 6 = .ok (.invokevirtual 274, 3) := by decide +kernel
theorem dX9_errorKind_9 : decode cX9_errorKind 9 = .ok (.istore_n 1, 1) := by decide +kernel
theorem dX9_errorKind_10 : decode cX9_errorKind 10 = .ok (.iload_n 1, 1) := by decide +kernel
theorem dX9_errorKind_11 : decode cX9_errorKind 11 = .ok (.iconst (-1), 1) := by decide +kernel
theorem dX9_errorKind_12 : decode cX9_errorKind 12 = .ok (.if_icmp .ne 7, 3) := by decide +kernel
theorem dX9_errorKind_15 : decode cX9_errorKind 15 = .ok (.iconst 0, 1) := by decide +kernel
theorem dX9_errorKind_16 : decode cX9_errorKind 16 = .ok (.goto 6, 3) := by decide +kernel
theorem dX9_errorKind_19 : decode cX9_errorKind 19 = .ok (.iload_n 1, 1) := by decide +kernel
theorem dX9_errorKind_20 : decode cX9_errorKind 20 = .ok (.iconst 4, 1) := by decide +kernel
theorem dX9_errorKind_21 : decode cX9_errorKind 21 = .ok (.irem, 1) := by decide +kernel
theorem dX9_errorKind_22 : decode cX9_errorKind 22 = .ok (.ireturn, 1) := by decide +kernel
theorem dX9_done_0 : decode cX9_done 0 = .ok (.aload_n 0, 1) := by decide +kernel
theorem dX9_done_1 : decode cX9_done 1 = .ok (.getfield 26, 3) := by decide +kernel
theorem dX9_done_4 : decode cX9_done 4 = .ok (.iconst 0, 1) := by decide +kernel
theorem dX9_done_5 : decode cX9_done 5 = .ok (.iaload, 1) := by decide +kernel
theorem dX9_done_6 : decode cX9_done 6 = .ok (.istore_n 1, 1) := by decide +kernel
theorem dX9_done_7 : decode cX9_done 7 = .ok (.aload_n 0, 1) := by decide +kernel
theorem dX9_done_8 : decode cX9_done 8 = .ok (.getfield 26, 3) := by decide +kernel
theorem dX9_done_11 : decode cX9_done 11 = .ok (.iconst 1, 1) := by decide +kernel
theorem dX9_done_12 : decode cX9_done 12 = .ok (.iaload, 1) := by decide +kernel
theorem dX9_done_13 : decode cX9_done 13 = .ok (.istore_n 2, 1) := by decide +kernel
theorem dX9_done_14 : decode cX9_done 14 = .ok (.aload_n 0, 1) := by decide +kernel
theorem dX9_done_15 : decode cX9_done 15 = .ok (.getfield 249, 3) := by decide +kernel
theorem dX9_done_18 : decode cX9_done 18 = .ok (.bipush 104, 2) := by decide +kernel
theorem dX9_done_20 : decode cX9_done 20 = .ok (.if_icmp .ne 11, 3) := by decide +kernel
theorem dX9_done_23 : decode cX9_done 23 = .ok (.aload_n 0, 1) := by decide +kernel
theorem dX9_done_24 : decode cX9_done 24 = .ok (.iload_n 1, 1) := by decide +kernel
theorem dX9_done_25 : decode cX9_done 25 = .ok (.invokevirtual 188, 3) := by decide +kernel
theorem dX9_done_28 : decode cX9_done 28 = .ok (.goto 69, 3) := by decide +kernel
theorem dX9_done_31 : decode cX9_done 31 = .ok (.aload_n 0, 1) := by decide +kernel
theorem dX9_done_32 : decode cX9_done 32 = .ok (.getfield 249, 3) := by decide +kernel
theorem dX9_done_35 : decode cX9_done 35 = .ok (.bipush 111, 2) := by decide +kernel
theorem dX9_done_37 : decode cX9_done 37 = .ok (.if_icmp .ne 18, 3) := by decide +kernel
theorem dX9_done_40 : decode cX9_done 40 = .ok (.aload_n 0, 1) := by decide +kernel
theorem dX9_done_41 : decode cX9_done 41 = .ok (.iload_n 1, 1) := by decide +kernel
theorem dX9_done_42 : decode cX9_done 42 = .ok (.iload_n 2, 1) := by decide +kernel
theorem dX9_done_43 : decode cX9_done 43 = .ok (.aload_n 0, 1) := by decide +kernel
theorem dX9_done_44 : decode cX9_done 44 = .ok (.getfield 26, 3) := by decide +kernel
theorem dX9_done_47 : decode cX9_done 47 = .ok (.iconst 2, 1) := by decide +kernel
theorem dX9_done_48 : decode cX9_done 48 = .ok (.iaload, 1) := by decide +kernel
theorem dX9_done_49 : decode cX9_done 49 = .ok (.invokevirtual 208, 3) := by decide +kernel
theorem dX9_done_52 : decode cX9_done 52 = .ok (.goto 45, 3) := by decide +kernel
theorem dX9_done_55 : decode cX9_done 55 = .ok (.aload_n 0, 1) := by decide +kernel
theorem dX9_done_56 : decode cX9_done 56 = .ok (.getfield 249, 3) := by decide +kernel
theorem dX9_done_59 : decode cX9_done 59 = .ok (.bipush 99, 2) := by decide +kernel
theorem dX9_done_61 : decode cX9_done 61 = .ok (.if_icmp .ne 12, 3) := by decide +kernel
theorem dX9_done_64 : decode cX9_done 64 = .ok (.aload_n 0, 1) := by decide +kernel
theorem dX9_done_65 : decode cX9_done 65 = .ok (.iload_n 1, 1) := by decide +kernel
theorem dX9_done_66 : decode cX9_done 66 = .ok (.iload_n 2, 1) := by decide +kernel
theorem dX9_done_67 : decode cX9_done 67 = .ok (.invokevirtual 201, 3) := by decide +kernel
theorem dX9_done_70 : decode cX9_done 70 = .ok (.goto 27, 3) := by decide +kernel
theorem dX9_done_73 : decode cX9_done 73 = .ok (.aload_n 0, 1) := by decide +kernel
theorem dX9_done_74 : decode cX9_done 74 = .ok (.getfield 249, 3) := by decide +kernel
theorem dX9_done_77 : decode cX9_done 77 = .ok (.bipush 112, 2) := by decide +kernel
theorem dX9_done_79 : decode cX9_done 79 = .ok (.if_icmp .ne 12, 3) := by decide +kernel
theorem dX9_done_82 : decode cX9_done 82 = .ok (.aload_n 0, 1) := by decide +kernel
theorem dX9_done_83 : decode cX9_done 83 = .ok (.iload_n 1, 1) := by decide +kernel
theorem dX9_done_84 : decode cX9_done 84 = .ok (.iload_n 2, 1) := by decide +kernel
theorem dX9_done_85 : decode cX9_done 85 = .ok (.invokevirtual 221, 3) := by decide +kernel
theorem dX9_done_88 : decode cX9_done 88 = .ok (.goto 9, 3) := by decide +kernel
theorem dX9_done_91 : decode cX9_done 91 = .ok (.aload_n 0, 1) := by decide +kernel
theorem dX9_done_92 : decode cX9_done 92 = .ok (.iload_n 1, 1) := by decide +kernel
theorem dX9_done_93 : decode cX9_done 93 = .ok (.iload_n 2, 1) := by decide +kernel
theorem dX9_done_94 : decode cX9_done 94 = .ok (.invokevirtual 92, 3) := by decide +kernel
theorem dX9_done_97 : decode cX9_done 97 = .ok (.istore_n 3, 1) := by decide +kernel
theorem dX9_done_98 : decode cX9_done 98 = .ok (.iload_n 3, 1) := by decide +kernel
theorem dX9_done_99 : decode cX9_done 99 = .ok (.ifCond .le 5, 3) := by decide +kernel
theorem dX9_done_102 : decode cX9_done 102 = .ok (.iconst 0, 1) := by decide +kernel
theorem dX9_done_103 : decode cX9_done 103 = .ok (.ireturn, 1) := by decide +kernel
theorem dX9_done_104 : decode cX9_done 104 = .ok (.aload_n 0, 1) := by decide +kernel
theorem dX9_done_105 : decode cX9_done 105 = .ok (.getfield 249, 3) := by decide +kernel
theorem dX9_done_108 : decode cX9_done 108 = .ok (.bipush 104, 2) := by decide +kernel
theorem dX9_done_110 : decode cX9_done 110 = .ok (.if_icmp .ne 13, 3) := by decide +kernel
theorem dX9_done_113 : decode cX9_done 113 = .ok (.aload_n 0, 1) := by decide +kernel
theorem dX9_done_114 : decode cX9_done 114 = .ok (.iload_n 1, 1) := by decide +kernel
theorem dX9_done_115 : decode cX9_done 115 = .ok (.invokevirtual 191, 3) := by decide +kernel
theorem dX9_done_118 : decode cX9_done 118 = .ok (.istore 4, 2) := by decide +kernel
theorem dX9_done_120 : decode cX9_done 120 = .ok (.goto 85, 3) := by decide +kernel
theorem dX9_done_123 : decode cX9_done 123 = .ok (.aload_n 0, 1) := by decide +kernel
theorem dX9_done_124 : decode cX9_done 124 = .ok (.getfield 249, 3) := by decide +kernel
theorem dX9_done_127 : decode cX9_done 127 = .ok (.bipush 111, 2) := by decide +kernel
theorem dX9_done_129 : decode cX9_done 129 = .ok (.if_icmp .ne 24, 3) := by decide +kernel
theorem dX9_done_132 : decode cX9_done 132 = .ok (.aload_n 0, 1) := by decide +kernel
theorem dX9_done_133 : decode cX9_done 133 = .ok (.iload_n 1, 1) := by decide +kernel
theorem dX9_done_134 : decode cX9_done 134 = .ok (.iload_n 2, 1) := by decide +kernel
theorem dX9_done_135 : decode cX9_done 135 = .ok (.aload_n 0, 1) := by decide +kernel
theorem dX9_done_136 : decode cX9_done 136 = .ok (.getfield 26, 3) := by decide +kernel
theorem dX9_done_139 : decode cX9_done 139 = .ok (.iconst 2, 1) := by decide +kernel
theorem dX9_done_140 : decode cX9_done 140 = .ok (.iaload, 1) := by decide +kernel
theorem dX9_done_141 : decode cX9_done 141 = .ok (.aload_n 0, 1) := by decide +kernel
theorem dX9_done_142 : decode cX9_done 142 = .ok (.getfield 258, 3) := by decide +kernel
theorem dX9_done_145 : decode cX9_done 145 = .ok (.invokevirtual 212, 3) := by decide +kernel
theorem dX9_done_148 : decode cX9_done 148 = .ok (.istore 4, 2) := by decide +kernel
theorem dX9_done_150 : decode cX9_done 150 = .ok (.goto 55, 3) := by decide +kernel
theorem dX9_done_153 : decode cX9_done 153 = .ok (.aload_n 0, 1) := by decide +kernel
theorem dX9_done_154 : decode cX9_done 154 = .ok (.getfield 249, 3) := by decide +kernel
theorem dX9_done_157 : decode cX9_done 157 = .ok (.bipush 99, 2) := by decide +kernel
theorem dX9_done_159 : decode cX9_done 159 = .ok (.if_icmp .ne 18, 3) := by decide +kernel
theorem dX9_done_162 : decode cX9_done 162 = .ok (.aload_n 0, 1) := by decide +kernel
theorem dX9_done_163 : decode cX9_done 163 = .ok (.getfield 7, 3) := by decide +kernel
theorem dX9_done_166 : decode cX9_done 166 = .ok (.sipush 507, 3) := by decide +kernel
theorem dX9_done_169 : decode cX9_done 169 = .ok (.iload_n 1, 1) := by decide +kernel
theorem dX9_done_170 : decode cX9_done 170 = .ok (.iadd, 1) := by decide +kernel
theorem dX9_done_171 : decode cX9_done 171 = .ok (.iload_n 2, 1) := by decide +kernel
theorem dX9_done_172 : decode cX9_done 172 = .ok (.i2l, 1) := by decide +kernel
theorem dX9_done_173 : decode cX9_done 173 = .ok (.lastore, 1) := by decide +kernel
theorem dX9_done_174 : decode cX9_done 174 = .ok (.goto 31, 3) := by decide +kernel
theorem dX9_done_177 : decode cX9_done 177 = .ok (.aload_n 0, 1) := by decide +kernel
theorem dX9_done_178 : decode cX9_done 178 = .ok (.getfield 249, 3) := by decide +kernel
theorem dX9_done_181 : decode cX9_done 181 = .ok (.bipush 112, 2) := by decide +kernel
theorem dX9_done_183 : decode cX9_done 183 = .ok (.if_icmp .ne 14, 3) := by decide +kernel
theorem dX9_done_186 : decode cX9_done 186 = .ok (.aload_n 0, 1) := by decide +kernel
theorem dX9_done_187 : decode cX9_done 187 = .ok (.iload_n 1, 1) := by decide +kernel
theorem dX9_done_188 : decode cX9_done 188 = .ok (.iload_n 2, 1) := by decide +kernel
theorem dX9_done_189 : decode cX9_done 189 = .ok (.invokevirtual 224, 3) := by decide +kernel
theorem dX9_done_192 : decode cX9_done 192 = .ok (.istore 4, 2) := by decide +kernel
theorem dX9_done_194 : decode cX9_done 194 = .ok (.goto 11, 3) := by decide +kernel
theorem dX9_done_197 : decode cX9_done 197 = .ok (.aload_n 0, 1) := by decide +kernel
theorem dX9_done_198 : decode cX9_done 198 = .ok (.iload_n 1, 1) := by decide +kernel
theorem dX9_done_199 : decode cX9_done 199 = .ok (.iload_n 2, 1) := by decide +kernel
theorem dX9_done_200 : decode cX9_done 200 = .ok (.invokevirtual 95, 3) := by decide +kernel
theorem dX9_done_203 : decode cX9_done 203 = .ok (.istore 4, 2) := by decide +kernel
theorem dX9_done_205 : decode cX9_done 205 = .ok (.iconst 1, 1) := by decide +kernel
theorem dX9_done_206 : decode cX9_done 206 = .ok (.ireturn, 1) := by decide +kernel
theorem dX9_execute_0 : decode cX9_execute 0 = .ok (.aload_n 0, 1) := by decide +kernel
theorem dX9_execute_1 : decode cX9_execute 1 = .ok (.iconst 0, 1) := by decide +kernel
theorem dX9_execute_2 : decode cX9_execute 2 = .ok (.putfield 43, 3) := by decide +kernel
theorem dX9_execute_5 : decode cX9_execute 5 = .ok (.aload_n 0, 1) := by decide +kernel
theorem dX9_execute_6 : decode cX9_execute 6 = .ok (.invokevirtual 274, 3) := by decide +kernel
theorem dX9_execute_9 : decode cX9_execute 9 = .ok (.iconst (-1), 1) := by decide +kernel
theorem dX9_execute_10 : decode cX9_execute 10 = .ok (.if_icmp .eq 9, 3) := by decide +kernel
theorem dX9_execute_13 : decode cX9_execute 13 = .ok (.aload_n 0, 1) := by decide +kernel
theorem dX9_execute_14 : decode cX9_execute 14 = .ok (.iconst 1, 1) := by decide +kernel
theorem dX9_execute_15 : decode cX9_execute 15 = .ok (.invokevirtual 60, 3) := by decide +kernel
theorem dX9_execute_18 : decode cX9_execute 18 = .ok (.ireturn, 1) := by decide +kernel
theorem dX9_execute_19 : decode cX9_execute 19 = .ok (.aload_n 0, 1) := by decide +kernel
theorem dX9_execute_20 : decode cX9_execute 20 = .ok (.invokevirtual 66, 3) := by decide +kernel
theorem dX9_execute_23 : decode cX9_execute 23 = .ok (.iconst 0, 1) := by decide +kernel
theorem dX9_execute_24 : decode cX9_execute 24 = .ok (.istore_n 1, 1) := by decide +kernel
theorem dX9_execute_25 : decode cX9_execute 25 = .ok (.aload_n 0, 1) := by decide +kernel
theorem dX9_execute_26 : decode cX9_execute 26 = .ok (.getfield 246, 3) := by decide +kernel
theorem dX9_execute_29 : decode cX9_execute 29 = .ok (.ifCond .le 7, 3) := by decide +kernel
theorem dX9_execute_32 : decode cX9_execute 32 = .ok (.iconst 1, 1) := by decide +kernel
theorem dX9_execute_33 : decode cX9_execute 33 = .ok (.goto 4, 3) := by decide +kernel
theorem dX9_execute_36 : decode cX9_execute 36 = .ok (.iconst 0, 1) := by decide +kernel
theorem dX9_execute_37 : decode cX9_execute 37 = .ok (.istore_n 2, 1) := by decide +kernel
theorem dX9_execute_38 : decode cX9_execute 38 = .ok (.aload_n 0, 1) := by decide +kernel
theorem dX9_execute_39 : decode cX9_execute 39 = .ok (.iconst 0, 1) := by decide +kernel
theorem dX9_execute_40 : decode cX9_execute 40 = .ok (.putfield 249, 3) := by decide +kernel
theorem dX9_execute_43 : decode cX9_execute 43 = .ok (.iconst 0, 1) := by decide +kernel
theorem dX9_execute_44 : decode cX9_execute 44 = .ok (.istore_n 3, 1) := by decide +kernel
theorem dX9_execute_45 : decode cX9_execute 45 = .ok (.iload_n 3, 1) := by decide +kernel
theorem dX9_execute_46 : decode cX9_execute 46 = .ok (.aload_n 0, 1) := by decide +kernel
theorem dX9_execute_47 : decode cX9_execute 47 = .ok (.getfield 246, 3) := by decide +kernel
theorem dX9_execute_50 : decode cX9_execute 50 = .ok (.if_icmp .ge 68, 3) := by decide +kernel
theorem dX9_execute_53 : decode cX9_execute 53 = .ok (.iload_n 2, 1) := by decide +kernel
theorem dX9_execute_54 : decode cX9_execute 54 = .ok (.ifCond .eq 64, 3) := by decide +kernel
theorem dX9_execute_57 : decode cX9_execute 57 = .ok (.aload_n 0, 1) := by decide +kernel
theorem dX9_execute_58 : decode cX9_execute 58 = .ok (.aload_n 0, 1) := by decide +kernel
theorem dX9_execute_59 : decode cX9_execute 59 = .ok (.getfield 23, 3) := by decide +kernel
theorem dX9_execute_62 : decode cX9_execute 62 = .ok (.iload_n 3, 1) := by decide +kernel
theorem dX9_execute_63 : decode cX9_execute 63 = .ok (.iaload, 1) := by decide +kernel
theorem dX9_execute_64 : decode cX9_execute 64 = .ok (.invokevirtual 267, 3) := by decide +kernel
theorem dX9_execute_67 : decode cX9_execute 67 = .ok (.istore 4, 2) := by decide +kernel
theorem dX9_execute_69 : decode cX9_execute 69 = .ok (.aload_n 0, 1) := by decide +kernel
theorem dX9_execute_70 : decode cX9_execute 70 = .ok (.getfield 23, 3) := by decide +kernel
theorem dX9_execute_73 : decode cX9_execute 73 = .ok (.iload_n 3, 1) := by decide +kernel
theorem dX9_execute_74 : decode cX9_execute 74 = .ok (.iaload, 1) := by decide +kernel
theorem dX9_execute_75 : decode cX9_execute 75 = .ok (.bipush 59, 2) := by decide +kernel
theorem dX9_execute_77 : decode cX9_execute 77 = .ok (.if_icmp .eq 13, 3) := by decide +kernel
theorem dX9_execute_80 : decode cX9_execute 80 = .ok (.iload_n 3, 1) := by decide +kernel
theorem dX9_execute_81 : decode cX9_execute 81 = .ok (.aload_n 0, 1) := by decide +kernel
theorem dX9_execute_82 : decode cX9_execute 82 = .ok (.getfield 246, 3) := by decide +kernel
theorem dX9_execute_85 : decode cX9_execute 85 = .ok (.iconst 1, 1) := by decide +kernel
theorem dX9_execute_86 : decode cX9_execute 86 = .ok (.isub, 1) := by decide +kernel
theorem dX9_execute_87 : decode cX9_execute 87 = .ok (.if_icmp .ne 25, 3) := by decide +kernel
theorem dX9_execute_90 : decode cX9_execute 90 = .ok (.aload_n 0, 1) := by decide +kernel
theorem dX9_execute_91 : decode cX9_execute 91 = .ok (.invokevirtual 277, 3) := by decide +kernel
theorem dX9_execute_94 : decode cX9_execute 94 = .ok (.istore_n 2, 1) := by decide +kernel
theorem dX9_execute_95 : decode cX9_execute 95 = .ok (.iload_n 1, 1) := by decide +kernel
theorem dX9_execute_96 : decode cX9_execute 96 = .ok (.iload_n 2, 1) := by decide +kernel
theorem dX9_execute_97 : decode cX9_execute 97 = .ok (.ifCond .eq 7, 3) := by decide +kernel
theorem dX9_execute_100 : decode cX9_execute 100 = .ok (.iconst 1, 1) := by decide +kernel
theorem dX9_execute_101 : decode cX9_execute 101 = .ok (.goto 4, 3) := by decide +kernel
theorem dX9_execute_104 : decode cX9_execute 104 = .ok (.iconst 0, 1) := by decide +kernel
theorem dX9_execute_105 : decode cX9_execute 105 = .ok (.iadd, 1) := by decide +kernel
theorem dX9_execute_106 : decode cX9_execute 106 = .ok (.istore_n 1, 1) := by decide +kernel
theorem dX9_execute_107 : decode cX9_execute 107 = .ok (.aload_n 0, 1) := by decide +kernel
theorem dX9_execute_108 : decode cX9_execute 108 = .ok (.iconst 0, 1) := by decide +kernel
theorem dX9_execute_109 : decode cX9_execute 109 = .ok (.putfield 249, 3) := by decide +kernel
theorem dX9_execute_112 : decode cX9_execute 112 = .ok (.iinc 3 1, 3) := by decide +kernel
theorem dX9_execute_115 : decode cX9_execute 115 = .ok (.goto (-70), 3) := by decide +kernel
theorem dX9_execute_118 : decode cX9_execute 118 = .ok (.aload_n 0, 1) := by decide +kernel
theorem dX9_execute_119 : decode cX9_execute 119 = .ok (.iconst 0, 1) := by decide +kernel
theorem dX9_execute_120 : decode cX9_execute 120 = .ok (.putfield 246, 3) := by decide +kernel
theorem dX9_execute_123 : decode cX9_execute 123 = .ok (.iload_n 1, 1) := by decide +kernel
theorem dX9_execute_124 : decode cX9_execute 124 = .ok (.ireturn, 1) := by decide +kernel
theorem dX9_undo_0 : decode cX9_undo 0 = .ok (.aload_n 0, 1) := by decide +kernel
theorem dX9_undo_1 : decode cX9_undo 1 = .ok (.iconst 0, 1) := by decide +kernel
theorem dX9_undo_2 : decode cX9_undo 2 = .ok (.putfield 43, 3) := by decide +kernel
theorem dX9_undo_5 : decode cX9_undo 5 = .ok (.aload_n 0, 1) := by decide +kernel
theorem dX9_undo_6 : decode cX9_undo 6 = .ok (.getfield 51, 3) := by decide +kernel
theorem dX9_undo_9 : decode cX9_undo 9 = .ok (.ifCond .ne 9, 3) := by decide +kernel
theorem dX9_undo_12 : decode cX9_undo 12 = .ok (.aload_n 0, 1) := by decide +kernel
theorem dX9_undo_13 : decode cX9_undo 13 = .ok (.iconst 1, 1) := by decide +kernel
theorem dX9_undo_14 : decode cX9_undo 14 = .ok (.invokevirtual 60, 3) := by decide +kernel
theorem dX9_undo_17 : decode cX9_undo 17 = .ok (.ireturn, 1) := by decide +kernel
theorem dX9_undo_18 : decode cX9_undo 18 = .ok (.aload_n 0, 1) := by decide +kernel
theorem dX9_undo_19 : decode cX9_undo 19 = .ok (.dup, 1) := by decide +kernel
theorem dX9_undo_20 : decode cX9_undo 20 = .ok (.getfield 51, 3) := by decide +kernel
theorem dX9_undo_23 : decode cX9_undo 23 = .ok (.iconst 1, 1) := by decide +kernel
theorem dX9_undo_24 : decode cX9_undo 24 = .ok (.isub, 1) := by decide +kernel
theorem dX9_undo_25 : decode cX9_undo 25 = .ok (.putfield 51, 3) := by decide +kernel
theorem dX9_undo_28 : decode cX9_undo 28 = .ok (.iconst 0, 1) := by decide +kernel
theorem dX9_undo_29 : decode cX9_undo 29 = .ok (.istore_n 1, 1) := by decide +kernel
theorem dX9_undo_30 : decode cX9_undo 30 = .ok (.iload_n 1, 1) := by decide +kernel
theorem dX9_undo_31 : decode cX9_undo 31 = .ok (.sipush 1888, 3) := by decide +kernel
theorem dX9_undo_34 : decode cX9_undo 34 = .ok (.if_icmp .ge 30, 3) := by decide +kernel
theorem dX9_undo_37 : decode cX9_undo 37 = .ok (.aload_n 0, 1) := by decide +kernel
theorem dX9_undo_38 : decode cX9_undo 38 = .ok (.getfield 7, 3) := by decide +kernel
theorem dX9_undo_41 : decode cX9_undo 41 = .ok (.iload_n 1, 1) := by decide +kernel
theorem dX9_undo_42 : decode cX9_undo 42 = .ok (.aload_n 0, 1) := by decide +kernel
theorem dX9_undo_43 : decode cX9_undo 43 = .ok (.getfield 13, 3) := by decide +kernel
theorem dX9_undo_46 : decode cX9_undo 46 = .ok (.aload_n 0, 1) := by decide +kernel
theorem dX9_undo_47 : decode cX9_undo 47 = .ok (.getfield 51, 3) := by decide +kernel
theorem dX9_undo_50 : decode cX9_undo 50 = .ok (.sipush 1888, 3) := by decide +kernel
theorem dX9_undo_53 : decode cX9_undo 53 = .ok (.imul, 1) := by decide +kernel
theorem dX9_undo_54 : decode cX9_undo 54 = .ok (.iload_n 1, 1) := by decide +kernel
theorem dX9_undo_55 : decode cX9_undo 55 = .ok (.iadd, 1) := by decide +kernel
theorem dX9_undo_56 : decode cX9_undo 56 = .ok (.laload, 1) := by decide +kernel
theorem dX9_undo_57 : decode cX9_undo 57 = .ok (.lastore, 1) := by decide +kernel
theorem dX9_undo_58 : decode cX9_undo 58 = .ok (.iinc 1 1, 3) := by decide +kernel
theorem dX9_undo_61 : decode cX9_undo 61 = .ok (.goto (-31), 3) := by decide +kernel
theorem dX9_undo_64 : decode cX9_undo 64 = .ok (.aload_n 0, 1) := by decide +kernel
theorem dX9_undo_65 : decode cX9_undo 65 = .ok (.getfield 51, 3) := by decide +kernel
theorem dX9_undo_68 : decode cX9_undo 68 = .ok (.ireturn, 1) := by decide +kernel
