theorem dX0_init_0 : decode cX0_init 0 = .ok (.aload_n 0, 1) := by decide +kernel
theorem dX0_init_1 : decode cX0_init 1 = .ok (.invokespecial 3, 3) := by decide +kernel
theorem dX0_init_4 : decode cX0_init 4 = .ok (.aload_n 0, 1) := by decide +kernel
theorem dX0_init_5 : decode cX0_init 5 = .ok (.bipush 16, 2) := by decide +kernel
theorem dX0_init_7 : decode cX0_init 7 = .ok (.newarray .int, 2) := by decide +kernel
theorem dX0_init_9 : decode cX0_init 9 = .ok (.putfield 11, 3) := by decide +kernel
theorem dX0_init_12 : decode cX0_init 12 = .ok (.aload_n 0, 1) := by decide +kernel
theorem dX0_init_13 : decode cX0_init 13 = .ok (.bipush 16, 2) := by decide +kernel
theorem dX0_init_15 : decode cX0_init 15 = .ok (.newarray .int, 2) := by decide +kernel
theorem dX0_init_17 : decode cX0_init 17 = .ok (.putfield 15, 3) := by decide +kernel
theorem dX0_init_20 : decode cX0_init 20 = .ok (.aload_n 0, 1) := by decide +kernel
theorem dX0_init_21 : decode cX0_init 21 = .ok (.bipush 16, 2) := by decide +kernel
theorem dX0_init_23 : decode cX0_init 23 = .ok (.newarray .long, 2) := by decide +kernel
theorem dX0_init_25 : decode cX0_init 25 = .ok (.putfield 18, 3) := by decide +kernel
theorem dX0_init_28 : decode cX0_init 28 = .ok (.aload_n 0, 1) := by decide +kernel
theorem dX0_init_29 : decode cX0_init 29 = .ok (.bipush 16, 2) := by decide +kernel
theorem dX0_init_31 : decode cX0_init 31 = .ok (.newarray .long, 2) := by decide +kernel
theorem dX0_init_33 : decode cX0_init 33 = .ok (.putfield 22, 3) := by decide +kernel
theorem dX0_init_36 : decode cX0_init 36 = .ok (.return_, 1) := by decide +kernel
theorem dX0_copyFrom_0 : decode cX0_copyFrom 0 = .ok (.aload_n 0, 1) := by decide +kernel
theorem dX0_copyFrom_1 : decode cX0_copyFrom 1 = .ok (.aload_n 1, 1) := by decide +kernel
theorem dX0_copyFrom_2 : decode cX0_copyFrom 2 = .ok (.getfield 25, 3) := by decide +kernel
theorem dX0_copyFrom_5 : decode cX0_copyFrom 5 = .ok (.putfield 25, 3) := by decide +kernel
theorem dX0_copyFrom_8 : decode cX0_copyFrom 8 = .ok (.aload_n 1, 1) := by decide +kernel
theorem dX0_copyFrom_9 : decode cX0_copyFrom 9 = .ok (.getfield 11, 3) := by decide +kernel
theorem dX0_copyFrom_12 : decode cX0_copyFrom 12 = .ok (.aload_n 0, 1) := by decide +kernel
theorem dX0_copyFrom_13 : decode cX0_copyFrom 13 = .ok (.getfield 11, 3) := by decide +kernel
theorem dX0_copyFrom_16 : decode cX0_copyFrom 16 = .ok (.invokestatic 29, 3) := by decide +kernel
theorem dX0_copyFrom_19 : decode cX0_copyFrom 19 = .ok (.aload_n 1, 1) := by decide +kernel
theorem dX0_copyFrom_20 : decode cX0_copyFrom 20 = .ok (.getfield 15, 3) := by decide +kernel
theorem dX0_copyFrom_23 : decode cX0_copyFrom 23 = .ok (.aload_n 0, 1) := by decide +kernel
theorem dX0_copyFrom_24 : decode cX0_copyFrom 24 = .ok (.getfield 15, 3) := by decide +kernel
theorem dX0_copyFrom_27 : decode cX0_copyFrom 27 = .ok (.invokestatic 29, 3) := by decide +kernel
theorem dX0_copyFrom_30 : decode cX0_copyFrom 30 = .ok (.aload_n 1, 1) := by decide +kernel
theorem dX0_copyFrom_31 : decode cX0_copyFrom 31 = .ok (.getfield 18, 3) := by decide +kernel
theorem dX0_copyFrom_34 : decode cX0_copyFrom 34 = .ok (.aload_n 0, 1) := by decide +kernel
theorem dX0_copyFrom_35 : decode cX0_copyFrom 35 = .ok (.getfield 18, 3) := by decide +kernel
theorem dX0_copyFrom_38 : decode cX0_copyFrom 38 = .ok (.invokestatic 33, 3) := by decide +kernel
theorem dX0_copyFrom_41 : decode cX0_copyFrom 41 = .ok (.aload_n 1, 1) := by decide +kernel
theorem dX0_copyFrom_42 : decode cX0_copyFrom 42 = .ok (.getfield 22, 3) := by decide +kernel
theorem dX0_copyFrom_45 : decode cX0_copyFrom 45 = .ok (.aload_n 0, 1) := by decide +kernel
theorem dX0_copyFrom_46 : decode cX0_copyFrom 46 = .ok (.getfield 22, 3) := by decide +kernel
theorem dX0_copyFrom_49 : decode cX0_copyFrom 49 = .ok (.invokestatic 33, 3) := by decide +kernel
theorem dX0_copyFrom_52 : decode cX0_copyFrom 52 = .ok (.return_, 1) := by decide +kernel
theorem dX0_find_0 : decode cX0_find 0 = .ok (.iconst 0, 1) := by decide +kernel
theorem dX0_find_1 : decode cX0_find 1 = .ok (.istore_n 3, 1) := by decide +kernel
theorem dX0_find_2 : decode cX0_find 2 = .ok (.iload_n 3, 1) := by decide +kernel
theorem dX0_find_3 : decode cX0_find 3 = .ok (.aload_n 0, 1) := by decide +kernel
theorem dX0_find_4 : decode cX0_find 4 = .ok (.getfield 25, 3) := by decide +kernel
theorem dX0_find_7 : decode cX0_find 7 = .ok (.if_icmp .ge 31, 3) := by decide +kernel
theorem dX0_find_10 : decode cX0_find 10 = .ok (.aload_n 0, 1) := by decide +kernel
theorem dX0_find_11 : decode cX0_find 11 = .ok (.getfield 11, 3) := by decide +kernel
theorem dX0_find_14 : decode cX0_find 14 = .ok (.iload_n 3, 1) := by decide +kernel
theorem dX0_find_15 : decode cX0_find 15 = .ok (.iaload, 1) := by decide +kernel
theorem dX0_find_16 : decode cX0_find 16 = .ok (.iload_n 1, 1) := by decide +kernel
theorem dX0_find_17 : decode cX0_find 17 = .ok (.if_icmp .ne 15, 3) := by decide +kernel
theorem dX0_find_20 : decode cX0_find 20 = .ok (.aload_n 0, 1) := by decide +kernel
theorem dX0_find_21 : decode cX0_find 21 = .ok (.getfield 15, 3) := by decide +kernel
theorem dX0_find_24 : decode cX0_find 24 = .ok (.iload_n 3, 1) := by decide +kernel
theorem dX0_find_25 : decode cX0_find 25 = .ok (.iaload, 1) := by decide +kernel
theorem dX0_find_26 : decode cX0_find 26 = .ok (.iload_n 2, 1) := by decide +kernel
theorem dX0_find_27 : decode cX0_find 27 = .ok (.if_icmp .ne 5, 3) := by decide +kernel
theorem dX0_find_30 : decode cX0_find 30 = .ok (.iload_n 3, 1) := by decide +kernel
theorem dX0_find_31 : decode cX0_find 31 = .ok (.ireturn, 1) := by decide +kernel
theorem dX0_find_32 : decode cX0_find 32 = .ok (.iinc 3 1, 3) := by decide +kernel
theorem dX0_find_35 : decode cX0_find 35 = .ok (.goto (-33), 3) := by decide +kernel
theorem dX0_find_38 : decode cX0_find 38 = .ok (.iconst (-1), 1) := by decide +kernel
theorem dX0_find_39 : decode cX0_find 39 = .ok (.ireturn, 1) := by decide +kernel
theorem dX0_enter_0 : decode cX0_enter 0 = .ok (.aload_n 0, 1) := by decide +kernel
theorem dX0_enter_1 : decode cX0_enter 1 = .ok (.iload_n 1, 1) := by decide +kernel
theorem dX0_enter_2 : decode cX0_enter 2 = .ok (.iload_n 2, 1) := by decide +kernel
theorem dX0_enter_3 : decode cX0_enter 3 = .ok (.invokevirtual 37, 3) := by decide +kernel
theorem dX0_enter_6 : decode cX0_enter 6 = .ok (.istore 5, 2) := by decide +kernel
theorem dX0_enter_8 : decode cX0_enter 8 = .ok (.iload 5, 2) := by decide +kernel
theorem dX0_enter_10 : decode cX0_enter 10 = .ok (.iconst (-1), 1) := by decide +kernel
theorem dX0_enter_11 : decode cX0_enter 11 = .ok (.if_icmp .ne 60, 3) := by decide +kernel
theorem dX0_enter_14 : decode cX0_enter 14 = .ok (.aload_n 0, 1) := by decide +kernel
theorem dX0_enter_15 : decode cX0_enter 15 = .ok (.getfield 25, 3) := by decide +kernel
theorem dX0_enter_18 : decode cX0_enter 18 = .ok (.bipush 16, 2) := by decide +kernel
theorem dX0_enter_20 : decode cX0_enter 20 = .ok (.if_icmp .ge 51, 3) := by decide +kernel
theorem dX0_enter_23 : decode cX0_enter 23 = .ok (.aload_n 0, 1) := by decide +kernel
theorem dX0_enter_24 : decode cX0_enter 24 = .ok (.getfield 25, 3) := by decide +kernel
theorem dX0_enter_27 : decode cX0_enter 27 = .ok (.istore 5, 2) := by decide +kernel
theorem dX0_enter_29 : decode cX0_enter 29 = .ok (.aload_n 0, 1) := by decide +kernel
theorem dX0_enter_30 : decode cX0_enter 30 = .ok (.getfield 11, 3) := by decide +kernel
theorem dX0_enter_33 : decode cX0_enter 33 = .ok (.iload 5, 2) := by decide +kernel
theorem dX0_enter_35 : decode cX0_enter 35 = .ok (.iload_n 1, 1) := by decide +kernel
theorem dX0_enter_36 : decode cX0_enter 36 = .ok (.iastore, 1) := by decide +kernel
theorem dX0_enter_37 : decode cX0_enter 37 = .ok (.aload_n 0, 1) := by decide +kernel
theorem dX0_enter_38 : decode cX0_enter 38 = .ok (.getfield 15, 3) := by decide +kernel
theorem dX0_enter_41 : decode cX0_enter 41 = .ok (.iload 5, 2) := by decide +kernel
theorem dX0_enter_43 : decode cX0_enter 43 = .ok (.iload_n 2, 1) := by decide +kernel
theorem dX0_enter_44 : decode cX0_enter 44 = .ok (.iastore, 1) := by decide +kernel
theorem dX0_enter_45 : decode cX0_enter 45 = .ok (.aload_n 0, 1) := by decide +kernel
theorem dX0_enter_46 : decode cX0_enter 46 = .ok (.getfield 18, 3) := by decide +kernel
theorem dX0_enter_49 : decode cX0_enter 49 = .ok (.iload 5, 2) := by decide +kernel
theorem dX0_enter_51 : decode cX0_enter 51 = .ok (.lconst 0, 1) := by decide +kernel
theorem dX0_enter_52 : decode cX0_enter 52 = .ok (.lastore, 1) := by decide +kernel
theorem dX0_enter_53 : decode cX0_enter 53 = .ok (.aload_n 0, 1) := by decide +kernel
theorem dX0_enter_54 : decode cX0_enter 54 = .ok (.getfield 22, 3) := by decide +kernel
theorem dX0_enter_57 : decode cX0_enter 57 = .ok (.iload 5, 2) := by decide +kernel
theorem dX0_enter_59 : decode cX0_enter 59 = .ok (.lconst 0, 1) := by decide +kernel
theorem dX0_enter_60 : decode cX0_enter 60 = .ok (.lastore, 1) := by decide +kernel
theorem dX0_enter_61 : decode cX0_enter 61 = .ok (.aload_n 0, 1) := by decide +kernel
theorem dX0_enter_62 : decode cX0_enter 62 = .ok (.dup, 1) := by decide +kernel
theorem dX0_enter_63 : decode cX0_enter 63 = .ok (.getfield 25, 3) := by decide +kernel
theorem dX0_enter_66 : decode cX0_enter 66 = .ok (.iconst 1, 1) := by decide +kernel
theorem dX0_enter_67 : decode cX0_enter 67 = .ok (.iadd, 1) := by decide +kernel
theorem dX0_enter_68 : decode cX0_enter 68 = .ok (.putfield 25, 3) := by decide +kernel
theorem dX0_enter_71 : decode cX0_enter 71 = .ok (.iload 5, 2) := by decide +kernel
theorem dX0_enter_73 : decode cX0_enter 73 = .ok (.iconst (-1), 1) := by decide +kernel
theorem dX0_enter_74 : decode cX0_enter 74 = .ok (.if_icmp .eq 28, 3) := by decide +kernel
theorem dX0_enter_77 : decode cX0_enter 77 = .ok (.aload_n 0, 1) := by decide +kernel
theorem dX0_enter_78 : decode cX0_enter 78 = .ok (.getfield 18, 3) := by decide +kernel
theorem dX0_enter_81 : decode cX0_enter 81 = .ok (.iload 5, 2) := by decide +kernel
theorem dX0_enter_83 : decode cX0_enter 83 = .ok (.dup2, 1) := by decide +kernel
theorem dX0_enter_84 : decode cX0_enter 84 = .ok (.laload, 1) := by decide +kernel
theorem dX0_enter_85 : decode cX0_enter 85 = .ok (.iload_n 3, 1) := by decide +kernel
theorem dX0_enter_86 : decode cX0_enter 86 = .ok (.i2l, 1) := by decide +kernel
theorem dX0_enter_87 : decode cX0_enter 87 = .ok (.ladd, 1) := by decide +kernel
theorem dX0_enter_88 : decode cX0_enter 88 = .ok (.lastore, 1) := by decide +kernel
theorem dX0_enter_89 : decode cX0_enter 89 = .ok (.aload_n 0, 1) := by decide +kernel
theorem dX0_enter_90 : decode cX0_enter 90 = .ok (.getfield 22, 3) := by decide +kernel
theorem dX0_enter_93 : decode cX0_enter 93 = .ok (.iload 5, 2) := by decide +kernel
theorem dX0_enter_95 : decode cX0_enter 95 = .ok (.dup2, 1) := by decide +kernel
theorem dX0_enter_96 : decode cX0_enter 96 = .ok (.laload, 1) := by decide +kernel
theorem dX0_enter_97 : decode cX0_enter 97 = .ok (.iload 4, 2) := by decide +kernel
theorem dX0_enter_99 : decode cX0_enter 99 = .ok (.i2l, 1) := by decide +kernel
theorem dX0_enter_100 : decode cX0_enter 100 = .ok (.ladd, 1) := by decide +kernel
theorem dX0_enter_101 : decode cX0_enter 101 = .ok (.lastore, 1) := by decide +kernel
theorem dX0_enter_102 : decode cX0_enter 102 = .ok (.return_, 1) := by decide +kernel
theorem dX0_property_0 : decode cX0_property 0 = .ok (.iload_n 1, 1) := by decide +kernel
theorem dX0_property_1 : decode cX0_property 1 = .ok (.ifCond .lt 11, 3) := by decide +kernel
theorem dX0_property_4 : decode cX0_property 4 = .ok (.iload_n 1, 1) := by decide +kernel
theorem dX0_property_5 : decode cX0_property 5 = .ok (.aload_n 0, 1) := by decide +kernel
theorem dX0_property_6 : decode cX0_property 6 = .ok (.getfield 25, 3) := by decide +kernel
theorem dX0_property_9 : decode cX0_property 9 = .ok (.if_icmp .lt 7, 3) := by decide +kernel
theorem dX0_property_12 : decode cX0_property 12 = .ok (.ldc2_w 41, 3) := by decide +kernel
theorem dX0_property_15 : decode cX0_property 15 = .ok (.lreturn, 1) := by decide +kernel
theorem dX0_property_16 : decode cX0_property 16 = .ok (.iload_n 2, 1) := by decide +kernel
theorem dX0_property_17 : decode cX0_property 17 = .ok (.tableswitch 50 0 2 #[27, 35, 43], 27) := by decide +kernel
theorem dX0_property_44 : decode cX0_property 44 = .ok (.aload_n 0, 1) := by decide +kernel
theorem dX0_property_45 : decode cX0_property 45 = .ok (.getfield 11, 3) := by decide +kernel
theorem dX0_property_48 : decode cX0_property 48 = .ok (.iload_n 1, 1) := by decide +kernel
theorem dX0_property_49 : decode cX0_property 49 = .ok (.iaload, 1) := by decide +kernel
theorem dX0_property_50 : decode cX0_property 50 = .ok (.i2l, 1) := by decide +kernel
theorem dX0_property_51 : decode cX0_property 51 = .ok (.lreturn, 1) := by decide +kernel
theorem dX0_property_52 : decode cX0_property 52 = .ok (.aload_n 0, 1) := by decide +kernel
theorem dX0_property_53 : decode cX0_property 53 = .ok (.getfield 15, 3) := by decide +kernel
theorem dX0_property_56 : decode cX0_property 56 = .ok (.iload_n 1, 1) := by decide +kernel
theorem dX0_property_57 : decode cX0_property 57 = .ok (.iaload, 1) := by decide +kernel
theorem dX0_property_58 : decode cX0_property 58 = .ok (.i2l, 1) := by decide +kernel
theorem dX0_property_59 : decode cX0_property 59 = .ok (.lreturn, 1) := by decide +kernel
theorem dX0_property_60 : decode cX0_property 60 = .ok (.aload_n 0, 1) := by decide +kernel
theorem dX0_property_61 : decode cX0_property 61 = .ok (.getfield 18, 3) := by decide +kernel
theorem dX0_property_64 : decode cX0_property 64 = .ok (.iload_n 1, 1) := by decide +kernel
theorem dX0_property_65 : decode cX0_property 65 = .ok (.laload, 1) := by decide +kernel
theorem dX0_property_66 : decode cX0_property 66 = .ok (.lreturn, 1) := by decide +kernel
theorem dX0_property_67 : decode cX0_property 67 = .ok (.aload_n 0, 1) := by decide +kernel
theorem dX0_property_68 : decode cX0_property 68 = .ok (.getfield 22, 3) := by decide +kernel
theorem dX0_property_71 : decode cX0_property 71 = .ok (.iload_n 1, 1) := by decide +kernel
theorem dX0_property_72 : decode cX0_property 72 = .ok (.laload, 1) := by decide +kernel
theorem dX0_property_73 : decode cX0_property 73 = .ok (.lreturn, 1) := by decide +kernel
theorem dX1_init_0 : decode cX1_init 0 = .ok (.aload_n 0, 1) := by decide +kernel
theorem dX1_init_1 : decode cX1_init 1 = .ok (.invokespecial 3, 3) := by decide +kernel
theorem dX1_init_4 : decode cX1_init 4 = .ok (.aload_n 0, 1) := by decide +kernel
theorem dX1_init_5 : decode cX1_init 5 = .ok (.bipush 8, 2) := by decide +kernel
theorem dX1_init_7 : decode cX1_init 7 = .ok (.newarray .int, 2) := by decide +kernel
theorem dX1_init_9 : decode cX1_init 9 = .ok (.putfield 11, 3) := by decide +kernel
theorem dX1_init_12 : decode cX1_init 12 = .ok (.aload_n 0, 1) := by decide +kernel
theorem dX1_init_13 : decode cX1_init 13 = .ok (.bipush 8, 2) := by decide +kernel
theorem dX1_init_15 : decode cX1_init 15 = .ok (.newarray .int, 2) := by decide +kernel
theorem dX1_init_17 : decode cX1_init 17 = .ok (.putfield 15, 3) := by decide +kernel
theorem dX1_init_20 : decode cX1_init 20 = .ok (.aload_n 0, 1) := by decide +kernel
theorem dX1_init_21 : decode cX1_init 21 = .ok (.bipush 8, 2) := by decide +kernel
theorem dX1_init_23 : decode cX1_init 23 = .ok (.newarray .int, 2) := by decide +kernel
theorem dX1_init_25 : decode cX1_init 25 = .ok (.putfield 18, 3) := by decide +kernel
theorem dX1_init_28 : decode cX1_init 28 = .ok (.return_, 1) := by decide +kernel
theorem dX1_copyFrom_0 : decode cX1_copyFrom 0 = .ok (.aload_n 0, 1) := by decide +kernel
theorem dX1_copyFrom_1 : decode cX1_copyFrom 1 = .ok (.aload_n 1, 1) := by decide +kernel
theorem dX1_copyFrom_2 : decode cX1_copyFrom 2 = .ok (.getfield 21, 3) := by decide +kernel
theorem dX1_copyFrom_5 : decode cX1_copyFrom 5 = .ok (.putfield 21, 3) := by decide +kernel
theorem dX1_copyFrom_8 : decode cX1_copyFrom 8 = .ok (.aload_n 1, 1) := by decide +kernel
theorem dX1_copyFrom_9 : decode cX1_copyFrom 9 = .ok (.getfield 11, 3) := by decide +kernel
theorem dX1_copyFrom_12 : decode cX1_copyFrom 12 = .ok (.aload_n 0, 1) := by decide +kernel
theorem dX1_copyFrom_13 : decode cX1_copyFrom 13 = .ok (.getfield 11, 3) := by decide +kernel
theorem dX1_copyFrom_16 : decode cX1_copyFrom 16 = .ok (.invokestatic 25, 3) := by decide +kernel
theorem dX1_copyFrom_19 : decode cX1_copyFrom 19 = .ok (.aload_n 1, 1) := by decide +kernel
theorem dX1_copyFrom_20 : decode cX1_copyFrom 20 = .ok (.getfield 15, 3) := by decide +kernel
theorem dX1_copyFrom_23 : decode cX1_copyFrom 23 = .ok (.aload_n 0, 1) := by decide +kernel
theorem dX1_copyFrom_24 : decode cX1_copyFrom 24 = .ok (.getfield 15, 3) := by decide +kernel
theorem dX1_copyFrom_27 : decode cX1_copyFrom 27 = .ok (.invokestatic 25, 3) := by decide +kernel
theorem dX1_copyFrom_30 : decode cX1_copyFrom 30 = .ok (.aload_n 1, 1) := by decide +kernel
theorem dX1_copyFrom_31 : decode cX1_copyFrom 31 = .ok (.getfield 18, 3) := by decide +kernel
theorem dX1_copyFrom_34 : decode cX1_copyFrom 34 = .ok (.aload_n 0, 1) := by decide +kernel
theorem dX1_copyFrom_35 : decode cX1_copyFrom 35 = .ok (.getfield 18, 3) := by decide +kernel
theorem dX1_copyFrom_38 : decode cX1_copyFrom 38 = .ok (.invokestatic 25, 3) := by decide +kernel
theorem dX1_copyFrom_41 : decode cX1_copyFrom 41 = .ok (.return_, 1) := by decide +kernel
theorem dX1_has_0 : decode cX1_has 0 = .ok (.iload_n 1, 1) := by decide +kernel
theorem dX1_has_1 : decode cX1_has 1 = .ok (.ifCond .lt 15, 3) := by decide +kernel
theorem dX1_has_4 : decode cX1_has 4 = .ok (.iload_n 1, 1) := by decide +kernel
theorem dX1_has_5 : decode cX1_has 5 = .ok (.aload_n 0, 1) := by decide +kernel
theorem dX1_has_6 : decode cX1_has 6 = .ok (.getfield 21, 3) := by decide +kernel
theorem dX1_has_9 : decode cX1_has 9 = .ok (.if_icmp .ge 7, 3) := by decide +kernel
theorem dX1_has_12 : decode cX1_has 12 = .ok (.iconst 1, 1) := by decide +kernel
theorem dX1_has_13 : decode cX1_has 13 = .ok (.goto 4, 3) := by decide +kernel
theorem dX1_has_16 : decode cX1_has 16 = .ok (.iconst 0, 1) := by decide +kernel
theorem dX1_has_17 : decode cX1_has 17 = .ok (.ireturn, 1) := by decide +kernel
theorem dX1_addOne_0 : decode cX1_addOne 0 = .ok (.aload_n 0, 1) := by decide +kernel
theorem dX1_addOne_1 : decode cX1_addOne 1 = .ok (.getfield 21, 3) := by decide +kernel
theorem dX1_addOne_4 : decode cX1_addOne 4 = .ok (.bipush 8, 2) := by decide +kernel
theorem dX1_addOne_6 : decode cX1_addOne 6 = .ok (.if_icmp .lt 5, 3) := by decide +kernel
theorem dX1_addOne_9 : decode cX1_addOne 9 = .ok (.iconst (-1), 1) := by decide +kernel
theorem dX1_addOne_10 : decode cX1_addOne 10 = .ok (.ireturn, 1) := by decide +kernel
theorem dX1_addOne_11 : decode cX1_addOne 11 = .ok (.aload_n 0, 1) := by decide +kernel
theorem dX1_addOne_12 : decode cX1_addOne 12 = .ok (.getfield 11, 3) := by decide +kernel
theorem dX1_addOne_15 : decode cX1_addOne 15 = .ok (.aload_n 0, 1) := by decide +kernel
theorem dX1_addOne_16 : decode cX1_addOne 16 = .ok (.getfield 21, 3) := by decide +kernel
theorem dX1_addOne_19 : decode cX1_addOne 19 = .ok (.iload_n 1, 1) := by decide +kernel
theorem dX1_addOne_20 : decode cX1_addOne 20 = .ok (.iastore, 1) := by decide +kernel
theorem dX1_addOne_21 : decode cX1_addOne 21 = .ok (.aload_n 0, 1) := by decide +kernel
theorem dX1_addOne_22 : decode cX1_addOne 22 = .ok (.getfield 15, 3) := by decide +kernel
theorem dX1_addOne_25 : decode cX1_addOne 25 = .ok (.aload_n 0, 1) := by decide +kernel
theorem dX1_addOne_26 : decode cX1_addOne 26 = .ok (.getfield 21, 3) := by decide +kernel
theorem dX1_addOne_29 : decode cX1_addOne 29 = .ok (.iconst 0, 1) := by decide +kernel
theorem dX1_addOne_30 : decode cX1_addOne 30 = .ok (.iastore, 1) := by decide +kernel
theorem dX1_addOne_31 : decode cX1_addOne 31 = .ok (.aload_n 0, 1) := by decide +kernel
theorem dX1_addOne_32 : decode cX1_addOne 32 = .ok (.getfield 18, 3) := by decide +kernel
theorem dX1_addOne_35 : decode cX1_addOne 35 = .ok (.aload_n 0, 1) := by decide +kernel
theorem dX1_addOne_36 : decode cX1_addOne 36 = .ok (.getfield 21, 3) := by decide +kernel
theorem dX1_addOne_39 : decode cX1_addOne 39 = .ok (.iconst 0, 1) := by decide +kernel
theorem dX1_addOne_40 : decode cX1_addOne 40 = .ok (.iastore, 1) := by decide +kernel
theorem dX1_addOne_41 : decode cX1_addOne 41 = .ok (.aload_n 0, 1) := by decide +kernel
theorem dX1_addOne_42 : decode cX1_addOne 42 = .ok (.dup, 1) := by decide +kernel
theorem dX1_addOne_43 : decode cX1_addOne 43 = .ok (.getfield 21, 3) := by decide +kernel
theorem dX1_addOne_46 : decode cX1_addOne 46 = .ok (.iconst 1, 1) := by decide +kernel
theorem dX1_addOne_47 : decode cX1_addOne 47 = .ok (.iadd, 1) := by decide +kernel
theorem dX1_addOne_48 : decode cX1_addOne 48 = .ok (.putfield 21, 3) := by decide +kernel
theorem dX1_addOne_51 : decode cX1_addOne 51 = .ok (.aload_n 0, 1) := by decide +kernel
theorem dX1_addOne_52 : decode cX1_addOne 52 = .ok (.getfield 21, 3) := by decide +kernel
theorem dX1_addOne_55 : decode cX1_addOne 55 = .ok (.iconst 1, 1) := by decide +kernel
theorem dX1_addOne_56 : decode cX1_addOne 56 = .ok (.isub, 1) := by decide +kernel
theorem dX1_addOne_57 : decode cX1_addOne 57 = .ok (.ireturn, 1) := by decide +kernel
theorem dX1_charge_0 : decode cX1_charge 0 = .ok (.aload_n 0, 1) := by decide +kernel
theorem dX1_charge_1 : decode cX1_charge 1 = .ok (.iload_n 1, 1) := by decide +kernel
theorem dX1_charge_2 : decode cX1_charge 2 = .ok (.invokevirtual 29, 3) := by decide +kernel
theorem dX1_charge_5 : decode cX1_charge 5 = .ok (.ifCond .eq 23, 3) := by decide +kernel
theorem dX1_charge_8 : decode cX1_charge 8 = .ok (.aload_n 0, 1) := by decide +kernel
theorem dX1_charge_9 : decode cX1_charge 9 = .ok (.getfield 18, 3) := by decide +kernel
theorem dX1_charge_12 : decode cX1_charge 12 = .ok (.iload_n 1, 1) := by decide +kernel
theorem dX1_charge_13 : decode cX1_charge 13 = .ok (.dup2, 1) := by decide +kernel
theorem dX1_charge_14 : decode cX1_charge 14 = .ok (.iaload, 1) := by decide +kernel
theorem dX1_charge_15 : decode cX1_charge 15 = .ok (.iload_n 2, 1) := by decide +kernel
theorem dX1_charge_16 : decode cX1_charge 16 = .ok (.iadd, 1) := by decide +kernel
theorem dX1_charge_17 : decode cX1_charge 17 = .ok (.iastore, 1) := by decide +kernel
theorem dX1_charge_18 : decode cX1_charge 18 = .ok (.aload_n 0, 1) := by decide +kernel
theorem dX1_charge_19 : decode cX1_charge 19 = .ok (.getfield 15, 3) := by decide +kernel
theorem dX1_charge_22 : decode cX1_charge 22 = .ok (.iload_n 1, 1) := by decide +kernel
theorem dX1_charge_23 : decode cX1_charge 23 = .ok (.dup2, 1) := by decide +kernel
theorem dX1_charge_24 : decode cX1_charge 24 = .ok (.iaload, 1) := by decide +kernel
theorem dX1_charge_25 : decode cX1_charge 25 = .ok (.iload_n 3, 1) := by decide +kernel
theorem dX1_charge_26 : decode cX1_charge 26 = .ok (.iadd, 1) := by decide +kernel
theorem dX1_charge_27 : decode cX1_charge 27 = .ok (.iastore, 1) := by decide +kernel
theorem dX1_charge_28 : decode cX1_charge 28 = .ok (.return_, 1) := by decide +kernel
theorem dX1_reduceDebt_0 : decode cX1_reduceDebt 0 = .ok (.aload_n 0, 1) := by decide +kernel
theorem dX1_reduceDebt_1 : decode cX1_reduceDebt 1 = .ok (.iload_n 1, 1) := by decide +kernel
theorem dX1_reduceDebt_2 : decode cX1_reduceDebt 2 = .ok (.invokevirtual 29, 3) := by decide +kernel
theorem dX1_reduceDebt_5 : decode cX1_reduceDebt 5 = .ok (.ifCond .ne 5, 3) := by decide +kernel
theorem dX1_reduceDebt_8 : decode cX1_reduceDebt 8 = .ok (.iconst (-1), 1) := by decide +kernel
theorem dX1_reduceDebt_9 : decode cX1_reduceDebt 9 = .ok (.ireturn, 1) := by decide +kernel
theorem dX1_reduceDebt_10 : decode cX1_reduceDebt 10 = .ok (.aload_n 0, 1) := by decide +kernel
theorem dX1_reduceDebt_11 : decode cX1_reduceDebt 11 = .ok (.getfield 15, 3) := by decide +kernel
theorem dX1_reduceDebt_14 : decode cX1_reduceDebt 14 = .ok (.iload_n 1, 1) := by decide +kernel
theorem dX1_reduceDebt_15 : decode cX1_reduceDebt 15 = .ok (.dup2, 1) := by decide +kernel
theorem dX1_reduceDebt_16 : decode cX1_reduceDebt 16 = .ok (.iaload, 1) := by decide +kernel
theorem dX1_reduceDebt_17 : decode cX1_reduceDebt 17 = .ok (.iload_n 2, 1) := by decide +kernel
theorem dX1_reduceDebt_18 : decode cX1_reduceDebt 18 = .ok (.isub, 1) := by decide +kernel
theorem dX1_reduceDebt_19 : decode cX1_reduceDebt 19 = .ok (.iastore, 1) := by decide +kernel
theorem dX1_reduceDebt_20 : decode cX1_reduceDebt 20 = .ok (.aload_n 0, 1) := by decide +kernel
theorem dX1_reduceDebt_21 : decode cX1_reduceDebt 21 = .ok (.getfield 15, 3) := by decide +kernel
theorem dX1_reduceDebt_24 : decode cX1_reduceDebt 24 = .ok (.iload_n 1, 1) := by decide +kernel
theorem dX1_reduceDebt_25 : decode cX1_reduceDebt 25 = .ok (.iaload, 1) := by decide +kernel
theorem dX1_reduceDebt_26 : decode cX1_reduceDebt 26 = .ok (.ireturn, 1) := by decide +kernel
theorem dX1_property_0 : decode cX1_property 0 = .ok (.iload_n 2, 1) := by decide +kernel
theorem dX1_property_1 : decode cX1_property 1 = .ok (.lookupswitch 45 #[(0, 27), (1, 36)], 27) := by decide +kernel
theorem dX1_property_28 : decode cX1_property 28 = .ok (.aload_n 0, 1) := by decide +kernel
theorem dX1_property_29 : decode cX1_property 29 = .ok (.getfield 11, 3) := by decide +kernel
theorem dX1_property_32 : decode cX1_property 32 = .ok (.iload_n 1, 1) := by decide +kernel
theorem dX1_property_33 : decode cX1_property 33 = .ok (.invokestatic 33, 3) := by decide +kernel
theorem dX1_property_36 : decode cX1_property 36 = .ok (.ireturn, 1) := by decide +kernel
theorem dX1_property_37 : decode cX1_property 37 = .ok (.aload_n 0, 1) := by decide +kernel
theorem dX1_property_38 : decode cX1_property 38 = .ok (.getfield 15, 3) := by decide +kernel
theorem dX1_property_41 : decode cX1_property 41 = .ok (.iload_n 1, 1) := by decide +kernel
theorem dX1_property_42 : decode cX1_property 42 = .ok (.invokestatic 33, 3) := by decide +kernel
theorem dX1_property_45 : decode cX1_property 45 = .ok (.ireturn, 1) := by decide +kernel
theorem dX1_property_46 : decode cX1_property 46 = .ok (.aload_n 0, 1) := by decide +kernel
theorem dX1_property_47 : decode cX1_property 47 = .ok (.getfield 18, 3) := by decide +kernel
theorem dX1_property_50 : decode cX1_property 50 = .ok (.iload_n 1, 1) := by decide +kernel
theorem dX1_property_51 : decode cX1_property 51 = .ok (.invokestatic 33, 3) := by decide +kernel
theorem dX1_property_54 : decode cX1_property 54 = .ok (.ireturn, 1) := by decide +kernel
theorem dX2_init_0 : decode cX2_init 0 = .ok (.aload_n 0, 1) := by decide +kernel
theorem dX2_init_1 : decode cX2_init 1 = .ok (.invokespecial 1, 3) := by decide +kernel
theorem dX2_init_4 : decode cX2_init 4 = .ok (.aload_n 0, 1) := by decide +kernel
theorem dX2_init_5 : decode cX2_init 5 = .ok (.bipush 8, 2) := by decide +kernel
theorem dX2_init_7 : decode cX2_init 7 = .ok (.anewarray 9, 3) := by decide +kernel
theorem dX2_init_10 : decode cX2_init 10 = .ok (.putfield 11, 3) := by decide +kernel
theorem dX2_init_13 : decode cX2_init 13 = .ok (.iconst 0, 1) := by decide +kernel
theorem dX2_init_14 : decode cX2_init 14 = .ok (.istore_n 1, 1) := by decide +kernel
theorem dX2_init_15 : decode cX2_init 15 = .ok (.iload_n 1, 1) := by decide +kernel
theorem dX2_init_16 : decode cX2_init 16 = .ok (.aload_n 0, 1) := by decide +kernel
theorem dX2_init_17 : decode cX2_init 17 = .ok (.getfield 11, 3) := by decide +kernel
theorem dX2_init_20 : decode cX2_init 20 = .ok (.arraylength, 1) := by decide +kernel
theorem dX2_init_21 : decode cX2_init 21 = .ok (.if_icmp .ge 22, 3) := by decide +kernel
theorem dX2_init_24 : decode cX2_init 24 = .ok (.aload_n 0, 1) := by decide +kernel
theorem dX2_init_25 : decode cX2_init 25 = .ok (.getfield 11, 3) := by decide +kernel
theorem dX2_init_28 : decode cX2_init 28 = .ok (.iload_n 1, 1) := by decide +kernel
theorem dX2_init_29 : decode cX2_init 29 = .ok (.new 9, 3) := by decide +kernel
theorem dX2_init_32 : decode cX2_init 32 = .ok (.dup, 1) := by decide +kernel
theorem dX2_init_33 : decode cX2_init 33 = .ok (.invokespecial 15, 3) := by decide +kernel
theorem dX2_init_36 : decode cX2_init 36 = .ok (.aastore, 1) := by decide +kernel
theorem dX2_init_37 : decode cX2_init 37 = .ok (.iinc 1 1, 3) := by decide +kernel
theorem dX2_init_40 : decode cX2_init 40 = .ok (.goto (-25), 3) := by decide +kernel
theorem dX2_init_43 : decode cX2_init 43 = .ok (.return_, 1) := by decide +kernel
theorem dX2_save_0 : decode cX2_save 0 = .ok (.aload_n 0, 1) := by decide +kernel
theorem dX2_save_1 : decode cX2_save 1 = .ok (.getfield 16, 3) := by decide +kernel
theorem dX2_save_4 : decode cX2_save 4 = .ok (.bipush 8, 2) := by decide +kernel
theorem dX2_save_6 : decode cX2_save 6 = .ok (.if_icmp .ne 26, 3) := by decide +kernel
theorem dX2_save_9 : decode cX2_save 9 = .ok (.aload_n 0, 1) := by decide +kernel
theorem dX2_save_10 : decode cX2_save 10 = .ok (.aload_n 0, 1) := by decide +kernel
theorem dX2_save_11 : decode cX2_save 11 = .ok (.getfield 20, 3) := by decide +kernel
theorem dX2_save_14 : decode cX2_save 14 = .ok (.iconst 1, 1) := by decide +kernel
theorem dX2_save_15 : decode cX2_save 15 = .ok (.iadd, 1) := by decide +kernel
theorem dX2_save_16 : decode cX2_save 16 = .ok (.bipush 8, 2) := by decide +kernel
theorem dX2_save_18 : decode cX2_save 18 = .ok (.irem, 1) := by decide +kernel
theorem dX2_save_19 : decode cX2_save 19 = .ok (.putfield 20, 3) := by decide +kernel
theorem dX2_save_22 : decode cX2_save 22 = .ok (.aload_n 0, 1) := by decide +kernel
theorem dX2_save_23 : decode cX2_save 23 = .ok (.dup, 1) := by decide +kernel
theorem dX2_save_24 : decode cX2_save 24 = .ok (.getfield 16, 3) := by decide +kernel
theorem dX2_save_27 : decode cX2_save 27 = .ok (.iconst 1, 1) := by decide +kernel
theorem dX2_save_28 : decode cX2_save 28 = .ok (.isub, 1) := by decide +kernel
theorem dX2_save_29 : decode cX2_save 29 = .ok (.putfield 16, 3) := by decide +kernel
theorem dX2_save_32 : decode cX2_save 32 = .ok (.aload_n 0, 1) := by decide +kernel
theorem dX2_save_33 : decode cX2_save 33 = .ok (.getfield 11, 3) := by decide +kernel
theorem dX2_save_36 : decode cX2_save 36 = .ok (.aload_n 0, 1) := by decide +kernel
theorem dX2_save_37 : decode cX2_save 37 = .ok (.getfield 20, 3) := by decide +kernel
theorem dX2_save_40 : decode cX2_save 40 = .ok (.aload_n 0, 1) := by decide +kernel
theorem dX2_save_41 : decode cX2_save 41 = .ok (.getfield 16, 3) := by decide +kernel
theorem dX2_save_44 : decode cX2_save 44 = .ok (.iadd, 1) := by decide +kernel
theorem dX2_save_45 : decode cX2_save 45 = .ok (.bipush 8, 2) := by decide +kernel
theorem dX2_save_47 : decode cX2_save 47 = .ok (.irem, 1) := by decide +kernel
theorem dX2_save_48 : decode cX2_save 48 = .ok (.aaload, 1) := by decide +kernel
theorem dX2_save_49 : decode cX2_save 49 = .ok (.astore_n 2, 1) := by decide +kernel
theorem dX2_save_50 : decode cX2_save 50 = .ok (.aload_n 2, 1) := by decide +kernel
theorem dX2_save_51 : decode cX2_save 51 = .ok (.ifnull 18, 3) := by decide +kernel
theorem dX2_save_54 : decode cX2_save 54 = .ok (.aload_n 2, 1) := by decide +kernel
theorem dX2_save_55 : decode cX2_save 55 = .ok (.aload_n 1, 1) := by decide +kernel
theorem dX2_save_56 : decode cX2_save 56 = .ok (.invokevirtual 23, 3) := by decide +kernel
theorem dX2_save_59 : decode cX2_save 59 = .ok (.aload_n 0, 1) := by decide +kernel
theorem dX2_save_60 : decode cX2_save 60 = .ok (.dup, 1) := by decide +kernel
theorem dX2_save_61 : decode cX2_save 61 = .ok (.getfield 16, 3) := by decide +kernel
theorem dX2_save_64 : decode cX2_save 64 = .ok (.iconst 1, 1) := by decide +kernel
theorem dX2_save_65 : decode cX2_save 65 = .ok (.iadd, 1) := by decide +kernel
theorem dX2_save_66 : decode cX2_save 66 = .ok (.putfield 16, 3) := by decide +kernel
theorem dX2_save_69 : decode cX2_save 69 = .ok (.return_, 1) := by decide +kernel
theorem dX2_restore_0 : decode cX2_restore 0 = .ok (.aload_n 0, 1) := by decide +kernel
theorem dX2_restore_1 : decode cX2_restore 1 = .ok (.getfield 16, 3) := by decide +kernel
theorem dX2_restore_4 : decode cX2_restore 4 = .ok (.ifCond .le 40, 3) := by decide +kernel
theorem dX2_restore_7 : decode cX2_restore 7 = .ok (.aload_n 0, 1) := by decide +kernel
theorem dX2_restore_8 : decode cX2_restore 8 = .ok (.dup, 1) := by decide +kernel
theorem dX2_restore_9 : decode cX2_restore 9 = .ok (.getfield 16, 3) := by decide +kernel
theorem dX2_restore_12 : decode cX2_restore 12 = .ok (.iconst 1, 1) := by decide +kernel
theorem dX2_restore_13 : decode cX2_restore 13 = .ok (.isub, 1) := by decide +kernel
theorem dX2_restore_14 : decode cX2_restore 14 = .ok (.putfield 16, 3) := by decide +kernel
theorem dX2_restore_17 : decode cX2_restore 17 = .ok (.aload_n 0, 1) := by decide +kernel
theorem dX2_restore_18 : decode cX2_restore 18 = .ok (.getfield 11, 3) := by decide +kernel
theorem dX2_restore_21 : decode cX2_restore 21 = .ok (.aload_n 0, 1) := by decide +kernel
theorem dX2_restore_22 : decode cX2_restore 22 = .ok (.getfield 20, 3) := by decide +kernel
theorem dX2_restore_25 : decode cX2_restore 25 = .ok (.aload_n 0, 1) := by decide +kernel
theorem dX2_restore_26 : decode cX2_restore 26 = .ok (.getfield 16, 3) := by decide +kernel
theorem dX2_restore_29 : decode cX2_restore 29 = .ok (.iadd, 1) := by decide +kernel
theorem dX2_restore_30 : decode cX2_restore 30 = .ok (.bipush 8, 2) := by decide +kernel
theorem dX2_restore_32 : decode cX2_restore 32 = .ok (.irem, 1) := by decide +kernel
theorem dX2_restore_33 : decode cX2_restore 33 = .ok (.aaload, 1) := by decide +kernel
theorem dX2_restore_34 : decode cX2_restore 34 = .ok (.astore_n 2, 1) := by decide +kernel
theorem dX2_restore_35 : decode cX2_restore 35 = .ok (.aload_n 2, 1) := by decide +kernel
theorem dX2_restore_36 : decode cX2_restore 36 = .ok (.ifnull 8, 3) := by decide +kernel
theorem dX2_restore_39 : decode cX2_restore 39 = .ok (.aload_n 1, 1) := by decide +kernel
theorem dX2_restore_40 : decode cX2_restore 40 = .ok (.aload_n 2, 1) := by decide +kernel
theorem dX2_restore_41 : decode cX2_restore 41 = .ok (.invokevirtual 23, 3) := by decide +kernel
theorem dX2_restore_44 : decode cX2_restore 44 = .ok (.aload_n 0, 1) := by decide +kernel
theorem dX2_restore_45 : decode cX2_restore 45 = .ok (.getfield 16, 3) := by decide +kernel
theorem dX2_restore_48 : decode cX2_restore 48 = .ok (.ireturn, 1) := by decide +kernel
theorem dX3_init_0 : decode cX3_init 0 = .ok (.aload_n 0, 1) := by decide +kernel
theorem dX3_init_1 : decode cX3_init 1 = .ok (.invokespecial 3, 3) := by decide +kernel
theorem dX3_init_4 : decode cX3_init 4 = .ok (.aload_n 0, 1) := by decide +kernel
theorem dX3_init_5 : decode cX3_init 5 = .ok (.sipush 200, 3) := by decide +kernel
theorem dX3_init_8 : decode cX3_init 8 = .ok (.newarray .int, 2) := by decide +kernel
theorem dX3_init_10 : decode cX3_init 10 = .ok (.putfield 11, 3) := by decide +kernel
theorem dX3_init_13 : decode cX3_init 13 = .ok (.aload_n 0, 1) := by decide +kernel
theorem dX3_init_14 : decode cX3_init 14 = .ok (.sipush 200, 3) := by decide +kernel
theorem dX3_init_17 : decode cX3_init 17 = .ok (.newarray .int, 2) := by decide +kernel
theorem dX3_init_19 : decode cX3_init 19 = .ok (.putfield 15, 3) := by decide +kernel
theorem dX3_init_22 : decode cX3_init 22 = .ok (.aload_n 0, 1) := by decide +kernel
theorem dX3_init_23 : decode cX3_init 23 = .ok (.sipush 200, 3) := by decide +kernel
theorem dX3_init_26 : decode cX3_init 26 = .ok (.newarray .int, 2) := by decide +kernel
theorem dX3_init_28 : decode cX3_init 28 = .ok (.putfield 18, 3) := by decide +kernel
theorem dX3_init_31 : decode cX3_init 31 = .ok (.aload_n 0, 1) := by decide +kernel
theorem dX3_init_32 : decode cX3_init 32 = .ok (.sipush 200, 3) := by decide +kernel
theorem dX3_init_35 : decode cX3_init 35 = .ok (.newarray .int, 2) := by decide +kernel
theorem dX3_init_37 : decode cX3_init 37 = .ok (.putfield 21, 3) := by decide +kernel
theorem dX3_init_40 : decode cX3_init 40 = .ok (.aload_n 0, 1) := by decide +kernel
theorem dX3_init_41 : decode cX3_init 41 = .ok (.sipush 200, 3) := by decide +kernel
theorem dX3_init_44 : decode cX3_init 44 = .ok (.newarray .int, 2) := by decide +kernel
theorem dX3_init_46 : decode cX3_init 46 = .ok (.putfield 24, 3) := by decide +kernel
theorem dX3_init_49 : decode cX3_init 49 = .ok (.aload_n 0, 1) := by decide +kernel
theorem dX3_init_50 : decode cX3_init 50 = .ok (.sipush 200, 3) := by decide +kernel
theorem dX3_init_53 : decode cX3_init 53 = .ok (.newarray .int, 2) := by decide +kernel
theorem dX3_init_55 : decode cX3_init 55 = .ok (.putfield 27, 3) := by decide +kernel
theorem dX3_init_58 : decode cX3_init 58 = .ok (.aload_n 0, 1) := by decide +kernel
theorem dX3_init_59 : decode cX3_init 59 = .ok (.bipush 20, 2) := by decide +kernel
theorem dX3_init_61 : decode cX3_init 61 = .ok (.newarray .int, 2) := by decide +kernel
theorem dX3_init_63 : decode cX3_init 63 = .ok (.putfield 30, 3) := by decide +kernel
theorem dX3_init_66 : decode cX3_init 66 = .ok (.aload_n 0, 1) := by decide +kernel
theorem dX3_init_67 : decode cX3_init 67 = .ok (.bipush 20, 2) := by decide +kernel
theorem dX3_init_69 : decode cX3_init 69 = .ok (.newarray .int, 2) := by decide +kernel
theorem dX3_init_71 : decode cX3_init 71 = .ok (.putfield 33, 3) := by decide +kernel
theorem dX3_init_74 : decode cX3_init 74 = .ok (.return_, 1) := by decide +kernel
theorem dX3_copyFrom_0 : decode cX3_copyFrom 0 = .ok (.aload_n 0, 1) := by decide +kernel
theorem dX3_copyFrom_1 : decode cX3_copyFrom 1 = .ok (.aload_n 1, 1) := by decide +kernel
theorem dX3_copyFrom_2 : decode cX3_copyFrom 2 = .ok (.getfield 36, 3) := by decide +kernel
theorem dX3_copyFrom_5 : decode cX3_copyFrom 5 = .ok (.putfield 36, 3) := by decide +kernel
theorem dX3_copyFrom_8 : decode cX3_copyFrom 8 = .ok (.aload_n 0, 1) := by decide +kernel
theorem dX3_copyFrom_9 : decode cX3_copyFrom 9 = .ok (.aload_n 1, 1) := by decide +kernel
theorem dX3_copyFrom_10 : decode cX3_copyFrom 10 = .ok (.getfield 40, 3) := by decide +kernel
theorem dX3_copyFrom_13 : decode cX3_copyFrom 13 = .ok (.putfield 40, 3) := by decide +kernel
theorem dX3_copyFrom_16 : decode cX3_copyFrom 16 = .ok (.aload_n 1, 1) := by decide +kernel
theorem dX3_copyFrom_17 : decode cX3_copyFrom 17 = .ok (.getfield 11, 3) := by decide +kernel
theorem dX3_copyFrom_20 : decode cX3_copyFrom 20 = .ok (.aload_n 0, 1) := by decide +kernel
theorem dX3_copyFrom_21 : decode cX3_copyFrom 21 = .ok (.getfield 11, 3) := by decide +kernel
theorem dX3_copyFrom_24 : decode cX3_copyFrom 24 = .ok (.invokestatic 43, 3) := by decide +kernel
theorem dX3_copyFrom_27 : decode cX3_copyFrom 27 = .ok (.aload_n 1, 1) := by decide +kernel
theorem dX3_copyFrom_28 : decode cX3_copyFrom 28 = .ok (.getfield 15, 3) := by decide +kernel
theorem dX3_copyFrom_31 : decode cX3_copyFrom 31 = .ok (.aload_n 0, 1) := by decide +kernel
theorem dX3_copyFrom_32 : decode cX3_copyFrom 32 = .ok (.getfield 15, 3) := by decide +kernel
theorem dX3_copyFrom_35 : decode cX3_copyFrom 35 = .ok (.invokestatic 43, 3) := by decide +kernel
theorem dX3_copyFrom_38 : decode cX3_copyFrom 38 = .ok (.aload_n 1, 1) := by decide +kernel
theorem dX3_copyFrom_39 : decode cX3_copyFrom 39 = .ok (.getfield 18, 3) := by decide +kernel
theorem dX3_copyFrom_42 : decode cX3_copyFrom 42 = .ok (.aload_n 0, 1) := by decide +kernel
theorem dX3_copyFrom_43 : decode cX3_copyFrom 43 = .ok (.getfield 18, 3) := by decide +kernel
theorem dX3_copyFrom_46 : decode cX3_copyFrom 46 = .ok (.invokestatic 43, 3) := by decide +kernel
theorem dX3_copyFrom_49 : decode cX3_copyFrom 49 = .ok (.aload_n 1, 1) := by decide +kernel
theorem dX3_copyFrom_50 : decode cX3_copyFrom 50 = .ok (.getfield 21, 3) := by decide +kernel
theorem dX3_copyFrom_53 : decode cX3_copyFrom 53 = .ok (.aload_n 0, 1) := by decide +kernel
theorem dX3_copyFrom_54 : decode cX3_copyFrom 54 = .ok (.getfield 21, 3) := by decide +kernel
theorem dX3_copyFrom_57 : decode cX3_copyFrom 57 = .ok (.invokestatic 43, 3) := by decide +kernel
theorem dX3_copyFrom_60 : decode cX3_copyFrom 60 = .ok (.aload_n 1, 1) := by decide +kernel
theorem dX3_copyFrom_61 : decode cX3_copyFrom 61 = .ok (.getfield 24, 3) := by decide +kernel
theorem dX3_copyFrom_64 : decode cX3_copyFrom 64 = .ok (.aload_n 0, 1) := by decide +kernel
theorem dX3_copyFrom_65 : decode cX3_copyFrom 65 = .ok (.getfield 24, 3) := by decide +kernel
theorem dX3_copyFrom_68 : decode cX3_copyFrom 68 = .ok (.invokestatic 43, 3) := by decide +kernel
theorem dX3_copyFrom_71 : decode cX3_copyFrom 71 = .ok (.aload_n 1, 1) := by decide +kernel
theorem dX3_copyFrom_72 : decode cX3_copyFrom 72 = .ok (.getfield 27, 3) := by decide +kernel
theorem dX3_copyFrom_75 : decode cX3_copyFrom 75 = .ok (.aload_n 0, 1) := by decide +kernel
theorem dX3_copyFrom_76 : decode cX3_copyFrom 76 = .ok (.getfield 27, 3) := by decide +kernel
theorem dX3_copyFrom_79 : decode cX3_copyFrom 79 = .ok (.invokestatic 43, 3) := by decide +kernel
theorem dX3_copyFrom_82 : decode cX3_copyFrom 82 = .ok (.aload_n 1, 1) := by decide +kernel
theorem dX3_copyFrom_83 : decode cX3_copyFrom 83 = .ok (.getfield 30, 3) := by decide +kernel
theorem dX3_copyFrom_86 : decode cX3_copyFrom 86 = .ok (.aload_n 0, 1) := by decide +kernel
theorem dX3_copyFrom_87 : decode cX3_copyFrom 87 = .ok (.getfield 30, 3) := by decide +kernel
theorem dX3_copyFrom_90 : decode cX3_copyFrom 90 = .ok (.invokestatic 43, 3) := by decide +kernel
theorem dX3_copyFrom_93 : decode cX3_copyFrom 93 = .ok (.return_, 1) := by decide +kernel
theorem dX3_has_0 : decode cX3_has 0 = .ok (.iload_n 1, 1) := by decide +kernel
theorem dX3_has_1 : decode cX3_has 1 = .ok (.ifCond .lt 15, 3) := by decide +kernel
theorem dX3_has_4 : decode cX3_has 4 = .ok (.iload_n 1, 1) := by decide +kernel
theorem dX3_has_5 : decode cX3_has 5 = .ok (.aload_n 0, 1) := by decide +kernel
theorem dX3_has_6 : decode cX3_has 6 = .ok (.getfield 36, 3) := by decide +kernel
theorem dX3_has_9 : decode cX3_has 9 = .ok (.if_icmp .ge 7, 3) := by decide +kernel
theorem dX3_has_12 : decode cX3_has 12 = .ok (.iconst 1, 1) := by decide +kernel
theorem dX3_has_13 : decode cX3_has 13 = .ok (.goto 4, 3) := by decide +kernel
theorem dX3_has_16 : decode cX3_has 16 = .ok (.iconst 0, 1) := by decide +kernel
theorem dX3_has_17 : decode cX3_has 17 = .ok (.ireturn, 1) := by decide +kernel
theorem dX3_isOpen_0 : decode cX3_isOpen 0 = .ok (.aload_n 0, 1) := by decide +kernel
theorem dX3_isOpen_1 : decode cX3_isOpen 1 = .ok (.iload_n 1, 1) := by decide +kernel
theorem dX3_isOpen_2 : decode cX3_isOpen 2 = .ok (.invokevirtual 47, 3) := by decide +kernel
theorem dX3_isOpen_5 : decode cX3_isOpen 5 = .ok (.ifCond .eq 16, 3) := by decide +kernel
theorem dX3_isOpen_8 : decode cX3_isOpen 8 = .ok (.aload_n 0, 1) := by decide +kernel
theorem dX3_isOpen_9 : decode cX3_isOpen 9 = .ok (.getfield 27, 3) := by decide +kernel
theorem dX3_isOpen_12 : decode cX3_isOpen 12 = .ok (.iload_n 1, 1) := by decide +kernel
theorem dX3_isOpen_13 : decode cX3_isOpen 13 = .ok (.iaload, 1) := by decide +kernel
theorem dX3_isOpen_14 : decode cX3_isOpen 14 = .ok (.ifCond .ne 7, 3) := by decide +kernel
theorem dX3_isOpen_17 : decode cX3_isOpen 17 = .ok (.iconst 1, 1) := by decide +kernel
theorem dX3_isOpen_18 : decode cX3_isOpen 18 = .ok (.goto 4, 3) := by decide +kernel
theorem dX3_isOpen_21 : decode cX3_isOpen 21 = .ok (.iconst 0, 1) := by decide +kernel
theorem dX3_isOpen_22 : decode cX3_isOpen 22 = .ok (.ireturn, 1) := by decide +kernel
theorem dX3_isComplete_0 : decode cX3_isComplete 0 = .ok (.aload_n 0, 1) := by decide +kernel
theorem dX3_isComplete_1 : decode cX3_isComplete 1 = .ok (.iload_n 1, 1) := by decide +kernel
theorem dX3_isComplete_2 : decode cX3_isComplete 2 = .ok (.invokevirtual 47, 3) := by decide +kernel
theorem dX3_isComplete_5 : decode cX3_isComplete 5 = .ok (.ifCond .eq 17, 3) := by decide +kernel
theorem dX3_isComplete_8 : decode cX3_isComplete 8 = .ok (.aload_n 0, 1) := by decide +kernel
theorem dX3_isComplete_9 : decode cX3_isComplete 9 = .ok (.getfield 27, 3) := by decide +kernel
theorem dX3_isComplete_12 : decode cX3_isComplete 12 = .ok (.iload_n 1, 1) := by decide +kernel
theorem dX3_isComplete_13 : decode cX3_isComplete 13 = .ok (.iaload, 1) := by decide +kernel
theorem dX3_isComplete_14 : decode cX3_isComplete 14 = .ok (.iconst 1, 1) := by decide +kernel
theorem dX3_isComplete_15 : decode cX3_isComplete 15 = .ok (.if_icmp .ne 7, 3) := by decide +kernel
theorem dX3_isComplete_18 : decode cX3_isComplete 18 = .ok (.iconst 1, 1) := by decide +kernel
theorem dX3_isComplete_19 : decode cX3_isComplete 19 = .ok (.goto 4, 3) := by decide +kernel
theorem dX3_isComplete_22 : decode cX3_isComplete 22 = .ok (.iconst 0, 1) := by decide +kernel
theorem dX3_isComplete_23 : decode cX3_isComplete 23 = .ok (.ireturn, 1) := by decide +kernel
theorem dX3_isWhole_0 : decode cX3_isWhole 0 = .ok (.aload_n 0, 1) := by decide +kernel
theorem dX3_isWhole_1 : decode cX3_isWhole 1 = .ok (.getfield 24, 3) := by decide +kernel
theorem dX3_isWhole_4 : decode cX3_isWhole 4 = .ok (.iload_n 1, 1) := by decide +kernel
theorem dX3_isWhole_5 : decode cX3_isWhole 5 = .ok (.invokestatic 51, 3) := by decide +kernel
theorem dX3_isWhole_8 : decode cX3_isWhole 8 = .ok (.iconst 1, 1) := by decide +kernel
theorem dX3_isWhole_9 : decode cX3_isWhole 9 = .ok (.if_icmp .ne 7, 3) := by decide +kernel
theorem dX3_isWhole_12 : decode cX3_isWhole 12 = .ok (.iconst 1, 1) := by decide +kernel
theorem dX3_isWhole_13 : decode cX3_isWhole 13 = .ok (.goto 4, 3) := by decide +kernel
theorem dX3_isWhole_16 : decode cX3_isWhole 16 = .ok (.iconst 0, 1) := by decide +kernel
theorem dX3_isWhole_17 : decode cX3_isWhole 17 = .ok (.ireturn, 1) := by decide +kernel
theorem dX3_isFull_0 : decode cX3_isFull 0 = .ok (.aload_n 0, 1) := by decide +kernel
theorem dX3_isFull_1 : decode cX3_isFull 1 = .ok (.getfield 36, 3) := by decide +kernel
theorem dX3_isFull_4 : decode cX3_isFull 4 = .ok (.sipush 200, 3) := by decide +kernel
theorem dX3_isFull_7 : decode cX3_isFull 7 = .ok (.if_icmp .ge 12, 3) := by decide +kernel
theorem dX3_isFull_10 : decode cX3_isFull 10 = .ok (.aload_n 0, 1) := by decide +kernel
theorem dX3_isFull_11 : decode cX3_isFull 11 = .ok (.getfield 40, 3) := by decide +kernel
theorem dX3_isFull_14 : decode cX3_isFull 14 = .ok (.bipush 20, 2) := by decide +kernel
theorem dX3_isFull_16 : decode cX3_isFull 16 = .ok (.if_icmp .lt 7, 3) := by decide +kernel
theorem dX3_isFull_19 : decode cX3_isFull 19 = .ok (.iconst 1, 1) := by decide +kernel
theorem dX3_isFull_20 : decode cX3_isFull 20 = .ok (.goto 4, 3) := by decide +kernel
theorem dX3_isFull_23 : decode cX3_isFull 23 = .ok (.iconst 0, 1) := by decide +kernel
theorem dX3_isFull_24 : decode cX3_isFull 24 = .ok (.ireturn, 1) := by decide +kernel
theorem dX3_place_0 : decode cX3_place 0 = .ok (.aload_n 0, 1) := by decide +kernel
theorem dX3_place_1 : decode cX3_place 1 = .ok (.invokevirtual 55, 3) := by decide +kernel
theorem dX3_place_4 : decode cX3_place 4 = .ok (.ifCond .eq 5, 3) := by decide +kernel
theorem dX3_place_7 : decode cX3_place 7 = .ok (.iconst (-1), 1) := by decide +kernel
theorem dX3_place_8 : decode cX3_place 8 = .ok (.ireturn, 1) := by decide +kernel
theorem dX3_place_9 : decode cX3_place 9 = .ok (.aload_n 0, 1) := by decide +kernel
theorem dX3_place_10 : decode cX3_place 10 = .ok (.getfield 11, 3) := by decide +kernel
theorem dX3_place_13 : decode cX3_place 13 = .ok (.aload_n 0, 1) := by decide +kernel
theorem dX3_place_14 : decode cX3_place 14 = .ok (.getfield 36, 3) := by decide +kernel
theorem dX3_place_17 : decode cX3_place 17 = .ok (.iload_n 1, 1) := by decide +kernel
theorem dX3_place_18 : decode cX3_place 18 = .ok (.iastore, 1) := by decide +kernel
theorem dX3_place_19 : decode cX3_place 19 = .ok (.aload_n 0, 1) := by decide +kernel
theorem dX3_place_20 : decode cX3_place 20 = .ok (.getfield 15, 3) := by decide +kernel
theorem dX3_place_23 : decode cX3_place 23 = .ok (.aload_n 0, 1) := by decide +kernel
theorem dX3_place_24 : decode cX3_place 24 = .ok (.getfield 36, 3) := by decide +kernel
theorem dX3_place_27 : decode cX3_place 27 = .ok (.iload_n 2, 1) := by decide +kernel
theorem dX3_place_28 : decode cX3_place 28 = .ok (.iastore, 1) := by decide +kernel
theorem dX3_place_29 : decode cX3_place 29 = .ok (.aload_n 0, 1) := by decide +kernel
theorem dX3_place_30 : decode cX3_place 30 = .ok (.getfield 18, 3) := by decide +kernel
theorem dX3_place_33 : decode cX3_place 33 = .ok (.aload_n 0, 1) := by decide +kernel
theorem dX3_place_34 : decode cX3_place 34 = .ok (.getfield 36, 3) := by decide +kernel
theorem dX3_place_37 : decode cX3_place 37 = .ok (.iconst 0, 1) := by decide +kernel
theorem dX3_place_38 : decode cX3_place 38 = .ok (.iastore, 1) := by decide +kernel
theorem dX3_place_39 : decode cX3_place 39 = .ok (.aload_n 0, 1) := by decide +kernel
theorem dX3_place_40 : decode cX3_place 40 = .ok (.getfield 21, 3) := by decide +kernel
theorem dX3_place_43 : decode cX3_place 43 = .ok (.aload_n 0, 1) := by decide +kernel
theorem dX3_place_44 : decode cX3_place 44 = .ok (.getfield 36, 3) := by decide +kernel
theorem dX3_place_47 : decode cX3_place 47 = .ok (.iload_n 3, 1) := by decide +kernel
theorem dX3_place_48 : decode cX3_place 48 = .ok (.iastore, 1) := by decide +kernel
theorem dX3_place_49 : decode cX3_place 49 = .ok (.aload_n 0, 1) := by decide +kernel
theorem dX3_place_50 : decode cX3_place 50 = .ok (.getfield 24, 3) := by decide +kernel
theorem dX3_place_53 : decode cX3_place 53 = .ok (.aload_n 0, 1) := by decide +kernel
theorem dX3_place_54 : decode cX3_place 54 = .ok (.getfield 36, 3) := by decide +kernel
theorem dX3_place_57 : decode cX3_place 57 = .ok (.iload 4, 2) := by decide +kernel
theorem dX3_place_59 : decode cX3_place 59 = .ok (.ifCond .eq 7, 3) := by decide +kernel
theorem dX3_place_62 : decode cX3_place 62 = .ok (.iconst 1, 1) := by decide +kernel
theorem dX3_place_63 : decode cX3_place 63 = .ok (.goto 4, 3) := by decide +kernel
theorem dX3_place_66 : decode cX3_place 66 = .ok (.iconst 0, 1) := by decide +kernel
theorem dX3_place_67 : decode cX3_place 67 = .ok (.iastore, 1) := by decide +kernel
theorem dX3_place_68 : decode cX3_place 68 = .ok (.aload_n 0, 1) := by decide +kernel
theorem dX3_place_69 : decode cX3_place 69 = .ok (.getfield 27, 3) := by decide +kernel
theorem dX3_place_72 : decode cX3_place 72 = .ok (.aload_n 0, 1) := by decide +kernel
theorem dX3_place_73 : decode cX3_place 73 = .ok (.getfield 36, 3) := by decide +kernel
theorem dX3_place_76 : decode cX3_place 76 = .ok (.iconst 0, 1) := by decide +kernel
theorem dX3_place_77 : decode cX3_place 77 = .ok (.iastore, 1) := by decide +kernel
theorem dX3_place_78 : decode cX3_place 78 = .ok (.aload_n 0, 1) := by decide +kernel
theorem dX3_place_79 : decode cX3_place 79 = .ok (.getfield 30, 3) := by decide +kernel
theorem dX3_place_82 : decode cX3_place 82 = .ok (.aload_n 0, 1) := by decide +kernel
theorem dX3_place_83 : decode cX3_place 83 = .ok (.getfield 40, 3) := by decide +kernel
theorem dX3_place_86 : decode cX3_place 86 = .ok (.aload_n 0, 1) := by decide +kernel
theorem dX3_place_87 : decode cX3_place 87 = .ok (.getfield 36, 3) := by decide +kernel
theorem dX3_place_90 : decode cX3_place 90 = .ok (.iastore, 1) := by decide +kernel
theorem dX3_place_91 : decode cX3_place 91 = .ok (.aload_n 0, 1) := by decide +kernel
theorem dX3_place_92 : decode cX3_place 92 = .ok (.dup, 1) := by decide +kernel
theorem dX3_place_93 : decode cX3_place 93 = .ok (.getfield 40, 3) := by decide +kernel
theorem dX3_place_96 : decode cX3_place 96 = .ok (.iconst 1, 1) := by decide +kernel
theorem dX3_place_97 : decode cX3_place 97 = .ok (.iadd, 1) := by decide +kernel
theorem dX3_place_98 : decode cX3_place 98 = .ok (.putfield 40, 3) := by decide +kernel
theorem dX3_place_101 : decode cX3_place 101 = .ok (.aload_n 0, 1) := by decide +kernel
theorem dX3_place_102 : decode cX3_place 102 = .ok (.dup, 1) := by decide +kernel
theorem dX3_place_103 : decode cX3_place 103 = .ok (.getfield 36, 3) := by decide +kernel
theorem dX3_place_106 : decode cX3_place 106 = .ok (.iconst 1, 1) := by decide +kernel
theorem dX3_place_107 : decode cX3_place 107 = .ok (.iadd, 1) := by decide +kernel
theorem dX3_place_108 : decode cX3_place 108 = .ok (.putfield 36, 3) := by decide +kernel
theorem dX3_place_111 : decode cX3_place 111 = .ok (.aload_n 0, 1) := by decide +kernel
theorem dX3_place_112 : decode cX3_place 112 = .ok (.getfield 36, 3) := by decide +kernel
theorem dX3_place_115 : decode cX3_place 115 = .ok (.iconst 1, 1) := by decide +kernel
theorem dX3_place_116 : decode cX3_place 116 = .ok (.isub, 1) := by decide +kernel
theorem dX3_place_117 : decode cX3_place 117 = .ok (.ireturn, 1) := by decide +kernel
theorem dX3_remaining_0 : decode cX3_remaining 0 = .ok (.aload_n 0, 1) := by decide +kernel
theorem dX3_remaining_1 : decode cX3_remaining 1 = .ok (.getfield 15, 3) := by decide +kernel
theorem dX3_remaining_4 : decode cX3_remaining 4 = .ok (.iload_n 1, 1) := by decide +kernel
theorem dX3_remaining_5 : decode cX3_remaining 5 = .ok (.invokestatic 51, 3) := by decide +kernel
theorem dX3_remaining_8 : decode cX3_remaining 8 = .ok (.aload_n 0, 1) := by decide +kernel
theorem dX3_remaining_9 : decode cX3_remaining 9 = .ok (.getfield 18, 3) := by decide +kernel
theorem dX3_remaining_12 : decode cX3_remaining 12 = .ok (.iload_n 1, 1) := by decide +kernel
theorem dX3_remaining_13 : decode cX3_remaining 13 = .ok (.invokestatic 51, 3) := by decide +kernel
theorem dX3_remaining_16 : decode cX3_remaining 16 = .ok (.isub, 1) := by decide +kernel
theorem dX3_remaining_17 : decode cX3_remaining 17 = .ok (.istore_n 2, 1) := by decide +kernel
theorem dX3_remaining_18 : decode cX3_remaining 18 = .ok (.iload_n 2, 1) := by decide +kernel
theorem dX3_remaining_19 : decode cX3_remaining 19 = .ok (.ifCond .le 7, 3) := by decide +kernel
theorem dX3_remaining_22 : decode cX3_remaining 22 = .ok (.iload_n 2, 1) := by decide +kernel
theorem dX3_remaining_23 : decode cX3_remaining 23 = .ok (.goto 4, 3) := by decide +kernel
theorem dX3_remaining_26 : decode cX3_remaining 26 = .ok (.iconst 0, 1) := by decide +kernel
theorem dX3_remaining_27 : decode cX3_remaining 27 = .ok (.ireturn, 1) := by decide +kernel
theorem dX3_deliver_0 : decode cX3_deliver 0 = .ok (.aload_n 0, 1) := by decide +kernel
theorem dX3_deliver_1 : decode cX3_deliver 1 = .ok (.iload_n 1, 1) := by decide +kernel
theorem dX3_deliver_2 : decode cX3_deliver 2 = .ok (.invokevirtual 47, 3) := by decide +kernel
theorem dX3_deliver_5 : decode cX3_deliver 5 = .ok (.ifCond .eq 34, 3) := by decide +kernel
theorem dX3_deliver_8 : decode cX3_deliver 8 = .ok (.aload_n 0, 1) := by decide +kernel
theorem dX3_deliver_9 : decode cX3_deliver 9 = .ok (.getfield 18, 3) := by decide +kernel
theorem dX3_deliver_12 : decode cX3_deliver 12 = .ok (.iload_n 1, 1) := by decide +kernel
theorem dX3_deliver_13 : decode cX3_deliver 13 = .ok (.dup2, 1) := by decide +kernel
theorem dX3_deliver_14 : decode cX3_deliver 14 = .ok (.iaload, 1) := by decide +kernel
theorem dX3_deliver_15 : decode cX3_deliver 15 = .ok (.iload_n 2, 1) := by decide +kernel
theorem dX3_deliver_16 : decode cX3_deliver 16 = .ok (.iadd, 1) := by decide +kernel
theorem dX3_deliver_17 : decode cX3_deliver 17 = .ok (.iastore, 1) := by decide +kernel
theorem dX3_deliver_18 : decode cX3_deliver 18 = .ok (.aload_n 0, 1) := by decide +kernel
theorem dX3_deliver_19 : decode cX3_deliver 19 = .ok (.getfield 18, 3) := by decide +kernel
theorem dX3_deliver_22 : decode cX3_deliver 22 = .ok (.iload_n 1, 1) := by decide +kernel
theorem dX3_deliver_23 : decode cX3_deliver 23 = .ok (.iaload, 1) := by decide +kernel
theorem dX3_deliver_24 : decode cX3_deliver 24 = .ok (.aload_n 0, 1) := by decide +kernel
theorem dX3_deliver_25 : decode cX3_deliver 25 = .ok (.getfield 15, 3) := by decide +kernel
theorem dX3_deliver_28 : decode cX3_deliver 28 = .ok (.iload_n 1, 1) := by decide +kernel
theorem dX3_deliver_29 : decode cX3_deliver 29 = .ok (.iaload, 1) := by decide +kernel
theorem dX3_deliver_30 : decode cX3_deliver 30 = .ok (.if_icmp .lt 9, 3) := by decide +kernel
theorem dX3_deliver_33 : decode cX3_deliver 33 = .ok (.aload_n 0, 1) := by decide +kernel
theorem dX3_deliver_34 : decode cX3_deliver 34 = .ok (.iload_n 1, 1) := by decide +kernel
theorem dX3_deliver_35 : decode cX3_deliver 35 = .ok (.iconst 1, 1) := by decide +kernel
theorem dX3_deliver_36 : decode cX3_deliver 36 = .ok (.invokevirtual 59, 3) := by decide +kernel
theorem dX3_deliver_39 : decode cX3_deliver 39 = .ok (.return_, 1) := by decide +kernel
theorem dX3_close_0 : decode cX3_close 0 = .ok (.aload_n 0, 1) := by decide +kernel
theorem dX3_close_1 : decode cX3_close 1 = .ok (.iload_n 1, 1) := by decide +kernel
theorem dX3_close_2 : decode cX3_close 2 = .ok (.invokevirtual 47, 3) := by decide +kernel
theorem dX3_close_5 : decode cX3_close 5 = .ok (.ifCond .ne 4, 3) := by decide +kernel
theorem dX3_close_8 : decode cX3_close 8 = .ok (.return_, 1) := by decide +kernel
theorem dX3_close_9 : decode cX3_close 9 = .ok (.aload_n 0, 1) := by decide +kernel
theorem dX3_close_10 : decode cX3_close 10 = .ok (.getfield 27, 3) := by decide +kernel
theorem dX3_close_13 : decode cX3_close 13 = .ok (.iload_n 1, 1) := by decide +kernel
theorem dX3_close_14 : decode cX3_close 14 = .ok (.iload_n 2, 1) := by decide +kernel
theorem dX3_close_15 : decode cX3_close 15 = .ok (.iastore, 1) := by decide +kernel
theorem dX3_close_16 : decode cX3_close 16 = .ok (.iconst 0, 1) := by decide +kernel
theorem dX3_close_17 : decode cX3_close 17 = .ok (.istore_n 3, 1) := by decide +kernel
theorem dX3_close_18 : decode cX3_close 18 = .ok (.iconst 0, 1) := by decide +kernel
theorem dX3_close_19 : decode cX3_close 19 = .ok (.istore 4, 2) := by decide +kernel
theorem dX3_close_21 : decode cX3_close 21 = .ok (.iload 4, 2) := by decide +kernel
theorem dX3_close_23 : decode cX3_close 23 = .ok (.aload_n 0, 1) := by decide +kernel
theorem dX3_close_24 : decode cX3_close 24 = .ok (.getfield 40, 3) := by decide +kernel
theorem dX3_close_27 : decode cX3_close 27 = .ok (.if_icmp .ge 36, 3) := by decide +kernel
theorem dX3_close_30 : decode cX3_close 30 = .ok (.aload_n 0, 1) := by decide +kernel
theorem dX3_close_31 : decode cX3_close 31 = .ok (.getfield 30, 3) := by decide +kernel
theorem dX3_close_34 : decode cX3_close 34 = .ok (.iload 4, 2) := by decide +kernel
theorem dX3_close_36 : decode cX3_close 36 = .ok (.iaload, 1) := by decide +kernel
theorem dX3_close_37 : decode cX3_close 37 = .ok (.iload_n 1, 1) := by decide +kernel
theorem dX3_close_38 : decode cX3_close 38 = .ok (.if_icmp .eq 19, 3) := by decide +kernel
theorem dX3_close_41 : decode cX3_close 41 = .ok (.aload_n 0, 1) := by decide +kernel
theorem dX3_close_42 : decode cX3_close 42 = .ok (.getfield 30, 3) := by decide +kernel
theorem dX3_close_45 : decode cX3_close 45 = .ok (.iload_n 3, 1) := by decide +kernel
theorem dX3_close_46 : decode cX3_close 46 = .ok (.aload_n 0, 1) := by decide +kernel
theorem dX3_close_47 : decode cX3_close 47 = .ok (.getfield 30, 3) := by decide +kernel
theorem dX3_close_50 : decode cX3_close 50 = .ok (.iload 4, 2) := by decide +kernel
theorem dX3_close_52 : decode cX3_close 52 = .ok (.iaload, 1) := by decide +kernel
theorem dX3_close_53 : decode cX3_close 53 = .ok (.iastore, 1) := by decide +kernel
theorem dX3_close_54 : decode cX3_close 54 = .ok (.iinc 3 1, 3) := by decide +kernel
theorem dX3_close_57 : decode cX3_close 57 = .ok (.iinc 4 1, 3) := by decide +kernel
theorem dX3_close_60 : decode cX3_close 60 = .ok (.goto (-39), 3) := by decide +kernel
theorem dX3_close_63 : decode cX3_close 63 = .ok (.aload_n 0, 1) := by decide +kernel
theorem dX3_close_64 : decode cX3_close 64 = .ok (.iload_n 3, 1) := by decide +kernel
theorem dX3_close_65 : decode cX3_close 65 = .ok (.putfield 40, 3) := by decide +kernel
theorem dX3_close_68 : decode cX3_close 68 = .ok (.return_, 1) := by decide +kernel
theorem dX3_expire_0 : decode cX3_expire 0 = .ok (.aload_n 0, 1) := by decide +kernel
theorem dX3_expire_1 : decode cX3_expire 1 = .ok (.getfield 40, 3) := by decide +kernel
theorem dX3_expire_4 : decode cX3_expire 4 = .ok (.iconst 1, 1) := by decide +kernel
theorem dX3_expire_5 : decode cX3_expire 5 = .ok (.isub, 1) := by decide +kernel
theorem dX3_expire_6 : decode cX3_expire 6 = .ok (.istore_n 1, 1) := by decide +kernel
theorem dX3_expire_7 : decode cX3_expire 7 = .ok (.iload_n 1, 1) := by decide +kernel
theorem dX3_expire_8 : decode cX3_expire 8 = .ok (.ifCond .lt 49, 3) := by decide +kernel
theorem dX3_expire_11 : decode cX3_expire 11 = .ok (.aload_n 0, 1) := by decide +kernel
theorem dX3_expire_12 : decode cX3_expire 12 = .ok (.getfield 30, 3) := by decide +kernel
theorem dX3_expire_15 : decode cX3_expire 15 = .ok (.iload_n 1, 1) := by decide +kernel
theorem dX3_expire_16 : decode cX3_expire 16 = .ok (.iaload, 1) := by decide +kernel
theorem dX3_expire_17 : decode cX3_expire 17 = .ok (.istore_n 2, 1) := by decide +kernel
theorem dX3_expire_18 : decode cX3_expire 18 = .ok (.aload_n 0, 1) := by decide +kernel
theorem dX3_expire_19 : decode cX3_expire 19 = .ok (.iload_n 2, 1) := by decide +kernel
theorem dX3_expire_20 : decode cX3_expire 20 = .ok (.invokevirtual 47, 3) := by decide +kernel
theorem dX3_expire_23 : decode cX3_expire 23 = .ok (.ifCond .eq 28, 3) := by decide +kernel
theorem dX3_expire_26 : decode cX3_expire 26 = .ok (.aload_n 0, 1) := by decide +kernel
theorem dX3_expire_27 : decode cX3_expire 27 = .ok (.getfield 21, 3) := by decide +kernel
theorem dX3_expire_30 : decode cX3_expire 30 = .ok (.iload_n 2, 1) := by decide +kernel
theorem dX3_expire_31 : decode cX3_expire 31 = .ok (.dup2, 1) := by decide +kernel
theorem dX3_expire_32 : decode cX3_expire 32 = .ok (.iaload, 1) := by decide +kernel
theorem dX3_expire_33 : decode cX3_expire 33 = .ok (.iconst 1, 1) := by decide +kernel
theorem dX3_expire_34 : decode cX3_expire 34 = .ok (.isub, 1) := by decide +kernel
theorem dX3_expire_35 : decode cX3_expire 35 = .ok (.iastore, 1) := by decide +kernel
theorem dX3_expire_36 : decode cX3_expire 36 = .ok (.aload_n 0, 1) := by decide +kernel
theorem dX3_expire_37 : decode cX3_expire 37 = .ok (.getfield 21, 3) := by decide +kernel
theorem dX3_expire_40 : decode cX3_expire 40 = .ok (.iload_n 2, 1) := by decide +kernel
theorem dX3_expire_41 : decode cX3_expire 41 = .ok (.iaload, 1) := by decide +kernel
theorem dX3_expire_42 : decode cX3_expire 42 = .ok (.ifCond .gt 9, 3) := by decide +kernel
theorem dX3_expire_45 : decode cX3_expire 45 = .ok (.aload_n 0, 1) := by decide +kernel
theorem dX3_expire_46 : decode cX3_expire 46 = .ok (.iload_n 2, 1) := by decide +kernel
theorem dX3_expire_47 : decode cX3_expire 47 = .ok (.iconst 2, 1) := by decide +kernel
theorem dX3_expire_48 : decode cX3_expire 48 = .ok (.invokevirtual 59, 3) := by decide +kernel
theorem dX3_expire_51 : decode cX3_expire 51 = .ok (.iinc 1 (-1), 3) := by decide +kernel
theorem dX3_expire_54 : decode cX3_expire 54 = .ok (.goto (-47), 3) := by decide +kernel
theorem dX3_expire_57 : decode cX3_expire 57 = .ok (.return_, 1) := by decide +kernel
theorem dX3_openOf_0 : decode cX3_openOf 0 = .ok (.iconst 0, 1) := by decide +kernel
theorem dX3_openOf_1 : decode cX3_openOf 1 = .ok (.istore_n 2, 1) := by decide +kernel
theorem dX3_openOf_2 : decode cX3_openOf 2 = .ok (.iconst 0, 1) := by decide +kernel
theorem dX3_openOf_3 : decode cX3_openOf 3 = .ok (.istore_n 3, 1) := by decide +kernel
theorem dX3_openOf_4 : decode cX3_openOf 4 = .ok (.iload_n 3, 1) := by decide +kernel
theorem dX3_openOf_5 : decode cX3_openOf 5 = .ok (.aload_n 0, 1) := by decide +kernel
theorem dX3_openOf_6 : decode cX3_openOf 6 = .ok (.getfield 40, 3) := by decide +kernel
theorem dX3_openOf_9 : decode cX3_openOf 9 = .ok (.if_icmp .ge 29, 3) := by decide +kernel
theorem dX3_openOf_12 : decode cX3_openOf 12 = .ok (.aload_n 0, 1) := by decide +kernel
theorem dX3_openOf_13 : decode cX3_openOf 13 = .ok (.getfield 11, 3) := by decide +kernel
theorem dX3_openOf_16 : decode cX3_openOf 16 = .ok (.aload_n 0, 1) := by decide +kernel
theorem dX3_openOf_17 : decode cX3_openOf 17 = .ok (.getfield 30, 3) := by decide +kernel
theorem dX3_openOf_20 : decode cX3_openOf 20 = .ok (.iload_n 3, 1) := by decide +kernel
theorem dX3_openOf_21 : decode cX3_openOf 21 = .ok (.iaload, 1) := by decide +kernel
theorem dX3_openOf_22 : decode cX3_openOf 22 = .ok (.invokestatic 51, 3) := by decide +kernel
theorem dX3_openOf_25 : decode cX3_openOf 25 = .ok (.iload_n 1, 1) := by decide +kernel
theorem dX3_openOf_26 : decode cX3_openOf 26 = .ok (.if_icmp .ne 6, 3) := by decide +kernel
theorem dX3_openOf_29 : decode cX3_openOf 29 = .ok (.iinc 2 1, 3) := by decide +kernel
theorem dX3_openOf_32 : decode cX3_openOf 32 = .ok (.iinc 3 1, 3) := by decide +kernel
theorem dX3_openOf_35 : decode cX3_openOf 35 = .ok (.goto (-31), 3) := by decide +kernel
theorem dX3_openOf_38 : decode cX3_openOf 38 = .ok (.iload_n 2, 1) := by decide +kernel
theorem dX3_openOf_39 : decode cX3_openOf 39 = .ok (.ireturn, 1) := by decide +kernel
theorem dX3_arrange_0 : decode cX3_arrange 0 = .ok (.iconst 0, 1) := by decide +kernel
theorem dX3_arrange_1 : decode cX3_arrange 1 = .ok (.istore_n 3, 1) := by decide +kernel
theorem dX3_arrange_2 : decode cX3_arrange 2 = .ok (.iload_n 3, 1) := by decide +kernel
theorem dX3_arrange_3 : decode cX3_arrange 3 = .ok (.aload_n 0, 1) := by decide +kernel
theorem dX3_arrange_4 : decode cX3_arrange 4 = .ok (.getfield 40, 3) := by decide +kernel
theorem dX3_arrange_7 : decode cX3_arrange 7 = .ok (.if_icmp .ge 76, 3) := by decide +kernel
theorem dX3_arrange_10 : decode cX3_arrange 10 = .ok (.iload_n 3, 1) := by decide +kernel
theorem dX3_arrange_11 : decode cX3_arrange 11 = .ok (.istore 4, 2) := by decide +kernel
theorem dX3_arrange_13 : decode cX3_arrange 13 = .ok (.iload 4, 2) := by decide +kernel
theorem dX3_arrange_15 : decode cX3_arrange 15 = .ok (.ifCond .le 49, 3) := by decide +kernel
theorem dX3_arrange_18 : decode cX3_arrange 18 = .ok (.aload_n 0, 1) := by decide +kernel
theorem dX3_arrange_19 : decode cX3_arrange 19 = .ok (.aload_n 0, 1) := by decide +kernel
theorem dX3_arrange_20 : decode cX3_arrange 20 = .ok (.getfield 30, 3) := by decide +kernel
theorem dX3_arrange_23 : decode cX3_arrange 23 = .ok (.iload_n 3, 1) := by decide +kernel
theorem dX3_arrange_24 : decode cX3_arrange 24 = .ok (.iaload, 1) := by decide +kernel
theorem dX3_arrange_25 : decode cX3_arrange 25 = .ok (.aload_n 0, 1) := by decide +kernel
theorem dX3_arrange_26 : decode cX3_arrange 26 = .ok (.getfield 33, 3) := by decide +kernel
theorem dX3_arrange_29 : decode cX3_arrange 29 = .ok (.iload 4, 2) := by decide +kernel
theorem dX3_arrange_31 : decode cX3_arrange 31 = .ok (.iconst 1, 1) := by decide +kernel
theorem dX3_arrange_32 : decode cX3_arrange 32 = .ok (.isub, 1) := by decide +kernel
theorem dX3_arrange_33 : decode cX3_arrange 33 = .ok (.iaload, 1) := by decide +kernel
theorem dX3_arrange_34 : decode cX3_arrange 34 = .ok (.iload_n 1, 1) := by decide +kernel
theorem dX3_arrange_35 : decode cX3_arrange 35 = .ok (.aload_n 2, 1) := by decide +kernel
theorem dX3_arrange_36 : decode cX3_arrange 36 = .ok (.invokevirtual 63, 3) := by decide +kernel
theorem dX3_arrange_39 : decode cX3_arrange 39 = .ok (.ifCond .eq 25, 3) := by decide +kernel
theorem dX3_arrange_42 : decode cX3_arrange 42 = .ok (.aload_n 0, 1) := by decide +kernel
theorem dX3_arrange_43 : decode cX3_arrange 43 = .ok (.getfield 33, 3) := by decide +kernel
theorem dX3_arrange_46 : decode cX3_arrange 46 = .ok (.iload 4, 2) := by decide +kernel
theorem dX3_arrange_48 : decode cX3_arrange 48 = .ok (.aload_n 0, 1) := by decide +kernel
theorem dX3_arrange_49 : decode cX3_arrange 49 = .ok (.getfield 33, 3) := by decide +kernel
theorem dX3_arrange_52 : decode cX3_arrange 52 = .ok (.iload 4, 2) := by decide +kernel
theorem dX3_arrange_54 : decode cX3_arrange 54 = .ok (.iconst 1, 1) := by decide +kernel
theorem dX3_arrange_55 : decode cX3_arrange 55 = .ok (.isub, 1) := by decide +kernel
theorem dX3_arrange_56 : decode cX3_arrange 56 = .ok (.iaload, 1) := by decide +kernel
theorem dX3_arrange_57 : decode cX3_arrange 57 = .ok (.iastore, 1) := by decide +kernel
theorem dX3_arrange_58 : decode cX3_arrange 58 = .ok (.iinc 4 (-1), 3) := by decide +kernel
theorem dX3_arrange_61 : decode cX3_arrange 61 = .ok (.goto (-48), 3) := by decide +kernel
theorem dX3_arrange_64 : decode cX3_arrange 64 = .ok (.aload_n 0, 1) := by decide +kernel
theorem dX3_arrange_65 : decode cX3_arrange 65 = .ok (.getfield 33, 3) := by decide +kernel
theorem dX3_arrange_68 : decode cX3_arrange 68 = .ok (.iload 4, 2) := by decide +kernel
theorem dX3_arrange_70 : decode cX3_arrange 70 = .ok (.aload_n 0, 1) := by decide +kernel
theorem dX3_arrange_71 : decode cX3_arrange 71 = .ok (.getfield 30, 3) := by decide +kernel
theorem dX3_arrange_74 : decode cX3_arrange 74 = .ok (.iload_n 3, 1) := by decide +kernel
theorem dX3_arrange_75 : decode cX3_arrange 75 = .ok (.iaload, 1) := by decide +kernel
theorem dX3_arrange_76 : decode cX3_arrange 76 = .ok (.iastore, 1) := by decide +kernel
theorem dX3_arrange_77 : decode cX3_arrange 77 = .ok (.iinc 3 1, 3) := by decide +kernel
theorem dX3_arrange_80 : decode cX3_arrange 80 = .ok (.goto (-78), 3) := by decide +kernel
theorem dX3_arrange_83 : decode cX3_arrange 83 = .ok (.aload_n 0, 1) := by decide +kernel
theorem dX3_arrange_84 : decode cX3_arrange 84 = .ok (.getfield 40, 3) := by decide +kernel
theorem dX3_arrange_87 : decode cX3_arrange 87 = .ok (.ireturn, 1) := by decide +kernel
theorem dX3_openBefore_0 : decode cX3_openBefore 0 = .ok (.iconst 0, 1) := by decide +kernel
theorem dX3_openBefore_1 : decode cX3_openBefore 1 = .ok (.istore 4, 2) := by decide +kernel
theorem dX3_openBefore_3 : decode cX3_openBefore 3 = .ok (.iconst 0, 1) := by decide +kernel
theorem dX3_openBefore_4 : decode cX3_openBefore 4 = .ok (.istore 5, 2) := by decide +kernel
theorem dX3_openBefore_6 : decode cX3_openBefore 6 = .ok (.iload 5, 2) := by decide +kernel
theorem dX3_openBefore_8 : decode cX3_openBefore 8 = .ok (.aload_n 0, 1) := by decide +kernel
theorem dX3_openBefore_9 : decode cX3_openBefore 9 = .ok (.getfield 40, 3) := by decide +kernel
theorem dX3_openBefore_12 : decode cX3_openBefore 12 = .ok (.if_icmp .ge 29, 3) := by decide +kernel
theorem dX3_openBefore_15 : decode cX3_openBefore 15 = .ok (.aload_n 0, 1) := by decide +kernel
theorem dX3_openBefore_16 : decode cX3_openBefore 16 = .ok (.aload_n 0, 1) := by decide +kernel
theorem dX3_openBefore_17 : decode cX3_openBefore 17 = .ok (.getfield 30, 3) := by decide +kernel
theorem dX3_openBefore_20 : decode cX3_openBefore 20 = .ok (.iload 5, 2) := by decide +kernel
theorem dX3_openBefore_22 : decode cX3_openBefore 22 = .ok (.iaload, 1) := by decide +kernel
theorem dX3_openBefore_23 : decode cX3_openBefore 23 = .ok (.iload_n 1, 1) := by decide +kernel
theorem dX3_openBefore_24 : decode cX3_openBefore 24 = .ok (.iload_n 2, 1) := by decide +kernel
theorem dX3_openBefore_25 : decode cX3_openBefore 25 = .ok (.aload_n 3, 1) := by decide +kernel
theorem dX3_openBefore_26 : decode cX3_openBefore 26 = .ok (.invokevirtual 63, 3) := by decide +kernel
theorem dX3_openBefore_29 : decode cX3_openBefore 29 = .ok (.ifCond .eq 6, 3) := by decide +kernel
theorem dX3_openBefore_32 : decode cX3_openBefore 32 = .ok (.iinc 4 1, 3) := by decide +kernel
theorem dX3_openBefore_35 : decode cX3_openBefore 35 = .ok (.iinc 5 1, 3) := by decide +kernel
theorem dX3_openBefore_38 : decode cX3_openBefore 38 = .ok (.goto (-32), 3) := by decide +kernel
theorem dX3_openBefore_41 : decode cX3_openBefore 41 = .ok (.iload 4, 2) := by decide +kernel
theorem dX3_openBefore_43 : decode cX3_openBefore 43 = .ok (.ireturn, 1) := by decide +kernel
theorem dX3_comesBefore_0 : decode cX3_comesBefore 0 = .ok (.aload 4, 2) := by decide +kernel
theorem dX3_comesBefore_2 : decode cX3_comesBefore 2 = .ok (.getfield 67, 3) := by decide +kernel
theorem dX3_comesBefore_5 : decode cX3_comesBefore 5 = .ok (.aload_n 0, 1) := by decide +kernel
theorem dX3_comesBefore_6 : decode cX3_comesBefore 6 = .ok (.getfield 11, 3) := by decide +kernel
theorem dX3_comesBefore_9 : decode cX3_comesBefore 9 = .ok (.iload_n 1, 1) := by decide +kernel
theorem dX3_comesBefore_10 : decode cX3_comesBefore 10 = .ok (.invokestatic 51, 3) := by decide +kernel
theorem dX3_comesBefore_13 : decode cX3_comesBefore 13 = .ok (.invokestatic 51, 3) := by decide +kernel
theorem dX3_comesBefore_16 : decode cX3_comesBefore 16 = .ok (.i2l, 1) := by decide +kernel
theorem dX3_comesBefore_17 : decode cX3_comesBefore 17 = .ok (.lstore 5, 2) := by decide +kernel
theorem dX3_comesBefore_19 : decode cX3_comesBefore 19 = .ok (.aload 4, 2) := by decide +kernel
theorem dX3_comesBefore_21 : decode cX3_comesBefore 21 = .ok (.getfield 67, 3) := by decide +kernel
theorem dX3_comesBefore_24 : decode cX3_comesBefore 24 = .ok (.aload_n 0, 1) := by decide +kernel
theorem dX3_comesBefore_25 : decode cX3_comesBefore 25 = .ok (.getfield 11, 3) := by decide +kernel
theorem dX3_comesBefore_28 : decode cX3_comesBefore 28 = .ok (.iload_n 2, 1) := by decide +kernel
theorem dX3_comesBefore_29 : decode cX3_comesBefore 29 = .ok (.invokestatic 51, 3) := by decide +kernel
theorem dX3_comesBefore_32 : decode cX3_comesBefore 32 = .ok (.invokestatic 51, 3) := by decide +kernel
theorem dX3_comesBefore_35 : decode cX3_comesBefore 35 = .ok (.i2l, 1) := by decide +kernel
theorem dX3_comesBefore_36 : decode cX3_comesBefore 36 = .ok (.lstore 7, 2) := by decide +kernel
theorem dX3_comesBefore_38 : decode cX3_comesBefore 38 = .ok (.lconst 0, 1) := by decide +kernel
theorem dX3_comesBefore_39 : decode cX3_comesBefore 39 = .ok (.lstore 9, 2) := by decide +kernel
theorem dX3_comesBefore_41 : decode cX3_comesBefore 41 = .ok (.iload_n 3, 1) := by decide +kernel
theorem dX3_comesBefore_42 : decode cX3_comesBefore 42 = .ok (.iconst 1, 1) := by decide +kernel
theorem dX3_comesBefore_43 : decode cX3_comesBefore 43 = .ok (.if_icmp .ne 13, 3) := by decide +kernel
theorem dX3_comesBefore_46 : decode cX3_comesBefore 46 = .ok (.lload 5, 2) := by decide +kernel
theorem dX3_comesBefore_48 : decode cX3_comesBefore 48 = .ok (.lload 7, 2) := by decide +kernel
theorem dX3_comesBefore_50 : decode cX3_comesBefore 50 = .ok (.lsub, 1) := by decide +kernel
theorem dX3_comesBefore_51 : decode cX3_comesBefore 51 = .ok (.lstore 9, 2) := by decide +kernel
theorem dX3_comesBefore_53 : decode cX3_comesBefore 53 = .ok (.goto 57, 3) := by decide +kernel
theorem dX3_comesBefore_56 : decode cX3_comesBefore 56 = .ok (.iload_n 3, 1) := by decide +kernel
theorem dX3_comesBefore_57 : decode cX3_comesBefore 57 = .ok (.iconst 2, 1) := by decide +kernel
theorem dX3_comesBefore_58 : decode cX3_comesBefore 58 = .ok (.if_icmp .ne 26, 3) := by decide +kernel
theorem dX3_comesBefore_61 : decode cX3_comesBefore 61 = .ok (.aload_n 0, 1) := by decide +kernel
theorem dX3_comesBefore_62 : decode cX3_comesBefore 62 = .ok (.getfield 21, 3) := by decide +kernel
theorem dX3_comesBefore_65 : decode cX3_comesBefore 65 = .ok (.iload_n 2, 1) := by decide +kernel
theorem dX3_comesBefore_66 : decode cX3_comesBefore 66 = .ok (.invokestatic 51, 3) := by decide +kernel
theorem dX3_comesBefore_69 : decode cX3_comesBefore 69 = .ok (.aload_n 0, 1) := by decide +kernel
theorem dX3_comesBefore_70 : decode cX3_comesBefore 70 = .ok (.getfield 21, 3) := by decide +kernel
theorem dX3_comesBefore_73 : decode cX3_comesBefore 73 = .ok (.iload_n 1, 1) := by decide +kernel
theorem dX3_comesBefore_74 : decode cX3_comesBefore 74 = .ok (.invokestatic 51, 3) := by decide +kernel
theorem dX3_comesBefore_77 : decode cX3_comesBefore 77 = .ok (.isub, 1) := by decide +kernel
theorem dX3_comesBefore_78 : decode cX3_comesBefore 78 = .ok (.i2l, 1) := by decide +kernel
theorem dX3_comesBefore_79 : decode cX3_comesBefore 79 = .ok (.lstore 9, 2) := by decide +kernel
theorem dX3_comesBefore_81 : decode cX3_comesBefore 81 = .ok (.goto 29, 3) := by decide +kernel
theorem dX3_comesBefore_84 : decode cX3_comesBefore 84 = .ok (.iload_n 3, 1) := by decide +kernel
theorem dX3_comesBefore_85 : decode cX3_comesBefore 85 = .ok (.iconst 3, 1) := by decide +kernel
theorem dX3_comesBefore_86 : decode cX3_comesBefore 86 = .ok (.if_icmp .ne 24, 3) := by decide +kernel
theorem dX3_comesBefore_89 : decode cX3_comesBefore 89 = .ok (.lload 5, 2) := by decide +kernel
theorem dX3_comesBefore_91 : decode cX3_comesBefore 91 = .ok (.aload_n 0, 1) := by decide +kernel
theorem dX3_comesBefore_92 : decode cX3_comesBefore 92 = .ok (.iload_n 2, 1) := by decide +kernel
theorem dX3_comesBefore_93 : decode cX3_comesBefore 93 = .ok (.invokevirtual 72, 3) := by decide +kernel
theorem dX3_comesBefore_96 : decode cX3_comesBefore 96 = .ok (.i2l, 1) := by decide +kernel
theorem dX3_comesBefore_97 : decode cX3_comesBefore 97 = .ok (.lmul, 1) := by decide +kernel
theorem dX3_comesBefore_98 : decode cX3_comesBefore 98 = .ok (.lload 7, 2) := by decide +kernel
theorem dX3_comesBefore_100 : decode cX3_comesBefore 100 = .ok (.aload_n 0, 1) := by decide +kernel
theorem dX3_comesBefore_101 : decode cX3_comesBefore 101 = .ok (.iload_n 1, 1) := by decide +kernel
theorem dX3_comesBefore_102 : decode cX3_comesBefore 102 = .ok (.invokevirtual 72, 3) := by decide +kernel
theorem dX3_comesBefore_105 : decode cX3_comesBefore 105 = .ok (.i2l, 1) := by decide +kernel
theorem dX3_comesBefore_106 : decode cX3_comesBefore 106 = .ok (.lmul, 1) := by decide +kernel
theorem dX3_comesBefore_107 : decode cX3_comesBefore 107 = .ok (.lsub, 1) := by decide +kernel
theorem dX3_comesBefore_108 : decode cX3_comesBefore 108 = .ok (.lstore 9, 2) := by decide +kernel
theorem dX3_comesBefore_110 : decode cX3_comesBefore 110 = .ok (.lload 9, 2) := by decide +kernel
theorem dX3_comesBefore_112 : decode cX3_comesBefore 112 = .ok (.lconst 0, 1) := by decide +kernel
theorem dX3_comesBefore_113 : decode cX3_comesBefore 113 = .ok (.lcmp, 1) := by decide +kernel
theorem dX3_comesBefore_114 : decode cX3_comesBefore 114 = .ok (.ifCond .ne 16, 3) := by decide +kernel
theorem dX3_comesBefore_117 : decode cX3_comesBefore 117 = .ok (.iload_n 1, 1) := by decide +kernel
theorem dX3_comesBefore_118 : decode cX3_comesBefore 118 = .ok (.iload_n 2, 1) := by decide +kernel
theorem dX3_comesBefore_119 : decode cX3_comesBefore 119 = .ok (.if_icmp .ge 7, 3) := by decide +kernel
theorem dX3_comesBefore_122 : decode cX3_comesBefore 122 = .ok (.iconst 1, 1) := by decide +kernel
theorem dX3_comesBefore_123 : decode cX3_comesBefore 123 = .ok (.goto 19, 3) := by decide +kernel
theorem dX3_comesBefore_126 : decode cX3_comesBefore 126 = .ok (.iconst 0, 1) := by decide +kernel
theorem dX3_comesBefore_127 : decode cX3_comesBefore 127 = .ok (.goto 15, 3) := by decide +kernel
theorem dX3_comesBefore_130 : decode cX3_comesBefore 130 = .ok (.lload 9, 2) := by decide +kernel
theorem dX3_comesBefore_132 : decode cX3_comesBefore 132 = .ok (.lconst 0, 1) := by decide +kernel
theorem dX3_comesBefore_133 : decode cX3_comesBefore 133 = .ok (.lcmp, 1) := by decide +kernel
theorem dX3_comesBefore_134 : decode cX3_comesBefore 134 = .ok (.ifCond .le 7, 3) := by decide +kernel
theorem dX3_comesBefore_137 : decode cX3_comesBefore 137 = .ok (.iconst 1, 1) := by decide +kernel
theorem dX3_comesBefore_138 : decode cX3_comesBefore 138 = .ok (.goto 4, 3) := by decide +kernel
theorem dX3_comesBefore_141 : decode cX3_comesBefore 141 = .ok (.iconst 0, 1) := by decide +kernel
theorem dX3_comesBefore_142 : decode cX3_comesBefore 142 = .ok (.ireturn, 1) := by decide +kernel
theorem dX3_property_0 : decode cX3_property 0 = .ok (.iload_n 2, 1) := by decide +kernel
theorem dX3_property_1 : decode cX3_property 1 = .ok (.tableswitch 80 0 4 #[35, 44, 53, 62, 71], 35) := by decide +kernel
theorem dX3_property_36 : decode cX3_property 36 = .ok (.aload_n 0, 1) := by decide +kernel
theorem dX3_property_37 : decode cX3_property 37 = .ok (.getfield 11, 3) := by decide +kernel
theorem dX3_property_40 : decode cX3_property 40 = .ok (.iload_n 1, 1) := by decide +kernel
theorem dX3_property_41 : decode cX3_property 41 = .ok (.invokestatic 51, 3) := by decide +kernel
theorem dX3_property_44 : decode cX3_property 44 = .ok (.ireturn, 1) := by decide +kernel
theorem dX3_property_45 : decode cX3_property 45 = .ok (.aload_n 0, 1) := by decide +kernel
theorem dX3_property_46 : decode cX3_property 46 = .ok (.getfield 15, 3) := by decide +kernel
theorem dX3_property_49 : decode cX3_property 49 = .ok (.iload_n 1, 1) := by decide +kernel
theorem dX3_property_50 : decode cX3_property 50 = .ok (.invokestatic 51, 3) := by decide +kernel
theorem dX3_property_53 : decode cX3_property 53 = .ok (.ireturn, 1) := by decide +kernel
theorem dX3_property_54 : decode cX3_property 54 = .ok (.aload_n 0, 1) := by decide +kernel
theorem dX3_property_55 : decode cX3_property 55 = .ok (.getfield 18, 3) := by decide +kernel
theorem dX3_property_58 : decode cX3_property 58 = .ok (.iload_n 1, 1) := by decide +kernel
theorem dX3_property_59 : decode cX3_property 59 = .ok (.invokestatic 51, 3) := by decide +kernel
theorem dX3_property_62 : decode cX3_property 62 = .ok (.ireturn, 1) := by decide +kernel
theorem dX3_property_63 : decode cX3_property 63 = .ok (.aload_n 0, 1) := by decide +kernel
theorem dX3_property_64 : decode cX3_property 64 = .ok (.getfield 21, 3) := by decide +kernel
theorem dX3_property_67 : decode cX3_property 67 = .ok (.iload_n 1, 1) := by decide +kernel
theorem dX3_property_68 : decode cX3_property 68 = .ok (.invokestatic 51, 3) := by decide +kernel
theorem dX3_property_71 : decode cX3_property 71 = .ok (.ireturn, 1) := by decide +kernel
theorem dX3_property_72 : decode cX3_property 72 = .ok (.aload_n 0, 1) := by decide +kernel
theorem dX3_property_73 : decode cX3_property 73 = .ok (.getfield 24, 3) := by decide +kernel
theorem dX3_property_76 : decode cX3_property 76 = .ok (.iload_n 1, 1) := by decide +kernel
theorem dX3_property_77 : decode cX3_property 77 = .ok (.invokestatic 51, 3) := by decide +kernel
theorem dX3_property_80 : decode cX3_property 80 = .ok (.ireturn, 1) := by decide +kernel
theorem dX3_property_81 : decode cX3_property 81 = .ok (.aload_n 0, 1) := by decide +kernel
theorem dX3_property_82 : decode cX3_property 82 = .ok (.getfield 27, 3) := by decide +kernel
theorem dX3_property_85 : decode cX3_property 85 = .ok (.iload_n 1, 1) := by decide +kernel
theorem dX3_property_86 : decode cX3_property 86 = .ok (.invokestatic 51, 3) := by decide +kernel
theorem dX3_property_89 : decode cX3_property 89 = .ok (.ireturn, 1) := by decide +kernel
theorem dX4_init_0 : decode cX4_init 0 = .ok (.aload_n 0, 1) := by decide +kernel
theorem dX4_init_1 : decode cX4_init 1 = .ok (.invokespecial 3, 3) := by decide +kernel
theorem dX4_init_4 : decode cX4_init 4 = .ok (.aload_n 0, 1) := by decide +kernel
theorem dX4_init_5 : decode cX4_init 5 = .ok (.bipush 8, 2) := by decide +kernel
theorem dX4_init_7 : decode cX4_init 7 = .ok (.newarray .int, 2) := by decide +kernel
theorem dX4_init_9 : decode cX4_init 9 = .ok (.putfield 9, 3) := by decide +kernel
theorem dX4_init_12 : decode cX4_init 12 = .ok (.getstatic 15, 3) := by decide +kernel
theorem dX4_init_15 : decode cX4_init 15 = .ok (.aload_n 0, 1) := by decide +kernel
theorem dX4_init_16 : decode cX4_init 16 = .ok (.getfield 9, 3) := by decide +kernel
theorem dX4_init_19 : decode cX4_init 19 = .ok (.invokestatic 18, 3) := by decide +kernel
theorem dX4_init_22 : decode cX4_init 22 = .ok (.aload_n 0, 1) := by decide +kernel
theorem dX4_init_23 : decode cX4_init 23 = .ok (.bipush 24, 2) := by decide +kernel
theorem dX4_init_25 : decode cX4_init 25 = .ok (.newarray .int, 2) := by decide +kernel
theorem dX4_init_27 : decode cX4_init 27 = .ok (.putfield 22, 3) := by decide +kernel
theorem dX4_init_30 : decode cX4_init 30 = .ok (.iconst 0, 1) := by decide +kernel
theorem dX4_init_31 : decode cX4_init 31 = .ok (.istore_n 1, 1) := by decide +kernel
theorem dX4_init_32 : decode cX4_init 32 = .ok (.iload_n 1, 1) := by decide +kernel
theorem dX4_init_33 : decode cX4_init 33 = .ok (.aload_n 0, 1) := by decide +kernel
theorem dX4_init_34 : decode cX4_init 34 = .ok (.getfield 22, 3) := by decide +kernel
theorem dX4_init_37 : decode cX4_init 37 = .ok (.arraylength, 1) := by decide +kernel
theorem dX4_init_38 : decode cX4_init 38 = .ok (.if_icmp .ge 17, 3) := by decide +kernel
theorem dX4_init_41 : decode cX4_init 41 = .ok (.aload_n 0, 1) := by decide +kernel
theorem dX4_init_42 : decode cX4_init 42 = .ok (.getfield 22, 3) := by decide +kernel
theorem dX4_init_45 : decode cX4_init 45 = .ok (.iload_n 1, 1) := by decide +kernel
theorem dX4_init_46 : decode cX4_init 46 = .ok (.bipush 10, 2) := by decide +kernel
theorem dX4_init_48 : decode cX4_init 48 = .ok (.iastore, 1) := by decide +kernel
theorem dX4_init_49 : decode cX4_init 49 = .ok (.iinc 1 1, 3) := by decide +kernel
theorem dX4_init_52 : decode cX4_init 52 = .ok (.goto (-20), 3) := by decide +kernel
theorem dX4_init_55 : decode cX4_init 55 = .ok (.aload_n 0, 1) := by decide +kernel
theorem dX4_init_56 : decode cX4_init 56 = .ok (.new 25, 3) := by decide +kernel
theorem dX4_init_59 : decode cX4_init 59 = .ok (.dup, 1) := by decide +kernel
theorem dX4_init_60 : decode cX4_init 60 = .ok (.invokespecial 27, 3) := by decide +kernel
theorem dX4_init_63 : decode cX4_init 63 = .ok (.putfield 28, 3) := by decide +kernel
theorem dX4_init_66 : decode cX4_init 66 = .ok (.aload_n 0, 1) := by decide +kernel
theorem dX4_init_67 : decode cX4_init 67 = .ok (.new 32, 3) := by decide +kernel
theorem dX4_init_70 : decode cX4_init 70 = .ok (.dup, 1) := by decide +kernel
theorem dX4_init_71 : decode cX4_init 71 = .ok (.invokespecial 34, 3) := by decide +kernel
theorem dX4_init_74 : decode cX4_init 74 = .ok (.putfield 35, 3) := by decide +kernel
theorem dX4_init_77 : decode cX4_init 77 = .ok (.aload_n 0, 1) := by decide +kernel
theorem dX4_init_78 : decode cX4_init 78 = .ok (.new 39, 3) := by decide +kernel
theorem dX4_init_81 : decode cX4_init 81 = .ok (.dup, 1) := by decide +kernel
theorem dX4_init_82 : decode cX4_init 82 = .ok (.invokespecial 41, 3) := by decide +kernel
theorem dX4_init_85 : decode cX4_init 85 = .ok (.putfield 42, 3) := by decide +kernel
theorem dX4_init_88 : decode cX4_init 88 = .ok (.aload_n 0, 1) := by decide +kernel
theorem dX4_init_89 : decode cX4_init 89 = .ok (.new 46, 3) := by decide +kernel
theorem dX4_init_92 : decode cX4_init 92 = .ok (.dup, 1) := by decide +kernel
theorem dX4_init_93 : decode cX4_init 93 = .ok (.invokespecial 48, 3) := by decide +kernel
theorem dX4_init_96 : decode cX4_init 96 = .ok (.putfield 49, 3) := by decide +kernel
theorem dX4_init_99 : decode cX4_init 99 = .ok (.aload_n 0, 1) := by decide +kernel
theorem dX4_init_100 : decode cX4_init 100 = .ok (.new 53, 3) := by decide +kernel
theorem dX4_init_103 : decode cX4_init 103 = .ok (.dup, 1) := by decide +kernel
theorem dX4_init_104 : decode cX4_init 104 = .ok (.invokespecial 55, 3) := by decide +kernel
theorem dX4_init_107 : decode cX4_init 107 = .ok (.putfield 56, 3) := by decide +kernel
theorem dX4_init_110 : decode cX4_init 110 = .ok (.return_, 1) := by decide +kernel
theorem dX4_copyFrom_0 : decode cX4_copyFrom 0 = .ok (.aload_n 1, 1) := by decide +kernel
theorem dX4_copyFrom_1 : decode cX4_copyFrom 1 = .ok (.getfield 9, 3) := by decide +kernel
theorem dX4_copyFrom_4 : decode cX4_copyFrom 4 = .ok (.aload_n 0, 1) := by decide +kernel
theorem dX4_copyFrom_5 : decode cX4_copyFrom 5 = .ok (.getfield 9, 3) := by decide +kernel
theorem dX4_copyFrom_8 : decode cX4_copyFrom 8 = .ok (.invokestatic 18, 3) := by decide +kernel
theorem dX4_copyFrom_11 : decode cX4_copyFrom 11 = .ok (.aload_n 1, 1) := by decide +kernel
theorem dX4_copyFrom_12 : decode cX4_copyFrom 12 = .ok (.getfield 22, 3) := by decide +kernel
theorem dX4_copyFrom_15 : decode cX4_copyFrom 15 = .ok (.aload_n 0, 1) := by decide +kernel
theorem dX4_copyFrom_16 : decode cX4_copyFrom 16 = .ok (.getfield 22, 3) := by decide +kernel
theorem dX4_copyFrom_19 : decode cX4_copyFrom 19 = .ok (.invokestatic 18, 3) := by decide +kernel
theorem dX4_copyFrom_22 : decode cX4_copyFrom 22 = .ok (.aload_n 0, 1) := by decide +kernel
theorem dX4_copyFrom_23 : decode cX4_copyFrom 23 = .ok (.getfield 28, 3) := by decide +kernel
theorem dX4_copyFrom_26 : decode cX4_copyFrom 26 = .ok (.aload_n 1, 1) := by decide +kernel
theorem dX4_copyFrom_27 : decode cX4_copyFrom 27 = .ok (.getfield 28, 3) := by decide +kernel
theorem dX4_copyFrom_30 : decode cX4_copyFrom 30 = .ok (.invokevirtual 60, 3) := by decide +kernel
theorem dX4_copyFrom_33 : decode cX4_copyFrom 33 = .ok (.aload_n 0, 1) := by decide +kernel
theorem dX4_copyFrom_34 : decode cX4_copyFrom 34 = .ok (.getfield 35, 3) := by decide +kernel
theorem dX4_copyFrom_37 : decode cX4_copyFrom 37 = .ok (.aload_n 1, 1) := by decide +kernel
theorem dX4_copyFrom_38 : decode cX4_copyFrom 38 = .ok (.getfield 35, 3) := by decide +kernel
theorem dX4_copyFrom_41 : decode cX4_copyFrom 41 = .ok (.invokevirtual 64, 3) := by decide +kernel
theorem dX4_copyFrom_44 : decode cX4_copyFrom 44 = .ok (.aload_n 0, 1) := by decide +kernel
theorem dX4_copyFrom_45 : decode cX4_copyFrom 45 = .ok (.getfield 42, 3) := by decide +kernel
theorem dX4_copyFrom_48 : decode cX4_copyFrom 48 = .ok (.aload_n 1, 1) := by decide +kernel
theorem dX4_copyFrom_49 : decode cX4_copyFrom 49 = .ok (.getfield 42, 3) := by decide +kernel
theorem dX4_copyFrom_52 : decode cX4_copyFrom 52 = .ok (.invokevirtual 67, 3) := by decide +kernel
theorem dX4_copyFrom_55 : decode cX4_copyFrom 55 = .ok (.aload_n 0, 1) := by decide +kernel
theorem dX4_copyFrom_56 : decode cX4_copyFrom 56 = .ok (.getfield 49, 3) := by decide +kernel
theorem dX4_copyFrom_59 : decode cX4_copyFrom 59 = .ok (.aload_n 1, 1) := by decide +kernel
theorem dX4_copyFrom_60 : decode cX4_copyFrom 60 = .ok (.getfield 49, 3) := by decide +kernel
theorem dX4_copyFrom_63 : decode cX4_copyFrom 63 = .ok (.invokevirtual 70, 3) := by decide +kernel
theorem dX4_copyFrom_66 : decode cX4_copyFrom 66 = .ok (.aload_n 0, 1) := by decide +kernel
theorem dX4_copyFrom_67 : decode cX4_copyFrom 67 = .ok (.getfield 56, 3) := by decide +kernel
theorem dX4_copyFrom_70 : decode cX4_copyFrom 70 = .ok (.aload_n 1, 1) := by decide +kernel
theorem dX4_copyFrom_71 : decode cX4_copyFrom 71 = .ok (.getfield 56, 3) := by decide +kernel
theorem dX4_copyFrom_74 : decode cX4_copyFrom 74 = .ok (.invokevirtual 73, 3) := by decide +kernel
theorem dX4_copyFrom_77 : decode cX4_copyFrom 77 = .ok (.aload_n 0, 1) := by decide +kernel
theorem dX4_copyFrom_78 : decode cX4_copyFrom 78 = .ok (.aload_n 1, 1) := by decide +kernel
theorem dX4_copyFrom_79 : decode cX4_copyFrom 79 = .ok (.getfield 76, 3) := by decide +kernel
theorem dX4_copyFrom_82 : decode cX4_copyFrom 82 = .ok (.putfield 76, 3) := by decide +kernel
theorem dX4_copyFrom_85 : decode cX4_copyFrom 85 = .ok (.aload_n 0, 1) := by decide +kernel
theorem dX4_copyFrom_86 : decode cX4_copyFrom 86 = .ok (.aload_n 1, 1) := by decide +kernel
theorem dX4_copyFrom_87 : decode cX4_copyFrom 87 = .ok (.getfield 80, 3) := by decide +kernel
theorem dX4_copyFrom_90 : decode cX4_copyFrom 90 = .ok (.putfield 80, 3) := by decide +kernel
theorem dX4_copyFrom_93 : decode cX4_copyFrom 93 = .ok (.aload_n 0, 1) := by decide +kernel
theorem dX4_copyFrom_94 : decode cX4_copyFrom 94 = .ok (.aload_n 1, 1) := by decide +kernel
theorem dX4_copyFrom_95 : decode cX4_copyFrom 95 = .ok (.getfield 83, 3) := by decide +kernel
theorem dX4_copyFrom_98 : decode cX4_copyFrom 98 = .ok (.putfield 83, 3) := by decide +kernel
theorem dX4_copyFrom_101 : decode cX4_copyFrom 101 = .ok (.aload_n 0, 1) := by decide +kernel
theorem dX4_copyFrom_102 : decode cX4_copyFrom 102 = .ok (.aload_n 1, 1) := by decide +kernel
theorem dX4_copyFrom_103 : decode cX4_copyFrom 103 = .ok (.getfield 86, 3) := by decide +kernel
theorem dX4_copyFrom_106 : decode cX4_copyFrom 106 = .ok (.putfield 86, 3) := by decide +kernel
theorem dX4_copyFrom_109 : decode cX4_copyFrom 109 = .ok (.aload_n 0, 1) := by decide +kernel
theorem dX4_copyFrom_110 : decode cX4_copyFrom 110 = .ok (.aload_n 1, 1) := by decide +kernel
theorem dX4_copyFrom_111 : decode cX4_copyFrom 111 = .ok (.getfield 89, 3) := by decide +kernel
theorem dX4_copyFrom_114 : decode cX4_copyFrom 114 = .ok (.putfield 89, 3) := by decide +kernel
theorem dX4_copyFrom_117 : decode cX4_copyFrom 117 = .ok (.aload_n 0, 1) := by decide +kernel
theorem dX4_copyFrom_118 : decode cX4_copyFrom 118 = .ok (.aload_n 1, 1) := by decide +kernel
theorem dX4_copyFrom_119 : decode cX4_copyFrom 119 = .ok (.getfield 93, 3) := by decide +kernel
theorem dX4_copyFrom_122 : decode cX4_copyFrom 122 = .ok (.putfield 93, 3) := by decide +kernel
theorem dX4_copyFrom_125 : decode cX4_copyFrom 125 = .ok (.return_, 1) := by decide +kernel
theorem dX4_letPass_0 : decode cX4_letPass 0 = .ok (.aload_n 0, 1) := by decide +kernel
theorem dX4_letPass_1 : decode cX4_letPass 1 = .ok (.getfield 83, 3) := by decide +kernel
theorem dX4_letPass_4 : decode cX4_letPass 4 = .ok (.istore_n 2, 1) := by decide +kernel
theorem dX4_letPass_5 : decode cX4_letPass 5 = .ok (.iconst 0, 1) := by decide +kernel
theorem dX4_letPass_6 : decode cX4_letPass 6 = .ok (.istore_n 3, 1) := by decide +kernel
theorem dX4_letPass_7 : decode cX4_letPass 7 = .ok (.iload_n 3, 1) := by decide +kernel
theorem dX4_letPass_8 : decode cX4_letPass 8 = .ok (.iload_n 1, 1) := by decide +kernel
theorem dX4_letPass_9 : decode cX4_letPass 9 = .ok (.if_icmp .ge 13, 3) := by decide +kernel
theorem dX4_letPass_12 : decode cX4_letPass 12 = .ok (.aload_n 0, 1) := by decide +kernel
theorem dX4_letPass_13 : decode cX4_letPass 13 = .ok (.invokevirtual 96, 3) := by decide +kernel
theorem dX4_letPass_16 : decode cX4_letPass 16 = .ok (.iinc 3 1, 3) := by decide +kernel
theorem dX4_letPass_19 : decode cX4_letPass 19 = .ok (.goto (-12), 3) := by decide +kernel
theorem dX4_letPass_22 : decode cX4_letPass 22 = .ok (.aload_n 0, 1) := by decide +kernel
theorem dX4_letPass_23 : decode cX4_letPass 23 = .ok (.getfield 83, 3) := by decide +kernel
theorem dX4_letPass_26 : decode cX4_letPass 26 = .ok (.iload_n 2, 1) := by decide +kernel
theorem dX4_letPass_27 : decode cX4_letPass 27 = .ok (.isub, 1) := by decide +kernel
theorem dX4_letPass_28 : decode cX4_letPass 28 = .ok (.ireturn, 1) := by decide +kernel
theorem dX4_passHour_0 : decode cX4_passHour 0 = .ok (.aload_n 0, 1) := by decide +kernel
theorem dX4_passHour_1 : decode cX4_passHour 1 = .ok (.getfield 76, 3) := by decide +kernel
theorem dX4_passHour_4 : decode cX4_passHour 4 = .ok (.bipush 24, 2) := by decide +kernel
theorem dX4_passHour_6 : decode cX4_passHour 6 = .ok (.irem, 1) := by decide +kernel
theorem dX4_passHour_7 : decode cX4_passHour 7 = .ok (.istore_n 1, 1) := by decide +kernel
theorem dX4_passHour_8 : decode cX4_passHour 8 = .ok (.aload_n 0, 1) := by decide +kernel
theorem dX4_passHour_9 : decode cX4_passHour 9 = .ok (.getfield 22, 3) := by decide +kernel
theorem dX4_passHour_12 : decode cX4_passHour 12 = .ok (.iload_n 1, 1) := by decide +kernel
theorem dX4_passHour_13 : decode cX4_passHour 13 = .ok (.invokestatic 99, 3) := by decide +kernel
theorem dX4_passHour_16 : decode cX4_passHour 16 = .ok (.istore_n 2, 1) := by decide +kernel
theorem dX4_passHour_17 : decode cX4_passHour 17 = .ok (.aload_n 0, 1) := by decide +kernel
theorem dX4_passHour_18 : decode cX4_passHour 18 = .ok (.getfield 28, 3) := by decide +kernel
theorem dX4_passHour_21 : decode cX4_passHour 21 = .ok (.iload_n 2, 1) := by decide +kernel
theorem dX4_passHour_22 : decode cX4_passHour 22 = .ok (.ifCond .le 7, 3) := by decide +kernel
theorem dX4_passHour_25 : decode cX4_passHour 25 = .ok (.iload_n 2, 1) := by decide +kernel
theorem dX4_passHour_26 : decode cX4_passHour 26 = .ok (.goto 4, 3) := by decide +kernel
theorem dX4_passHour_29 : decode cX4_passHour 29 = .ok (.iconst 0, 1) := by decide +kernel
theorem dX4_passHour_30 : decode cX4_passHour 30 = .ok (.invokevirtual 103, 3) := by decide +kernel
theorem dX4_passHour_33 : decode cX4_passHour 33 = .ok (.aload_n 0, 1) := by decide +kernel
theorem dX4_passHour_34 : decode cX4_passHour 34 = .ok (.invokevirtual 107, 3) := by decide +kernel
theorem dX4_passHour_37 : decode cX4_passHour 37 = .ok (.aload_n 0, 1) := by decide +kernel
theorem dX4_passHour_38 : decode cX4_passHour 38 = .ok (.getfield 42, 3) := by decide +kernel
theorem dX4_passHour_41 : decode cX4_passHour 41 = .ok (.aload_n 0, 1) := by decide +kernel
theorem dX4_passHour_42 : decode cX4_passHour 42 = .ok (.getfield 9, 3) := by decide +kernel
theorem dX4_passHour_45 : decode cX4_passHour 45 = .ok (.iconst 2, 1) := by decide +kernel
theorem dX4_passHour_46 : decode cX4_passHour 46 = .ok (.iaload, 1) := by decide +kernel
theorem dX4_passHour_47 : decode cX4_passHour 47 = .ok (.aload_n 0, 1) := by decide +kernel
theorem dX4_passHour_48 : decode cX4_passHour 48 = .ok (.getfield 35, 3) := by decide +kernel
theorem dX4_passHour_51 : decode cX4_passHour 51 = .ok (.invokevirtual 110, 3) := by decide +kernel
theorem dX4_passHour_54 : decode cX4_passHour 54 = .ok (.istore_n 3, 1) := by decide +kernel
theorem dX4_passHour_55 : decode cX4_passHour 55 = .ok (.iconst 0, 1) := by decide +kernel
theorem dX4_passHour_56 : decode cX4_passHour 56 = .ok (.istore 4, 2) := by decide +kernel
theorem dX4_passHour_58 : decode cX4_passHour 58 = .ok (.iload 4, 2) := by decide +kernel
theorem dX4_passHour_60 : decode cX4_passHour 60 = .ok (.iload_n 3, 1) := by decide +kernel
theorem dX4_passHour_61 : decode cX4_passHour 61 = .ok (.if_icmp .ge 42, 3) := by decide +kernel
theorem dX4_passHour_64 : decode cX4_passHour 64 = .ok (.aload_n 0, 1) := by decide +kernel
theorem dX4_passHour_65 : decode cX4_passHour 65 = .ok (.aload_n 0, 1) := by decide +kernel
theorem dX4_passHour_66 : decode cX4_passHour 66 = .ok (.getfield 42, 3) := by decide +kernel
theorem dX4_passHour_69 : decode cX4_passHour 69 = .ok (.getfield 114, 3) := by decide +kernel
theorem dX4_passHour_72 : decode cX4_passHour 72 = .ok (.iload 4, 2) := by decide +kernel
theorem dX4_passHour_74 : decode cX4_passHour 74 = .ok (.invokestatic 99, 3) := by decide +kernel
theorem dX4_passHour_77 : decode cX4_passHour 77 = .ok (.iload_n 1, 1) := by decide +kernel
theorem dX4_passHour_78 : decode cX4_passHour 78 = .ok (.bipush 6, 2) := by decide +kernel
theorem dX4_passHour_80 : decode cX4_passHour 80 = .ok (.if_icmp .lt 13, 3) := by decide +kernel
theorem dX4_passHour_83 : decode cX4_passHour 83 = .ok (.iload_n 1, 1) := by decide +kernel
theorem dX4_passHour_84 : decode cX4_passHour 84 = .ok (.bipush 21, 2) := by decide +kernel
theorem dX4_passHour_86 : decode cX4_passHour 86 = .ok (.if_icmp .gt 7, 3) := by decide +kernel
theorem dX4_passHour_89 : decode cX4_passHour 89 = .ok (.iconst 1, 1) := by decide +kernel
theorem dX4_passHour_90 : decode cX4_passHour 90 = .ok (.goto 4, 3) := by decide +kernel
theorem dX4_passHour_93 : decode cX4_passHour 93 = .ok (.iconst 0, 1) := by decide +kernel
theorem dX4_passHour_94 : decode cX4_passHour 94 = .ok (.invokevirtual 117, 3) := by decide +kernel
theorem dX4_passHour_97 : decode cX4_passHour 97 = .ok (.iinc 4 1, 3) := by decide +kernel
theorem dX4_passHour_100 : decode cX4_passHour 100 = .ok (.goto (-42), 3) := by decide +kernel
theorem dX4_passHour_103 : decode cX4_passHour 103 = .ok (.aload_n 0, 1) := by decide +kernel
theorem dX4_passHour_104 : decode cX4_passHour 104 = .ok (.getfield 42, 3) := by decide +kernel
theorem dX4_passHour_107 : decode cX4_passHour 107 = .ok (.invokevirtual 121, 3) := by decide +kernel
theorem dX4_passHour_110 : decode cX4_passHour 110 = .ok (.aload_n 0, 1) := by decide +kernel
theorem dX4_passHour_111 : decode cX4_passHour 111 = .ok (.getfield 28, 3) := by decide +kernel
theorem dX4_passHour_114 : decode cX4_passHour 114 = .ok (.invokevirtual 124, 3) := by decide +kernel
theorem dX4_passHour_117 : decode cX4_passHour 117 = .ok (.aload_n 0, 1) := by decide +kernel
theorem dX4_passHour_118 : decode cX4_passHour 118 = .ok (.dup, 1) := by decide +kernel
theorem dX4_passHour_119 : decode cX4_passHour 119 = .ok (.getfield 76, 3) := by decide +kernel
theorem dX4_passHour_122 : decode cX4_passHour 122 = .ok (.iconst 1, 1) := by decide +kernel
theorem dX4_passHour_123 : decode cX4_passHour 123 = .ok (.iadd, 1) := by decide +kernel
theorem dX4_passHour_124 : decode cX4_passHour 124 = .ok (.putfield 76, 3) := by decide +kernel
theorem dX4_passHour_127 : decode cX4_passHour 127 = .ok (.return_, 1) := by decide +kernel
theorem dX4_produce_0 : decode cX4_produce 0 = .ok (.iconst 0, 1) := by decide +kernel
theorem dX4_produce_1 : decode cX4_produce 1 = .ok (.istore_n 1, 1) := by decide +kernel
theorem dX4_produce_2 : decode cX4_produce 2 = .ok (.iload_n 1, 1) := by decide +kernel
theorem dX4_produce_3 : decode cX4_produce 3 = .ok (.aload_n 0, 1) := by decide +kernel
theorem dX4_produce_4 : decode cX4_produce 4 = .ok (.getfield 9, 3) := by decide +kernel
theorem dX4_produce_7 : decode cX4_produce 7 = .ok (.iconst 1, 1) := by decide +kernel
theorem dX4_produce_8 : decode cX4_produce 8 = .ok (.iaload, 1) := by decide +kernel
theorem dX4_produce_9 : decode cX4_produce 9 = .ok (.if_icmp .ge 53, 3) := by decide +kernel
theorem dX4_produce_12 : decode cX4_produce 12 = .ok (.aload_n 0, 1) := by decide +kernel
theorem dX4_produce_13 : decode cX4_produce 13 = .ok (.getfield 28, 3) := by decide +kernel
theorem dX4_produce_16 : decode cX4_produce 16 = .ok (.aload_n 0, 1) := by decide +kernel
theorem dX4_produce_17 : decode cX4_produce 17 = .ok (.getfield 9, 3) := by decide +kernel
theorem dX4_produce_20 : decode cX4_produce 20 = .ok (.iconst 0, 1) := by decide +kernel
theorem dX4_produce_21 : decode cX4_produce 21 = .ok (.iaload, 1) := by decide +kernel
theorem dX4_produce_22 : decode cX4_produce 22 = .ok (.invokevirtual 127, 3) := by decide +kernel
theorem dX4_produce_25 : decode cX4_produce 25 = .ok (.ifCond .eq 21, 3) := by decide +kernel
theorem dX4_produce_28 : decode cX4_produce 28 = .ok (.aload_n 0, 1) := by decide +kernel
theorem dX4_produce_29 : decode cX4_produce 29 = .ok (.dup, 1) := by decide +kernel
theorem dX4_produce_30 : decode cX4_produce 30 = .ok (.getfield 80, 3) := by decide +kernel
theorem dX4_produce_33 : decode cX4_produce 33 = .ok (.aload_n 0, 1) := by decide +kernel
theorem dX4_produce_34 : decode cX4_produce 34 = .ok (.getfield 9, 3) := by decide +kernel
theorem dX4_produce_37 : decode cX4_produce 37 = .ok (.iconst 0, 1) := by decide +kernel
theorem dX4_produce_38 : decode cX4_produce 38 = .ok (.iaload, 1) := by decide +kernel
theorem dX4_produce_39 : decode cX4_produce 39 = .ok (.iadd, 1) := by decide +kernel
theorem dX4_produce_40 : decode cX4_produce 40 = .ok (.putfield 80, 3) := by decide +kernel
theorem dX4_produce_43 : decode cX4_produce 43 = .ok (.goto 13, 3) := by decide +kernel
theorem dX4_produce_46 : decode cX4_produce 46 = .ok (.aload_n 0, 1) := by decide +kernel
theorem dX4_produce_47 : decode cX4_produce 47 = .ok (.dup, 1) := by decide +kernel
theorem dX4_produce_48 : decode cX4_produce 48 = .ok (.getfield 86, 3) := by decide +kernel
theorem dX4_produce_51 : decode cX4_produce 51 = .ok (.iconst 1, 1) := by decide +kernel
theorem dX4_produce_52 : decode cX4_produce 52 = .ok (.iadd, 1) := by decide +kernel
theorem dX4_produce_53 : decode cX4_produce 53 = .ok (.putfield 86, 3) := by decide +kernel
theorem dX4_produce_56 : decode cX4_produce 56 = .ok (.iinc 1 1, 3) := by decide +kernel
theorem dX4_produce_59 : decode cX4_produce 59 = .ok (.goto (-57), 3) := by decide +kernel
theorem dX4_produce_62 : decode cX4_produce 62 = .ok (.return_, 1) := by decide +kernel
theorem dX4_serve_0 : decode cX4_serve 0 = .ok (.aload_n 0, 1) := by decide +kernel
theorem dX4_serve_1 : decode cX4_serve 1 = .ok (.getfield 42, 3) := by decide +kernel
theorem dX4_serve_4 : decode cX4_serve 4 = .ok (.getfield 131, 3) := by decide +kernel
theorem dX4_serve_7 : decode cX4_serve 7 = .ok (.iload_n 1, 1) := by decide +kernel
theorem dX4_serve_8 : decode cX4_serve 8 = .ok (.invokestatic 99, 3) := by decide +kernel
theorem dX4_serve_11 : decode cX4_serve 11 = .ok (.istore_n 3, 1) := by decide +kernel
theorem dX4_serve_12 : decode cX4_serve 12 = .ok (.aload_n 0, 1) := by decide +kernel
theorem dX4_serve_13 : decode cX4_serve 13 = .ok (.iload_n 1, 1) := by decide +kernel
theorem dX4_serve_14 : decode cX4_serve 14 = .ok (.iload_n 3, 1) := by decide +kernel
theorem dX4_serve_15 : decode cX4_serve 15 = .ok (.invokevirtual 133, 3) := by decide +kernel
theorem dX4_serve_18 : decode cX4_serve 18 = .ok (.ifCond .eq 4, 3) := by decide +kernel
theorem dX4_serve_21 : decode cX4_serve 21 = .ok (.return_, 1) := by decide +kernel
theorem dX4_serve_22 : decode cX4_serve 22 = .ok (.aload_n 0, 1) := by decide +kernel
theorem dX4_serve_23 : decode cX4_serve 23 = .ok (.getfield 42, 3) := by decide +kernel
theorem dX4_serve_26 : decode cX4_serve 26 = .ok (.iload_n 1, 1) := by decide +kernel
theorem dX4_serve_27 : decode cX4_serve 27 = .ok (.invokevirtual 137, 3) := by decide +kernel
theorem dX4_serve_30 : decode cX4_serve 30 = .ok (.istore 4, 2) := by decide +kernel
theorem dX4_serve_32 : decode cX4_serve 32 = .ok (.iconst 0, 1) := by decide +kernel
theorem dX4_serve_33 : decode cX4_serve 33 = .ok (.istore 5, 2) := by decide +kernel
theorem dX4_serve_35 : decode cX4_serve 35 = .ok (.iconst 0, 1) := by decide +kernel
theorem dX4_serve_36 : decode cX4_serve 36 = .ok (.istore 6, 2) := by decide +kernel
theorem dX4_serve_38 : decode cX4_serve 38 = .ok (.aload_n 0, 1) := by decide +kernel
theorem dX4_serve_39 : decode cX4_serve 39 = .ok (.getfield 28, 3) := by decide +kernel
theorem dX4_serve_42 : decode cX4_serve 42 = .ok (.invokevirtual 141, 3) := by decide +kernel
theorem dX4_serve_45 : decode cX4_serve 45 = .ok (.istore 7, 2) := by decide +kernel
theorem dX4_serve_47 : decode cX4_serve 47 = .ok (.iconst 0, 1) := by decide +kernel
theorem dX4_serve_48 : decode cX4_serve 48 = .ok (.istore 8, 2) := by decide +kernel
theorem dX4_serve_50 : decode cX4_serve 50 = .ok (.iload 8, 2) := by decide +kernel
theorem dX4_serve_52 : decode cX4_serve 52 = .ok (.sipush 150, 3) := by decide +kernel
theorem dX4_serve_55 : decode cX4_serve 55 = .ok (.if_icmp .ge 62, 3) := by decide +kernel
theorem dX4_serve_58 : decode cX4_serve 58 = .ok (.iload 7, 2) := by decide +kernel
theorem dX4_serve_60 : decode cX4_serve 60 = .ok (.iconst (-1), 1) := by decide +kernel
theorem dX4_serve_61 : decode cX4_serve 61 = .ok (.if_icmp .eq 56, 3) := by decide +kernel
theorem dX4_serve_64 : decode cX4_serve 64 = .ok (.iload 5, 2) := by decide +kernel
theorem dX4_serve_66 : decode cX4_serve 66 = .ok (.iload 4, 2) := by decide +kernel
theorem dX4_serve_68 : decode cX4_serve 68 = .ok (.if_icmp .ge 49, 3) := by decide +kernel
theorem dX4_serve_71 : decode cX4_serve 71 = .ok (.aload_n 0, 1) := by decide +kernel
theorem dX4_serve_72 : decode cX4_serve 72 = .ok (.getfield 28, 3) := by decide +kernel
theorem dX4_serve_75 : decode cX4_serve 75 = .ok (.iload 7, 2) := by decide +kernel
theorem dX4_serve_77 : decode cX4_serve 77 = .ok (.invokevirtual 145, 3) := by decide +kernel
theorem dX4_serve_80 : decode cX4_serve 80 = .ok (.istore 9, 2) := by decide +kernel
theorem dX4_serve_82 : decode cX4_serve 82 = .ok (.iload 5, 2) := by decide +kernel
theorem dX4_serve_84 : decode cX4_serve 84 = .ok (.iload 9, 2) := by decide +kernel
theorem dX4_serve_86 : decode cX4_serve 86 = .ok (.iadd, 1) := by decide +kernel
theorem dX4_serve_87 : decode cX4_serve 87 = .ok (.istore 5, 2) := by decide +kernel
theorem dX4_serve_89 : decode cX4_serve 89 = .ok (.iload 6, 2) := by decide +kernel
theorem dX4_serve_91 : decode cX4_serve 91 = .ok (.aload_n 0, 1) := by decide +kernel
theorem dX4_serve_92 : decode cX4_serve 92 = .ok (.iload_n 3, 1) := by decide +kernel
theorem dX4_serve_93 : decode cX4_serve 93 = .ok (.iload 9, 2) := by decide +kernel
theorem dX4_serve_95 : decode cX4_serve 95 = .ok (.iload_n 2, 1) := by decide +kernel
theorem dX4_serve_96 : decode cX4_serve 96 = .ok (.invokevirtual 148, 3) := by decide +kernel
theorem dX4_serve_99 : decode cX4_serve 99 = .ok (.iadd, 1) := by decide +kernel
theorem dX4_serve_100 : decode cX4_serve 100 = .ok (.istore 6, 2) := by decide +kernel
theorem dX4_serve_102 : decode cX4_serve 102 = .ok (.aload_n 0, 1) := by decide +kernel
theorem dX4_serve_103 : decode cX4_serve 103 = .ok (.getfield 28, 3) := by decide +kernel
theorem dX4_serve_106 : decode cX4_serve 106 = .ok (.invokevirtual 141, 3) := by decide +kernel
theorem dX4_serve_109 : decode cX4_serve 109 = .ok (.istore 7, 2) := by decide +kernel
theorem dX4_serve_111 : decode cX4_serve 111 = .ok (.iinc 8 1, 3) := by decide +kernel
theorem dX4_serve_114 : decode cX4_serve 114 = .ok (.goto (-64), 3) := by decide +kernel
theorem dX4_serve_117 : decode cX4_serve 117 = .ok (.iload 5, 2) := by decide +kernel
theorem dX4_serve_119 : decode cX4_serve 119 = .ok (.ifCond .le 77, 3) := by decide +kernel
theorem dX4_serve_122 : decode cX4_serve 122 = .ok (.aload_n 0, 1) := by decide +kernel
theorem dX4_serve_123 : decode cX4_serve 123 = .ok (.getfield 42, 3) := by decide +kernel
theorem dX4_serve_126 : decode cX4_serve 126 = .ok (.iload_n 1, 1) := by decide +kernel
theorem dX4_serve_127 : decode cX4_serve 127 = .ok (.iload 5, 2) := by decide +kernel
theorem dX4_serve_129 : decode cX4_serve 129 = .ok (.invokevirtual 152, 3) := by decide +kernel
theorem dX4_serve_132 : decode cX4_serve 132 = .ok (.aload_n 0, 1) := by decide +kernel
theorem dX4_serve_133 : decode cX4_serve 133 = .ok (.getfield 35, 3) := by decide +kernel
theorem dX4_serve_136 : decode cX4_serve 136 = .ok (.iload_n 3, 1) := by decide +kernel
theorem dX4_serve_137 : decode cX4_serve 137 = .ok (.iload 5, 2) := by decide +kernel
theorem dX4_serve_139 : decode cX4_serve 139 = .ok (.iload 6, 2) := by decide +kernel
theorem dX4_serve_141 : decode cX4_serve 141 = .ok (.invokevirtual 155, 3) := by decide +kernel
theorem dX4_serve_144 : decode cX4_serve 144 = .ok (.aload_n 0, 1) := by decide +kernel
theorem dX4_serve_145 : decode cX4_serve 145 = .ok (.getfield 56, 3) := by decide +kernel
theorem dX4_serve_148 : decode cX4_serve 148 = .ok (.iload_n 3, 1) := by decide +kernel
theorem dX4_serve_149 : decode cX4_serve 149 = .ok (.iload_n 2, 1) := by decide +kernel
theorem dX4_serve_150 : decode cX4_serve 150 = .ok (.iload 5, 2) := by decide +kernel
theorem dX4_serve_152 : decode cX4_serve 152 = .ok (.iload 6, 2) := by decide +kernel
theorem dX4_serve_154 : decode cX4_serve 154 = .ok (.invokevirtual 159, 3) := by decide +kernel
theorem dX4_serve_157 : decode cX4_serve 157 = .ok (.aload_n 0, 1) := by decide +kernel
theorem dX4_serve_158 : decode cX4_serve 158 = .ok (.getfield 49, 3) := by decide +kernel
theorem dX4_serve_161 : decode cX4_serve 161 = .ok (.iload_n 1, 1) := by decide +kernel
theorem dX4_serve_162 : decode cX4_serve 162 = .ok (.iload 5, 2) := by decide +kernel
theorem dX4_serve_164 : decode cX4_serve 164 = .ok (.iload 6, 2) := by decide +kernel
theorem dX4_serve_166 : decode cX4_serve 166 = .ok (.aload_n 0, 1) := by decide +kernel
theorem dX4_serve_167 : decode cX4_serve 167 = .ok (.getfield 76, 3) := by decide +kernel
theorem dX4_serve_170 : decode cX4_serve 170 = .ok (.invokevirtual 163, 3) := by decide +kernel
theorem dX4_serve_173 : decode cX4_serve 173 = .ok (.aload_n 0, 1) := by decide +kernel
theorem dX4_serve_174 : decode cX4_serve 174 = .ok (.dup, 1) := by decide +kernel
theorem dX4_serve_175 : decode cX4_serve 175 = .ok (.getfield 83, 3) := by decide +kernel
theorem dX4_serve_178 : decode cX4_serve 178 = .ok (.iload 5, 2) := by decide +kernel
theorem dX4_serve_180 : decode cX4_serve 180 = .ok (.iadd, 1) := by decide +kernel
theorem dX4_serve_181 : decode cX4_serve 181 = .ok (.putfield 83, 3) := by decide +kernel
theorem dX4_serve_184 : decode cX4_serve 184 = .ok (.aload_n 0, 1) := by decide +kernel
theorem dX4_serve_185 : decode cX4_serve 185 = .ok (.dup, 1) := by decide +kernel
theorem dX4_serve_186 : decode cX4_serve 186 = .ok (.getfield 89, 3) := by decide +kernel
theorem dX4_serve_189 : decode cX4_serve 189 = .ok (.iload 6, 2) := by decide +kernel
theorem dX4_serve_191 : decode cX4_serve 191 = .ok (.i2l, 1) := by decide +kernel
theorem dX4_serve_192 : decode cX4_serve 192 = .ok (.ladd, 1) := by decide +kernel
theorem dX4_serve_193 : decode cX4_serve 193 = .ok (.putfield 89, 3) := by decide +kernel
theorem dX4_serve_196 : decode cX4_serve 196 = .ok (.return_, 1) := by decide +kernel
theorem dX4_isSkipped_0 : decode cX4_isSkipped 0 = .ok (.aload_n 0, 1) := by decide +kernel
theorem dX4_isSkipped_1 : decode cX4_isSkipped 1 = .ok (.getfield 35, 3) := by decide +kernel
theorem dX4_isSkipped_4 : decode cX4_isSkipped 4 = .ok (.getfield 166, 3) := by decide +kernel
theorem dX4_isSkipped_7 : decode cX4_isSkipped 7 = .ok (.iload_n 2, 1) := by decide +kernel
theorem dX4_isSkipped_8 : decode cX4_isSkipped 8 = .ok (.invokestatic 99, 3) := by decide +kernel
theorem dX4_isSkipped_11 : decode cX4_isSkipped 11 = .ok (.aload_n 0, 1) := by decide +kernel
theorem dX4_isSkipped_12 : decode cX4_isSkipped 12 = .ok (.getfield 9, 3) := by decide +kernel
theorem dX4_isSkipped_15 : decode cX4_isSkipped 15 = .ok (.iconst 3, 1) := by decide +kernel
theorem dX4_isSkipped_16 : decode cX4_isSkipped 16 = .ok (.iaload, 1) := by decide +kernel
theorem dX4_isSkipped_17 : decode cX4_isSkipped 17 = .ok (.if_icmp .le 5, 3) := by decide +kernel
theorem dX4_isSkipped_20 : decode cX4_isSkipped 20 = .ok (.iconst 1, 1) := by decide +kernel
theorem dX4_isSkipped_21 : decode cX4_isSkipped 21 = .ok (.ireturn, 1) := by decide +kernel
theorem dX4_isSkipped_22 : decode cX4_isSkipped 22 = .ok (.aload_n 0, 1) := by decide +kernel
theorem dX4_isSkipped_23 : decode cX4_isSkipped 23 = .ok (.getfield 42, 3) := by decide +kernel
theorem dX4_isSkipped_26 : decode cX4_isSkipped 26 = .ok (.iload_n 1, 1) := by decide +kernel
theorem dX4_isSkipped_27 : decode cX4_isSkipped 27 = .ok (.invokevirtual 169, 3) := by decide +kernel
theorem dX4_isSkipped_30 : decode cX4_isSkipped 30 = .ok (.ifCond .eq 25, 3) := by decide +kernel
theorem dX4_isSkipped_33 : decode cX4_isSkipped 33 = .ok (.aload_n 0, 1) := by decide +kernel
theorem dX4_isSkipped_34 : decode cX4_isSkipped 34 = .ok (.getfield 28, 3) := by decide +kernel
theorem dX4_isSkipped_37 : decode cX4_isSkipped 37 = .ok (.invokevirtual 172, 3) := by decide +kernel
theorem dX4_isSkipped_40 : decode cX4_isSkipped 40 = .ok (.aload_n 0, 1) := by decide +kernel
theorem dX4_isSkipped_41 : decode cX4_isSkipped 41 = .ok (.getfield 42, 3) := by decide +kernel
theorem dX4_isSkipped_44 : decode cX4_isSkipped 44 = .ok (.iload_n 1, 1) := by decide +kernel
theorem dX4_isSkipped_45 : decode cX4_isSkipped 45 = .ok (.invokevirtual 137, 3) := by decide +kernel
theorem dX4_isSkipped_48 : decode cX4_isSkipped 48 = .ok (.if_icmp .ge 7, 3) := by decide +kernel
theorem dX4_isSkipped_51 : decode cX4_isSkipped 51 = .ok (.iconst 1, 1) := by decide +kernel
theorem dX4_isSkipped_52 : decode cX4_isSkipped 52 = .ok (.goto 4, 3) := by decide +kernel
theorem dX4_isSkipped_55 : decode cX4_isSkipped 55 = .ok (.iconst 0, 1) := by decide +kernel
theorem dX4_isSkipped_56 : decode cX4_isSkipped 56 = .ok (.ireturn, 1) := by decide +kernel
theorem dX4_priceOf_0 : decode cX4_priceOf 0 = .ok (.iload_n 2, 1) := by decide +kernel
theorem dX4_priceOf_1 : decode cX4_priceOf 1 = .ok (.aload_n 0, 1) := by decide +kernel
theorem dX4_priceOf_2 : decode cX4_priceOf 2 = .ok (.getfield 9, 3) := by decide +kernel
theorem dX4_priceOf_5 : decode cX4_priceOf 5 = .ok (.iload_n 3, 1) := by decide +kernel
theorem dX4_priceOf_6 : decode cX4_priceOf 6 = .ok (.iconst 1, 1) := by decide +kernel
theorem dX4_priceOf_7 : decode cX4_priceOf 7 = .ok (.if_icmp .ne 7, 3) := by decide +kernel
theorem dX4_priceOf_10 : decode cX4_priceOf 10 = .ok (.iconst 4, 1) := by decide +kernel
theorem dX4_priceOf_11 : decode cX4_priceOf 11 = .ok (.goto 4, 3) := by decide +kernel
theorem dX4_priceOf_14 : decode cX4_priceOf 14 = .ok (.iconst 5, 1) := by decide +kernel
theorem dX4_priceOf_15 : decode cX4_priceOf 15 = .ok (.iaload, 1) := by decide +kernel
theorem dX4_priceOf_16 : decode cX4_priceOf 16 = .ok (.imul, 1) := by decide +kernel
theorem dX4_priceOf_17 : decode cX4_priceOf 17 = .ok (.istore 4, 2) := by decide +kernel
theorem dX4_priceOf_19 : decode cX4_priceOf 19 = .ok (.aload_n 0, 1) := by decide +kernel
theorem dX4_priceOf_20 : decode cX4_priceOf 20 = .ok (.getfield 35, 3) := by decide +kernel
theorem dX4_priceOf_23 : decode cX4_priceOf 23 = .ok (.getfield 175, 3) := by decide +kernel
theorem dX4_priceOf_26 : decode cX4_priceOf 26 = .ok (.iload_n 1, 1) := by decide +kernel
theorem dX4_priceOf_27 : decode cX4_priceOf 27 = .ok (.invokestatic 99, 3) := by decide +kernel
theorem dX4_priceOf_30 : decode cX4_priceOf 30 = .ok (.aload_n 0, 1) := by decide +kernel
theorem dX4_priceOf_31 : decode cX4_priceOf 31 = .ok (.getfield 9, 3) := by decide +kernel
theorem dX4_priceOf_34 : decode cX4_priceOf 34 = .ok (.bipush 6, 2) := by decide +kernel
theorem dX4_priceOf_36 : decode cX4_priceOf 36 = .ok (.iaload, 1) := by decide +kernel
theorem dX4_priceOf_37 : decode cX4_priceOf 37 = .ok (.if_icmp .lt 21, 3) := by decide +kernel
theorem dX4_priceOf_40 : decode cX4_priceOf 40 = .ok (.iload 4, 2) := by decide +kernel
theorem dX4_priceOf_42 : decode cX4_priceOf 42 = .ok (.iload 4, 2) := by decide +kernel
theorem dX4_priceOf_44 : decode cX4_priceOf 44 = .ok (.aload_n 0, 1) := by decide +kernel
theorem dX4_priceOf_45 : decode cX4_priceOf 45 = .ok (.getfield 9, 3) := by decide +kernel
theorem dX4_priceOf_48 : decode cX4_priceOf 48 = .ok (.bipush 7, 2) := by decide +kernel
theorem dX4_priceOf_50 : decode cX4_priceOf 50 = .ok (.iaload, 1) := by decide +kernel
theorem dX4_priceOf_51 : decode cX4_priceOf 51 = .ok (.imul, 1) := by decide +kernel
theorem dX4_priceOf_52 : decode cX4_priceOf 52 = .ok (.bipush 100, 2) := by decide +kernel
theorem dX4_priceOf_54 : decode cX4_priceOf 54 = .ok (.idiv, 1) := by decide +kernel
theorem dX4_priceOf_55 : decode cX4_priceOf 55 = .ok (.isub, 1) := by decide +kernel
theorem dX4_priceOf_56 : decode cX4_priceOf 56 = .ok (.istore 4, 2) := by decide +kernel
theorem dX4_priceOf_58 : decode cX4_priceOf 58 = .ok (.iload 4, 2) := by decide +kernel
theorem dX4_priceOf_60 : decode cX4_priceOf 60 = .ok (.ireturn, 1) := by decide +kernel
theorem dX4_takePayment_0 : decode cX4_takePayment 0 = .ok (.aload_n 0, 1) := by decide +kernel
theorem dX4_takePayment_1 : decode cX4_takePayment 1 = .ok (.dup, 1) := by decide +kernel
theorem dX4_takePayment_2 : decode cX4_takePayment 2 = .ok (.getfield 93, 3) := by decide +kernel
theorem dX4_takePayment_5 : decode cX4_takePayment 5 = .ok (.iload_n 2, 1) := by decide +kernel
theorem dX4_takePayment_6 : decode cX4_takePayment 6 = .ok (.i2l, 1) := by decide +kernel
theorem dX4_takePayment_7 : decode cX4_takePayment 7 = .ok (.ladd, 1) := by decide +kernel
theorem dX4_takePayment_8 : decode cX4_takePayment 8 = .ok (.putfield 93, 3) := by decide +kernel
theorem dX4_takePayment_11 : decode cX4_takePayment 11 = .ok (.aload_n 0, 1) := by decide +kernel
theorem dX4_takePayment_12 : decode cX4_takePayment 12 = .ok (.getfield 35, 3) := by decide +kernel
theorem dX4_takePayment_15 : decode cX4_takePayment 15 = .ok (.iload_n 1, 1) := by decide +kernel
theorem dX4_takePayment_16 : decode cX4_takePayment 16 = .ok (.iload_n 2, 1) := by decide +kernel
theorem dX4_takePayment_17 : decode cX4_takePayment 17 = .ok (.invokevirtual 178, 3) := by decide +kernel
theorem dX4_takePayment_20 : decode cX4_takePayment 20 = .ok (.ireturn, 1) := by decide +kernel
theorem dX4_ordersBefore_0 : decode cX4_ordersBefore 0 = .ok (.aload_n 0, 1) := by decide +kernel
theorem dX4_ordersBefore_1 : decode cX4_ordersBefore 1 = .ok (.getfield 42, 3) := by decide +kernel
theorem dX4_ordersBefore_4 : decode cX4_ordersBefore 4 = .ok (.iload_n 1, 1) := by decide +kernel
theorem dX4_ordersBefore_5 : decode cX4_ordersBefore 5 = .ok (.invokevirtual 182, 3) := by decide +kernel
theorem dX4_ordersBefore_8 : decode cX4_ordersBefore 8 = .ok (.ifCond .eq 24, 3) := by decide +kernel
theorem dX4_ordersBefore_11 : decode cX4_ordersBefore 11 = .ok (.aload_n 0, 1) := by decide +kernel
theorem dX4_ordersBefore_12 : decode cX4_ordersBefore 12 = .ok (.getfield 42, 3) := by decide +kernel
theorem dX4_ordersBefore_15 : decode cX4_ordersBefore 15 = .ok (.iload_n 1, 1) := by decide +kernel
theorem dX4_ordersBefore_16 : decode cX4_ordersBefore 16 = .ok (.aload_n 0, 1) := by decide +kernel
theorem dX4_ordersBefore_17 : decode cX4_ordersBefore 17 = .ok (.getfield 9, 3) := by decide +kernel
theorem dX4_ordersBefore_20 : decode cX4_ordersBefore 20 = .ok (.iconst 2, 1) := by decide +kernel
theorem dX4_ordersBefore_21 : decode cX4_ordersBefore 21 = .ok (.iaload, 1) := by decide +kernel
theorem dX4_ordersBefore_22 : decode cX4_ordersBefore 22 = .ok (.aload_n 0, 1) := by decide +kernel
theorem dX4_ordersBefore_23 : decode cX4_ordersBefore 23 = .ok (.getfield 35, 3) := by decide +kernel
theorem dX4_ordersBefore_26 : decode cX4_ordersBefore 26 = .ok (.invokevirtual 185, 3) := by decide +kernel
theorem dX4_ordersBefore_29 : decode cX4_ordersBefore 29 = .ok (.goto 4, 3) := by decide +kernel
theorem dX4_ordersBefore_32 : decode cX4_ordersBefore 32 = .ok (.iconst (-1), 1) := by decide +kernel
theorem dX4_ordersBefore_33 : decode cX4_ordersBefore 33 = .ok (.ireturn, 1) := by decide +kernel
theorem dX4_totalOf_0 : decode cX4_totalOf 0 = .ok (.iload_n 1, 1) := by decide +kernel
theorem dX4_totalOf_1 : decode cX4_totalOf 1 = .ok (.tableswitch 177 0 13 #[71, 77, 83, 89, 98, 107, 113, 122, 131, 140, 149, 158, 163, 168], 71) := by decide +kernel
theorem dX4_totalOf_72 : decode cX4_totalOf 72 = .ok (.aload_n 0, 1) := by decide +kernel
theorem dX4_totalOf_73 : decode cX4_totalOf 73 = .ok (.getfield 76, 3) := by decide +kernel
theorem dX4_totalOf_76 : decode cX4_totalOf 76 = .ok (.i2l, 1) := by decide +kernel
theorem dX4_totalOf_77 : decode cX4_totalOf 77 = .ok (.lreturn, 1) := by decide +kernel
theorem dX4_totalOf_78 : decode cX4_totalOf 78 = .ok (.aload_n 0, 1) := by decide +kernel
theorem dX4_totalOf_79 : decode cX4_totalOf 79 = .ok (.getfield 80, 3) := by decide +kernel
theorem dX4_totalOf_82 : decode cX4_totalOf 82 = .ok (.i2l, 1) := by decide +kernel
theorem dX4_totalOf_83 : decode cX4_totalOf 83 = .ok (.lreturn, 1) := by decide +kernel
theorem dX4_totalOf_84 : decode cX4_totalOf 84 = .ok (.aload_n 0, 1) := by decide +kernel
theorem dX4_totalOf_85 : decode cX4_totalOf 85 = .ok (.getfield 83, 3) := by decide +kernel
theorem dX4_totalOf_88 : decode cX4_totalOf 88 = .ok (.i2l, 1) := by decide +kernel
theorem dX4_totalOf_89 : decode cX4_totalOf 89 = .ok (.lreturn, 1) := by decide +kernel
theorem dX4_totalOf_90 : decode cX4_totalOf 90 = .ok (.aload_n 0, 1) := by decide +kernel
theorem dX4_totalOf_91 : decode cX4_totalOf 91 = .ok (.getfield 28, 3) := by decide +kernel
theorem dX4_totalOf_94 : decode cX4_totalOf 94 = .ok (.invokevirtual 189, 3) := by decide +kernel
theorem dX4_totalOf_97 : decode cX4_totalOf 97 = .ok (.i2l, 1) := by decide +kernel
theorem dX4_totalOf_98 : decode cX4_totalOf 98 = .ok (.lreturn, 1) := by decide +kernel
theorem dX4_totalOf_99 : decode cX4_totalOf 99 = .ok (.aload_n 0, 1) := by decide +kernel
theorem dX4_totalOf_100 : decode cX4_totalOf 100 = .ok (.getfield 28, 3) := by decide +kernel
theorem dX4_totalOf_103 : decode cX4_totalOf 103 = .ok (.invokevirtual 172, 3) := by decide +kernel
theorem dX4_totalOf_106 : decode cX4_totalOf 106 = .ok (.i2l, 1) := by decide +kernel
theorem dX4_totalOf_107 : decode cX4_totalOf 107 = .ok (.lreturn, 1) := by decide +kernel
theorem dX4_totalOf_108 : decode cX4_totalOf 108 = .ok (.aload_n 0, 1) := by decide +kernel
theorem dX4_totalOf_109 : decode cX4_totalOf 109 = .ok (.getfield 86, 3) := by decide +kernel
theorem dX4_totalOf_112 : decode cX4_totalOf 112 = .ok (.i2l, 1) := by decide +kernel
theorem dX4_totalOf_113 : decode cX4_totalOf 113 = .ok (.lreturn, 1) := by decide +kernel
theorem dX4_totalOf_114 : decode cX4_totalOf 114 = .ok (.aload_n 0, 1) := by decide +kernel
theorem dX4_totalOf_115 : decode cX4_totalOf 115 = .ok (.getfield 28, 3) := by decide +kernel
theorem dX4_totalOf_118 : decode cX4_totalOf 118 = .ok (.invokevirtual 192, 3) := by decide +kernel
theorem dX4_totalOf_121 : decode cX4_totalOf 121 = .ok (.i2l, 1) := by decide +kernel
theorem dX4_totalOf_122 : decode cX4_totalOf 122 = .ok (.lreturn, 1) := by decide +kernel
theorem dX4_totalOf_123 : decode cX4_totalOf 123 = .ok (.aload_n 0, 1) := by decide +kernel
theorem dX4_totalOf_124 : decode cX4_totalOf 124 = .ok (.getfield 28, 3) := by decide +kernel
theorem dX4_totalOf_127 : decode cX4_totalOf 127 = .ok (.getfield 195, 3) := by decide +kernel
theorem dX4_totalOf_130 : decode cX4_totalOf 130 = .ok (.i2l, 1) := by decide +kernel
theorem dX4_totalOf_131 : decode cX4_totalOf 131 = .ok (.lreturn, 1) := by decide +kernel
theorem dX4_totalOf_132 : decode cX4_totalOf 132 = .ok (.aload_n 0, 1) := by decide +kernel
theorem dX4_totalOf_133 : decode cX4_totalOf 133 = .ok (.getfield 35, 3) := by decide +kernel
theorem dX4_totalOf_136 : decode cX4_totalOf 136 = .ok (.getfield 198, 3) := by decide +kernel
theorem dX4_totalOf_139 : decode cX4_totalOf 139 = .ok (.i2l, 1) := by decide +kernel
theorem dX4_totalOf_140 : decode cX4_totalOf 140 = .ok (.lreturn, 1) := by decide +kernel
theorem dX4_totalOf_141 : decode cX4_totalOf 141 = .ok (.aload_n 0, 1) := by decide +kernel
theorem dX4_totalOf_142 : decode cX4_totalOf 142 = .ok (.getfield 42, 3) := by decide +kernel
theorem dX4_totalOf_145 : decode cX4_totalOf 145 = .ok (.getfield 201, 3) := by decide +kernel
theorem dX4_totalOf_148 : decode cX4_totalOf 148 = .ok (.i2l, 1) := by decide +kernel
theorem dX4_totalOf_149 : decode cX4_totalOf 149 = .ok (.lreturn, 1) := by decide +kernel
theorem dX4_totalOf_150 : decode cX4_totalOf 150 = .ok (.aload_n 0, 1) := by decide +kernel
theorem dX4_totalOf_151 : decode cX4_totalOf 151 = .ok (.getfield 42, 3) := by decide +kernel
theorem dX4_totalOf_154 : decode cX4_totalOf 154 = .ok (.getfield 202, 3) := by decide +kernel
theorem dX4_totalOf_157 : decode cX4_totalOf 157 = .ok (.i2l, 1) := by decide +kernel
theorem dX4_totalOf_158 : decode cX4_totalOf 158 = .ok (.lreturn, 1) := by decide +kernel
theorem dX4_totalOf_159 : decode cX4_totalOf 159 = .ok (.aload_n 0, 1) := by decide +kernel
theorem dX4_totalOf_160 : decode cX4_totalOf 160 = .ok (.getfield 89, 3) := by decide +kernel
theorem dX4_totalOf_163 : decode cX4_totalOf 163 = .ok (.lreturn, 1) := by decide +kernel
theorem dX4_totalOf_164 : decode cX4_totalOf 164 = .ok (.aload_n 0, 1) := by decide +kernel
theorem dX4_totalOf_165 : decode cX4_totalOf 165 = .ok (.getfield 93, 3) := by decide +kernel
theorem dX4_totalOf_168 : decode cX4_totalOf 168 = .ok (.lreturn, 1) := by decide +kernel
theorem dX4_totalOf_169 : decode cX4_totalOf 169 = .ok (.aload_n 0, 1) := by decide +kernel
theorem dX4_totalOf_170 : decode cX4_totalOf 170 = .ok (.getfield 49, 3) := by decide +kernel
theorem dX4_totalOf_173 : decode cX4_totalOf 173 = .ok (.invokevirtual 205, 3) := by decide +kernel
theorem dX4_totalOf_176 : decode cX4_totalOf 176 = .ok (.i2l, 1) := by decide +kernel
theorem dX4_totalOf_177 : decode cX4_totalOf 177 = .ok (.lreturn, 1) := by decide +kernel
theorem dX4_totalOf_178 : decode cX4_totalOf 178 = .ok (.aload_n 0, 1) := by decide +kernel
theorem dX4_totalOf_179 : decode cX4_totalOf 179 = .ok (.getfield 56, 3) := by decide +kernel
theorem dX4_totalOf_182 : decode cX4_totalOf 182 = .ok (.getfield 208, 3) := by decide +kernel
theorem dX4_totalOf_185 : decode cX4_totalOf 185 = .ok (.i2l, 1) := by decide +kernel
theorem dX4_totalOf_186 : decode cX4_totalOf 186 = .ok (.lreturn, 1) := by decide +kernel
theorem dX5_init_0 : decode cX5_init 0 = .ok (.aload_n 0, 1) := by decide +kernel
theorem dX5_init_1 : decode cX5_init 1 = .ok (.invokespecial 1, 3) := by decide +kernel
theorem dX5_init_4 : decode cX5_init 4 = .ok (.aload_n 0, 1) := by decide +kernel
theorem dX5_init_5 : decode cX5_init 5 = .ok (.bipush 16, 2) := by decide +kernel
theorem dX5_init_7 : decode cX5_init 7 = .ok (.newarray .int, 2) := by decide +kernel
theorem dX5_init_9 : decode cX5_init 9 = .ok (.putfield 9, 3) := by decide +kernel
theorem dX5_init_12 : decode cX5_init 12 = .ok (.aload_n 0, 1) := by decide +kernel
theorem dX5_init_13 : decode cX5_init 13 = .ok (.bipush 16, 2) := by decide +kernel
theorem dX5_init_15 : decode cX5_init 15 = .ok (.newarray .int, 2) := by decide +kernel
theorem dX5_init_17 : decode cX5_init 17 = .ok (.putfield 13, 3) := by decide +kernel
theorem dX5_init_20 : decode cX5_init 20 = .ok (.aload_n 0, 1) := by decide +kernel
theorem dX5_init_21 : decode cX5_init 21 = .ok (.bipush 16, 2) := by decide +kernel
theorem dX5_init_23 : decode cX5_init 23 = .ok (.newarray .int, 2) := by decide +kernel
theorem dX5_init_25 : decode cX5_init 25 = .ok (.putfield 16, 3) := by decide +kernel
theorem dX5_init_28 : decode cX5_init 28 = .ok (.aload_n 0, 1) := by decide +kernel
theorem dX5_init_29 : decode cX5_init 29 = .ok (.bipush 16, 2) := by decide +kernel
theorem dX5_init_31 : decode cX5_init 31 = .ok (.newarray .int, 2) := by decide +kernel
theorem dX5_init_33 : decode cX5_init 33 = .ok (.putfield 19, 3) := by decide +kernel
theorem dX5_init_36 : decode cX5_init 36 = .ok (.aload_n 0, 1) := by decide +kernel
theorem dX5_init_37 : decode cX5_init 37 = .ok (.bipush 16, 2) := by decide +kernel
theorem dX5_init_39 : decode cX5_init 39 = .ok (.newarray .int, 2) := by decide +kernel
theorem dX5_init_41 : decode cX5_init 41 = .ok (.putfield 22, 3) := by decide +kernel
theorem dX5_init_44 : decode cX5_init 44 = .ok (.return_, 1) := by decide +kernel
theorem dX5_copyFrom_0 : decode cX5_copyFrom 0 = .ok (.aload_n 0, 1) := by decide +kernel
theorem dX5_copyFrom_1 : decode cX5_copyFrom 1 = .ok (.aload_n 1, 1) := by decide +kernel
theorem dX5_copyFrom_2 : decode cX5_copyFrom 2 = .ok (.getfield 25, 3) := by decide +kernel
theorem dX5_copyFrom_5 : decode cX5_copyFrom 5 = .ok (.putfield 25, 3) := by decide +kernel
theorem dX5_copyFrom_8 : decode cX5_copyFrom 8 = .ok (.aload_n 0, 1) := by decide +kernel
theorem dX5_copyFrom_9 : decode cX5_copyFrom 9 = .ok (.aload_n 1, 1) := by decide +kernel
theorem dX5_copyFrom_10 : decode cX5_copyFrom 10 = .ok (.getfield 29, 3) := by decide +kernel
theorem dX5_copyFrom_13 : decode cX5_copyFrom 13 = .ok (.putfield 29, 3) := by decide +kernel
theorem dX5_copyFrom_16 : decode cX5_copyFrom 16 = .ok (.aload_n 1, 1) := by decide +kernel
theorem dX5_copyFrom_17 : decode cX5_copyFrom 17 = .ok (.getfield 9, 3) := by decide +kernel
theorem dX5_copyFrom_20 : decode cX5_copyFrom 20 = .ok (.aload_n 0, 1) := by decide +kernel
theorem dX5_copyFrom_21 : decode cX5_copyFrom 21 = .ok (.getfield 9, 3) := by decide +kernel
theorem dX5_copyFrom_24 : decode cX5_copyFrom 24 = .ok (.invokestatic 32, 3) := by decide +kernel
theorem dX5_copyFrom_27 : decode cX5_copyFrom 27 = .ok (.aload_n 1, 1) := by decide +kernel
theorem dX5_copyFrom_28 : decode cX5_copyFrom 28 = .ok (.getfield 13, 3) := by decide +kernel
theorem dX5_copyFrom_31 : decode cX5_copyFrom 31 = .ok (.aload_n 0, 1) := by decide +kernel
theorem dX5_copyFrom_32 : decode cX5_copyFrom 32 = .ok (.getfield 13, 3) := by decide +kernel
theorem dX5_copyFrom_35 : decode cX5_copyFrom 35 = .ok (.invokestatic 32, 3) := by decide +kernel
theorem dX5_copyFrom_38 : decode cX5_copyFrom 38 = .ok (.aload_n 1, 1) := by decide +kernel
theorem dX5_copyFrom_39 : decode cX5_copyFrom 39 = .ok (.getfield 16, 3) := by decide +kernel
theorem dX5_copyFrom_42 : decode cX5_copyFrom 42 = .ok (.aload_n 0, 1) := by decide +kernel
theorem dX5_copyFrom_43 : decode cX5_copyFrom 43 = .ok (.getfield 16, 3) := by decide +kernel
theorem dX5_copyFrom_46 : decode cX5_copyFrom 46 = .ok (.invokestatic 32, 3) := by decide +kernel
theorem dX5_copyFrom_49 : decode cX5_copyFrom 49 = .ok (.aload_n 1, 1) := by decide +kernel
theorem dX5_copyFrom_50 : decode cX5_copyFrom 50 = .ok (.getfield 19, 3) := by decide +kernel
theorem dX5_copyFrom_53 : decode cX5_copyFrom 53 = .ok (.aload_n 0, 1) := by decide +kernel
theorem dX5_copyFrom_54 : decode cX5_copyFrom 54 = .ok (.getfield 19, 3) := by decide +kernel
theorem dX5_copyFrom_57 : decode cX5_copyFrom 57 = .ok (.invokestatic 32, 3) := by decide +kernel
theorem dX5_copyFrom_60 : decode cX5_copyFrom 60 = .ok (.aload_n 1, 1) := by decide +kernel
theorem dX5_copyFrom_61 : decode cX5_copyFrom 61 = .ok (.getfield 22, 3) := by decide +kernel
theorem dX5_copyFrom_64 : decode cX5_copyFrom 64 = .ok (.aload_n 0, 1) := by decide +kernel
theorem dX5_copyFrom_65 : decode cX5_copyFrom 65 = .ok (.getfield 22, 3) := by decide +kernel
theorem dX5_copyFrom_68 : decode cX5_copyFrom 68 = .ok (.invokestatic 32, 3) := by decide +kernel
theorem dX5_copyFrom_71 : decode cX5_copyFrom 71 = .ok (.return_, 1) := by decide +kernel
theorem dX5_kept_0 : decode cX5_kept 0 = .ok (.aload_n 0, 1) := by decide +kernel
theorem dX5_kept_1 : decode cX5_kept 1 = .ok (.getfield 25, 3) := by decide +kernel
theorem dX5_kept_4 : decode cX5_kept 4 = .ok (.bipush 16, 2) := by decide +kernel
theorem dX5_kept_6 : decode cX5_kept 6 = .ok (.if_icmp .ge 10, 3) := by decide +kernel
theorem dX5_kept_9 : decode cX5_kept 9 = .ok (.aload_n 0, 1) := by decide +kernel
theorem dX5_kept_10 : decode cX5_kept 10 = .ok (.getfield 25, 3) := by decide +kernel
theorem dX5_kept_13 : decode cX5_kept 13 = .ok (.goto 5, 3) := by decide +kernel
theorem dX5_kept_16 : decode cX5_kept 16 = .ok (.bipush 16, 2) := by decide +kernel
theorem dX5_kept_18 : decode cX5_kept 18 = .ok (.ireturn, 1) := by decide +kernel
theorem dX5_write_0 : decode cX5_write 0 = .ok (.aload_n 0, 1) := by decide +kernel
theorem dX5_write_1 : decode cX5_write 1 = .ok (.aload_n 0, 1) := by decide +kernel
theorem dX5_write_2 : decode cX5_write 2 = .ok (.getfield 29, 3) := by decide +kernel
theorem dX5_write_5 : decode cX5_write 5 = .ok (.iconst 5, 1) := by decide +kernel
theorem dX5_write_6 : decode cX5_write 6 = .ok (.ishl, 1) := by decide +kernel
theorem dX5_write_7 : decode cX5_write 7 = .ok (.aload_n 0, 1) := by decide +kernel
theorem dX5_write_8 : decode cX5_write 8 = .ok (.getfield 29, 3) := by decide +kernel
theorem dX5_write_11 : decode cX5_write 11 = .ok (.bipush 27, 2) := by decide +kernel
theorem dX5_write_13 : decode cX5_write 13 = .ok (.iushr, 1) := by decide +kernel
theorem dX5_write_14 : decode cX5_write 14 = .ok (.ior, 1) := by decide +kernel
theorem dX5_write_15 : decode cX5_write 15 = .ok (.iload_n 1, 1) := by decide +kernel
theorem dX5_write_16 : decode cX5_write 16 = .ok (.ldc 38, 2) := by decide +kernel
theorem dX5_write_18 : decode cX5_write 18 = .ok (.imul, 1) := by decide +kernel
theorem dX5_write_19 : decode cX5_write 19 = .ok (.iload_n 2, 1) := by decide +kernel
theorem dX5_write_20 : decode cX5_write 20 = .ok (.bipush 31, 2) := by decide +kernel
theorem dX5_write_22 : decode cX5_write 22 = .ok (.imul, 1) := by decide +kernel
theorem dX5_write_23 : decode cX5_write 23 = .ok (.iadd, 1) := by decide +kernel
theorem dX5_write_24 : decode cX5_write 24 = .ok (.iload_n 3, 1) := by decide +kernel
theorem dX5_write_25 : decode cX5_write 25 = .ok (.iadd, 1) := by decide +kernel
theorem dX5_write_26 : decode cX5_write 26 = .ok (.ixor, 1) := by decide +kernel
theorem dX5_write_27 : decode cX5_write 27 = .ok (.putfield 29, 3) := by decide +kernel
theorem dX5_write_30 : decode cX5_write 30 = .ok (.aload_n 0, 1) := by decide +kernel
theorem dX5_write_31 : decode cX5_write 31 = .ok (.getfield 25, 3) := by decide +kernel
theorem dX5_write_34 : decode cX5_write 34 = .ok (.bipush 16, 2) := by decide +kernel
theorem dX5_write_36 : decode cX5_write 36 = .ok (.irem, 1) := by decide +kernel
theorem dX5_write_37 : decode cX5_write 37 = .ok (.istore 5, 2) := by decide +kernel
theorem dX5_write_39 : decode cX5_write 39 = .ok (.iload 5, 2) := by decide +kernel
theorem dX5_write_41 : decode cX5_write 41 = .ok (.ifCond .lt 57, 3) := by decide +kernel
theorem dX5_write_44 : decode cX5_write 44 = .ok (.aload_n 0, 1) := by decide +kernel
theorem dX5_write_45 : decode cX5_write 45 = .ok (.getfield 9, 3) := by decide +kernel
theorem dX5_write_48 : decode cX5_write 48 = .ok (.iload 5, 2) := by decide +kernel
theorem dX5_write_50 : decode cX5_write 50 = .ok (.iload_n 1, 1) := by decide +kernel
theorem dX5_write_51 : decode cX5_write 51 = .ok (.iastore, 1) := by decide +kernel
theorem dX5_write_52 : decode cX5_write 52 = .ok (.aload_n 0, 1) := by decide +kernel
theorem dX5_write_53 : decode cX5_write 53 = .ok (.getfield 13, 3) := by decide +kernel
theorem dX5_write_56 : decode cX5_write 56 = .ok (.iload 5, 2) := by decide +kernel
theorem dX5_write_58 : decode cX5_write 58 = .ok (.iload_n 2, 1) := by decide +kernel
theorem dX5_write_59 : decode cX5_write 59 = .ok (.iastore, 1) := by decide +kernel
theorem dX5_write_60 : decode cX5_write 60 = .ok (.aload_n 0, 1) := by decide +kernel
theorem dX5_write_61 : decode cX5_write 61 = .ok (.getfield 16, 3) := by decide +kernel
theorem dX5_write_64 : decode cX5_write 64 = .ok (.iload 5, 2) := by decide +kernel
theorem dX5_write_66 : decode cX5_write 66 = .ok (.iload_n 3, 1) := by decide +kernel
theorem dX5_write_67 : decode cX5_write 67 = .ok (.iastore, 1) := by decide +kernel
theorem dX5_write_68 : decode cX5_write 68 = .ok (.aload_n 0, 1) := by decide +kernel
theorem dX5_write_69 : decode cX5_write 69 = .ok (.getfield 19, 3) := by decide +kernel
theorem dX5_write_72 : decode cX5_write 72 = .ok (.iload 5, 2) := by decide +kernel
theorem dX5_write_74 : decode cX5_write 74 = .ok (.iload 4, 2) := by decide +kernel
theorem dX5_write_76 : decode cX5_write 76 = .ok (.iastore, 1) := by decide +kernel
theorem dX5_write_77 : decode cX5_write 77 = .ok (.aload_n 0, 1) := by decide +kernel
theorem dX5_write_78 : decode cX5_write 78 = .ok (.getfield 22, 3) := by decide +kernel
theorem dX5_write_81 : decode cX5_write 81 = .ok (.iload 5, 2) := by decide +kernel
theorem dX5_write_83 : decode cX5_write 83 = .ok (.aload_n 0, 1) := by decide +kernel
theorem dX5_write_84 : decode cX5_write 84 = .ok (.getfield 29, 3) := by decide +kernel
theorem dX5_write_87 : decode cX5_write 87 = .ok (.iastore, 1) := by decide +kernel
theorem dX5_write_88 : decode cX5_write 88 = .ok (.aload_n 0, 1) := by decide +kernel
theorem dX5_write_89 : decode cX5_write 89 = .ok (.dup, 1) := by decide +kernel
theorem dX5_write_90 : decode cX5_write 90 = .ok (.getfield 25, 3) := by decide +kernel
theorem dX5_write_93 : decode cX5_write 93 = .ok (.iconst 1, 1) := by decide +kernel
theorem dX5_write_94 : decode cX5_write 94 = .ok (.iadd, 1) := by decide +kernel
theorem dX5_write_95 : decode cX5_write 95 = .ok (.putfield 25, 3) := by decide +kernel
theorem dX5_write_98 : decode cX5_write 98 = .ok (.return_, 1) := by decide +kernel
theorem dX5_property_0 : decode cX5_property 0 = .ok (.aload_n 0, 1) := by decide +kernel
theorem dX5_property_1 : decode cX5_property 1 = .ok (.getfield 25, 3) := by decide +kernel
theorem dX5_property_4 : decode cX5_property 4 = .ok (.iconst 1, 1) := by decide +kernel
theorem dX5_property_5 : decode cX5_property 5 = .ok (.isub, 1) := by decide +kernel
theorem dX5_property_6 : decode cX5_property 6 = .ok (.iload_n 1, 1) := by decide +kernel
theorem dX5_property_7 : decode cX5_property 7 = .ok (.isub, 1) := by decide +kernel
theorem dX5_property_8 : decode cX5_property 8 = .ok (.bipush 16, 2) := by decide +kernel
theorem dX5_property_10 : decode cX5_property 10 = .ok (.irem, 1) := by decide +kernel
theorem dX5_property_11 : decode cX5_property 11 = .ok (.istore_n 3, 1) := by decide +kernel
theorem dX5_property_12 : decode cX5_property 12 = .ok (.iload_n 2, 1) := by decide +kernel
theorem dX5_property_13 : decode cX5_property 13 = .ok (.tableswitch 67 0 3 #[31, 40, 49, 58], 31) := by decide +kernel
theorem dX5_property_44 : decode cX5_property 44 = .ok (.aload_n 0, 1) := by decide +kernel
theorem dX5_property_45 : decode cX5_property 45 = .ok (.getfield 9, 3) := by decide +kernel
theorem dX5_property_48 : decode cX5_property 48 = .ok (.iload_n 3, 1) := by decide +kernel
theorem dX5_property_49 : decode cX5_property 49 = .ok (.invokestatic 39, 3) := by decide +kernel
theorem dX5_property_52 : decode cX5_property 52 = .ok (.ireturn, 1) := by decide +kernel
theorem dX5_property_53 : decode cX5_property 53 = .ok (.aload_n 0, 1) := by decide +kernel
theorem dX5_property_54 : decode cX5_property 54 = .ok (.getfield 13, 3) := by decide +kernel
theorem dX5_property_57 : decode cX5_property 57 = .ok (.iload_n 3, 1) := by decide +kernel
theorem dX5_property_58 : decode cX5_property 58 = .ok (.invokestatic 39, 3) := by decide +kernel
theorem dX5_property_61 : decode cX5_property 61 = .ok (.ireturn, 1) := by decide +kernel
theorem dX5_property_62 : decode cX5_property 62 = .ok (.aload_n 0, 1) := by decide +kernel
theorem dX5_property_63 : decode cX5_property 63 = .ok (.getfield 16, 3) := by decide +kernel
theorem dX5_property_66 : decode cX5_property 66 = .ok (.iload_n 3, 1) := by decide +kernel
theorem dX5_property_67 : decode cX5_property 67 = .ok (.invokestatic 39, 3) := by decide +kernel
theorem dX5_property_70 : decode cX5_property 70 = .ok (.ireturn, 1) := by decide +kernel
theorem dX5_property_71 : decode cX5_property 71 = .ok (.aload_n 0, 1) := by decide +kernel
theorem dX5_property_72 : decode cX5_property 72 = .ok (.getfield 19, 3) := by decide +kernel
theorem dX5_property_75 : decode cX5_property 75 = .ok (.iload_n 3, 1) := by decide +kernel
theorem dX5_property_76 : decode cX5_property 76 = .ok (.invokestatic 39, 3) := by decide +kernel
theorem dX5_property_79 : decode cX5_property 79 = .ok (.ireturn, 1) := by decide +kernel
theorem dX5_property_80 : decode cX5_property 80 = .ok (.aload_n 0, 1) := by decide +kernel
theorem dX5_property_81 : decode cX5_property 81 = .ok (.getfield 22, 3) := by decide +kernel
theorem dX5_property_84 : decode cX5_property 84 = .ok (.iload_n 3, 1) := by decide +kernel
theorem dX5_property_85 : decode cX5_property 85 = .ok (.invokestatic 39, 3) := by decide +kernel
theorem dX5_property_88 : decode cX5_property 88 = .ok (.ireturn, 1) := by decide +kernel
theorem dX6_init_0 : decode cX6_init 0 = .ok (.aload_n 0, 1) := by decide +kernel
theorem dX6_init_1 : decode cX6_init 1 = .ok (.invokespecial 3, 3) := by decide +kernel
theorem dX6_init_4 : decode cX6_init 4 = .ok (.aload_n 0, 1) := by decide +kernel
theorem dX6_init_5 : decode cX6_init 5 = .ok (.iconst 5, 1) := by decide +kernel
theorem dX6_init_6 : decode cX6_init 6 = .ok (.newarray .int, 2) := by decide +kernel
theorem dX6_init_8 : decode cX6_init 8 = .ok (.putfield 11, 3) := by decide +kernel
theorem dX6_init_11 : decode cX6_init 11 = .ok (.aload_n 0, 1) := by decide +kernel
theorem dX6_init_12 : decode cX6_init 12 = .ok (.iconst 5, 1) := by decide +kernel
theorem dX6_init_13 : decode cX6_init 13 = .ok (.newarray .int, 2) := by decide +kernel
theorem dX6_init_15 : decode cX6_init 15 = .ok (.putfield 15, 3) := by decide +kernel
theorem dX6_init_18 : decode cX6_init 18 = .ok (.aload_n 0, 1) := by decide +kernel
theorem dX6_init_19 : decode cX6_init 19 = .ok (.iconst 5, 1) := by decide +kernel
theorem dX6_init_20 : decode cX6_init 20 = .ok (.newarray .int, 2) := by decide +kernel
theorem dX6_init_22 : decode cX6_init 22 = .ok (.putfield 18, 3) := by decide +kernel
theorem dX6_init_25 : decode cX6_init 25 = .ok (.aload_n 0, 1) := by decide +kernel
theorem dX6_init_26 : decode cX6_init 26 = .ok (.iconst 5, 1) := by decide +kernel
theorem dX6_init_27 : decode cX6_init 27 = .ok (.newarray .int, 2) := by decide +kernel
theorem dX6_init_29 : decode cX6_init 29 = .ok (.putfield 21, 3) := by decide +kernel
theorem dX6_init_32 : decode cX6_init 32 = .ok (.aload_n 0, 1) := by decide +kernel
theorem dX6_init_33 : decode cX6_init 33 = .ok (.iconst 5, 1) := by decide +kernel
theorem dX6_init_34 : decode cX6_init 34 = .ok (.newarray .int, 2) := by decide +kernel
theorem dX6_init_36 : decode cX6_init 36 = .ok (.putfield 24, 3) := by decide +kernel
theorem dX6_init_39 : decode cX6_init 39 = .ok (.aload_n 0, 1) := by decide +kernel
theorem dX6_init_40 : decode cX6_init 40 = .ok (.sipush 150, 3) := by decide +kernel
theorem dX6_init_43 : decode cX6_init 43 = .ok (.newarray .int, 2) := by decide +kernel
theorem dX6_init_45 : decode cX6_init 45 = .ok (.putfield 27, 3) := by decide +kernel
theorem dX6_init_48 : decode cX6_init 48 = .ok (.aload_n 0, 1) := by decide +kernel
theorem dX6_init_49 : decode cX6_init 49 = .ok (.sipush 150, 3) := by decide +kernel
theorem dX6_init_52 : decode cX6_init 52 = .ok (.newarray .int, 2) := by decide +kernel
theorem dX6_init_54 : decode cX6_init 54 = .ok (.putfield 30, 3) := by decide +kernel
theorem dX6_init_57 : decode cX6_init 57 = .ok (.aload_n 0, 1) := by decide +kernel
theorem dX6_init_58 : decode cX6_init 58 = .ok (.sipush 150, 3) := by decide +kernel
theorem dX6_init_61 : decode cX6_init 61 = .ok (.newarray .int, 2) := by decide +kernel
theorem dX6_init_63 : decode cX6_init 63 = .ok (.putfield 33, 3) := by decide +kernel
theorem dX6_init_66 : decode cX6_init 66 = .ok (.return_, 1) := by decide +kernel
theorem dX6_copyFrom_0 : decode cX6_copyFrom 0 = .ok (.aload_n 0, 1) := by decide +kernel
theorem dX6_copyFrom_1 : decode cX6_copyFrom 1 = .ok (.aload_n 1, 1) := by decide +kernel
theorem dX6_copyFrom_2 : decode cX6_copyFrom 2 = .ok (.getfield 36, 3) := by decide +kernel
theorem dX6_copyFrom_5 : decode cX6_copyFrom 5 = .ok (.putfield 36, 3) := by decide +kernel
theorem dX6_copyFrom_8 : decode cX6_copyFrom 8 = .ok (.aload_n 0, 1) := by decide +kernel
theorem dX6_copyFrom_9 : decode cX6_copyFrom 9 = .ok (.aload_n 1, 1) := by decide +kernel
theorem dX6_copyFrom_10 : decode cX6_copyFrom 10 = .ok (.getfield 40, 3) := by decide +kernel
theorem dX6_copyFrom_13 : decode cX6_copyFrom 13 = .ok (.putfield 40, 3) := by decide +kernel
theorem dX6_copyFrom_16 : decode cX6_copyFrom 16 = .ok (.aload_n 1, 1) := by decide +kernel
theorem dX6_copyFrom_17 : decode cX6_copyFrom 17 = .ok (.getfield 11, 3) := by decide +kernel
theorem dX6_copyFrom_20 : decode cX6_copyFrom 20 = .ok (.aload_n 0, 1) := by decide +kernel
theorem dX6_copyFrom_21 : decode cX6_copyFrom 21 = .ok (.getfield 11, 3) := by decide +kernel
theorem dX6_copyFrom_24 : decode cX6_copyFrom 24 = .ok (.invokestatic 43, 3) := by decide +kernel
theorem dX6_copyFrom_27 : decode cX6_copyFrom 27 = .ok (.aload_n 1, 1) := by decide +kernel
theorem dX6_copyFrom_28 : decode cX6_copyFrom 28 = .ok (.getfield 15, 3) := by decide +kernel
theorem dX6_copyFrom_31 : decode cX6_copyFrom 31 = .ok (.aload_n 0, 1) := by decide +kernel
theorem dX6_copyFrom_32 : decode cX6_copyFrom 32 = .ok (.getfield 15, 3) := by decide +kernel
theorem dX6_copyFrom_35 : decode cX6_copyFrom 35 = .ok (.invokestatic 43, 3) := by decide +kernel
theorem dX6_copyFrom_38 : decode cX6_copyFrom 38 = .ok (.aload_n 1, 1) := by decide +kernel
theorem dX6_copyFrom_39 : decode cX6_copyFrom 39 = .ok (.getfield 18, 3) := by decide +kernel
theorem dX6_copyFrom_42 : decode cX6_copyFrom 42 = .ok (.aload_n 0, 1) := by decide +kernel
theorem dX6_copyFrom_43 : decode cX6_copyFrom 43 = .ok (.getfield 18, 3) := by decide +kernel
theorem dX6_copyFrom_46 : decode cX6_copyFrom 46 = .ok (.invokestatic 43, 3) := by decide +kernel
theorem dX6_copyFrom_49 : decode cX6_copyFrom 49 = .ok (.aload_n 1, 1) := by decide +kernel
theorem dX6_copyFrom_50 : decode cX6_copyFrom 50 = .ok (.getfield 21, 3) := by decide +kernel
theorem dX6_copyFrom_53 : decode cX6_copyFrom 53 = .ok (.aload_n 0, 1) := by decide +kernel
theorem dX6_copyFrom_54 : decode cX6_copyFrom 54 = .ok (.getfield 21, 3) := by decide +kernel
theorem dX6_copyFrom_57 : decode cX6_copyFrom 57 = .ok (.invokestatic 43, 3) := by decide +kernel
theorem dX6_copyFrom_60 : decode cX6_copyFrom 60 = .ok (.aload_n 1, 1) := by decide +kernel
theorem dX6_copyFrom_61 : decode cX6_copyFrom 61 = .ok (.getfield 24, 3) := by decide +kernel
theorem dX6_copyFrom_64 : decode cX6_copyFrom 64 = .ok (.aload_n 0, 1) := by decide +kernel
theorem dX6_copyFrom_65 : decode cX6_copyFrom 65 = .ok (.getfield 24, 3) := by decide +kernel
theorem dX6_copyFrom_68 : decode cX6_copyFrom 68 = .ok (.invokestatic 43, 3) := by decide +kernel
theorem dX6_copyFrom_71 : decode cX6_copyFrom 71 = .ok (.aload_n 1, 1) := by decide +kernel
theorem dX6_copyFrom_72 : decode cX6_copyFrom 72 = .ok (.getfield 27, 3) := by decide +kernel
theorem dX6_copyFrom_75 : decode cX6_copyFrom 75 = .ok (.aload_n 0, 1) := by decide +kernel
theorem dX6_copyFrom_76 : decode cX6_copyFrom 76 = .ok (.getfield 27, 3) := by decide +kernel
theorem dX6_copyFrom_79 : decode cX6_copyFrom 79 = .ok (.invokestatic 43, 3) := by decide +kernel
theorem dX6_copyFrom_82 : decode cX6_copyFrom 82 = .ok (.aload_n 1, 1) := by decide +kernel
theorem dX6_copyFrom_83 : decode cX6_copyFrom 83 = .ok (.getfield 30, 3) := by decide +kernel
theorem dX6_copyFrom_86 : decode cX6_copyFrom 86 = .ok (.aload_n 0, 1) := by decide +kernel
theorem dX6_copyFrom_87 : decode cX6_copyFrom 87 = .ok (.getfield 30, 3) := by decide +kernel
theorem dX6_copyFrom_90 : decode cX6_copyFrom 90 = .ok (.invokestatic 43, 3) := by decide +kernel
theorem dX6_copyFrom_93 : decode cX6_copyFrom 93 = .ok (.aload_n 1, 1) := by decide +kernel
theorem dX6_copyFrom_94 : decode cX6_copyFrom 94 = .ok (.getfield 33, 3) := by decide +kernel
theorem dX6_copyFrom_97 : decode cX6_copyFrom 97 = .ok (.aload_n 0, 1) := by decide +kernel
theorem dX6_copyFrom_98 : decode cX6_copyFrom 98 = .ok (.getfield 33, 3) := by decide +kernel
theorem dX6_copyFrom_101 : decode cX6_copyFrom 101 = .ok (.invokestatic 43, 3) := by decide +kernel
theorem dX6_copyFrom_104 : decode cX6_copyFrom 104 = .ok (.return_, 1) := by decide +kernel
theorem dX6_addOne_0 : decode cX6_addOne 0 = .ok (.aload_n 0, 1) := by decide +kernel
theorem dX6_addOne_1 : decode cX6_addOne 1 = .ok (.getfield 36, 3) := by decide +kernel
theorem dX6_addOne_4 : decode cX6_addOne 4 = .ok (.iconst 5, 1) := by decide +kernel
theorem dX6_addOne_5 : decode cX6_addOne 5 = .ok (.if_icmp .lt 5, 3) := by decide +kernel
theorem dX6_addOne_8 : decode cX6_addOne 8 = .ok (.iconst (-1), 1) := by decide +kernel
theorem dX6_addOne_9 : decode cX6_addOne 9 = .ok (.ireturn, 1) := by decide +kernel
theorem dX6_addOne_10 : decode cX6_addOne 10 = .ok (.aload_n 0, 1) := by decide +kernel
theorem dX6_addOne_11 : decode cX6_addOne 11 = .ok (.getfield 11, 3) := by decide +kernel
theorem dX6_addOne_14 : decode cX6_addOne 14 = .ok (.aload_n 0, 1) := by decide +kernel
theorem dX6_addOne_15 : decode cX6_addOne 15 = .ok (.getfield 36, 3) := by decide +kernel
theorem dX6_addOne_18 : decode cX6_addOne 18 = .ok (.iload_n 1, 1) := by decide +kernel
theorem dX6_addOne_19 : decode cX6_addOne 19 = .ok (.iastore, 1) := by decide +kernel
theorem dX6_addOne_20 : decode cX6_addOne 20 = .ok (.aload_n 0, 1) := by decide +kernel
theorem dX6_addOne_21 : decode cX6_addOne 21 = .ok (.getfield 15, 3) := by decide +kernel
theorem dX6_addOne_24 : decode cX6_addOne 24 = .ok (.aload_n 0, 1) := by decide +kernel
theorem dX6_addOne_25 : decode cX6_addOne 25 = .ok (.getfield 36, 3) := by decide +kernel
theorem dX6_addOne_28 : decode cX6_addOne 28 = .ok (.iload_n 2, 1) := by decide +kernel
theorem dX6_addOne_29 : decode cX6_addOne 29 = .ok (.iastore, 1) := by decide +kernel
theorem dX6_addOne_30 : decode cX6_addOne 30 = .ok (.aload_n 0, 1) := by decide +kernel
theorem dX6_addOne_31 : decode cX6_addOne 31 = .ok (.getfield 18, 3) := by decide +kernel
theorem dX6_addOne_34 : decode cX6_addOne 34 = .ok (.aload_n 0, 1) := by decide +kernel
theorem dX6_addOne_35 : decode cX6_addOne 35 = .ok (.getfield 36, 3) := by decide +kernel
theorem dX6_addOne_38 : decode cX6_addOne 38 = .ok (.iload_n 3, 1) := by decide +kernel
theorem dX6_addOne_39 : decode cX6_addOne 39 = .ok (.iastore, 1) := by decide +kernel
theorem dX6_addOne_40 : decode cX6_addOne 40 = .ok (.aload_n 0, 1) := by decide +kernel
theorem dX6_addOne_41 : decode cX6_addOne 41 = .ok (.getfield 21, 3) := by decide +kernel
theorem dX6_addOne_44 : decode cX6_addOne 44 = .ok (.aload_n 0, 1) := by decide +kernel
theorem dX6_addOne_45 : decode cX6_addOne 45 = .ok (.getfield 36, 3) := by decide +kernel
theorem dX6_addOne_48 : decode cX6_addOne 48 = .ok (.iconst 0, 1) := by decide +kernel
theorem dX6_addOne_49 : decode cX6_addOne 49 = .ok (.iastore, 1) := by decide +kernel
theorem dX6_addOne_50 : decode cX6_addOne 50 = .ok (.aload_n 0, 1) := by decide +kernel
theorem dX6_addOne_51 : decode cX6_addOne 51 = .ok (.getfield 24, 3) := by decide +kernel
theorem dX6_addOne_54 : decode cX6_addOne 54 = .ok (.aload_n 0, 1) := by decide +kernel
theorem dX6_addOne_55 : decode cX6_addOne 55 = .ok (.getfield 36, 3) := by decide +kernel
theorem dX6_addOne_58 : decode cX6_addOne 58 = .ok (.iconst 0, 1) := by decide +kernel
theorem dX6_addOne_59 : decode cX6_addOne 59 = .ok (.iastore, 1) := by decide +kernel
theorem dX6_addOne_60 : decode cX6_addOne 60 = .ok (.aload_n 0, 1) := by decide +kernel
theorem dX6_addOne_61 : decode cX6_addOne 61 = .ok (.dup, 1) := by decide +kernel
theorem dX6_addOne_62 : decode cX6_addOne 62 = .ok (.getfield 36, 3) := by decide +kernel
theorem dX6_addOne_65 : decode cX6_addOne 65 = .ok (.iconst 1, 1) := by decide +kernel
theorem dX6_addOne_66 : decode cX6_addOne 66 = .ok (.iadd, 1) := by decide +kernel
theorem dX6_addOne_67 : decode cX6_addOne 67 = .ok (.putfield 36, 3) := by decide +kernel
theorem dX6_addOne_70 : decode cX6_addOne 70 = .ok (.aload_n 0, 1) := by decide +kernel
theorem dX6_addOne_71 : decode cX6_addOne 71 = .ok (.getfield 36, 3) := by decide +kernel
theorem dX6_addOne_74 : decode cX6_addOne 74 = .ok (.iconst 1, 1) := by decide +kernel
theorem dX6_addOne_75 : decode cX6_addOne 75 = .ok (.isub, 1) := by decide +kernel
theorem dX6_addOne_76 : decode cX6_addOne 76 = .ok (.ireturn, 1) := by decide +kernel
theorem dX6_hasSilo_0 : decode cX6_hasSilo 0 = .ok (.iload_n 1, 1) := by decide +kernel
theorem dX6_hasSilo_1 : decode cX6_hasSilo 1 = .ok (.ifCond .lt 15, 3) := by decide +kernel
theorem dX6_hasSilo_4 : decode cX6_hasSilo 4 = .ok (.iload_n 1, 1) := by decide +kernel
theorem dX6_hasSilo_5 : decode cX6_hasSilo 5 = .ok (.aload_n 0, 1) := by decide +kernel
theorem dX6_hasSilo_6 : decode cX6_hasSilo 6 = .ok (.getfield 36, 3) := by decide +kernel
theorem dX6_hasSilo_9 : decode cX6_hasSilo 9 = .ok (.if_icmp .ge 7, 3) := by decide +kernel
theorem dX6_hasSilo_12 : decode cX6_hasSilo 12 = .ok (.iconst 1, 1) := by decide +kernel
theorem dX6_hasSilo_13 : decode cX6_hasSilo 13 = .ok (.goto 4, 3) := by decide +kernel
theorem dX6_hasSilo_16 : decode cX6_hasSilo 16 = .ok (.iconst 0, 1) := by decide +kernel
theorem dX6_hasSilo_17 : decode cX6_hasSilo 17 = .ok (.ireturn, 1) := by decide +kernel
theorem dX6_isEmpty_0 : decode cX6_isEmpty 0 = .ok (.aload_n 0, 1) := by decide +kernel
theorem dX6_isEmpty_1 : decode cX6_isEmpty 1 = .ok (.getfield 21, 3) := by decide +kernel
theorem dX6_isEmpty_4 : decode cX6_isEmpty 4 = .ok (.iload_n 1, 1) := by decide +kernel
theorem dX6_isEmpty_5 : decode cX6_isEmpty 5 = .ok (.invokestatic 47, 3) := by decide +kernel
theorem dX6_isEmpty_8 : decode cX6_isEmpty 8 = .ok (.ifCond .ne 7, 3) := by decide +kernel
theorem dX6_isEmpty_11 : decode cX6_isEmpty 11 = .ok (.iconst 1, 1) := by decide +kernel
theorem dX6_isEmpty_12 : decode cX6_isEmpty 12 = .ok (.goto 4, 3) := by decide +kernel
theorem dX6_isEmpty_15 : decode cX6_isEmpty 15 = .ok (.iconst 0, 1) := by decide +kernel
theorem dX6_isEmpty_16 : decode cX6_isEmpty 16 = .ok (.ireturn, 1) := by decide +kernel
theorem dX6_hasRoom_0 : decode cX6_hasRoom 0 = .ok (.aload_n 0, 1) := by decide +kernel
theorem dX6_hasRoom_1 : decode cX6_hasRoom 1 = .ok (.getfield 21, 3) := by decide +kernel
theorem dX6_hasRoom_4 : decode cX6_hasRoom 4 = .ok (.iload_n 1, 1) := by decide +kernel
theorem dX6_hasRoom_5 : decode cX6_hasRoom 5 = .ok (.invokestatic 47, 3) := by decide +kernel
theorem dX6_hasRoom_8 : decode cX6_hasRoom 8 = .ok (.aload_n 0, 1) := by decide +kernel
theorem dX6_hasRoom_9 : decode cX6_hasRoom 9 = .ok (.getfield 11, 3) := by decide +kernel
theorem dX6_hasRoom_12 : decode cX6_hasRoom 12 = .ok (.iload_n 1, 1) := by decide +kernel
theorem dX6_hasRoom_13 : decode cX6_hasRoom 13 = .ok (.invokestatic 47, 3) := by decide +kernel
theorem dX6_hasRoom_16 : decode cX6_hasRoom 16 = .ok (.if_icmp .ge 7, 3) := by decide +kernel
theorem dX6_hasRoom_19 : decode cX6_hasRoom 19 = .ok (.iconst 1, 1) := by decide +kernel
theorem dX6_hasRoom_20 : decode cX6_hasRoom 20 = .ok (.goto 4, 3) := by decide +kernel
theorem dX6_hasRoom_23 : decode cX6_hasRoom 23 = .ok (.iconst 0, 1) := by decide +kernel
theorem dX6_hasRoom_24 : decode cX6_hasRoom 24 = .ok (.ireturn, 1) := by decide +kernel
theorem dX6_slotOf_0 : decode cX6_slotOf 0 = .ok (.aload_n 0, 1) := by decide +kernel
theorem dX6_slotOf_1 : decode cX6_slotOf 1 = .ok (.iload_n 1, 1) := by decide +kernel
theorem dX6_slotOf_2 : decode cX6_slotOf 2 = .ok (.invokevirtual 51, 3) := by decide +kernel
theorem dX6_slotOf_5 : decode cX6_slotOf 5 = .ok (.ifCond .eq 17, 3) := by decide +kernel
theorem dX6_slotOf_8 : decode cX6_slotOf 8 = .ok (.iload_n 2, 1) := by decide +kernel
theorem dX6_slotOf_9 : decode cX6_slotOf 9 = .ok (.ifCond .lt 13, 3) := by decide +kernel
theorem dX6_slotOf_12 : decode cX6_slotOf 12 = .ok (.iload_n 2, 1) := by decide +kernel
theorem dX6_slotOf_13 : decode cX6_slotOf 13 = .ok (.aload_n 0, 1) := by decide +kernel
theorem dX6_slotOf_14 : decode cX6_slotOf 14 = .ok (.getfield 21, 3) := by decide +kernel
theorem dX6_slotOf_17 : decode cX6_slotOf 17 = .ok (.iload_n 1, 1) := by decide +kernel
theorem dX6_slotOf_18 : decode cX6_slotOf 18 = .ok (.iaload, 1) := by decide +kernel
theorem dX6_slotOf_19 : decode cX6_slotOf 19 = .ok (.if_icmp .lt 5, 3) := by decide +kernel
theorem dX6_slotOf_22 : decode cX6_slotOf 22 = .ok (.iconst (-1), 1) := by decide +kernel
theorem dX6_slotOf_23 : decode cX6_slotOf 23 = .ok (.ireturn, 1) := by decide +kernel
theorem dX6_slotOf_24 : decode cX6_slotOf 24 = .ok (.iload_n 1, 1) := by decide +kernel
theorem dX6_slotOf_25 : decode cX6_slotOf 25 = .ok (.bipush 30, 2) := by decide +kernel
theorem dX6_slotOf_27 : decode cX6_slotOf 27 = .ok (.imul, 1) := by decide +kernel
theorem dX6_slotOf_28 : decode cX6_slotOf 28 = .ok (.iload_n 2, 1) := by decide +kernel
theorem dX6_slotOf_29 : decode cX6_slotOf 29 = .ok (.iadd, 1) := by decide +kernel
theorem dX6_slotOf_30 : decode cX6_slotOf 30 = .ok (.ireturn, 1) := by decide +kernel
theorem dX6_melt_0 : decode cX6_melt 0 = .ok (.iconst 0, 1) := by decide +kernel
theorem dX6_melt_1 : decode cX6_melt 1 = .ok (.istore_n 2, 1) := by decide +kernel
theorem dX6_melt_2 : decode cX6_melt 2 = .ok (.iload_n 2, 1) := by decide +kernel
theorem dX6_melt_3 : decode cX6_melt 3 = .ok (.aload_n 0, 1) := by decide +kernel
theorem dX6_melt_4 : decode cX6_melt 4 = .ok (.getfield 36, 3) := by decide +kernel
theorem dX6_melt_7 : decode cX6_melt 7 = .ok (.if_icmp .ge 15, 3) := by decide +kernel
theorem dX6_melt_10 : decode cX6_melt 10 = .ok (.aload_n 0, 1) := by decide +kernel
theorem dX6_melt_11 : decode cX6_melt 11 = .ok (.iload_n 2, 1) := by decide +kernel
theorem dX6_melt_12 : decode cX6_melt 12 = .ok (.iload_n 1, 1) := by decide +kernel
theorem dX6_melt_13 : decode cX6_melt 13 = .ok (.invokevirtual 55, 3) := by decide +kernel
theorem dX6_melt_16 : decode cX6_melt 16 = .ok (.iinc 2 1, 3) := by decide +kernel
theorem dX6_melt_19 : decode cX6_melt 19 = .ok (.goto (-17), 3) := by decide +kernel
theorem dX6_melt_22 : decode cX6_melt 22 = .ok (.return_, 1) := by decide +kernel
theorem dX6_meltSilo_0 : decode cX6_meltSilo 0 = .ok (.iload_n 1, 1) := by decide +kernel
theorem dX6_meltSilo_1 : decode cX6_meltSilo 1 = .ok (.bipush 30, 2) := by decide +kernel
theorem dX6_meltSilo_3 : decode cX6_meltSilo 3 = .ok (.imul, 1) := by decide +kernel
theorem dX6_meltSilo_4 : decode cX6_meltSilo 4 = .ok (.istore_n 3, 1) := by decide +kernel
theorem dX6_meltSilo_5 : decode cX6_meltSilo 5 = .ok (.iload_n 3, 1) := by decide +kernel
theorem dX6_meltSilo_6 : decode cX6_meltSilo 6 = .ok (.aload_n 0, 1) := by decide +kernel
theorem dX6_meltSilo_7 : decode cX6_meltSilo 7 = .ok (.getfield 21, 3) := by decide +kernel
theorem dX6_meltSilo_10 : decode cX6_meltSilo 10 = .ok (.iload_n 1, 1) := by decide +kernel
theorem dX6_meltSilo_11 : decode cX6_meltSilo 11 = .ok (.iaload, 1) := by decide +kernel
theorem dX6_meltSilo_12 : decode cX6_meltSilo 12 = .ok (.iadd, 1) := by decide +kernel
theorem dX6_meltSilo_13 : decode cX6_meltSilo 13 = .ok (.iconst 1, 1) := by decide +kernel
theorem dX6_meltSilo_14 : decode cX6_meltSilo 14 = .ok (.isub, 1) := by decide +kernel
theorem dX6_meltSilo_15 : decode cX6_meltSilo 15 = .ok (.istore 4, 2) := by decide +kernel
theorem dX6_meltSilo_17 : decode cX6_meltSilo 17 = .ok (.iload_n 3, 1) := by decide +kernel
theorem dX6_meltSilo_18 : decode cX6_meltSilo 18 = .ok (.istore 5, 2) := by decide +kernel
theorem dX6_meltSilo_20 : decode cX6_meltSilo 20 = .ok (.iload_n 3, 1) := by decide +kernel
theorem dX6_meltSilo_21 : decode cX6_meltSilo 21 = .ok (.istore 6, 2) := by decide +kernel
theorem dX6_meltSilo_23 : decode cX6_meltSilo 23 = .ok (.iload 6, 2) := by decide +kernel
theorem dX6_meltSilo_25 : decode cX6_meltSilo 25 = .ok (.iload 4, 2) := by decide +kernel
theorem dX6_meltSilo_27 : decode cX6_meltSilo 27 = .ok (.if_icmp .gt 118, 3) := by decide +kernel
theorem dX6_meltSilo_30 : decode cX6_meltSilo 30 = .ok (.aload_n 0, 1) := by decide +kernel
theorem dX6_meltSilo_31 : decode cX6_meltSilo 31 = .ok (.iload_n 1, 1) := by decide +kernel
theorem dX6_meltSilo_32 : decode cX6_meltSilo 32 = .ok (.aload_n 0, 1) := by decide +kernel
theorem dX6_meltSilo_33 : decode cX6_meltSilo 33 = .ok (.getfield 30, 3) := by decide +kernel
theorem dX6_meltSilo_36 : decode cX6_meltSilo 36 = .ok (.iload 6, 2) := by decide +kernel
theorem dX6_meltSilo_38 : decode cX6_meltSilo 38 = .ok (.iaload, 1) := by decide +kernel
theorem dX6_meltSilo_39 : decode cX6_meltSilo 39 = .ok (.iload 6, 2) := by decide +kernel
theorem dX6_meltSilo_41 : decode cX6_meltSilo 41 = .ok (.iload 4, 2) := by decide +kernel
theorem dX6_meltSilo_43 : decode cX6_meltSilo 43 = .ok (.if_icmp .ne 7, 3) := by decide +kernel
theorem dX6_meltSilo_46 : decode cX6_meltSilo 46 = .ok (.iconst 1, 1) := by decide +kernel
theorem dX6_meltSilo_47 : decode cX6_meltSilo 47 = .ok (.goto 4, 3) := by decide +kernel
theorem dX6_meltSilo_50 : decode cX6_meltSilo 50 = .ok (.iconst 0, 1) := by decide +kernel
theorem dX6_meltSilo_51 : decode cX6_meltSilo 51 = .ok (.iload_n 2, 1) := by decide +kernel
theorem dX6_meltSilo_52 : decode cX6_meltSilo 52 = .ok (.invokevirtual 59, 3) := by decide +kernel
theorem dX6_meltSilo_55 : decode cX6_meltSilo 55 = .ok (.istore 7, 2) := by decide +kernel
theorem dX6_meltSilo_57 : decode cX6_meltSilo 57 = .ok (.iload 7, 2) := by decide +kernel
theorem dX6_meltSilo_59 : decode cX6_meltSilo 59 = .ok (.aload_n 0, 1) := by decide +kernel
theorem dX6_meltSilo_60 : decode cX6_meltSilo 60 = .ok (.getfield 30, 3) := by decide +kernel
theorem dX6_meltSilo_63 : decode cX6_meltSilo 63 = .ok (.iload 6, 2) := by decide +kernel
theorem dX6_meltSilo_65 : decode cX6_meltSilo 65 = .ok (.iaload, 1) := by decide +kernel
theorem dX6_meltSilo_66 : decode cX6_meltSilo 66 = .ok (.if_icmp .ge 8, 3) := by decide +kernel
theorem dX6_meltSilo_69 : decode cX6_meltSilo 69 = .ok (.iload 7, 2) := by decide +kernel
theorem dX6_meltSilo_71 : decode cX6_meltSilo 71 = .ok (.goto 10, 3) := by decide +kernel
theorem dX6_meltSilo_74 : decode cX6_meltSilo 74 = .ok (.aload_n 0, 1) := by decide +kernel
theorem dX6_meltSilo_75 : decode cX6_meltSilo 75 = .ok (.getfield 30, 3) := by decide +kernel
theorem dX6_meltSilo_78 : decode cX6_meltSilo 78 = .ok (.iload 6, 2) := by decide +kernel
theorem dX6_meltSilo_80 : decode cX6_meltSilo 80 = .ok (.iaload, 1) := by decide +kernel
theorem dX6_meltSilo_81 : decode cX6_meltSilo 81 = .ok (.istore 8, 2) := by decide +kernel
theorem dX6_meltSilo_83 : decode cX6_meltSilo 83 = .ok (.aload_n 0, 1) := by decide +kernel
theorem dX6_meltSilo_84 : decode cX6_meltSilo 84 = .ok (.getfield 24, 3) := by decide +kernel
theorem dX6_meltSilo_87 : decode cX6_meltSilo 87 = .ok (.iload_n 1, 1) := by decide +kernel
theorem dX6_meltSilo_88 : decode cX6_meltSilo 88 = .ok (.dup2, 1) := by decide +kernel
theorem dX6_meltSilo_89 : decode cX6_meltSilo 89 = .ok (.iaload, 1) := by decide +kernel
theorem dX6_meltSilo_90 : decode cX6_meltSilo 90 = .ok (.iload 8, 2) := by decide +kernel
theorem dX6_meltSilo_92 : decode cX6_meltSilo 92 = .ok (.iadd, 1) := by decide +kernel
theorem dX6_meltSilo_93 : decode cX6_meltSilo 93 = .ok (.iastore, 1) := by decide +kernel
theorem dX6_meltSilo_94 : decode cX6_meltSilo 94 = .ok (.iload 8, 2) := by decide +kernel
theorem dX6_meltSilo_96 : decode cX6_meltSilo 96 = .ok (.aload_n 0, 1) := by decide +kernel
theorem dX6_meltSilo_97 : decode cX6_meltSilo 97 = .ok (.getfield 30, 3) := by decide +kernel
theorem dX6_meltSilo_100 : decode cX6_meltSilo 100 = .ok (.iload 6, 2) := by decide +kernel
theorem dX6_meltSilo_102 : decode cX6_meltSilo 102 = .ok (.iaload, 1) := by decide +kernel
theorem dX6_meltSilo_103 : decode cX6_meltSilo 103 = .ok (.if_icmp .ge 36, 3) := by decide +kernel
theorem dX6_meltSilo_106 : decode cX6_meltSilo 106 = .ok (.aload_n 0, 1) := by decide +kernel
theorem dX6_meltSilo_107 : decode cX6_meltSilo 107 = .ok (.iload 5, 2) := by decide +kernel
theorem dX6_meltSilo_109 : decode cX6_meltSilo 109 = .ok (.aload_n 0, 1) := by decide +kernel
theorem dX6_meltSilo_110 : decode cX6_meltSilo 110 = .ok (.getfield 27, 3) := by decide +kernel
theorem dX6_meltSilo_113 : decode cX6_meltSilo 113 = .ok (.iload 6, 2) := by decide +kernel
theorem dX6_meltSilo_115 : decode cX6_meltSilo 115 = .ok (.iaload, 1) := by decide +kernel
theorem dX6_meltSilo_116 : decode cX6_meltSilo 116 = .ok (.aload_n 0, 1) := by decide +kernel
theorem dX6_meltSilo_117 : decode cX6_meltSilo 117 = .ok (.getfield 30, 3) := by decide +kernel
theorem dX6_meltSilo_120 : decode cX6_meltSilo 120 = .ok (.iload 6, 2) := by decide +kernel
theorem dX6_meltSilo_122 : decode cX6_meltSilo 122 = .ok (.iaload, 1) := by decide +kernel
theorem dX6_meltSilo_123 : decode cX6_meltSilo 123 = .ok (.iload 8, 2) := by decide +kernel
theorem dX6_meltSilo_125 : decode cX6_meltSilo 125 = .ok (.isub, 1) := by decide +kernel
theorem dX6_meltSilo_126 : decode cX6_meltSilo 126 = .ok (.aload_n 0, 1) := by decide +kernel
theorem dX6_meltSilo_127 : decode cX6_meltSilo 127 = .ok (.getfield 33, 3) := by decide +kernel
theorem dX6_meltSilo_130 : decode cX6_meltSilo 130 = .ok (.iload 6, 2) := by decide +kernel
theorem dX6_meltSilo_132 : decode cX6_meltSilo 132 = .ok (.iaload, 1) := by decide +kernel
theorem dX6_meltSilo_133 : decode cX6_meltSilo 133 = .ok (.invokevirtual 63, 3) := by decide +kernel
theorem dX6_meltSilo_136 : decode cX6_meltSilo 136 = .ok (.iinc 5 1, 3) := by decide +kernel
theorem dX6_meltSilo_139 : decode cX6_meltSilo 139 = .ok (.iinc 6 1, 3) := by decide +kernel
theorem dX6_meltSilo_142 : decode cX6_meltSilo 142 = .ok (.goto (-119), 3) := by decide +kernel
theorem dX6_meltSilo_145 : decode cX6_meltSilo 145 = .ok (.aload_n 0, 1) := by decide +kernel
theorem dX6_meltSilo_146 : decode cX6_meltSilo 146 = .ok (.getfield 21, 3) := by decide +kernel
theorem dX6_meltSilo_149 : decode cX6_meltSilo 149 = .ok (.iload_n 1, 1) := by decide +kernel
theorem dX6_meltSilo_150 : decode cX6_meltSilo 150 = .ok (.iload 5, 2) := by decide +kernel
theorem dX6_meltSilo_152 : decode cX6_meltSilo 152 = .ok (.iload_n 3, 1) := by decide +kernel
theorem dX6_meltSilo_153 : decode cX6_meltSilo 153 = .ok (.isub, 1) := by decide +kernel
theorem dX6_meltSilo_154 : decode cX6_meltSilo 154 = .ok (.iastore, 1) := by decide +kernel
theorem dX6_meltSilo_155 : decode cX6_meltSilo 155 = .ok (.return_, 1) := by decide +kernel
theorem dX6_lossOf_0 : decode cX6_lossOf 0 = .ok (.aload_n 0, 1) := by decide +kernel
theorem dX6_lossOf_1 : decode cX6_lossOf 1 = .ok (.getfield 18, 3) := by decide +kernel
theorem dX6_lossOf_4 : decode cX6_lossOf 4 = .ok (.iload_n 1, 1) := by decide +kernel
theorem dX6_lossOf_5 : decode cX6_lossOf 5 = .ok (.iaload, 1) := by decide +kernel
theorem dX6_lossOf_6 : decode cX6_lossOf 6 = .ok (.istore 5, 2) := by decide +kernel
theorem dX6_lossOf_8 : decode cX6_lossOf 8 = .ok (.aload_n 0, 1) := by decide +kernel
theorem dX6_lossOf_9 : decode cX6_lossOf 9 = .ok (.getfield 15, 3) := by decide +kernel
theorem dX6_lossOf_12 : decode cX6_lossOf 12 = .ok (.iload_n 1, 1) := by decide +kernel
theorem dX6_lossOf_13 : decode cX6_lossOf 13 = .ok (.iaload, 1) := by decide +kernel
theorem dX6_lossOf_14 : decode cX6_lossOf 14 = .ok (.tableswitch 49 0 2 #[26, 29, 40], 26) := by decide +kernel
theorem dX6_lossOf_40 : decode cX6_lossOf 40 = .ok (.iload 5, 2) := by decide +kernel
theorem dX6_lossOf_42 : decode cX6_lossOf 42 = .ok (.ireturn, 1) := by decide +kernel
theorem dX6_lossOf_43 : decode cX6_lossOf 43 = .ok (.iload_n 2, 1) := by decide +kernel
theorem dX6_lossOf_44 : decode cX6_lossOf 44 = .ok (.iload 5, 2) := by decide +kernel
theorem dX6_lossOf_46 : decode cX6_lossOf 46 = .ok (.imul, 1) := by decide +kernel
theorem dX6_lossOf_47 : decode cX6_lossOf 47 = .ok (.bipush 99, 2) := by decide +kernel
theorem dX6_lossOf_49 : decode cX6_lossOf 49 = .ok (.iadd, 1) := by decide +kernel
theorem dX6_lossOf_50 : decode cX6_lossOf 50 = .ok (.bipush 100, 2) := by decide +kernel
theorem dX6_lossOf_52 : decode cX6_lossOf 52 = .ok (.idiv, 1) := by decide +kernel
theorem dX6_lossOf_53 : decode cX6_lossOf 53 = .ok (.ireturn, 1) := by decide +kernel
theorem dX6_lossOf_54 : decode cX6_lossOf 54 = .ok (.iload 4, 2) := by decide +kernel
theorem dX6_lossOf_56 : decode cX6_lossOf 56 = .ok (.iload 5, 2) := by decide +kernel
theorem dX6_lossOf_58 : decode cX6_lossOf 58 = .ok (.imul, 1) := by decide +kernel
theorem dX6_lossOf_59 : decode cX6_lossOf 59 = .ok (.bipush 20, 2) := by decide +kernel
theorem dX6_lossOf_61 : decode cX6_lossOf 61 = .ok (.idiv, 1) := by decide +kernel
theorem dX6_lossOf_62 : decode cX6_lossOf 62 = .ok (.ireturn, 1) := by decide +kernel
theorem dX6_lossOf_63 : decode cX6_lossOf 63 = .ok (.iload_n 3, 1) := by decide +kernel
theorem dX6_lossOf_64 : decode cX6_lossOf 64 = .ok (.ifCond .eq 8, 3) := by decide +kernel
theorem dX6_lossOf_67 : decode cX6_lossOf 67 = .ok (.iload 5, 2) := by decide +kernel
theorem dX6_lossOf_69 : decode cX6_lossOf 69 = .ok (.goto 4, 3) := by decide +kernel
theorem dX6_lossOf_72 : decode cX6_lossOf 72 = .ok (.iconst 0, 1) := by decide +kernel
theorem dX6_lossOf_73 : decode cX6_lossOf 73 = .ok (.ireturn, 1) := by decide +kernel
theorem dX6_fillSlot_0 : decode cX6_fillSlot 0 = .ok (.aload_n 0, 1) := by decide +kernel
theorem dX6_fillSlot_1 : decode cX6_fillSlot 1 = .ok (.getfield 27, 3) := by decide +kernel
theorem dX6_fillSlot_4 : decode cX6_fillSlot 4 = .ok (.iload_n 1, 1) := by decide +kernel
theorem dX6_fillSlot_5 : decode cX6_fillSlot 5 = .ok (.iload_n 2, 1) := by decide +kernel
theorem dX6_fillSlot_6 : decode cX6_fillSlot 6 = .ok (.iastore, 1) := by decide +kernel
theorem dX6_fillSlot_7 : decode cX6_fillSlot 7 = .ok (.aload_n 0, 1) := by decide +kernel
theorem dX6_fillSlot_8 : decode cX6_fillSlot 8 = .ok (.getfield 30, 3) := by decide +kernel
theorem dX6_fillSlot_11 : decode cX6_fillSlot 11 = .ok (.iload_n 1, 1) := by decide +kernel
theorem dX6_fillSlot_12 : decode cX6_fillSlot 12 = .ok (.iload_n 3, 1) := by decide +kernel
theorem dX6_fillSlot_13 : decode cX6_fillSlot 13 = .ok (.iastore, 1) := by decide +kernel
theorem dX6_fillSlot_14 : decode cX6_fillSlot 14 = .ok (.aload_n 0, 1) := by decide +kernel
theorem dX6_fillSlot_15 : decode cX6_fillSlot 15 = .ok (.getfield 33, 3) := by decide +kernel
theorem dX6_fillSlot_18 : decode cX6_fillSlot 18 = .ok (.iload_n 1, 1) := by decide +kernel
theorem dX6_fillSlot_19 : decode cX6_fillSlot 19 = .ok (.iload 4, 2) := by decide +kernel
theorem dX6_fillSlot_21 : decode cX6_fillSlot 21 = .ok (.iastore, 1) := by decide +kernel
theorem dX6_fillSlot_22 : decode cX6_fillSlot 22 = .ok (.return_, 1) := by decide +kernel
theorem dX6_makeBlock_0 : decode cX6_makeBlock 0 = .ok (.iconst 0, 1) := by decide +kernel
theorem dX6_makeBlock_1 : decode cX6_makeBlock 1 = .ok (.istore_n 2, 1) := by decide +kernel
theorem dX6_makeBlock_2 : decode cX6_makeBlock 2 = .ok (.iload_n 2, 1) := by decide +kernel
theorem dX6_makeBlock_3 : decode cX6_makeBlock 3 = .ok (.aload_n 0, 1) := by decide +kernel
theorem dX6_makeBlock_4 : decode cX6_makeBlock 4 = .ok (.getfield 36, 3) := by decide +kernel
theorem dX6_makeBlock_7 : decode cX6_makeBlock 7 = .ok (.if_icmp .ge 67, 3) := by decide +kernel
theorem dX6_makeBlock_10 : decode cX6_makeBlock 10 = .ok (.aload_n 0, 1) := by decide +kernel
theorem dX6_makeBlock_11 : decode cX6_makeBlock 11 = .ok (.getfield 21, 3) := by decide +kernel
theorem dX6_makeBlock_14 : decode cX6_makeBlock 14 = .ok (.iload_n 2, 1) := by decide +kernel
theorem dX6_makeBlock_15 : decode cX6_makeBlock 15 = .ok (.iaload, 1) := by decide +kernel
theorem dX6_makeBlock_16 : decode cX6_makeBlock 16 = .ok (.aload_n 0, 1) := by decide +kernel
theorem dX6_makeBlock_17 : decode cX6_makeBlock 17 = .ok (.getfield 11, 3) := by decide +kernel
theorem dX6_makeBlock_20 : decode cX6_makeBlock 20 = .ok (.iload_n 2, 1) := by decide +kernel
theorem dX6_makeBlock_21 : decode cX6_makeBlock 21 = .ok (.iaload, 1) := by decide +kernel
theorem dX6_makeBlock_22 : decode cX6_makeBlock 22 = .ok (.if_icmp .ge 46, 3) := by decide +kernel
theorem dX6_makeBlock_25 : decode cX6_makeBlock 25 = .ok (.aload_n 0, 1) := by decide +kernel
theorem dX6_makeBlock_26 : decode cX6_makeBlock 26 = .ok (.iload_n 2, 1) := by decide +kernel
theorem dX6_makeBlock_27 : decode cX6_makeBlock 27 = .ok (.bipush 30, 2) := by decide +kernel
theorem dX6_makeBlock_29 : decode cX6_makeBlock 29 = .ok (.imul, 1) := by decide +kernel
theorem dX6_makeBlock_30 : decode cX6_makeBlock 30 = .ok (.aload_n 0, 1) := by decide +kernel
theorem dX6_makeBlock_31 : decode cX6_makeBlock 31 = .ok (.getfield 21, 3) := by decide +kernel
theorem dX6_makeBlock_34 : decode cX6_makeBlock 34 = .ok (.iload_n 2, 1) := by decide +kernel
theorem dX6_makeBlock_35 : decode cX6_makeBlock 35 = .ok (.iaload, 1) := by decide +kernel
theorem dX6_makeBlock_36 : decode cX6_makeBlock 36 = .ok (.iadd, 1) := by decide +kernel
theorem dX6_makeBlock_37 : decode cX6_makeBlock 37 = .ok (.aload_n 0, 1) := by decide +kernel
theorem dX6_makeBlock_38 : decode cX6_makeBlock 38 = .ok (.getfield 40, 3) := by decide +kernel
theorem dX6_makeBlock_41 : decode cX6_makeBlock 41 = .ok (.iload_n 1, 1) := by decide +kernel
theorem dX6_makeBlock_42 : decode cX6_makeBlock 42 = .ok (.iconst 0, 1) := by decide +kernel
theorem dX6_makeBlock_43 : decode cX6_makeBlock 43 = .ok (.invokevirtual 63, 3) := by decide +kernel
theorem dX6_makeBlock_46 : decode cX6_makeBlock 46 = .ok (.aload_n 0, 1) := by decide +kernel
theorem dX6_makeBlock_47 : decode cX6_makeBlock 47 = .ok (.getfield 21, 3) := by decide +kernel
theorem dX6_makeBlock_50 : decode cX6_makeBlock 50 = .ok (.iload_n 2, 1) := by decide +kernel
theorem dX6_makeBlock_51 : decode cX6_makeBlock 51 = .ok (.dup2, 1) := by decide +kernel
theorem dX6_makeBlock_52 : decode cX6_makeBlock 52 = .ok (.iaload, 1) := by decide +kernel
theorem dX6_makeBlock_53 : decode cX6_makeBlock 53 = .ok (.iconst 1, 1) := by decide +kernel
theorem dX6_makeBlock_54 : decode cX6_makeBlock 54 = .ok (.iadd, 1) := by decide +kernel
theorem dX6_makeBlock_55 : decode cX6_makeBlock 55 = .ok (.iastore, 1) := by decide +kernel
theorem dX6_makeBlock_56 : decode cX6_makeBlock 56 = .ok (.aload_n 0, 1) := by decide +kernel
theorem dX6_makeBlock_57 : decode cX6_makeBlock 57 = .ok (.dup, 1) := by decide +kernel
theorem dX6_makeBlock_58 : decode cX6_makeBlock 58 = .ok (.getfield 40, 3) := by decide +kernel
theorem dX6_makeBlock_61 : decode cX6_makeBlock 61 = .ok (.iconst 1, 1) := by decide +kernel
theorem dX6_makeBlock_62 : decode cX6_makeBlock 62 = .ok (.iadd, 1) := by decide +kernel
theorem dX6_makeBlock_63 : decode cX6_makeBlock 63 = .ok (.putfield 40, 3) := by decide +kernel
theorem dX6_makeBlock_66 : decode cX6_makeBlock 66 = .ok (.iconst 1, 1) := by decide +kernel
theorem dX6_makeBlock_67 : decode cX6_makeBlock 67 = .ok (.ireturn, 1) := by decide +kernel
theorem dX6_makeBlock_68 : decode cX6_makeBlock 68 = .ok (.iinc 2 1, 3) := by decide +kernel
theorem dX6_makeBlock_71 : decode cX6_makeBlock 71 = .ok (.goto (-69), 3) := by decide +kernel
theorem dX6_makeBlock_74 : decode cX6_makeBlock 74 = .ok (.iconst 0, 1) := by decide +kernel
theorem dX6_makeBlock_75 : decode cX6_makeBlock 75 = .ok (.ireturn, 1) := by decide +kernel
theorem dX6_moveTop_0 : decode cX6_moveTop 0 = .ok (.aload_n 0, 1) := by decide +kernel
theorem dX6_moveTop_1 : decode cX6_moveTop 1 = .ok (.iload_n 1, 1) := by decide +kernel
theorem dX6_moveTop_2 : decode cX6_moveTop 2 = .ok (.aload_n 0, 1) := by decide +kernel
theorem dX6_moveTop_3 : decode cX6_moveTop 3 = .ok (.getfield 21, 3) := by decide +kernel
theorem dX6_moveTop_6 : decode cX6_moveTop 6 = .ok (.iload_n 1, 1) := by decide +kernel
theorem dX6_moveTop_7 : decode cX6_moveTop 7 = .ok (.invokestatic 47, 3) := by decide +kernel
theorem dX6_moveTop_10 : decode cX6_moveTop 10 = .ok (.iconst 1, 1) := by decide +kernel
theorem dX6_moveTop_11 : decode cX6_moveTop 11 = .ok (.isub, 1) := by decide +kernel
theorem dX6_moveTop_12 : decode cX6_moveTop 12 = .ok (.invokevirtual 67, 3) := by decide +kernel
theorem dX6_moveTop_15 : decode cX6_moveTop 15 = .ok (.istore_n 3, 1) := by decide +kernel
theorem dX6_moveTop_16 : decode cX6_moveTop 16 = .ok (.iload_n 3, 1) := by decide +kernel
theorem dX6_moveTop_17 : decode cX6_moveTop 17 = .ok (.iconst (-1), 1) := by decide +kernel
theorem dX6_moveTop_18 : decode cX6_moveTop 18 = .ok (.if_icmp .eq 26, 3) := by decide +kernel
theorem dX6_moveTop_21 : decode cX6_moveTop 21 = .ok (.aload_n 0, 1) := by decide +kernel
theorem dX6_moveTop_22 : decode cX6_moveTop 22 = .ok (.iload_n 2, 1) := by decide +kernel
theorem dX6_moveTop_23 : decode cX6_moveTop 23 = .ok (.invokevirtual 51, 3) := by decide +kernel
theorem dX6_moveTop_26 : decode cX6_moveTop 26 = .ok (.ifCond .eq 18, 3) := by decide +kernel
theorem dX6_moveTop_29 : decode cX6_moveTop 29 = .ok (.aload_n 0, 1) := by decide +kernel
theorem dX6_moveTop_30 : decode cX6_moveTop 30 = .ok (.getfield 21, 3) := by decide +kernel
theorem dX6_moveTop_33 : decode cX6_moveTop 33 = .ok (.iload_n 2, 1) := by decide +kernel
theorem dX6_moveTop_34 : decode cX6_moveTop 34 = .ok (.iaload, 1) := by decide +kernel
theorem dX6_moveTop_35 : decode cX6_moveTop 35 = .ok (.aload_n 0, 1) := by decide +kernel
theorem dX6_moveTop_36 : decode cX6_moveTop 36 = .ok (.getfield 11, 3) := by decide +kernel
theorem dX6_moveTop_39 : decode cX6_moveTop 39 = .ok (.iload_n 2, 1) := by decide +kernel
theorem dX6_moveTop_40 : decode cX6_moveTop 40 = .ok (.iaload, 1) := by decide +kernel
theorem dX6_moveTop_41 : decode cX6_moveTop 41 = .ok (.if_icmp .lt 5, 3) := by decide +kernel
theorem dX6_moveTop_44 : decode cX6_moveTop 44 = .ok (.iconst (-1), 1) := by decide +kernel
theorem dX6_moveTop_45 : decode cX6_moveTop 45 = .ok (.ireturn, 1) := by decide +kernel
theorem dX6_moveTop_46 : decode cX6_moveTop 46 = .ok (.aload_n 0, 1) := by decide +kernel
theorem dX6_moveTop_47 : decode cX6_moveTop 47 = .ok (.iload_n 2, 1) := by decide +kernel
theorem dX6_moveTop_48 : decode cX6_moveTop 48 = .ok (.bipush 30, 2) := by decide +kernel
theorem dX6_moveTop_50 : decode cX6_moveTop 50 = .ok (.imul, 1) := by decide +kernel
theorem dX6_moveTop_51 : decode cX6_moveTop 51 = .ok (.aload_n 0, 1) := by decide +kernel
theorem dX6_moveTop_52 : decode cX6_moveTop 52 = .ok (.getfield 21, 3) := by decide +kernel
theorem dX6_moveTop_55 : decode cX6_moveTop 55 = .ok (.iload_n 2, 1) := by decide +kernel
theorem dX6_moveTop_56 : decode cX6_moveTop 56 = .ok (.iaload, 1) := by decide +kernel
theorem dX6_moveTop_57 : decode cX6_moveTop 57 = .ok (.iadd, 1) := by decide +kernel
theorem dX6_moveTop_58 : decode cX6_moveTop 58 = .ok (.aload_n 0, 1) := by decide +kernel
theorem dX6_moveTop_59 : decode cX6_moveTop 59 = .ok (.getfield 27, 3) := by decide +kernel
theorem dX6_moveTop_62 : decode cX6_moveTop 62 = .ok (.iload_n 3, 1) := by decide +kernel
theorem dX6_moveTop_63 : decode cX6_moveTop 63 = .ok (.iaload, 1) := by decide +kernel
theorem dX6_moveTop_64 : decode cX6_moveTop 64 = .ok (.aload_n 0, 1) := by decide +kernel
theorem dX6_moveTop_65 : decode cX6_moveTop 65 = .ok (.getfield 30, 3) := by decide +kernel
theorem dX6_moveTop_68 : decode cX6_moveTop 68 = .ok (.iload_n 3, 1) := by decide +kernel
theorem dX6_moveTop_69 : decode cX6_moveTop 69 = .ok (.iaload, 1) := by decide +kernel
theorem dX6_moveTop_70 : decode cX6_moveTop 70 = .ok (.aload_n 0, 1) := by decide +kernel
theorem dX6_moveTop_71 : decode cX6_moveTop 71 = .ok (.getfield 33, 3) := by decide +kernel
theorem dX6_moveTop_74 : decode cX6_moveTop 74 = .ok (.iload_n 3, 1) := by decide +kernel
theorem dX6_moveTop_75 : decode cX6_moveTop 75 = .ok (.iaload, 1) := by decide +kernel
theorem dX6_moveTop_76 : decode cX6_moveTop 76 = .ok (.invokevirtual 63, 3) := by decide +kernel
theorem dX6_moveTop_79 : decode cX6_moveTop 79 = .ok (.aload_n 0, 1) := by decide +kernel
theorem dX6_moveTop_80 : decode cX6_moveTop 80 = .ok (.getfield 21, 3) := by decide +kernel
theorem dX6_moveTop_83 : decode cX6_moveTop 83 = .ok (.iload_n 2, 1) := by decide +kernel
theorem dX6_moveTop_84 : decode cX6_moveTop 84 = .ok (.dup2, 1) := by decide +kernel
theorem dX6_moveTop_85 : decode cX6_moveTop 85 = .ok (.iaload, 1) := by decide +kernel
theorem dX6_moveTop_86 : decode cX6_moveTop 86 = .ok (.iconst 1, 1) := by decide +kernel
theorem dX6_moveTop_87 : decode cX6_moveTop 87 = .ok (.iadd, 1) := by decide +kernel
theorem dX6_moveTop_88 : decode cX6_moveTop 88 = .ok (.iastore, 1) := by decide +kernel
theorem dX6_moveTop_89 : decode cX6_moveTop 89 = .ok (.aload_n 0, 1) := by decide +kernel
theorem dX6_moveTop_90 : decode cX6_moveTop 90 = .ok (.getfield 21, 3) := by decide +kernel
theorem dX6_moveTop_93 : decode cX6_moveTop 93 = .ok (.iload_n 1, 1) := by decide +kernel
theorem dX6_moveTop_94 : decode cX6_moveTop 94 = .ok (.dup2, 1) := by decide +kernel
theorem dX6_moveTop_95 : decode cX6_moveTop 95 = .ok (.iaload, 1) := by decide +kernel
theorem dX6_moveTop_96 : decode cX6_moveTop 96 = .ok (.iconst 1, 1) := by decide +kernel
theorem dX6_moveTop_97 : decode cX6_moveTop 97 = .ok (.isub, 1) := by decide +kernel
theorem dX6_moveTop_98 : decode cX6_moveTop 98 = .ok (.iastore, 1) := by decide +kernel
theorem dX6_moveTop_99 : decode cX6_moveTop 99 = .ok (.aload_n 0, 1) := by decide +kernel
theorem dX6_moveTop_100 : decode cX6_moveTop 100 = .ok (.getfield 27, 3) := by decide +kernel
theorem dX6_moveTop_103 : decode cX6_moveTop 103 = .ok (.iload_n 3, 1) := by decide +kernel
theorem dX6_moveTop_104 : decode cX6_moveTop 104 = .ok (.iaload, 1) := by decide +kernel
theorem dX6_moveTop_105 : decode cX6_moveTop 105 = .ok (.ireturn, 1) := by decide +kernel
theorem dX6_oldestSlot_0 : decode cX6_oldestSlot 0 = .ok (.iconst (-1), 1) := by decide +kernel
theorem dX6_oldestSlot_1 : decode cX6_oldestSlot 1 = .ok (.istore_n 1, 1) := by decide +kernel
theorem dX6_oldestSlot_2 : decode cX6_oldestSlot 2 = .ok (.iconst 0, 1) := by decide +kernel
theorem dX6_oldestSlot_3 : decode cX6_oldestSlot 3 = .ok (.istore_n 2, 1) := by decide +kernel
theorem dX6_oldestSlot_4 : decode cX6_oldestSlot 4 = .ok (.iload_n 2, 1) := by decide +kernel
theorem dX6_oldestSlot_5 : decode cX6_oldestSlot 5 = .ok (.aload_n 0, 1) := by decide +kernel
theorem dX6_oldestSlot_6 : decode cX6_oldestSlot 6 = .ok (.getfield 36, 3) := by decide +kernel
theorem dX6_oldestSlot_9 : decode cX6_oldestSlot 9 = .ok (.if_icmp .ge 63, 3) := by decide +kernel
theorem dX6_oldestSlot_12 : decode cX6_oldestSlot 12 = .ok (.iload_n 2, 1) := by decide +kernel
theorem dX6_oldestSlot_13 : decode cX6_oldestSlot 13 = .ok (.bipush 30, 2) := by decide +kernel
theorem dX6_oldestSlot_15 : decode cX6_oldestSlot 15 = .ok (.imul, 1) := by decide +kernel
theorem dX6_oldestSlot_16 : decode cX6_oldestSlot 16 = .ok (.aload_n 0, 1) := by decide +kernel
theorem dX6_oldestSlot_17 : decode cX6_oldestSlot 17 = .ok (.getfield 21, 3) := by decide +kernel
theorem dX6_oldestSlot_20 : decode cX6_oldestSlot 20 = .ok (.iload_n 2, 1) := by decide +kernel
theorem dX6_oldestSlot_21 : decode cX6_oldestSlot 21 = .ok (.iaload, 1) := by decide +kernel
theorem dX6_oldestSlot_22 : decode cX6_oldestSlot 22 = .ok (.iadd, 1) := by decide +kernel
theorem dX6_oldestSlot_23 : decode cX6_oldestSlot 23 = .ok (.istore_n 3, 1) := by decide +kernel
theorem dX6_oldestSlot_24 : decode cX6_oldestSlot 24 = .ok (.iload_n 2, 1) := by decide +kernel
theorem dX6_oldestSlot_25 : decode cX6_oldestSlot 25 = .ok (.bipush 30, 2) := by decide +kernel
theorem dX6_oldestSlot_27 : decode cX6_oldestSlot 27 = .ok (.imul, 1) := by decide +kernel
theorem dX6_oldestSlot_28 : decode cX6_oldestSlot 28 = .ok (.istore 4, 2) := by decide +kernel
theorem dX6_oldestSlot_30 : decode cX6_oldestSlot 30 = .ok (.iload 4, 2) := by decide +kernel
theorem dX6_oldestSlot_32 : decode cX6_oldestSlot 32 = .ok (.iload_n 3, 1) := by decide +kernel
theorem dX6_oldestSlot_33 : decode cX6_oldestSlot 33 = .ok (.if_icmp .ge 33, 3) := by decide +kernel
theorem dX6_oldestSlot_36 : decode cX6_oldestSlot 36 = .ok (.iload_n 1, 1) := by decide +kernel
theorem dX6_oldestSlot_37 : decode cX6_oldestSlot 37 = .ok (.iconst (-1), 1) := by decide +kernel
theorem dX6_oldestSlot_38 : decode cX6_oldestSlot 38 = .ok (.if_icmp .eq 19, 3) := by decide +kernel
theorem dX6_oldestSlot_41 : decode cX6_oldestSlot 41 = .ok (.aload_n 0, 1) := by decide +kernel
theorem dX6_oldestSlot_42 : decode cX6_oldestSlot 42 = .ok (.getfield 27, 3) := by decide +kernel
theorem dX6_oldestSlot_45 : decode cX6_oldestSlot 45 = .ok (.iload 4, 2) := by decide +kernel
theorem dX6_oldestSlot_47 : decode cX6_oldestSlot 47 = .ok (.iaload, 1) := by decide +kernel
theorem dX6_oldestSlot_48 : decode cX6_oldestSlot 48 = .ok (.aload_n 0, 1) := by decide +kernel
theorem dX6_oldestSlot_49 : decode cX6_oldestSlot 49 = .ok (.getfield 27, 3) := by decide +kernel
theorem dX6_oldestSlot_52 : decode cX6_oldestSlot 52 = .ok (.iload_n 1, 1) := by decide +kernel
theorem dX6_oldestSlot_53 : decode cX6_oldestSlot 53 = .ok (.iaload, 1) := by decide +kernel
theorem dX6_oldestSlot_54 : decode cX6_oldestSlot 54 = .ok (.if_icmp .ge 6, 3) := by decide +kernel
theorem dX6_oldestSlot_57 : decode cX6_oldestSlot 57 = .ok (.iload 4, 2) := by decide +kernel
theorem dX6_oldestSlot_59 : decode cX6_oldestSlot 59 = .ok (.istore_n 1, 1) := by decide +kernel
theorem dX6_oldestSlot_60 : decode cX6_oldestSlot 60 = .ok (.iinc 4 1, 3) := by decide +kernel
theorem dX6_oldestSlot_63 : decode cX6_oldestSlot 63 = .ok (.goto (-33), 3) := by decide +kernel
theorem dX6_oldestSlot_66 : decode cX6_oldestSlot 66 = .ok (.iinc 2 1, 3) := by decide +kernel
theorem dX6_oldestSlot_69 : decode cX6_oldestSlot 69 = .ok (.goto (-65), 3) := by decide +kernel
theorem dX6_oldestSlot_72 : decode cX6_oldestSlot 72 = .ok (.iload_n 1, 1) := by decide +kernel
theorem dX6_oldestSlot_73 : decode cX6_oldestSlot 73 = .ok (.ireturn, 1) := by decide +kernel
theorem dX6_removeBlock_0 : decode cX6_removeBlock 0 = .ok (.iload_n 1, 1) := by decide +kernel
theorem dX6_removeBlock_1 : decode cX6_removeBlock 1 = .ok (.ifCond .lt 10, 3) := by decide +kernel
theorem dX6_removeBlock_4 : decode cX6_removeBlock 4 = .ok (.iload_n 1, 1) := by decide +kernel
theorem dX6_removeBlock_5 : decode cX6_removeBlock 5 = .ok (.sipush 150, 3) := by decide +kernel
theorem dX6_removeBlock_8 : decode cX6_removeBlock 8 = .ok (.if_icmp .lt 5, 3) := by decide +kernel
theorem dX6_removeBlock_11 : decode cX6_removeBlock 11 = .ok (.iconst 0, 1) := by decide +kernel
theorem dX6_removeBlock_12 : decode cX6_removeBlock 12 = .ok (.ireturn, 1) := by decide +kernel
theorem dX6_removeBlock_13 : decode cX6_removeBlock 13 = .ok (.aload_n 0, 1) := by decide +kernel
theorem dX6_removeBlock_14 : decode cX6_removeBlock 14 = .ok (.getfield 30, 3) := by decide +kernel
theorem dX6_removeBlock_17 : decode cX6_removeBlock 17 = .ok (.iload_n 1, 1) := by decide +kernel
theorem dX6_removeBlock_18 : decode cX6_removeBlock 18 = .ok (.iaload, 1) := by decide +kernel
theorem dX6_removeBlock_19 : decode cX6_removeBlock 19 = .ok (.istore_n 2, 1) := by decide +kernel
theorem dX6_removeBlock_20 : decode cX6_removeBlock 20 = .ok (.iload_n 1, 1) := by decide +kernel
theorem dX6_removeBlock_21 : decode cX6_removeBlock 21 = .ok (.bipush 30, 2) := by decide +kernel
theorem dX6_removeBlock_23 : decode cX6_removeBlock 23 = .ok (.idiv, 1) := by decide +kernel
theorem dX6_removeBlock_24 : decode cX6_removeBlock 24 = .ok (.istore_n 3, 1) := by decide +kernel
theorem dX6_removeBlock_25 : decode cX6_removeBlock 25 = .ok (.iload_n 3, 1) := by decide +kernel
theorem dX6_removeBlock_26 : decode cX6_removeBlock 26 = .ok (.bipush 30, 2) := by decide +kernel
theorem dX6_removeBlock_28 : decode cX6_removeBlock 28 = .ok (.imul, 1) := by decide +kernel
theorem dX6_removeBlock_29 : decode cX6_removeBlock 29 = .ok (.aload_n 0, 1) := by decide +kernel
theorem dX6_removeBlock_30 : decode cX6_removeBlock 30 = .ok (.getfield 21, 3) := by decide +kernel
theorem dX6_removeBlock_33 : decode cX6_removeBlock 33 = .ok (.iload_n 3, 1) := by decide +kernel
theorem dX6_removeBlock_34 : decode cX6_removeBlock 34 = .ok (.iaload, 1) := by decide +kernel
theorem dX6_removeBlock_35 : decode cX6_removeBlock 35 = .ok (.iadd, 1) := by decide +kernel
theorem dX6_removeBlock_36 : decode cX6_removeBlock 36 = .ok (.istore 4, 2) := by decide +kernel
theorem dX6_removeBlock_38 : decode cX6_removeBlock 38 = .ok (.iload_n 1, 1) := by decide +kernel
theorem dX6_removeBlock_39 : decode cX6_removeBlock 39 = .ok (.iconst 1, 1) := by decide +kernel
theorem dX6_removeBlock_40 : decode cX6_removeBlock 40 = .ok (.iadd, 1) := by decide +kernel
theorem dX6_removeBlock_41 : decode cX6_removeBlock 41 = .ok (.istore 5, 2) := by decide +kernel
theorem dX6_removeBlock_43 : decode cX6_removeBlock 43 = .ok (.iload 5, 2) := by decide +kernel
theorem dX6_removeBlock_45 : decode cX6_removeBlock 45 = .ok (.iload 4, 2) := by decide +kernel
theorem dX6_removeBlock_47 : decode cX6_removeBlock 47 = .ok (.if_icmp .ge 38, 3) := by decide +kernel
theorem dX6_removeBlock_50 : decode cX6_removeBlock 50 = .ok (.aload_n 0, 1) := by decide +kernel
theorem dX6_removeBlock_51 : decode cX6_removeBlock 51 = .ok (.iload 5, 2) := by decide +kernel
theorem dX6_removeBlock_53 : decode cX6_removeBlock 53 = .ok (.iconst 1, 1) := by decide +kernel
theorem dX6_removeBlock_54 : decode cX6_removeBlock 54 = .ok (.isub, 1) := by decide +kernel
theorem dX6_removeBlock_55 : decode cX6_removeBlock 55 = .ok (.aload_n 0, 1) := by decide +kernel
theorem dX6_removeBlock_56 : decode cX6_removeBlock 56 = .ok (.getfield 27, 3) := by decide +kernel
theorem dX6_removeBlock_59 : decode cX6_removeBlock 59 = .ok (.iload 5, 2) := by decide +kernel
theorem dX6_removeBlock_61 : decode cX6_removeBlock 61 = .ok (.iaload, 1) := by decide +kernel
theorem dX6_removeBlock_62 : decode cX6_removeBlock 62 = .ok (.aload_n 0, 1) := by decide +kernel
theorem dX6_removeBlock_63 : decode cX6_removeBlock 63 = .ok (.getfield 30, 3) := by decide +kernel
theorem dX6_removeBlock_66 : decode cX6_removeBlock 66 = .ok (.iload 5, 2) := by decide +kernel
theorem dX6_removeBlock_68 : decode cX6_removeBlock 68 = .ok (.iaload, 1) := by decide +kernel
theorem dX6_removeBlock_69 : decode cX6_removeBlock 69 = .ok (.aload_n 0, 1) := by decide +kernel
theorem dX6_removeBlock_70 : decode cX6_removeBlock 70 = .ok (.getfield 33, 3) := by decide +kernel
theorem dX6_removeBlock_73 : decode cX6_removeBlock 73 = .ok (.iload 5, 2) := by decide +kernel
theorem dX6_removeBlock_75 : decode cX6_removeBlock 75 = .ok (.iaload, 1) := by decide +kernel
theorem dX6_removeBlock_76 : decode cX6_removeBlock 76 = .ok (.invokevirtual 63, 3) := by decide +kernel
theorem dX6_removeBlock_79 : decode cX6_removeBlock 79 = .ok (.iinc 5 1, 3) := by decide +kernel
theorem dX6_removeBlock_82 : decode cX6_removeBlock 82 = .ok (.goto (-39), 3) := by decide +kernel
theorem dX6_removeBlock_85 : decode cX6_removeBlock 85 = .ok (.aload_n 0, 1) := by decide +kernel
theorem dX6_removeBlock_86 : decode cX6_removeBlock 86 = .ok (.getfield 21, 3) := by decide +kernel
theorem dX6_removeBlock_89 : decode cX6_removeBlock 89 = .ok (.iload_n 3, 1) := by decide +kernel
theorem dX6_removeBlock_90 : decode cX6_removeBlock 90 = .ok (.dup2, 1) := by decide +kernel
theorem dX6_removeBlock_91 : decode cX6_removeBlock 91 = .ok (.iaload, 1) := by decide +kernel
theorem dX6_removeBlock_92 : decode cX6_removeBlock 92 = .ok (.iconst 1, 1) := by decide +kernel
theorem dX6_removeBlock_93 : decode cX6_removeBlock 93 = .ok (.isub, 1) := by decide +kernel
theorem dX6_removeBlock_94 : decode cX6_removeBlock 94 = .ok (.iastore, 1) := by decide +kernel
theorem dX6_removeBlock_95 : decode cX6_removeBlock 95 = .ok (.iload_n 2, 1) := by decide +kernel
theorem dX6_removeBlock_96 : decode cX6_removeBlock 96 = .ok (.ireturn, 1) := by decide +kernel
theorem dX6_growOlder_0 : decode cX6_growOlder 0 = .ok (.iconst 0, 1) := by decide +kernel
theorem dX6_growOlder_1 : decode cX6_growOlder 1 = .ok (.istore_n 1, 1) := by decide +kernel
theorem dX6_growOlder_2 : decode cX6_growOlder 2 = .ok (.iload_n 1, 1) := by decide +kernel
theorem dX6_growOlder_3 : decode cX6_growOlder 3 = .ok (.aload_n 0, 1) := by decide +kernel
theorem dX6_growOlder_4 : decode cX6_growOlder 4 = .ok (.getfield 36, 3) := by decide +kernel
theorem dX6_growOlder_7 : decode cX6_growOlder 7 = .ok (.if_icmp .ge 47, 3) := by decide +kernel
theorem dX6_growOlder_10 : decode cX6_growOlder 10 = .ok (.iload_n 1, 1) := by decide +kernel
theorem dX6_growOlder_11 : decode cX6_growOlder 11 = .ok (.bipush 30, 2) := by decide +kernel
theorem dX6_growOlder_13 : decode cX6_growOlder 13 = .ok (.imul, 1) := by decide +kernel
theorem dX6_growOlder_14 : decode cX6_growOlder 14 = .ok (.aload_n 0, 1) := by decide +kernel
theorem dX6_growOlder_15 : decode cX6_growOlder 15 = .ok (.getfield 21, 3) := by decide +kernel
theorem dX6_growOlder_18 : decode cX6_growOlder 18 = .ok (.iload_n 1, 1) := by decide +kernel
theorem dX6_growOlder_19 : decode cX6_growOlder 19 = .ok (.iaload, 1) := by decide +kernel
theorem dX6_growOlder_20 : decode cX6_growOlder 20 = .ok (.iadd, 1) := by decide +kernel
theorem dX6_growOlder_21 : decode cX6_growOlder 21 = .ok (.istore_n 2, 1) := by decide +kernel
theorem dX6_growOlder_22 : decode cX6_growOlder 22 = .ok (.iload_n 1, 1) := by decide +kernel
theorem dX6_growOlder_23 : decode cX6_growOlder 23 = .ok (.bipush 30, 2) := by decide +kernel
theorem dX6_growOlder_25 : decode cX6_growOlder 25 = .ok (.imul, 1) := by decide +kernel
theorem dX6_growOlder_26 : decode cX6_growOlder 26 = .ok (.istore_n 3, 1) := by decide +kernel
theorem dX6_growOlder_27 : decode cX6_growOlder 27 = .ok (.iload_n 3, 1) := by decide +kernel
theorem dX6_growOlder_28 : decode cX6_growOlder 28 = .ok (.iload_n 2, 1) := by decide +kernel
theorem dX6_growOlder_29 : decode cX6_growOlder 29 = .ok (.if_icmp .ge 19, 3) := by decide +kernel
theorem dX6_growOlder_32 : decode cX6_growOlder 32 = .ok (.aload_n 0, 1) := by decide +kernel
theorem dX6_growOlder_33 : decode cX6_growOlder 33 = .ok (.getfield 33, 3) := by decide +kernel
theorem dX6_growOlder_36 : decode cX6_growOlder 36 = .ok (.iload_n 3, 1) := by decide +kernel
theorem dX6_growOlder_37 : decode cX6_growOlder 37 = .ok (.dup2, 1) := by decide +kernel
theorem dX6_growOlder_38 : decode cX6_growOlder 38 = .ok (.iaload, 1) := by decide +kernel
theorem dX6_growOlder_39 : decode cX6_growOlder 39 = .ok (.iconst 1, 1) := by decide +kernel
theorem dX6_growOlder_40 : decode cX6_growOlder 40 = .ok (.iadd, 1) := by decide +kernel
theorem dX6_growOlder_41 : decode cX6_growOlder 41 = .ok (.iastore, 1) := by decide +kernel
theorem dX6_growOlder_42 : decode cX6_growOlder 42 = .ok (.iinc 3 1, 3) := by decide +kernel
theorem dX6_growOlder_45 : decode cX6_growOlder 45 = .ok (.goto (-18), 3) := by decide +kernel
theorem dX6_growOlder_48 : decode cX6_growOlder 48 = .ok (.iinc 1 1, 3) := by decide +kernel
theorem dX6_growOlder_51 : decode cX6_growOlder 51 = .ok (.goto (-49), 3) := by decide +kernel
theorem dX6_growOlder_54 : decode cX6_growOlder 54 = .ok (.return_, 1) := by decide +kernel
theorem dX6_blocks_0 : decode cX6_blocks 0 = .ok (.iconst 0, 1) := by decide +kernel
theorem dX6_blocks_1 : decode cX6_blocks 1 = .ok (.istore_n 1, 1) := by decide +kernel
theorem dX6_blocks_2 : decode cX6_blocks 2 = .ok (.iconst 0, 1) := by decide +kernel
theorem dX6_blocks_3 : decode cX6_blocks 3 = .ok (.istore_n 2, 1) := by decide +kernel
theorem dX6_blocks_4 : decode cX6_blocks 4 = .ok (.iload_n 2, 1) := by decide +kernel
theorem dX6_blocks_5 : decode cX6_blocks 5 = .ok (.aload_n 0, 1) := by decide +kernel
theorem dX6_blocks_6 : decode cX6_blocks 6 = .ok (.getfield 36, 3) := by decide +kernel
theorem dX6_blocks_9 : decode cX6_blocks 9 = .ok (.if_icmp .ge 18, 3) := by decide +kernel
theorem dX6_blocks_12 : decode cX6_blocks 12 = .ok (.iload_n 1, 1) := by decide +kernel
theorem dX6_blocks_13 : decode cX6_blocks 13 = .ok (.aload_n 0, 1) := by decide +kernel
theorem dX6_blocks_14 : decode cX6_blocks 14 = .ok (.getfield 21, 3) := by decide +kernel
theorem dX6_blocks_17 : decode cX6_blocks 17 = .ok (.iload_n 2, 1) := by decide +kernel
theorem dX6_blocks_18 : decode cX6_blocks 18 = .ok (.iaload, 1) := by decide +kernel
theorem dX6_blocks_19 : decode cX6_blocks 19 = .ok (.iadd, 1) := by decide +kernel
theorem dX6_blocks_20 : decode cX6_blocks 20 = .ok (.istore_n 1, 1) := by decide +kernel
theorem dX6_blocks_21 : decode cX6_blocks 21 = .ok (.iinc 2 1, 3) := by decide +kernel
theorem dX6_blocks_24 : decode cX6_blocks 24 = .ok (.goto (-20), 3) := by decide +kernel
theorem dX6_blocks_27 : decode cX6_blocks 27 = .ok (.iload_n 1, 1) := by decide +kernel
theorem dX6_blocks_28 : decode cX6_blocks 28 = .ok (.ireturn, 1) := by decide +kernel
theorem dX6_mass_0 : decode cX6_mass 0 = .ok (.aload_n 0, 1) := by decide +kernel
theorem dX6_mass_1 : decode cX6_mass 1 = .ok (.aload_n 0, 1) := by decide +kernel
theorem dX6_mass_2 : decode cX6_mass 2 = .ok (.getfield 30, 3) := by decide +kernel
theorem dX6_mass_5 : decode cX6_mass 5 = .ok (.iconst 0, 1) := by decide +kernel
theorem dX6_mass_6 : decode cX6_mass 6 = .ok (.aload_n 0, 1) := by decide +kernel
theorem dX6_mass_7 : decode cX6_mass 7 = .ok (.getfield 36, 3) := by decide +kernel
theorem dX6_mass_10 : decode cX6_mass 10 = .ok (.invokevirtual 71, 3) := by decide +kernel
theorem dX6_mass_13 : decode cX6_mass 13 = .ok (.ireturn, 1) := by decide +kernel
theorem dX6_sumOfAges_0 : decode cX6_sumOfAges 0 = .ok (.aload_n 0, 1) := by decide +kernel
theorem dX6_sumOfAges_1 : decode cX6_sumOfAges 1 = .ok (.aload_n 0, 1) := by decide +kernel
theorem dX6_sumOfAges_2 : decode cX6_sumOfAges 2 = .ok (.getfield 33, 3) := by decide +kernel
theorem dX6_sumOfAges_5 : decode cX6_sumOfAges 5 = .ok (.iconst 0, 1) := by decide +kernel
theorem dX6_sumOfAges_6 : decode cX6_sumOfAges 6 = .ok (.aload_n 0, 1) := by decide +kernel
theorem dX6_sumOfAges_7 : decode cX6_sumOfAges 7 = .ok (.getfield 36, 3) := by decide +kernel
theorem dX6_sumOfAges_10 : decode cX6_sumOfAges 10 = .ok (.invokevirtual 71, 3) := by decide +kernel
theorem dX6_sumOfAges_13 : decode cX6_sumOfAges 13 = .ok (.ireturn, 1) := by decide +kernel
theorem dX6_meltedMass_0 : decode cX6_meltedMass 0 = .ok (.iconst 0, 1) := by decide +kernel
theorem dX6_meltedMass_1 : decode cX6_meltedMass 1 = .ok (.istore_n 1, 1) := by decide +kernel
theorem dX6_meltedMass_2 : decode cX6_meltedMass 2 = .ok (.iconst 0, 1) := by decide +kernel
theorem dX6_meltedMass_3 : decode cX6_meltedMass 3 = .ok (.istore_n 2, 1) := by decide +kernel
theorem dX6_meltedMass_4 : decode cX6_meltedMass 4 = .ok (.iload_n 2, 1) := by decide +kernel
theorem dX6_meltedMass_5 : decode cX6_meltedMass 5 = .ok (.aload_n 0, 1) := by decide +kernel
theorem dX6_meltedMass_6 : decode cX6_meltedMass 6 = .ok (.getfield 36, 3) := by decide +kernel
theorem dX6_meltedMass_9 : decode cX6_meltedMass 9 = .ok (.if_icmp .ge 18, 3) := by decide +kernel
theorem dX6_meltedMass_12 : decode cX6_meltedMass 12 = .ok (.iload_n 1, 1) := by decide +kernel
theorem dX6_meltedMass_13 : decode cX6_meltedMass 13 = .ok (.aload_n 0, 1) := by decide +kernel
theorem dX6_meltedMass_14 : decode cX6_meltedMass 14 = .ok (.getfield 24, 3) := by decide +kernel
theorem dX6_meltedMass_17 : decode cX6_meltedMass 17 = .ok (.iload_n 2, 1) := by decide +kernel
theorem dX6_meltedMass_18 : decode cX6_meltedMass 18 = .ok (.iaload, 1) := by decide +kernel
theorem dX6_meltedMass_19 : decode cX6_meltedMass 19 = .ok (.iadd, 1) := by decide +kernel
theorem dX6_meltedMass_20 : decode cX6_meltedMass 20 = .ok (.istore_n 1, 1) := by decide +kernel
theorem dX6_meltedMass_21 : decode cX6_meltedMass 21 = .ok (.iinc 2 1, 3) := by decide +kernel
theorem dX6_meltedMass_24 : decode cX6_meltedMass 24 = .ok (.goto (-20), 3) := by decide +kernel
theorem dX6_meltedMass_27 : decode cX6_meltedMass 27 = .ok (.iload_n 1, 1) := by decide +kernel
theorem dX6_meltedMass_28 : decode cX6_meltedMass 28 = .ok (.ireturn, 1) := by decide +kernel
theorem dX6_sumOf_0 : decode cX6_sumOf 0 = .ok (.iconst 0, 1) := by decide +kernel
theorem dX6_sumOf_1 : decode cX6_sumOf 1 = .ok (.istore 4, 2) := by decide +kernel
theorem dX6_sumOf_3 : decode cX6_sumOf 3 = .ok (.iload_n 2, 1) := by decide +kernel
theorem dX6_sumOf_4 : decode cX6_sumOf 4 = .ok (.istore 5, 2) := by decide +kernel
theorem dX6_sumOf_6 : decode cX6_sumOf 6 = .ok (.iload 5, 2) := by decide +kernel
theorem dX6_sumOf_8 : decode cX6_sumOf 8 = .ok (.iload_n 3, 1) := by decide +kernel
theorem dX6_sumOf_9 : decode cX6_sumOf 9 = .ok (.if_icmp .ge 53, 3) := by decide +kernel
theorem dX6_sumOf_12 : decode cX6_sumOf 12 = .ok (.iload 5, 2) := by decide +kernel
theorem dX6_sumOf_14 : decode cX6_sumOf 14 = .ok (.bipush 30, 2) := by decide +kernel
theorem dX6_sumOf_16 : decode cX6_sumOf 16 = .ok (.imul, 1) := by decide +kernel
theorem dX6_sumOf_17 : decode cX6_sumOf 17 = .ok (.aload_n 0, 1) := by decide +kernel
theorem dX6_sumOf_18 : decode cX6_sumOf 18 = .ok (.getfield 21, 3) := by decide +kernel
theorem dX6_sumOf_21 : decode cX6_sumOf 21 = .ok (.iload 5, 2) := by decide +kernel
theorem dX6_sumOf_23 : decode cX6_sumOf 23 = .ok (.iaload, 1) := by decide +kernel
theorem dX6_sumOf_24 : decode cX6_sumOf 24 = .ok (.iadd, 1) := by decide +kernel
theorem dX6_sumOf_25 : decode cX6_sumOf 25 = .ok (.istore 6, 2) := by decide +kernel
theorem dX6_sumOf_27 : decode cX6_sumOf 27 = .ok (.iload 5, 2) := by decide +kernel
theorem dX6_sumOf_29 : decode cX6_sumOf 29 = .ok (.bipush 30, 2) := by decide +kernel
theorem dX6_sumOf_31 : decode cX6_sumOf 31 = .ok (.imul, 1) := by decide +kernel
theorem dX6_sumOf_32 : decode cX6_sumOf 32 = .ok (.istore 7, 2) := by decide +kernel
theorem dX6_sumOf_34 : decode cX6_sumOf 34 = .ok (.iload 7, 2) := by decide +kernel
theorem dX6_sumOf_36 : decode cX6_sumOf 36 = .ok (.iload 6, 2) := by decide +kernel
theorem dX6_sumOf_38 : decode cX6_sumOf 38 = .ok (.if_icmp .ge 18, 3) := by decide +kernel
theorem dX6_sumOf_41 : decode cX6_sumOf 41 = .ok (.iload 4, 2) := by decide +kernel
theorem dX6_sumOf_43 : decode cX6_sumOf 43 = .ok (.aload_n 1, 1) := by decide +kernel
theorem dX6_sumOf_44 : decode cX6_sumOf 44 = .ok (.iload 7, 2) := by decide +kernel
theorem dX6_sumOf_46 : decode cX6_sumOf 46 = .ok (.iaload, 1) := by decide +kernel
theorem dX6_sumOf_47 : decode cX6_sumOf 47 = .ok (.iadd, 1) := by decide +kernel
theorem dX6_sumOf_48 : decode cX6_sumOf 48 = .ok (.istore 4, 2) := by decide +kernel
theorem dX6_sumOf_50 : decode cX6_sumOf 50 = .ok (.iinc 7 1, 3) := by decide +kernel
theorem dX6_sumOf_53 : decode cX6_sumOf 53 = .ok (.goto (-19), 3) := by decide +kernel
theorem dX6_sumOf_56 : decode cX6_sumOf 56 = .ok (.iinc 5 1, 3) := by decide +kernel
theorem dX6_sumOf_59 : decode cX6_sumOf 59 = .ok (.goto (-53), 3) := by decide +kernel
theorem dX6_sumOf_62 : decode cX6_sumOf 62 = .ok (.iload 4, 2) := by decide +kernel
theorem dX6_sumOf_64 : decode cX6_sumOf 64 = .ok (.ireturn, 1) := by decide +kernel
theorem dX6_siloProperty_0 : decode cX6_siloProperty 0 = .ok (.iload_n 2, 1) := by decide +kernel
theorem dX6_siloProperty_1 : decode cX6_siloProperty 1 = .ok (.tableswitch 84 0 4 #[35, 44, 53, 62, 71], 35) := by decide +kernel
theorem dX6_siloProperty_36 : decode cX6_siloProperty 36 = .ok (.aload_n 0, 1) := by decide +kernel
theorem dX6_siloProperty_37 : decode cX6_siloProperty 37 = .ok (.getfield 11, 3) := by decide +kernel
theorem dX6_siloProperty_40 : decode cX6_siloProperty 40 = .ok (.iload_n 1, 1) := by decide +kernel
theorem dX6_siloProperty_41 : decode cX6_siloProperty 41 = .ok (.invokestatic 47, 3) := by decide +kernel
theorem dX6_siloProperty_44 : decode cX6_siloProperty 44 = .ok (.ireturn, 1) := by decide +kernel
theorem dX6_siloProperty_45 : decode cX6_siloProperty 45 = .ok (.aload_n 0, 1) := by decide +kernel
theorem dX6_siloProperty_46 : decode cX6_siloProperty 46 = .ok (.getfield 15, 3) := by decide +kernel
theorem dX6_siloProperty_49 : decode cX6_siloProperty 49 = .ok (.iload_n 1, 1) := by decide +kernel
theorem dX6_siloProperty_50 : decode cX6_siloProperty 50 = .ok (.invokestatic 47, 3) := by decide +kernel
theorem dX6_siloProperty_53 : decode cX6_siloProperty 53 = .ok (.ireturn, 1) := by decide +kernel
theorem dX6_siloProperty_54 : decode cX6_siloProperty 54 = .ok (.aload_n 0, 1) := by decide +kernel
theorem dX6_siloProperty_55 : decode cX6_siloProperty 55 = .ok (.getfield 18, 3) := by decide +kernel
theorem dX6_siloProperty_58 : decode cX6_siloProperty 58 = .ok (.iload_n 1, 1) := by decide +kernel
theorem dX6_siloProperty_59 : decode cX6_siloProperty 59 = .ok (.invokestatic 47, 3) := by decide +kernel
theorem dX6_siloProperty_62 : decode cX6_siloProperty 62 = .ok (.ireturn, 1) := by decide +kernel
theorem dX6_siloProperty_63 : decode cX6_siloProperty 63 = .ok (.aload_n 0, 1) := by decide +kernel
theorem dX6_siloProperty_64 : decode cX6_siloProperty 64 = .ok (.getfield 21, 3) := by decide +kernel
theorem dX6_siloProperty_67 : decode cX6_siloProperty 67 = .ok (.iload_n 1, 1) := by decide +kernel
theorem dX6_siloProperty_68 : decode cX6_siloProperty 68 = .ok (.invokestatic 47, 3) := by decide +kernel
theorem dX6_siloProperty_71 : decode cX6_siloProperty 71 = .ok (.ireturn, 1) := by decide +kernel
theorem dX6_siloProperty_72 : decode cX6_siloProperty 72 = .ok (.aload_n 0, 1) := by decide +kernel
theorem dX6_siloProperty_73 : decode cX6_siloProperty 73 = .ok (.aload_n 0, 1) := by decide +kernel
theorem dX6_siloProperty_74 : decode cX6_siloProperty 74 = .ok (.getfield 30, 3) := by decide +kernel
theorem dX6_siloProperty_77 : decode cX6_siloProperty 77 = .ok (.iload_n 1, 1) := by decide +kernel
theorem dX6_siloProperty_78 : decode cX6_siloProperty 78 = .ok (.iload_n 1, 1) := by decide +kernel
theorem dX6_siloProperty_79 : decode cX6_siloProperty 79 = .ok (.iconst 1, 1) := by decide +kernel
theorem dX6_siloProperty_80 : decode cX6_siloProperty 80 = .ok (.iadd, 1) := by decide +kernel
theorem dX6_siloProperty_81 : decode cX6_siloProperty 81 = .ok (.invokevirtual 71, 3) := by decide +kernel
theorem dX6_siloProperty_84 : decode cX6_siloProperty 84 = .ok (.ireturn, 1) := by decide +kernel
theorem dX6_siloProperty_85 : decode cX6_siloProperty 85 = .ok (.aload_n 0, 1) := by decide +kernel
theorem dX6_siloProperty_86 : decode cX6_siloProperty 86 = .ok (.getfield 24, 3) := by decide +kernel
theorem dX6_siloProperty_89 : decode cX6_siloProperty 89 = .ok (.iload_n 1, 1) := by decide +kernel
theorem dX6_siloProperty_90 : decode cX6_siloProperty 90 = .ok (.invokestatic 47, 3) := by decide +kernel
theorem dX6_siloProperty_93 : decode cX6_siloProperty 93 = .ok (.ireturn, 1) := by decide +kernel
theorem dX7_init_0 : decode cX7_init 0 = .ok (.aload_n 0, 1) := by decide +kernel
theorem dX7_init_1 : decode cX7_init 1 = .ok (.invokespecial 1, 3) := by decide +kernel
theorem dX7_init_4 : decode cX7_init 4 = .ok (.aload_n 0, 1) := by decide +kernel
theorem dX7_init_5 : decode cX7_init 5 = .ok (.iconst 3, 1) := by decide +kernel
theorem dX7_init_6 : decode cX7_init 6 = .ok (.newarray .int, 2) := by decide +kernel
theorem dX7_init_8 : decode cX7_init 8 = .ok (.putfield 9, 3) := by decide +kernel
theorem dX7_init_11 : decode cX7_init 11 = .ok (.aload_n 0, 1) := by decide +kernel
theorem dX7_init_12 : decode cX7_init 12 = .ok (.bipush 120, 2) := by decide +kernel
theorem dX7_init_14 : decode cX7_init 14 = .ok (.newarray .char, 2) := by decide +kernel
theorem dX7_init_16 : decode cX7_init 16 = .ok (.putfield 13, 3) := by decide +kernel
theorem dX7_init_19 : decode cX7_init 19 = .ok (.return_, 1) := by decide +kernel
theorem dX7_start_0 : decode cX7_start 0 = .ok (.aload_n 0, 1) := by decide +kernel
theorem dX7_start_1 : decode cX7_start 1 = .ok (.iconst 0, 1) := by decide +kernel
theorem dX7_start_2 : decode cX7_start 2 = .ok (.putfield 21, 3) := by decide +kernel
theorem dX7_start_5 : decode cX7_start 5 = .ok (.aload_n 0, 1) := by decide +kernel
theorem dX7_start_6 : decode cX7_start 6 = .ok (.iconst 0, 1) := by decide +kernel
theorem dX7_start_7 : decode cX7_start 7 = .ok (.putfield 24, 3) := by decide +kernel
theorem dX7_start_10 : decode cX7_start 10 = .ok (.aload_n 0, 1) := by decide +kernel
theorem dX7_start_11 : decode cX7_start 11 = .ok (.aload_n 0, 1) := by decide +kernel
theorem dX7_start_12 : decode cX7_start 12 = .ok (.getfield 17, 3) := by decide +kernel
theorem dX7_start_15 : decode cX7_start 15 = .ok (.ifCond .le 7, 3) := by decide +kernel
theorem dX7_start_18 : decode cX7_start 18 = .ok (.iconst 1, 1) := by decide +kernel
theorem dX7_start_19 : decode cX7_start 19 = .ok (.goto 4, 3) := by decide +kernel
theorem dX7_start_22 : decode cX7_start 22 = .ok (.iconst 0, 1) := by decide +kernel
theorem dX7_start_23 : decode cX7_start 23 = .ok (.putfield 27, 3) := by decide +kernel
theorem dX7_start_26 : decode cX7_start 26 = .ok (.return_, 1) := by decide +kernel
theorem dX7_hasCommand_0 : decode cX7_hasCommand 0 = .ok (.aload_n 0, 1) := by decide +kernel
theorem dX7_hasCommand_1 : decode cX7_hasCommand 1 = .ok (.getfield 27, 3) := by decide +kernel
theorem dX7_hasCommand_4 : decode cX7_hasCommand 4 = .ok (.ifCond .eq 14, 3) := by decide +kernel
theorem dX7_hasCommand_7 : decode cX7_hasCommand 7 = .ok (.aload_n 0, 1) := by decide +kernel
theorem dX7_hasCommand_8 : decode cX7_hasCommand 8 = .ok (.getfield 24, 3) := by decide +kernel
theorem dX7_hasCommand_11 : decode cX7_hasCommand 11 = .ok (.ifCond .ne 7, 3) := by decide +kernel
theorem dX7_hasCommand_14 : decode cX7_hasCommand 14 = .ok (.iconst 1, 1) := by decide +kernel
theorem dX7_hasCommand_15 : decode cX7_hasCommand 15 = .ok (.goto 4, 3) := by decide +kernel
theorem dX7_hasCommand_18 : decode cX7_hasCommand 18 = .ok (.iconst 0, 1) := by decide +kernel
theorem dX7_hasCommand_19 : decode cX7_hasCommand 19 = .ok (.ireturn, 1) := by decide +kernel
theorem dX7_readAll_0 : decode cX7_readAll 0 = .ok (.aload_n 0, 1) := by decide +kernel
theorem dX7_readAll_1 : decode cX7_readAll 1 = .ok (.invokevirtual 31, 3) := by decide +kernel
theorem dX7_readAll_4 : decode cX7_readAll 4 = .ok (.iconst 0, 1) := by decide +kernel
theorem dX7_readAll_5 : decode cX7_readAll 5 = .ok (.istore_n 1, 1) := by decide +kernel
theorem dX7_readAll_6 : decode cX7_readAll 6 = .ok (.iload_n 1, 1) := by decide +kernel
theorem dX7_readAll_7 : decode cX7_readAll 7 = .ok (.bipush 120, 2) := by decide +kernel
theorem dX7_readAll_9 : decode cX7_readAll 9 = .ok (.if_icmp .ge 20, 3) := by decide +kernel
theorem dX7_readAll_12 : decode cX7_readAll 12 = .ok (.aload_n 0, 1) := by decide +kernel
theorem dX7_readAll_13 : decode cX7_readAll 13 = .ok (.invokevirtual 34, 3) := by decide +kernel
theorem dX7_readAll_16 : decode cX7_readAll 16 = .ok (.ifCond .eq 13, 3) := by decide +kernel
theorem dX7_readAll_19 : decode cX7_readAll 19 = .ok (.aload_n 0, 1) := by decide +kernel
theorem dX7_readAll_20 : decode cX7_readAll 20 = .ok (.invokevirtual 38, 3) := by decide +kernel
theorem dX7_readAll_23 : decode cX7_readAll 23 = .ok (.iinc 1 1, 3) := by decide +kernel
theorem dX7_readAll_26 : decode cX7_readAll 26 = .ok (.goto (-20), 3) := by decide +kernel
theorem dX7_readAll_29 : decode cX7_readAll 29 = .ok (.return_, 1) := by decide +kernel
theorem dX7_readCommand_0 : decode cX7_readCommand 0 = .ok (.aload_n 0, 1) := by decide +kernel
theorem dX7_readCommand_1 : decode cX7_readCommand 1 = .ok (.aload_n 0, 1) := by decide +kernel
theorem dX7_readCommand_2 : decode cX7_readCommand 2 = .ok (.invokevirtual 41, 3) := by decide +kernel
theorem dX7_readCommand_5 : decode cX7_readCommand 5 = .ok (.putfield 45, 3) := by decide +kernel
theorem dX7_readCommand_8 : decode cX7_readCommand 8 = .ok (.aload_n 0, 1) := by decide +kernel
theorem dX7_readCommand_9 : decode cX7_readCommand 9 = .ok (.getfield 45, 3) := by decide +kernel
theorem dX7_readCommand_12 : decode cX7_readCommand 12 = .ok (.invokestatic 49, 3) := by decide +kernel
theorem dX7_readCommand_15 : decode cX7_readCommand 15 = .ok (.istore_n 1, 1) := by decide +kernel
theorem dX7_readCommand_16 : decode cX7_readCommand 16 = .ok (.iload_n 1, 1) := by decide +kernel
theorem dX7_readCommand_17 : decode cX7_readCommand 17 = .ok (.ifCond .ne 8, 3) := by decide +kernel
theorem dX7_readCommand_20 : decode cX7_readCommand 20 = .ok (.aload_n 0, 1) := by decide +kernel
theorem dX7_readCommand_21 : decode cX7_readCommand 21 = .ok (.invokevirtual 53, 3) := by decide +kernel
theorem dX7_readCommand_24 : decode cX7_readCommand 24 = .ok (.return_, 1) := by decide +kernel
theorem dX7_readCommand_25 : decode cX7_readCommand 25 = .ok (.aload_n 0, 1) := by decide +kernel
theorem dX7_readCommand_26 : decode cX7_readCommand 26 = .ok (.dup, 1) := by decide +kernel
theorem dX7_readCommand_27 : decode cX7_readCommand 27 = .ok (.getfield 21, 3) := by decide +kernel
theorem dX7_readCommand_30 : decode cX7_readCommand 30 = .ok (.iconst 1, 1) := by decide +kernel
theorem dX7_readCommand_31 : decode cX7_readCommand 31 = .ok (.iadd, 1) := by decide +kernel
theorem dX7_readCommand_32 : decode cX7_readCommand 32 = .ok (.putfield 21, 3) := by decide +kernel
theorem dX7_readCommand_35 : decode cX7_readCommand 35 = .ok (.iconst 0, 1) := by decide +kernel
theorem dX7_readCommand_36 : decode cX7_readCommand 36 = .ok (.istore_n 2, 1) := by decide +kernel
theorem dX7_readCommand_37 : decode cX7_readCommand 37 = .ok (.iload_n 2, 1) := by decide +kernel
theorem dX7_readCommand_38 : decode cX7_readCommand 38 = .ok (.iload_n 1, 1) := by decide +kernel
theorem dX7_readCommand_39 : decode cX7_readCommand 39 = .ok (.if_icmp .ge 29, 3) := by decide +kernel
theorem dX7_readCommand_42 : decode cX7_readCommand 42 = .ok (.aload_n 0, 1) := by decide +kernel
theorem dX7_readCommand_43 : decode cX7_readCommand 43 = .ok (.getfield 24, 3) := by decide +kernel
theorem dX7_readCommand_46 : decode cX7_readCommand 46 = .ok (.ifCond .ne 22, 3) := by decide +kernel
theorem dX7_readCommand_49 : decode cX7_readCommand 49 = .ok (.iload_n 2, 1) := by decide +kernel
theorem dX7_readCommand_50 : decode cX7_readCommand 50 = .ok (.ifCond .le 7, 3) := by decide +kernel
theorem dX7_readCommand_53 : decode cX7_readCommand 53 = .ok (.aload_n 0, 1) := by decide +kernel
theorem dX7_readCommand_54 : decode cX7_readCommand 54 = .ok (.invokevirtual 56, 3) := by decide +kernel
theorem dX7_readCommand_57 : decode cX7_readCommand 57 = .ok (.aload_n 0, 1) := by decide +kernel
theorem dX7_readCommand_58 : decode cX7_readCommand 58 = .ok (.iload_n 2, 1) := by decide +kernel
theorem dX7_readCommand_59 : decode cX7_readCommand 59 = .ok (.invokevirtual 59, 3) := by decide +kernel
theorem dX7_readCommand_62 : decode cX7_readCommand 62 = .ok (.iinc 2 1, 3) := by decide +kernel
theorem dX7_readCommand_65 : decode cX7_readCommand 65 = .ok (.goto (-28), 3) := by decide +kernel
theorem dX7_readCommand_68 : decode cX7_readCommand 68 = .ok (.aload_n 0, 1) := by decide +kernel
theorem dX7_readCommand_69 : decode cX7_readCommand 69 = .ok (.aload_n 0, 1) := by decide +kernel
theorem dX7_readCommand_70 : decode cX7_readCommand 70 = .ok (.getfield 24, 3) := by decide +kernel
theorem dX7_readCommand_73 : decode cX7_readCommand 73 = .ok (.ifCond .ne 25, 3) := by decide +kernel
theorem dX7_readCommand_76 : decode cX7_readCommand 76 = .ok (.aload_n 0, 1) := by decide +kernel
theorem dX7_readCommand_77 : decode cX7_readCommand 77 = .ok (.getfield 45, 3) := by decide +kernel
theorem dX7_readCommand_80 : decode cX7_readCommand 80 = .ok (.bipush 111, 2) := by decide +kernel
theorem dX7_readCommand_82 : decode cX7_readCommand 82 = .ok (.if_icmp .ne 16, 3) := by decide +kernel
theorem dX7_readCommand_85 : decode cX7_readCommand 85 = .ok (.aload_n 0, 1) := by decide +kernel
theorem dX7_readCommand_86 : decode cX7_readCommand 86 = .ok (.invokevirtual 41, 3) := by decide +kernel
theorem dX7_readCommand_89 : decode cX7_readCommand 89 = .ok (.bipush 33, 2) := by decide +kernel
theorem dX7_readCommand_91 : decode cX7_readCommand 91 = .ok (.if_icmp .ne 7, 3) := by decide +kernel
theorem dX7_readCommand_94 : decode cX7_readCommand 94 = .ok (.iconst 1, 1) := by decide +kernel
theorem dX7_readCommand_95 : decode cX7_readCommand 95 = .ok (.goto 4, 3) := by decide +kernel
theorem dX7_readCommand_98 : decode cX7_readCommand 98 = .ok (.iconst 0, 1) := by decide +kernel
theorem dX7_readCommand_99 : decode cX7_readCommand 99 = .ok (.putfield 63, 3) := by decide +kernel
theorem dX7_readCommand_102 : decode cX7_readCommand 102 = .ok (.aload_n 0, 1) := by decide +kernel
theorem dX7_readCommand_103 : decode cX7_readCommand 103 = .ok (.getfield 63, 3) := by decide +kernel
theorem dX7_readCommand_106 : decode cX7_readCommand 106 = .ok (.ifCond .eq 13, 3) := by decide +kernel
theorem dX7_readCommand_109 : decode cX7_readCommand 109 = .ok (.aload_n 0, 1) := by decide +kernel
theorem dX7_readCommand_110 : decode cX7_readCommand 110 = .ok (.dup, 1) := by decide +kernel
theorem dX7_readCommand_111 : decode cX7_readCommand 111 = .ok (.getfield 21, 3) := by decide +kernel
theorem dX7_readCommand_114 : decode cX7_readCommand 114 = .ok (.iconst 1, 1) := by decide +kernel
theorem dX7_readCommand_115 : decode cX7_readCommand 115 = .ok (.iadd, 1) := by decide +kernel
theorem dX7_readCommand_116 : decode cX7_readCommand 116 = .ok (.putfield 21, 3) := by decide +kernel
theorem dX7_readCommand_119 : decode cX7_readCommand 119 = .ok (.aload_n 0, 1) := by decide +kernel
theorem dX7_readCommand_120 : decode cX7_readCommand 120 = .ok (.invokevirtual 66, 3) := by decide +kernel
theorem dX7_readCommand_123 : decode cX7_readCommand 123 = .ok (.return_, 1) := by decide +kernel
theorem dX7_numbersBehind_0 : decode cX7_numbersBehind 0 = .ok (.iload_n 0, 1) := by decide +kernel
theorem dX7_numbersBehind_1 : decode cX7_numbersBehind 1 = .ok (.tableswitch 77 99 112 #[75, 77, 77, 77, 77, 71, 77, 77, 77, 77, 75, 77, 73, 75], 71) := by decide +kernel
theorem dX7_numbersBehind_72 : decode cX7_numbersBehind 72 = .ok (.iconst 1, 1) := by decide +kernel
theorem dX7_numbersBehind_73 : decode cX7_numbersBehind 73 = .ok (.ireturn, 1) := by decide +kernel
theorem dX7_numbersBehind_74 : decode cX7_numbersBehind 74 = .ok (.iconst 3, 1) := by decide +kernel
theorem dX7_numbersBehind_75 : decode cX7_numbersBehind 75 = .ok (.ireturn, 1) := by decide +kernel
theorem dX7_numbersBehind_76 : decode cX7_numbersBehind 76 = .ok (.iconst 2, 1) := by decide +kernel
theorem dX7_numbersBehind_77 : decode cX7_numbersBehind 77 = .ok (.ireturn, 1) := by decide +kernel
theorem dX7_numbersBehind_78 : decode cX7_numbersBehind 78 = .ok (.iconst 0, 1) := by decide +kernel
theorem dX7_numbersBehind_79 : decode cX7_numbersBehind 79 = .ok (.ireturn, 1) := by decide +kernel
theorem dX7_sign_0 : decode cX7_sign 0 = .ok (.aload_n 0, 1) := by decide +kernel
theorem dX7_sign_1 : decode cX7_sign 1 = .ok (.getfield 21, 3) := by decide +kernel
theorem dX7_sign_4 : decode cX7_sign 4 = .ok (.ifCond .lt 38, 3) := by decide +kernel
theorem dX7_sign_7 : decode cX7_sign 7 = .ok (.aload_n 0, 1) := by decide +kernel
theorem dX7_sign_8 : decode cX7_sign 8 = .ok (.getfield 21, 3) := by decide +kernel
theorem dX7_sign_11 : decode cX7_sign 11 = .ok (.aload_n 0, 1) := by decide +kernel
theorem dX7_sign_12 : decode cX7_sign 12 = .ok (.getfield 17, 3) := by decide +kernel
theorem dX7_sign_15 : decode cX7_sign 15 = .ok (.if_icmp .ge 27, 3) := by decide +kernel
theorem dX7_sign_18 : decode cX7_sign 18 = .ok (.aload_n 0, 1) := by decide +kernel
theorem dX7_sign_19 : decode cX7_sign 19 = .ok (.getfield 21, 3) := by decide +kernel
theorem dX7_sign_22 : decode cX7_sign 22 = .ok (.aload_n 0, 1) := by decide +kernel
theorem dX7_sign_23 : decode cX7_sign 23 = .ok (.getfield 13, 3) := by decide +kernel
theorem dX7_sign_26 : decode cX7_sign 26 = .ok (.arraylength, 1) := by decide +kernel
theorem dX7_sign_27 : decode cX7_sign 27 = .ok (.if_icmp .ge 15, 3) := by decide +kernel
theorem dX7_sign_30 : decode cX7_sign 30 = .ok (.aload_n 0, 1) := by decide +kernel
theorem dX7_sign_31 : decode cX7_sign 31 = .ok (.getfield 13, 3) := by decide +kernel
theorem dX7_sign_34 : decode cX7_sign 34 = .ok (.aload_n 0, 1) := by decide +kernel
theorem dX7_sign_35 : decode cX7_sign 35 = .ok (.getfield 21, 3) := by decide +kernel
theorem dX7_sign_38 : decode cX7_sign 38 = .ok (.caload, 1) := by decide +kernel
theorem dX7_sign_39 : decode cX7_sign 39 = .ok (.goto 4, 3) := by decide +kernel
theorem dX7_sign_42 : decode cX7_sign 42 = .ok (.iconst 0, 1) := by decide +kernel
theorem dX7_sign_43 : decode cX7_sign 43 = .ok (.ireturn, 1) := by decide +kernel
theorem dX7_failHere_0 : decode cX7_failHere 0 = .ok (.aload_n 0, 1) := by decide +kernel
theorem dX7_failHere_1 : decode cX7_failHere 1 = .ok (.aload_n 0, 1) := by decide +kernel
theorem dX7_failHere_2 : decode cX7_failHere 2 = .ok (.getfield 21, 3) := by decide +kernel
theorem dX7_failHere_5 : decode cX7_failHere 5 = .ok (.aload_n 0, 1) := by decide +kernel
theorem dX7_failHere_6 : decode cX7_failHere 6 = .ok (.getfield 17, 3) := by decide +kernel
theorem dX7_failHere_9 : decode cX7_failHere 9 = .ok (.if_icmp .ge 7, 3) := by decide +kernel
theorem dX7_failHere_12 : decode cX7_failHere 12 = .ok (.iconst 1, 1) := by decide +kernel
theorem dX7_failHere_13 : decode cX7_failHere 13 = .ok (.goto 4, 3) := by decide +kernel
theorem dX7_failHere_16 : decode cX7_failHere 16 = .ok (.iconst 3, 1) := by decide +kernel
theorem dX7_failHere_17 : decode cX7_failHere 17 = .ok (.putfield 24, 3) := by decide +kernel
theorem dX7_failHere_20 : decode cX7_failHere 20 = .ok (.return_, 1) := by decide +kernel
theorem dX7_readComma_0 : decode cX7_readComma 0 = .ok (.aload_n 0, 1) := by decide +kernel
theorem dX7_readComma_1 : decode cX7_readComma 1 = .ok (.invokevirtual 41, 3) := by decide +kernel
theorem dX7_readComma_4 : decode cX7_readComma 4 = .ok (.bipush 44, 2) := by decide +kernel
theorem dX7_readComma_6 : decode cX7_readComma 6 = .ok (.if_icmp .ne 16, 3) := by decide +kernel
theorem dX7_readComma_9 : decode cX7_readComma 9 = .ok (.aload_n 0, 1) := by decide +kernel
theorem dX7_readComma_10 : decode cX7_readComma 10 = .ok (.dup, 1) := by decide +kernel
theorem dX7_readComma_11 : decode cX7_readComma 11 = .ok (.getfield 21, 3) := by decide +kernel
theorem dX7_readComma_14 : decode cX7_readComma 14 = .ok (.iconst 1, 1) := by decide +kernel
theorem dX7_readComma_15 : decode cX7_readComma 15 = .ok (.iadd, 1) := by decide +kernel
theorem dX7_readComma_16 : decode cX7_readComma 16 = .ok (.putfield 21, 3) := by decide +kernel
theorem dX7_readComma_19 : decode cX7_readComma 19 = .ok (.goto 7, 3) := by decide +kernel
theorem dX7_readComma_22 : decode cX7_readComma 22 = .ok (.aload_n 0, 1) := by decide +kernel
theorem dX7_readComma_23 : decode cX7_readComma 23 = .ok (.invokevirtual 53, 3) := by decide +kernel
theorem dX7_readComma_26 : decode cX7_readComma 26 = .ok (.return_, 1) := by decide +kernel
theorem dX7_readNumber_0 : decode cX7_readNumber 0 = .ok (.aload_n 0, 1) := by decide +kernel
theorem dX7_readNumber_1 : decode cX7_readNumber 1 = .ok (.getfield 24, 3) := by decide +kernel
theorem dX7_readNumber_4 : decode cX7_readNumber 4 = .ok (.ifCond .ne 12, 3) := by decide +kernel
theorem dX7_readNumber_7 : decode cX7_readNumber 7 = .ok (.iload_n 1, 1) := by decide +kernel
theorem dX7_readNumber_8 : decode cX7_readNumber 8 = .ok (.aload_n 0, 1) := by decide +kernel
theorem dX7_readNumber_9 : decode cX7_readNumber 9 = .ok (.getfield 9, 3) := by decide +kernel
theorem dX7_readNumber_12 : decode cX7_readNumber 12 = .ok (.arraylength, 1) := by decide +kernel
theorem dX7_readNumber_13 : decode cX7_readNumber 13 = .ok (.if_icmp .lt 4, 3) := by decide +kernel
theorem dX7_readNumber_16 : decode cX7_readNumber 16 = .ok (.return_, 1) := by decide +kernel
theorem dX7_readNumber_17 : decode cX7_readNumber 17 = .ok (.iconst 0, 1) := by decide +kernel
theorem dX7_readNumber_18 : decode cX7_readNumber 18 = .ok (.istore_n 2, 1) := by decide +kernel
theorem dX7_readNumber_19 : decode cX7_readNumber 19 = .ok (.iconst 0, 1) := by decide +kernel
theorem dX7_readNumber_20 : decode cX7_readNumber 20 = .ok (.istore_n 3, 1) := by decide +kernel
theorem dX7_readNumber_21 : decode cX7_readNumber 21 = .ok (.iload_n 3, 1) := by decide +kernel
theorem dX7_readNumber_22 : decode cX7_readNumber 22 = .ok (.bipush 6, 2) := by decide +kernel
theorem dX7_readNumber_24 : decode cX7_readNumber 24 = .ok (.if_icmp .ge 42, 3) := by decide +kernel
theorem dX7_readNumber_27 : decode cX7_readNumber 27 = .ok (.aload_n 0, 1) := by decide +kernel
theorem dX7_readNumber_28 : decode cX7_readNumber 28 = .ok (.invokevirtual 41, 3) := by decide +kernel
theorem dX7_readNumber_31 : decode cX7_readNumber 31 = .ok (.invokestatic 69, 3) := by decide +kernel
theorem dX7_readNumber_34 : decode cX7_readNumber 34 = .ok (.ifCond .eq 32, 3) := by decide +kernel
theorem dX7_readNumber_37 : decode cX7_readNumber 37 = .ok (.iload_n 2, 1) := by decide +kernel
theorem dX7_readNumber_38 : decode cX7_readNumber 38 = .ok (.bipush 10, 2) := by decide +kernel
theorem dX7_readNumber_40 : decode cX7_readNumber 40 = .ok (.imul, 1) := by decide +kernel
theorem dX7_readNumber_41 : decode cX7_readNumber 41 = .ok (.aload_n 0, 1) := by decide +kernel
theorem dX7_readNumber_42 : decode cX7_readNumber 42 = .ok (.invokevirtual 41, 3) := by decide +kernel
theorem dX7_readNumber_45 : decode cX7_readNumber 45 = .ok (.bipush 48, 2) := by decide +kernel
theorem dX7_readNumber_47 : decode cX7_readNumber 47 = .ok (.isub, 1) := by decide +kernel
theorem dX7_readNumber_48 : decode cX7_readNumber 48 = .ok (.iadd, 1) := by decide +kernel
theorem dX7_readNumber_49 : decode cX7_readNumber 49 = .ok (.istore_n 2, 1) := by decide +kernel
theorem dX7_readNumber_50 : decode cX7_readNumber 50 = .ok (.iinc 3 1, 3) := by decide +kernel
theorem dX7_readNumber_53 : decode cX7_readNumber 53 = .ok (.aload_n 0, 1) := by decide +kernel
theorem dX7_readNumber_54 : decode cX7_readNumber 54 = .ok (.dup, 1) := by decide +kernel
theorem dX7_readNumber_55 : decode cX7_readNumber 55 = .ok (.getfield 21, 3) := by decide +kernel
theorem dX7_readNumber_58 : decode cX7_readNumber 58 = .ok (.iconst 1, 1) := by decide +kernel
theorem dX7_readNumber_59 : decode cX7_readNumber 59 = .ok (.iadd, 1) := by decide +kernel
theorem dX7_readNumber_60 : decode cX7_readNumber 60 = .ok (.putfield 21, 3) := by decide +kernel
theorem dX7_readNumber_63 : decode cX7_readNumber 63 = .ok (.goto (-42), 3) := by decide +kernel
theorem dX7_readNumber_66 : decode cX7_readNumber 66 = .ok (.aload_n 0, 1) := by decide +kernel
theorem dX7_readNumber_67 : decode cX7_readNumber 67 = .ok (.getfield 9, 3) := by decide +kernel
theorem dX7_readNumber_70 : decode cX7_readNumber 70 = .ok (.iload_n 1, 1) := by decide +kernel
theorem dX7_readNumber_71 : decode cX7_readNumber 71 = .ok (.iload_n 2, 1) := by decide +kernel
theorem dX7_readNumber_72 : decode cX7_readNumber 72 = .ok (.iastore, 1) := by decide +kernel
theorem dX7_readNumber_73 : decode cX7_readNumber 73 = .ok (.iload_n 3, 1) := by decide +kernel
theorem dX7_readNumber_74 : decode cX7_readNumber 74 = .ok (.ifCond .ne 10, 3) := by decide +kernel
theorem dX7_readNumber_77 : decode cX7_readNumber 77 = .ok (.aload_n 0, 1) := by decide +kernel
theorem dX7_readNumber_78 : decode cX7_readNumber 78 = .ok (.invokevirtual 53, 3) := by decide +kernel
theorem dX7_readNumber_81 : decode cX7_readNumber 81 = .ok (.goto 18, 3) := by decide +kernel
theorem dX7_readNumber_84 : decode cX7_readNumber 84 = .ok (.aload_n 0, 1) := by decide +kernel
theorem dX7_readNumber_85 : decode cX7_readNumber 85 = .ok (.invokevirtual 41, 3) := by decide +kernel
theorem dX7_readNumber_88 : decode cX7_readNumber 88 = .ok (.invokestatic 69, 3) := by decide +kernel
theorem dX7_readNumber_91 : decode cX7_readNumber 91 = .ok (.ifCond .eq 8, 3) := by decide +kernel
theorem dX7_readNumber_94 : decode cX7_readNumber 94 = .ok (.aload_n 0, 1) := by decide +kernel
theorem dX7_readNumber_95 : decode cX7_readNumber 95 = .ok (.iconst 2, 1) := by decide +kernel
theorem dX7_readNumber_96 : decode cX7_readNumber 96 = .ok (.putfield 24, 3) := by decide +kernel
theorem dX7_readNumber_99 : decode cX7_readNumber 99 = .ok (.return_, 1) := by decide +kernel
theorem dX7_isDigit_0 : decode cX7_isDigit 0 = .ok (.iload_n 0, 1) := by decide +kernel
theorem dX7_isDigit_1 : decode cX7_isDigit 1 = .ok (.bipush 48, 2) := by decide +kernel
theorem dX7_isDigit_3 : decode cX7_isDigit 3 = .ok (.if_icmp .lt 13, 3) := by decide +kernel
theorem dX7_isDigit_6 : decode cX7_isDigit 6 = .ok (.iload_n 0, 1) := by decide +kernel
theorem dX7_isDigit_7 : decode cX7_isDigit 7 = .ok (.bipush 57, 2) := by decide +kernel
theorem dX7_isDigit_9 : decode cX7_isDigit 9 = .ok (.if_icmp .gt 7, 3) := by decide +kernel
theorem dX7_isDigit_12 : decode cX7_isDigit 12 = .ok (.iconst 1, 1) := by decide +kernel
theorem dX7_isDigit_13 : decode cX7_isDigit 13 = .ok (.goto 4, 3) := by decide +kernel
theorem dX7_isDigit_16 : decode cX7_isDigit 16 = .ok (.iconst 0, 1) := by decide +kernel
theorem dX7_isDigit_17 : decode cX7_isDigit 17 = .ok (.ireturn, 1) := by decide +kernel
theorem dX7_readSeparator_0 : decode cX7_readSeparator 0 = .ok (.aload_n 0, 1) := by decide +kernel
theorem dX7_readSeparator_1 : decode cX7_readSeparator 1 = .ok (.getfield 24, 3) := by decide +kernel
theorem dX7_readSeparator_4 : decode cX7_readSeparator 4 = .ok (.ifCond .eq 4, 3) := by decide +kernel
theorem dX7_readSeparator_7 : decode cX7_readSeparator 7 = .ok (.return_, 1) := by decide +kernel
theorem dX7_readSeparator_8 : decode cX7_readSeparator 8 = .ok (.aload_n 0, 1) := by decide +kernel
theorem dX7_readSeparator_9 : decode cX7_readSeparator 9 = .ok (.invokevirtual 41, 3) := by decide +kernel
theorem dX7_readSeparator_12 : decode cX7_readSeparator 12 = .ok (.bipush 59, 2) := by decide +kernel
theorem dX7_readSeparator_14 : decode cX7_readSeparator 14 = .ok (.if_icmp .ne 16, 3) := by decide +kernel
theorem dX7_readSeparator_17 : decode cX7_readSeparator 17 = .ok (.aload_n 0, 1) := by decide +kernel
theorem dX7_readSeparator_18 : decode cX7_readSeparator 18 = .ok (.dup, 1) := by decide +kernel
theorem dX7_readSeparator_19 : decode cX7_readSeparator 19 = .ok (.getfield 21, 3) := by decide +kernel
theorem dX7_readSeparator_22 : decode cX7_readSeparator 22 = .ok (.iconst 1, 1) := by decide +kernel
theorem dX7_readSeparator_23 : decode cX7_readSeparator 23 = .ok (.iadd, 1) := by decide +kernel
theorem dX7_readSeparator_24 : decode cX7_readSeparator 24 = .ok (.putfield 21, 3) := by decide +kernel
theorem dX7_readSeparator_27 : decode cX7_readSeparator 27 = .ok (.goto 26, 3) := by decide +kernel
theorem dX7_readSeparator_30 : decode cX7_readSeparator 30 = .ok (.aload_n 0, 1) := by decide +kernel
theorem dX7_readSeparator_31 : decode cX7_readSeparator 31 = .ok (.getfield 21, 3) := by decide +kernel
theorem dX7_readSeparator_34 : decode cX7_readSeparator 34 = .ok (.aload_n 0, 1) := by decide +kernel
theorem dX7_readSeparator_35 : decode cX7_readSeparator 35 = .ok (.getfield 17, 3) := by decide +kernel
theorem dX7_readSeparator_38 : decode cX7_readSeparator 38 = .ok (.if_icmp .ge 10, 3) := by decide +kernel
theorem dX7_readSeparator_41 : decode cX7_readSeparator 41 = .ok (.aload_n 0, 1) := by decide +kernel
theorem dX7_readSeparator_42 : decode cX7_readSeparator 42 = .ok (.invokevirtual 53, 3) := by decide +kernel
theorem dX7_readSeparator_45 : decode cX7_readSeparator 45 = .ok (.goto 8, 3) := by decide +kernel
theorem dX7_readSeparator_48 : decode cX7_readSeparator 48 = .ok (.aload_n 0, 1) := by decide +kernel
theorem dX7_readSeparator_49 : decode cX7_readSeparator 49 = .ok (.iconst 0, 1) := by decide +kernel
theorem dX7_readSeparator_50 : decode cX7_readSeparator 50 = .ok (.putfield 27, 3) := by decide +kernel
theorem dX7_readSeparator_53 : decode cX7_readSeparator 53 = .ok (.return_, 1) := by decide +kernel
