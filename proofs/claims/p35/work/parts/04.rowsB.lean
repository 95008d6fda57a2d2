theorem dX8_init_0 : decode cX8_init 0 = .ok (.aload_n 0, 1) := by decide +kernel
theorem dX8_init_1 : decode cX8_init 1 = .ok (.invokespecial 1, 3) := by decide +kernel
theorem dX8_init_4 : decode cX8_init 4 = .ok (.aload_n 0, 1) := by decide +kernel
theorem dX8_init_5 : decode cX8_init 5 = .ok (.new 7, 3) := by decide +kernel
theorem dX8_init_8 : decode cX8_init 8 = .ok (.dup, 1) := by decide +kernel
theorem dX8_init_9 : decode cX8_init 9 = .ok (.invokespecial 9, 3) := by decide +kernel
theorem dX8_init_12 : decode cX8_init 12 = .ok (.putfield 10, 3) := by decide +kernel
theorem dX8_init_15 : decode cX8_init 15 = .ok (.aload_n 0, 1) := by decide +kernel
theorem dX8_init_16 : decode cX8_init 16 = .ok (.new 7, 3) := by decide +kernel
theorem dX8_init_19 : decode cX8_init 19 = .ok (.dup, 1) := by decide +kernel
theorem dX8_init_20 : decode cX8_init 20 = .ok (.invokespecial 9, 3) := by decide +kernel
theorem dX8_init_23 : decode cX8_init 23 = .ok (.putfield 16, 3) := by decide +kernel
theorem dX8_init_26 : decode cX8_init 26 = .ok (.aload_n 0, 1) := by decide +kernel
theorem dX8_init_27 : decode cX8_init 27 = .ok (.new 19, 3) := by decide +kernel
theorem dX8_init_30 : decode cX8_init 30 = .ok (.dup, 1) := by decide +kernel
theorem dX8_init_31 : decode cX8_init 31 = .ok (.invokespecial 21, 3) := by decide +kernel
theorem dX8_init_34 : decode cX8_init 34 = .ok (.putfield 22, 3) := by decide +kernel
theorem dX8_init_37 : decode cX8_init 37 = .ok (.aload_n 0, 1) := by decide +kernel
theorem dX8_init_38 : decode cX8_init 38 = .ok (.new 26, 3) := by decide +kernel
theorem dX8_init_41 : decode cX8_init 41 = .ok (.dup, 1) := by decide +kernel
theorem dX8_init_42 : decode cX8_init 42 = .ok (.invokespecial 28, 3) := by decide +kernel
theorem dX8_init_45 : decode cX8_init 45 = .ok (.putfield 29, 3) := by decide +kernel
theorem dX8_init_48 : decode cX8_init 48 = .ok (.return_, 1) := by decide +kernel
theorem dX8_addSilo_0 : decode cX8_addSilo 0 = .ok (.iload_n 1, 1) := by decide +kernel
theorem dX8_addSilo_1 : decode cX8_addSilo 1 = .ok (.iconst 1, 1) := by decide +kernel
theorem dX8_addSilo_2 : decode cX8_addSilo 2 = .ok (.bipush 30, 2) := by decide +kernel
theorem dX8_addSilo_4 : decode cX8_addSilo 4 = .ok (.invokestatic 35, 3) := by decide +kernel
theorem dX8_addSilo_7 : decode cX8_addSilo 7 = .ok (.invokestatic 39, 3) := by decide +kernel
theorem dX8_addSilo_10 : decode cX8_addSilo 10 = .ok (.iload_n 2, 1) := by decide +kernel
theorem dX8_addSilo_11 : decode cX8_addSilo 11 = .ok (.iconst 0, 1) := by decide +kernel
theorem dX8_addSilo_12 : decode cX8_addSilo 12 = .ok (.iconst 3, 1) := by decide +kernel
theorem dX8_addSilo_13 : decode cX8_addSilo 13 = .ok (.invokestatic 35, 3) := by decide +kernel
theorem dX8_addSilo_16 : decode cX8_addSilo 16 = .ok (.invokestatic 39, 3) := by decide +kernel
theorem dX8_addSilo_19 : decode cX8_addSilo 19 = .ok (.iload_n 3, 1) := by decide +kernel
theorem dX8_addSilo_20 : decode cX8_addSilo 20 = .ok (.iconst 0, 1) := by decide +kernel
theorem dX8_addSilo_21 : decode cX8_addSilo 21 = .ok (.bipush 100, 2) := by decide +kernel
theorem dX8_addSilo_23 : decode cX8_addSilo 23 = .ok (.invokestatic 35, 3) := by decide +kernel
theorem dX8_addSilo_26 : decode cX8_addSilo 26 = .ok (.invokestatic 39, 3) := by decide +kernel
theorem dX8_addSilo_29 : decode cX8_addSilo 29 = .ok (.aload_n 0, 1) := by decide +kernel
theorem dX8_addSilo_30 : decode cX8_addSilo 30 = .ok (.getfield 10, 3) := by decide +kernel
theorem dX8_addSilo_33 : decode cX8_addSilo 33 = .ok (.getfield 43, 3) := by decide +kernel
theorem dX8_addSilo_36 : decode cX8_addSilo 36 = .ok (.getfield 47, 3) := by decide +kernel
theorem dX8_addSilo_39 : decode cX8_addSilo 39 = .ok (.iconst 5, 1) := by decide +kernel
theorem dX8_addSilo_40 : decode cX8_addSilo 40 = .ok (.if_icmp .ge 7, 3) := by decide +kernel
theorem dX8_addSilo_43 : decode cX8_addSilo 43 = .ok (.iconst 1, 1) := by decide +kernel
theorem dX8_addSilo_44 : decode cX8_addSilo 44 = .ok (.goto 4, 3) := by decide +kernel
theorem dX8_addSilo_47 : decode cX8_addSilo 47 = .ok (.iconst 0, 1) := by decide +kernel
theorem dX8_addSilo_48 : decode cX8_addSilo 48 = .ok (.invokestatic 51, 3) := by decide +kernel
theorem dX8_addSilo_51 : decode cX8_addSilo 51 = .ok (.aload_n 0, 1) := by decide +kernel
theorem dX8_addSilo_52 : decode cX8_addSilo 52 = .ok (.getfield 22, 3) := by decide +kernel
theorem dX8_addSilo_55 : decode cX8_addSilo 55 = .ok (.aload_n 0, 1) := by decide +kernel
theorem dX8_addSilo_56 : decode cX8_addSilo 56 = .ok (.getfield 10, 3) := by decide +kernel
theorem dX8_addSilo_59 : decode cX8_addSilo 59 = .ok (.invokevirtual 54, 3) := by decide +kernel
theorem dX8_addSilo_62 : decode cX8_addSilo 62 = .ok (.aload_n 0, 1) := by decide +kernel
theorem dX8_addSilo_63 : decode cX8_addSilo 63 = .ok (.getfield 10, 3) := by decide +kernel
theorem dX8_addSilo_66 : decode cX8_addSilo 66 = .ok (.getfield 43, 3) := by decide +kernel
theorem dX8_addSilo_69 : decode cX8_addSilo 69 = .ok (.iload_n 1, 1) := by decide +kernel
theorem dX8_addSilo_70 : decode cX8_addSilo 70 = .ok (.iload_n 2, 1) := by decide +kernel
theorem dX8_addSilo_71 : decode cX8_addSilo 71 = .ok (.iload_n 3, 1) := by decide +kernel
theorem dX8_addSilo_72 : decode cX8_addSilo 72 = .ok (.invokevirtual 58, 3) := by decide +kernel
theorem dX8_addSilo_75 : decode cX8_addSilo 75 = .ok (.ireturn, 1) := by decide +kernel
theorem dX8_setRule_0 : decode cX8_setRule 0 = .ok (.aload_n 0, 1) := by decide +kernel
theorem dX8_setRule_1 : decode cX8_setRule 1 = .ok (.getfield 10, 3) := by decide +kernel
theorem dX8_setRule_4 : decode cX8_setRule 4 = .ok (.getfield 43, 3) := by decide +kernel
theorem dX8_setRule_7 : decode cX8_setRule 7 = .ok (.iload_n 1, 1) := by decide +kernel
theorem dX8_setRule_8 : decode cX8_setRule 8 = .ok (.invokevirtual 62, 3) := by decide +kernel
theorem dX8_setRule_11 : decode cX8_setRule 11 = .ok (.invokestatic 66, 3) := by decide +kernel
theorem dX8_setRule_14 : decode cX8_setRule 14 = .ok (.iload_n 2, 1) := by decide +kernel
theorem dX8_setRule_15 : decode cX8_setRule 15 = .ok (.iconst 0, 1) := by decide +kernel
theorem dX8_setRule_16 : decode cX8_setRule 16 = .ok (.iconst 3, 1) := by decide +kernel
theorem dX8_setRule_17 : decode cX8_setRule 17 = .ok (.invokestatic 35, 3) := by decide +kernel
theorem dX8_setRule_20 : decode cX8_setRule 20 = .ok (.invokestatic 39, 3) := by decide +kernel
theorem dX8_setRule_23 : decode cX8_setRule 23 = .ok (.aload_n 0, 1) := by decide +kernel
theorem dX8_setRule_24 : decode cX8_setRule 24 = .ok (.getfield 22, 3) := by decide +kernel
theorem dX8_setRule_27 : decode cX8_setRule 27 = .ok (.aload_n 0, 1) := by decide +kernel
theorem dX8_setRule_28 : decode cX8_setRule 28 = .ok (.getfield 10, 3) := by decide +kernel
theorem dX8_setRule_31 : decode cX8_setRule 31 = .ok (.invokevirtual 54, 3) := by decide +kernel
theorem dX8_setRule_34 : decode cX8_setRule 34 = .ok (.aload_n 0, 1) := by decide +kernel
theorem dX8_setRule_35 : decode cX8_setRule 35 = .ok (.getfield 10, 3) := by decide +kernel
theorem dX8_setRule_38 : decode cX8_setRule 38 = .ok (.getfield 43, 3) := by decide +kernel
theorem dX8_setRule_41 : decode cX8_setRule 41 = .ok (.getfield 69, 3) := by decide +kernel
theorem dX8_setRule_44 : decode cX8_setRule 44 = .ok (.iload_n 1, 1) := by decide +kernel
theorem dX8_setRule_45 : decode cX8_setRule 45 = .ok (.iload_n 2, 1) := by decide +kernel
theorem dX8_setRule_46 : decode cX8_setRule 46 = .ok (.invokestatic 73, 3) := by decide +kernel
theorem dX8_setRule_49 : decode cX8_setRule 49 = .ok (.ireturn, 1) := by decide +kernel
theorem dX8_setStrength_0 : decode cX8_setStrength 0 = .ok (.aload_n 0, 1) := by decide +kernel
theorem dX8_setStrength_1 : decode cX8_setStrength 1 = .ok (.getfield 10, 3) := by decide +kernel
theorem dX8_setStrength_4 : decode cX8_setStrength 4 = .ok (.getfield 43, 3) := by decide +kernel
theorem dX8_setStrength_7 : decode cX8_setStrength 7 = .ok (.iload_n 1, 1) := by decide +kernel
theorem dX8_setStrength_8 : decode cX8_setStrength 8 = .ok (.invokevirtual 62, 3) := by decide +kernel
theorem dX8_setStrength_11 : decode cX8_setStrength 11 = .ok (.invokestatic 66, 3) := by decide +kernel
theorem dX8_setStrength_14 : decode cX8_setStrength 14 = .ok (.iload_n 2, 1) := by decide +kernel
theorem dX8_setStrength_15 : decode cX8_setStrength 15 = .ok (.iconst 0, 1) := by decide +kernel
theorem dX8_setStrength_16 : decode cX8_setStrength 16 = .ok (.bipush 100, 2) := by decide +kernel
theorem dX8_setStrength_18 : decode cX8_setStrength 18 = .ok (.invokestatic 35, 3) := by decide +kernel
theorem dX8_setStrength_21 : decode cX8_setStrength 21 = .ok (.invokestatic 39, 3) := by decide +kernel
theorem dX8_setStrength_24 : decode cX8_setStrength 24 = .ok (.aload_n 0, 1) := by decide +kernel
theorem dX8_setStrength_25 : decode cX8_setStrength 25 = .ok (.getfield 22, 3) := by decide +kernel
theorem dX8_setStrength_28 : decode cX8_setStrength 28 = .ok (.aload_n 0, 1) := by decide +kernel
theorem dX8_setStrength_29 : decode cX8_setStrength 29 = .ok (.getfield 10, 3) := by decide +kernel
theorem dX8_setStrength_32 : decode cX8_setStrength 32 = .ok (.invokevirtual 54, 3) := by decide +kernel
theorem dX8_setStrength_35 : decode cX8_setStrength 35 = .ok (.aload_n 0, 1) := by decide +kernel
theorem dX8_setStrength_36 : decode cX8_setStrength 36 = .ok (.getfield 10, 3) := by decide +kernel
theorem dX8_setStrength_39 : decode cX8_setStrength 39 = .ok (.getfield 43, 3) := by decide +kernel
theorem dX8_setStrength_42 : decode cX8_setStrength 42 = .ok (.getfield 77, 3) := by decide +kernel
theorem dX8_setStrength_45 : decode cX8_setStrength 45 = .ok (.iload_n 1, 1) := by decide +kernel
theorem dX8_setStrength_46 : decode cX8_setStrength 46 = .ok (.iload_n 2, 1) := by decide +kernel
theorem dX8_setStrength_47 : decode cX8_setStrength 47 = .ok (.invokestatic 73, 3) := by decide +kernel
theorem dX8_setStrength_50 : decode cX8_setStrength 50 = .ok (.ireturn, 1) := by decide +kernel
theorem dX8_setTemperature_0 : decode cX8_setTemperature 0 = .ok (.iload_n 1, 1) := by decide +kernel
theorem dX8_setTemperature_1 : decode cX8_setTemperature 1 = .ok (.iconst 0, 1) := by decide +kernel
theorem dX8_setTemperature_2 : decode cX8_setTemperature 2 = .ok (.bipush 23, 2) := by decide +kernel
theorem dX8_setTemperature_4 : decode cX8_setTemperature 4 = .ok (.invokestatic 35, 3) := by decide +kernel
theorem dX8_setTemperature_7 : decode cX8_setTemperature 7 = .ok (.invokestatic 66, 3) := by decide +kernel
theorem dX8_setTemperature_10 : decode cX8_setTemperature 10 = .ok (.iload_n 2, 1) := by decide +kernel
theorem dX8_setTemperature_11 : decode cX8_setTemperature 11 = .ok (.bipush (-20), 2) := by decide +kernel
theorem dX8_setTemperature_13 : decode cX8_setTemperature 13 = .ok (.bipush 45, 2) := by decide +kernel
theorem dX8_setTemperature_15 : decode cX8_setTemperature 15 = .ok (.invokestatic 35, 3) := by decide +kernel
theorem dX8_setTemperature_18 : decode cX8_setTemperature 18 = .ok (.invokestatic 39, 3) := by decide +kernel
theorem dX8_setTemperature_21 : decode cX8_setTemperature 21 = .ok (.aload_n 0, 1) := by decide +kernel
theorem dX8_setTemperature_22 : decode cX8_setTemperature 22 = .ok (.getfield 22, 3) := by decide +kernel
theorem dX8_setTemperature_25 : decode cX8_setTemperature 25 = .ok (.aload_n 0, 1) := by decide +kernel
theorem dX8_setTemperature_26 : decode cX8_setTemperature 26 = .ok (.getfield 10, 3) := by decide +kernel
theorem dX8_setTemperature_29 : decode cX8_setTemperature 29 = .ok (.invokevirtual 54, 3) := by decide +kernel
theorem dX8_setTemperature_32 : decode cX8_setTemperature 32 = .ok (.aload_n 0, 1) := by decide +kernel
theorem dX8_setTemperature_33 : decode cX8_setTemperature 33 = .ok (.getfield 10, 3) := by decide +kernel
theorem dX8_setTemperature_36 : decode cX8_setTemperature 36 = .ok (.getfield 80, 3) := by decide +kernel
theorem dX8_setTemperature_39 : decode cX8_setTemperature 39 = .ok (.iload_n 1, 1) := by decide +kernel
theorem dX8_setTemperature_40 : decode cX8_setTemperature 40 = .ok (.iload_n 2, 1) := by decide +kernel
theorem dX8_setTemperature_41 : decode cX8_setTemperature 41 = .ok (.invokestatic 73, 3) := by decide +kernel
theorem dX8_setTemperature_44 : decode cX8_setTemperature 44 = .ok (.ireturn, 1) := by decide +kernel
theorem dX8_set_0 : decode cX8_set 0 = .ok (.iload_n 1, 1) := by decide +kernel
theorem dX8_set_1 : decode cX8_set 1 = .ok (.iconst 0, 1) := by decide +kernel
theorem dX8_set_2 : decode cX8_set 2 = .ok (.bipush 7, 2) := by decide +kernel
theorem dX8_set_4 : decode cX8_set 4 = .ok (.invokestatic 35, 3) := by decide +kernel
theorem dX8_set_7 : decode cX8_set 7 = .ok (.invokestatic 66, 3) := by decide +kernel
theorem dX8_set_10 : decode cX8_set 10 = .ok (.iload_n 2, 1) := by decide +kernel
theorem dX8_set_11 : decode cX8_set 11 = .ok (.getstatic 83, 3) := by decide +kernel
theorem dX8_set_14 : decode cX8_set 14 = .ok (.iload_n 1, 1) := by decide +kernel
theorem dX8_set_15 : decode cX8_set 15 = .ok (.invokestatic 86, 3) := by decide +kernel
theorem dX8_set_18 : decode cX8_set 18 = .ok (.getstatic 90, 3) := by decide +kernel
theorem dX8_set_21 : decode cX8_set 21 = .ok (.iload_n 1, 1) := by decide +kernel
theorem dX8_set_22 : decode cX8_set 22 = .ok (.invokestatic 86, 3) := by decide +kernel
theorem dX8_set_25 : decode cX8_set 25 = .ok (.invokestatic 35, 3) := by decide +kernel
theorem dX8_set_28 : decode cX8_set 28 = .ok (.invokestatic 39, 3) := by decide +kernel
theorem dX8_set_31 : decode cX8_set 31 = .ok (.aload_n 0, 1) := by decide +kernel
theorem dX8_set_32 : decode cX8_set 32 = .ok (.getfield 22, 3) := by decide +kernel
theorem dX8_set_35 : decode cX8_set 35 = .ok (.aload_n 0, 1) := by decide +kernel
theorem dX8_set_36 : decode cX8_set 36 = .ok (.getfield 10, 3) := by decide +kernel
theorem dX8_set_39 : decode cX8_set 39 = .ok (.invokevirtual 54, 3) := by decide +kernel
theorem dX8_set_42 : decode cX8_set 42 = .ok (.aload_n 0, 1) := by decide +kernel
theorem dX8_set_43 : decode cX8_set 43 = .ok (.getfield 10, 3) := by decide +kernel
theorem dX8_set_46 : decode cX8_set 46 = .ok (.getfield 93, 3) := by decide +kernel
theorem dX8_set_49 : decode cX8_set 49 = .ok (.iload_n 1, 1) := by decide +kernel
theorem dX8_set_50 : decode cX8_set 50 = .ok (.iload_n 2, 1) := by decide +kernel
theorem dX8_set_51 : decode cX8_set 51 = .ok (.invokestatic 73, 3) := by decide +kernel
theorem dX8_set_54 : decode cX8_set 54 = .ok (.ireturn, 1) := by decide +kernel
theorem dX8_move_0 : decode cX8_move 0 = .ok (.aload_n 0, 1) := by decide +kernel
theorem dX8_move_1 : decode cX8_move 1 = .ok (.iload_n 1, 1) := by decide +kernel
theorem dX8_move_2 : decode cX8_move 2 = .ok (.iload_n 2, 1) := by decide +kernel
theorem dX8_move_3 : decode cX8_move 3 = .ok (.invokevirtual 96, 3) := by decide +kernel
theorem dX8_move_6 : decode cX8_move 6 = .ok (.invokestatic 100, 3) := by decide +kernel
theorem dX8_move_9 : decode cX8_move 9 = .ok (.aload_n 0, 1) := by decide +kernel
theorem dX8_move_10 : decode cX8_move 10 = .ok (.getfield 22, 3) := by decide +kernel
theorem dX8_move_13 : decode cX8_move 13 = .ok (.aload_n 0, 1) := by decide +kernel
theorem dX8_move_14 : decode cX8_move 14 = .ok (.getfield 10, 3) := by decide +kernel
theorem dX8_move_17 : decode cX8_move 17 = .ok (.invokevirtual 54, 3) := by decide +kernel
theorem dX8_move_20 : decode cX8_move 20 = .ok (.aload_n 0, 1) := by decide +kernel
theorem dX8_move_21 : decode cX8_move 21 = .ok (.getfield 10, 3) := by decide +kernel
theorem dX8_move_24 : decode cX8_move 24 = .ok (.getfield 43, 3) := by decide +kernel
theorem dX8_move_27 : decode cX8_move 27 = .ok (.iload_n 1, 1) := by decide +kernel
theorem dX8_move_28 : decode cX8_move 28 = .ok (.iload_n 2, 1) := by decide +kernel
theorem dX8_move_29 : decode cX8_move 29 = .ok (.invokevirtual 104, 3) := by decide +kernel
theorem dX8_move_32 : decode cX8_move 32 = .ok (.ireturn, 1) := by decide +kernel
theorem dX8_pass_0 : decode cX8_pass 0 = .ok (.aload_n 0, 1) := by decide +kernel
theorem dX8_pass_1 : decode cX8_pass 1 = .ok (.iload_n 1, 1) := by decide +kernel
theorem dX8_pass_2 : decode cX8_pass 2 = .ok (.invokevirtual 107, 3) := by decide +kernel
theorem dX8_pass_5 : decode cX8_pass 5 = .ok (.invokestatic 100, 3) := by decide +kernel
theorem dX8_pass_8 : decode cX8_pass 8 = .ok (.aload_n 0, 1) := by decide +kernel
theorem dX8_pass_9 : decode cX8_pass 9 = .ok (.getfield 22, 3) := by decide +kernel
theorem dX8_pass_12 : decode cX8_pass 12 = .ok (.aload_n 0, 1) := by decide +kernel
theorem dX8_pass_13 : decode cX8_pass 13 = .ok (.getfield 10, 3) := by decide +kernel
theorem dX8_pass_16 : decode cX8_pass 16 = .ok (.invokevirtual 54, 3) := by decide +kernel
theorem dX8_pass_19 : decode cX8_pass 19 = .ok (.aload_n 0, 1) := by decide +kernel
theorem dX8_pass_20 : decode cX8_pass 20 = .ok (.getfield 10, 3) := by decide +kernel
theorem dX8_pass_23 : decode cX8_pass 23 = .ok (.iload_n 1, 1) := by decide +kernel
theorem dX8_pass_24 : decode cX8_pass 24 = .ok (.invokevirtual 111, 3) := by decide +kernel
theorem dX8_pass_27 : decode cX8_pass 27 = .ok (.ireturn, 1) := by decide +kernel
theorem dX8_addBoat_0 : decode cX8_addBoat 0 = .ok (.iload_n 1, 1) := by decide +kernel
theorem dX8_addBoat_1 : decode cX8_addBoat 1 = .ok (.iconst 0, 1) := by decide +kernel
theorem dX8_addBoat_2 : decode cX8_addBoat 2 = .ok (.ldc 114, 2) := by decide +kernel
theorem dX8_addBoat_4 : decode cX8_addBoat 4 = .ok (.invokestatic 35, 3) := by decide +kernel
theorem dX8_addBoat_7 : decode cX8_addBoat 7 = .ok (.invokestatic 39, 3) := by decide +kernel
theorem dX8_addBoat_10 : decode cX8_addBoat 10 = .ok (.aload_n 0, 1) := by decide +kernel
theorem dX8_addBoat_11 : decode cX8_addBoat 11 = .ok (.getfield 10, 3) := by decide +kernel
theorem dX8_addBoat_14 : decode cX8_addBoat 14 = .ok (.getfield 115, 3) := by decide +kernel
theorem dX8_addBoat_17 : decode cX8_addBoat 17 = .ok (.getfield 119, 3) := by decide +kernel
theorem dX8_addBoat_20 : decode cX8_addBoat 20 = .ok (.bipush 8, 2) := by decide +kernel
theorem dX8_addBoat_22 : decode cX8_addBoat 22 = .ok (.if_icmp .ge 7, 3) := by decide +kernel
theorem dX8_addBoat_25 : decode cX8_addBoat 25 = .ok (.iconst 1, 1) := by decide +kernel
theorem dX8_addBoat_26 : decode cX8_addBoat 26 = .ok (.goto 4, 3) := by decide +kernel
theorem dX8_addBoat_29 : decode cX8_addBoat 29 = .ok (.iconst 0, 1) := by decide +kernel
theorem dX8_addBoat_30 : decode cX8_addBoat 30 = .ok (.invokestatic 51, 3) := by decide +kernel
theorem dX8_addBoat_33 : decode cX8_addBoat 33 = .ok (.aload_n 0, 1) := by decide +kernel
theorem dX8_addBoat_34 : decode cX8_addBoat 34 = .ok (.getfield 22, 3) := by decide +kernel
theorem dX8_addBoat_37 : decode cX8_addBoat 37 = .ok (.aload_n 0, 1) := by decide +kernel
theorem dX8_addBoat_38 : decode cX8_addBoat 38 = .ok (.getfield 10, 3) := by decide +kernel
theorem dX8_addBoat_41 : decode cX8_addBoat 41 = .ok (.invokevirtual 54, 3) := by decide +kernel
theorem dX8_addBoat_44 : decode cX8_addBoat 44 = .ok (.aload_n 0, 1) := by decide +kernel
theorem dX8_addBoat_45 : decode cX8_addBoat 45 = .ok (.getfield 10, 3) := by decide +kernel
theorem dX8_addBoat_48 : decode cX8_addBoat 48 = .ok (.getfield 115, 3) := by decide +kernel
theorem dX8_addBoat_51 : decode cX8_addBoat 51 = .ok (.iload_n 1, 1) := by decide +kernel
theorem dX8_addBoat_52 : decode cX8_addBoat 52 = .ok (.invokevirtual 124, 3) := by decide +kernel
theorem dX8_addBoat_55 : decode cX8_addBoat 55 = .ok (.ireturn, 1) := by decide +kernel
theorem dX8_setCatch_0 : decode cX8_setCatch 0 = .ok (.aload_n 0, 1) := by decide +kernel
theorem dX8_setCatch_1 : decode cX8_setCatch 1 = .ok (.iload_n 1, 1) := by decide +kernel
theorem dX8_setCatch_2 : decode cX8_setCatch 2 = .ok (.iload_n 2, 1) := by decide +kernel
theorem dX8_setCatch_3 : decode cX8_setCatch 3 = .ok (.invokevirtual 126, 3) := by decide +kernel
theorem dX8_setCatch_6 : decode cX8_setCatch 6 = .ok (.invokestatic 100, 3) := by decide +kernel
theorem dX8_setCatch_9 : decode cX8_setCatch 9 = .ok (.aload_n 0, 1) := by decide +kernel
theorem dX8_setCatch_10 : decode cX8_setCatch 10 = .ok (.getfield 22, 3) := by decide +kernel
theorem dX8_setCatch_13 : decode cX8_setCatch 13 = .ok (.aload_n 0, 1) := by decide +kernel
theorem dX8_setCatch_14 : decode cX8_setCatch 14 = .ok (.getfield 10, 3) := by decide +kernel
theorem dX8_setCatch_17 : decode cX8_setCatch 17 = .ok (.invokevirtual 54, 3) := by decide +kernel
theorem dX8_setCatch_20 : decode cX8_setCatch 20 = .ok (.aload_n 0, 1) := by decide +kernel
theorem dX8_setCatch_21 : decode cX8_setCatch 21 = .ok (.getfield 10, 3) := by decide +kernel
theorem dX8_setCatch_24 : decode cX8_setCatch 24 = .ok (.getfield 115, 3) := by decide +kernel
theorem dX8_setCatch_27 : decode cX8_setCatch 27 = .ok (.getfield 129, 3) := by decide +kernel
theorem dX8_setCatch_30 : decode cX8_setCatch 30 = .ok (.iload_n 1, 1) := by decide +kernel
theorem dX8_setCatch_31 : decode cX8_setCatch 31 = .ok (.iload_n 2, 1) := by decide +kernel
theorem dX8_setCatch_32 : decode cX8_setCatch 32 = .ok (.invokestatic 73, 3) := by decide +kernel
theorem dX8_setCatch_35 : decode cX8_setCatch 35 = .ok (.ireturn, 1) := by decide +kernel
theorem dX8_order_0 : decode cX8_order 0 = .ok (.aload_n 0, 1) := by decide +kernel
theorem dX8_order_1 : decode cX8_order 1 = .ok (.iload_n 1, 1) := by decide +kernel
theorem dX8_order_2 : decode cX8_order 2 = .ok (.iload_n 2, 1) := by decide +kernel
theorem dX8_order_3 : decode cX8_order 3 = .ok (.iload_n 3, 1) := by decide +kernel
theorem dX8_order_4 : decode cX8_order 4 = .ok (.invokevirtual 132, 3) := by decide +kernel
theorem dX8_order_7 : decode cX8_order 7 = .ok (.invokestatic 100, 3) := by decide +kernel
theorem dX8_order_10 : decode cX8_order 10 = .ok (.aload_n 0, 1) := by decide +kernel
theorem dX8_order_11 : decode cX8_order 11 = .ok (.getfield 22, 3) := by decide +kernel
theorem dX8_order_14 : decode cX8_order 14 = .ok (.aload_n 0, 1) := by decide +kernel
theorem dX8_order_15 : decode cX8_order 15 = .ok (.getfield 10, 3) := by decide +kernel
theorem dX8_order_18 : decode cX8_order 18 = .ok (.invokevirtual 54, 3) := by decide +kernel
theorem dX8_order_21 : decode cX8_order 21 = .ok (.aload_n 0, 1) := by decide +kernel
theorem dX8_order_22 : decode cX8_order 22 = .ok (.getfield 10, 3) := by decide +kernel
theorem dX8_order_25 : decode cX8_order 25 = .ok (.getfield 135, 3) := by decide +kernel
theorem dX8_order_28 : decode cX8_order 28 = .ok (.iload_n 1, 1) := by decide +kernel
theorem dX8_order_29 : decode cX8_order 29 = .ok (.iload_n 2, 1) := by decide +kernel
theorem dX8_order_30 : decode cX8_order 30 = .ok (.iload_n 3, 1) := by decide +kernel
theorem dX8_order_31 : decode cX8_order 31 = .ok (.iload 4, 2) := by decide +kernel
theorem dX8_order_33 : decode cX8_order 33 = .ok (.invokevirtual 139, 3) := by decide +kernel
theorem dX8_order_36 : decode cX8_order 36 = .ok (.ireturn, 1) := by decide +kernel
theorem dX8_cancel_0 : decode cX8_cancel 0 = .ok (.aload_n 0, 1) := by decide +kernel
theorem dX8_cancel_1 : decode cX8_cancel 1 = .ok (.getfield 10, 3) := by decide +kernel
theorem dX8_cancel_4 : decode cX8_cancel 4 = .ok (.getfield 135, 3) := by decide +kernel
theorem dX8_cancel_7 : decode cX8_cancel 7 = .ok (.iload_n 1, 1) := by decide +kernel
theorem dX8_cancel_8 : decode cX8_cancel 8 = .ok (.invokevirtual 145, 3) := by decide +kernel
theorem dX8_cancel_11 : decode cX8_cancel 11 = .ok (.invokestatic 66, 3) := by decide +kernel
theorem dX8_cancel_14 : decode cX8_cancel 14 = .ok (.aload_n 0, 1) := by decide +kernel
theorem dX8_cancel_15 : decode cX8_cancel 15 = .ok (.getfield 10, 3) := by decide +kernel
theorem dX8_cancel_18 : decode cX8_cancel 18 = .ok (.getfield 135, 3) := by decide +kernel
theorem dX8_cancel_21 : decode cX8_cancel 21 = .ok (.iload_n 1, 1) := by decide +kernel
theorem dX8_cancel_22 : decode cX8_cancel 22 = .ok (.invokevirtual 148, 3) := by decide +kernel
theorem dX8_cancel_25 : decode cX8_cancel 25 = .ok (.invokestatic 51, 3) := by decide +kernel
theorem dX8_cancel_28 : decode cX8_cancel 28 = .ok (.aload_n 0, 1) := by decide +kernel
theorem dX8_cancel_29 : decode cX8_cancel 29 = .ok (.getfield 22, 3) := by decide +kernel
theorem dX8_cancel_32 : decode cX8_cancel 32 = .ok (.aload_n 0, 1) := by decide +kernel
theorem dX8_cancel_33 : decode cX8_cancel 33 = .ok (.getfield 10, 3) := by decide +kernel
theorem dX8_cancel_36 : decode cX8_cancel 36 = .ok (.invokevirtual 54, 3) := by decide +kernel
theorem dX8_cancel_39 : decode cX8_cancel 39 = .ok (.aload_n 0, 1) := by decide +kernel
theorem dX8_cancel_40 : decode cX8_cancel 40 = .ok (.getfield 10, 3) := by decide +kernel
theorem dX8_cancel_43 : decode cX8_cancel 43 = .ok (.getfield 135, 3) := by decide +kernel
theorem dX8_cancel_46 : decode cX8_cancel 46 = .ok (.iload_n 1, 1) := by decide +kernel
theorem dX8_cancel_47 : decode cX8_cancel 47 = .ok (.iconst 3, 1) := by decide +kernel
theorem dX8_cancel_48 : decode cX8_cancel 48 = .ok (.invokevirtual 151, 3) := by decide +kernel
theorem dX8_cancel_51 : decode cX8_cancel 51 = .ok (.aload_n 0, 1) := by decide +kernel
theorem dX8_cancel_52 : decode cX8_cancel 52 = .ok (.getfield 10, 3) := by decide +kernel
theorem dX8_cancel_55 : decode cX8_cancel 55 = .ok (.getfield 135, 3) := by decide +kernel
theorem dX8_cancel_58 : decode cX8_cancel 58 = .ok (.iload_n 1, 1) := by decide +kernel
theorem dX8_cancel_59 : decode cX8_cancel 59 = .ok (.invokevirtual 155, 3) := by decide +kernel
theorem dX8_cancel_62 : decode cX8_cancel 62 = .ok (.ireturn, 1) := by decide +kernel
theorem dX8_pay_0 : decode cX8_pay 0 = .ok (.aload_n 0, 1) := by decide +kernel
theorem dX8_pay_1 : decode cX8_pay 1 = .ok (.iload_n 1, 1) := by decide +kernel
theorem dX8_pay_2 : decode cX8_pay 2 = .ok (.iload_n 2, 1) := by decide +kernel
theorem dX8_pay_3 : decode cX8_pay 3 = .ok (.invokevirtual 158, 3) := by decide +kernel
theorem dX8_pay_6 : decode cX8_pay 6 = .ok (.invokestatic 100, 3) := by decide +kernel
theorem dX8_pay_9 : decode cX8_pay 9 = .ok (.aload_n 0, 1) := by decide +kernel
theorem dX8_pay_10 : decode cX8_pay 10 = .ok (.getfield 22, 3) := by decide +kernel
theorem dX8_pay_13 : decode cX8_pay 13 = .ok (.aload_n 0, 1) := by decide +kernel
theorem dX8_pay_14 : decode cX8_pay 14 = .ok (.getfield 10, 3) := by decide +kernel
theorem dX8_pay_17 : decode cX8_pay 17 = .ok (.invokevirtual 54, 3) := by decide +kernel
theorem dX8_pay_20 : decode cX8_pay 20 = .ok (.aload_n 0, 1) := by decide +kernel
theorem dX8_pay_21 : decode cX8_pay 21 = .ok (.getfield 10, 3) := by decide +kernel
theorem dX8_pay_24 : decode cX8_pay 24 = .ok (.iload_n 1, 1) := by decide +kernel
theorem dX8_pay_25 : decode cX8_pay 25 = .ok (.iload_n 2, 1) := by decide +kernel
theorem dX8_pay_26 : decode cX8_pay 26 = .ok (.invokevirtual 161, 3) := by decide +kernel
theorem dX8_pay_29 : decode cX8_pay 29 = .ok (.ireturn, 1) := by decide +kernel
theorem dX8_silo_0 : decode cX8_silo 0 = .ok (.aload_n 0, 1) := by decide +kernel
theorem dX8_silo_1 : decode cX8_silo 1 = .ok (.getfield 10, 3) := by decide +kernel
theorem dX8_silo_4 : decode cX8_silo 4 = .ok (.getfield 43, 3) := by decide +kernel
theorem dX8_silo_7 : decode cX8_silo 7 = .ok (.iload_n 1, 1) := by decide +kernel
theorem dX8_silo_8 : decode cX8_silo 8 = .ok (.invokevirtual 62, 3) := by decide +kernel
theorem dX8_silo_11 : decode cX8_silo 11 = .ok (.invokestatic 66, 3) := by decide +kernel
theorem dX8_silo_14 : decode cX8_silo 14 = .ok (.iload_n 2, 1) := by decide +kernel
theorem dX8_silo_15 : decode cX8_silo 15 = .ok (.iconst 0, 1) := by decide +kernel
theorem dX8_silo_16 : decode cX8_silo 16 = .ok (.iconst 5, 1) := by decide +kernel
theorem dX8_silo_17 : decode cX8_silo 17 = .ok (.invokestatic 35, 3) := by decide +kernel
theorem dX8_silo_20 : decode cX8_silo 20 = .ok (.invokestatic 39, 3) := by decide +kernel
theorem dX8_silo_23 : decode cX8_silo 23 = .ok (.aload_n 0, 1) := by decide +kernel
theorem dX8_silo_24 : decode cX8_silo 24 = .ok (.getfield 10, 3) := by decide +kernel
theorem dX8_silo_27 : decode cX8_silo 27 = .ok (.getfield 43, 3) := by decide +kernel
theorem dX8_silo_30 : decode cX8_silo 30 = .ok (.iload_n 1, 1) := by decide +kernel
theorem dX8_silo_31 : decode cX8_silo 31 = .ok (.iload_n 2, 1) := by decide +kernel
theorem dX8_silo_32 : decode cX8_silo 32 = .ok (.invokevirtual 164, 3) := by decide +kernel
theorem dX8_silo_35 : decode cX8_silo 35 = .ok (.ireturn, 1) := by decide +kernel
theorem dX8_boat_0 : decode cX8_boat 0 = .ok (.aload_n 0, 1) := by decide +kernel
theorem dX8_boat_1 : decode cX8_boat 1 = .ok (.getfield 10, 3) := by decide +kernel
theorem dX8_boat_4 : decode cX8_boat 4 = .ok (.getfield 115, 3) := by decide +kernel
theorem dX8_boat_7 : decode cX8_boat 7 = .ok (.iload_n 1, 1) := by decide +kernel
theorem dX8_boat_8 : decode cX8_boat 8 = .ok (.invokevirtual 173, 3) := by decide +kernel
theorem dX8_boat_11 : decode cX8_boat 11 = .ok (.invokestatic 66, 3) := by decide +kernel
theorem dX8_boat_14 : decode cX8_boat 14 = .ok (.iload_n 2, 1) := by decide +kernel
theorem dX8_boat_15 : decode cX8_boat 15 = .ok (.iconst 0, 1) := by decide +kernel
theorem dX8_boat_16 : decode cX8_boat 16 = .ok (.iconst 3, 1) := by decide +kernel
theorem dX8_boat_17 : decode cX8_boat 17 = .ok (.invokestatic 35, 3) := by decide +kernel
theorem dX8_boat_20 : decode cX8_boat 20 = .ok (.invokestatic 39, 3) := by decide +kernel
theorem dX8_boat_23 : decode cX8_boat 23 = .ok (.iload_n 2, 1) := by decide +kernel
theorem dX8_boat_24 : decode cX8_boat 24 = .ok (.iconst 3, 1) := by decide +kernel
theorem dX8_boat_25 : decode cX8_boat 25 = .ok (.if_icmp .ne 17, 3) := by decide +kernel
theorem dX8_boat_28 : decode cX8_boat 28 = .ok (.aload_n 0, 1) := by decide +kernel
theorem dX8_boat_29 : decode cX8_boat 29 = .ok (.getfield 10, 3) := by decide +kernel
theorem dX8_boat_32 : decode cX8_boat 32 = .ok (.getfield 135, 3) := by decide +kernel
theorem dX8_boat_35 : decode cX8_boat 35 = .ok (.iload_n 1, 1) := by decide +kernel
theorem dX8_boat_36 : decode cX8_boat 36 = .ok (.invokevirtual 174, 3) := by decide +kernel
theorem dX8_boat_39 : decode cX8_boat 39 = .ok (.goto 15, 3) := by decide +kernel
theorem dX8_boat_42 : decode cX8_boat 42 = .ok (.aload_n 0, 1) := by decide +kernel
theorem dX8_boat_43 : decode cX8_boat 43 = .ok (.getfield 10, 3) := by decide +kernel
theorem dX8_boat_46 : decode cX8_boat 46 = .ok (.getfield 115, 3) := by decide +kernel
theorem dX8_boat_49 : decode cX8_boat 49 = .ok (.iload_n 1, 1) := by decide +kernel
theorem dX8_boat_50 : decode cX8_boat 50 = .ok (.iload_n 2, 1) := by decide +kernel
theorem dX8_boat_51 : decode cX8_boat 51 = .ok (.invokevirtual 177, 3) := by decide +kernel
theorem dX8_boat_54 : decode cX8_boat 54 = .ok (.ireturn, 1) := by decide +kernel
theorem dX8_orderProperty_0 : decode cX8_orderProperty 0 = .ok (.aload_n 0, 1) := by decide +kernel
theorem dX8_orderProperty_1 : decode cX8_orderProperty 1 = .ok (.getfield 10, 3) := by decide +kernel
theorem dX8_orderProperty_4 : decode cX8_orderProperty 4 = .ok (.getfield 135, 3) := by decide +kernel
theorem dX8_orderProperty_7 : decode cX8_orderProperty 7 = .ok (.iload_n 1, 1) := by decide +kernel
theorem dX8_orderProperty_8 : decode cX8_orderProperty 8 = .ok (.invokevirtual 145, 3) := by decide +kernel
theorem dX8_orderProperty_11 : decode cX8_orderProperty 11 = .ok (.invokestatic 66, 3) := by decide +kernel
theorem dX8_orderProperty_14 : decode cX8_orderProperty 14 = .ok (.iload_n 2, 1) := by decide +kernel
theorem dX8_orderProperty_15 : decode cX8_orderProperty 15 = .ok (.iconst 0, 1) := by decide +kernel
theorem dX8_orderProperty_16 : decode cX8_orderProperty 16 = .ok (.bipush 6, 2) := by decide +kernel
theorem dX8_orderProperty_18 : decode cX8_orderProperty 18 = .ok (.invokestatic 35, 3) := by decide +kernel
theorem dX8_orderProperty_21 : decode cX8_orderProperty 21 = .ok (.invokestatic 39, 3) := by decide +kernel
theorem dX8_orderProperty_24 : decode cX8_orderProperty 24 = .ok (.iload_n 2, 1) := by decide +kernel
theorem dX8_orderProperty_25 : decode cX8_orderProperty 25 = .ok (.bipush 6, 2) := by decide +kernel
theorem dX8_orderProperty_27 : decode cX8_orderProperty 27 = .ok (.if_icmp .ne 14, 3) := by decide +kernel
theorem dX8_orderProperty_30 : decode cX8_orderProperty 30 = .ok (.aload_n 0, 1) := by decide +kernel
theorem dX8_orderProperty_31 : decode cX8_orderProperty 31 = .ok (.getfield 10, 3) := by decide +kernel
theorem dX8_orderProperty_34 : decode cX8_orderProperty 34 = .ok (.iload_n 1, 1) := by decide +kernel
theorem dX8_orderProperty_35 : decode cX8_orderProperty 35 = .ok (.invokevirtual 180, 3) := by decide +kernel
theorem dX8_orderProperty_38 : decode cX8_orderProperty 38 = .ok (.goto 15, 3) := by decide +kernel
theorem dX8_orderProperty_41 : decode cX8_orderProperty 41 = .ok (.aload_n 0, 1) := by decide +kernel
theorem dX8_orderProperty_42 : decode cX8_orderProperty 42 = .ok (.getfield 10, 3) := by decide +kernel
theorem dX8_orderProperty_45 : decode cX8_orderProperty 45 = .ok (.getfield 135, 3) := by decide +kernel
theorem dX8_orderProperty_48 : decode cX8_orderProperty 48 = .ok (.iload_n 1, 1) := by decide +kernel
theorem dX8_orderProperty_49 : decode cX8_orderProperty 49 = .ok (.iload_n 2, 1) := by decide +kernel
theorem dX8_orderProperty_50 : decode cX8_orderProperty 50 = .ok (.invokevirtual 183, 3) := by decide +kernel
theorem dX8_orderProperty_53 : decode cX8_orderProperty 53 = .ok (.ireturn, 1) := by decide +kernel
theorem dX8_receipt_0 : decode cX8_receipt 0 = .ok (.iload_n 1, 1) := by decide +kernel
theorem dX8_receipt_1 : decode cX8_receipt 1 = .ok (.iconst 0, 1) := by decide +kernel
theorem dX8_receipt_2 : decode cX8_receipt 2 = .ok (.aload_n 0, 1) := by decide +kernel
theorem dX8_receipt_3 : decode cX8_receipt 3 = .ok (.getfield 10, 3) := by decide +kernel
theorem dX8_receipt_6 : decode cX8_receipt 6 = .ok (.getfield 184, 3) := by decide +kernel
theorem dX8_receipt_9 : decode cX8_receipt 9 = .ok (.invokevirtual 188, 3) := by decide +kernel
theorem dX8_receipt_12 : decode cX8_receipt 12 = .ok (.iconst 1, 1) := by decide +kernel
theorem dX8_receipt_13 : decode cX8_receipt 13 = .ok (.isub, 1) := by decide +kernel
theorem dX8_receipt_14 : decode cX8_receipt 14 = .ok (.invokestatic 35, 3) := by decide +kernel
theorem dX8_receipt_17 : decode cX8_receipt 17 = .ok (.invokestatic 66, 3) := by decide +kernel
theorem dX8_receipt_20 : decode cX8_receipt 20 = .ok (.iload_n 2, 1) := by decide +kernel
theorem dX8_receipt_21 : decode cX8_receipt 21 = .ok (.iconst 0, 1) := by decide +kernel
theorem dX8_receipt_22 : decode cX8_receipt 22 = .ok (.iconst 4, 1) := by decide +kernel
theorem dX8_receipt_23 : decode cX8_receipt 23 = .ok (.invokestatic 35, 3) := by decide +kernel
theorem dX8_receipt_26 : decode cX8_receipt 26 = .ok (.invokestatic 39, 3) := by decide +kernel
theorem dX8_receipt_29 : decode cX8_receipt 29 = .ok (.aload_n 0, 1) := by decide +kernel
theorem dX8_receipt_30 : decode cX8_receipt 30 = .ok (.getfield 10, 3) := by decide +kernel
theorem dX8_receipt_33 : decode cX8_receipt 33 = .ok (.getfield 184, 3) := by decide +kernel
theorem dX8_receipt_36 : decode cX8_receipt 36 = .ok (.iload_n 1, 1) := by decide +kernel
theorem dX8_receipt_37 : decode cX8_receipt 37 = .ok (.iload_n 2, 1) := by decide +kernel
theorem dX8_receipt_38 : decode cX8_receipt 38 = .ok (.invokevirtual 194, 3) := by decide +kernel
theorem dX8_receipt_41 : decode cX8_receipt 41 = .ok (.ireturn, 1) := by decide +kernel
theorem dX8_account_0 : decode cX8_account 0 = .ok (.iload_n 1, 1) := by decide +kernel
theorem dX8_account_1 : decode cX8_account 1 = .ok (.iconst 0, 1) := by decide +kernel
theorem dX8_account_2 : decode cX8_account 2 = .ok (.aload_n 0, 1) := by decide +kernel
theorem dX8_account_3 : decode cX8_account 3 = .ok (.getfield 10, 3) := by decide +kernel
theorem dX8_account_6 : decode cX8_account 6 = .ok (.getfield 195, 3) := by decide +kernel
theorem dX8_account_9 : decode cX8_account 9 = .ok (.getfield 199, 3) := by decide +kernel
theorem dX8_account_12 : decode cX8_account 12 = .ok (.iconst 1, 1) := by decide +kernel
theorem dX8_account_13 : decode cX8_account 13 = .ok (.isub, 1) := by decide +kernel
theorem dX8_account_14 : decode cX8_account 14 = .ok (.invokestatic 35, 3) := by decide +kernel
theorem dX8_account_17 : decode cX8_account 17 = .ok (.invokestatic 66, 3) := by decide +kernel
theorem dX8_account_20 : decode cX8_account 20 = .ok (.iload_n 2, 1) := by decide +kernel
theorem dX8_account_21 : decode cX8_account 21 = .ok (.iconst 0, 1) := by decide +kernel
theorem dX8_account_22 : decode cX8_account 22 = .ok (.iconst 3, 1) := by decide +kernel
theorem dX8_account_23 : decode cX8_account 23 = .ok (.invokestatic 35, 3) := by decide +kernel
theorem dX8_account_26 : decode cX8_account 26 = .ok (.invokestatic 39, 3) := by decide +kernel
theorem dX8_account_29 : decode cX8_account 29 = .ok (.aload_n 0, 1) := by decide +kernel
theorem dX8_account_30 : decode cX8_account 30 = .ok (.getfield 10, 3) := by decide +kernel
theorem dX8_account_33 : decode cX8_account 33 = .ok (.getfield 195, 3) := by decide +kernel
theorem dX8_account_36 : decode cX8_account 36 = .ok (.iload_n 1, 1) := by decide +kernel
theorem dX8_account_37 : decode cX8_account 37 = .ok (.iload_n 2, 1) := by decide +kernel
theorem dX8_account_38 : decode cX8_account 38 = .ok (.invokevirtual 202, 3) := by decide +kernel
theorem dX8_account_41 : decode cX8_account 41 = .ok (.lreturn, 1) := by decide +kernel
theorem dX8_findAccount_0 : decode cX8_findAccount 0 = .ok (.aload_n 0, 1) := by decide +kernel
theorem dX8_findAccount_1 : decode cX8_findAccount 1 = .ok (.getfield 10, 3) := by decide +kernel
theorem dX8_findAccount_4 : decode cX8_findAccount 4 = .ok (.getfield 115, 3) := by decide +kernel
theorem dX8_findAccount_7 : decode cX8_findAccount 7 = .ok (.iload_n 1, 1) := by decide +kernel
theorem dX8_findAccount_8 : decode cX8_findAccount 8 = .ok (.invokevirtual 173, 3) := by decide +kernel
theorem dX8_findAccount_11 : decode cX8_findAccount 11 = .ok (.invokestatic 66, 3) := by decide +kernel
theorem dX8_findAccount_14 : decode cX8_findAccount 14 = .ok (.iload_n 2, 1) := by decide +kernel
theorem dX8_findAccount_15 : decode cX8_findAccount 15 = .ok (.iconst 0, 1) := by decide +kernel
theorem dX8_findAccount_16 : decode cX8_findAccount 16 = .ok (.iconst 1, 1) := by decide +kernel
theorem dX8_findAccount_17 : decode cX8_findAccount 17 = .ok (.invokestatic 35, 3) := by decide +kernel
theorem dX8_findAccount_20 : decode cX8_findAccount 20 = .ok (.invokestatic 39, 3) := by decide +kernel
theorem dX8_findAccount_23 : decode cX8_findAccount 23 = .ok (.aload_n 0, 1) := by decide +kernel
theorem dX8_findAccount_24 : decode cX8_findAccount 24 = .ok (.getfield 10, 3) := by decide +kernel
theorem dX8_findAccount_27 : decode cX8_findAccount 27 = .ok (.getfield 195, 3) := by decide +kernel
theorem dX8_findAccount_30 : decode cX8_findAccount 30 = .ok (.iload_n 1, 1) := by decide +kernel
theorem dX8_findAccount_31 : decode cX8_findAccount 31 = .ok (.iload_n 2, 1) := by decide +kernel
theorem dX8_findAccount_32 : decode cX8_findAccount 32 = .ok (.invokevirtual 205, 3) := by decide +kernel
theorem dX8_findAccount_35 : decode cX8_findAccount 35 = .ok (.ireturn, 1) := by decide +kernel
theorem dX8_total_0 : decode cX8_total 0 = .ok (.iload_n 1, 1) := by decide +kernel
theorem dX8_total_1 : decode cX8_total 1 = .ok (.iconst 0, 1) := by decide +kernel
theorem dX8_total_2 : decode cX8_total 2 = .ok (.bipush 15, 2) := by decide +kernel
theorem dX8_total_4 : decode cX8_total 4 = .ok (.invokestatic 35, 3) := by decide +kernel
theorem dX8_total_7 : decode cX8_total 7 = .ok (.invokestatic 39, 3) := by decide +kernel
theorem dX8_total_10 : decode cX8_total 10 = .ok (.iload_n 1, 1) := by decide +kernel
theorem dX8_total_11 : decode cX8_total 11 = .ok (.bipush 15, 2) := by decide +kernel
theorem dX8_total_13 : decode cX8_total 13 = .ok (.if_icmp .ne 14, 3) := by decide +kernel
theorem dX8_total_16 : decode cX8_total 16 = .ok (.aload_n 0, 1) := by decide +kernel
theorem dX8_total_17 : decode cX8_total 17 = .ok (.getfield 22, 3) := by decide +kernel
theorem dX8_total_20 : decode cX8_total 20 = .ok (.getfield 208, 3) := by decide +kernel
theorem dX8_total_23 : decode cX8_total 23 = .ok (.i2l, 1) := by decide +kernel
theorem dX8_total_24 : decode cX8_total 24 = .ok (.goto 11, 3) := by decide +kernel
theorem dX8_total_27 : decode cX8_total 27 = .ok (.aload_n 0, 1) := by decide +kernel
theorem dX8_total_28 : decode cX8_total 28 = .ok (.getfield 10, 3) := by decide +kernel
theorem dX8_total_31 : decode cX8_total 31 = .ok (.iload_n 1, 1) := by decide +kernel
theorem dX8_total_32 : decode cX8_total 32 = .ok (.invokevirtual 209, 3) := by decide +kernel
theorem dX8_total_35 : decode cX8_total 35 = .ok (.lreturn, 1) := by decide +kernel
theorem dX8_meanAge_0 : decode cX8_meanAge 0 = .ok (.aload_n 0, 1) := by decide +kernel
theorem dX8_meanAge_1 : decode cX8_meanAge 1 = .ok (.getfield 10, 3) := by decide +kernel
theorem dX8_meanAge_4 : decode cX8_meanAge 4 = .ok (.getfield 43, 3) := by decide +kernel
theorem dX8_meanAge_7 : decode cX8_meanAge 7 = .ok (.invokevirtual 213, 3) := by decide +kernel
theorem dX8_meanAge_10 : decode cX8_meanAge 10 = .ok (.istore_n 1, 1) := by decide +kernel
theorem dX8_meanAge_11 : decode cX8_meanAge 11 = .ok (.iload_n 1, 1) := by decide +kernel
theorem dX8_meanAge_12 : decode cX8_meanAge 12 = .ok (.ifCond .le 20, 3) := by decide +kernel
theorem dX8_meanAge_15 : decode cX8_meanAge 15 = .ok (.aload_n 0, 1) := by decide +kernel
theorem dX8_meanAge_16 : decode cX8_meanAge 16 = .ok (.getfield 10, 3) := by decide +kernel
theorem dX8_meanAge_19 : decode cX8_meanAge 19 = .ok (.getfield 43, 3) := by decide +kernel
theorem dX8_meanAge_22 : decode cX8_meanAge 22 = .ok (.invokevirtual 216, 3) := by decide +kernel
theorem dX8_meanAge_25 : decode cX8_meanAge 25 = .ok (.i2d, 1) := by decide +kernel
theorem dX8_meanAge_26 : decode cX8_meanAge 26 = .ok (.iload_n 1, 1) := by decide +kernel
theorem dX8_meanAge_27 : decode cX8_meanAge 27 = .ok (.i2d, 1) := by decide +kernel
theorem dX8_meanAge_28 : decode cX8_meanAge 28 = .ok (.ddiv, 1) := by decide +kernel
theorem dX8_meanAge_29 : decode cX8_meanAge 29 = .ok (.goto 4, 3) := by decide +kernel
theorem dX8_meanAge_32 : decode cX8_meanAge 32 = .ok (.dconst 0, 1) := by decide +kernel
theorem dX8_meanAge_33 : decode cX8_meanAge 33 = .ok (.dreturn, 1) := by decide +kernel
theorem dX8_massAfter_0 : decode cX8_massAfter 0 = .ok (.iload_n 1, 1) := by decide +kernel
theorem dX8_massAfter_1 : decode cX8_massAfter 1 = .ok (.iconst 0, 1) := by decide +kernel
theorem dX8_massAfter_2 : decode cX8_massAfter 2 = .ok (.bipush 48, 2) := by decide +kernel
theorem dX8_massAfter_4 : decode cX8_massAfter 4 = .ok (.invokestatic 35, 3) := by decide +kernel
theorem dX8_massAfter_7 : decode cX8_massAfter 7 = .ok (.invokestatic 39, 3) := by decide +kernel
theorem dX8_massAfter_10 : decode cX8_massAfter 10 = .ok (.aload_n 0, 1) := by decide +kernel
theorem dX8_massAfter_11 : decode cX8_massAfter 11 = .ok (.getfield 16, 3) := by decide +kernel
theorem dX8_massAfter_14 : decode cX8_massAfter 14 = .ok (.aload_n 0, 1) := by decide +kernel
theorem dX8_massAfter_15 : decode cX8_massAfter 15 = .ok (.getfield 10, 3) := by decide +kernel
theorem dX8_massAfter_18 : decode cX8_massAfter 18 = .ok (.invokevirtual 219, 3) := by decide +kernel
theorem dX8_massAfter_21 : decode cX8_massAfter 21 = .ok (.aload_n 0, 1) := by decide +kernel
theorem dX8_massAfter_22 : decode cX8_massAfter 22 = .ok (.getfield 16, 3) := by decide +kernel
theorem dX8_massAfter_25 : decode cX8_massAfter 25 = .ok (.iload_n 1, 1) := by decide +kernel
theorem dX8_massAfter_26 : decode cX8_massAfter 26 = .ok (.invokevirtual 111, 3) := by decide +kernel
theorem dX8_massAfter_29 : decode cX8_massAfter 29 = .ok (.pop, 1) := by decide +kernel
theorem dX8_massAfter_30 : decode cX8_massAfter 30 = .ok (.aload_n 0, 1) := by decide +kernel
theorem dX8_massAfter_31 : decode cX8_massAfter 31 = .ok (.getfield 16, 3) := by decide +kernel
theorem dX8_massAfter_34 : decode cX8_massAfter 34 = .ok (.getfield 43, 3) := by decide +kernel
theorem dX8_massAfter_37 : decode cX8_massAfter 37 = .ok (.invokevirtual 222, 3) := by decide +kernel
theorem dX8_massAfter_40 : decode cX8_massAfter 40 = .ok (.ireturn, 1) := by decide +kernel
theorem dX8_completeIn_0 : decode cX8_completeIn 0 = .ok (.aload_n 0, 1) := by decide +kernel
theorem dX8_completeIn_1 : decode cX8_completeIn 1 = .ok (.getfield 10, 3) := by decide +kernel
theorem dX8_completeIn_4 : decode cX8_completeIn 4 = .ok (.getfield 135, 3) := by decide +kernel
theorem dX8_completeIn_7 : decode cX8_completeIn 7 = .ok (.iload_n 1, 1) := by decide +kernel
theorem dX8_completeIn_8 : decode cX8_completeIn 8 = .ok (.invokevirtual 145, 3) := by decide +kernel
theorem dX8_completeIn_11 : decode cX8_completeIn 11 = .ok (.invokestatic 66, 3) := by decide +kernel
theorem dX8_completeIn_14 : decode cX8_completeIn 14 = .ok (.aload_n 0, 1) := by decide +kernel
theorem dX8_completeIn_15 : decode cX8_completeIn 15 = .ok (.getfield 10, 3) := by decide +kernel
theorem dX8_completeIn_18 : decode cX8_completeIn 18 = .ok (.getfield 135, 3) := by decide +kernel
theorem dX8_completeIn_21 : decode cX8_completeIn 21 = .ok (.iload_n 1, 1) := by decide +kernel
theorem dX8_completeIn_22 : decode cX8_completeIn 22 = .ok (.invokevirtual 148, 3) := by decide +kernel
theorem dX8_completeIn_25 : decode cX8_completeIn 25 = .ok (.invokestatic 51, 3) := by decide +kernel
theorem dX8_completeIn_28 : decode cX8_completeIn 28 = .ok (.aload_n 0, 1) := by decide +kernel
theorem dX8_completeIn_29 : decode cX8_completeIn 29 = .ok (.getfield 16, 3) := by decide +kernel
theorem dX8_completeIn_32 : decode cX8_completeIn 32 = .ok (.aload_n 0, 1) := by decide +kernel
theorem dX8_completeIn_33 : decode cX8_completeIn 33 = .ok (.getfield 10, 3) := by decide +kernel
theorem dX8_completeIn_36 : decode cX8_completeIn 36 = .ok (.invokevirtual 219, 3) := by decide +kernel
theorem dX8_completeIn_39 : decode cX8_completeIn 39 = .ok (.iconst 1, 1) := by decide +kernel
theorem dX8_completeIn_40 : decode cX8_completeIn 40 = .ok (.istore_n 2, 1) := by decide +kernel
theorem dX8_completeIn_41 : decode cX8_completeIn 41 = .ok (.iload_n 2, 1) := by decide +kernel
theorem dX8_completeIn_42 : decode cX8_completeIn 42 = .ok (.bipush 48, 2) := by decide +kernel
theorem dX8_completeIn_44 : decode cX8_completeIn 44 = .ok (.if_icmp .gt 46, 3) := by decide +kernel
theorem dX8_completeIn_47 : decode cX8_completeIn 47 = .ok (.aload_n 0, 1) := by decide +kernel
theorem dX8_completeIn_48 : decode cX8_completeIn 48 = .ok (.getfield 16, 3) := by decide +kernel
theorem dX8_completeIn_51 : decode cX8_completeIn 51 = .ok (.getfield 135, 3) := by decide +kernel
theorem dX8_completeIn_54 : decode cX8_completeIn 54 = .ok (.iload_n 1, 1) := by decide +kernel
theorem dX8_completeIn_55 : decode cX8_completeIn 55 = .ok (.invokevirtual 148, 3) := by decide +kernel
theorem dX8_completeIn_58 : decode cX8_completeIn 58 = .ok (.ifCond .eq 32, 3) := by decide +kernel
theorem dX8_completeIn_61 : decode cX8_completeIn 61 = .ok (.aload_n 0, 1) := by decide +kernel
theorem dX8_completeIn_62 : decode cX8_completeIn 62 = .ok (.getfield 16, 3) := by decide +kernel
theorem dX8_completeIn_65 : decode cX8_completeIn 65 = .ok (.invokevirtual 225, 3) := by decide +kernel
theorem dX8_completeIn_68 : decode cX8_completeIn 68 = .ok (.aload_n 0, 1) := by decide +kernel
theorem dX8_completeIn_69 : decode cX8_completeIn 69 = .ok (.getfield 16, 3) := by decide +kernel
theorem dX8_completeIn_72 : decode cX8_completeIn 72 = .ok (.getfield 135, 3) := by decide +kernel
theorem dX8_completeIn_75 : decode cX8_completeIn 75 = .ok (.iload_n 1, 1) := by decide +kernel
theorem dX8_completeIn_76 : decode cX8_completeIn 76 = .ok (.invokevirtual 228, 3) := by decide +kernel
theorem dX8_completeIn_79 : decode cX8_completeIn 79 = .ok (.ifCond .eq 5, 3) := by decide +kernel
theorem dX8_completeIn_82 : decode cX8_completeIn 82 = .ok (.iload_n 2, 1) := by decide +kernel
theorem dX8_completeIn_83 : decode cX8_completeIn 83 = .ok (.ireturn, 1) := by decide +kernel
theorem dX8_completeIn_84 : decode cX8_completeIn 84 = .ok (.iinc 2 1, 3) := by decide +kernel
theorem dX8_completeIn_87 : decode cX8_completeIn 87 = .ok (.goto (-46), 3) := by decide +kernel
theorem dX8_completeIn_90 : decode cX8_completeIn 90 = .ok (.iconst (-1), 1) := by decide +kernel
theorem dX8_completeIn_91 : decode cX8_completeIn 91 = .ok (.ireturn, 1) := by decide +kernel
theorem dX8_bestRule_0 : decode cX8_bestRule 0 = .ok (.aload_n 0, 1) := by decide +kernel
theorem dX8_bestRule_1 : decode cX8_bestRule 1 = .ok (.getfield 10, 3) := by decide +kernel
theorem dX8_bestRule_4 : decode cX8_bestRule 4 = .ok (.getfield 43, 3) := by decide +kernel
theorem dX8_bestRule_7 : decode cX8_bestRule 7 = .ok (.iload_n 1, 1) := by decide +kernel
theorem dX8_bestRule_8 : decode cX8_bestRule 8 = .ok (.invokevirtual 62, 3) := by decide +kernel
theorem dX8_bestRule_11 : decode cX8_bestRule 11 = .ok (.invokestatic 66, 3) := by decide +kernel
theorem dX8_bestRule_14 : decode cX8_bestRule 14 = .ok (.iload_n 2, 1) := by decide +kernel
theorem dX8_bestRule_15 : decode cX8_bestRule 15 = .ok (.iconst 1, 1) := by decide +kernel
theorem dX8_bestRule_16 : decode cX8_bestRule 16 = .ok (.bipush 24, 2) := by decide +kernel
theorem dX8_bestRule_18 : decode cX8_bestRule 18 = .ok (.invokestatic 35, 3) := by decide +kernel
theorem dX8_bestRule_21 : decode cX8_bestRule 21 = .ok (.invokestatic 39, 3) := by decide +kernel
theorem dX8_bestRule_24 : decode cX8_bestRule 24 = .ok (.iconst 0, 1) := by decide +kernel
theorem dX8_bestRule_25 : decode cX8_bestRule 25 = .ok (.istore_n 3, 1) := by decide +kernel
theorem dX8_bestRule_26 : decode cX8_bestRule 26 = .ok (.aload_n 0, 1) := by decide +kernel
theorem dX8_bestRule_27 : decode cX8_bestRule 27 = .ok (.iload_n 1, 1) := by decide +kernel
theorem dX8_bestRule_28 : decode cX8_bestRule 28 = .ok (.iconst 0, 1) := by decide +kernel
theorem dX8_bestRule_29 : decode cX8_bestRule 29 = .ok (.iload_n 2, 1) := by decide +kernel
theorem dX8_bestRule_30 : decode cX8_bestRule 30 = .ok (.invokevirtual 231, 3) := by decide +kernel
theorem dX8_bestRule_33 : decode cX8_bestRule 33 = .ok (.istore 4, 2) := by decide +kernel
theorem dX8_bestRule_35 : decode cX8_bestRule 35 = .ok (.iconst 1, 1) := by decide +kernel
theorem dX8_bestRule_36 : decode cX8_bestRule 36 = .ok (.istore 5, 2) := by decide +kernel
theorem dX8_bestRule_38 : decode cX8_bestRule 38 = .ok (.iload 5, 2) := by decide +kernel
theorem dX8_bestRule_40 : decode cX8_bestRule 40 = .ok (.iconst 3, 1) := by decide +kernel
theorem dX8_bestRule_41 : decode cX8_bestRule 41 = .ok (.if_icmp .gt 33, 3) := by decide +kernel
theorem dX8_bestRule_44 : decode cX8_bestRule 44 = .ok (.aload_n 0, 1) := by decide +kernel
theorem dX8_bestRule_45 : decode cX8_bestRule 45 = .ok (.iload_n 1, 1) := by decide +kernel
theorem dX8_bestRule_46 : decode cX8_bestRule 46 = .ok (.iload 5, 2) := by decide +kernel
theorem dX8_bestRule_48 : decode cX8_bestRule 48 = .ok (.iload_n 2, 1) := by decide +kernel
theorem dX8_bestRule_49 : decode cX8_bestRule 49 = .ok (.invokevirtual 231, 3) := by decide +kernel
theorem dX8_bestRule_52 : decode cX8_bestRule 52 = .ok (.istore 6, 2) := by decide +kernel
theorem dX8_bestRule_54 : decode cX8_bestRule 54 = .ok (.iload 6, 2) := by decide +kernel
theorem dX8_bestRule_56 : decode cX8_bestRule 56 = .ok (.iload 4, 2) := by decide +kernel
theorem dX8_bestRule_58 : decode cX8_bestRule 58 = .ok (.if_icmp .ge 10, 3) := by decide +kernel
theorem dX8_bestRule_61 : decode cX8_bestRule 61 = .ok (.iload 5, 2) := by decide +kernel
theorem dX8_bestRule_63 : decode cX8_bestRule 63 = .ok (.istore_n 3, 1) := by decide +kernel
theorem dX8_bestRule_64 : decode cX8_bestRule 64 = .ok (.iload 6, 2) := by decide +kernel
theorem dX8_bestRule_66 : decode cX8_bestRule 66 = .ok (.istore 4, 2) := by decide +kernel
theorem dX8_bestRule_68 : decode cX8_bestRule 68 = .ok (.iinc 5 1, 3) := by decide +kernel
theorem dX8_bestRule_71 : decode cX8_bestRule 71 = .ok (.goto (-33), 3) := by decide +kernel
theorem dX8_bestRule_74 : decode cX8_bestRule 74 = .ok (.iload_n 3, 1) := by decide +kernel
theorem dX8_bestRule_75 : decode cX8_bestRule 75 = .ok (.ireturn, 1) := by decide +kernel
theorem dX8_quote_0 : decode cX8_quote 0 = .ok (.aload_n 0, 1) := by decide +kernel
theorem dX8_quote_1 : decode cX8_quote 1 = .ok (.getfield 10, 3) := by decide +kernel
theorem dX8_quote_4 : decode cX8_quote 4 = .ok (.getfield 115, 3) := by decide +kernel
theorem dX8_quote_7 : decode cX8_quote 7 = .ok (.iload_n 1, 1) := by decide +kernel
theorem dX8_quote_8 : decode cX8_quote 8 = .ok (.invokevirtual 173, 3) := by decide +kernel
theorem dX8_quote_11 : decode cX8_quote 11 = .ok (.invokestatic 66, 3) := by decide +kernel
theorem dX8_quote_14 : decode cX8_quote 14 = .ok (.iload_n 2, 1) := by decide +kernel
theorem dX8_quote_15 : decode cX8_quote 15 = .ok (.iconst 0, 1) := by decide +kernel
theorem dX8_quote_16 : decode cX8_quote 16 = .ok (.sipush 9999, 3) := by decide +kernel
theorem dX8_quote_19 : decode cX8_quote 19 = .ok (.invokestatic 35, 3) := by decide +kernel
theorem dX8_quote_22 : decode cX8_quote 22 = .ok (.invokestatic 39, 3) := by decide +kernel
theorem dX8_quote_25 : decode cX8_quote 25 = .ok (.iload_n 3, 1) := by decide +kernel
theorem dX8_quote_26 : decode cX8_quote 26 = .ok (.iconst 0, 1) := by decide +kernel
theorem dX8_quote_27 : decode cX8_quote 27 = .ok (.iconst 1, 1) := by decide +kernel
theorem dX8_quote_28 : decode cX8_quote 28 = .ok (.invokestatic 35, 3) := by decide +kernel
theorem dX8_quote_31 : decode cX8_quote 31 = .ok (.invokestatic 39, 3) := by decide +kernel
theorem dX8_quote_34 : decode cX8_quote 34 = .ok (.aload_n 0, 1) := by decide +kernel
theorem dX8_quote_35 : decode cX8_quote 35 = .ok (.getfield 10, 3) := by decide +kernel
theorem dX8_quote_38 : decode cX8_quote 38 = .ok (.iload_n 1, 1) := by decide +kernel
theorem dX8_quote_39 : decode cX8_quote 39 = .ok (.iload_n 2, 1) := by decide +kernel
theorem dX8_quote_40 : decode cX8_quote 40 = .ok (.iload_n 3, 1) := by decide +kernel
theorem dX8_quote_41 : decode cX8_quote 41 = .ok (.invokevirtual 234, 3) := by decide +kernel
theorem dX8_quote_44 : decode cX8_quote 44 = .ok (.ireturn, 1) := by decide +kernel
theorem dX8_errorPosition_0 : decode cX8_errorPosition 0 = .ok (.aload_n 0, 1) := by decide +kernel
theorem dX8_errorPosition_1 : decode cX8_errorPosition 1 = .ok (.getfield 29, 3) := by decide +kernel
theorem dX8_errorPosition_4 : decode cX8_errorPosition 4 = .ok (.invokevirtual 247, 3) := by decide +kernel
theorem dX8_errorPosition_7 : decode cX8_errorPosition 7 = .ok (.aload_n 0, 1) := by decide +kernel
theorem dX8_errorPosition_8 : decode cX8_errorPosition 8 = .ok (.getfield 29, 3) := by decide +kernel
theorem dX8_errorPosition_11 : decode cX8_errorPosition 11 = .ok (.getfield 250, 3) := by decide +kernel
theorem dX8_errorPosition_14 : decode cX8_errorPosition 14 = .ok (.ifCond .ne 7, 3) := by decide +kernel
theorem dX8_errorPosition_17 : decode cX8_errorPosition 17 = .ok (.iconst (-1), 1) := by decide +kernel
theorem dX8_errorPosition_18 : decode cX8_errorPosition 18 = .ok (.goto 10, 3) := by decide +kernel
theorem dX8_errorPosition_21 : decode cX8_errorPosition 21 = .ok (.aload_n 0, 1) := by decide +kernel
theorem dX8_errorPosition_22 : decode cX8_errorPosition 22 = .ok (.getfield 29, 3) := by decide +kernel
theorem dX8_errorPosition_25 : decode cX8_errorPosition 25 = .ok (.getfield 253, 3) := by decide +kernel
theorem dX8_errorPosition_28 : decode cX8_errorPosition 28 = .ok (.ireturn, 1) := by decide +kernel
theorem dX8_errorKind_0 : decode cX8_errorKind 0 = .ok (.aload_n 0, 1) := by decide +kernel
theorem dX8_errorKind_1 : decode cX8_errorKind 1 = .ok (.getfield 29, 3) := by decide +kernel
theorem dX8_errorKind_4 : decode cX8_errorKind 4 = .ok (.invokevirtual 247, 3) := by decide +kernel
theorem dX8_errorKind_7 : decode cX8_errorKind 7 = .ok (.aload_n 0, 1) := by decide +kernel
theorem dX8_errorKind_8 : decode cX8_errorKind 8 = .ok (.getfield 29, 3) := by decide +kernel
theorem dX8_errorKind_11 : decode cX8_errorKind 11 = .ok (.getfield 250, 3) := by decide +kernel
theorem dX8_errorKind_14 : decode cX8_errorKind 14 = .ok (.ireturn, 1) := by decide +kernel
theorem dX8_undo_0 : decode cX8_undo 0 = .ok (.aload_n 0, 1) := by decide +kernel
theorem dX8_undo_1 : decode cX8_undo 1 = .ok (.getfield 22, 3) := by decide +kernel
theorem dX8_undo_4 : decode cX8_undo 4 = .ok (.getfield 208, 3) := by decide +kernel
theorem dX8_undo_7 : decode cX8_undo 7 = .ok (.ifCond .le 7, 3) := by decide +kernel
theorem dX8_undo_10 : decode cX8_undo 10 = .ok (.iconst 1, 1) := by decide +kernel
theorem dX8_undo_11 : decode cX8_undo 11 = .ok (.goto 4, 3) := by decide +kernel
theorem dX8_undo_14 : decode cX8_undo 14 = .ok (.iconst 0, 1) := by decide +kernel
theorem dX8_undo_15 : decode cX8_undo 15 = .ok (.invokestatic 51, 3) := by decide +kernel
theorem dX8_undo_18 : decode cX8_undo 18 = .ok (.aload_n 0, 1) := by decide +kernel
theorem dX8_undo_19 : decode cX8_undo 19 = .ok (.getfield 22, 3) := by decide +kernel
theorem dX8_undo_22 : decode cX8_undo 22 = .ok (.aload_n 0, 1) := by decide +kernel
theorem dX8_undo_23 : decode cX8_undo 23 = .ok (.getfield 10, 3) := by decide +kernel
theorem dX8_undo_26 : decode cX8_undo 26 = .ok (.invokevirtual 272, 3) := by decide +kernel
theorem dX8_undo_29 : decode cX8_undo 29 = .ok (.ireturn, 1) := by decide +kernel
theorem dX8_isWithin_0 : decode cX8_isWithin 0 = .ok (.iload_n 0, 1) := by decide +kernel
theorem dX8_isWithin_1 : decode cX8_isWithin 1 = .ok (.iload_n 1, 1) := by decide +kernel
theorem dX8_isWithin_2 : decode cX8_isWithin 2 = .ok (.if_icmp .lt 12, 3) := by decide +kernel
theorem dX8_isWithin_5 : decode cX8_isWithin 5 = .ok (.iload_n 0, 1) := by decide +kernel
theorem dX8_isWithin_6 : decode cX8_isWithin 6 = .ok (.iload_n 2, 1) := by decide +kernel
theorem dX8_isWithin_7 : decode cX8_isWithin 7 = .ok (.if_icmp .gt 7, 3) := by decide +kernel
theorem dX8_isWithin_10 : decode cX8_isWithin 10 = .ok (.iconst 1, 1) := by decide +kernel
theorem dX8_isWithin_11 : decode cX8_isWithin 11 = .ok (.goto 4, 3) := by decide +kernel
theorem dX8_isWithin_14 : decode cX8_isWithin 14 = .ok (.iconst 0, 1) := by decide +kernel
theorem dX8_isWithin_15 : decode cX8_isWithin 15 = .ok (.ireturn, 1) := by decide +kernel
theorem dX8_needItem_0 : decode cX8_needItem 0 = .ok (.iload_n 0, 1) := by decide +kernel
theorem dX8_needItem_1 : decode cX8_needItem 1 = .ok (.ifCond .eq 7, 3) := by decide +kernel
theorem dX8_needItem_4 : decode cX8_needItem 4 = .ok (.iconst 0, 1) := by decide +kernel
theorem dX8_needItem_5 : decode cX8_needItem 5 = .ok (.goto 4, 3) := by decide +kernel
theorem dX8_needItem_8 : decode cX8_needItem 8 = .ok (.iconst 1, 1) := by decide +kernel
theorem dX8_needItem_9 : decode cX8_needItem 9 = .ok (.invokestatic 100, 3) := by decide +kernel
theorem dX8_needItem_12 : decode cX8_needItem 12 = .ok (.return_, 1) := by decide +kernel
theorem dX8_needArgument_0 : decode cX8_needArgument 0 = .ok (.iload_n 0, 1) := by decide +kernel
theorem dX8_needArgument_1 : decode cX8_needArgument 1 = .ok (.ifCond .eq 7, 3) := by decide +kernel
theorem dX8_needArgument_4 : decode cX8_needArgument 4 = .ok (.iconst 0, 1) := by decide +kernel
theorem dX8_needArgument_5 : decode cX8_needArgument 5 = .ok (.goto 4, 3) := by decide +kernel
theorem dX8_needArgument_8 : decode cX8_needArgument 8 = .ok (.iconst 2, 1) := by decide +kernel
theorem dX8_needArgument_9 : decode cX8_needArgument 9 = .ok (.invokestatic 100, 3) := by decide +kernel
theorem dX8_needArgument_12 : decode cX8_needArgument 12 = .ok (.return_, 1) := by decide +kernel
theorem dX8_needState_0 : decode cX8_needState 0 = .ok (.iload_n 0, 1) := by decide +kernel
theorem dX8_needState_1 : decode cX8_needState 1 = .ok (.ifCond .eq 7, 3) := by decide +kernel
theorem dX8_needState_4 : decode cX8_needState 4 = .ok (.iconst 0, 1) := by decide +kernel
theorem dX8_needState_5 : decode cX8_needState 5 = .ok (.goto 4, 3) := by decide +kernel
theorem dX8_needState_8 : decode cX8_needState 8 = .ok (.iconst 3, 1) := by decide +kernel
theorem dX8_needState_9 : decode cX8_needState 9 = .ok (.invokestatic 100, 3) := by decide +kernel
theorem dX8_needState_12 : decode cX8_needState 12 = .ok (.return_, 1) := by decide +kernel
theorem dX8_refuse_0 : decode cX8_refuse 0 = .ok (.iload_n 0, 1) := by decide +kernel
theorem dX8_refuse_1 : decode cX8_refuse 1 = .ok (.iconst 1, 1) := by decide +kernel
theorem dX8_refuse_2 : decode cX8_refuse 2 = .ok (.if_icmp .ne 14, 3) := by decide +kernel
theorem dX8_refuse_5 : decode cX8_refuse 5 = .ok (.new 276, 3) := by decide +kernel
theorem dX8_refuse_8 : decode cX8_refuse 8 = .ok (.dup, 1) := by decide +kernel
theorem dX8_refuse_9 : decode cX8_refuse 9 = .ok (.ldc_w 278, 3) := by decide +kernel
theorem dX8_refuse_12 : decode cX8_refuse 12 = .ok (.invokespecial 280, 3) := by decide +kernel
theorem dX8_refuse_15 : decode cX8_refuse 15 = .ok (.athrow, 1) := by decide +kernel
theorem dX8_refuse_16 : decode cX8_refuse 16 = .ok (.iload_n 0, 1) := by decide +kernel
theorem dX8_refuse_17 : decode cX8_refuse 17 = .ok (.iconst 2, 1) := by decide +kernel
theorem dX8_refuse_18 : decode cX8_refuse 18 = .ok (.if_icmp .ne 14, 3) := by decide +kernel
theorem dX8_refuse_21 : decode cX8_refuse 21 = .ok (.new 283, 3) := by decide +kernel
theorem dX8_refuse_24 : decode cX8_refuse 24 = .ok (.dup, 1) := by decide +kernel
theorem dX8_refuse_25 : decode cX8_refuse 25 = .ok (.ldc_w 285, 3) := by decide +kernel
theorem dX8_refuse_28 : decode cX8_refuse 28 = .ok (.invokespecial 287, 3) := by decide +kernel
theorem dX8_refuse_31 : decode cX8_refuse 31 = .ok (.athrow, 1) := by decide +kernel
theorem dX8_refuse_32 : decode cX8_refuse 32 = .ok (.iload_n 0, 1) := by decide +kernel
theorem dX8_refuse_33 : decode cX8_refuse 33 = .ok (.iconst 3, 1) := by decide +kernel
theorem dX8_refuse_34 : decode cX8_refuse 34 = .ok (.if_icmp .ne 14, 3) := by decide +kernel
theorem dX8_refuse_37 : decode cX8_refuse 37 = .ok (.new 288, 3) := by decide +kernel
theorem dX8_refuse_40 : decode cX8_refuse 40 = .ok (.dup, 1) := by decide +kernel
theorem dX8_refuse_41 : decode cX8_refuse 41 = .ok (.ldc_w 290, 3) := by decide +kernel
theorem dX8_refuse_44 : decode cX8_refuse 44 = .ok (.invokespecial 292, 3) := by decide +kernel
theorem dX8_refuse_47 : decode cX8_refuse 47 = .ok (.athrow, 1) := by decide +kernel
theorem dX8_refuse_48 : decode cX8_refuse 48 = .ok (.return_, 1) := by decide +kernel
theorem dX8_valueAt_0 : decode cX8_valueAt 0 = .ok (.iload_n 1, 1) := by decide +kernel
theorem dX8_valueAt_1 : decode cX8_valueAt 1 = .ok (.ifCond .lt 15, 3) := by decide +kernel
theorem dX8_valueAt_4 : decode cX8_valueAt 4 = .ok (.iload_n 1, 1) := by decide +kernel
theorem dX8_valueAt_5 : decode cX8_valueAt 5 = .ok (.aload_n 0, 1) := by decide +kernel
theorem dX8_valueAt_6 : decode cX8_valueAt 6 = .ok (.arraylength, 1) := by decide +kernel
theorem dX8_valueAt_7 : decode cX8_valueAt 7 = .ok (.if_icmp .ge 9, 3) := by decide +kernel
theorem dX8_valueAt_10 : decode cX8_valueAt 10 = .ok (.aload_n 0, 1) := by decide +kernel
theorem dX8_valueAt_11 : decode cX8_valueAt 11 = .ok (.iload_n 1, 1) := by decide +kernel
theorem dX8_valueAt_12 : decode cX8_valueAt 12 = .ok (.iaload, 1) := by decide +kernel
theorem dX8_valueAt_13 : decode cX8_valueAt 13 = .ok (.goto 4, 3) := by decide +kernel
theorem dX8_valueAt_16 : decode cX8_valueAt 16 = .ok (.iconst 0, 1) := by decide +kernel
theorem dX8_valueAt_17 : decode cX8_valueAt 17 = .ok (.ireturn, 1) := by decide +kernel
theorem dX8_replace_0 : decode cX8_replace 0 = .ok (.iload_n 1, 1) := by decide +kernel
theorem dX8_replace_1 : decode cX8_replace 1 = .ok (.ifCond .lt 9, 3) := by decide +kernel
theorem dX8_replace_4 : decode cX8_replace 4 = .ok (.iload_n 1, 1) := by decide +kernel
theorem dX8_replace_5 : decode cX8_replace 5 = .ok (.aload_n 0, 1) := by decide +kernel
theorem dX8_replace_6 : decode cX8_replace 6 = .ok (.arraylength, 1) := by decide +kernel
theorem dX8_replace_7 : decode cX8_replace 7 = .ok (.if_icmp .lt 5, 3) := by decide +kernel
theorem dX8_replace_10 : decode cX8_replace 10 = .ok (.iconst (-1), 1) := by decide +kernel
theorem dX8_replace_11 : decode cX8_replace 11 = .ok (.ireturn, 1) := by decide +kernel
theorem dX8_replace_12 : decode cX8_replace 12 = .ok (.aload_n 0, 1) := by decide +kernel
theorem dX8_replace_13 : decode cX8_replace 13 = .ok (.iload_n 1, 1) := by decide +kernel
theorem dX8_replace_14 : decode cX8_replace 14 = .ok (.iaload, 1) := by decide +kernel
theorem dX8_replace_15 : decode cX8_replace 15 = .ok (.istore_n 3, 1) := by decide +kernel
theorem dX8_replace_16 : decode cX8_replace 16 = .ok (.aload_n 0, 1) := by decide +kernel
theorem dX8_replace_17 : decode cX8_replace 17 = .ok (.iload_n 1, 1) := by decide +kernel
theorem dX8_replace_18 : decode cX8_replace 18 = .ok (.iload_n 2, 1) := by decide +kernel
theorem dX8_replace_19 : decode cX8_replace 19 = .ok (.iastore, 1) := by decide +kernel
theorem dX8_replace_20 : decode cX8_replace 20 = .ok (.iload_n 3, 1) := by decide +kernel
theorem dX8_replace_21 : decode cX8_replace 21 = .ok (.ireturn, 1) := by decide +kernel
theorem dX8_copyRow_0 : decode cX8_copyRow 0 = .ok (.aload_n 0, 1) := by decide +kernel
theorem dX8_copyRow_1 : decode cX8_copyRow 1 = .ok (.iconst 0, 1) := by decide +kernel
theorem dX8_copyRow_2 : decode cX8_copyRow 2 = .ok (.aload_n 1, 1) := by decide +kernel
theorem dX8_copyRow_3 : decode cX8_copyRow 3 = .ok (.iconst 0, 1) := by decide +kernel
theorem dX8_copyRow_4 : decode cX8_copyRow 4 = .ok (.aload_n 0, 1) := by decide +kernel
theorem dX8_copyRow_5 : decode cX8_copyRow 5 = .ok (.arraylength, 1) := by decide +kernel
theorem dX8_copyRow_6 : decode cX8_copyRow 6 = .ok (.aload_n 1, 1) := by decide +kernel
theorem dX8_copyRow_7 : decode cX8_copyRow 7 = .ok (.arraylength, 1) := by decide +kernel
theorem dX8_copyRow_8 : decode cX8_copyRow 8 = .ok (.invokestatic 293, 3) := by decide +kernel
theorem dX8_copyRow_11 : decode cX8_copyRow 11 = .ok (.invokestatic 298, 3) := by decide +kernel
theorem dX8_copyRow_14 : decode cX8_copyRow 14 = .ok (.return_, 1) := by decide +kernel
theorem dX8_copyLongRow_0 : decode cX8_copyLongRow 0 = .ok (.aload_n 0, 1) := by decide +kernel
theorem dX8_copyLongRow_1 : decode cX8_copyLongRow 1 = .ok (.iconst 0, 1) := by decide +kernel
theorem dX8_copyLongRow_2 : decode cX8_copyLongRow 2 = .ok (.aload_n 1, 1) := by decide +kernel
theorem dX8_copyLongRow_3 : decode cX8_copyLongRow 3 = .ok (.iconst 0, 1) := by decide +kernel
theorem dX8_copyLongRow_4 : decode cX8_copyLongRow 4 = .ok (.aload_n 0, 1) := by decide +kernel
theorem dX8_copyLongRow_5 : decode cX8_copyLongRow 5 = .ok (.arraylength, 1) := by decide +kernel
theorem dX8_copyLongRow_6 : decode cX8_copyLongRow 6 = .ok (.aload_n 1, 1) := by decide +kernel
theorem dX8_copyLongRow_7 : decode cX8_copyLongRow 7 = .ok (.arraylength, 1) := by decide +kernel
theorem dX8_copyLongRow_8 : decode cX8_copyLongRow 8 = .ok (.invokestatic 293, 3) := by decide +kernel
theorem dX8_copyLongRow_11 : decode cX8_copyLongRow 11 = .ok (.invokestatic 298, 3) := by decide +kernel
theorem dX8_copyLongRow_14 : decode cX8_copyLongRow 14 = .ok (.return_, 1) := by decide +kernel
theorem dX8_passFault_0 : decode cX8_passFault 0 = .ok (.iload_n 1, 1) := by decide +kernel
theorem dX8_passFault_1 : decode cX8_passFault 1 = .ok (.iconst 1, 1) := by decide +kernel
theorem dX8_passFault_2 : decode cX8_passFault 2 = .ok (.bipush 48, 2) := by decide +kernel
theorem dX8_passFault_4 : decode cX8_passFault 4 = .ok (.invokestatic 35, 3) := by decide +kernel
theorem dX8_passFault_7 : decode cX8_passFault 7 = .ok (.ifCond .ne 5, 3) := by decide +kernel
theorem dX8_passFault_10 : decode cX8_passFault 10 = .ok (.iconst 2, 1) := by decide +kernel
theorem dX8_passFault_11 : decode cX8_passFault 11 = .ok (.ireturn, 1) := by decide +kernel
theorem dX8_passFault_12 : decode cX8_passFault 12 = .ok (.aload_n 0, 1) := by decide +kernel
theorem dX8_passFault_13 : decode cX8_passFault 13 = .ok (.getfield 10, 3) := by decide +kernel
theorem dX8_passFault_16 : decode cX8_passFault 16 = .ok (.getfield 304, 3) := by decide +kernel
theorem dX8_passFault_19 : decode cX8_passFault 19 = .ok (.iload_n 1, 1) := by decide +kernel
theorem dX8_passFault_20 : decode cX8_passFault 20 = .ok (.iadd, 1) := by decide +kernel
theorem dX8_passFault_21 : decode cX8_passFault 21 = .ok (.sipush 10000, 3) := by decide +kernel
theorem dX8_passFault_24 : decode cX8_passFault 24 = .ok (.if_icmp .le 7, 3) := by decide +kernel
theorem dX8_passFault_27 : decode cX8_passFault 27 = .ok (.iconst 3, 1) := by decide +kernel
theorem dX8_passFault_28 : decode cX8_passFault 28 = .ok (.goto 4, 3) := by decide +kernel
theorem dX8_passFault_31 : decode cX8_passFault 31 = .ok (.iconst 0, 1) := by decide +kernel
theorem dX8_passFault_32 : decode cX8_passFault 32 = .ok (.ireturn, 1) := by decide +kernel
theorem dX8_moveFault_0 : decode cX8_moveFault 0 = .ok (.aload_n 0, 1) := by decide +kernel
theorem dX8_moveFault_1 : decode cX8_moveFault 1 = .ok (.getfield 10, 3) := by decide +kernel
theorem dX8_moveFault_4 : decode cX8_moveFault 4 = .ok (.getfield 43, 3) := by decide +kernel
theorem dX8_moveFault_7 : decode cX8_moveFault 7 = .ok (.iload_n 1, 1) := by decide +kernel
theorem dX8_moveFault_8 : decode cX8_moveFault 8 = .ok (.invokevirtual 62, 3) := by decide +kernel
theorem dX8_moveFault_11 : decode cX8_moveFault 11 = .ok (.ifCond .eq 17, 3) := by decide +kernel
theorem dX8_moveFault_14 : decode cX8_moveFault 14 = .ok (.aload_n 0, 1) := by decide +kernel
theorem dX8_moveFault_15 : decode cX8_moveFault 15 = .ok (.getfield 10, 3) := by decide +kernel
theorem dX8_moveFault_18 : decode cX8_moveFault 18 = .ok (.getfield 43, 3) := by decide +kernel
theorem dX8_moveFault_21 : decode cX8_moveFault 21 = .ok (.iload_n 2, 1) := by decide +kernel
theorem dX8_moveFault_22 : decode cX8_moveFault 22 = .ok (.invokevirtual 62, 3) := by decide +kernel
theorem dX8_moveFault_25 : decode cX8_moveFault 25 = .ok (.ifCond .ne 5, 3) := by decide +kernel
theorem dX8_moveFault_28 : decode cX8_moveFault 28 = .ok (.iconst 1, 1) := by decide +kernel
theorem dX8_moveFault_29 : decode cX8_moveFault 29 = .ok (.ireturn, 1) := by decide +kernel
theorem dX8_moveFault_30 : decode cX8_moveFault 30 = .ok (.iload_n 1, 1) := by decide +kernel
theorem dX8_moveFault_31 : decode cX8_moveFault 31 = .ok (.iload_n 2, 1) := by decide +kernel
theorem dX8_moveFault_32 : decode cX8_moveFault 32 = .ok (.if_icmp .ne 5, 3) := by decide +kernel
theorem dX8_moveFault_35 : decode cX8_moveFault 35 = .ok (.iconst 2, 1) := by decide +kernel
theorem dX8_moveFault_36 : decode cX8_moveFault 36 = .ok (.ireturn, 1) := by decide +kernel
theorem dX8_moveFault_37 : decode cX8_moveFault 37 = .ok (.aload_n 0, 1) := by decide +kernel
theorem dX8_moveFault_38 : decode cX8_moveFault 38 = .ok (.getfield 10, 3) := by decide +kernel
theorem dX8_moveFault_41 : decode cX8_moveFault 41 = .ok (.getfield 43, 3) := by decide +kernel
theorem dX8_moveFault_44 : decode cX8_moveFault 44 = .ok (.iload_n 1, 1) := by decide +kernel
theorem dX8_moveFault_45 : decode cX8_moveFault 45 = .ok (.invokevirtual 307, 3) := by decide +kernel
theorem dX8_moveFault_48 : decode cX8_moveFault 48 = .ok (.ifCond .ne 17, 3) := by decide +kernel
theorem dX8_moveFault_51 : decode cX8_moveFault 51 = .ok (.aload_n 0, 1) := by decide +kernel
theorem dX8_moveFault_52 : decode cX8_moveFault 52 = .ok (.getfield 10, 3) := by decide +kernel
theorem dX8_moveFault_55 : decode cX8_moveFault 55 = .ok (.getfield 43, 3) := by decide +kernel
theorem dX8_moveFault_58 : decode cX8_moveFault 58 = .ok (.iload_n 2, 1) := by decide +kernel
theorem dX8_moveFault_59 : decode cX8_moveFault 59 = .ok (.invokevirtual 310, 3) := by decide +kernel
theorem dX8_moveFault_62 : decode cX8_moveFault 62 = .ok (.ifCond .ne 7, 3) := by decide +kernel
theorem dX8_moveFault_65 : decode cX8_moveFault 65 = .ok (.iconst 3, 1) := by decide +kernel
theorem dX8_moveFault_66 : decode cX8_moveFault 66 = .ok (.goto 4, 3) := by decide +kernel
theorem dX8_moveFault_69 : decode cX8_moveFault 69 = .ok (.iconst 0, 1) := by decide +kernel
theorem dX8_moveFault_70 : decode cX8_moveFault 70 = .ok (.ireturn, 1) := by decide +kernel
theorem dX8_catchFault_0 : decode cX8_catchFault 0 = .ok (.aload_n 0, 1) := by decide +kernel
theorem dX8_catchFault_1 : decode cX8_catchFault 1 = .ok (.getfield 10, 3) := by decide +kernel
theorem dX8_catchFault_4 : decode cX8_catchFault 4 = .ok (.getfield 115, 3) := by decide +kernel
theorem dX8_catchFault_7 : decode cX8_catchFault 7 = .ok (.iload_n 1, 1) := by decide +kernel
theorem dX8_catchFault_8 : decode cX8_catchFault 8 = .ok (.invokevirtual 173, 3) := by decide +kernel
theorem dX8_catchFault_11 : decode cX8_catchFault 11 = .ok (.ifCond .ne 5, 3) := by decide +kernel
theorem dX8_catchFault_14 : decode cX8_catchFault 14 = .ok (.iconst 1, 1) := by decide +kernel
theorem dX8_catchFault_15 : decode cX8_catchFault 15 = .ok (.ireturn, 1) := by decide +kernel
theorem dX8_catchFault_16 : decode cX8_catchFault 16 = .ok (.iload_n 2, 1) := by decide +kernel
theorem dX8_catchFault_17 : decode cX8_catchFault 17 = .ok (.iconst 0, 1) := by decide +kernel
theorem dX8_catchFault_18 : decode cX8_catchFault 18 = .ok (.ldc 114, 2) := by decide +kernel
theorem dX8_catchFault_20 : decode cX8_catchFault 20 = .ok (.invokestatic 35, 3) := by decide +kernel
theorem dX8_catchFault_23 : decode cX8_catchFault 23 = .ok (.ifCond .eq 7, 3) := by decide +kernel
theorem dX8_catchFault_26 : decode cX8_catchFault 26 = .ok (.iconst 0, 1) := by decide +kernel
theorem dX8_catchFault_27 : decode cX8_catchFault 27 = .ok (.goto 4, 3) := by decide +kernel
theorem dX8_catchFault_30 : decode cX8_catchFault 30 = .ok (.iconst 2, 1) := by decide +kernel
theorem dX8_catchFault_31 : decode cX8_catchFault 31 = .ok (.ireturn, 1) := by decide +kernel
theorem dX8_orderFault_0 : decode cX8_orderFault 0 = .ok (.aload_n 0, 1) := by decide +kernel
theorem dX8_orderFault_1 : decode cX8_orderFault 1 = .ok (.getfield 10, 3) := by decide +kernel
theorem dX8_orderFault_4 : decode cX8_orderFault 4 = .ok (.getfield 115, 3) := by decide +kernel
theorem dX8_orderFault_7 : decode cX8_orderFault 7 = .ok (.iload_n 1, 1) := by decide +kernel
theorem dX8_orderFault_8 : decode cX8_orderFault 8 = .ok (.invokevirtual 173, 3) := by decide +kernel
theorem dX8_orderFault_11 : decode cX8_orderFault 11 = .ok (.ifCond .ne 5, 3) := by decide +kernel
theorem dX8_orderFault_14 : decode cX8_orderFault 14 = .ok (.iconst 1, 1) := by decide +kernel
theorem dX8_orderFault_15 : decode cX8_orderFault 15 = .ok (.ireturn, 1) := by decide +kernel
theorem dX8_orderFault_16 : decode cX8_orderFault 16 = .ok (.iload_n 2, 1) := by decide +kernel
theorem dX8_orderFault_17 : decode cX8_orderFault 17 = .ok (.iconst 1, 1) := by decide +kernel
theorem dX8_orderFault_18 : decode cX8_orderFault 18 = .ok (.sipush 9999, 3) := by decide +kernel
theorem dX8_orderFault_21 : decode cX8_orderFault 21 = .ok (.invokestatic 35, 3) := by decide +kernel
theorem dX8_orderFault_24 : decode cX8_orderFault 24 = .ok (.ifCond .eq 14, 3) := by decide +kernel
theorem dX8_orderFault_27 : decode cX8_orderFault 27 = .ok (.iload_n 3, 1) := by decide +kernel
theorem dX8_orderFault_28 : decode cX8_orderFault 28 = .ok (.iconst 1, 1) := by decide +kernel
theorem dX8_orderFault_29 : decode cX8_orderFault 29 = .ok (.sipush 200, 3) := by decide +kernel
theorem dX8_orderFault_32 : decode cX8_orderFault 32 = .ok (.invokestatic 35, 3) := by decide +kernel
theorem dX8_orderFault_35 : decode cX8_orderFault 35 = .ok (.ifCond .ne 5, 3) := by decide +kernel
theorem dX8_orderFault_38 : decode cX8_orderFault 38 = .ok (.iconst 2, 1) := by decide +kernel
theorem dX8_orderFault_39 : decode cX8_orderFault 39 = .ok (.ireturn, 1) := by decide +kernel
theorem dX8_orderFault_40 : decode cX8_orderFault 40 = .ok (.aload_n 0, 1) := by decide +kernel
theorem dX8_orderFault_41 : decode cX8_orderFault 41 = .ok (.getfield 10, 3) := by decide +kernel
theorem dX8_orderFault_44 : decode cX8_orderFault 44 = .ok (.getfield 135, 3) := by decide +kernel
theorem dX8_orderFault_47 : decode cX8_orderFault 47 = .ok (.invokevirtual 313, 3) := by decide +kernel
theorem dX8_orderFault_50 : decode cX8_orderFault 50 = .ok (.ifCond .eq 7, 3) := by decide +kernel
theorem dX8_orderFault_53 : decode cX8_orderFault 53 = .ok (.iconst 3, 1) := by decide +kernel
theorem dX8_orderFault_54 : decode cX8_orderFault 54 = .ok (.goto 4, 3) := by decide +kernel
theorem dX8_orderFault_57 : decode cX8_orderFault 57 = .ok (.iconst 0, 1) := by decide +kernel
theorem dX8_orderFault_58 : decode cX8_orderFault 58 = .ok (.ireturn, 1) := by decide +kernel
theorem dX8_payFault_0 : decode cX8_payFault 0 = .ok (.aload_n 0, 1) := by decide +kernel
theorem dX8_payFault_1 : decode cX8_payFault 1 = .ok (.getfield 10, 3) := by decide +kernel
theorem dX8_payFault_4 : decode cX8_payFault 4 = .ok (.getfield 115, 3) := by decide +kernel
theorem dX8_payFault_7 : decode cX8_payFault 7 = .ok (.iload_n 1, 1) := by decide +kernel
theorem dX8_payFault_8 : decode cX8_payFault 8 = .ok (.invokevirtual 173, 3) := by decide +kernel
theorem dX8_payFault_11 : decode cX8_payFault 11 = .ok (.ifCond .ne 5, 3) := by decide +kernel
theorem dX8_payFault_14 : decode cX8_payFault 14 = .ok (.iconst 1, 1) := by decide +kernel
theorem dX8_payFault_15 : decode cX8_payFault 15 = .ok (.ireturn, 1) := by decide +kernel
theorem dX8_payFault_16 : decode cX8_payFault 16 = .ok (.iload_n 2, 1) := by decide +kernel
theorem dX8_payFault_17 : decode cX8_payFault 17 = .ok (.iconst 1, 1) := by decide +kernel
theorem dX8_payFault_18 : decode cX8_payFault 18 = .ok (.ldc 114, 2) := by decide +kernel
theorem dX8_payFault_20 : decode cX8_payFault 20 = .ok (.invokestatic 35, 3) := by decide +kernel
theorem dX8_payFault_23 : decode cX8_payFault 23 = .ok (.ifCond .ne 5, 3) := by decide +kernel
theorem dX8_payFault_26 : decode cX8_payFault 26 = .ok (.iconst 2, 1) := by decide +kernel
theorem dX8_payFault_27 : decode cX8_payFault 27 = .ok (.ireturn, 1) := by decide +kernel
theorem dX8_payFault_28 : decode cX8_payFault 28 = .ok (.aload_n 0, 1) := by decide +kernel
theorem dX8_payFault_29 : decode cX8_payFault 29 = .ok (.getfield 10, 3) := by decide +kernel
theorem dX8_payFault_32 : decode cX8_payFault 32 = .ok (.getfield 115, 3) := by decide +kernel
theorem dX8_payFault_35 : decode cX8_payFault 35 = .ok (.getfield 316, 3) := by decide +kernel
theorem dX8_payFault_38 : decode cX8_payFault 38 = .ok (.iload_n 1, 1) := by decide +kernel
theorem dX8_payFault_39 : decode cX8_payFault 39 = .ok (.invokestatic 86, 3) := by decide +kernel
theorem dX8_payFault_42 : decode cX8_payFault 42 = .ok (.iload_n 2, 1) := by decide +kernel
theorem dX8_payFault_43 : decode cX8_payFault 43 = .ok (.isub, 1) := by decide +kernel
theorem dX8_payFault_44 : decode cX8_payFault 44 = .ok (.ldc_w 319, 3) := by decide +kernel
theorem dX8_payFault_47 : decode cX8_payFault 47 = .ok (.if_icmp .ge 7, 3) := by decide +kernel
theorem dX8_payFault_50 : decode cX8_payFault 50 = .ok (.iconst 3, 1) := by decide +kernel
theorem dX8_payFault_51 : decode cX8_payFault 51 = .ok (.goto 4, 3) := by decide +kernel
theorem dX8_payFault_54 : decode cX8_payFault 54 = .ok (.iconst 0, 1) := by decide +kernel
theorem dX8_payFault_55 : decode cX8_payFault 55 = .ok (.ireturn, 1) := by decide +kernel
theorem dX8_meltedWith_0 : decode cX8_meltedWith 0 = .ok (.aload_n 0, 1) := by decide +kernel
theorem dX8_meltedWith_1 : decode cX8_meltedWith 1 = .ok (.getfield 16, 3) := by decide +kernel
theorem dX8_meltedWith_4 : decode cX8_meltedWith 4 = .ok (.aload_n 0, 1) := by decide +kernel
theorem dX8_meltedWith_5 : decode cX8_meltedWith 5 = .ok (.getfield 10, 3) := by decide +kernel
theorem dX8_meltedWith_8 : decode cX8_meltedWith 8 = .ok (.invokevirtual 219, 3) := by decide +kernel
theorem dX8_meltedWith_11 : decode cX8_meltedWith 11 = .ok (.aload_n 0, 1) := by decide +kernel
theorem dX8_meltedWith_12 : decode cX8_meltedWith 12 = .ok (.getfield 16, 3) := by decide +kernel
theorem dX8_meltedWith_15 : decode cX8_meltedWith 15 = .ok (.getfield 43, 3) := by decide +kernel
theorem dX8_meltedWith_18 : decode cX8_meltedWith 18 = .ok (.getfield 69, 3) := by decide +kernel
theorem dX8_meltedWith_21 : decode cX8_meltedWith 21 = .ok (.iload_n 1, 1) := by decide +kernel
theorem dX8_meltedWith_22 : decode cX8_meltedWith 22 = .ok (.iload_n 2, 1) := by decide +kernel
theorem dX8_meltedWith_23 : decode cX8_meltedWith 23 = .ok (.invokestatic 73, 3) := by decide +kernel
theorem dX8_meltedWith_26 : decode cX8_meltedWith 26 = .ok (.pop, 1) := by decide +kernel
theorem dX8_meltedWith_27 : decode cX8_meltedWith 27 = .ok (.aload_n 0, 1) := by decide +kernel
theorem dX8_meltedWith_28 : decode cX8_meltedWith 28 = .ok (.getfield 16, 3) := by decide +kernel
theorem dX8_meltedWith_31 : decode cX8_meltedWith 31 = .ok (.iload_n 3, 1) := by decide +kernel
theorem dX8_meltedWith_32 : decode cX8_meltedWith 32 = .ok (.invokevirtual 111, 3) := by decide +kernel
theorem dX8_meltedWith_35 : decode cX8_meltedWith 35 = .ok (.pop, 1) := by decide +kernel
theorem dX8_meltedWith_36 : decode cX8_meltedWith 36 = .ok (.aload_n 0, 1) := by decide +kernel
theorem dX8_meltedWith_37 : decode cX8_meltedWith 37 = .ok (.getfield 16, 3) := by decide +kernel
theorem dX8_meltedWith_40 : decode cX8_meltedWith 40 = .ok (.getfield 43, 3) := by decide +kernel
theorem dX8_meltedWith_43 : decode cX8_meltedWith 43 = .ok (.invokevirtual 320, 3) := by decide +kernel
theorem dX8_meltedWith_46 : decode cX8_meltedWith 46 = .ok (.aload_n 0, 1) := by decide +kernel
theorem dX8_meltedWith_47 : decode cX8_meltedWith 47 = .ok (.getfield 10, 3) := by decide +kernel
theorem dX8_meltedWith_50 : decode cX8_meltedWith 50 = .ok (.getfield 43, 3) := by decide +kernel
theorem dX8_meltedWith_53 : decode cX8_meltedWith 53 = .ok (.invokevirtual 320, 3) := by decide +kernel
theorem dX8_meltedWith_56 : decode cX8_meltedWith 56 = .ok (.isub, 1) := by decide +kernel
theorem dX8_meltedWith_57 : decode cX8_meltedWith 57 = .ok (.ireturn, 1) := by decide +kernel
