theorem dJ9_min_7cf53_0 : decode cJ9_min_7cf53 0 = .ok (.iload_n 0, 1) := by decide +kernel
theorem dJ9_min_7cf53_1 : decode cJ9_min_7cf53 1 = .ok (.iload_n 1, 1) := by decide +kernel
theorem dJ9_min_7cf53_2 : decode cJ9_min_7cf53 2 = .ok (.if_icmp .gt 7, 3) := by decide +kernel
theorem dJ9_min_7cf53_5 : decode cJ9_min_7cf53 5 = .ok (.iload_n 0, 1) := by decide +kernel
theorem dJ9_min_7cf53_6 : decode cJ9_min_7cf53 6 = .ok (.goto 4, 3) := by decide +kernel
theorem dJ9_min_7cf53_9 : decode cJ9_min_7cf53 9 = .ok (.iload_n 1, 1) := by decide +kernel
theorem dJ9_min_7cf53_10 : decode cJ9_min_7cf53 10 = .ok (.ireturn, 1) := by decide +kernel
theorem dL_cell_0 : decode cL_cell 0 = .ok (.iload_n 1, 1) := by decide +kernel
theorem dL_cell_1 : decode cL_cell 1 = .ok (.aload_n 0, 1) := by decide +kernel
theorem dL_cell_2 : decode cL_cell 2 = .ok (.arraylength, 1) := by decide +kernel
theorem dL_cell_3 : decode cL_cell 3 = .ok (.if_icmp .ge 9, 3) := by decide +kernel
theorem dL_cell_6 : decode cL_cell 6 = .ok (.aload_n 0, 1) := by decide +kernel
theorem dL_cell_7 : decode cL_cell 7 = .ok (.iload_n 1, 1) := by decide +kernel
theorem dL_cell_8 : decode cL_cell 8 = .ok (.iaload, 1) := by decide +kernel
theorem dL_cell_9 : decode cL_cell 9 = .ok (.goto 9, 3) := by decide +kernel
theorem dL_cell_12 : decode cL_cell 12 = .ok (.ldc 7, 2) := by decide +kernel
theorem dL_cell_14 : decode cL_cell 14 = .ok (.iload_n 1, 1) := by decide +kernel
theorem dL_cell_15 : decode cL_cell 15 = .ok (.iconst 1, 1) := by decide +kernel
theorem dL_cell_16 : decode cL_cell 16 = .ok (.iadd, 1) := by decide +kernel
theorem dL_cell_17 : decode cL_cell 17 = .ok (.imul, 1) := by decide +kernel
theorem dL_cell_18 : decode cL_cell 18 = .ok (.ireturn, 1) := by decide +kernel
theorem dL_low_0 : decode cL_low 0 = .ok (.iload_n 0, 1) := by decide +kernel
theorem dL_low_1 : decode cL_low 1 = .ok (.ldc 8, 2) := by decide +kernel
theorem dL_low_3 : decode cL_low 3 = .ok (.iand, 1) := by decide +kernel
theorem dL_low_4 : decode cL_low 4 = .ok (.iload_n 1, 1) := by decide +kernel
theorem dL_low_5 : decode cL_low 5 = .ok (.irem, 1) := by decide +kernel
theorem dL_low_6 : decode cL_low 6 = .ok (.ireturn, 1) := by decide +kernel
theorem dL_addSilo_0 : decode cL_addSilo 0 = .ok (.aload_n 0, 1) := by decide +kernel
theorem dL_addSilo_1 : decode cL_addSilo 1 = .ok (.iload_n 1, 1) := by decide +kernel
theorem dL_addSilo_2 : decode cL_addSilo 2 = .ok (.iload_n 2, 1) := by decide +kernel
theorem dL_addSilo_3 : decode cL_addSilo 3 = .ok (.iload_n 3, 1) := by decide +kernel
theorem dL_addSilo_4 : decode cL_addSilo 4 = .ok (.invokevirtual 9, 3) := by decide +kernel
theorem dL_addSilo_7 : decode cL_addSilo 7 = .ok (.ireturn, 1) := by decide +kernel
theorem dL_addSilo_8 : decode cL_addSilo 8 = .ok (.astore 4, 2) := by decide +kernel
theorem dL_addSilo_10 : decode cL_addSilo 10 = .ok (.ldc 17, 2) := by decide +kernel
theorem dL_addSilo_12 : decode cL_addSilo 12 = .ok (.ireturn, 1) := by decide +kernel
theorem dL_addSilo_13 : decode cL_addSilo 13 = .ok (.astore 4, 2) := by decide +kernel
theorem dL_addSilo_15 : decode cL_addSilo 15 = .ok (.ldc 20, 2) := by decide +kernel
theorem dL_addSilo_17 : decode cL_addSilo 17 = .ok (.ireturn, 1) := by decide +kernel
theorem dL_setRule_0 : decode cL_setRule 0 = .ok (.aload_n 0, 1) := by decide +kernel
theorem dL_setRule_1 : decode cL_setRule 1 = .ok (.iload_n 1, 1) := by decide +kernel
theorem dL_setRule_2 : decode cL_setRule 2 = .ok (.iload_n 2, 1) := by decide +kernel
theorem dL_setRule_3 : decode cL_setRule 3 = .ok (.invokevirtual 21, 3) := by decide +kernel
theorem dL_setRule_6 : decode cL_setRule 6 = .ok (.ireturn, 1) := by decide +kernel
theorem dL_setRule_7 : decode cL_setRule 7 = .ok (.astore_n 3, 1) := by decide +kernel
theorem dL_setRule_8 : decode cL_setRule 8 = .ok (.ldc 27, 2) := by decide +kernel
theorem dL_setRule_10 : decode cL_setRule 10 = .ok (.ireturn, 1) := by decide +kernel
theorem dL_setRule_11 : decode cL_setRule 11 = .ok (.astore_n 3, 1) := by decide +kernel
theorem dL_setRule_12 : decode cL_setRule 12 = .ok (.ldc 17, 2) := by decide +kernel
theorem dL_setRule_14 : decode cL_setRule 14 = .ok (.ireturn, 1) := by decide +kernel
theorem dL_setStrength_0 : decode cL_setStrength 0 = .ok (.aload_n 0, 1) := by decide +kernel
theorem dL_setStrength_1 : decode cL_setStrength 1 = .ok (.iload_n 1, 1) := by decide +kernel
theorem dL_setStrength_2 : decode cL_setStrength 2 = .ok (.iload_n 2, 1) := by decide +kernel
theorem dL_setStrength_3 : decode cL_setStrength 3 = .ok (.invokevirtual 28, 3) := by decide +kernel
theorem dL_setStrength_6 : decode cL_setStrength 6 = .ok (.ireturn, 1) := by decide +kernel
theorem dL_setStrength_7 : decode cL_setStrength 7 = .ok (.astore_n 3, 1) := by decide +kernel
theorem dL_setStrength_8 : decode cL_setStrength 8 = .ok (.ldc 27, 2) := by decide +kernel
theorem dL_setStrength_10 : decode cL_setStrength 10 = .ok (.ireturn, 1) := by decide +kernel
theorem dL_setStrength_11 : decode cL_setStrength 11 = .ok (.astore_n 3, 1) := by decide +kernel
theorem dL_setStrength_12 : decode cL_setStrength 12 = .ok (.ldc 17, 2) := by decide +kernel
theorem dL_setStrength_14 : decode cL_setStrength 14 = .ok (.ireturn, 1) := by decide +kernel
theorem dL_setTemperature_0 : decode cL_setTemperature 0 = .ok (.aload_n 0, 1) := by decide +kernel
theorem dL_setTemperature_1 : decode cL_setTemperature 1 = .ok (.iload_n 1, 1) := by decide +kernel
theorem dL_setTemperature_2 : decode cL_setTemperature 2 = .ok (.iload_n 2, 1) := by decide +kernel
theorem dL_setTemperature_3 : decode cL_setTemperature 3 = .ok (.invokevirtual 31, 3) := by decide +kernel
theorem dL_setTemperature_6 : decode cL_setTemperature 6 = .ok (.ireturn, 1) := by decide +kernel
theorem dL_setTemperature_7 : decode cL_setTemperature 7 = .ok (.astore_n 3, 1) := by decide +kernel
theorem dL_setTemperature_8 : decode cL_setTemperature 8 = .ok (.ldc 27, 2) := by decide +kernel
theorem dL_setTemperature_10 : decode cL_setTemperature 10 = .ok (.ireturn, 1) := by decide +kernel
theorem dL_setTemperature_11 : decode cL_setTemperature 11 = .ok (.astore_n 3, 1) := by decide +kernel
theorem dL_setTemperature_12 : decode cL_setTemperature 12 = .ok (.ldc 17, 2) := by decide +kernel
theorem dL_setTemperature_14 : decode cL_setTemperature 14 = .ok (.ireturn, 1) := by decide +kernel
theorem dL_set_0 : decode cL_set 0 = .ok (.aload_n 0, 1) := by decide +kernel
theorem dL_set_1 : decode cL_set 1 = .ok (.iload_n 1, 1) := by decide +kernel
theorem dL_set_2 : decode cL_set 2 = .ok (.iload_n 2, 1) := by decide +kernel
theorem dL_set_3 : decode cL_set 3 = .ok (.invokevirtual 34, 3) := by decide +kernel
theorem dL_set_6 : decode cL_set 6 = .ok (.ireturn, 1) := by decide +kernel
theorem dL_set_7 : decode cL_set 7 = .ok (.astore_n 3, 1) := by decide +kernel
theorem dL_set_8 : decode cL_set 8 = .ok (.ldc 27, 2) := by decide +kernel
theorem dL_set_10 : decode cL_set 10 = .ok (.ireturn, 1) := by decide +kernel
theorem dL_set_11 : decode cL_set 11 = .ok (.astore_n 3, 1) := by decide +kernel
theorem dL_set_12 : decode cL_set 12 = .ok (.ldc 17, 2) := by decide +kernel
theorem dL_set_14 : decode cL_set 14 = .ok (.ireturn, 1) := by decide +kernel
theorem dL_move_0 : decode cL_move 0 = .ok (.aload_n 0, 1) := by decide +kernel
theorem dL_move_1 : decode cL_move 1 = .ok (.iload_n 1, 1) := by decide +kernel
theorem dL_move_2 : decode cL_move 2 = .ok (.iload_n 2, 1) := by decide +kernel
theorem dL_move_3 : decode cL_move 3 = .ok (.invokevirtual 37, 3) := by decide +kernel
theorem dL_move_6 : decode cL_move 6 = .ok (.ireturn, 1) := by decide +kernel
theorem dL_move_7 : decode cL_move 7 = .ok (.astore_n 3, 1) := by decide +kernel
theorem dL_move_8 : decode cL_move 8 = .ok (.ldc 27, 2) := by decide +kernel
theorem dL_move_10 : decode cL_move 10 = .ok (.ireturn, 1) := by decide +kernel
theorem dL_move_11 : decode cL_move 11 = .ok (.astore_n 3, 1) := by decide +kernel
theorem dL_move_12 : decode cL_move 12 = .ok (.ldc 17, 2) := by decide +kernel
theorem dL_move_14 : decode cL_move 14 = .ok (.ireturn, 1) := by decide +kernel
theorem dL_move_15 : decode cL_move 15 = .ok (.astore_n 3, 1) := by decide +kernel
theorem dL_move_16 : decode cL_move 16 = .ok (.ldc 20, 2) := by decide +kernel
theorem dL_move_18 : decode cL_move 18 = .ok (.ireturn, 1) := by decide +kernel
theorem dL_pass_0 : decode cL_pass 0 = .ok (.aload_n 0, 1) := by decide +kernel
theorem dL_pass_1 : decode cL_pass 1 = .ok (.iload_n 1, 1) := by decide +kernel
theorem dL_pass_2 : decode cL_pass 2 = .ok (.invokevirtual 40, 3) := by decide +kernel
theorem dL_pass_5 : decode cL_pass 5 = .ok (.ireturn, 1) := by decide +kernel
theorem dL_pass_6 : decode cL_pass 6 = .ok (.astore_n 2, 1) := by decide +kernel
theorem dL_pass_7 : decode cL_pass 7 = .ok (.ldc 17, 2) := by decide +kernel
theorem dL_pass_9 : decode cL_pass 9 = .ok (.ireturn, 1) := by decide +kernel
theorem dL_pass_10 : decode cL_pass 10 = .ok (.astore_n 2, 1) := by decide +kernel
theorem dL_pass_11 : decode cL_pass 11 = .ok (.ldc 20, 2) := by decide +kernel
theorem dL_pass_13 : decode cL_pass 13 = .ok (.ireturn, 1) := by decide +kernel
theorem dL_addBoat_0 : decode cL_addBoat 0 = .ok (.aload_n 0, 1) := by decide +kernel
theorem dL_addBoat_1 : decode cL_addBoat 1 = .ok (.iload_n 1, 1) := by decide +kernel
theorem dL_addBoat_2 : decode cL_addBoat 2 = .ok (.invokevirtual 44, 3) := by decide +kernel
theorem dL_addBoat_5 : decode cL_addBoat 5 = .ok (.ireturn, 1) := by decide +kernel
theorem dL_addBoat_6 : decode cL_addBoat 6 = .ok (.astore_n 2, 1) := by decide +kernel
theorem dL_addBoat_7 : decode cL_addBoat 7 = .ok (.ldc 17, 2) := by decide +kernel
theorem dL_addBoat_9 : decode cL_addBoat 9 = .ok (.ireturn, 1) := by decide +kernel
theorem dL_addBoat_10 : decode cL_addBoat 10 = .ok (.astore_n 2, 1) := by decide +kernel
theorem dL_addBoat_11 : decode cL_addBoat 11 = .ok (.ldc 20, 2) := by decide +kernel
theorem dL_addBoat_13 : decode cL_addBoat 13 = .ok (.ireturn, 1) := by decide +kernel
theorem dL_setCatch_0 : decode cL_setCatch 0 = .ok (.aload_n 0, 1) := by decide +kernel
theorem dL_setCatch_1 : decode cL_setCatch 1 = .ok (.iload_n 1, 1) := by decide +kernel
theorem dL_setCatch_2 : decode cL_setCatch 2 = .ok (.iload_n 2, 1) := by decide +kernel
theorem dL_setCatch_3 : decode cL_setCatch 3 = .ok (.invokevirtual 47, 3) := by decide +kernel
theorem dL_setCatch_6 : decode cL_setCatch 6 = .ok (.ireturn, 1) := by decide +kernel
theorem dL_setCatch_7 : decode cL_setCatch 7 = .ok (.astore_n 3, 1) := by decide +kernel
theorem dL_setCatch_8 : decode cL_setCatch 8 = .ok (.ldc 27, 2) := by decide +kernel
theorem dL_setCatch_10 : decode cL_setCatch 10 = .ok (.ireturn, 1) := by decide +kernel
theorem dL_setCatch_11 : decode cL_setCatch 11 = .ok (.astore_n 3, 1) := by decide +kernel
theorem dL_setCatch_12 : decode cL_setCatch 12 = .ok (.ldc 17, 2) := by decide +kernel
theorem dL_setCatch_14 : decode cL_setCatch 14 = .ok (.ireturn, 1) := by decide +kernel
theorem dL_order_0 : decode cL_order 0 = .ok (.aload_n 0, 1) := by decide +kernel
theorem dL_order_1 : decode cL_order 1 = .ok (.iload_n 1, 1) := by decide +kernel
theorem dL_order_2 : decode cL_order 2 = .ok (.iload_n 2, 1) := by decide +kernel
theorem dL_order_3 : decode cL_order 3 = .ok (.iload_n 3, 1) := by decide +kernel
theorem dL_order_4 : decode cL_order 4 = .ok (.iload 4, 2) := by decide +kernel
theorem dL_order_6 : decode cL_order 6 = .ok (.invokevirtual 50, 3) := by decide +kernel
theorem dL_order_9 : decode cL_order 9 = .ok (.ireturn, 1) := by decide +kernel
theorem dL_order_10 : decode cL_order 10 = .ok (.astore 5, 2) := by decide +kernel
theorem dL_order_12 : decode cL_order 12 = .ok (.ldc 27, 2) := by decide +kernel
theorem dL_order_14 : decode cL_order 14 = .ok (.ireturn, 1) := by decide +kernel
theorem dL_order_15 : decode cL_order 15 = .ok (.astore 5, 2) := by decide +kernel
theorem dL_order_17 : decode cL_order 17 = .ok (.ldc 17, 2) := by decide +kernel
theorem dL_order_19 : decode cL_order 19 = .ok (.ireturn, 1) := by decide +kernel
theorem dL_order_20 : decode cL_order 20 = .ok (.astore 5, 2) := by decide +kernel
theorem dL_order_22 : decode cL_order 22 = .ok (.ldc 20, 2) := by decide +kernel
theorem dL_order_24 : decode cL_order 24 = .ok (.ireturn, 1) := by decide +kernel
theorem dL_cancel_0 : decode cL_cancel 0 = .ok (.aload_n 0, 1) := by decide +kernel
theorem dL_cancel_1 : decode cL_cancel 1 = .ok (.iload_n 1, 1) := by decide +kernel
theorem dL_cancel_2 : decode cL_cancel 2 = .ok (.invokevirtual 54, 3) := by decide +kernel
theorem dL_cancel_5 : decode cL_cancel 5 = .ok (.ireturn, 1) := by decide +kernel
theorem dL_cancel_6 : decode cL_cancel 6 = .ok (.astore_n 2, 1) := by decide +kernel
theorem dL_cancel_7 : decode cL_cancel 7 = .ok (.ldc 27, 2) := by decide +kernel
theorem dL_cancel_9 : decode cL_cancel 9 = .ok (.ireturn, 1) := by decide +kernel
theorem dL_cancel_10 : decode cL_cancel 10 = .ok (.astore_n 2, 1) := by decide +kernel
theorem dL_cancel_11 : decode cL_cancel 11 = .ok (.ldc 20, 2) := by decide +kernel
theorem dL_cancel_13 : decode cL_cancel 13 = .ok (.ireturn, 1) := by decide +kernel
theorem dL_pay_0 : decode cL_pay 0 = .ok (.aload_n 0, 1) := by decide +kernel
theorem dL_pay_1 : decode cL_pay 1 = .ok (.iload_n 1, 1) := by decide +kernel
theorem dL_pay_2 : decode cL_pay 2 = .ok (.iload_n 2, 1) := by decide +kernel
theorem dL_pay_3 : decode cL_pay 3 = .ok (.invokevirtual 57, 3) := by decide +kernel
theorem dL_pay_6 : decode cL_pay 6 = .ok (.ireturn, 1) := by decide +kernel
theorem dL_pay_7 : decode cL_pay 7 = .ok (.astore_n 3, 1) := by decide +kernel
theorem dL_pay_8 : decode cL_pay 8 = .ok (.ldc 27, 2) := by decide +kernel
theorem dL_pay_10 : decode cL_pay 10 = .ok (.ireturn, 1) := by decide +kernel
theorem dL_pay_11 : decode cL_pay 11 = .ok (.astore_n 3, 1) := by decide +kernel
theorem dL_pay_12 : decode cL_pay 12 = .ok (.ldc 17, 2) := by decide +kernel
theorem dL_pay_14 : decode cL_pay 14 = .ok (.ireturn, 1) := by decide +kernel
theorem dL_pay_15 : decode cL_pay 15 = .ok (.astore_n 3, 1) := by decide +kernel
theorem dL_pay_16 : decode cL_pay 16 = .ok (.ldc 20, 2) := by decide +kernel
theorem dL_pay_18 : decode cL_pay 18 = .ok (.ireturn, 1) := by decide +kernel
theorem dL_silo_0 : decode cL_silo 0 = .ok (.aload_n 0, 1) := by decide +kernel
theorem dL_silo_1 : decode cL_silo 1 = .ok (.iload_n 1, 1) := by decide +kernel
theorem dL_silo_2 : decode cL_silo 2 = .ok (.iload_n 2, 1) := by decide +kernel
theorem dL_silo_3 : decode cL_silo 3 = .ok (.invokevirtual 60, 3) := by decide +kernel
theorem dL_silo_6 : decode cL_silo 6 = .ok (.ireturn, 1) := by decide +kernel
theorem dL_silo_7 : decode cL_silo 7 = .ok (.astore_n 3, 1) := by decide +kernel
theorem dL_silo_8 : decode cL_silo 8 = .ok (.ldc 27, 2) := by decide +kernel
theorem dL_silo_10 : decode cL_silo 10 = .ok (.ireturn, 1) := by decide +kernel
theorem dL_silo_11 : decode cL_silo 11 = .ok (.astore_n 3, 1) := by decide +kernel
theorem dL_silo_12 : decode cL_silo 12 = .ok (.ldc 17, 2) := by decide +kernel
theorem dL_silo_14 : decode cL_silo 14 = .ok (.ireturn, 1) := by decide +kernel
theorem dL_boat_0 : decode cL_boat 0 = .ok (.aload_n 0, 1) := by decide +kernel
theorem dL_boat_1 : decode cL_boat 1 = .ok (.iload_n 1, 1) := by decide +kernel
theorem dL_boat_2 : decode cL_boat 2 = .ok (.iload_n 2, 1) := by decide +kernel
theorem dL_boat_3 : decode cL_boat 3 = .ok (.invokevirtual 63, 3) := by decide +kernel
theorem dL_boat_6 : decode cL_boat 6 = .ok (.ireturn, 1) := by decide +kernel
theorem dL_boat_7 : decode cL_boat 7 = .ok (.astore_n 3, 1) := by decide +kernel
theorem dL_boat_8 : decode cL_boat 8 = .ok (.ldc 27, 2) := by decide +kernel
theorem dL_boat_10 : decode cL_boat 10 = .ok (.ireturn, 1) := by decide +kernel
theorem dL_boat_11 : decode cL_boat 11 = .ok (.astore_n 3, 1) := by decide +kernel
theorem dL_boat_12 : decode cL_boat 12 = .ok (.ldc 17, 2) := by decide +kernel
theorem dL_boat_14 : decode cL_boat 14 = .ok (.ireturn, 1) := by decide +kernel
theorem dL_orderProperty_0 : decode cL_orderProperty 0 = .ok (.aload_n 0, 1) := by decide +kernel
theorem dL_orderProperty_1 : decode cL_orderProperty 1 = .ok (.iload_n 1, 1) := by decide +kernel
theorem dL_orderProperty_2 : decode cL_orderProperty 2 = .ok (.iload_n 2, 1) := by decide +kernel
theorem dL_orderProperty_3 : decode cL_orderProperty 3 = .ok (.invokevirtual 66, 3) := by decide +kernel
theorem dL_orderProperty_6 : decode cL_orderProperty 6 = .ok (.ireturn, 1) := by decide +kernel
theorem dL_orderProperty_7 : decode cL_orderProperty 7 = .ok (.astore_n 3, 1) := by decide +kernel
theorem dL_orderProperty_8 : decode cL_orderProperty 8 = .ok (.ldc 27, 2) := by decide +kernel
theorem dL_orderProperty_10 : decode cL_orderProperty 10 = .ok (.ireturn, 1) := by decide +kernel
theorem dL_orderProperty_11 : decode cL_orderProperty 11 = .ok (.astore_n 3, 1) := by decide +kernel
theorem dL_orderProperty_12 : decode cL_orderProperty 12 = .ok (.ldc 17, 2) := by decide +kernel
theorem dL_orderProperty_14 : decode cL_orderProperty 14 = .ok (.ireturn, 1) := by decide +kernel
theorem dL_receipt_0 : decode cL_receipt 0 = .ok (.aload_n 0, 1) := by decide +kernel
theorem dL_receipt_1 : decode cL_receipt 1 = .ok (.iload_n 1, 1) := by decide +kernel
theorem dL_receipt_2 : decode cL_receipt 2 = .ok (.iload_n 2, 1) := by decide +kernel
theorem dL_receipt_3 : decode cL_receipt 3 = .ok (.invokevirtual 69, 3) := by decide +kernel
theorem dL_receipt_6 : decode cL_receipt 6 = .ok (.ireturn, 1) := by decide +kernel
theorem dL_receipt_7 : decode cL_receipt 7 = .ok (.astore_n 3, 1) := by decide +kernel
theorem dL_receipt_8 : decode cL_receipt 8 = .ok (.ldc 27, 2) := by decide +kernel
theorem dL_receipt_10 : decode cL_receipt 10 = .ok (.ireturn, 1) := by decide +kernel
theorem dL_receipt_11 : decode cL_receipt 11 = .ok (.astore_n 3, 1) := by decide +kernel
theorem dL_receipt_12 : decode cL_receipt 12 = .ok (.ldc 17, 2) := by decide +kernel
theorem dL_receipt_14 : decode cL_receipt 14 = .ok (.ireturn, 1) := by decide +kernel
theorem dL_massAfter_0 : decode cL_massAfter 0 = .ok (.aload_n 0, 1) := by decide +kernel
theorem dL_massAfter_1 : decode cL_massAfter 1 = .ok (.iload_n 1, 1) := by decide +kernel
theorem dL_massAfter_2 : decode cL_massAfter 2 = .ok (.invokevirtual 72, 3) := by decide +kernel
theorem dL_massAfter_5 : decode cL_massAfter 5 = .ok (.ireturn, 1) := by decide +kernel
theorem dL_massAfter_6 : decode cL_massAfter 6 = .ok (.astore_n 2, 1) := by decide +kernel
theorem dL_massAfter_7 : decode cL_massAfter 7 = .ok (.ldc 17, 2) := by decide +kernel
theorem dL_massAfter_9 : decode cL_massAfter 9 = .ok (.ireturn, 1) := by decide +kernel
theorem dL_completeIn_0 : decode cL_completeIn 0 = .ok (.aload_n 0, 1) := by decide +kernel
theorem dL_completeIn_1 : decode cL_completeIn 1 = .ok (.iload_n 1, 1) := by decide +kernel
theorem dL_completeIn_2 : decode cL_completeIn 2 = .ok (.invokevirtual 75, 3) := by decide +kernel
theorem dL_completeIn_5 : decode cL_completeIn 5 = .ok (.ireturn, 1) := by decide +kernel
theorem dL_completeIn_6 : decode cL_completeIn 6 = .ok (.astore_n 2, 1) := by decide +kernel
theorem dL_completeIn_7 : decode cL_completeIn 7 = .ok (.ldc 27, 2) := by decide +kernel
theorem dL_completeIn_9 : decode cL_completeIn 9 = .ok (.ireturn, 1) := by decide +kernel
theorem dL_completeIn_10 : decode cL_completeIn 10 = .ok (.astore_n 2, 1) := by decide +kernel
theorem dL_completeIn_11 : decode cL_completeIn 11 = .ok (.ldc 20, 2) := by decide +kernel
theorem dL_completeIn_13 : decode cL_completeIn 13 = .ok (.ireturn, 1) := by decide +kernel
theorem dL_bestRule_0 : decode cL_bestRule 0 = .ok (.aload_n 0, 1) := by decide +kernel
theorem dL_bestRule_1 : decode cL_bestRule 1 = .ok (.iload_n 1, 1) := by decide +kernel
theorem dL_bestRule_2 : decode cL_bestRule 2 = .ok (.iload_n 2, 1) := by decide +kernel
theorem dL_bestRule_3 : decode cL_bestRule 3 = .ok (.invokevirtual 78, 3) := by decide +kernel
theorem dL_bestRule_6 : decode cL_bestRule 6 = .ok (.ireturn, 1) := by decide +kernel
theorem dL_bestRule_7 : decode cL_bestRule 7 = .ok (.astore_n 3, 1) := by decide +kernel
theorem dL_bestRule_8 : decode cL_bestRule 8 = .ok (.ldc 27, 2) := by decide +kernel
theorem dL_bestRule_10 : decode cL_bestRule 10 = .ok (.ireturn, 1) := by decide +kernel
theorem dL_bestRule_11 : decode cL_bestRule 11 = .ok (.astore_n 3, 1) := by decide +kernel
theorem dL_bestRule_12 : decode cL_bestRule 12 = .ok (.ldc 17, 2) := by decide +kernel
theorem dL_bestRule_14 : decode cL_bestRule 14 = .ok (.ireturn, 1) := by decide +kernel
theorem dL_quote_0 : decode cL_quote 0 = .ok (.aload_n 0, 1) := by decide +kernel
theorem dL_quote_1 : decode cL_quote 1 = .ok (.iload_n 1, 1) := by decide +kernel
theorem dL_quote_2 : decode cL_quote 2 = .ok (.iload_n 2, 1) := by decide +kernel
theorem dL_quote_3 : decode cL_quote 3 = .ok (.iload_n 3, 1) := by decide +kernel
theorem dL_quote_4 : decode cL_quote 4 = .ok (.invokevirtual 81, 3) := by decide +kernel
theorem dL_quote_7 : decode cL_quote 7 = .ok (.ireturn, 1) := by decide +kernel
theorem dL_quote_8 : decode cL_quote 8 = .ok (.astore 4, 2) := by decide +kernel
theorem dL_quote_10 : decode cL_quote 10 = .ok (.ldc 27, 2) := by decide +kernel
theorem dL_quote_12 : decode cL_quote 12 = .ok (.ireturn, 1) := by decide +kernel
theorem dL_quote_13 : decode cL_quote 13 = .ok (.astore 4, 2) := by decide +kernel
theorem dL_quote_15 : decode cL_quote 15 = .ok (.ldc 17, 2) := by decide +kernel
theorem dL_quote_17 : decode cL_quote 17 = .ok (.ireturn, 1) := by decide +kernel
theorem dL_undo_0 : decode cL_undo 0 = .ok (.aload_n 0, 1) := by decide +kernel
theorem dL_undo_1 : decode cL_undo 1 = .ok (.invokevirtual 84, 3) := by decide +kernel
theorem dL_undo_4 : decode cL_undo 4 = .ok (.ireturn, 1) := by decide +kernel
theorem dL_undo_5 : decode cL_undo 5 = .ok (.astore_n 1, 1) := by decide +kernel
theorem dL_undo_6 : decode cL_undo 6 = .ok (.ldc 20, 2) := by decide +kernel
theorem dL_undo_8 : decode cL_undo 8 = .ok (.ireturn, 1) := by decide +kernel
theorem dL_total_0 : decode cL_total 0 = .ok (.aload_n 0, 1) := by decide +kernel
theorem dL_total_1 : decode cL_total 1 = .ok (.iload_n 1, 1) := by decide +kernel
theorem dL_total_2 : decode cL_total 2 = .ok (.invokevirtual 88, 3) := by decide +kernel
theorem dL_total_5 : decode cL_total 5 = .ok (.lreturn, 1) := by decide +kernel
theorem dL_total_6 : decode cL_total 6 = .ok (.astore_n 2, 1) := by decide +kernel
theorem dL_total_7 : decode cL_total 7 = .ok (.ldc2_w 92, 3) := by decide +kernel
theorem dL_total_10 : decode cL_total 10 = .ok (.lreturn, 1) := by decide +kernel
theorem dL_account_0 : decode cL_account 0 = .ok (.aload_n 0, 1) := by decide +kernel
theorem dL_account_1 : decode cL_account 1 = .ok (.iload_n 1, 1) := by decide +kernel
theorem dL_account_2 : decode cL_account 2 = .ok (.iload_n 2, 1) := by decide +kernel
theorem dL_account_3 : decode cL_account 3 = .ok (.invokevirtual 94, 3) := by decide +kernel
theorem dL_account_6 : decode cL_account 6 = .ok (.lreturn, 1) := by decide +kernel
theorem dL_account_7 : decode cL_account 7 = .ok (.astore_n 3, 1) := by decide +kernel
theorem dL_account_8 : decode cL_account 8 = .ok (.ldc2_w 98, 3) := by decide +kernel
theorem dL_account_11 : decode cL_account 11 = .ok (.lreturn, 1) := by decide +kernel
theorem dL_account_12 : decode cL_account 12 = .ok (.astore_n 3, 1) := by decide +kernel
theorem dL_account_13 : decode cL_account 13 = .ok (.ldc2_w 92, 3) := by decide +kernel
theorem dL_account_16 : decode cL_account 16 = .ok (.lreturn, 1) := by decide +kernel
theorem dL_findAccount_0 : decode cL_findAccount 0 = .ok (.aload_n 0, 1) := by decide +kernel
theorem dL_findAccount_1 : decode cL_findAccount 1 = .ok (.iload_n 1, 1) := by decide +kernel
theorem dL_findAccount_2 : decode cL_findAccount 2 = .ok (.iload_n 2, 1) := by decide +kernel
theorem dL_findAccount_3 : decode cL_findAccount 3 = .ok (.invokevirtual 100, 3) := by decide +kernel
theorem dL_findAccount_6 : decode cL_findAccount 6 = .ok (.ireturn, 1) := by decide +kernel
theorem dL_findAccount_7 : decode cL_findAccount 7 = .ok (.astore_n 3, 1) := by decide +kernel
theorem dL_findAccount_8 : decode cL_findAccount 8 = .ok (.ldc 27, 2) := by decide +kernel
theorem dL_findAccount_10 : decode cL_findAccount 10 = .ok (.ireturn, 1) := by decide +kernel
theorem dL_findAccount_11 : decode cL_findAccount 11 = .ok (.astore_n 3, 1) := by decide +kernel
theorem dL_findAccount_12 : decode cL_findAccount 12 = .ok (.ldc 17, 2) := by decide +kernel
theorem dL_findAccount_14 : decode cL_findAccount 14 = .ok (.ireturn, 1) := by decide +kernel
theorem dL_change_0 : decode cL_change 0 = .ok (.iload_n 2, 1) := by decide +kernel
theorem dL_change_1 : decode cL_change 1 = .ok (.bipush 6, 2) := by decide +kernel
theorem dL_change_3 : decode cL_change 3 = .ok (.invokestatic 103, 3) := by decide +kernel
theorem dL_change_6 : decode cL_change 6 = .ok (.istore_n 3, 1) := by decide +kernel
theorem dL_change_7 : decode cL_change 7 = .ok (.iload_n 2, 1) := by decide +kernel
theorem dL_change_8 : decode cL_change 8 = .ok (.bipush 6, 2) := by decide +kernel
theorem dL_change_10 : decode cL_change 10 = .ok (.idiv, 1) := by decide +kernel
theorem dL_change_11 : decode cL_change 11 = .ok (.bipush 9, 2) := by decide +kernel
theorem dL_change_13 : decode cL_change 13 = .ok (.invokestatic 103, 3) := by decide +kernel
theorem dL_change_16 : decode cL_change 16 = .ok (.istore 4, 2) := by decide +kernel
theorem dL_change_18 : decode cL_change 18 = .ok (.iload_n 2, 1) := by decide +kernel
theorem dL_change_19 : decode cL_change 19 = .ok (.bipush 54, 2) := by decide +kernel
theorem dL_change_21 : decode cL_change 21 = .ok (.idiv, 1) := by decide +kernel
theorem dL_change_22 : decode cL_change 22 = .ok (.sipush 10000, 3) := by decide +kernel
theorem dL_change_25 : decode cL_change 25 = .ok (.invokestatic 103, 3) := by decide +kernel
theorem dL_change_28 : decode cL_change 28 = .ok (.istore 5, 2) := by decide +kernel
theorem dL_change_30 : decode cL_change 30 = .ok (.iload_n 1, 1) := by decide +kernel
theorem dL_change_31 : decode cL_change 31 = .ok (.bipush 20, 2) := by decide +kernel
theorem dL_change_33 : decode cL_change 33 = .ok (.invokestatic 103, 3) := by decide +kernel
theorem dL_change_36 : decode cL_change 36 = .ok (.tableswitch 356 0 16 #[84, 84, 113, 139, 139, 139, 179, 190, 202, 213, 225, 238, 262, 276, 301, 338, 351], 84) := by decide +kernel
theorem dL_change_120 : decode cL_change 120 = .ok (.aload_n 0, 1) := by decide +kernel
theorem dL_change_121 : decode cL_change 121 = .ok (.iload_n 2, 1) := by decide +kernel
theorem dL_change_122 : decode cL_change 122 = .ok (.bipush 31, 2) := by decide +kernel
theorem dL_change_124 : decode cL_change 124 = .ok (.invokestatic 103, 3) := by decide +kernel
theorem dL_change_127 : decode cL_change 127 = .ok (.iload_n 2, 1) := by decide +kernel
theorem dL_change_128 : decode cL_change 128 = .ok (.bipush 31, 2) := by decide +kernel
theorem dL_change_130 : decode cL_change 130 = .ok (.idiv, 1) := by decide +kernel
theorem dL_change_131 : decode cL_change 131 = .ok (.iconst 5, 1) := by decide +kernel
theorem dL_change_132 : decode cL_change 132 = .ok (.invokestatic 103, 3) := by decide +kernel
theorem dL_change_135 : decode cL_change 135 = .ok (.iload_n 2, 1) := by decide +kernel
theorem dL_change_136 : decode cL_change 136 = .ok (.sipush 155, 3) := by decide +kernel
theorem dL_change_139 : decode cL_change 139 = .ok (.idiv, 1) := by decide +kernel
theorem dL_change_140 : decode cL_change 140 = .ok (.bipush 102, 2) := by decide +kernel
theorem dL_change_142 : decode cL_change 142 = .ok (.invokestatic 103, 3) := by decide +kernel
theorem dL_change_145 : decode cL_change 145 = .ok (.invokestatic 108, 3) := by decide +kernel
theorem dL_change_148 : decode cL_change 148 = .ok (.ireturn, 1) := by decide +kernel
theorem dL_change_149 : decode cL_change 149 = .ok (.aload_n 0, 1) := by decide +kernel
theorem dL_change_150 : decode cL_change 150 = .ok (.iload_n 2, 1) := by decide +kernel
theorem dL_change_151 : decode cL_change 151 = .ok (.iconst 3, 1) := by decide +kernel
theorem dL_change_152 : decode cL_change 152 = .ok (.invokestatic 103, 3) := by decide +kernel
theorem dL_change_155 : decode cL_change 155 = .ok (.ifCond .ne 9, 3) := by decide +kernel
theorem dL_change_158 : decode cL_change 158 = .ok (.sipush 5000, 3) := by decide +kernel
theorem dL_change_161 : decode cL_change 161 = .ok (.goto 10, 3) := by decide +kernel
theorem dL_change_164 : decode cL_change 164 = .ok (.iload_n 2, 1) := by decide +kernel
theorem dL_change_165 : decode cL_change 165 = .ok (.sipush 9000, 3) := by decide +kernel
theorem dL_change_168 : decode cL_change 168 = .ok (.invokestatic 103, 3) := by decide +kernel
theorem dL_change_171 : decode cL_change 171 = .ok (.invokestatic 111, 3) := by decide +kernel
theorem dL_change_174 : decode cL_change 174 = .ok (.ireturn, 1) := by decide +kernel
theorem dL_change_175 : decode cL_change 175 = .ok (.aload_n 0, 1) := by decide +kernel
theorem dL_change_176 : decode cL_change 176 = .ok (.iload 4, 2) := by decide +kernel
theorem dL_change_178 : decode cL_change 178 = .ok (.iload 5, 2) := by decide +kernel
theorem dL_change_180 : decode cL_change 180 = .ok (.bipush 8, 2) := by decide +kernel
theorem dL_change_182 : decode cL_change 182 = .ok (.idiv, 1) := by decide +kernel
theorem dL_change_183 : decode cL_change 183 = .ok (.iconst 1, 1) := by decide +kernel
theorem dL_change_184 : decode cL_change 184 = .ok (.iload_n 2, 1) := by decide +kernel
theorem dL_change_185 : decode cL_change 185 = .ok (.sipush 999, 3) := by decide +kernel
theorem dL_change_188 : decode cL_change 188 = .ok (.idiv, 1) := by decide +kernel
theorem dL_change_189 : decode cL_change 189 = .ok (.bipush 30, 2) := by decide +kernel
theorem dL_change_191 : decode cL_change 191 = .ok (.invokestatic 103, 3) := by decide +kernel
theorem dL_change_194 : decode cL_change 194 = .ok (.iadd, 1) := by decide +kernel
theorem dL_change_195 : decode cL_change 195 = .ok (.iload_n 2, 1) := by decide +kernel
theorem dL_change_196 : decode cL_change 196 = .ok (.bipush 31, 2) := by decide +kernel
theorem dL_change_198 : decode cL_change 198 = .ok (.idiv, 1) := by decide +kernel
theorem dL_change_199 : decode cL_change 199 = .ok (.iconst 2, 1) := by decide +kernel
theorem dL_change_200 : decode cL_change 200 = .ok (.invokestatic 103, 3) := by decide +kernel
theorem dL_change_203 : decode cL_change 203 = .ok (.ifCond .ne 7, 3) := by decide +kernel
theorem dL_change_206 : decode cL_change 206 = .ok (.iconst 1, 1) := by decide +kernel
theorem dL_change_207 : decode cL_change 207 = .ok (.goto 4, 3) := by decide +kernel
theorem dL_change_210 : decode cL_change 210 = .ok (.iconst 0, 1) := by decide +kernel
theorem dL_change_211 : decode cL_change 211 = .ok (.invokestatic 114, 3) := by decide +kernel
theorem dL_change_214 : decode cL_change 214 = .ok (.ireturn, 1) := by decide +kernel
theorem dL_change_215 : decode cL_change 215 = .ok (.aload_n 0, 1) := by decide +kernel
theorem dL_change_216 : decode cL_change 216 = .ok (.iload_n 2, 1) := by decide +kernel
theorem dL_change_217 : decode cL_change 217 = .ok (.bipush 8, 2) := by decide +kernel
theorem dL_change_219 : decode cL_change 219 = .ok (.invokestatic 103, 3) := by decide +kernel
theorem dL_change_222 : decode cL_change 222 = .ok (.invokestatic 117, 3) := by decide +kernel
theorem dL_change_225 : decode cL_change 225 = .ok (.ireturn, 1) := by decide +kernel
theorem dL_change_226 : decode cL_change 226 = .ok (.aload_n 0, 1) := by decide +kernel
theorem dL_change_227 : decode cL_change 227 = .ok (.iload 4, 2) := by decide +kernel
theorem dL_change_229 : decode cL_change 229 = .ok (.iload 5, 2) := by decide +kernel
theorem dL_change_231 : decode cL_change 231 = .ok (.bipush 20, 2) := by decide +kernel
theorem dL_change_233 : decode cL_change 233 = .ok (.imul, 1) := by decide +kernel
theorem dL_change_234 : decode cL_change 234 = .ok (.invokestatic 119, 3) := by decide +kernel
theorem dL_change_237 : decode cL_change 237 = .ok (.ireturn, 1) := by decide +kernel
theorem dL_change_238 : decode cL_change 238 = .ok (.aload_n 0, 1) := by decide +kernel
theorem dL_change_239 : decode cL_change 239 = .ok (.iload 4, 2) := by decide +kernel
theorem dL_change_241 : decode cL_change 241 = .ok (.iload 5, 2) := by decide +kernel
theorem dL_change_243 : decode cL_change 243 = .ok (.iconst 3, 1) := by decide +kernel
theorem dL_change_244 : decode cL_change 244 = .ok (.imul, 1) := by decide +kernel
theorem dL_change_245 : decode cL_change 245 = .ok (.invokestatic 122, 3) := by decide +kernel
theorem dL_change_248 : decode cL_change 248 = .ok (.ireturn, 1) := by decide +kernel
theorem dL_change_249 : decode cL_change 249 = .ok (.aload_n 0, 1) := by decide +kernel
theorem dL_change_250 : decode cL_change 250 = .ok (.iload_n 3, 1) := by decide +kernel
theorem dL_change_251 : decode cL_change 251 = .ok (.iload 5, 2) := by decide +kernel
theorem dL_change_253 : decode cL_change 253 = .ok (.iconst 5, 1) := by decide +kernel
theorem dL_change_254 : decode cL_change 254 = .ok (.invokestatic 103, 3) := by decide +kernel
theorem dL_change_257 : decode cL_change 257 = .ok (.invokestatic 124, 3) := by decide +kernel
theorem dL_change_260 : decode cL_change 260 = .ok (.ireturn, 1) := by decide +kernel
theorem dL_change_261 : decode cL_change 261 = .ok (.aload_n 0, 1) := by decide +kernel
theorem dL_change_262 : decode cL_change 262 = .ok (.iload_n 3, 1) := by decide +kernel
theorem dL_change_263 : decode cL_change 263 = .ok (.iload 5, 2) := by decide +kernel
theorem dL_change_265 : decode cL_change 265 = .ok (.bipush 102, 2) := by decide +kernel
theorem dL_change_267 : decode cL_change 267 = .ok (.invokestatic 103, 3) := by decide +kernel
theorem dL_change_270 : decode cL_change 270 = .ok (.invokestatic 126, 3) := by decide +kernel
theorem dL_change_273 : decode cL_change 273 = .ok (.ireturn, 1) := by decide +kernel
theorem dL_change_274 : decode cL_change 274 = .ok (.aload_n 0, 1) := by decide +kernel
theorem dL_change_275 : decode cL_change 275 = .ok (.iload 5, 2) := by decide +kernel
theorem dL_change_277 : decode cL_change 277 = .ok (.bipush 25, 2) := by decide +kernel
theorem dL_change_279 : decode cL_change 279 = .ok (.invokestatic 103, 3) := by decide +kernel
theorem dL_change_282 : decode cL_change 282 = .ok (.iload_n 2, 1) := by decide +kernel
theorem dL_change_283 : decode cL_change 283 = .ok (.bipush 7, 2) := by decide +kernel
theorem dL_change_285 : decode cL_change 285 = .ok (.idiv, 1) := by decide +kernel
theorem dL_change_286 : decode cL_change 286 = .ok (.bipush 67, 2) := by decide +kernel
theorem dL_change_288 : decode cL_change 288 = .ok (.invokestatic 103, 3) := by decide +kernel
theorem dL_change_291 : decode cL_change 291 = .ok (.bipush 21, 2) := by decide +kernel
theorem dL_change_293 : decode cL_change 293 = .ok (.isub, 1) := by decide +kernel
theorem dL_change_294 : decode cL_change 294 = .ok (.invokestatic 128, 3) := by decide +kernel
theorem dL_change_297 : decode cL_change 297 = .ok (.ireturn, 1) := by decide +kernel
theorem dL_change_298 : decode cL_change 298 = .ok (.aload_n 0, 1) := by decide +kernel
theorem dL_change_299 : decode cL_change 299 = .ok (.iconst 0, 1) := by decide +kernel
theorem dL_change_300 : decode cL_change 300 = .ok (.iload 5, 2) := by decide +kernel
theorem dL_change_302 : decode cL_change 302 = .ok (.sipush 202, 3) := by decide +kernel
theorem dL_change_305 : decode cL_change 305 = .ok (.invokestatic 103, 3) := by decide +kernel
theorem dL_change_308 : decode cL_change 308 = .ok (.invokestatic 130, 3) := by decide +kernel
theorem dL_change_311 : decode cL_change 311 = .ok (.ireturn, 1) := by decide +kernel
theorem dL_change_312 : decode cL_change 312 = .ok (.aload_n 0, 1) := by decide +kernel
theorem dL_change_313 : decode cL_change 313 = .ok (.iload_n 2, 1) := by decide +kernel
theorem dL_change_314 : decode cL_change 314 = .ok (.iconst 3, 1) := by decide +kernel
theorem dL_change_315 : decode cL_change 315 = .ok (.invokestatic 103, 3) := by decide +kernel
theorem dL_change_318 : decode cL_change 318 = .ok (.ifCond .ne 7, 3) := by decide +kernel
theorem dL_change_321 : decode cL_change 321 = .ok (.iconst 2, 1) := by decide +kernel
theorem dL_change_322 : decode cL_change 322 = .ok (.goto 4, 3) := by decide +kernel
theorem dL_change_325 : decode cL_change 325 = .ok (.iconst 1, 1) := by decide +kernel
theorem dL_change_326 : decode cL_change 326 = .ok (.iload 5, 2) := by decide +kernel
theorem dL_change_328 : decode cL_change 328 = .ok (.bipush 14, 2) := by decide +kernel
theorem dL_change_330 : decode cL_change 330 = .ok (.invokestatic 103, 3) := by decide +kernel
theorem dL_change_333 : decode cL_change 333 = .ok (.invokestatic 130, 3) := by decide +kernel
theorem dL_change_336 : decode cL_change 336 = .ok (.ireturn, 1) := by decide +kernel
theorem dL_change_337 : decode cL_change 337 = .ok (.aload_n 0, 1) := by decide +kernel
theorem dL_change_338 : decode cL_change 338 = .ok (.iconst 3, 1) := by decide +kernel
theorem dL_change_339 : decode cL_change 339 = .ok (.iload_n 2, 1) := by decide +kernel
theorem dL_change_340 : decode cL_change 340 = .ok (.bipush 6, 2) := by decide +kernel
theorem dL_change_342 : decode cL_change 342 = .ok (.invokestatic 103, 3) := by decide +kernel
theorem dL_change_345 : decode cL_change 345 = .ok (.iadd, 1) := by decide +kernel
theorem dL_change_346 : decode cL_change 346 = .ok (.iload 5, 2) := by decide +kernel
theorem dL_change_348 : decode cL_change 348 = .ok (.iconst 3, 1) := by decide +kernel
theorem dL_change_349 : decode cL_change 349 = .ok (.invokestatic 103, 3) := by decide +kernel
theorem dL_change_352 : decode cL_change 352 = .ok (.ifCond .ne 11, 3) := by decide +kernel
theorem dL_change_355 : decode cL_change 355 = .ok (.iload 5, 2) := by decide +kernel
theorem dL_change_357 : decode cL_change 357 = .ok (.bipush 20, 2) := by decide +kernel
theorem dL_change_359 : decode cL_change 359 = .ok (.imul, 1) := by decide +kernel
theorem dL_change_360 : decode cL_change 360 = .ok (.goto 10, 3) := by decide +kernel
theorem dL_change_363 : decode cL_change 363 = .ok (.iload 5, 2) := by decide +kernel
theorem dL_change_365 : decode cL_change 365 = .ok (.bipush 101, 2) := by decide +kernel
theorem dL_change_367 : decode cL_change 367 = .ok (.invokestatic 103, 3) := by decide +kernel
theorem dL_change_370 : decode cL_change 370 = .ok (.invokestatic 130, 3) := by decide +kernel
theorem dL_change_373 : decode cL_change 373 = .ok (.ireturn, 1) := by decide +kernel
theorem dL_change_374 : decode cL_change 374 = .ok (.aload_n 0, 1) := by decide +kernel
theorem dL_change_375 : decode cL_change 375 = .ok (.iload_n 3, 1) := by decide +kernel
theorem dL_change_376 : decode cL_change 376 = .ok (.iload 4, 2) := by decide +kernel
theorem dL_change_378 : decode cL_change 378 = .ok (.bipush 6, 2) := by decide +kernel
theorem dL_change_380 : decode cL_change 380 = .ok (.invokestatic 103, 3) := by decide +kernel
theorem dL_change_383 : decode cL_change 383 = .ok (.invokestatic 132, 3) := by decide +kernel
theorem dL_change_386 : decode cL_change 386 = .ok (.ireturn, 1) := by decide +kernel
theorem dL_change_387 : decode cL_change 387 = .ok (.aload_n 0, 1) := by decide +kernel
theorem dL_change_388 : decode cL_change 388 = .ok (.invokestatic 134, 3) := by decide +kernel
theorem dL_change_391 : decode cL_change 391 = .ok (.ireturn, 1) := by decide +kernel
theorem dL_change_392 : decode cL_change 392 = .ok (.aload_n 0, 1) := by decide +kernel
theorem dL_change_393 : decode cL_change 393 = .ok (.iconst 1, 1) := by decide +kernel
theorem dL_change_394 : decode cL_change 394 = .ok (.iload_n 2, 1) := by decide +kernel
theorem dL_change_395 : decode cL_change 395 = .ok (.bipush 9, 2) := by decide +kernel
theorem dL_change_397 : decode cL_change 397 = .ok (.invokestatic 103, 3) := by decide +kernel
theorem dL_change_400 : decode cL_change 400 = .ok (.iadd, 1) := by decide +kernel
theorem dL_change_401 : decode cL_change 401 = .ok (.invokestatic 137, 3) := by decide +kernel
theorem dL_change_404 : decode cL_change 404 = .ok (.ireturn, 1) := by decide +kernel
theorem dL_ask_0 : decode cL_ask 0 = .ok (.iload_n 2, 1) := by decide +kernel
theorem dL_ask_1 : decode cL_ask 1 = .ok (.bipush 6, 2) := by decide +kernel
theorem dL_ask_3 : decode cL_ask 3 = .ok (.invokestatic 103, 3) := by decide +kernel
theorem dL_ask_6 : decode cL_ask 6 = .ok (.istore_n 3, 1) := by decide +kernel
theorem dL_ask_7 : decode cL_ask 7 = .ok (.iload_n 1, 1) := by decide +kernel
theorem dL_ask_8 : decode cL_ask 8 = .ok (.bipush 8, 2) := by decide +kernel
theorem dL_ask_10 : decode cL_ask 10 = .ok (.invokestatic 103, 3) := by decide +kernel
theorem dL_ask_13 : decode cL_ask 13 = .ok (.tableswitch 156 0 6 #[43, 54, 65, 82, 106, 126, 146], 43) := by decide +kernel
theorem dL_ask_56 : decode cL_ask 56 = .ok (.aload_n 0, 1) := by decide +kernel
theorem dL_ask_57 : decode cL_ask 57 = .ok (.iload_n 2, 1) := by decide +kernel
theorem dL_ask_58 : decode cL_ask 58 = .ok (.bipush 50, 2) := by decide +kernel
theorem dL_ask_60 : decode cL_ask 60 = .ok (.invokestatic 103, 3) := by decide +kernel
theorem dL_ask_63 : decode cL_ask 63 = .ok (.invokestatic 139, 3) := by decide +kernel
theorem dL_ask_66 : decode cL_ask 66 = .ok (.ireturn, 1) := by decide +kernel
theorem dL_ask_67 : decode cL_ask 67 = .ok (.aload_n 0, 1) := by decide +kernel
theorem dL_ask_68 : decode cL_ask 68 = .ok (.iload_n 2, 1) := by decide +kernel
theorem dL_ask_69 : decode cL_ask 69 = .ok (.bipush 9, 2) := by decide +kernel
theorem dL_ask_71 : decode cL_ask 71 = .ok (.invokestatic 103, 3) := by decide +kernel
theorem dL_ask_74 : decode cL_ask 74 = .ok (.invokestatic 141, 3) := by decide +kernel
theorem dL_ask_77 : decode cL_ask 77 = .ok (.ireturn, 1) := by decide +kernel
theorem dL_ask_78 : decode cL_ask 78 = .ok (.aload_n 0, 1) := by decide +kernel
theorem dL_ask_79 : decode cL_ask 79 = .ok (.iload_n 3, 1) := by decide +kernel
theorem dL_ask_80 : decode cL_ask 80 = .ok (.iconst 1, 1) := by decide +kernel
theorem dL_ask_81 : decode cL_ask 81 = .ok (.iload_n 2, 1) := by decide +kernel
theorem dL_ask_82 : decode cL_ask 82 = .ok (.bipush 6, 2) := by decide +kernel
theorem dL_ask_84 : decode cL_ask 84 = .ok (.idiv, 1) := by decide +kernel
theorem dL_ask_85 : decode cL_ask 85 = .ok (.bipush 25, 2) := by decide +kernel
theorem dL_ask_87 : decode cL_ask 87 = .ok (.invokestatic 103, 3) := by decide +kernel
theorem dL_ask_90 : decode cL_ask 90 = .ok (.iadd, 1) := by decide +kernel
theorem dL_ask_91 : decode cL_ask 91 = .ok (.invokestatic 143, 3) := by decide +kernel
theorem dL_ask_94 : decode cL_ask 94 = .ok (.ireturn, 1) := by decide +kernel
theorem dL_ask_95 : decode cL_ask 95 = .ok (.aload_n 0, 1) := by decide +kernel
theorem dL_ask_96 : decode cL_ask 96 = .ok (.iload_n 3, 1) := by decide +kernel
theorem dL_ask_97 : decode cL_ask 97 = .ok (.iload_n 2, 1) := by decide +kernel
theorem dL_ask_98 : decode cL_ask 98 = .ok (.bipush 6, 2) := by decide +kernel
theorem dL_ask_100 : decode cL_ask 100 = .ok (.idiv, 1) := by decide +kernel
theorem dL_ask_101 : decode cL_ask 101 = .ok (.sipush 10001, 3) := by decide +kernel
theorem dL_ask_104 : decode cL_ask 104 = .ok (.invokestatic 103, 3) := by decide +kernel
theorem dL_ask_107 : decode cL_ask 107 = .ok (.iload_n 2, 1) := by decide +kernel
theorem dL_ask_108 : decode cL_ask 108 = .ok (.bipush 7, 2) := by decide +kernel
theorem dL_ask_110 : decode cL_ask 110 = .ok (.idiv, 1) := by decide +kernel
theorem dL_ask_111 : decode cL_ask 111 = .ok (.iconst 3, 1) := by decide +kernel
theorem dL_ask_112 : decode cL_ask 112 = .ok (.invokestatic 103, 3) := by decide +kernel
theorem dL_ask_115 : decode cL_ask 115 = .ok (.invokestatic 145, 3) := by decide +kernel
theorem dL_ask_118 : decode cL_ask 118 = .ok (.ireturn, 1) := by decide +kernel
theorem dL_ask_119 : decode cL_ask 119 = .ok (.aload_n 0, 1) := by decide +kernel
theorem dL_ask_120 : decode cL_ask 120 = .ok (.iload_n 2, 1) := by decide +kernel
theorem dL_ask_121 : decode cL_ask 121 = .ok (.bipush 9, 2) := by decide +kernel
theorem dL_ask_123 : decode cL_ask 123 = .ok (.invokestatic 103, 3) := by decide +kernel
theorem dL_ask_126 : decode cL_ask 126 = .ok (.iload_n 2, 1) := by decide +kernel
theorem dL_ask_127 : decode cL_ask 127 = .ok (.bipush 9, 2) := by decide +kernel
theorem dL_ask_129 : decode cL_ask 129 = .ok (.idiv, 1) := by decide +kernel
theorem dL_ask_130 : decode cL_ask 130 = .ok (.bipush 8, 2) := by decide +kernel
theorem dL_ask_132 : decode cL_ask 132 = .ok (.invokestatic 103, 3) := by decide +kernel
theorem dL_ask_135 : decode cL_ask 135 = .ok (.invokestatic 147, 3) := by decide +kernel
theorem dL_ask_138 : decode cL_ask 138 = .ok (.ireturn, 1) := by decide +kernel
theorem dL_ask_139 : decode cL_ask 139 = .ok (.aload_n 0, 1) := by decide +kernel
theorem dL_ask_140 : decode cL_ask 140 = .ok (.iload_n 2, 1) := by decide +kernel
theorem dL_ask_141 : decode cL_ask 141 = .ok (.bipush 17, 2) := by decide +kernel
theorem dL_ask_143 : decode cL_ask 143 = .ok (.invokestatic 103, 3) := by decide +kernel
theorem dL_ask_146 : decode cL_ask 146 = .ok (.iload_n 2, 1) := by decide +kernel
theorem dL_ask_147 : decode cL_ask 147 = .ok (.bipush 17, 2) := by decide +kernel
theorem dL_ask_149 : decode cL_ask 149 = .ok (.idiv, 1) := by decide +kernel
theorem dL_ask_150 : decode cL_ask 150 = .ok (.bipush 6, 2) := by decide +kernel
theorem dL_ask_152 : decode cL_ask 152 = .ok (.invokestatic 103, 3) := by decide +kernel
theorem dL_ask_155 : decode cL_ask 155 = .ok (.invokestatic 149, 3) := by decide +kernel
theorem dL_ask_158 : decode cL_ask 158 = .ok (.ireturn, 1) := by decide +kernel
theorem dL_ask_159 : decode cL_ask 159 = .ok (.aload_n 0, 1) := by decide +kernel
theorem dL_ask_160 : decode cL_ask 160 = .ok (.invokevirtual 151, 3) := by decide +kernel
theorem dL_ask_163 : decode cL_ask 163 = .ok (.ldc2_w 155, 3) := by decide +kernel
theorem dL_ask_166 : decode cL_ask 166 = .ok (.dmul, 1) := by decide +kernel
theorem dL_ask_167 : decode cL_ask 167 = .ok (.d2i, 1) := by decide +kernel
theorem dL_ask_168 : decode cL_ask 168 = .ok (.ireturn, 1) := by decide +kernel
theorem dL_ask_169 : decode cL_ask 169 = .ok (.aload_n 0, 1) := by decide +kernel
theorem dL_ask_170 : decode cL_ask 170 = .ok (.invokevirtual 157, 3) := by decide +kernel
theorem dL_ask_173 : decode cL_ask 173 = .ok (.aload_n 0, 1) := by decide +kernel
theorem dL_ask_174 : decode cL_ask 174 = .ok (.invokevirtual 160, 3) := by decide +kernel
theorem dL_ask_177 : decode cL_ask 177 = .ok (.iadd, 1) := by decide +kernel
theorem dL_ask_178 : decode cL_ask 178 = .ok (.ireturn, 1) := by decide +kernel
theorem dL_isWeighed_0 : decode cL_isWeighed 0 = .ok (.lconst 0, 1) := by decide +kernel
theorem dL_isWeighed_1 : decode cL_isWeighed 1 = .ok (.lstore_n 1, 1) := by decide +kernel
theorem dL_isWeighed_2 : decode cL_isWeighed 2 = .ok (.lconst 0, 1) := by decide +kernel
theorem dL_isWeighed_3 : decode cL_isWeighed 3 = .ok (.lstore_n 3, 1) := by decide +kernel
theorem dL_isWeighed_4 : decode cL_isWeighed 4 = .ok (.lconst 0, 1) := by decide +kernel
theorem dL_isWeighed_5 : decode cL_isWeighed 5 = .ok (.lstore 5, 2) := by decide +kernel
theorem dL_isWeighed_7 : decode cL_isWeighed 7 = .ok (.iconst 0, 1) := by decide +kernel
theorem dL_isWeighed_8 : decode cL_isWeighed 8 = .ok (.istore 7, 2) := by decide +kernel
theorem dL_isWeighed_10 : decode cL_isWeighed 10 = .ok (.iload 7, 2) := by decide +kernel
theorem dL_isWeighed_12 : decode cL_isWeighed 12 = .ok (.aload_n 0, 1) := by decide +kernel
theorem dL_isWeighed_13 : decode cL_isWeighed 13 = .ok (.bipush 7, 2) := by decide +kernel
theorem dL_isWeighed_15 : decode cL_isWeighed 15 = .ok (.invokestatic 163, 3) := by decide +kernel
theorem dL_isWeighed_18 : decode cL_isWeighed 18 = .ok (.l2i, 1) := by decide +kernel
theorem dL_isWeighed_19 : decode cL_isWeighed 19 = .ok (.if_icmp .ge 63, 3) := by decide +kernel
theorem dL_isWeighed_22 : decode cL_isWeighed 22 = .ok (.lload_n 1, 1) := by decide +kernel
theorem dL_isWeighed_23 : decode cL_isWeighed 23 = .ok (.aload_n 0, 1) := by decide +kernel
theorem dL_isWeighed_24 : decode cL_isWeighed 24 = .ok (.iload 7, 2) := by decide +kernel
theorem dL_isWeighed_26 : decode cL_isWeighed 26 = .ok (.iconst 4, 1) := by decide +kernel
theorem dL_isWeighed_27 : decode cL_isWeighed 27 = .ok (.invokestatic 166, 3) := by decide +kernel
theorem dL_isWeighed_30 : decode cL_isWeighed 30 = .ok (.i2l, 1) := by decide +kernel
theorem dL_isWeighed_31 : decode cL_isWeighed 31 = .ok (.ladd, 1) := by decide +kernel
theorem dL_isWeighed_32 : decode cL_isWeighed 32 = .ok (.lstore_n 1, 1) := by decide +kernel
theorem dL_isWeighed_33 : decode cL_isWeighed 33 = .ok (.lload_n 3, 1) := by decide +kernel
theorem dL_isWeighed_34 : decode cL_isWeighed 34 = .ok (.aload_n 0, 1) := by decide +kernel
theorem dL_isWeighed_35 : decode cL_isWeighed 35 = .ok (.iload 7, 2) := by decide +kernel
theorem dL_isWeighed_37 : decode cL_isWeighed 37 = .ok (.iconst 5, 1) := by decide +kernel
theorem dL_isWeighed_38 : decode cL_isWeighed 38 = .ok (.invokestatic 166, 3) := by decide +kernel
theorem dL_isWeighed_41 : decode cL_isWeighed 41 = .ok (.i2l, 1) := by decide +kernel
theorem dL_isWeighed_42 : decode cL_isWeighed 42 = .ok (.ladd, 1) := by decide +kernel
theorem dL_isWeighed_43 : decode cL_isWeighed 43 = .ok (.lstore_n 3, 1) := by decide +kernel
theorem dL_isWeighed_44 : decode cL_isWeighed 44 = .ok (.lload 5, 2) := by decide +kernel
theorem dL_isWeighed_46 : decode cL_isWeighed 46 = .ok (.aload_n 0, 1) := by decide +kernel
theorem dL_isWeighed_47 : decode cL_isWeighed 47 = .ok (.iload 7, 2) := by decide +kernel
theorem dL_isWeighed_49 : decode cL_isWeighed 49 = .ok (.iconst 3, 1) := by decide +kernel
theorem dL_isWeighed_50 : decode cL_isWeighed 50 = .ok (.invokestatic 166, 3) := by decide +kernel
theorem dL_isWeighed_53 : decode cL_isWeighed 53 = .ok (.i2l, 1) := by decide +kernel
theorem dL_isWeighed_54 : decode cL_isWeighed 54 = .ok (.ladd, 1) := by decide +kernel
theorem dL_isWeighed_55 : decode cL_isWeighed 55 = .ok (.lstore 5, 2) := by decide +kernel
theorem dL_isWeighed_57 : decode cL_isWeighed 57 = .ok (.aload_n 0, 1) := by decide +kernel
theorem dL_isWeighed_58 : decode cL_isWeighed 58 = .ok (.iload 7, 2) := by decide +kernel
theorem dL_isWeighed_60 : decode cL_isWeighed 60 = .ok (.iconst 3, 1) := by decide +kernel
theorem dL_isWeighed_61 : decode cL_isWeighed 61 = .ok (.invokestatic 166, 3) := by decide +kernel
theorem dL_isWeighed_64 : decode cL_isWeighed 64 = .ok (.aload_n 0, 1) := by decide +kernel
theorem dL_isWeighed_65 : decode cL_isWeighed 65 = .ok (.iload 7, 2) := by decide +kernel
theorem dL_isWeighed_67 : decode cL_isWeighed 67 = .ok (.iconst 0, 1) := by decide +kernel
theorem dL_isWeighed_68 : decode cL_isWeighed 68 = .ok (.invokestatic 166, 3) := by decide +kernel
theorem dL_isWeighed_71 : decode cL_isWeighed 71 = .ok (.if_icmp .le 5, 3) := by decide +kernel
theorem dL_isWeighed_74 : decode cL_isWeighed 74 = .ok (.iconst 0, 1) := by decide +kernel
theorem dL_isWeighed_75 : decode cL_isWeighed 75 = .ok (.ireturn, 1) := by decide +kernel
theorem dL_isWeighed_76 : decode cL_isWeighed 76 = .ok (.iinc 7 1, 3) := by decide +kernel
theorem dL_isWeighed_79 : decode cL_isWeighed 79 = .ok (.goto (-69), 3) := by decide +kernel
theorem dL_isWeighed_82 : decode cL_isWeighed 82 = .ok (.lload_n 1, 1) := by decide +kernel
theorem dL_isWeighed_83 : decode cL_isWeighed 83 = .ok (.aload_n 0, 1) := by decide +kernel
theorem dL_isWeighed_84 : decode cL_isWeighed 84 = .ok (.iconst 4, 1) := by decide +kernel
theorem dL_isWeighed_85 : decode cL_isWeighed 85 = .ok (.invokestatic 163, 3) := by decide +kernel
theorem dL_isWeighed_88 : decode cL_isWeighed 88 = .ok (.lcmp, 1) := by decide +kernel
theorem dL_isWeighed_89 : decode cL_isWeighed 89 = .ok (.ifCond .ne 55, 3) := by decide +kernel
theorem dL_isWeighed_92 : decode cL_isWeighed 92 = .ok (.lload_n 3, 1) := by decide +kernel
theorem dL_isWeighed_93 : decode cL_isWeighed 93 = .ok (.aload_n 0, 1) := by decide +kernel
theorem dL_isWeighed_94 : decode cL_isWeighed 94 = .ok (.iconst 3, 1) := by decide +kernel
theorem dL_isWeighed_95 : decode cL_isWeighed 95 = .ok (.invokestatic 163, 3) := by decide +kernel
theorem dL_isWeighed_98 : decode cL_isWeighed 98 = .ok (.lcmp, 1) := by decide +kernel
theorem dL_isWeighed_99 : decode cL_isWeighed 99 = .ok (.ifCond .ne 45, 3) := by decide +kernel
theorem dL_isWeighed_102 : decode cL_isWeighed 102 = .ok (.lload 5, 2) := by decide +kernel
theorem dL_isWeighed_104 : decode cL_isWeighed 104 = .ok (.aload_n 0, 1) := by decide +kernel
theorem dL_isWeighed_105 : decode cL_isWeighed 105 = .ok (.bipush 6, 2) := by decide +kernel
theorem dL_isWeighed_107 : decode cL_isWeighed 107 = .ok (.invokestatic 163, 3) := by decide +kernel
theorem dL_isWeighed_110 : decode cL_isWeighed 110 = .ok (.lcmp, 1) := by decide +kernel
theorem dL_isWeighed_111 : decode cL_isWeighed 111 = .ok (.ifCond .ne 33, 3) := by decide +kernel
theorem dL_isWeighed_114 : decode cL_isWeighed 114 = .ok (.aload_n 0, 1) := by decide +kernel
theorem dL_isWeighed_115 : decode cL_isWeighed 115 = .ok (.iconst 1, 1) := by decide +kernel
theorem dL_isWeighed_116 : decode cL_isWeighed 116 = .ok (.invokestatic 163, 3) := by decide +kernel
theorem dL_isWeighed_119 : decode cL_isWeighed 119 = .ok (.aload_n 0, 1) := by decide +kernel
theorem dL_isWeighed_120 : decode cL_isWeighed 120 = .ok (.iconst 2, 1) := by decide +kernel
theorem dL_isWeighed_121 : decode cL_isWeighed 121 = .ok (.invokestatic 163, 3) := by decide +kernel
theorem dL_isWeighed_124 : decode cL_isWeighed 124 = .ok (.aload_n 0, 1) := by decide +kernel
theorem dL_isWeighed_125 : decode cL_isWeighed 125 = .ok (.iconst 3, 1) := by decide +kernel
theorem dL_isWeighed_126 : decode cL_isWeighed 126 = .ok (.invokestatic 163, 3) := by decide +kernel
theorem dL_isWeighed_129 : decode cL_isWeighed 129 = .ok (.ladd, 1) := by decide +kernel
theorem dL_isWeighed_130 : decode cL_isWeighed 130 = .ok (.aload_n 0, 1) := by decide +kernel
theorem dL_isWeighed_131 : decode cL_isWeighed 131 = .ok (.iconst 4, 1) := by decide +kernel
theorem dL_isWeighed_132 : decode cL_isWeighed 132 = .ok (.invokestatic 163, 3) := by decide +kernel
theorem dL_isWeighed_135 : decode cL_isWeighed 135 = .ok (.ladd, 1) := by decide +kernel
theorem dL_isWeighed_136 : decode cL_isWeighed 136 = .ok (.lcmp, 1) := by decide +kernel
theorem dL_isWeighed_137 : decode cL_isWeighed 137 = .ok (.ifCond .ne 7, 3) := by decide +kernel
theorem dL_isWeighed_140 : decode cL_isWeighed 140 = .ok (.iconst 1, 1) := by decide +kernel
theorem dL_isWeighed_141 : decode cL_isWeighed 141 = .ok (.goto 4, 3) := by decide +kernel
theorem dL_isWeighed_144 : decode cL_isWeighed 144 = .ok (.iconst 0, 1) := by decide +kernel
theorem dL_isWeighed_145 : decode cL_isWeighed 145 = .ok (.ireturn, 1) := by decide +kernel
theorem dL_isBilled_0 : decode cL_isBilled 0 = .ok (.lconst 0, 1) := by decide +kernel
theorem dL_isBilled_1 : decode cL_isBilled 1 = .ok (.lstore_n 1, 1) := by decide +kernel
theorem dL_isBilled_2 : decode cL_isBilled 2 = .ok (.lconst 0, 1) := by decide +kernel
theorem dL_isBilled_3 : decode cL_isBilled 3 = .ok (.lstore_n 3, 1) := by decide +kernel
theorem dL_isBilled_4 : decode cL_isBilled 4 = .ok (.lconst 0, 1) := by decide +kernel
theorem dL_isBilled_5 : decode cL_isBilled 5 = .ok (.lstore 5, 2) := by decide +kernel
theorem dL_isBilled_7 : decode cL_isBilled 7 = .ok (.iconst 0, 1) := by decide +kernel
theorem dL_isBilled_8 : decode cL_isBilled 8 = .ok (.istore 7, 2) := by decide +kernel
theorem dL_isBilled_10 : decode cL_isBilled 10 = .ok (.iload 7, 2) := by decide +kernel
theorem dL_isBilled_12 : decode cL_isBilled 12 = .ok (.aload_n 0, 1) := by decide +kernel
theorem dL_isBilled_13 : decode cL_isBilled 13 = .ok (.bipush 8, 2) := by decide +kernel
theorem dL_isBilled_15 : decode cL_isBilled 15 = .ok (.invokestatic 163, 3) := by decide +kernel
theorem dL_isBilled_18 : decode cL_isBilled 18 = .ok (.l2i, 1) := by decide +kernel
theorem dL_isBilled_19 : decode cL_isBilled 19 = .ok (.if_icmp .ge 44, 3) := by decide +kernel
theorem dL_isBilled_22 : decode cL_isBilled 22 = .ok (.lload_n 1, 1) := by decide +kernel
theorem dL_isBilled_23 : decode cL_isBilled 23 = .ok (.aload_n 0, 1) := by decide +kernel
theorem dL_isBilled_24 : decode cL_isBilled 24 = .ok (.iload 7, 2) := by decide +kernel
theorem dL_isBilled_26 : decode cL_isBilled 26 = .ok (.iconst 1, 1) := by decide +kernel
theorem dL_isBilled_27 : decode cL_isBilled 27 = .ok (.invokestatic 168, 3) := by decide +kernel
theorem dL_isBilled_30 : decode cL_isBilled 30 = .ok (.i2l, 1) := by decide +kernel
theorem dL_isBilled_31 : decode cL_isBilled 31 = .ok (.ladd, 1) := by decide +kernel
theorem dL_isBilled_32 : decode cL_isBilled 32 = .ok (.lstore_n 1, 1) := by decide +kernel
theorem dL_isBilled_33 : decode cL_isBilled 33 = .ok (.lload_n 3, 1) := by decide +kernel
theorem dL_isBilled_34 : decode cL_isBilled 34 = .ok (.aload_n 0, 1) := by decide +kernel
theorem dL_isBilled_35 : decode cL_isBilled 35 = .ok (.iload 7, 2) := by decide +kernel
theorem dL_isBilled_37 : decode cL_isBilled 37 = .ok (.iconst 2, 1) := by decide +kernel
theorem dL_isBilled_38 : decode cL_isBilled 38 = .ok (.invokestatic 168, 3) := by decide +kernel
theorem dL_isBilled_41 : decode cL_isBilled 41 = .ok (.i2l, 1) := by decide +kernel
theorem dL_isBilled_42 : decode cL_isBilled 42 = .ok (.ladd, 1) := by decide +kernel
theorem dL_isBilled_43 : decode cL_isBilled 43 = .ok (.lstore_n 3, 1) := by decide +kernel
theorem dL_isBilled_44 : decode cL_isBilled 44 = .ok (.lload 5, 2) := by decide +kernel
theorem dL_isBilled_46 : decode cL_isBilled 46 = .ok (.aload_n 0, 1) := by decide +kernel
theorem dL_isBilled_47 : decode cL_isBilled 47 = .ok (.iload 7, 2) := by decide +kernel
theorem dL_isBilled_49 : decode cL_isBilled 49 = .ok (.iconst 3, 1) := by decide +kernel
theorem dL_isBilled_50 : decode cL_isBilled 50 = .ok (.invokestatic 168, 3) := by decide +kernel
theorem dL_isBilled_53 : decode cL_isBilled 53 = .ok (.i2l, 1) := by decide +kernel
theorem dL_isBilled_54 : decode cL_isBilled 54 = .ok (.ladd, 1) := by decide +kernel
theorem dL_isBilled_55 : decode cL_isBilled 55 = .ok (.lstore 5, 2) := by decide +kernel
theorem dL_isBilled_57 : decode cL_isBilled 57 = .ok (.iinc 7 1, 3) := by decide +kernel
theorem dL_isBilled_60 : decode cL_isBilled 60 = .ok (.goto (-50), 3) := by decide +kernel
theorem dL_isBilled_63 : decode cL_isBilled 63 = .ok (.lconst 0, 1) := by decide +kernel
theorem dL_isBilled_64 : decode cL_isBilled 64 = .ok (.lstore 7, 2) := by decide +kernel
theorem dL_isBilled_66 : decode cL_isBilled 66 = .ok (.lconst 0, 1) := by decide +kernel
theorem dL_isBilled_67 : decode cL_isBilled 67 = .ok (.lstore 9, 2) := by decide +kernel
theorem dL_isBilled_69 : decode cL_isBilled 69 = .ok (.iconst 0, 1) := by decide +kernel
theorem dL_isBilled_70 : decode cL_isBilled 70 = .ok (.istore 11, 2) := by decide +kernel
theorem dL_isBilled_72 : decode cL_isBilled 72 = .ok (.iload 11, 2) := by decide +kernel
theorem dL_isBilled_74 : decode cL_isBilled 74 = .ok (.aload_n 0, 1) := by decide +kernel
theorem dL_isBilled_75 : decode cL_isBilled 75 = .ok (.bipush 14, 2) := by decide +kernel
theorem dL_isBilled_77 : decode cL_isBilled 77 = .ok (.invokestatic 163, 3) := by decide +kernel
theorem dL_isBilled_80 : decode cL_isBilled 80 = .ok (.l2i, 1) := by decide +kernel
theorem dL_isBilled_81 : decode cL_isBilled 81 = .ok (.if_icmp .ge 60, 3) := by decide +kernel
theorem dL_isBilled_84 : decode cL_isBilled 84 = .ok (.lload 7, 2) := by decide +kernel
theorem dL_isBilled_86 : decode cL_isBilled 86 = .ok (.aload_n 0, 1) := by decide +kernel
theorem dL_isBilled_87 : decode cL_isBilled 87 = .ok (.iload 11, 2) := by decide +kernel
theorem dL_isBilled_89 : decode cL_isBilled 89 = .ok (.iconst 2, 1) := by decide +kernel
theorem dL_isBilled_90 : decode cL_isBilled 90 = .ok (.invokestatic 170, 3) := by decide +kernel
theorem dL_isBilled_93 : decode cL_isBilled 93 = .ok (.ladd, 1) := by decide +kernel
theorem dL_isBilled_94 : decode cL_isBilled 94 = .ok (.lstore 7, 2) := by decide +kernel
theorem dL_isBilled_96 : decode cL_isBilled 96 = .ok (.lload 9, 2) := by decide +kernel
theorem dL_isBilled_98 : decode cL_isBilled 98 = .ok (.aload_n 0, 1) := by decide +kernel
theorem dL_isBilled_99 : decode cL_isBilled 99 = .ok (.iload 11, 2) := by decide +kernel
theorem dL_isBilled_101 : decode cL_isBilled 101 = .ok (.iconst 3, 1) := by decide +kernel
theorem dL_isBilled_102 : decode cL_isBilled 102 = .ok (.invokestatic 170, 3) := by decide +kernel
theorem dL_isBilled_105 : decode cL_isBilled 105 = .ok (.ladd, 1) := by decide +kernel
theorem dL_isBilled_106 : decode cL_isBilled 106 = .ok (.lstore 9, 2) := by decide +kernel
theorem dL_isBilled_108 : decode cL_isBilled 108 = .ok (.aload_n 0, 1) := by decide +kernel
theorem dL_isBilled_109 : decode cL_isBilled 109 = .ok (.aload_n 0, 1) := by decide +kernel
theorem dL_isBilled_110 : decode cL_isBilled 110 = .ok (.iload 11, 2) := by decide +kernel
theorem dL_isBilled_112 : decode cL_isBilled 112 = .ok (.iconst 0, 1) := by decide +kernel
theorem dL_isBilled_113 : decode cL_isBilled 113 = .ok (.invokestatic 170, 3) := by decide +kernel
theorem dL_isBilled_116 : decode cL_isBilled 116 = .ok (.l2i, 1) := by decide +kernel
theorem dL_isBilled_117 : decode cL_isBilled 117 = .ok (.aload_n 0, 1) := by decide +kernel
theorem dL_isBilled_118 : decode cL_isBilled 118 = .ok (.iload 11, 2) := by decide +kernel
theorem dL_isBilled_120 : decode cL_isBilled 120 = .ok (.iconst 1, 1) := by decide +kernel
theorem dL_isBilled_121 : decode cL_isBilled 121 = .ok (.invokestatic 170, 3) := by decide +kernel
theorem dL_isBilled_124 : decode cL_isBilled 124 = .ok (.l2i, 1) := by decide +kernel
theorem dL_isBilled_125 : decode cL_isBilled 125 = .ok (.invokestatic 173, 3) := by decide +kernel
theorem dL_isBilled_128 : decode cL_isBilled 128 = .ok (.iload 11, 2) := by decide +kernel
theorem dL_isBilled_130 : decode cL_isBilled 130 = .ok (.if_icmp .eq 5, 3) := by decide +kernel
theorem dL_isBilled_133 : decode cL_isBilled 133 = .ok (.iconst 0, 1) := by decide +kernel
theorem dL_isBilled_134 : decode cL_isBilled 134 = .ok (.ireturn, 1) := by decide +kernel
theorem dL_isBilled_135 : decode cL_isBilled 135 = .ok (.iinc 11 1, 3) := by decide +kernel
theorem dL_isBilled_138 : decode cL_isBilled 138 = .ok (.goto (-66), 3) := by decide +kernel
theorem dL_isBilled_141 : decode cL_isBilled 141 = .ok (.lload_n 1, 1) := by decide +kernel
theorem dL_isBilled_142 : decode cL_isBilled 142 = .ok (.aload_n 0, 1) := by decide +kernel
theorem dL_isBilled_143 : decode cL_isBilled 143 = .ok (.bipush 11, 2) := by decide +kernel
theorem dL_isBilled_145 : decode cL_isBilled 145 = .ok (.invokestatic 163, 3) := by decide +kernel
theorem dL_isBilled_148 : decode cL_isBilled 148 = .ok (.aload_n 0, 1) := by decide +kernel
theorem dL_isBilled_149 : decode cL_isBilled 149 = .ok (.bipush 12, 2) := by decide +kernel
theorem dL_isBilled_151 : decode cL_isBilled 151 = .ok (.invokestatic 163, 3) := by decide +kernel
theorem dL_isBilled_154 : decode cL_isBilled 154 = .ok (.lsub, 1) := by decide +kernel
theorem dL_isBilled_155 : decode cL_isBilled 155 = .ok (.lcmp, 1) := by decide +kernel
theorem dL_isBilled_156 : decode cL_isBilled 156 = .ok (.ifCond .ne 48, 3) := by decide +kernel
theorem dL_isBilled_159 : decode cL_isBilled 159 = .ok (.lload_n 3, 1) := by decide +kernel
theorem dL_isBilled_160 : decode cL_isBilled 160 = .ok (.aload_n 0, 1) := by decide +kernel
theorem dL_isBilled_161 : decode cL_isBilled 161 = .ok (.iconst 2, 1) := by decide +kernel
theorem dL_isBilled_162 : decode cL_isBilled 162 = .ok (.invokestatic 163, 3) := by decide +kernel
theorem dL_isBilled_165 : decode cL_isBilled 165 = .ok (.lcmp, 1) := by decide +kernel
theorem dL_isBilled_166 : decode cL_isBilled 166 = .ok (.ifCond .ne 38, 3) := by decide +kernel
theorem dL_isBilled_169 : decode cL_isBilled 169 = .ok (.lload 5, 2) := by decide +kernel
theorem dL_isBilled_171 : decode cL_isBilled 171 = .ok (.aload_n 0, 1) := by decide +kernel
theorem dL_isBilled_172 : decode cL_isBilled 172 = .ok (.bipush 10, 2) := by decide +kernel
theorem dL_isBilled_174 : decode cL_isBilled 174 = .ok (.invokestatic 163, 3) := by decide +kernel
theorem dL_isBilled_177 : decode cL_isBilled 177 = .ok (.lcmp, 1) := by decide +kernel
theorem dL_isBilled_178 : decode cL_isBilled 178 = .ok (.ifCond .ne 26, 3) := by decide +kernel
theorem dL_isBilled_181 : decode cL_isBilled 181 = .ok (.lload 7, 2) := by decide +kernel
theorem dL_isBilled_183 : decode cL_isBilled 183 = .ok (.lload_n 3, 1) := by decide +kernel
theorem dL_isBilled_184 : decode cL_isBilled 184 = .ok (.lcmp, 1) := by decide +kernel
theorem dL_isBilled_185 : decode cL_isBilled 185 = .ok (.ifCond .ne 19, 3) := by decide +kernel
theorem dL_isBilled_188 : decode cL_isBilled 188 = .ok (.lload 9, 2) := by decide +kernel
theorem dL_isBilled_190 : decode cL_isBilled 190 = .ok (.aload_n 0, 1) := by decide +kernel
theorem dL_isBilled_191 : decode cL_isBilled 191 = .ok (.bipush 11, 2) := by decide +kernel
theorem dL_isBilled_193 : decode cL_isBilled 193 = .ok (.invokestatic 163, 3) := by decide +kernel
theorem dL_isBilled_196 : decode cL_isBilled 196 = .ok (.lcmp, 1) := by decide +kernel
theorem dL_isBilled_197 : decode cL_isBilled 197 = .ok (.ifCond .ne 7, 3) := by decide +kernel
theorem dL_isBilled_200 : decode cL_isBilled 200 = .ok (.iconst 1, 1) := by decide +kernel
theorem dL_isBilled_201 : decode cL_isBilled 201 = .ok (.goto 4, 3) := by decide +kernel
theorem dL_isBilled_204 : decode cL_isBilled 204 = .ok (.iconst 0, 1) := by decide +kernel
theorem dL_isBilled_205 : decode cL_isBilled 205 = .ok (.ireturn, 1) := by decide +kernel
theorem dL_areAlike_0 : decode cL_areAlike 0 = .ok (.aload_n 0, 1) := by decide +kernel
theorem dL_areAlike_1 : decode cL_areAlike 1 = .ok (.invokevirtual 151, 3) := by decide +kernel
theorem dL_areAlike_4 : decode cL_areAlike 4 = .ok (.aload_n 1, 1) := by decide +kernel
theorem dL_areAlike_5 : decode cL_areAlike 5 = .ok (.invokevirtual 151, 3) := by decide +kernel
theorem dL_areAlike_8 : decode cL_areAlike 8 = .ok (.dcmp .l, 1) := by decide +kernel
theorem dL_areAlike_9 : decode cL_areAlike 9 = .ok (.ifCond .ne 7, 3) := by decide +kernel
theorem dL_areAlike_12 : decode cL_areAlike 12 = .ok (.iconst 1, 1) := by decide +kernel
theorem dL_areAlike_13 : decode cL_areAlike 13 = .ok (.goto 4, 3) := by decide +kernel
theorem dL_areAlike_16 : decode cL_areAlike 16 = .ok (.iconst 0, 1) := by decide +kernel
theorem dL_areAlike_17 : decode cL_areAlike 17 = .ok (.istore_n 2, 1) := by decide +kernel
theorem dL_areAlike_18 : decode cL_areAlike 18 = .ok (.iconst 0, 1) := by decide +kernel
theorem dL_areAlike_19 : decode cL_areAlike 19 = .ok (.istore_n 3, 1) := by decide +kernel
theorem dL_areAlike_20 : decode cL_areAlike 20 = .ok (.iload_n 3, 1) := by decide +kernel
theorem dL_areAlike_21 : decode cL_areAlike 21 = .ok (.bipush 16, 2) := by decide +kernel
theorem dL_areAlike_23 : decode cL_areAlike 23 = .ok (.if_icmp .ge 33, 3) := by decide +kernel
theorem dL_areAlike_26 : decode cL_areAlike 26 = .ok (.iload_n 2, 1) := by decide +kernel
theorem dL_areAlike_27 : decode cL_areAlike 27 = .ok (.ifCond .eq 21, 3) := by decide +kernel
theorem dL_areAlike_30 : decode cL_areAlike 30 = .ok (.aload_n 0, 1) := by decide +kernel
theorem dL_areAlike_31 : decode cL_areAlike 31 = .ok (.iload_n 3, 1) := by decide +kernel
theorem dL_areAlike_32 : decode cL_areAlike 32 = .ok (.invokestatic 163, 3) := by decide +kernel
theorem dL_areAlike_35 : decode cL_areAlike 35 = .ok (.aload_n 1, 1) := by decide +kernel
theorem dL_areAlike_36 : decode cL_areAlike 36 = .ok (.iload_n 3, 1) := by decide +kernel
theorem dL_areAlike_37 : decode cL_areAlike 37 = .ok (.invokestatic 163, 3) := by decide +kernel
theorem dL_areAlike_40 : decode cL_areAlike 40 = .ok (.lcmp, 1) := by decide +kernel
theorem dL_areAlike_41 : decode cL_areAlike 41 = .ok (.ifCond .ne 7, 3) := by decide +kernel
theorem dL_areAlike_44 : decode cL_areAlike 44 = .ok (.iconst 1, 1) := by decide +kernel
theorem dL_areAlike_45 : decode cL_areAlike 45 = .ok (.goto 4, 3) := by decide +kernel
theorem dL_areAlike_48 : decode cL_areAlike 48 = .ok (.iconst 0, 1) := by decide +kernel
theorem dL_areAlike_49 : decode cL_areAlike 49 = .ok (.istore_n 2, 1) := by decide +kernel
theorem dL_areAlike_50 : decode cL_areAlike 50 = .ok (.iinc 3 1, 3) := by decide +kernel
theorem dL_areAlike_53 : decode cL_areAlike 53 = .ok (.goto (-33), 3) := by decide +kernel
theorem dL_areAlike_56 : decode cL_areAlike 56 = .ok (.iconst 0, 1) := by decide +kernel
theorem dL_areAlike_57 : decode cL_areAlike 57 = .ok (.istore_n 3, 1) := by decide +kernel
theorem dL_areAlike_58 : decode cL_areAlike 58 = .ok (.iload_n 3, 1) := by decide +kernel
theorem dL_areAlike_59 : decode cL_areAlike 59 = .ok (.iconst 5, 1) := by decide +kernel
theorem dL_areAlike_60 : decode cL_areAlike 60 = .ok (.if_icmp .ge 51, 3) := by decide +kernel
theorem dL_areAlike_63 : decode cL_areAlike 63 = .ok (.iload_n 2, 1) := by decide +kernel
theorem dL_areAlike_64 : decode cL_areAlike 64 = .ok (.ifCond .eq 39, 3) := by decide +kernel
theorem dL_areAlike_67 : decode cL_areAlike 67 = .ok (.aload_n 0, 1) := by decide +kernel
theorem dL_areAlike_68 : decode cL_areAlike 68 = .ok (.iconst 0, 1) := by decide +kernel
theorem dL_areAlike_69 : decode cL_areAlike 69 = .ok (.iload_n 3, 1) := by decide +kernel
theorem dL_areAlike_70 : decode cL_areAlike 70 = .ok (.invokestatic 149, 3) := by decide +kernel
theorem dL_areAlike_73 : decode cL_areAlike 73 = .ok (.aload_n 1, 1) := by decide +kernel
theorem dL_areAlike_74 : decode cL_areAlike 74 = .ok (.iconst 0, 1) := by decide +kernel
theorem dL_areAlike_75 : decode cL_areAlike 75 = .ok (.iload_n 3, 1) := by decide +kernel
theorem dL_areAlike_76 : decode cL_areAlike 76 = .ok (.invokestatic 149, 3) := by decide +kernel
theorem dL_areAlike_79 : decode cL_areAlike 79 = .ok (.if_icmp .ne 24, 3) := by decide +kernel
theorem dL_areAlike_82 : decode cL_areAlike 82 = .ok (.aload_n 0, 1) := by decide +kernel
theorem dL_areAlike_83 : decode cL_areAlike 83 = .ok (.iconst 3, 1) := by decide +kernel
theorem dL_areAlike_84 : decode cL_areAlike 84 = .ok (.iload_n 3, 1) := by decide +kernel
theorem dL_areAlike_85 : decode cL_areAlike 85 = .ok (.imul, 1) := by decide +kernel
theorem dL_areAlike_86 : decode cL_areAlike 86 = .ok (.invokestatic 139, 3) := by decide +kernel
theorem dL_areAlike_89 : decode cL_areAlike 89 = .ok (.aload_n 1, 1) := by decide +kernel
theorem dL_areAlike_90 : decode cL_areAlike 90 = .ok (.iconst 3, 1) := by decide +kernel
theorem dL_areAlike_91 : decode cL_areAlike 91 = .ok (.iload_n 3, 1) := by decide +kernel
theorem dL_areAlike_92 : decode cL_areAlike 92 = .ok (.imul, 1) := by decide +kernel
theorem dL_areAlike_93 : decode cL_areAlike 93 = .ok (.invokestatic 139, 3) := by decide +kernel
theorem dL_areAlike_96 : decode cL_areAlike 96 = .ok (.if_icmp .ne 7, 3) := by decide +kernel
theorem dL_areAlike_99 : decode cL_areAlike 99 = .ok (.iconst 1, 1) := by decide +kernel
theorem dL_areAlike_100 : decode cL_areAlike 100 = .ok (.goto 4, 3) := by decide +kernel
theorem dL_areAlike_103 : decode cL_areAlike 103 = .ok (.iconst 0, 1) := by decide +kernel
theorem dL_areAlike_104 : decode cL_areAlike 104 = .ok (.istore_n 2, 1) := by decide +kernel
theorem dL_areAlike_105 : decode cL_areAlike 105 = .ok (.iinc 3 1, 3) := by decide +kernel
theorem dL_areAlike_108 : decode cL_areAlike 108 = .ok (.goto (-50), 3) := by decide +kernel
theorem dL_areAlike_111 : decode cL_areAlike 111 = .ok (.iload_n 2, 1) := by decide +kernel
theorem dL_areAlike_112 : decode cL_areAlike 112 = .ok (.ireturn, 1) := by decide +kernel
theorem dL_law_0 : decode cL_law 0 = .ok (.new 10, 3) := by decide +kernel
theorem dL_law_3 : decode cL_law 3 = .ok (.dup, 1) := by decide +kernel
theorem dL_law_4 : decode cL_law 4 = .ok (.invokespecial 175, 3) := by decide +kernel
theorem dL_law_7 : decode cL_law 7 = .ok (.astore_n 1, 1) := by decide +kernel
theorem dL_law_8 : decode cL_law 8 = .ok (.new 10, 3) := by decide +kernel
theorem dL_law_11 : decode cL_law 11 = .ok (.dup, 1) := by decide +kernel
theorem dL_law_12 : decode cL_law 12 = .ok (.invokespecial 175, 3) := by decide +kernel
theorem dL_law_15 : decode cL_law 15 = .ok (.astore_n 2, 1) := by decide +kernel
theorem dL_law_16 : decode cL_law 16 = .ok (.iconst 0, 1) := by decide +kernel
theorem dL_law_17 : decode cL_law 17 = .ok (.istore_n 3, 1) := by decide +kernel
theorem dL_law_18 : decode cL_law 18 = .ok (.iload_n 3, 1) := by decide +kernel
theorem dL_law_19 : decode cL_law 19 = .ok (.bipush 32, 2) := by decide +kernel
theorem dL_law_21 : decode cL_law 21 = .ok (.if_icmp .ge 74, 3) := by decide +kernel
theorem dL_law_24 : decode cL_law 24 = .ok (.aload_n 0, 1) := by decide +kernel
theorem dL_law_25 : decode cL_law 25 = .ok (.iconst 2, 1) := by decide +kernel
theorem dL_law_26 : decode cL_law 26 = .ok (.iload_n 3, 1) := by decide +kernel
theorem dL_law_27 : decode cL_law 27 = .ok (.imul, 1) := by decide +kernel
theorem dL_law_28 : decode cL_law 28 = .ok (.invokestatic 176, 3) := by decide +kernel
theorem dL_law_31 : decode cL_law 31 = .ok (.istore 4, 2) := by decide +kernel
theorem dL_law_33 : decode cL_law 33 = .ok (.aload_n 0, 1) := by decide +kernel
theorem dL_law_34 : decode cL_law 34 = .ok (.iconst 2, 1) := by decide +kernel
theorem dL_law_35 : decode cL_law 35 = .ok (.iload_n 3, 1) := by decide +kernel
theorem dL_law_36 : decode cL_law 36 = .ok (.imul, 1) := by decide +kernel
theorem dL_law_37 : decode cL_law 37 = .ok (.iconst 1, 1) := by decide +kernel
theorem dL_law_38 : decode cL_law 38 = .ok (.iadd, 1) := by decide +kernel
theorem dL_law_39 : decode cL_law 39 = .ok (.invokestatic 176, 3) := by decide +kernel
theorem dL_law_42 : decode cL_law 42 = .ok (.istore 5, 2) := by decide +kernel
theorem dL_law_44 : decode cL_law 44 = .ok (.aload_n 1, 1) := by decide +kernel
theorem dL_law_45 : decode cL_law 45 = .ok (.iload 5, 2) := by decide +kernel
theorem dL_law_47 : decode cL_law 47 = .ok (.iload 4, 2) := by decide +kernel
theorem dL_law_49 : decode cL_law 49 = .ok (.invokestatic 180, 3) := by decide +kernel
theorem dL_law_52 : decode cL_law 52 = .ok (.istore 6, 2) := by decide +kernel
theorem dL_law_54 : decode cL_law 54 = .ok (.aload_n 1, 1) := by decide +kernel
theorem dL_law_55 : decode cL_law 55 = .ok (.iload 4, 2) := by decide +kernel
theorem dL_law_57 : decode cL_law 57 = .ok (.iload 5, 2) := by decide +kernel
theorem dL_law_59 : decode cL_law 59 = .ok (.invokestatic 183, 3) := by decide +kernel
theorem dL_law_62 : decode cL_law 62 = .ok (.aload_n 2, 1) := by decide +kernel
theorem dL_law_63 : decode cL_law 63 = .ok (.iload 4, 2) := by decide +kernel
theorem dL_law_65 : decode cL_law 65 = .ok (.iload 5, 2) := by decide +kernel
theorem dL_law_67 : decode cL_law 67 = .ok (.invokestatic 183, 3) := by decide +kernel
theorem dL_law_70 : decode cL_law 70 = .ok (.if_icmp .ne 17, 3) := by decide +kernel
theorem dL_law_73 : decode cL_law 73 = .ok (.aload_n 1, 1) := by decide +kernel
theorem dL_law_74 : decode cL_law 74 = .ok (.invokestatic 186, 3) := by decide +kernel
theorem dL_law_77 : decode cL_law 77 = .ok (.ifCond .eq 10, 3) := by decide +kernel
theorem dL_law_80 : decode cL_law 80 = .ok (.aload_n 1, 1) := by decide +kernel
theorem dL_law_81 : decode cL_law 81 = .ok (.invokestatic 190, 3) := by decide +kernel
theorem dL_law_84 : decode cL_law 84 = .ok (.ifCond .ne 5, 3) := by decide +kernel
theorem dL_law_87 : decode cL_law 87 = .ok (.iconst 0, 1) := by decide +kernel
theorem dL_law_88 : decode cL_law 88 = .ok (.ireturn, 1) := by decide +kernel
theorem dL_law_89 : decode cL_law 89 = .ok (.iinc 3 1, 3) := by decide +kernel
theorem dL_law_92 : decode cL_law 92 = .ok (.goto (-74), 3) := by decide +kernel
theorem dL_law_95 : decode cL_law 95 = .ok (.aload_n 1, 1) := by decide +kernel
theorem dL_law_96 : decode cL_law 96 = .ok (.aload_n 2, 1) := by decide +kernel
theorem dL_law_97 : decode cL_law 97 = .ok (.invokestatic 193, 3) := by decide +kernel
theorem dL_law_100 : decode cL_law 100 = .ok (.ireturn, 1) := by decide +kernel
