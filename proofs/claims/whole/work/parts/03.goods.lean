abbrev wsX0_init : List Cond := .code yX0_init cX0_init 1 none :: lwA
abbrev wsX8_copyRow : List Cond := .code yX8_copyRow cX8_copyRow 2 none :: lwA
abbrev wsX8_copyLongRow : List Cond := .code yX8_copyLongRow cX8_copyLongRow 2 none :: lwA
abbrev wsX0_copyFrom : List Cond := .code yX0_copyFrom cX0_copyFrom 2 none :: lwA
abbrev wsX0_find : List Cond := .code yX0_find cX0_find 4 (some .int) :: lwA
abbrev wsX0_enter : List Cond := .code yX0_enter cX0_enter 6 none :: lwA
abbrev wsX0_property : List Cond := .code yX0_property cX0_property 3 (some .long) :: lwA
abbrev wsX1_init : List Cond := .code yX1_init cX1_init 1 none :: lwA
abbrev wsX1_copyFrom : List Cond := .code yX1_copyFrom cX1_copyFrom 2 none :: lwA
abbrev wsX1_has : List Cond := .code yX1_has cX1_has 2 (some .boolean) :: lwA
abbrev wsX1_addOne : List Cond := .code yX1_addOne cX1_addOne 2 (some .int) :: lwA
abbrev wsX1_charge : List Cond := .code yX1_charge cX1_charge 4 none :: lwA
abbrev wsX1_reduceDebt : List Cond := .code yX1_reduceDebt cX1_reduceDebt 3 (some .int) :: lwA
abbrev wsX8_valueAt : List Cond := .code yX8_valueAt cX8_valueAt 2 (some .int) :: lwA
abbrev wsX1_property : List Cond := .code yX1_property cX1_property 3 (some .int) :: lwA
abbrev wsX6_init : List Cond := .code yX6_init cX6_init 1 none :: lwA
abbrev wsX3_init : List Cond := .code yX3_init cX3_init 1 none :: lwA
abbrev wsX5_init : List Cond := .code yX5_init cX5_init 1 none :: lwA
abbrev wsX4_init : List Cond := .code yX4_init cX4_init 2 none :: lwA
abbrev wsX2_init : List Cond := .code yX2_init cX2_init 2 none :: lwA
abbrev wsX6_copyFrom : List Cond := .code yX6_copyFrom cX6_copyFrom 2 none :: lwA
abbrev wsX3_copyFrom : List Cond := .code yX3_copyFrom cX3_copyFrom 2 none :: lwA
abbrev wsX5_copyFrom : List Cond := .code yX5_copyFrom cX5_copyFrom 2 none :: lwA
abbrev wsX4_copyFrom : List Cond := .code yX4_copyFrom cX4_copyFrom 2 none :: lwA
abbrev wsX2_save : List Cond := .code yX2_save cX2_save 3 none :: lwA
abbrev wsX2_restore : List Cond := .code yX2_restore cX2_restore 3 (some .int) :: lwA
abbrev wsX3_has : List Cond := .code yX3_has cX3_has 2 (some .boolean) :: lwA
abbrev wsX3_isOpen : List Cond := .code yX3_isOpen cX3_isOpen 2 (some .boolean) :: lwA
abbrev wsX3_isComplete : List Cond := .code yX3_isComplete cX3_isComplete 2 (some .boolean) :: lwA
abbrev wsX3_isWhole : List Cond := .code yX3_isWhole cX3_isWhole 2 (some .boolean) :: lwA
abbrev wsX3_isFull : List Cond := .code yX3_isFull cX3_isFull 1 (some .boolean) :: lwA
abbrev wsX3_place : List Cond := .code yX3_place cX3_place 5 (some .int) :: lwA
abbrev wsX3_remaining : List Cond := .code yX3_remaining cX3_remaining 3 (some .int) :: lwA
abbrev wsX3_close : List Cond := .code yX3_close cX3_close 5 none :: lwA
abbrev wsX3_deliver : List Cond := .code yX3_deliver cX3_deliver 3 none :: lwA
abbrev wsX3_expire : List Cond := .code yX3_expire cX3_expire 3 none :: lwA
abbrev wsX3_openOf : List Cond := .code yX3_openOf cX3_openOf 4 (some .int) :: lwA
abbrev wsX3_comesBefore : List Cond := .code yX3_comesBefore cX3_comesBefore 11 (some .boolean) :: lwA
abbrev wsX3_arrange : List Cond := .code yX3_arrange cX3_arrange 5 (some .int) :: lwA
abbrev wsX3_openBefore : List Cond := .code yX3_openBefore cX3_openBefore 6 (some .int) :: lwA
abbrev wsX3_property : List Cond := .code yX3_property cX3_property 3 (some .int) :: lwA
abbrev wsX6_lossOf : List Cond := .code yX6_lossOf cX6_lossOf 6 (some .int) :: lwA
abbrev wsX6_fillSlot : List Cond := .code yX6_fillSlot cX6_fillSlot 5 none :: lwA
abbrev wsX6_meltSilo : List Cond := .code yX6_meltSilo cX6_meltSilo 9 none :: lwA
abbrev wsX6_melt : List Cond := .code yX6_melt cX6_melt 3 none :: lwA
abbrev wsX6_makeBlock : List Cond := .code yX6_makeBlock cX6_makeBlock 3 (some .boolean) :: lwA
abbrev wsX4_produce : List Cond := .code yX4_produce cX4_produce 2 none :: lwA
abbrev wsX6_sumOf : List Cond := .code yX6_sumOf cX6_sumOf 8 (some .int) :: lwA
abbrev wsX6_mass : List Cond := .code yX6_mass cX6_mass 1 (some .int) :: lwA
abbrev wsX4_isSkipped : List Cond := .code yX4_isSkipped cX4_isSkipped 3 (some .boolean) :: lwA
abbrev wsX6_oldestSlot : List Cond := .code yX6_oldestSlot cX6_oldestSlot 5 (some .int) :: lwA
abbrev wsX6_removeBlock : List Cond := .code yX6_removeBlock cX6_removeBlock 6 (some .int) :: lwA
abbrev wsX4_priceOf : List Cond := .code yX4_priceOf cX4_priceOf 5 (some .int) :: lwA
abbrev wsX5_write : List Cond := .code yX5_write cX5_write 6 none :: lwA
abbrev wsX4_serve : List Cond := .code yX4_serve cX4_serve 10 none :: lwA
abbrev wsX6_growOlder : List Cond := .code yX6_growOlder cX6_growOlder 4 none :: lwA
abbrev wsX4_passHour : List Cond := .code yX4_passHour cX4_passHour 5 none :: lwA
abbrev wsX4_letPass : List Cond := .code yX4_letPass cX4_letPass 4 (some .int) :: lwA
abbrev wsX4_takePayment : List Cond := .code yX4_takePayment cX4_takePayment 3 (some .int) :: lwA
abbrev wsX4_ordersBefore : List Cond := .code yX4_ordersBefore cX4_ordersBefore 2 (some .int) :: lwA
abbrev wsX6_meltedMass : List Cond := .code yX6_meltedMass cX6_meltedMass 3 (some .int) :: lwA
abbrev wsX6_blocks : List Cond := .code yX6_blocks cX6_blocks 3 (some .int) :: lwA
abbrev wsX5_kept : List Cond := .code yX5_kept cX5_kept 1 (some .int) :: lwA
abbrev wsX4_totalOf : List Cond := .code yX4_totalOf cX4_totalOf 2 (some .long) :: lwA
abbrev wsX5_property : List Cond := .code yX5_property cX5_property 4 (some .int) :: lwA
abbrev wsX6_addOne : List Cond := .code yX6_addOne cX6_addOne 4 (some .int) :: lwA
abbrev wsX6_hasSilo : List Cond := .code yX6_hasSilo cX6_hasSilo 2 (some .boolean) :: lwA
abbrev wsX6_isEmpty : List Cond := .code yX6_isEmpty cX6_isEmpty 2 (some .boolean) :: lwA
abbrev wsX6_hasRoom : List Cond := .code yX6_hasRoom cX6_hasRoom 2 (some .boolean) :: lwA
abbrev wsX6_slotOf : List Cond := .code yX6_slotOf cX6_slotOf 3 (some .int) :: lwA
abbrev wsX6_moveTop : List Cond := .code yX6_moveTop cX6_moveTop 4 (some .int) :: lwA
abbrev wsX6_sumOfAges : List Cond := .code yX6_sumOfAges cX6_sumOfAges 1 (some .int) :: lwA
abbrev wsX6_siloProperty : List Cond := .code yX6_siloProperty cX6_siloProperty 3 (some .int) :: lwA
abbrev wsX6_blockProperty : List Cond := .code yX6_blockProperty cX6_blockProperty 3 (some .int) :: lwA
abbrev wsX7_init : List Cond := .code yX7_init cX7_init 1 none :: lwA
abbrev wsX7_addSign : List Cond := .code yX7_addSign cX7_addSign 2 (some .int) :: lwA
abbrev wsX7_empty : List Cond := .code yX7_empty cX7_empty 2 (some .int) :: lwA
abbrev wsX7_start : List Cond := .code yX7_start cX7_start 1 none :: lwA
abbrev wsX7_hasCommand : List Cond := .code yX7_hasCommand cX7_hasCommand 1 (some .boolean) :: lwA
abbrev wsX7_sign : List Cond := .code yX7_sign cX7_sign 1 (some .char) :: lwA
abbrev wsX7_numbersBehind : List Cond := .code yX7_numbersBehind cX7_numbersBehind 1 (some .int) :: lwA
abbrev wsX7_failHere : List Cond := .code yX7_failHere cX7_failHere 1 none :: lwA
abbrev wsX7_readComma : List Cond := .code yX7_readComma cX7_readComma 1 none :: lwA
abbrev wsX7_isDigit : List Cond := .code yX7_isDigit cX7_isDigit 1 (some .boolean) :: lwA
abbrev wsX7_readNumber : List Cond := .code yX7_readNumber cX7_readNumber 4 none :: lwA
abbrev wsX7_readSeparator : List Cond := .code yX7_readSeparator cX7_readSeparator 1 none :: lwA
abbrev wsX7_readCommand : List Cond := .code yX7_readCommand cX7_readCommand 3 none :: lwA
abbrev wsX7_readAll : List Cond := .code yX7_readAll cX7_readAll 2 none :: lwA
abbrev wsX8_init : List Cond := .code yX8_init cX8_init 1 none :: lwA
abbrev wsX8_isWithin : List Cond := .code yX8_isWithin cX8_isWithin 3 (some .boolean) :: lwA
abbrev wsX8_refuse : List Cond := .code yX8_refuse cX8_refuse 1 none :: lwA
abbrev wsX8_needArgument : List Cond := .code yX8_needArgument cX8_needArgument 1 none :: lwA
abbrev wsX8_needState : List Cond := .code yX8_needState cX8_needState 1 none :: lwA
abbrev wsX8_addSilo : List Cond := .code yX8_addSilo cX8_addSilo 4 (some .int) :: lwA
abbrev wsX8_needItem : List Cond := .code yX8_needItem cX8_needItem 1 none :: lwA
abbrev wsX8_replace : List Cond := .code yX8_replace cX8_replace 4 (some .int) :: lwA
abbrev wsX8_setRule : List Cond := .code yX8_setRule cX8_setRule 3 (some .int) :: lwA
abbrev wsX8_setStrength : List Cond := .code yX8_setStrength cX8_setStrength 3 (some .int) :: lwA
abbrev wsX8_setTemperature : List Cond := .code yX8_setTemperature cX8_setTemperature 3 (some .int) :: lwA
abbrev wsX8_set : List Cond := .code yX8_set cX8_set 3 (some .int) :: lwA
abbrev wsX8_moveFault : List Cond := .code yX8_moveFault cX8_moveFault 3 (some .int) :: lwA
abbrev wsX8_move : List Cond := .code yX8_move cX8_move 3 (some .int) :: lwA
abbrev wsX8_passFault : List Cond := .code yX8_passFault cX8_passFault 2 (some .int) :: lwA
abbrev wsX8_pass : List Cond := .code yX8_pass cX8_pass 2 (some .int) :: lwA
abbrev wsX8_addBoat : List Cond := .code yX8_addBoat cX8_addBoat 2 (some .int) :: lwA
abbrev wsX8_catchFault : List Cond := .code yX8_catchFault cX8_catchFault 3 (some .int) :: lwA
abbrev wsX8_setCatch : List Cond := .code yX8_setCatch cX8_setCatch 3 (some .int) :: lwA
abbrev wsX8_orderFault : List Cond := .code yX8_orderFault cX8_orderFault 4 (some .int) :: lwA
abbrev wsX8_order : List Cond := .code yX8_order cX8_order 5 (some .int) :: lwA
abbrev wsX8_cancel : List Cond := .code yX8_cancel cX8_cancel 2 (some .int) :: lwA
abbrev wsX8_payFault : List Cond := .code yX8_payFault cX8_payFault 3 (some .int) :: lwA
abbrev wsX8_pay : List Cond := .code yX8_pay cX8_pay 3 (some .int) :: lwA
abbrev wsX8_silo : List Cond := .code yX8_silo cX8_silo 3 (some .int) :: lwA
abbrev wsX8_block : List Cond := .code yX8_block cX8_block 5 (some .int) :: lwA
abbrev wsX8_boat : List Cond := .code yX8_boat cX8_boat 3 (some .int) :: lwA
abbrev wsX8_orderProperty : List Cond := .code yX8_orderProperty cX8_orderProperty 3 (some .int) :: lwA
abbrev wsX8_receipt : List Cond := .code yX8_receipt cX8_receipt 3 (some .int) :: lwA
abbrev wsX8_account : List Cond := .code yX8_account cX8_account 3 (some .long) :: lwA
abbrev wsX8_findAccount : List Cond := .code yX8_findAccount cX8_findAccount 3 (some .int) :: lwA
abbrev wsX8_setting : List Cond := .code yX8_setting cX8_setting 2 (some .int) :: lwA
abbrev wsX8_total : List Cond := .code yX8_total cX8_total 2 (some .long) :: lwA
abbrev wsX8_meanAge : List Cond := .code yX8_meanAge cX8_meanAge 2 (some .double) :: lwA
abbrev wsX8_massAfter : List Cond := .code yX8_massAfter cX8_massAfter 2 (some .int) :: lwA
abbrev wsX8_completeIn : List Cond := .code yX8_completeIn cX8_completeIn 3 (some .int) :: lwA
abbrev wsX8_meltedWith : List Cond := .code yX8_meltedWith cX8_meltedWith 4 (some .int) :: lwA
abbrev wsX8_bestRule : List Cond := .code yX8_bestRule cX8_bestRule 7 (some .int) :: lwA
abbrev wsX8_quote : List Cond := .code yX8_quote cX8_quote 4 (some .int) :: lwA
abbrev wsX8_append : List Cond := .code yX8_append cX8_append 2 (some .int) :: lwA
abbrev wsX8_clear : List Cond := .code yX8_clear cX8_clear 1 (some .int) :: lwA
abbrev wsX8_errorPosition : List Cond := .code yX8_errorPosition cX8_errorPosition 1 (some .int) :: lwA
abbrev wsX8_errorKind : List Cond := .code yX8_errorKind cX8_errorKind 1 (some .int) :: lwA
abbrev wsX8_commandFault : List Cond := .code yX8_commandFault cX8_commandFault 3 (some .int) :: lwA
abbrev wsX8_runCommand : List Cond := .code yX8_runCommand cX8_runCommand 3 none :: lwA
abbrev wsX8_execute : List Cond := .code yX8_execute cX8_execute 2 (some .int) :: lwA
abbrev wsX8_undo : List Cond := .code yX8_undo cX8_undo 1 (some .int) :: lwA
abbrev wsX9_init : List Cond := .code yX9_init cX9_init 2 none :: lwA
abbrev wsX9_thrown : List Cond := .code yX9_thrown cX9_thrown 1 (some .int) :: lwA
abbrev wsX9_refuse : List Cond := .code yX9_refuse cX9_refuse 2 (some .int) :: lwA
abbrev wsX9_in : List Cond := .code yX9_in cX9_in 6 (some .boolean) :: lwA
abbrev wsX9_isSilo : List Cond := .code yX9_isSilo cX9_isSilo 2 (some .boolean) :: lwA
abbrev wsX9_isBoat : List Cond := .code yX9_isBoat cX9_isBoat 2 (some .boolean) :: lwA
abbrev wsX9_isOrder : List Cond := .code yX9_isOrder cX9_isOrder 2 (some .boolean) :: lwA
abbrev wsX9_save : List Cond := .code yX9_save cX9_save 2 none :: lwA
abbrev wsX9_addSilo : List Cond := .code yX9_addSilo cX9_addSilo 5 (some .int) :: lwA
abbrev wsX9_change : List Cond := .code yX9_change cX9_change 4 (some .int) :: lwA
abbrev wsX9_setRule : List Cond := .code yX9_setRule cX9_setRule 3 (some .int) :: lwA
abbrev wsX9_setStrength : List Cond := .code yX9_setStrength cX9_setStrength 3 (some .int) :: lwA
abbrev wsX9_setTemperature : List Cond := .code yX9_setTemperature cX9_setTemperature 3 (some .int) :: lwA
abbrev wsX9_least : List Cond := .code yX9_least cX9_least 1 (some .int) :: lwA
abbrev wsX9_most : List Cond := .code yX9_most cX9_most 1 (some .int) :: lwA
abbrev wsX9_set : List Cond := .code yX9_set cX9_set 3 (some .int) :: lwA
abbrev wsX9_moveThrows : List Cond := .code yX9_moveThrows cX9_moveThrows 3 (some .int) :: lwA
abbrev wsX9_doMove : List Cond := .code yX9_doMove cX9_doMove 5 (some .int) :: lwA
abbrev wsX9_move : List Cond := .code yX9_move cX9_move 4 (some .int) :: lwA
abbrev wsX9_heat : List Cond := .code yX9_heat cX9_heat 3 (some .long) :: lwA
abbrev wsX9_lossOf : List Cond := .code yX9_lossOf cX9_lossOf 10 (some .long) :: lwA
abbrev wsX9_removeBlock : List Cond := .code yX9_removeBlock cX9_removeBlock 4 none :: lwA
abbrev wsX9_melt : List Cond := .code yX9_melt cX9_melt 5 none :: lwA
abbrev wsX9_freeSilo : List Cond := .code yX9_freeSilo cX9_freeSilo 2 (some .int) :: lwA
abbrev wsX9_produce : List Cond := .code yX9_produce cX9_produce 4 none :: lwA
abbrev wsX9_remaining : List Cond := .code yX9_remaining cX9_remaining 4 (some .long) :: lwA
abbrev wsX9_catchOf : List Cond := .code yX9_catchOf cX9_catchOf 2 (some .long) :: lwA
abbrev wsX9_isBefore : List Cond := .code yX9_isBefore cX9_isBefore 7 (some .boolean) :: lwA
abbrev wsX9_aheadOf : List Cond := .code yX9_aheadOf cX9_aheadOf 4 (some .int) :: lwA
abbrev wsX9_stored : List Cond := .code yX9_stored cX9_stored 5 (some .long) :: lwA
abbrev wsX9_blocks : List Cond := .code yX9_blocks cX9_blocks 3 (some .int) :: lwA
abbrev wsX9_oldest : List Cond := .code yX9_oldest cX9_oldest 4 (some .int) :: lwA
abbrev wsX9_bandNow : List Cond := .code yX9_bandNow cX9_bandNow 1 (some .int) :: lwA
abbrev wsX9_priceOf : List Cond := .code yX9_priceOf cX9_priceOf 7 (some .long) :: lwA
abbrev wsX9_accountOf : List Cond := .code yX9_accountOf cX9_accountOf 4 (some .int) :: lwA
abbrev wsX9_enter : List Cond := .code yX9_enter cX9_enter 7 none :: lwA
abbrev wsX9_giveReceipt : List Cond := .code yX9_giveReceipt cX9_giveReceipt 9 none :: lwA
abbrev wsX9_serve : List Cond := .code yX9_serve cX9_serve 12 none :: lwA
abbrev wsX9_openMany : List Cond := .code yX9_openMany cX9_openMany 3 (some .int) :: lwA
abbrev wsX9_deliver : List Cond := .code yX9_deliver cX9_deliver 3 none :: lwA
abbrev wsX9_expire : List Cond := .code yX9_expire cX9_expire 2 none :: lwA
abbrev wsX9_hour : List Cond := .code yX9_hour cX9_hour 3 none :: lwA
abbrev wsX9_passThrows : List Cond := .code yX9_passThrows cX9_passThrows 2 (some .int) :: lwA
abbrev wsX9_doPass : List Cond := .code yX9_doPass cX9_doPass 5 (some .int) :: lwA
abbrev wsX9_pass : List Cond := .code yX9_pass cX9_pass 3 (some .int) :: lwA
abbrev wsX9_addBoat : List Cond := .code yX9_addBoat cX9_addBoat 2 (some .int) :: lwA
abbrev wsX9_catchThrows : List Cond := .code yX9_catchThrows cX9_catchThrows 3 (some .int) :: lwA
abbrev wsX9_setCatch : List Cond := .code yX9_setCatch cX9_setCatch 4 (some .int) :: lwA
abbrev wsX9_orderThrows : List Cond := .code yX9_orderThrows cX9_orderThrows 4 (some .int) :: lwA
abbrev wsX9_doOrder : List Cond := .code yX9_doOrder cX9_doOrder 6 (some .int) :: lwA
abbrev wsX9_order : List Cond := .code yX9_order cX9_order 6 (some .int) :: lwA
abbrev wsX9_cancel : List Cond := .code yX9_cancel cX9_cancel 2 (some .int) :: lwA
abbrev wsX9_payThrows : List Cond := .code yX9_payThrows cX9_payThrows 3 (some .int) :: lwA
abbrev wsX9_doPay : List Cond := .code yX9_doPay cX9_doPay 3 (some .int) :: lwA
abbrev wsX9_pay : List Cond := .code yX9_pay cX9_pay 4 (some .int) :: lwA
abbrev wsX9_massIn : List Cond := .code yX9_massIn cX9_massIn 5 (some .long) :: lwA
abbrev wsX9_silo : List Cond := .code yX9_silo cX9_silo 3 (some .int) :: lwA
abbrev wsX9_block : List Cond := .code yX9_block cX9_block 5 (some .int) :: lwA
abbrev wsX9_openOf : List Cond := .code yX9_openOf cX9_openOf 4 (some .int) :: lwA
abbrev wsX9_boat : List Cond := .code yX9_boat cX9_boat 3 (some .int) :: lwA
abbrev wsX9_orderProperty : List Cond := .code yX9_orderProperty cX9_orderProperty 3 (some .int) :: lwA
abbrev wsX9_receipt : List Cond := .code yX9_receipt cX9_receipt 4 (some .int) :: lwA
abbrev wsX9_account : List Cond := .code yX9_account cX9_account 3 (some .long) :: lwA
abbrev wsX9_findAccount : List Cond := .code yX9_findAccount cX9_findAccount 3 (some .int) :: lwA
abbrev wsX9_setting : List Cond := .code yX9_setting cX9_setting 2 (some .int) :: lwA
abbrev wsX9_total : List Cond := .code yX9_total cX9_total 2 (some .long) :: lwA
abbrev wsX9_meanAge : List Cond := .code yX9_meanAge cX9_meanAge 5 (some .double) :: lwA
abbrev wsX9_beginTrial : List Cond := .code yX9_beginTrial cX9_beginTrial 2 none :: lwA
abbrev wsX9_endTrial : List Cond := .code yX9_endTrial cX9_endTrial 2 none :: lwA
abbrev wsX9_massAfter : List Cond := .code yX9_massAfter cX9_massAfter 4 (some .int) :: lwA
abbrev wsX9_completeIn : List Cond := .code yX9_completeIn cX9_completeIn 4 (some .int) :: lwA
abbrev wsX9_bestRule : List Cond := .code yX9_bestRule cX9_bestRule 10 (some .int) :: lwA
abbrev wsX9_quote : List Cond := .code yX9_quote cX9_quote 4 (some .int) :: lwA
abbrev wsX9_append : List Cond := .code yX9_append cX9_append 2 (some .int) :: lwA
abbrev wsX9_clear : List Cond := .code yX9_clear cX9_clear 2 (some .int) :: lwA
abbrev wsX9_needs : List Cond := .code yX9_needs cX9_needs 1 (some .int) :: lwA
abbrev wsX9_readOne : List Cond := .code yX9_readOne cX9_readOne 3 (some .int) :: lwA
abbrev wsX9_ends : List Cond := .code yX9_ends cX9_ends 1 (some .boolean) :: lwA
abbrev wsX9_error : List Cond := .code yX9_error cX9_error 3 (some .int) :: lwA
abbrev wsX9_errorPosition : List Cond := .code yX9_errorPosition cX9_errorPosition 2 (some .int) :: lwA
abbrev wsX9_errorKind : List Cond := .code yX9_errorKind cX9_errorKind 2 (some .int) :: lwA
abbrev wsX9_done : List Cond := .code yX9_done cX9_done 5 (some .boolean) :: lwA
abbrev wsX9_execute : List Cond := .code yX9_execute cX9_execute 5 (some .int) :: lwA
abbrev wsX9_undo : List Cond := .code yX9_undo cX9_undo 2 (some .int) :: lwA
abbrev wsL_addSilo : List Cond := .codeWith yL_addSilo cL_addSilo 6 (some .int) [(0, 12, 15, 13), (0, 12, 19, 15)] :: lwA
abbrev wsL_setRule : List Cond := .codeWith yL_setRule cL_setRule 5 (some .int) [(0, 10, 13, 21), (0, 10, 17, 13)] :: lwA
abbrev wsL_setStrength : List Cond := .codeWith yL_setStrength cL_setStrength 5 (some .int) [(0, 10, 13, 21), (0, 10, 17, 13)] :: lwA
abbrev wsL_setTemperature : List Cond := .codeWith yL_setTemperature cL_setTemperature 5 (some .int) [(0, 10, 13, 21), (0, 10, 17, 13)] :: lwA
abbrev wsL_set : List Cond := .codeWith yL_set cL_set 5 (some .int) [(0, 10, 13, 21), (0, 10, 17, 13)] :: lwA
abbrev wsL_move : List Cond := .codeWith yL_move cL_move 5 (some .int) [(0, 10, 13, 21), (0, 10, 17, 13), (0, 10, 21, 15)] :: lwA
abbrev wsL_pass : List Cond := .codeWith yL_pass cL_pass 4 (some .int) [(0, 9, 12, 13), (0, 9, 15, 15)] :: lwA
abbrev wsL_addBoat : List Cond := .codeWith yL_addBoat cL_addBoat 4 (some .int) [(0, 9, 12, 13), (0, 9, 15, 15)] :: lwA
abbrev wsL_setCatch : List Cond := .codeWith yL_setCatch cL_setCatch 5 (some .int) [(0, 10, 13, 21), (0, 10, 17, 13)] :: lwA
abbrev wsL_order : List Cond := .codeWith yL_order cL_order 7 (some .int) [(0, 14, 17, 21), (0, 14, 21, 13), (0, 14, 25, 15)] :: lwA
abbrev wsL_cancel : List Cond := .codeWith yL_cancel cL_cancel 4 (some .int) [(0, 9, 12, 21), (0, 9, 15, 15)] :: lwA
abbrev wsL_pay : List Cond := .codeWith yL_pay cL_pay 5 (some .int) [(0, 10, 13, 21), (0, 10, 17, 13), (0, 10, 21, 15)] :: lwA
abbrev wsL_silo : List Cond := .codeWith yL_silo cL_silo 5 (some .int) [(0, 10, 13, 21), (0, 10, 17, 13)] :: lwA
abbrev wsL_block : List Cond := .codeWith yL_block cL_block 6 (some .int) [(0, 12, 15, 21), (0, 12, 19, 13)] :: lwA
abbrev wsL_boat : List Cond := .codeWith yL_boat cL_boat 5 (some .int) [(0, 10, 13, 21), (0, 10, 17, 13)] :: lwA
abbrev wsL_orderProperty : List Cond := .codeWith yL_orderProperty cL_orderProperty 5 (some .int) [(0, 10, 13, 21), (0, 10, 17, 13)] :: lwA
abbrev wsL_receipt : List Cond := .codeWith yL_receipt cL_receipt 5 (some .int) [(0, 10, 13, 21), (0, 10, 17, 13)] :: lwA
abbrev wsL_account : List Cond := .codeWith yL_account cL_account 5 (some .int) [(0, 9, 12, 21), (0, 9, 16, 13)] :: lwA
abbrev wsL_findAccount : List Cond := .codeWith yL_findAccount cL_findAccount 5 (some .int) [(0, 10, 13, 21), (0, 10, 17, 13)] :: lwA
abbrev wsL_setting : List Cond := .codeWith yL_setting cL_setting 4 (some .int) [(0, 9, 12, 21)] :: lwA
abbrev wsL_total : List Cond := .codeWith yL_total cL_total 4 (some .int) [(0, 8, 11, 13)] :: lwA
abbrev wsL_massAfter : List Cond := .codeWith yL_massAfter cL_massAfter 4 (some .int) [(0, 9, 12, 13)] :: lwA
abbrev wsL_completeIn : List Cond := .codeWith yL_completeIn cL_completeIn 4 (some .int) [(0, 9, 12, 21), (0, 9, 15, 15)] :: lwA
abbrev wsL_bestRule : List Cond := .codeWith yL_bestRule cL_bestRule 5 (some .int) [(0, 10, 13, 21), (0, 10, 17, 13)] :: lwA
abbrev wsL_quote : List Cond := .codeWith yL_quote cL_quote 6 (some .int) [(0, 12, 15, 21), (0, 12, 19, 13)] :: lwA
abbrev wsL_append : List Cond := .codeWith yL_append cL_append 4 (some .int) [(0, 9, 12, 13), (0, 9, 15, 15)] :: lwA
abbrev wsL_execute : List Cond := .codeWith yL_execute cL_execute 3 (some .int) [(0, 8, 11, 15)] :: lwA
abbrev wsL_undo : List Cond := .codeWith yL_undo cL_undo 3 (some .int) [(0, 8, 11, 15)] :: lwA
theorem gX0_copyFrom_X8_copyRow_n29 : GoodIn wsX0_copyFrom (wsX8_copyRow) := gA (aC qc_X8_copyRow)
theorem gX0_copyFrom_X8_copyLongRow_n33 : GoodIn wsX0_copyFrom (wsX8_copyLongRow) := gA (aC qc_X8_copyLongRow)
theorem gX0_enter_X0_find : GoodIn wsX0_enter (wsV RX0 37 RX0 yX0_find wsX0_find) := gA (aV qm_X0_37 qi_X0_find ql_X0_find qn_X0 qc_X0_find)
theorem gX1_copyFrom_X8_copyRow_n25 : GoodIn wsX1_copyFrom (wsX8_copyRow) := gA (aC qc_X8_copyRow)
theorem gX1_charge_X1_has : GoodIn wsX1_charge (wsV RX1 29 RX1 yX1_has wsX1_has) := gA (aV qm_X1_29 qi_X1_has ql_X1_has qn_X1 qc_X1_has)
theorem gX1_reduceDebt_X1_has : GoodIn wsX1_reduceDebt (wsV RX1 29 RX1 yX1_has wsX1_has) := gA (aV qm_X1_29 qi_X1_has ql_X1_has qn_X1 qc_X1_has)
theorem gX1_property_X8_valueAt_n33 : GoodIn wsX1_property (wsX8_valueAt) := gA (aC qc_X8_valueAt)
theorem gX2_init_X4_init : GoodIn wsX2_init (wsX4_init) := gA (aC qc_X4_init)
theorem gX2_save_X4_copyFrom : GoodIn wsX2_save (wsV RX2 23 RX4 yX4_copyFrom wsX4_copyFrom) := gA (aV qm_X2_23 qi_X4_copyFrom ql_X4_copyFrom qn_X4 qc_X4_copyFrom)
theorem gX2_restore_X4_copyFrom : GoodIn wsX2_restore (wsV RX2 23 RX4 yX4_copyFrom wsX4_copyFrom) := gA (aV qm_X2_23 qi_X4_copyFrom ql_X4_copyFrom qn_X4 qc_X4_copyFrom)
theorem gX3_copyFrom_X8_copyRow_n43 : GoodIn wsX3_copyFrom (wsX8_copyRow) := gA (aC qc_X8_copyRow)
theorem gX3_isOpen_X3_has : GoodIn wsX3_isOpen (wsV RX3 47 RX3 yX3_has wsX3_has) := gA (aV qm_X3_47 qi_X3_has ql_X3_has qn_X3 qc_X3_has)
theorem gX3_isComplete_X3_has : GoodIn wsX3_isComplete (wsV RX3 47 RX3 yX3_has wsX3_has) := gA (aV qm_X3_47 qi_X3_has ql_X3_has qn_X3 qc_X3_has)
theorem gX3_isWhole_X8_valueAt_n51 : GoodIn wsX3_isWhole (wsX8_valueAt) := gA (aC qc_X8_valueAt)
theorem gX3_place_X3_isFull : GoodIn wsX3_place (wsV RX3 55 RX3 yX3_isFull wsX3_isFull) := gA (aV qm_X3_55 qi_X3_isFull ql_X3_isFull qn_X3 qc_X3_isFull)
theorem gX3_remaining_X8_valueAt_n51 : GoodIn wsX3_remaining (wsX8_valueAt) := gA (aC qc_X8_valueAt)
theorem gX3_deliver_X3_has : GoodIn wsX3_deliver (wsV RX3 47 RX3 yX3_has wsX3_has) := gA (aV qm_X3_47 qi_X3_has ql_X3_has qn_X3 qc_X3_has)
theorem gX3_deliver_X3_close : GoodIn wsX3_deliver (wsV RX3 59 RX3 yX3_close wsX3_close) := gA (aV qm_X3_59 qi_X3_close ql_X3_close qn_X3 qc_X3_close)
theorem gX3_close_X3_has : GoodIn wsX3_close (wsV RX3 47 RX3 yX3_has wsX3_has) := gA (aV qm_X3_47 qi_X3_has ql_X3_has qn_X3 qc_X3_has)
theorem gX3_expire_X3_has : GoodIn wsX3_expire (wsV RX3 47 RX3 yX3_has wsX3_has) := gA (aV qm_X3_47 qi_X3_has ql_X3_has qn_X3 qc_X3_has)
theorem gX3_expire_X3_close : GoodIn wsX3_expire (wsV RX3 59 RX3 yX3_close wsX3_close) := gA (aV qm_X3_59 qi_X3_close ql_X3_close qn_X3 qc_X3_close)
theorem gX3_openOf_X8_valueAt_n51 : GoodIn wsX3_openOf (wsX8_valueAt) := gA (aC qc_X8_valueAt)
theorem gX3_arrange_X3_comesBefore : GoodIn wsX3_arrange (wsV RX3 63 RX3 yX3_comesBefore wsX3_comesBefore) := gA (aV qm_X3_63 qi_X3_comesBefore ql_X3_comesBefore qn_X3 qc_X3_comesBefore)
theorem gX3_openBefore_X3_comesBefore : GoodIn wsX3_openBefore (wsV RX3 63 RX3 yX3_comesBefore wsX3_comesBefore) := gA (aV qm_X3_63 qi_X3_comesBefore ql_X3_comesBefore qn_X3 qc_X3_comesBefore)
theorem gX3_comesBefore_X8_valueAt_n51 : GoodIn wsX3_comesBefore (wsX8_valueAt) := gA (aC qc_X8_valueAt)
theorem gX3_comesBefore_X3_remaining : GoodIn wsX3_comesBefore (wsV RX3 72 RX3 yX3_remaining wsX3_remaining) := gA (aV qm_X3_72 qi_X3_remaining ql_X3_remaining qn_X3 qc_X3_remaining)
theorem gX3_property_X8_valueAt_n51 : GoodIn wsX3_property (wsX8_valueAt) := gA (aC qc_X8_valueAt)
theorem gX4_init_X8_copyRow_n18 : GoodIn wsX4_init (wsX8_copyRow) := gA (aC qc_X8_copyRow)
theorem gX4_init_X6_init : GoodIn wsX4_init (wsX6_init) := gA (aC qc_X6_init)
theorem gX4_init_X1_init : GoodIn wsX4_init (wsX1_init) := gA (aC qc_X1_init)
theorem gX4_init_X3_init : GoodIn wsX4_init (wsX3_init) := gA (aC qc_X3_init)
theorem gX4_init_X5_init : GoodIn wsX4_init (wsX5_init) := gA (aC qc_X5_init)
theorem gX4_init_X0_init : GoodIn wsX4_init (wsX0_init) := gA (aC qc_X0_init)
theorem gX4_copyFrom_X8_copyRow_n18 : GoodIn wsX4_copyFrom (wsX8_copyRow) := gA (aC qc_X8_copyRow)
theorem gX4_copyFrom_X6_copyFrom : GoodIn wsX4_copyFrom (wsV RX4 60 RX6 yX6_copyFrom wsX6_copyFrom) := gA (aV qm_X4_60 qi_X6_copyFrom ql_X6_copyFrom qn_X6 qc_X6_copyFrom)
theorem gX4_copyFrom_X1_copyFrom : GoodIn wsX4_copyFrom (wsV RX4 64 RX1 yX1_copyFrom wsX1_copyFrom) := gA (aV qm_X4_64 qi_X1_copyFrom ql_X1_copyFrom qn_X1 qc_X1_copyFrom)
theorem gX4_copyFrom_X3_copyFrom : GoodIn wsX4_copyFrom (wsV RX4 67 RX3 yX3_copyFrom wsX3_copyFrom) := gA (aV qm_X4_67 qi_X3_copyFrom ql_X3_copyFrom qn_X3 qc_X3_copyFrom)
theorem gX4_copyFrom_X5_copyFrom : GoodIn wsX4_copyFrom (wsV RX4 70 RX5 yX5_copyFrom wsX5_copyFrom) := gA (aV qm_X4_70 qi_X5_copyFrom ql_X5_copyFrom qn_X5 qc_X5_copyFrom)
theorem gX4_copyFrom_X0_copyFrom : GoodIn wsX4_copyFrom (wsV RX4 73 RX0 yX0_copyFrom wsX0_copyFrom) := gA (aV qm_X4_73 qi_X0_copyFrom ql_X0_copyFrom qn_X0 qc_X0_copyFrom)
theorem gX4_letPass_X4_passHour : GoodIn wsX4_letPass (wsV RX4 96 RX4 yX4_passHour wsX4_passHour) := gA (aV qm_X4_96 qi_X4_passHour ql_X4_passHour qn_X4 qc_X4_passHour)
theorem gX4_passHour_X8_valueAt_n99 : GoodIn wsX4_passHour (wsX8_valueAt) := gA (aC qc_X8_valueAt)
theorem gX4_passHour_X6_melt : GoodIn wsX4_passHour (wsV RX4 103 RX6 yX6_melt wsX6_melt) := gA (aV qm_X4_103 qi_X6_melt ql_X6_melt qn_X6 qc_X6_melt)
theorem gX4_passHour_X4_produce : GoodIn wsX4_passHour (wsV RX4 107 RX4 yX4_produce wsX4_produce) := gA (aV qm_X4_107 qi_X4_produce ql_X4_produce qn_X4 qc_X4_produce)
theorem gX4_passHour_X3_arrange : GoodIn wsX4_passHour (wsV RX4 110 RX3 yX3_arrange wsX3_arrange) := gA (aV qm_X4_110 qi_X3_arrange ql_X3_arrange qn_X3 qc_X3_arrange)
theorem gX4_passHour_X4_serve : GoodIn wsX4_passHour (wsV RX4 117 RX4 yX4_serve wsX4_serve) := gA (aV qm_X4_117 qi_X4_serve ql_X4_serve qn_X4 qc_X4_serve)
theorem gX4_passHour_X3_expire : GoodIn wsX4_passHour (wsV RX4 121 RX3 yX3_expire wsX3_expire) := gA (aV qm_X4_121 qi_X3_expire ql_X3_expire qn_X3 qc_X3_expire)
theorem gX4_passHour_X6_growOlder : GoodIn wsX4_passHour (wsV RX4 124 RX6 yX6_growOlder wsX6_growOlder) := gA (aV qm_X4_124 qi_X6_growOlder ql_X6_growOlder qn_X6 qc_X6_growOlder)
theorem gX4_produce_X6_makeBlock : GoodIn wsX4_produce (wsV RX4 127 RX6 yX6_makeBlock wsX6_makeBlock) := gA (aV qm_X4_127 qi_X6_makeBlock ql_X6_makeBlock qn_X6 qc_X6_makeBlock)
theorem gX4_serve_X8_valueAt_n99 : GoodIn wsX4_serve (wsX8_valueAt) := gA (aC qc_X8_valueAt)
theorem gX4_serve_X4_isSkipped : GoodIn wsX4_serve (wsV RX4 133 RX4 yX4_isSkipped wsX4_isSkipped) := gA (aV qm_X4_133 qi_X4_isSkipped ql_X4_isSkipped qn_X4 qc_X4_isSkipped)
theorem gX4_serve_X3_remaining : GoodIn wsX4_serve (wsV RX4 137 RX3 yX3_remaining wsX3_remaining) := gA (aV qm_X4_137 qi_X3_remaining ql_X3_remaining qn_X3 qc_X3_remaining)
theorem gX4_serve_X6_oldestSlot : GoodIn wsX4_serve (wsV RX4 141 RX6 yX6_oldestSlot wsX6_oldestSlot) := gA (aV qm_X4_141 qi_X6_oldestSlot ql_X6_oldestSlot qn_X6 qc_X6_oldestSlot)
theorem gX4_serve_X6_removeBlock : GoodIn wsX4_serve (wsV RX4 145 RX6 yX6_removeBlock wsX6_removeBlock) := gA (aV qm_X4_145 qi_X6_removeBlock ql_X6_removeBlock qn_X6 qc_X6_removeBlock)
theorem gX4_serve_X4_priceOf : GoodIn wsX4_serve (wsV RX4 148 RX4 yX4_priceOf wsX4_priceOf) := gA (aV qm_X4_148 qi_X4_priceOf ql_X4_priceOf qn_X4 qc_X4_priceOf)
theorem gX4_serve_X3_deliver : GoodIn wsX4_serve (wsV RX4 152 RX3 yX3_deliver wsX3_deliver) := gA (aV qm_X4_152 qi_X3_deliver ql_X3_deliver qn_X3 qc_X3_deliver)
theorem gX4_serve_X1_charge : GoodIn wsX4_serve (wsV RX4 155 RX1 yX1_charge wsX1_charge) := gA (aV qm_X4_155 qi_X1_charge ql_X1_charge qn_X1 qc_X1_charge)
theorem gX4_serve_X0_enter : GoodIn wsX4_serve (wsV RX4 159 RX0 yX0_enter wsX0_enter) := gA (aV qm_X4_159 qi_X0_enter ql_X0_enter qn_X0 qc_X0_enter)
theorem gX4_serve_X5_write : GoodIn wsX4_serve (wsV RX4 163 RX5 yX5_write wsX5_write) := gA (aV qm_X4_163 qi_X5_write ql_X5_write qn_X5 qc_X5_write)
theorem gX4_isSkipped_X8_valueAt_n99 : GoodIn wsX4_isSkipped (wsX8_valueAt) := gA (aC qc_X8_valueAt)
theorem gX4_isSkipped_X3_isWhole : GoodIn wsX4_isSkipped (wsV RX4 169 RX3 yX3_isWhole wsX3_isWhole) := gA (aV qm_X4_169 qi_X3_isWhole ql_X3_isWhole qn_X3 qc_X3_isWhole)
theorem gX4_isSkipped_X6_mass : GoodIn wsX4_isSkipped (wsV RX4 172 RX6 yX6_mass wsX6_mass) := gA (aV qm_X4_172 qi_X6_mass ql_X6_mass qn_X6 qc_X6_mass)
theorem gX4_isSkipped_X3_remaining : GoodIn wsX4_isSkipped (wsV RX4 137 RX3 yX3_remaining wsX3_remaining) := gA (aV qm_X4_137 qi_X3_remaining ql_X3_remaining qn_X3 qc_X3_remaining)
theorem gX4_priceOf_X8_valueAt_n99 : GoodIn wsX4_priceOf (wsX8_valueAt) := gA (aC qc_X8_valueAt)
theorem gX4_takePayment_X1_reduceDebt : GoodIn wsX4_takePayment (wsV RX4 178 RX1 yX1_reduceDebt wsX1_reduceDebt) := gA (aV qm_X4_178 qi_X1_reduceDebt ql_X1_reduceDebt qn_X1 qc_X1_reduceDebt)
theorem gX4_ordersBefore_X3_isOpen : GoodIn wsX4_ordersBefore (wsV RX4 182 RX3 yX3_isOpen wsX3_isOpen) := gA (aV qm_X4_182 qi_X3_isOpen ql_X3_isOpen qn_X3 qc_X3_isOpen)
theorem gX4_ordersBefore_X3_openBefore : GoodIn wsX4_ordersBefore (wsV RX4 185 RX3 yX3_openBefore wsX3_openBefore) := gA (aV qm_X4_185 qi_X3_openBefore ql_X3_openBefore qn_X3 qc_X3_openBefore)
theorem gX4_totalOf_X6_meltedMass : GoodIn wsX4_totalOf (wsV RX4 189 RX6 yX6_meltedMass wsX6_meltedMass) := gA (aV qm_X4_189 qi_X6_meltedMass ql_X6_meltedMass qn_X6 qc_X6_meltedMass)
theorem gX4_totalOf_X6_mass : GoodIn wsX4_totalOf (wsV RX4 172 RX6 yX6_mass wsX6_mass) := gA (aV qm_X4_172 qi_X6_mass ql_X6_mass qn_X6 qc_X6_mass)
theorem gX4_totalOf_X6_blocks : GoodIn wsX4_totalOf (wsV RX4 192 RX6 yX6_blocks wsX6_blocks) := gA (aV qm_X4_192 qi_X6_blocks ql_X6_blocks qn_X6 qc_X6_blocks)
theorem gX4_totalOf_X5_kept : GoodIn wsX4_totalOf (wsV RX4 205 RX5 yX5_kept wsX5_kept) := gA (aV qm_X4_205 qi_X5_kept ql_X5_kept qn_X5 qc_X5_kept)
theorem gX5_copyFrom_X8_copyRow_n32 : GoodIn wsX5_copyFrom (wsX8_copyRow) := gA (aC qc_X8_copyRow)
theorem gX5_property_X8_valueAt_n39 : GoodIn wsX5_property (wsX8_valueAt) := gA (aC qc_X8_valueAt)
theorem gX6_copyFrom_X8_copyRow_n43 : GoodIn wsX6_copyFrom (wsX8_copyRow) := gA (aC qc_X8_copyRow)
theorem gX6_isEmpty_X8_valueAt_n47 : GoodIn wsX6_isEmpty (wsX8_valueAt) := gA (aC qc_X8_valueAt)
theorem gX6_hasRoom_X8_valueAt_n47 : GoodIn wsX6_hasRoom (wsX8_valueAt) := gA (aC qc_X8_valueAt)
theorem gX6_slotOf_X6_hasSilo : GoodIn wsX6_slotOf (wsV RX6 51 RX6 yX6_hasSilo wsX6_hasSilo) := gA (aV qm_X6_51 qi_X6_hasSilo ql_X6_hasSilo qn_X6 qc_X6_hasSilo)
theorem gX6_melt_X6_meltSilo : GoodIn wsX6_melt (wsV RX6 55 RX6 yX6_meltSilo wsX6_meltSilo) := gA (aV qm_X6_55 qi_X6_meltSilo ql_X6_meltSilo qn_X6 qc_X6_meltSilo)
theorem gX6_meltSilo_X6_lossOf : GoodIn wsX6_meltSilo (wsV RX6 59 RX6 yX6_lossOf wsX6_lossOf) := gA (aV qm_X6_59 qi_X6_lossOf ql_X6_lossOf qn_X6 qc_X6_lossOf)
theorem gX6_meltSilo_X6_fillSlot : GoodIn wsX6_meltSilo (wsV RX6 63 RX6 yX6_fillSlot wsX6_fillSlot) := gA (aV qm_X6_63 qi_X6_fillSlot ql_X6_fillSlot qn_X6 qc_X6_fillSlot)
theorem gX6_makeBlock_X6_fillSlot : GoodIn wsX6_makeBlock (wsV RX6 63 RX6 yX6_fillSlot wsX6_fillSlot) := gA (aV qm_X6_63 qi_X6_fillSlot ql_X6_fillSlot qn_X6 qc_X6_fillSlot)
theorem gX6_moveTop_X8_valueAt_n47 : GoodIn wsX6_moveTop (wsX8_valueAt) := gA (aC qc_X8_valueAt)
theorem gX6_moveTop_X6_slotOf : GoodIn wsX6_moveTop (wsV RX6 67 RX6 yX6_slotOf wsX6_slotOf) := gA (aV qm_X6_67 qi_X6_slotOf ql_X6_slotOf qn_X6 qc_X6_slotOf)
theorem gX6_moveTop_X6_hasSilo : GoodIn wsX6_moveTop (wsV RX6 51 RX6 yX6_hasSilo wsX6_hasSilo) := gA (aV qm_X6_51 qi_X6_hasSilo ql_X6_hasSilo qn_X6 qc_X6_hasSilo)
theorem gX6_moveTop_X6_fillSlot : GoodIn wsX6_moveTop (wsV RX6 63 RX6 yX6_fillSlot wsX6_fillSlot) := gA (aV qm_X6_63 qi_X6_fillSlot ql_X6_fillSlot qn_X6 qc_X6_fillSlot)
theorem gX6_removeBlock_X6_fillSlot : GoodIn wsX6_removeBlock (wsV RX6 63 RX6 yX6_fillSlot wsX6_fillSlot) := gA (aV qm_X6_63 qi_X6_fillSlot ql_X6_fillSlot qn_X6 qc_X6_fillSlot)
theorem gX6_mass_X6_sumOf : GoodIn wsX6_mass (wsV RX6 71 RX6 yX6_sumOf wsX6_sumOf) := gA (aV qm_X6_71 qi_X6_sumOf ql_X6_sumOf qn_X6 qc_X6_sumOf)
theorem gX6_sumOfAges_X6_sumOf : GoodIn wsX6_sumOfAges (wsV RX6 71 RX6 yX6_sumOf wsX6_sumOf) := gA (aV qm_X6_71 qi_X6_sumOf ql_X6_sumOf qn_X6 qc_X6_sumOf)
theorem gX6_siloProperty_X8_valueAt_n47 : GoodIn wsX6_siloProperty (wsX8_valueAt) := gA (aC qc_X8_valueAt)
theorem gX6_siloProperty_X6_sumOf : GoodIn wsX6_siloProperty (wsV RX6 71 RX6 yX6_sumOf wsX6_sumOf) := gA (aV qm_X6_71 qi_X6_sumOf ql_X6_sumOf qn_X6 qc_X6_sumOf)
theorem gX6_blockProperty_X8_valueAt_n47 : GoodIn wsX6_blockProperty (wsX8_valueAt) := gA (aC qc_X8_valueAt)
theorem gX7_readAll_X7_start : GoodIn wsX7_readAll (wsV RX7 31 RX7 yX7_start wsX7_start) := gA (aV qm_X7_31 qi_X7_start ql_X7_start qn_X7 qc_X7_start)
theorem gX7_readAll_X7_hasCommand : GoodIn wsX7_readAll (wsV RX7 34 RX7 yX7_hasCommand wsX7_hasCommand) := gA (aV qm_X7_34 qi_X7_hasCommand ql_X7_hasCommand qn_X7 qc_X7_hasCommand)
theorem gX7_readAll_X7_readCommand : GoodIn wsX7_readAll (wsV RX7 38 RX7 yX7_readCommand wsX7_readCommand) := gA (aV qm_X7_38 qi_X7_readCommand ql_X7_readCommand qn_X7 qc_X7_readCommand)
theorem gX7_readCommand_X7_sign : GoodIn wsX7_readCommand (wsV RX7 41 RX7 yX7_sign wsX7_sign) := gA (aV qm_X7_41 qi_X7_sign ql_X7_sign qn_X7 qc_X7_sign)
theorem gX7_readCommand_X7_numbersBehind : GoodIn wsX7_readCommand (va_wsS RX7 49 yX7_numbersBehind wsX7_numbersBehind) := gA (aS qm_X7_49 qs_X7_numbersBehind qn_X7 qc_X7_numbersBehind)
theorem gX7_readCommand_X7_failHere : GoodIn wsX7_readCommand (wsV RX7 53 RX7 yX7_failHere wsX7_failHere) := gA (aV qm_X7_53 qi_X7_failHere ql_X7_failHere qn_X7 qc_X7_failHere)
theorem gX7_readCommand_X7_readComma : GoodIn wsX7_readCommand (wsV RX7 56 RX7 yX7_readComma wsX7_readComma) := gA (aV qm_X7_56 qi_X7_readComma ql_X7_readComma qn_X7 qc_X7_readComma)
theorem gX7_readCommand_X7_readNumber : GoodIn wsX7_readCommand (wsV RX7 59 RX7 yX7_readNumber wsX7_readNumber) := gA (aV qm_X7_59 qi_X7_readNumber ql_X7_readNumber qn_X7 qc_X7_readNumber)
theorem gX7_readCommand_X7_readSeparator : GoodIn wsX7_readCommand (wsV RX7 66 RX7 yX7_readSeparator wsX7_readSeparator) := gA (aV qm_X7_66 qi_X7_readSeparator ql_X7_readSeparator qn_X7 qc_X7_readSeparator)
theorem gX7_readComma_X7_sign : GoodIn wsX7_readComma (wsV RX7 41 RX7 yX7_sign wsX7_sign) := gA (aV qm_X7_41 qi_X7_sign ql_X7_sign qn_X7 qc_X7_sign)
theorem gX7_readComma_X7_failHere : GoodIn wsX7_readComma (wsV RX7 53 RX7 yX7_failHere wsX7_failHere) := gA (aV qm_X7_53 qi_X7_failHere ql_X7_failHere qn_X7 qc_X7_failHere)
theorem gX7_readNumber_X7_sign : GoodIn wsX7_readNumber (wsV RX7 41 RX7 yX7_sign wsX7_sign) := gA (aV qm_X7_41 qi_X7_sign ql_X7_sign qn_X7 qc_X7_sign)
theorem gX7_readNumber_X7_isDigit : GoodIn wsX7_readNumber (va_wsS RX7 69 yX7_isDigit wsX7_isDigit) := gA (aS qm_X7_69 qs_X7_isDigit qn_X7 qc_X7_isDigit)
theorem gX7_readNumber_X7_failHere : GoodIn wsX7_readNumber (wsV RX7 53 RX7 yX7_failHere wsX7_failHere) := gA (aV qm_X7_53 qi_X7_failHere ql_X7_failHere qn_X7 qc_X7_failHere)
theorem gX7_readSeparator_X7_sign : GoodIn wsX7_readSeparator (wsV RX7 41 RX7 yX7_sign wsX7_sign) := gA (aV qm_X7_41 qi_X7_sign ql_X7_sign qn_X7 qc_X7_sign)
theorem gX7_readSeparator_X7_failHere : GoodIn wsX7_readSeparator (wsV RX7 53 RX7 yX7_failHere wsX7_failHere) := gA (aV qm_X7_53 qi_X7_failHere ql_X7_failHere qn_X7 qc_X7_failHere)
theorem gX8_init_X4_init : GoodIn wsX8_init (wsX4_init) := gA (aC qc_X4_init)
theorem gX8_init_X2_init : GoodIn wsX8_init (wsX2_init) := gA (aC qc_X2_init)
theorem gX8_init_X7_init : GoodIn wsX8_init (wsX7_init) := gA (aC qc_X7_init)
theorem gX8_addSilo_X8_isWithin : GoodIn wsX8_addSilo (va_wsS RX8 35 yX8_isWithin wsX8_isWithin) := gA (aS qm_X8_35 qs_X8_isWithin qn_X8 qc_X8_isWithin)
theorem gX8_addSilo_X8_needArgument : GoodIn wsX8_addSilo (va_wsS RX8 39 yX8_needArgument wsX8_needArgument) := gA (aS qm_X8_39 qs_X8_needArgument qn_X8 qc_X8_needArgument)
theorem gX8_addSilo_X8_needState : GoodIn wsX8_addSilo (va_wsS RX8 51 yX8_needState wsX8_needState) := gA (aS qm_X8_51 qs_X8_needState qn_X8 qc_X8_needState)
theorem gX8_addSilo_X2_save : GoodIn wsX8_addSilo (wsV RX8 54 RX2 yX2_save wsX2_save) := gA (aV qm_X8_54 qi_X2_save ql_X2_save qn_X2 qc_X2_save)
theorem gX8_addSilo_X6_addOne : GoodIn wsX8_addSilo (wsV RX8 58 RX6 yX6_addOne wsX6_addOne) := gA (aV qm_X8_58 qi_X6_addOne ql_X6_addOne qn_X6 qc_X6_addOne)
theorem gX8_setRule_X6_hasSilo : GoodIn wsX8_setRule (wsV RX8 62 RX6 yX6_hasSilo wsX6_hasSilo) := gA (aV qm_X8_62 qi_X6_hasSilo ql_X6_hasSilo qn_X6 qc_X6_hasSilo)
theorem gX8_setRule_X8_needItem : GoodIn wsX8_setRule (va_wsS RX8 66 yX8_needItem wsX8_needItem) := gA (aS qm_X8_66 qs_X8_needItem qn_X8 qc_X8_needItem)
theorem gX8_setRule_X8_isWithin : GoodIn wsX8_setRule (va_wsS RX8 35 yX8_isWithin wsX8_isWithin) := gA (aS qm_X8_35 qs_X8_isWithin qn_X8 qc_X8_isWithin)
theorem gX8_setRule_X8_needArgument : GoodIn wsX8_setRule (va_wsS RX8 39 yX8_needArgument wsX8_needArgument) := gA (aS qm_X8_39 qs_X8_needArgument qn_X8 qc_X8_needArgument)
theorem gX8_setRule_X2_save : GoodIn wsX8_setRule (wsV RX8 54 RX2 yX2_save wsX2_save) := gA (aV qm_X8_54 qi_X2_save ql_X2_save qn_X2 qc_X2_save)
theorem gX8_setRule_X8_replace : GoodIn wsX8_setRule (va_wsS RX8 73 yX8_replace wsX8_replace) := gA (aS qm_X8_73 qs_X8_replace qn_X8 qc_X8_replace)
theorem gX8_setStrength_X6_hasSilo : GoodIn wsX8_setStrength (wsV RX8 62 RX6 yX6_hasSilo wsX6_hasSilo) := gA (aV qm_X8_62 qi_X6_hasSilo ql_X6_hasSilo qn_X6 qc_X6_hasSilo)
theorem gX8_setStrength_X8_needItem : GoodIn wsX8_setStrength (va_wsS RX8 66 yX8_needItem wsX8_needItem) := gA (aS qm_X8_66 qs_X8_needItem qn_X8 qc_X8_needItem)
theorem gX8_setStrength_X8_isWithin : GoodIn wsX8_setStrength (va_wsS RX8 35 yX8_isWithin wsX8_isWithin) := gA (aS qm_X8_35 qs_X8_isWithin qn_X8 qc_X8_isWithin)
theorem gX8_setStrength_X8_needArgument : GoodIn wsX8_setStrength (va_wsS RX8 39 yX8_needArgument wsX8_needArgument) := gA (aS qm_X8_39 qs_X8_needArgument qn_X8 qc_X8_needArgument)
theorem gX8_setStrength_X2_save : GoodIn wsX8_setStrength (wsV RX8 54 RX2 yX2_save wsX2_save) := gA (aV qm_X8_54 qi_X2_save ql_X2_save qn_X2 qc_X2_save)
theorem gX8_setStrength_X8_replace : GoodIn wsX8_setStrength (va_wsS RX8 73 yX8_replace wsX8_replace) := gA (aS qm_X8_73 qs_X8_replace qn_X8 qc_X8_replace)
theorem gX8_setTemperature_X8_isWithin : GoodIn wsX8_setTemperature (va_wsS RX8 35 yX8_isWithin wsX8_isWithin) := gA (aS qm_X8_35 qs_X8_isWithin qn_X8 qc_X8_isWithin)
theorem gX8_setTemperature_X8_needItem : GoodIn wsX8_setTemperature (va_wsS RX8 66 yX8_needItem wsX8_needItem) := gA (aS qm_X8_66 qs_X8_needItem qn_X8 qc_X8_needItem)
theorem gX8_setTemperature_X8_needArgument : GoodIn wsX8_setTemperature (va_wsS RX8 39 yX8_needArgument wsX8_needArgument) := gA (aS qm_X8_39 qs_X8_needArgument qn_X8 qc_X8_needArgument)
theorem gX8_setTemperature_X2_save : GoodIn wsX8_setTemperature (wsV RX8 54 RX2 yX2_save wsX2_save) := gA (aV qm_X8_54 qi_X2_save ql_X2_save qn_X2 qc_X2_save)
theorem gX8_setTemperature_X8_replace : GoodIn wsX8_setTemperature (va_wsS RX8 73 yX8_replace wsX8_replace) := gA (aS qm_X8_73 qs_X8_replace qn_X8 qc_X8_replace)
theorem gX8_set_X8_isWithin : GoodIn wsX8_set (va_wsS RX8 35 yX8_isWithin wsX8_isWithin) := gA (aS qm_X8_35 qs_X8_isWithin qn_X8 qc_X8_isWithin)
theorem gX8_set_X8_needItem : GoodIn wsX8_set (va_wsS RX8 66 yX8_needItem wsX8_needItem) := gA (aS qm_X8_66 qs_X8_needItem qn_X8 qc_X8_needItem)
theorem gX8_set_X8_valueAt : GoodIn wsX8_set (va_wsS RX8 86 yX8_valueAt wsX8_valueAt) := gA (aS qm_X8_86 qs_X8_valueAt qn_X8 qc_X8_valueAt)
theorem gX8_set_X8_needArgument : GoodIn wsX8_set (va_wsS RX8 39 yX8_needArgument wsX8_needArgument) := gA (aS qm_X8_39 qs_X8_needArgument qn_X8 qc_X8_needArgument)
theorem gX8_set_X2_save : GoodIn wsX8_set (wsV RX8 54 RX2 yX2_save wsX2_save) := gA (aV qm_X8_54 qi_X2_save ql_X2_save qn_X2 qc_X2_save)
theorem gX8_set_X8_replace : GoodIn wsX8_set (va_wsS RX8 73 yX8_replace wsX8_replace) := gA (aS qm_X8_73 qs_X8_replace qn_X8 qc_X8_replace)
theorem gX8_move_X8_moveFault : GoodIn wsX8_move (wsV RX8 96 RX8 yX8_moveFault wsX8_moveFault) := gA (aV qm_X8_96 qi_X8_moveFault ql_X8_moveFault qn_X8 qc_X8_moveFault)
theorem gX8_move_X8_refuse : GoodIn wsX8_move (va_wsS RX8 100 yX8_refuse wsX8_refuse) := gA (aS qm_X8_100 qs_X8_refuse qn_X8 qc_X8_refuse)
theorem gX8_move_X2_save : GoodIn wsX8_move (wsV RX8 54 RX2 yX2_save wsX2_save) := gA (aV qm_X8_54 qi_X2_save ql_X2_save qn_X2 qc_X2_save)
theorem gX8_move_X6_moveTop : GoodIn wsX8_move (wsV RX8 104 RX6 yX6_moveTop wsX6_moveTop) := gA (aV qm_X8_104 qi_X6_moveTop ql_X6_moveTop qn_X6 qc_X6_moveTop)
theorem gX8_pass_X8_passFault : GoodIn wsX8_pass (wsV RX8 107 RX8 yX8_passFault wsX8_passFault) := gA (aV qm_X8_107 qi_X8_passFault ql_X8_passFault qn_X8 qc_X8_passFault)
theorem gX8_pass_X8_refuse : GoodIn wsX8_pass (va_wsS RX8 100 yX8_refuse wsX8_refuse) := gA (aS qm_X8_100 qs_X8_refuse qn_X8 qc_X8_refuse)
theorem gX8_pass_X2_save : GoodIn wsX8_pass (wsV RX8 54 RX2 yX2_save wsX2_save) := gA (aV qm_X8_54 qi_X2_save ql_X2_save qn_X2 qc_X2_save)
theorem gX8_pass_X4_letPass : GoodIn wsX8_pass (wsV RX8 111 RX4 yX4_letPass wsX4_letPass) := gA (aV qm_X8_111 qi_X4_letPass ql_X4_letPass qn_X4 qc_X4_letPass)
theorem gX8_addBoat_X8_isWithin : GoodIn wsX8_addBoat (va_wsS RX8 35 yX8_isWithin wsX8_isWithin) := gA (aS qm_X8_35 qs_X8_isWithin qn_X8 qc_X8_isWithin)
theorem gX8_addBoat_X8_needArgument : GoodIn wsX8_addBoat (va_wsS RX8 39 yX8_needArgument wsX8_needArgument) := gA (aS qm_X8_39 qs_X8_needArgument qn_X8 qc_X8_needArgument)
theorem gX8_addBoat_X8_needState : GoodIn wsX8_addBoat (va_wsS RX8 51 yX8_needState wsX8_needState) := gA (aS qm_X8_51 qs_X8_needState qn_X8 qc_X8_needState)
theorem gX8_addBoat_X2_save : GoodIn wsX8_addBoat (wsV RX8 54 RX2 yX2_save wsX2_save) := gA (aV qm_X8_54 qi_X2_save ql_X2_save qn_X2 qc_X2_save)
theorem gX8_addBoat_X1_addOne : GoodIn wsX8_addBoat (wsV RX8 124 RX1 yX1_addOne wsX1_addOne) := gA (aV qm_X8_124 qi_X1_addOne ql_X1_addOne qn_X1 qc_X1_addOne)
theorem gX8_setCatch_X8_catchFault : GoodIn wsX8_setCatch (wsV RX8 126 RX8 yX8_catchFault wsX8_catchFault) := gA (aV qm_X8_126 qi_X8_catchFault ql_X8_catchFault qn_X8 qc_X8_catchFault)
theorem gX8_setCatch_X8_refuse : GoodIn wsX8_setCatch (va_wsS RX8 100 yX8_refuse wsX8_refuse) := gA (aS qm_X8_100 qs_X8_refuse qn_X8 qc_X8_refuse)
theorem gX8_setCatch_X2_save : GoodIn wsX8_setCatch (wsV RX8 54 RX2 yX2_save wsX2_save) := gA (aV qm_X8_54 qi_X2_save ql_X2_save qn_X2 qc_X2_save)
theorem gX8_setCatch_X8_replace : GoodIn wsX8_setCatch (va_wsS RX8 73 yX8_replace wsX8_replace) := gA (aS qm_X8_73 qs_X8_replace qn_X8 qc_X8_replace)
theorem gX8_order_X8_orderFault : GoodIn wsX8_order (wsV RX8 132 RX8 yX8_orderFault wsX8_orderFault) := gA (aV qm_X8_132 qi_X8_orderFault ql_X8_orderFault qn_X8 qc_X8_orderFault)
theorem gX8_order_X8_refuse : GoodIn wsX8_order (va_wsS RX8 100 yX8_refuse wsX8_refuse) := gA (aS qm_X8_100 qs_X8_refuse qn_X8 qc_X8_refuse)
theorem gX8_order_X2_save : GoodIn wsX8_order (wsV RX8 54 RX2 yX2_save wsX2_save) := gA (aV qm_X8_54 qi_X2_save ql_X2_save qn_X2 qc_X2_save)
theorem gX8_order_X3_place : GoodIn wsX8_order (wsV RX8 139 RX3 yX3_place wsX3_place) := gA (aV qm_X8_139 qi_X3_place ql_X3_place qn_X3 qc_X3_place)
theorem gX8_cancel_X3_has : GoodIn wsX8_cancel (wsV RX8 145 RX3 yX3_has wsX3_has) := gA (aV qm_X8_145 qi_X3_has ql_X3_has qn_X3 qc_X3_has)
theorem gX8_cancel_X8_needItem : GoodIn wsX8_cancel (va_wsS RX8 66 yX8_needItem wsX8_needItem) := gA (aS qm_X8_66 qs_X8_needItem qn_X8 qc_X8_needItem)
theorem gX8_cancel_X3_isOpen : GoodIn wsX8_cancel (wsV RX8 148 RX3 yX3_isOpen wsX3_isOpen) := gA (aV qm_X8_148 qi_X3_isOpen ql_X3_isOpen qn_X3 qc_X3_isOpen)
theorem gX8_cancel_X8_needState : GoodIn wsX8_cancel (va_wsS RX8 51 yX8_needState wsX8_needState) := gA (aS qm_X8_51 qs_X8_needState qn_X8 qc_X8_needState)
theorem gX8_cancel_X2_save : GoodIn wsX8_cancel (wsV RX8 54 RX2 yX2_save wsX2_save) := gA (aV qm_X8_54 qi_X2_save ql_X2_save qn_X2 qc_X2_save)
theorem gX8_cancel_X3_close : GoodIn wsX8_cancel (wsV RX8 151 RX3 yX3_close wsX3_close) := gA (aV qm_X8_151 qi_X3_close ql_X3_close qn_X3 qc_X3_close)
theorem gX8_cancel_X3_remaining : GoodIn wsX8_cancel (wsV RX8 155 RX3 yX3_remaining wsX3_remaining) := gA (aV qm_X8_155 qi_X3_remaining ql_X3_remaining qn_X3 qc_X3_remaining)
theorem gX8_pay_X8_payFault : GoodIn wsX8_pay (wsV RX8 158 RX8 yX8_payFault wsX8_payFault) := gA (aV qm_X8_158 qi_X8_payFault ql_X8_payFault qn_X8 qc_X8_payFault)
theorem gX8_pay_X8_refuse : GoodIn wsX8_pay (va_wsS RX8 100 yX8_refuse wsX8_refuse) := gA (aS qm_X8_100 qs_X8_refuse qn_X8 qc_X8_refuse)
theorem gX8_pay_X2_save : GoodIn wsX8_pay (wsV RX8 54 RX2 yX2_save wsX2_save) := gA (aV qm_X8_54 qi_X2_save ql_X2_save qn_X2 qc_X2_save)
theorem gX8_pay_X4_takePayment : GoodIn wsX8_pay (wsV RX8 161 RX4 yX4_takePayment wsX4_takePayment) := gA (aV qm_X8_161 qi_X4_takePayment ql_X4_takePayment qn_X4 qc_X4_takePayment)
theorem gX8_silo_X6_hasSilo : GoodIn wsX8_silo (wsV RX8 62 RX6 yX6_hasSilo wsX6_hasSilo) := gA (aV qm_X8_62 qi_X6_hasSilo ql_X6_hasSilo qn_X6 qc_X6_hasSilo)
theorem gX8_silo_X8_needItem : GoodIn wsX8_silo (va_wsS RX8 66 yX8_needItem wsX8_needItem) := gA (aS qm_X8_66 qs_X8_needItem qn_X8 qc_X8_needItem)
theorem gX8_silo_X8_isWithin : GoodIn wsX8_silo (va_wsS RX8 35 yX8_isWithin wsX8_isWithin) := gA (aS qm_X8_35 qs_X8_isWithin qn_X8 qc_X8_isWithin)
theorem gX8_silo_X8_needArgument : GoodIn wsX8_silo (va_wsS RX8 39 yX8_needArgument wsX8_needArgument) := gA (aS qm_X8_39 qs_X8_needArgument qn_X8 qc_X8_needArgument)
theorem gX8_silo_X6_siloProperty : GoodIn wsX8_silo (wsV RX8 164 RX6 yX6_siloProperty wsX6_siloProperty) := gA (aV qm_X8_164 qi_X6_siloProperty ql_X6_siloProperty qn_X6 qc_X6_siloProperty)
theorem gX8_block_X6_slotOf : GoodIn wsX8_block (wsV RX8 167 RX6 yX6_slotOf wsX6_slotOf) := gA (aV qm_X8_167 qi_X6_slotOf ql_X6_slotOf qn_X6 qc_X6_slotOf)
theorem gX8_block_X8_needItem : GoodIn wsX8_block (va_wsS RX8 66 yX8_needItem wsX8_needItem) := gA (aS qm_X8_66 qs_X8_needItem qn_X8 qc_X8_needItem)
theorem gX8_block_X8_isWithin : GoodIn wsX8_block (va_wsS RX8 35 yX8_isWithin wsX8_isWithin) := gA (aS qm_X8_35 qs_X8_isWithin qn_X8 qc_X8_isWithin)
theorem gX8_block_X8_needArgument : GoodIn wsX8_block (va_wsS RX8 39 yX8_needArgument wsX8_needArgument) := gA (aS qm_X8_39 qs_X8_needArgument qn_X8 qc_X8_needArgument)
theorem gX8_block_X6_blockProperty : GoodIn wsX8_block (wsV RX8 170 RX6 yX6_blockProperty wsX6_blockProperty) := gA (aV qm_X8_170 qi_X6_blockProperty ql_X6_blockProperty qn_X6 qc_X6_blockProperty)
theorem gX8_boat_X1_has : GoodIn wsX8_boat (wsV RX8 173 RX1 yX1_has wsX1_has) := gA (aV qm_X8_173 qi_X1_has ql_X1_has qn_X1 qc_X1_has)
theorem gX8_boat_X8_needItem : GoodIn wsX8_boat (va_wsS RX8 66 yX8_needItem wsX8_needItem) := gA (aS qm_X8_66 qs_X8_needItem qn_X8 qc_X8_needItem)
theorem gX8_boat_X8_isWithin : GoodIn wsX8_boat (va_wsS RX8 35 yX8_isWithin wsX8_isWithin) := gA (aS qm_X8_35 qs_X8_isWithin qn_X8 qc_X8_isWithin)
theorem gX8_boat_X8_needArgument : GoodIn wsX8_boat (va_wsS RX8 39 yX8_needArgument wsX8_needArgument) := gA (aS qm_X8_39 qs_X8_needArgument qn_X8 qc_X8_needArgument)
theorem gX8_boat_X3_openOf : GoodIn wsX8_boat (wsV RX8 174 RX3 yX3_openOf wsX3_openOf) := gA (aV qm_X8_174 qi_X3_openOf ql_X3_openOf qn_X3 qc_X3_openOf)
theorem gX8_boat_X1_property : GoodIn wsX8_boat (wsV RX8 177 RX1 yX1_property wsX1_property) := gA (aV qm_X8_177 qi_X1_property ql_X1_property qn_X1 qc_X1_property)
theorem gX8_orderProperty_X3_has : GoodIn wsX8_orderProperty (wsV RX8 145 RX3 yX3_has wsX3_has) := gA (aV qm_X8_145 qi_X3_has ql_X3_has qn_X3 qc_X3_has)
theorem gX8_orderProperty_X8_needItem : GoodIn wsX8_orderProperty (va_wsS RX8 66 yX8_needItem wsX8_needItem) := gA (aS qm_X8_66 qs_X8_needItem qn_X8 qc_X8_needItem)
theorem gX8_orderProperty_X8_isWithin : GoodIn wsX8_orderProperty (va_wsS RX8 35 yX8_isWithin wsX8_isWithin) := gA (aS qm_X8_35 qs_X8_isWithin qn_X8 qc_X8_isWithin)
theorem gX8_orderProperty_X8_needArgument : GoodIn wsX8_orderProperty (va_wsS RX8 39 yX8_needArgument wsX8_needArgument) := gA (aS qm_X8_39 qs_X8_needArgument qn_X8 qc_X8_needArgument)
theorem gX8_orderProperty_X4_ordersBefore : GoodIn wsX8_orderProperty (wsV RX8 180 RX4 yX4_ordersBefore wsX4_ordersBefore) := gA (aV qm_X8_180 qi_X4_ordersBefore ql_X4_ordersBefore qn_X4 qc_X4_ordersBefore)
theorem gX8_orderProperty_X3_property : GoodIn wsX8_orderProperty (wsV RX8 183 RX3 yX3_property wsX3_property) := gA (aV qm_X8_183 qi_X3_property ql_X3_property qn_X3 qc_X3_property)
theorem gX8_receipt_X5_kept : GoodIn wsX8_receipt (wsV RX8 188 RX5 yX5_kept wsX5_kept) := gA (aV qm_X8_188 qi_X5_kept ql_X5_kept qn_X5 qc_X5_kept)
theorem gX8_receipt_X8_isWithin : GoodIn wsX8_receipt (va_wsS RX8 35 yX8_isWithin wsX8_isWithin) := gA (aS qm_X8_35 qs_X8_isWithin qn_X8 qc_X8_isWithin)
theorem gX8_receipt_X8_needItem : GoodIn wsX8_receipt (va_wsS RX8 66 yX8_needItem wsX8_needItem) := gA (aS qm_X8_66 qs_X8_needItem qn_X8 qc_X8_needItem)
theorem gX8_receipt_X8_needArgument : GoodIn wsX8_receipt (va_wsS RX8 39 yX8_needArgument wsX8_needArgument) := gA (aS qm_X8_39 qs_X8_needArgument qn_X8 qc_X8_needArgument)
theorem gX8_receipt_X5_property : GoodIn wsX8_receipt (wsV RX8 194 RX5 yX5_property wsX5_property) := gA (aV qm_X8_194 qi_X5_property ql_X5_property qn_X5 qc_X5_property)
theorem gX8_account_X8_isWithin : GoodIn wsX8_account (va_wsS RX8 35 yX8_isWithin wsX8_isWithin) := gA (aS qm_X8_35 qs_X8_isWithin qn_X8 qc_X8_isWithin)
theorem gX8_account_X8_needItem : GoodIn wsX8_account (va_wsS RX8 66 yX8_needItem wsX8_needItem) := gA (aS qm_X8_66 qs_X8_needItem qn_X8 qc_X8_needItem)
theorem gX8_account_X8_needArgument : GoodIn wsX8_account (va_wsS RX8 39 yX8_needArgument wsX8_needArgument) := gA (aS qm_X8_39 qs_X8_needArgument qn_X8 qc_X8_needArgument)
theorem gX8_account_X0_property : GoodIn wsX8_account (wsV RX8 202 RX0 yX0_property wsX0_property) := gA (aV qm_X8_202 qi_X0_property ql_X0_property qn_X0 qc_X0_property)
theorem gX8_findAccount_X1_has : GoodIn wsX8_findAccount (wsV RX8 173 RX1 yX1_has wsX1_has) := gA (aV qm_X8_173 qi_X1_has ql_X1_has qn_X1 qc_X1_has)
theorem gX8_findAccount_X8_needItem : GoodIn wsX8_findAccount (va_wsS RX8 66 yX8_needItem wsX8_needItem) := gA (aS qm_X8_66 qs_X8_needItem qn_X8 qc_X8_needItem)
theorem gX8_findAccount_X8_isWithin : GoodIn wsX8_findAccount (va_wsS RX8 35 yX8_isWithin wsX8_isWithin) := gA (aS qm_X8_35 qs_X8_isWithin qn_X8 qc_X8_isWithin)
theorem gX8_findAccount_X8_needArgument : GoodIn wsX8_findAccount (va_wsS RX8 39 yX8_needArgument wsX8_needArgument) := gA (aS qm_X8_39 qs_X8_needArgument qn_X8 qc_X8_needArgument)
theorem gX8_findAccount_X0_find : GoodIn wsX8_findAccount (wsV RX8 205 RX0 yX0_find wsX0_find) := gA (aV qm_X8_205 qi_X0_find ql_X0_find qn_X0 qc_X0_find)
theorem gX8_setting_X8_isWithin : GoodIn wsX8_setting (va_wsS RX8 35 yX8_isWithin wsX8_isWithin) := gA (aS qm_X8_35 qs_X8_isWithin qn_X8 qc_X8_isWithin)
theorem gX8_setting_X8_needItem : GoodIn wsX8_setting (va_wsS RX8 66 yX8_needItem wsX8_needItem) := gA (aS qm_X8_66 qs_X8_needItem qn_X8 qc_X8_needItem)
theorem gX8_setting_X8_valueAt : GoodIn wsX8_setting (va_wsS RX8 86 yX8_valueAt wsX8_valueAt) := gA (aS qm_X8_86 qs_X8_valueAt qn_X8 qc_X8_valueAt)
theorem gX8_total_X8_isWithin : GoodIn wsX8_total (va_wsS RX8 35 yX8_isWithin wsX8_isWithin) := gA (aS qm_X8_35 qs_X8_isWithin qn_X8 qc_X8_isWithin)
theorem gX8_total_X8_needArgument : GoodIn wsX8_total (va_wsS RX8 39 yX8_needArgument wsX8_needArgument) := gA (aS qm_X8_39 qs_X8_needArgument qn_X8 qc_X8_needArgument)
theorem gX8_total_X4_totalOf : GoodIn wsX8_total (wsV RX8 209 RX4 yX4_totalOf wsX4_totalOf) := gA (aV qm_X8_209 qi_X4_totalOf ql_X4_totalOf qn_X4 qc_X4_totalOf)
theorem gX8_meanAge_X6_blocks : GoodIn wsX8_meanAge (wsV RX8 213 RX6 yX6_blocks wsX6_blocks) := gA (aV qm_X8_213 qi_X6_blocks ql_X6_blocks qn_X6 qc_X6_blocks)
theorem gX8_meanAge_X6_sumOfAges : GoodIn wsX8_meanAge (wsV RX8 216 RX6 yX6_sumOfAges wsX6_sumOfAges) := gA (aV qm_X8_216 qi_X6_sumOfAges ql_X6_sumOfAges qn_X6 qc_X6_sumOfAges)
theorem gX8_massAfter_X8_isWithin : GoodIn wsX8_massAfter (va_wsS RX8 35 yX8_isWithin wsX8_isWithin) := gA (aS qm_X8_35 qs_X8_isWithin qn_X8 qc_X8_isWithin)
theorem gX8_massAfter_X8_needArgument : GoodIn wsX8_massAfter (va_wsS RX8 39 yX8_needArgument wsX8_needArgument) := gA (aS qm_X8_39 qs_X8_needArgument qn_X8 qc_X8_needArgument)
theorem gX8_massAfter_X4_copyFrom : GoodIn wsX8_massAfter (wsV RX8 219 RX4 yX4_copyFrom wsX4_copyFrom) := gA (aV qm_X8_219 qi_X4_copyFrom ql_X4_copyFrom qn_X4 qc_X4_copyFrom)
theorem gX8_massAfter_X4_letPass : GoodIn wsX8_massAfter (wsV RX8 111 RX4 yX4_letPass wsX4_letPass) := gA (aV qm_X8_111 qi_X4_letPass ql_X4_letPass qn_X4 qc_X4_letPass)
theorem gX8_massAfter_X6_mass : GoodIn wsX8_massAfter (wsV RX8 222 RX6 yX6_mass wsX6_mass) := gA (aV qm_X8_222 qi_X6_mass ql_X6_mass qn_X6 qc_X6_mass)
theorem gX8_completeIn_X3_has : GoodIn wsX8_completeIn (wsV RX8 145 RX3 yX3_has wsX3_has) := gA (aV qm_X8_145 qi_X3_has ql_X3_has qn_X3 qc_X3_has)
theorem gX8_completeIn_X8_needItem : GoodIn wsX8_completeIn (va_wsS RX8 66 yX8_needItem wsX8_needItem) := gA (aS qm_X8_66 qs_X8_needItem qn_X8 qc_X8_needItem)
theorem gX8_completeIn_X3_isOpen : GoodIn wsX8_completeIn (wsV RX8 148 RX3 yX3_isOpen wsX3_isOpen) := gA (aV qm_X8_148 qi_X3_isOpen ql_X3_isOpen qn_X3 qc_X3_isOpen)
theorem gX8_completeIn_X8_needState : GoodIn wsX8_completeIn (va_wsS RX8 51 yX8_needState wsX8_needState) := gA (aS qm_X8_51 qs_X8_needState qn_X8 qc_X8_needState)
theorem gX8_completeIn_X4_copyFrom : GoodIn wsX8_completeIn (wsV RX8 219 RX4 yX4_copyFrom wsX4_copyFrom) := gA (aV qm_X8_219 qi_X4_copyFrom ql_X4_copyFrom qn_X4 qc_X4_copyFrom)
theorem gX8_completeIn_X4_passHour : GoodIn wsX8_completeIn (wsV RX8 225 RX4 yX4_passHour wsX4_passHour) := gA (aV qm_X8_225 qi_X4_passHour ql_X4_passHour qn_X4 qc_X4_passHour)
theorem gX8_completeIn_X3_isComplete : GoodIn wsX8_completeIn (wsV RX8 228 RX3 yX3_isComplete wsX3_isComplete) := gA (aV qm_X8_228 qi_X3_isComplete ql_X3_isComplete qn_X3 qc_X3_isComplete)
theorem gX8_bestRule_X6_hasSilo : GoodIn wsX8_bestRule (wsV RX8 62 RX6 yX6_hasSilo wsX6_hasSilo) := gA (aV qm_X8_62 qi_X6_hasSilo ql_X6_hasSilo qn_X6 qc_X6_hasSilo)
theorem gX8_bestRule_X8_needItem : GoodIn wsX8_bestRule (va_wsS RX8 66 yX8_needItem wsX8_needItem) := gA (aS qm_X8_66 qs_X8_needItem qn_X8 qc_X8_needItem)
theorem gX8_bestRule_X8_isWithin : GoodIn wsX8_bestRule (va_wsS RX8 35 yX8_isWithin wsX8_isWithin) := gA (aS qm_X8_35 qs_X8_isWithin qn_X8 qc_X8_isWithin)
theorem gX8_bestRule_X8_needArgument : GoodIn wsX8_bestRule (va_wsS RX8 39 yX8_needArgument wsX8_needArgument) := gA (aS qm_X8_39 qs_X8_needArgument qn_X8 qc_X8_needArgument)
theorem gX8_bestRule_X8_meltedWith : GoodIn wsX8_bestRule (wsV RX8 231 RX8 yX8_meltedWith wsX8_meltedWith) := gA (aV qm_X8_231 qi_X8_meltedWith ql_X8_meltedWith qn_X8 qc_X8_meltedWith)
theorem gX8_quote_X1_has : GoodIn wsX8_quote (wsV RX8 173 RX1 yX1_has wsX1_has) := gA (aV qm_X8_173 qi_X1_has ql_X1_has qn_X1 qc_X1_has)
theorem gX8_quote_X8_needItem : GoodIn wsX8_quote (va_wsS RX8 66 yX8_needItem wsX8_needItem) := gA (aS qm_X8_66 qs_X8_needItem qn_X8 qc_X8_needItem)
theorem gX8_quote_X8_isWithin : GoodIn wsX8_quote (va_wsS RX8 35 yX8_isWithin wsX8_isWithin) := gA (aS qm_X8_35 qs_X8_isWithin qn_X8 qc_X8_isWithin)
theorem gX8_quote_X8_needArgument : GoodIn wsX8_quote (va_wsS RX8 39 yX8_needArgument wsX8_needArgument) := gA (aS qm_X8_39 qs_X8_needArgument qn_X8 qc_X8_needArgument)
theorem gX8_quote_X4_priceOf : GoodIn wsX8_quote (wsV RX8 234 RX4 yX4_priceOf wsX4_priceOf) := gA (aV qm_X8_234 qi_X4_priceOf ql_X4_priceOf qn_X4 qc_X4_priceOf)
theorem gX8_append_X8_isWithin : GoodIn wsX8_append (va_wsS RX8 35 yX8_isWithin wsX8_isWithin) := gA (aS qm_X8_35 qs_X8_isWithin qn_X8 qc_X8_isWithin)
theorem gX8_append_X8_needArgument : GoodIn wsX8_append (va_wsS RX8 39 yX8_needArgument wsX8_needArgument) := gA (aS qm_X8_39 qs_X8_needArgument qn_X8 qc_X8_needArgument)
theorem gX8_append_X8_needState : GoodIn wsX8_append (va_wsS RX8 51 yX8_needState wsX8_needState) := gA (aS qm_X8_51 qs_X8_needState qn_X8 qc_X8_needState)
theorem gX8_append_X7_addSign : GoodIn wsX8_append (wsV RX8 240 RX7 yX7_addSign wsX7_addSign) := gA (aV qm_X8_240 qi_X7_addSign ql_X7_addSign qn_X7 qc_X7_addSign)
theorem gX8_clear_X7_empty : GoodIn wsX8_clear (wsV RX8 244 RX7 yX7_empty wsX7_empty) := gA (aV qm_X8_244 qi_X7_empty ql_X7_empty qn_X7 qc_X7_empty)
theorem gX8_errorPosition_X7_readAll : GoodIn wsX8_errorPosition (wsV RX8 247 RX7 yX7_readAll wsX7_readAll) := gA (aV qm_X8_247 qi_X7_readAll ql_X7_readAll qn_X7 qc_X7_readAll)
theorem gX8_errorKind_X7_readAll : GoodIn wsX8_errorKind (wsV RX8 247 RX7 yX7_readAll wsX7_readAll) := gA (aV qm_X8_247 qi_X7_readAll ql_X7_readAll qn_X7 qc_X7_readAll)
theorem gX8_execute_X7_readAll : GoodIn wsX8_execute (wsV RX8 247 RX7 yX7_readAll wsX7_readAll) := gA (aV qm_X8_247 qi_X7_readAll ql_X7_readAll qn_X7 qc_X7_readAll)
theorem gX8_execute_X8_needState : GoodIn wsX8_execute (va_wsS RX8 51 yX8_needState wsX8_needState) := gA (aS qm_X8_51 qs_X8_needState qn_X8 qc_X8_needState)
theorem gX8_execute_X2_save : GoodIn wsX8_execute (wsV RX8 54 RX2 yX2_save wsX2_save) := gA (aV qm_X8_54 qi_X2_save ql_X2_save qn_X2 qc_X2_save)
theorem gX8_execute_X7_start : GoodIn wsX8_execute (wsV RX8 256 RX7 yX7_start wsX7_start) := gA (aV qm_X8_256 qi_X7_start ql_X7_start qn_X7 qc_X7_start)
theorem gX8_execute_X7_hasCommand : GoodIn wsX8_execute (wsV RX8 259 RX7 yX7_hasCommand wsX7_hasCommand) := gA (aV qm_X8_259 qi_X7_hasCommand ql_X7_hasCommand qn_X7 qc_X7_hasCommand)
theorem gX8_execute_X7_readCommand : GoodIn wsX8_execute (wsV RX8 263 RX7 yX7_readCommand wsX7_readCommand) := gA (aV qm_X8_263 qi_X7_readCommand ql_X7_readCommand qn_X7 qc_X7_readCommand)
theorem gX8_execute_X8_commandFault : GoodIn wsX8_execute (wsV RX8 266 RX8 yX8_commandFault wsX8_commandFault) := gA (aV qm_X8_266 qi_X8_commandFault ql_X8_commandFault qn_X8 qc_X8_commandFault)
theorem gX8_execute_X8_runCommand : GoodIn wsX8_execute (wsV RX8 269 RX8 yX8_runCommand wsX8_runCommand) := gA (aV qm_X8_269 qi_X8_runCommand ql_X8_runCommand qn_X8 qc_X8_runCommand)
theorem gX8_execute_X7_empty : GoodIn wsX8_execute (wsV RX8 244 RX7 yX7_empty wsX7_empty) := gA (aV qm_X8_244 qi_X7_empty ql_X7_empty qn_X7 qc_X7_empty)
theorem gX8_undo_X8_needState : GoodIn wsX8_undo (va_wsS RX8 51 yX8_needState wsX8_needState) := gA (aS qm_X8_51 qs_X8_needState qn_X8 qc_X8_needState)
theorem gX8_undo_X2_restore : GoodIn wsX8_undo (wsV RX8 272 RX2 yX2_restore wsX2_restore) := gA (aV qm_X8_272 qi_X2_restore ql_X2_restore qn_X2 qc_X2_restore)
theorem gX8_needItem_X8_refuse : GoodIn wsX8_needItem (va_wsS RX8 100 yX8_refuse wsX8_refuse) := gA (aS qm_X8_100 qs_X8_refuse qn_X8 qc_X8_refuse)
theorem gX8_needArgument_X8_refuse : GoodIn wsX8_needArgument (va_wsS RX8 100 yX8_refuse wsX8_refuse) := gA (aS qm_X8_100 qs_X8_refuse qn_X8 qc_X8_refuse)
theorem gX8_needState_X8_refuse : GoodIn wsX8_needState (va_wsS RX8 100 yX8_refuse wsX8_refuse) := gA (aS qm_X8_100 qs_X8_refuse qn_X8 qc_X8_refuse)
theorem gX8_passFault_X8_isWithin : GoodIn wsX8_passFault (va_wsS RX8 35 yX8_isWithin wsX8_isWithin) := gA (aS qm_X8_35 qs_X8_isWithin qn_X8 qc_X8_isWithin)
theorem gX8_moveFault_X6_hasSilo : GoodIn wsX8_moveFault (wsV RX8 62 RX6 yX6_hasSilo wsX6_hasSilo) := gA (aV qm_X8_62 qi_X6_hasSilo ql_X6_hasSilo qn_X6 qc_X6_hasSilo)
theorem gX8_moveFault_X6_isEmpty : GoodIn wsX8_moveFault (wsV RX8 307 RX6 yX6_isEmpty wsX6_isEmpty) := gA (aV qm_X8_307 qi_X6_isEmpty ql_X6_isEmpty qn_X6 qc_X6_isEmpty)
theorem gX8_moveFault_X6_hasRoom : GoodIn wsX8_moveFault (wsV RX8 310 RX6 yX6_hasRoom wsX6_hasRoom) := gA (aV qm_X8_310 qi_X6_hasRoom ql_X6_hasRoom qn_X6 qc_X6_hasRoom)
theorem gX8_catchFault_X1_has : GoodIn wsX8_catchFault (wsV RX8 173 RX1 yX1_has wsX1_has) := gA (aV qm_X8_173 qi_X1_has ql_X1_has qn_X1 qc_X1_has)
theorem gX8_catchFault_X8_isWithin : GoodIn wsX8_catchFault (va_wsS RX8 35 yX8_isWithin wsX8_isWithin) := gA (aS qm_X8_35 qs_X8_isWithin qn_X8 qc_X8_isWithin)
theorem gX8_orderFault_X1_has : GoodIn wsX8_orderFault (wsV RX8 173 RX1 yX1_has wsX1_has) := gA (aV qm_X8_173 qi_X1_has ql_X1_has qn_X1 qc_X1_has)
theorem gX8_orderFault_X8_isWithin : GoodIn wsX8_orderFault (va_wsS RX8 35 yX8_isWithin wsX8_isWithin) := gA (aS qm_X8_35 qs_X8_isWithin qn_X8 qc_X8_isWithin)
theorem gX8_orderFault_X3_isFull : GoodIn wsX8_orderFault (wsV RX8 313 RX3 yX3_isFull wsX3_isFull) := gA (aV qm_X8_313 qi_X3_isFull ql_X3_isFull qn_X3 qc_X3_isFull)
theorem gX8_payFault_X1_has : GoodIn wsX8_payFault (wsV RX8 173 RX1 yX1_has wsX1_has) := gA (aV qm_X8_173 qi_X1_has ql_X1_has qn_X1 qc_X1_has)
theorem gX8_payFault_X8_isWithin : GoodIn wsX8_payFault (va_wsS RX8 35 yX8_isWithin wsX8_isWithin) := gA (aS qm_X8_35 qs_X8_isWithin qn_X8 qc_X8_isWithin)
theorem gX8_payFault_X8_valueAt : GoodIn wsX8_payFault (va_wsS RX8 86 yX8_valueAt wsX8_valueAt) := gA (aS qm_X8_86 qs_X8_valueAt qn_X8 qc_X8_valueAt)
theorem gX8_meltedWith_X4_copyFrom : GoodIn wsX8_meltedWith (wsV RX8 219 RX4 yX4_copyFrom wsX4_copyFrom) := gA (aV qm_X8_219 qi_X4_copyFrom ql_X4_copyFrom qn_X4 qc_X4_copyFrom)
theorem gX8_meltedWith_X8_replace : GoodIn wsX8_meltedWith (va_wsS RX8 73 yX8_replace wsX8_replace) := gA (aS qm_X8_73 qs_X8_replace qn_X8 qc_X8_replace)
theorem gX8_meltedWith_X4_letPass : GoodIn wsX8_meltedWith (wsV RX8 111 RX4 yX4_letPass wsX4_letPass) := gA (aV qm_X8_111 qi_X4_letPass ql_X4_letPass qn_X4 qc_X4_letPass)
theorem gX8_meltedWith_X6_meltedMass : GoodIn wsX8_meltedWith (wsV RX8 320 RX6 yX6_meltedMass wsX6_meltedMass) := gA (aV qm_X8_320 qi_X6_meltedMass ql_X6_meltedMass qn_X6 qc_X6_meltedMass)
theorem gX8_commandFault_X8_passFault : GoodIn wsX8_commandFault (wsV RX8 107 RX8 yX8_passFault wsX8_passFault) := gA (aV qm_X8_107 qi_X8_passFault ql_X8_passFault qn_X8 qc_X8_passFault)
theorem gX8_commandFault_X8_orderFault : GoodIn wsX8_commandFault (wsV RX8 132 RX8 yX8_orderFault wsX8_orderFault) := gA (aV qm_X8_132 qi_X8_orderFault ql_X8_orderFault qn_X8 qc_X8_orderFault)
theorem gX8_commandFault_X8_catchFault : GoodIn wsX8_commandFault (wsV RX8 126 RX8 yX8_catchFault wsX8_catchFault) := gA (aV qm_X8_126 qi_X8_catchFault ql_X8_catchFault qn_X8 qc_X8_catchFault)
theorem gX8_commandFault_X8_payFault : GoodIn wsX8_commandFault (wsV RX8 158 RX8 yX8_payFault wsX8_payFault) := gA (aV qm_X8_158 qi_X8_payFault ql_X8_payFault qn_X8 qc_X8_payFault)
theorem gX8_commandFault_X8_moveFault : GoodIn wsX8_commandFault (wsV RX8 96 RX8 yX8_moveFault wsX8_moveFault) := gA (aV qm_X8_96 qi_X8_moveFault ql_X8_moveFault qn_X8 qc_X8_moveFault)
theorem gX8_runCommand_X4_letPass : GoodIn wsX8_runCommand (wsV RX8 111 RX4 yX4_letPass wsX4_letPass) := gA (aV qm_X8_111 qi_X4_letPass ql_X4_letPass qn_X4 qc_X4_letPass)
theorem gX8_runCommand_X3_place : GoodIn wsX8_runCommand (wsV RX8 139 RX3 yX3_place wsX3_place) := gA (aV qm_X8_139 qi_X3_place ql_X3_place qn_X3 qc_X3_place)
theorem gX8_runCommand_X8_replace : GoodIn wsX8_runCommand (va_wsS RX8 73 yX8_replace wsX8_replace) := gA (aS qm_X8_73 qs_X8_replace qn_X8 qc_X8_replace)
theorem gX8_runCommand_X4_takePayment : GoodIn wsX8_runCommand (wsV RX8 161 RX4 yX4_takePayment wsX4_takePayment) := gA (aV qm_X8_161 qi_X4_takePayment ql_X4_takePayment qn_X4 qc_X4_takePayment)
theorem gX8_runCommand_X6_moveTop : GoodIn wsX8_runCommand (wsV RX8 104 RX6 yX6_moveTop wsX6_moveTop) := gA (aV qm_X8_104 qi_X6_moveTop ql_X6_moveTop qn_X6 qc_X6_moveTop)
theorem gX9_isSilo_X9_in : GoodIn wsX9_isSilo (va_wsS RX9 47 yX9_in wsX9_in) := gA (aS qm_X9_47 qs_X9_in qn_X9 qc_X9_in)
theorem gX9_isBoat_X9_in : GoodIn wsX9_isBoat (va_wsS RX9 47 yX9_in wsX9_in) := gA (aS qm_X9_47 qs_X9_in qn_X9 qc_X9_in)
theorem gX9_isOrder_X9_in : GoodIn wsX9_isOrder (va_wsS RX9 47 yX9_in wsX9_in) := gA (aS qm_X9_47 qs_X9_in qn_X9 qc_X9_in)
theorem gX9_addSilo_X9_in : GoodIn wsX9_addSilo (va_wsS RX9 47 yX9_in wsX9_in) := gA (aS qm_X9_47 qs_X9_in qn_X9 qc_X9_in)
theorem gX9_addSilo_X9_refuse : GoodIn wsX9_addSilo (wsV RX9 60 RX9 yX9_refuse wsX9_refuse) := gA (aV qm_X9_60 qi_X9_refuse ql_X9_refuse qn_X9 qc_X9_refuse)
theorem gX9_addSilo_X9_save : GoodIn wsX9_addSilo (wsV RX9 66 RX9 yX9_save wsX9_save) := gA (aV qm_X9_66 qi_X9_save ql_X9_save qn_X9 qc_X9_save)
theorem gX9_change_X9_save : GoodIn wsX9_change (wsV RX9 66 RX9 yX9_save wsX9_save) := gA (aV qm_X9_66 qi_X9_save ql_X9_save qn_X9 qc_X9_save)
theorem gX9_setRule_X9_isSilo : GoodIn wsX9_setRule (wsV RX9 69 RX9 yX9_isSilo wsX9_isSilo) := gA (aV qm_X9_69 qi_X9_isSilo ql_X9_isSilo qn_X9 qc_X9_isSilo)
theorem gX9_setRule_X9_refuse : GoodIn wsX9_setRule (wsV RX9 60 RX9 yX9_refuse wsX9_refuse) := gA (aV qm_X9_60 qi_X9_refuse ql_X9_refuse qn_X9 qc_X9_refuse)
theorem gX9_setRule_X9_in : GoodIn wsX9_setRule (va_wsS RX9 47 yX9_in wsX9_in) := gA (aS qm_X9_47 qs_X9_in qn_X9 qc_X9_in)
theorem gX9_setRule_X9_change : GoodIn wsX9_setRule (wsV RX9 73 RX9 yX9_change wsX9_change) := gA (aV qm_X9_73 qi_X9_change ql_X9_change qn_X9 qc_X9_change)
theorem gX9_setStrength_X9_isSilo : GoodIn wsX9_setStrength (wsV RX9 69 RX9 yX9_isSilo wsX9_isSilo) := gA (aV qm_X9_69 qi_X9_isSilo ql_X9_isSilo qn_X9 qc_X9_isSilo)
theorem gX9_setStrength_X9_refuse : GoodIn wsX9_setStrength (wsV RX9 60 RX9 yX9_refuse wsX9_refuse) := gA (aV qm_X9_60 qi_X9_refuse ql_X9_refuse qn_X9 qc_X9_refuse)
theorem gX9_setStrength_X9_in : GoodIn wsX9_setStrength (va_wsS RX9 47 yX9_in wsX9_in) := gA (aS qm_X9_47 qs_X9_in qn_X9 qc_X9_in)
theorem gX9_setStrength_X9_change : GoodIn wsX9_setStrength (wsV RX9 73 RX9 yX9_change wsX9_change) := gA (aV qm_X9_73 qi_X9_change ql_X9_change qn_X9 qc_X9_change)
theorem gX9_setTemperature_X9_in : GoodIn wsX9_setTemperature (va_wsS RX9 47 yX9_in wsX9_in) := gA (aS qm_X9_47 qs_X9_in qn_X9 qc_X9_in)
theorem gX9_setTemperature_X9_refuse : GoodIn wsX9_setTemperature (wsV RX9 60 RX9 yX9_refuse wsX9_refuse) := gA (aV qm_X9_60 qi_X9_refuse ql_X9_refuse qn_X9 qc_X9_refuse)
theorem gX9_setTemperature_X9_change : GoodIn wsX9_setTemperature (wsV RX9 73 RX9 yX9_change wsX9_change) := gA (aV qm_X9_73 qi_X9_change ql_X9_change qn_X9 qc_X9_change)
theorem gX9_set_X9_in : GoodIn wsX9_set (va_wsS RX9 47 yX9_in wsX9_in) := gA (aS qm_X9_47 qs_X9_in qn_X9 qc_X9_in)
theorem gX9_set_X9_refuse : GoodIn wsX9_set (wsV RX9 60 RX9 yX9_refuse wsX9_refuse) := gA (aV qm_X9_60 qi_X9_refuse ql_X9_refuse qn_X9 qc_X9_refuse)
theorem gX9_set_X9_least : GoodIn wsX9_set (va_wsS RX9 86 yX9_least wsX9_least) := gA (aS qm_X9_86 qs_X9_least qn_X9 qc_X9_least)
theorem gX9_set_X9_most : GoodIn wsX9_set (va_wsS RX9 89 yX9_most wsX9_most) := gA (aS qm_X9_89 qs_X9_most qn_X9 qc_X9_most)
theorem gX9_set_X9_change : GoodIn wsX9_set (wsV RX9 73 RX9 yX9_change wsX9_change) := gA (aV qm_X9_73 qi_X9_change ql_X9_change qn_X9 qc_X9_change)
theorem gX9_moveThrows_X9_isSilo : GoodIn wsX9_moveThrows (wsV RX9 69 RX9 yX9_isSilo wsX9_isSilo) := gA (aV qm_X9_69 qi_X9_isSilo ql_X9_isSilo qn_X9 qc_X9_isSilo)
theorem gX9_move_X9_moveThrows : GoodIn wsX9_move (wsV RX9 92 RX9 yX9_moveThrows wsX9_moveThrows) := gA (aV qm_X9_92 qi_X9_moveThrows ql_X9_moveThrows qn_X9 qc_X9_moveThrows)
theorem gX9_move_X9_refuse : GoodIn wsX9_move (wsV RX9 60 RX9 yX9_refuse wsX9_refuse) := gA (aV qm_X9_60 qi_X9_refuse ql_X9_refuse qn_X9 qc_X9_refuse)
theorem gX9_move_X9_save : GoodIn wsX9_move (wsV RX9 66 RX9 yX9_save wsX9_save) := gA (aV qm_X9_66 qi_X9_save ql_X9_save qn_X9 qc_X9_save)
theorem gX9_move_X9_doMove : GoodIn wsX9_move (wsV RX9 95 RX9 yX9_doMove wsX9_doMove) := gA (aV qm_X9_95 qi_X9_doMove ql_X9_doMove qn_X9 qc_X9_doMove)
theorem gX9_lossOf_X9_heat : GoodIn wsX9_lossOf (wsV RX9 102 RX9 yX9_heat wsX9_heat) := gA (aV qm_X9_102 qi_X9_heat ql_X9_heat qn_X9 qc_X9_heat)
theorem gX9_melt_X9_lossOf : GoodIn wsX9_melt (wsV RX9 106 RX9 yX9_lossOf wsX9_lossOf) := gA (aV qm_X9_106 qi_X9_lossOf ql_X9_lossOf qn_X9 qc_X9_lossOf)
theorem gX9_melt_X9_removeBlock : GoodIn wsX9_melt (wsV RX9 110 RX9 yX9_removeBlock wsX9_removeBlock) := gA (aV qm_X9_110 qi_X9_removeBlock ql_X9_removeBlock qn_X9 qc_X9_removeBlock)
theorem gX9_produce_X9_freeSilo : GoodIn wsX9_produce (wsV RX9 114 RX9 yX9_freeSilo wsX9_freeSilo) := gA (aV qm_X9_114 qi_X9_freeSilo ql_X9_freeSilo qn_X9 qc_X9_freeSilo)
theorem gX9_isBefore_X9_catchOf : GoodIn wsX9_isBefore (wsV RX9 118 RX9 yX9_catchOf wsX9_catchOf) := gA (aV qm_X9_118 qi_X9_catchOf ql_X9_catchOf qn_X9 qc_X9_catchOf)
theorem gX9_isBefore_X9_remaining : GoodIn wsX9_isBefore (wsV RX9 122 RX9 yX9_remaining wsX9_remaining) := gA (aV qm_X9_122 qi_X9_remaining ql_X9_remaining qn_X9 qc_X9_remaining)
theorem gX9_aheadOf_X9_isBefore : GoodIn wsX9_aheadOf (wsV RX9 125 RX9 yX9_isBefore wsX9_isBefore) := gA (aV qm_X9_125 qi_X9_isBefore ql_X9_isBefore qn_X9 qc_X9_isBefore)
theorem gX9_bandNow_X9_in : GoodIn wsX9_bandNow (va_wsS RX9 47 yX9_in wsX9_in) := gA (aS qm_X9_47 qs_X9_in qn_X9 qc_X9_in)
theorem gX9_enter_X9_bandNow : GoodIn wsX9_enter (wsV RX9 133 RX9 yX9_bandNow wsX9_bandNow) := gA (aV qm_X9_133 qi_X9_bandNow ql_X9_bandNow qn_X9 qc_X9_bandNow)
theorem gX9_enter_X9_accountOf : GoodIn wsX9_enter (wsV RX9 136 RX9 yX9_accountOf wsX9_accountOf) := gA (aV qm_X9_136 qi_X9_accountOf ql_X9_accountOf qn_X9 qc_X9_accountOf)
theorem gX9_serve_X9_stored : GoodIn wsX9_serve (wsV RX9 142 RX9 yX9_stored wsX9_stored) := gA (aV qm_X9_142 qi_X9_stored ql_X9_stored qn_X9 qc_X9_stored)
theorem gX9_serve_X9_remaining : GoodIn wsX9_serve (wsV RX9 122 RX9 yX9_remaining wsX9_remaining) := gA (aV qm_X9_122 qi_X9_remaining ql_X9_remaining qn_X9 qc_X9_remaining)
theorem gX9_serve_X9_oldest : GoodIn wsX9_serve (wsV RX9 145 RX9 yX9_oldest wsX9_oldest) := gA (aV qm_X9_145 qi_X9_oldest ql_X9_oldest qn_X9 qc_X9_oldest)
theorem gX9_serve_X9_bandNow : GoodIn wsX9_serve (wsV RX9 133 RX9 yX9_bandNow wsX9_bandNow) := gA (aV qm_X9_133 qi_X9_bandNow ql_X9_bandNow qn_X9 qc_X9_bandNow)
theorem gX9_serve_X9_priceOf : GoodIn wsX9_serve (wsV RX9 148 RX9 yX9_priceOf wsX9_priceOf) := gA (aV qm_X9_148 qi_X9_priceOf ql_X9_priceOf qn_X9 qc_X9_priceOf)
theorem gX9_serve_X9_removeBlock : GoodIn wsX9_serve (wsV RX9 110 RX9 yX9_removeBlock wsX9_removeBlock) := gA (aV qm_X9_110 qi_X9_removeBlock ql_X9_removeBlock qn_X9 qc_X9_removeBlock)
theorem gX9_serve_X9_enter : GoodIn wsX9_serve (wsV RX9 152 RX9 yX9_enter wsX9_enter) := gA (aV qm_X9_152 qi_X9_enter ql_X9_enter qn_X9 qc_X9_enter)
theorem gX9_serve_X9_giveReceipt : GoodIn wsX9_serve (wsV RX9 156 RX9 yX9_giveReceipt wsX9_giveReceipt) := gA (aV qm_X9_156 qi_X9_giveReceipt ql_X9_giveReceipt qn_X9 qc_X9_giveReceipt)
theorem gX9_deliver_X9_openMany : GoodIn wsX9_deliver (wsV RX9 159 RX9 yX9_openMany wsX9_openMany) := gA (aV qm_X9_159 qi_X9_openMany ql_X9_openMany qn_X9 qc_X9_openMany)
theorem gX9_deliver_X9_aheadOf : GoodIn wsX9_deliver (wsV RX9 162 RX9 yX9_aheadOf wsX9_aheadOf) := gA (aV qm_X9_162 qi_X9_aheadOf ql_X9_aheadOf qn_X9 qc_X9_aheadOf)
theorem gX9_deliver_X9_serve : GoodIn wsX9_deliver (wsV RX9 165 RX9 yX9_serve wsX9_serve) := gA (aV qm_X9_165 qi_X9_serve ql_X9_serve qn_X9 qc_X9_serve)
theorem gX9_hour_X9_melt : GoodIn wsX9_hour (wsV RX9 169 RX9 yX9_melt wsX9_melt) := gA (aV qm_X9_169 qi_X9_melt ql_X9_melt qn_X9 qc_X9_melt)
theorem gX9_hour_X9_produce : GoodIn wsX9_hour (wsV RX9 172 RX9 yX9_produce wsX9_produce) := gA (aV qm_X9_172 qi_X9_produce ql_X9_produce qn_X9 qc_X9_produce)
theorem gX9_hour_X9_deliver : GoodIn wsX9_hour (wsV RX9 175 RX9 yX9_deliver wsX9_deliver) := gA (aV qm_X9_175 qi_X9_deliver ql_X9_deliver qn_X9 qc_X9_deliver)
theorem gX9_hour_X9_expire : GoodIn wsX9_hour (wsV RX9 178 RX9 yX9_expire wsX9_expire) := gA (aV qm_X9_178 qi_X9_expire ql_X9_expire qn_X9 qc_X9_expire)
theorem gX9_passThrows_X9_in : GoodIn wsX9_passThrows (va_wsS RX9 47 yX9_in wsX9_in) := gA (aS qm_X9_47 qs_X9_in qn_X9 qc_X9_in)
theorem gX9_doPass_X9_hour : GoodIn wsX9_doPass (wsV RX9 185 RX9 yX9_hour wsX9_hour) := gA (aV qm_X9_185 qi_X9_hour ql_X9_hour qn_X9 qc_X9_hour)
theorem gX9_pass_X9_passThrows : GoodIn wsX9_pass (wsV RX9 188 RX9 yX9_passThrows wsX9_passThrows) := gA (aV qm_X9_188 qi_X9_passThrows ql_X9_passThrows qn_X9 qc_X9_passThrows)
theorem gX9_pass_X9_refuse : GoodIn wsX9_pass (wsV RX9 60 RX9 yX9_refuse wsX9_refuse) := gA (aV qm_X9_60 qi_X9_refuse ql_X9_refuse qn_X9 qc_X9_refuse)
theorem gX9_pass_X9_save : GoodIn wsX9_pass (wsV RX9 66 RX9 yX9_save wsX9_save) := gA (aV qm_X9_66 qi_X9_save ql_X9_save qn_X9 qc_X9_save)
theorem gX9_pass_X9_doPass : GoodIn wsX9_pass (wsV RX9 191 RX9 yX9_doPass wsX9_doPass) := gA (aV qm_X9_191 qi_X9_doPass ql_X9_doPass qn_X9 qc_X9_doPass)
theorem gX9_addBoat_X9_in : GoodIn wsX9_addBoat (va_wsS RX9 47 yX9_in wsX9_in) := gA (aS qm_X9_47 qs_X9_in qn_X9 qc_X9_in)
theorem gX9_addBoat_X9_refuse : GoodIn wsX9_addBoat (wsV RX9 60 RX9 yX9_refuse wsX9_refuse) := gA (aV qm_X9_60 qi_X9_refuse ql_X9_refuse qn_X9 qc_X9_refuse)
theorem gX9_addBoat_X9_save : GoodIn wsX9_addBoat (wsV RX9 66 RX9 yX9_save wsX9_save) := gA (aV qm_X9_66 qi_X9_save ql_X9_save qn_X9 qc_X9_save)
theorem gX9_catchThrows_X9_isBoat : GoodIn wsX9_catchThrows (wsV RX9 198 RX9 yX9_isBoat wsX9_isBoat) := gA (aV qm_X9_198 qi_X9_isBoat ql_X9_isBoat qn_X9 qc_X9_isBoat)
theorem gX9_catchThrows_X9_in : GoodIn wsX9_catchThrows (va_wsS RX9 47 yX9_in wsX9_in) := gA (aS qm_X9_47 qs_X9_in qn_X9 qc_X9_in)
theorem gX9_setCatch_X9_catchThrows : GoodIn wsX9_setCatch (wsV RX9 201 RX9 yX9_catchThrows wsX9_catchThrows) := gA (aV qm_X9_201 qi_X9_catchThrows ql_X9_catchThrows qn_X9 qc_X9_catchThrows)
theorem gX9_setCatch_X9_refuse : GoodIn wsX9_setCatch (wsV RX9 60 RX9 yX9_refuse wsX9_refuse) := gA (aV qm_X9_60 qi_X9_refuse ql_X9_refuse qn_X9 qc_X9_refuse)
theorem gX9_setCatch_X9_change : GoodIn wsX9_setCatch (wsV RX9 73 RX9 yX9_change wsX9_change) := gA (aV qm_X9_73 qi_X9_change ql_X9_change qn_X9 qc_X9_change)
theorem gX9_orderThrows_X9_isBoat : GoodIn wsX9_orderThrows (wsV RX9 198 RX9 yX9_isBoat wsX9_isBoat) := gA (aV qm_X9_198 qi_X9_isBoat ql_X9_isBoat qn_X9 qc_X9_isBoat)
theorem gX9_orderThrows_X9_in : GoodIn wsX9_orderThrows (va_wsS RX9 47 yX9_in wsX9_in) := gA (aS qm_X9_47 qs_X9_in qn_X9 qc_X9_in)
theorem gX9_orderThrows_X9_openMany : GoodIn wsX9_orderThrows (wsV RX9 159 RX9 yX9_openMany wsX9_openMany) := gA (aV qm_X9_159 qi_X9_openMany ql_X9_openMany qn_X9 qc_X9_openMany)
theorem gX9_order_X9_orderThrows : GoodIn wsX9_order (wsV RX9 208 RX9 yX9_orderThrows wsX9_orderThrows) := gA (aV qm_X9_208 qi_X9_orderThrows ql_X9_orderThrows qn_X9 qc_X9_orderThrows)
theorem gX9_order_X9_refuse : GoodIn wsX9_order (wsV RX9 60 RX9 yX9_refuse wsX9_refuse) := gA (aV qm_X9_60 qi_X9_refuse ql_X9_refuse qn_X9 qc_X9_refuse)
theorem gX9_order_X9_save : GoodIn wsX9_order (wsV RX9 66 RX9 yX9_save wsX9_save) := gA (aV qm_X9_66 qi_X9_save ql_X9_save qn_X9 qc_X9_save)
theorem gX9_order_X9_doOrder : GoodIn wsX9_order (wsV RX9 212 RX9 yX9_doOrder wsX9_doOrder) := gA (aV qm_X9_212 qi_X9_doOrder ql_X9_doOrder qn_X9 qc_X9_doOrder)
theorem gX9_cancel_X9_isOrder : GoodIn wsX9_cancel (wsV RX9 216 RX9 yX9_isOrder wsX9_isOrder) := gA (aV qm_X9_216 qi_X9_isOrder ql_X9_isOrder qn_X9 qc_X9_isOrder)
theorem gX9_cancel_X9_refuse : GoodIn wsX9_cancel (wsV RX9 60 RX9 yX9_refuse wsX9_refuse) := gA (aV qm_X9_60 qi_X9_refuse ql_X9_refuse qn_X9 qc_X9_refuse)
theorem gX9_cancel_X9_save : GoodIn wsX9_cancel (wsV RX9 66 RX9 yX9_save wsX9_save) := gA (aV qm_X9_66 qi_X9_save ql_X9_save qn_X9 qc_X9_save)
theorem gX9_cancel_X9_remaining : GoodIn wsX9_cancel (wsV RX9 122 RX9 yX9_remaining wsX9_remaining) := gA (aV qm_X9_122 qi_X9_remaining ql_X9_remaining qn_X9 qc_X9_remaining)
theorem gX9_payThrows_X9_isBoat : GoodIn wsX9_payThrows (wsV RX9 198 RX9 yX9_isBoat wsX9_isBoat) := gA (aV qm_X9_198 qi_X9_isBoat ql_X9_isBoat qn_X9 qc_X9_isBoat)
theorem gX9_payThrows_X9_in : GoodIn wsX9_payThrows (va_wsS RX9 47 yX9_in wsX9_in) := gA (aS qm_X9_47 qs_X9_in qn_X9 qc_X9_in)
theorem gX9_pay_X9_payThrows : GoodIn wsX9_pay (wsV RX9 221 RX9 yX9_payThrows wsX9_payThrows) := gA (aV qm_X9_221 qi_X9_payThrows ql_X9_payThrows qn_X9 qc_X9_payThrows)
theorem gX9_pay_X9_refuse : GoodIn wsX9_pay (wsV RX9 60 RX9 yX9_refuse wsX9_refuse) := gA (aV qm_X9_60 qi_X9_refuse ql_X9_refuse qn_X9 qc_X9_refuse)
theorem gX9_pay_X9_save : GoodIn wsX9_pay (wsV RX9 66 RX9 yX9_save wsX9_save) := gA (aV qm_X9_66 qi_X9_save ql_X9_save qn_X9 qc_X9_save)
theorem gX9_pay_X9_doPay : GoodIn wsX9_pay (wsV RX9 224 RX9 yX9_doPay wsX9_doPay) := gA (aV qm_X9_224 qi_X9_doPay ql_X9_doPay qn_X9 qc_X9_doPay)
theorem gX9_silo_X9_isSilo : GoodIn wsX9_silo (wsV RX9 69 RX9 yX9_isSilo wsX9_isSilo) := gA (aV qm_X9_69 qi_X9_isSilo ql_X9_isSilo qn_X9 qc_X9_isSilo)
theorem gX9_silo_X9_refuse : GoodIn wsX9_silo (wsV RX9 60 RX9 yX9_refuse wsX9_refuse) := gA (aV qm_X9_60 qi_X9_refuse ql_X9_refuse qn_X9 qc_X9_refuse)
theorem gX9_silo_X9_massIn : GoodIn wsX9_silo (wsV RX9 227 RX9 yX9_massIn wsX9_massIn) := gA (aV qm_X9_227 qi_X9_massIn ql_X9_massIn qn_X9 qc_X9_massIn)
theorem gX9_block_X9_isSilo : GoodIn wsX9_block (wsV RX9 69 RX9 yX9_isSilo wsX9_isSilo) := gA (aV qm_X9_69 qi_X9_isSilo ql_X9_isSilo qn_X9 qc_X9_isSilo)
theorem gX9_block_X9_in : GoodIn wsX9_block (va_wsS RX9 47 yX9_in wsX9_in) := gA (aS qm_X9_47 qs_X9_in qn_X9 qc_X9_in)
theorem gX9_block_X9_refuse : GoodIn wsX9_block (wsV RX9 60 RX9 yX9_refuse wsX9_refuse) := gA (aV qm_X9_60 qi_X9_refuse ql_X9_refuse qn_X9 qc_X9_refuse)
theorem gX9_boat_X9_isBoat : GoodIn wsX9_boat (wsV RX9 198 RX9 yX9_isBoat wsX9_isBoat) := gA (aV qm_X9_198 qi_X9_isBoat ql_X9_isBoat qn_X9 qc_X9_isBoat)
theorem gX9_boat_X9_refuse : GoodIn wsX9_boat (wsV RX9 60 RX9 yX9_refuse wsX9_refuse) := gA (aV qm_X9_60 qi_X9_refuse ql_X9_refuse qn_X9 qc_X9_refuse)
theorem gX9_boat_X9_openOf : GoodIn wsX9_boat (wsV RX9 230 RX9 yX9_openOf wsX9_openOf) := gA (aV qm_X9_230 qi_X9_openOf ql_X9_openOf qn_X9 qc_X9_openOf)
theorem gX9_orderProperty_X9_isOrder : GoodIn wsX9_orderProperty (wsV RX9 216 RX9 yX9_isOrder wsX9_isOrder) := gA (aV qm_X9_216 qi_X9_isOrder ql_X9_isOrder qn_X9 qc_X9_isOrder)
theorem gX9_orderProperty_X9_refuse : GoodIn wsX9_orderProperty (wsV RX9 60 RX9 yX9_refuse wsX9_refuse) := gA (aV qm_X9_60 qi_X9_refuse ql_X9_refuse qn_X9 qc_X9_refuse)
theorem gX9_orderProperty_X9_aheadOf : GoodIn wsX9_orderProperty (wsV RX9 162 RX9 yX9_aheadOf wsX9_aheadOf) := gA (aV qm_X9_162 qi_X9_aheadOf ql_X9_aheadOf qn_X9 qc_X9_aheadOf)
theorem gX9_receipt_X9_in : GoodIn wsX9_receipt (va_wsS RX9 47 yX9_in wsX9_in) := gA (aS qm_X9_47 qs_X9_in qn_X9 qc_X9_in)
theorem gX9_receipt_X9_refuse : GoodIn wsX9_receipt (wsV RX9 60 RX9 yX9_refuse wsX9_refuse) := gA (aV qm_X9_60 qi_X9_refuse ql_X9_refuse qn_X9 qc_X9_refuse)
theorem gX9_account_X9_in : GoodIn wsX9_account (va_wsS RX9 47 yX9_in wsX9_in) := gA (aS qm_X9_47 qs_X9_in qn_X9 qc_X9_in)
theorem gX9_account_X9_refuse : GoodIn wsX9_account (wsV RX9 60 RX9 yX9_refuse wsX9_refuse) := gA (aV qm_X9_60 qi_X9_refuse ql_X9_refuse qn_X9 qc_X9_refuse)
theorem gX9_findAccount_X9_isBoat : GoodIn wsX9_findAccount (wsV RX9 198 RX9 yX9_isBoat wsX9_isBoat) := gA (aV qm_X9_198 qi_X9_isBoat ql_X9_isBoat qn_X9 qc_X9_isBoat)
theorem gX9_findAccount_X9_refuse : GoodIn wsX9_findAccount (wsV RX9 60 RX9 yX9_refuse wsX9_refuse) := gA (aV qm_X9_60 qi_X9_refuse ql_X9_refuse qn_X9 qc_X9_refuse)
theorem gX9_findAccount_X9_in : GoodIn wsX9_findAccount (va_wsS RX9 47 yX9_in wsX9_in) := gA (aS qm_X9_47 qs_X9_in qn_X9 qc_X9_in)
theorem gX9_findAccount_X9_accountOf : GoodIn wsX9_findAccount (wsV RX9 136 RX9 yX9_accountOf wsX9_accountOf) := gA (aV qm_X9_136 qi_X9_accountOf ql_X9_accountOf qn_X9 qc_X9_accountOf)
theorem gX9_setting_X9_in : GoodIn wsX9_setting (va_wsS RX9 47 yX9_in wsX9_in) := gA (aS qm_X9_47 qs_X9_in qn_X9 qc_X9_in)
theorem gX9_setting_X9_refuse : GoodIn wsX9_setting (wsV RX9 60 RX9 yX9_refuse wsX9_refuse) := gA (aV qm_X9_60 qi_X9_refuse ql_X9_refuse qn_X9 qc_X9_refuse)
theorem gX9_total_X9_stored : GoodIn wsX9_total (wsV RX9 142 RX9 yX9_stored wsX9_stored) := gA (aV qm_X9_142 qi_X9_stored ql_X9_stored qn_X9 qc_X9_stored)
theorem gX9_total_X9_blocks : GoodIn wsX9_total (wsV RX9 233 RX9 yX9_blocks wsX9_blocks) := gA (aV qm_X9_233 qi_X9_blocks ql_X9_blocks qn_X9 qc_X9_blocks)
theorem gX9_total_X9_openMany : GoodIn wsX9_total (wsV RX9 159 RX9 yX9_openMany wsX9_openMany) := gA (aV qm_X9_159 qi_X9_openMany ql_X9_openMany qn_X9 qc_X9_openMany)
theorem gX9_total_X9_refuse : GoodIn wsX9_total (wsV RX9 60 RX9 yX9_refuse wsX9_refuse) := gA (aV qm_X9_60 qi_X9_refuse ql_X9_refuse qn_X9 qc_X9_refuse)
theorem gX9_meanAge_X9_blocks : GoodIn wsX9_meanAge (wsV RX9 233 RX9 yX9_blocks wsX9_blocks) := gA (aV qm_X9_233 qi_X9_blocks ql_X9_blocks qn_X9 qc_X9_blocks)
theorem gX9_massAfter_X9_in : GoodIn wsX9_massAfter (va_wsS RX9 47 yX9_in wsX9_in) := gA (aS qm_X9_47 qs_X9_in qn_X9 qc_X9_in)
theorem gX9_massAfter_X9_refuse : GoodIn wsX9_massAfter (wsV RX9 60 RX9 yX9_refuse wsX9_refuse) := gA (aV qm_X9_60 qi_X9_refuse ql_X9_refuse qn_X9 qc_X9_refuse)
theorem gX9_massAfter_X9_beginTrial : GoodIn wsX9_massAfter (wsV RX9 236 RX9 yX9_beginTrial wsX9_beginTrial) := gA (aV qm_X9_236 qi_X9_beginTrial ql_X9_beginTrial qn_X9 qc_X9_beginTrial)
theorem gX9_massAfter_X9_doPass : GoodIn wsX9_massAfter (wsV RX9 191 RX9 yX9_doPass wsX9_doPass) := gA (aV qm_X9_191 qi_X9_doPass ql_X9_doPass qn_X9 qc_X9_doPass)
theorem gX9_massAfter_X9_stored : GoodIn wsX9_massAfter (wsV RX9 142 RX9 yX9_stored wsX9_stored) := gA (aV qm_X9_142 qi_X9_stored ql_X9_stored qn_X9 qc_X9_stored)
theorem gX9_massAfter_X9_endTrial : GoodIn wsX9_massAfter (wsV RX9 239 RX9 yX9_endTrial wsX9_endTrial) := gA (aV qm_X9_239 qi_X9_endTrial ql_X9_endTrial qn_X9 qc_X9_endTrial)
theorem gX9_completeIn_X9_isOrder : GoodIn wsX9_completeIn (wsV RX9 216 RX9 yX9_isOrder wsX9_isOrder) := gA (aV qm_X9_216 qi_X9_isOrder ql_X9_isOrder qn_X9 qc_X9_isOrder)
theorem gX9_completeIn_X9_refuse : GoodIn wsX9_completeIn (wsV RX9 60 RX9 yX9_refuse wsX9_refuse) := gA (aV qm_X9_60 qi_X9_refuse ql_X9_refuse qn_X9 qc_X9_refuse)
theorem gX9_completeIn_X9_beginTrial : GoodIn wsX9_completeIn (wsV RX9 236 RX9 yX9_beginTrial wsX9_beginTrial) := gA (aV qm_X9_236 qi_X9_beginTrial ql_X9_beginTrial qn_X9 qc_X9_beginTrial)
theorem gX9_completeIn_X9_hour : GoodIn wsX9_completeIn (wsV RX9 185 RX9 yX9_hour wsX9_hour) := gA (aV qm_X9_185 qi_X9_hour ql_X9_hour qn_X9 qc_X9_hour)
theorem gX9_completeIn_X9_endTrial : GoodIn wsX9_completeIn (wsV RX9 239 RX9 yX9_endTrial wsX9_endTrial) := gA (aV qm_X9_239 qi_X9_endTrial ql_X9_endTrial qn_X9 qc_X9_endTrial)
theorem gX9_bestRule_X9_isSilo : GoodIn wsX9_bestRule (wsV RX9 69 RX9 yX9_isSilo wsX9_isSilo) := gA (aV qm_X9_69 qi_X9_isSilo ql_X9_isSilo qn_X9 qc_X9_isSilo)
theorem gX9_bestRule_X9_refuse : GoodIn wsX9_bestRule (wsV RX9 60 RX9 yX9_refuse wsX9_refuse) := gA (aV qm_X9_60 qi_X9_refuse ql_X9_refuse qn_X9 qc_X9_refuse)
theorem gX9_bestRule_X9_in : GoodIn wsX9_bestRule (va_wsS RX9 47 yX9_in wsX9_in) := gA (aS qm_X9_47 qs_X9_in qn_X9 qc_X9_in)
theorem gX9_bestRule_X9_beginTrial : GoodIn wsX9_bestRule (wsV RX9 236 RX9 yX9_beginTrial wsX9_beginTrial) := gA (aV qm_X9_236 qi_X9_beginTrial ql_X9_beginTrial qn_X9 qc_X9_beginTrial)
theorem gX9_bestRule_X9_doPass : GoodIn wsX9_bestRule (wsV RX9 191 RX9 yX9_doPass wsX9_doPass) := gA (aV qm_X9_191 qi_X9_doPass ql_X9_doPass qn_X9 qc_X9_doPass)
theorem gX9_bestRule_X9_endTrial : GoodIn wsX9_bestRule (wsV RX9 239 RX9 yX9_endTrial wsX9_endTrial) := gA (aV qm_X9_239 qi_X9_endTrial ql_X9_endTrial qn_X9 qc_X9_endTrial)
theorem gX9_quote_X9_isBoat : GoodIn wsX9_quote (wsV RX9 198 RX9 yX9_isBoat wsX9_isBoat) := gA (aV qm_X9_198 qi_X9_isBoat ql_X9_isBoat qn_X9 qc_X9_isBoat)
theorem gX9_quote_X9_refuse : GoodIn wsX9_quote (wsV RX9 60 RX9 yX9_refuse wsX9_refuse) := gA (aV qm_X9_60 qi_X9_refuse ql_X9_refuse qn_X9 qc_X9_refuse)
theorem gX9_quote_X9_in : GoodIn wsX9_quote (va_wsS RX9 47 yX9_in wsX9_in) := gA (aS qm_X9_47 qs_X9_in qn_X9 qc_X9_in)
theorem gX9_quote_X9_priceOf : GoodIn wsX9_quote (wsV RX9 148 RX9 yX9_priceOf wsX9_priceOf) := gA (aV qm_X9_148 qi_X9_priceOf ql_X9_priceOf qn_X9 qc_X9_priceOf)
theorem gX9_append_X9_in : GoodIn wsX9_append (va_wsS RX9 47 yX9_in wsX9_in) := gA (aS qm_X9_47 qs_X9_in qn_X9 qc_X9_in)
theorem gX9_append_X9_refuse : GoodIn wsX9_append (wsV RX9 60 RX9 yX9_refuse wsX9_refuse) := gA (aV qm_X9_60 qi_X9_refuse ql_X9_refuse qn_X9 qc_X9_refuse)
theorem gX9_readOne_X9_in : GoodIn wsX9_readOne (va_wsS RX9 47 yX9_in wsX9_in) := gA (aS qm_X9_47 qs_X9_in qn_X9 qc_X9_in)
theorem gX9_readOne_X9_needs : GoodIn wsX9_readOne (wsV RX9 264 RX9 yX9_needs wsX9_needs) := gA (aV qm_X9_264 qi_X9_needs ql_X9_needs qn_X9 qc_X9_needs)
theorem gX9_ends_X9_needs : GoodIn wsX9_ends (wsV RX9 264 RX9 yX9_needs wsX9_needs) := gA (aV qm_X9_264 qi_X9_needs ql_X9_needs qn_X9 qc_X9_needs)
theorem gX9_error_X9_readOne : GoodIn wsX9_error (wsV RX9 267 RX9 yX9_readOne wsX9_readOne) := gA (aV qm_X9_267 qi_X9_readOne ql_X9_readOne qn_X9 qc_X9_readOne)
theorem gX9_error_X9_ends : GoodIn wsX9_error (wsV RX9 270 RX9 yX9_ends wsX9_ends) := gA (aV qm_X9_270 qi_X9_ends ql_X9_ends qn_X9 qc_X9_ends)
theorem gX9_errorPosition_X9_error : GoodIn wsX9_errorPosition (wsV RX9 274 RX9 yX9_error wsX9_error) := gA (aV qm_X9_274 qi_X9_error ql_X9_error qn_X9 qc_X9_error)
theorem gX9_errorKind_X9_error : GoodIn wsX9_errorKind (wsV RX9 274 RX9 yX9_error wsX9_error) := gA (aV qm_X9_274 qi_X9_error ql_X9_error qn_X9 qc_X9_error)
theorem gX9_done_X9_passThrows : GoodIn wsX9_done (wsV RX9 188 RX9 yX9_passThrows wsX9_passThrows) := gA (aV qm_X9_188 qi_X9_passThrows ql_X9_passThrows qn_X9 qc_X9_passThrows)
theorem gX9_done_X9_orderThrows : GoodIn wsX9_done (wsV RX9 208 RX9 yX9_orderThrows wsX9_orderThrows) := gA (aV qm_X9_208 qi_X9_orderThrows ql_X9_orderThrows qn_X9 qc_X9_orderThrows)
theorem gX9_done_X9_catchThrows : GoodIn wsX9_done (wsV RX9 201 RX9 yX9_catchThrows wsX9_catchThrows) := gA (aV qm_X9_201 qi_X9_catchThrows ql_X9_catchThrows qn_X9 qc_X9_catchThrows)
theorem gX9_done_X9_payThrows : GoodIn wsX9_done (wsV RX9 221 RX9 yX9_payThrows wsX9_payThrows) := gA (aV qm_X9_221 qi_X9_payThrows ql_X9_payThrows qn_X9 qc_X9_payThrows)
theorem gX9_done_X9_moveThrows : GoodIn wsX9_done (wsV RX9 92 RX9 yX9_moveThrows wsX9_moveThrows) := gA (aV qm_X9_92 qi_X9_moveThrows ql_X9_moveThrows qn_X9 qc_X9_moveThrows)
theorem gX9_done_X9_doPass : GoodIn wsX9_done (wsV RX9 191 RX9 yX9_doPass wsX9_doPass) := gA (aV qm_X9_191 qi_X9_doPass ql_X9_doPass qn_X9 qc_X9_doPass)
theorem gX9_done_X9_doOrder : GoodIn wsX9_done (wsV RX9 212 RX9 yX9_doOrder wsX9_doOrder) := gA (aV qm_X9_212 qi_X9_doOrder ql_X9_doOrder qn_X9 qc_X9_doOrder)
theorem gX9_done_X9_doPay : GoodIn wsX9_done (wsV RX9 224 RX9 yX9_doPay wsX9_doPay) := gA (aV qm_X9_224 qi_X9_doPay ql_X9_doPay qn_X9 qc_X9_doPay)
theorem gX9_done_X9_doMove : GoodIn wsX9_done (wsV RX9 95 RX9 yX9_doMove wsX9_doMove) := gA (aV qm_X9_95 qi_X9_doMove ql_X9_doMove qn_X9 qc_X9_doMove)
theorem gX9_execute_X9_error : GoodIn wsX9_execute (wsV RX9 274 RX9 yX9_error wsX9_error) := gA (aV qm_X9_274 qi_X9_error ql_X9_error qn_X9 qc_X9_error)
theorem gX9_execute_X9_refuse : GoodIn wsX9_execute (wsV RX9 60 RX9 yX9_refuse wsX9_refuse) := gA (aV qm_X9_60 qi_X9_refuse ql_X9_refuse qn_X9 qc_X9_refuse)
theorem gX9_execute_X9_save : GoodIn wsX9_execute (wsV RX9 66 RX9 yX9_save wsX9_save) := gA (aV qm_X9_66 qi_X9_save ql_X9_save qn_X9 qc_X9_save)
theorem gX9_execute_X9_readOne : GoodIn wsX9_execute (wsV RX9 267 RX9 yX9_readOne wsX9_readOne) := gA (aV qm_X9_267 qi_X9_readOne ql_X9_readOne qn_X9 qc_X9_readOne)
theorem gX9_execute_X9_done : GoodIn wsX9_execute (wsV RX9 277 RX9 yX9_done wsX9_done) := gA (aV qm_X9_277 qi_X9_done ql_X9_done qn_X9 qc_X9_done)
theorem gX9_undo_X9_refuse : GoodIn wsX9_undo (wsV RX9 60 RX9 yX9_refuse wsX9_refuse) := gA (aV qm_X9_60 qi_X9_refuse ql_X9_refuse qn_X9 qc_X9_refuse)
theorem gL_addSilo_X8_addSilo : GoodIn wsL_addSilo (wsV RL 7 RX8 yX8_addSilo wsX8_addSilo) := gA (aV qm_L_7 qi_X8_addSilo ql_X8_addSilo qn_X8 qc_X8_addSilo)
theorem gL_setRule_X8_setRule : GoodIn wsL_setRule (wsV RL 17 RX8 yX8_setRule wsX8_setRule) := gA (aV qm_L_17 qi_X8_setRule ql_X8_setRule qn_X8 qc_X8_setRule)
theorem gL_setStrength_X8_setStrength : GoodIn wsL_setStrength (wsV RL 23 RX8 yX8_setStrength wsX8_setStrength) := gA (aV qm_L_23 qi_X8_setStrength ql_X8_setStrength qn_X8 qc_X8_setStrength)
theorem gL_setTemperature_X8_setTemperature : GoodIn wsL_setTemperature (wsV RL 26 RX8 yX8_setTemperature wsX8_setTemperature) := gA (aV qm_L_26 qi_X8_setTemperature ql_X8_setTemperature qn_X8 qc_X8_setTemperature)
theorem gL_set_X8_set : GoodIn wsL_set (wsV RL 29 RX8 yX8_set wsX8_set) := gA (aV qm_L_29 qi_X8_set ql_X8_set qn_X8 qc_X8_set)
theorem gL_move_X8_move : GoodIn wsL_move (wsV RL 32 RX8 yX8_move wsX8_move) := gA (aV qm_L_32 qi_X8_move ql_X8_move qn_X8 qc_X8_move)
theorem gL_pass_X8_pass : GoodIn wsL_pass (wsV RL 35 RX8 yX8_pass wsX8_pass) := gA (aV qm_L_35 qi_X8_pass ql_X8_pass qn_X8 qc_X8_pass)
theorem gL_addBoat_X8_addBoat : GoodIn wsL_addBoat (wsV RL 39 RX8 yX8_addBoat wsX8_addBoat) := gA (aV qm_L_39 qi_X8_addBoat ql_X8_addBoat qn_X8 qc_X8_addBoat)
theorem gL_setCatch_X8_setCatch : GoodIn wsL_setCatch (wsV RL 42 RX8 yX8_setCatch wsX8_setCatch) := gA (aV qm_L_42 qi_X8_setCatch ql_X8_setCatch qn_X8 qc_X8_setCatch)
theorem gL_order_X8_order : GoodIn wsL_order (wsV RL 45 RX8 yX8_order wsX8_order) := gA (aV qm_L_45 qi_X8_order ql_X8_order qn_X8 qc_X8_order)
theorem gL_cancel_X8_cancel : GoodIn wsL_cancel (wsV RL 49 RX8 yX8_cancel wsX8_cancel) := gA (aV qm_L_49 qi_X8_cancel ql_X8_cancel qn_X8 qc_X8_cancel)
theorem gL_pay_X8_pay : GoodIn wsL_pay (wsV RL 52 RX8 yX8_pay wsX8_pay) := gA (aV qm_L_52 qi_X8_pay ql_X8_pay qn_X8 qc_X8_pay)
theorem gL_silo_X8_silo : GoodIn wsL_silo (wsV RL 55 RX8 yX8_silo wsX8_silo) := gA (aV qm_L_55 qi_X8_silo ql_X8_silo qn_X8 qc_X8_silo)
theorem gL_block_X8_block : GoodIn wsL_block (wsV RL 58 RX8 yX8_block wsX8_block) := gA (aV qm_L_58 qi_X8_block ql_X8_block qn_X8 qc_X8_block)
theorem gL_boat_X8_boat : GoodIn wsL_boat (wsV RL 61 RX8 yX8_boat wsX8_boat) := gA (aV qm_L_61 qi_X8_boat ql_X8_boat qn_X8 qc_X8_boat)
theorem gL_orderProperty_X8_orderProperty : GoodIn wsL_orderProperty (wsV RL 64 RX8 yX8_orderProperty wsX8_orderProperty) := gA (aV qm_L_64 qi_X8_orderProperty ql_X8_orderProperty qn_X8 qc_X8_orderProperty)
theorem gL_receipt_X8_receipt : GoodIn wsL_receipt (wsV RL 67 RX8 yX8_receipt wsX8_receipt) := gA (aV qm_L_67 qi_X8_receipt ql_X8_receipt qn_X8 qc_X8_receipt)
theorem gL_account_X8_account : GoodIn wsL_account (wsV RL 70 RX8 yX8_account wsX8_account) := gA (aV qm_L_70 qi_X8_account ql_X8_account qn_X8 qc_X8_account)
theorem gL_findAccount_X8_findAccount : GoodIn wsL_findAccount (wsV RL 74 RX8 yX8_findAccount wsX8_findAccount) := gA (aV qm_L_74 qi_X8_findAccount ql_X8_findAccount qn_X8 qc_X8_findAccount)
theorem gL_setting_X8_setting : GoodIn wsL_setting (wsV RL 77 RX8 yX8_setting wsX8_setting) := gA (aV qm_L_77 qi_X8_setting ql_X8_setting qn_X8 qc_X8_setting)
theorem gL_total_X8_total : GoodIn wsL_total (wsV RL 80 RX8 yX8_total wsX8_total) := gA (aV qm_L_80 qi_X8_total ql_X8_total qn_X8 qc_X8_total)
theorem gL_massAfter_X8_massAfter : GoodIn wsL_massAfter (wsV RL 84 RX8 yX8_massAfter wsX8_massAfter) := gA (aV qm_L_84 qi_X8_massAfter ql_X8_massAfter qn_X8 qc_X8_massAfter)
theorem gL_completeIn_X8_completeIn : GoodIn wsL_completeIn (wsV RL 87 RX8 yX8_completeIn wsX8_completeIn) := gA (aV qm_L_87 qi_X8_completeIn ql_X8_completeIn qn_X8 qc_X8_completeIn)
theorem gL_bestRule_X8_bestRule : GoodIn wsL_bestRule (wsV RL 90 RX8 yX8_bestRule wsX8_bestRule) := gA (aV qm_L_90 qi_X8_bestRule ql_X8_bestRule qn_X8 qc_X8_bestRule)
theorem gL_quote_X8_quote : GoodIn wsL_quote (wsV RL 93 RX8 yX8_quote wsX8_quote) := gA (aV qm_L_93 qi_X8_quote ql_X8_quote qn_X8 qc_X8_quote)
theorem gL_append_X8_append : GoodIn wsL_append (wsV RL 96 RX8 yX8_append wsX8_append) := gA (aV qm_L_96 qi_X8_append ql_X8_append qn_X8 qc_X8_append)
theorem gL_execute_X8_execute : GoodIn wsL_execute (wsV RL 99 RX8 yX8_execute wsX8_execute) := gA (aV qm_L_99 qi_X8_execute ql_X8_execute qn_X8 qc_X8_execute)
theorem gL_undo_X8_undo : GoodIn wsL_undo (wsV RL 103 RX8 yX8_undo wsX8_undo) := gA (aV qm_L_103 qi_X8_undo ql_X8_undo qn_X8 qc_X8_undo)
theorem gL_law_X8_init : GoodIn lwA (wsX8_init) := gL (aC qc_X8_init)
theorem gL_law_X9_init : GoodIn lwA (wsX9_init) := gL (aC qc_X9_init)
theorem gL_law_L_addSilo : GoodIn lwA (va_wsS RL 110 yL_addSilo wsL_addSilo) := gL (aS qm_L_110 qs_L_addSilo qn_L qc_L_addSilo)
theorem gL_law_X9_addSilo : GoodIn lwA (wsV RL 115 RX9 yX9_addSilo wsX9_addSilo) := gL (aV qm_L_115 qi_X9_addSilo ql_X9_addSilo qn_X9 qc_X9_addSilo)
theorem gL_law_X9_thrown : GoodIn lwA (wsV RL 116 RX9 yX9_thrown wsX9_thrown) := gL (aV qm_L_116 qi_X9_thrown ql_X9_thrown qn_X9 qc_X9_thrown)
theorem gL_law_L_setRule : GoodIn lwA (va_wsS RL 119 yL_setRule wsL_setRule) := gL (aS qm_L_119 qs_L_setRule qn_L qc_L_setRule)
theorem gL_law_X9_setRule : GoodIn lwA (wsV RL 122 RX9 yX9_setRule wsX9_setRule) := gL (aV qm_L_122 qi_X9_setRule ql_X9_setRule qn_X9 qc_X9_setRule)
theorem gL_law_L_setStrength : GoodIn lwA (va_wsS RL 123 yL_setStrength wsL_setStrength) := gL (aS qm_L_123 qs_L_setStrength qn_L qc_L_setStrength)
theorem gL_law_X9_setStrength : GoodIn lwA (wsV RL 125 RX9 yX9_setStrength wsX9_setStrength) := gL (aV qm_L_125 qi_X9_setStrength ql_X9_setStrength qn_X9 qc_X9_setStrength)
theorem gL_law_L_setTemperature : GoodIn lwA (va_wsS RL 126 yL_setTemperature wsL_setTemperature) := gL (aS qm_L_126 qs_L_setTemperature qn_L qc_L_setTemperature)
theorem gL_law_X9_setTemperature : GoodIn lwA (wsV RL 128 RX9 yX9_setTemperature wsX9_setTemperature) := gL (aV qm_L_128 qi_X9_setTemperature ql_X9_setTemperature qn_X9 qc_X9_setTemperature)
theorem gL_law_L_set : GoodIn lwA (va_wsS RL 129 yL_set wsL_set) := gL (aS qm_L_129 qs_L_set qn_L qc_L_set)
theorem gL_law_X9_set : GoodIn lwA (wsV RL 131 RX9 yX9_set wsX9_set) := gL (aV qm_L_131 qi_X9_set ql_X9_set qn_X9 qc_X9_set)
theorem gL_law_L_move : GoodIn lwA (va_wsS RL 132 yL_move wsL_move) := gL (aS qm_L_132 qs_L_move qn_L qc_L_move)
theorem gL_law_X9_move : GoodIn lwA (wsV RL 134 RX9 yX9_move wsX9_move) := gL (aV qm_L_134 qi_X9_move ql_X9_move qn_X9 qc_X9_move)
theorem gL_law_L_pass : GoodIn lwA (va_wsS RL 135 yL_pass wsL_pass) := gL (aS qm_L_135 qs_L_pass qn_L qc_L_pass)
theorem gL_law_X9_pass : GoodIn lwA (wsV RL 138 RX9 yX9_pass wsX9_pass) := gL (aV qm_L_138 qi_X9_pass ql_X9_pass qn_X9 qc_X9_pass)
theorem gL_law_L_addBoat : GoodIn lwA (va_wsS RL 139 yL_addBoat wsL_addBoat) := gL (aS qm_L_139 qs_L_addBoat qn_L qc_L_addBoat)
theorem gL_law_X9_addBoat : GoodIn lwA (wsV RL 141 RX9 yX9_addBoat wsX9_addBoat) := gL (aV qm_L_141 qi_X9_addBoat ql_X9_addBoat qn_X9 qc_X9_addBoat)
theorem gL_law_L_setCatch : GoodIn lwA (va_wsS RL 142 yL_setCatch wsL_setCatch) := gL (aS qm_L_142 qs_L_setCatch qn_L qc_L_setCatch)
theorem gL_law_X9_setCatch : GoodIn lwA (wsV RL 144 RX9 yX9_setCatch wsX9_setCatch) := gL (aV qm_L_144 qi_X9_setCatch ql_X9_setCatch qn_X9 qc_X9_setCatch)
theorem gL_law_L_order : GoodIn lwA (va_wsS RL 145 yL_order wsL_order) := gL (aS qm_L_145 qs_L_order qn_L qc_L_order)
theorem gL_law_X9_order : GoodIn lwA (wsV RL 148 RX9 yX9_order wsX9_order) := gL (aV qm_L_148 qi_X9_order ql_X9_order qn_X9 qc_X9_order)
theorem gL_law_L_cancel : GoodIn lwA (va_wsS RL 149 yL_cancel wsL_cancel) := gL (aS qm_L_149 qs_L_cancel qn_L qc_L_cancel)
theorem gL_law_X9_cancel : GoodIn lwA (wsV RL 151 RX9 yX9_cancel wsX9_cancel) := gL (aV qm_L_151 qi_X9_cancel ql_X9_cancel qn_X9 qc_X9_cancel)
theorem gL_law_L_pay : GoodIn lwA (va_wsS RL 152 yL_pay wsL_pay) := gL (aS qm_L_152 qs_L_pay qn_L qc_L_pay)
theorem gL_law_X9_pay : GoodIn lwA (wsV RL 154 RX9 yX9_pay wsX9_pay) := gL (aV qm_L_154 qi_X9_pay ql_X9_pay qn_X9 qc_X9_pay)
theorem gL_law_L_silo : GoodIn lwA (va_wsS RL 155 yL_silo wsL_silo) := gL (aS qm_L_155 qs_L_silo qn_L qc_L_silo)
theorem gL_law_X9_silo : GoodIn lwA (wsV RL 157 RX9 yX9_silo wsX9_silo) := gL (aV qm_L_157 qi_X9_silo ql_X9_silo qn_X9 qc_X9_silo)
theorem gL_law_L_block : GoodIn lwA (va_wsS RL 158 yL_block wsL_block) := gL (aS qm_L_158 qs_L_block qn_L qc_L_block)
theorem gL_law_X9_block : GoodIn lwA (wsV RL 160 RX9 yX9_block wsX9_block) := gL (aV qm_L_160 qi_X9_block ql_X9_block qn_X9 qc_X9_block)
theorem gL_law_L_boat : GoodIn lwA (va_wsS RL 161 yL_boat wsL_boat) := gL (aS qm_L_161 qs_L_boat qn_L qc_L_boat)
theorem gL_law_X9_boat : GoodIn lwA (wsV RL 163 RX9 yX9_boat wsX9_boat) := gL (aV qm_L_163 qi_X9_boat ql_X9_boat qn_X9 qc_X9_boat)
theorem gL_law_L_orderProperty : GoodIn lwA (va_wsS RL 164 yL_orderProperty wsL_orderProperty) := gL (aS qm_L_164 qs_L_orderProperty qn_L qc_L_orderProperty)
theorem gL_law_X9_orderProperty : GoodIn lwA (wsV RL 166 RX9 yX9_orderProperty wsX9_orderProperty) := gL (aV qm_L_166 qi_X9_orderProperty ql_X9_orderProperty qn_X9 qc_X9_orderProperty)
theorem gL_law_L_receipt : GoodIn lwA (va_wsS RL 167 yL_receipt wsL_receipt) := gL (aS qm_L_167 qs_L_receipt qn_L qc_L_receipt)
theorem gL_law_X9_receipt : GoodIn lwA (wsV RL 169 RX9 yX9_receipt wsX9_receipt) := gL (aV qm_L_169 qi_X9_receipt ql_X9_receipt qn_X9 qc_X9_receipt)
theorem gL_law_L_account : GoodIn lwA (va_wsS RL 170 yL_account wsL_account) := gL (aS qm_L_170 qs_L_account qn_L qc_L_account)
theorem gL_law_X9_account : GoodIn lwA (wsV RL 172 RX9 yX9_account wsX9_account) := gL (aV qm_L_172 qi_X9_account ql_X9_account qn_X9 qc_X9_account)
theorem gL_law_L_findAccount : GoodIn lwA (va_wsS RL 173 yL_findAccount wsL_findAccount) := gL (aS qm_L_173 qs_L_findAccount qn_L qc_L_findAccount)
theorem gL_law_X9_findAccount : GoodIn lwA (wsV RL 175 RX9 yX9_findAccount wsX9_findAccount) := gL (aV qm_L_175 qi_X9_findAccount ql_X9_findAccount qn_X9 qc_X9_findAccount)
theorem gL_law_L_setting : GoodIn lwA (va_wsS RL 176 yL_setting wsL_setting) := gL (aS qm_L_176 qs_L_setting qn_L qc_L_setting)
theorem gL_law_X9_setting : GoodIn lwA (wsV RL 178 RX9 yX9_setting wsX9_setting) := gL (aV qm_L_178 qi_X9_setting ql_X9_setting qn_X9 qc_X9_setting)
theorem gL_law_L_total : GoodIn lwA (va_wsS RL 179 yL_total wsL_total) := gL (aS qm_L_179 qs_L_total qn_L qc_L_total)
theorem gL_law_X9_total : GoodIn lwA (wsV RL 181 RX9 yX9_total wsX9_total) := gL (aV qm_L_181 qi_X9_total ql_X9_total qn_X9 qc_X9_total)
theorem gL_law_X8_meanAge : GoodIn lwA (wsV RL 182 RX8 yX8_meanAge wsX8_meanAge) := gL (aV qm_L_182 qi_X8_meanAge ql_X8_meanAge qn_X8 qc_X8_meanAge)
theorem gL_law_X9_meanAge : GoodIn lwA (wsV RL 186 RX9 yX9_meanAge wsX9_meanAge) := gL (aV qm_L_186 qi_X9_meanAge ql_X9_meanAge qn_X9 qc_X9_meanAge)
theorem gL_law_L_massAfter : GoodIn lwA (va_wsS RL 187 yL_massAfter wsL_massAfter) := gL (aS qm_L_187 qs_L_massAfter qn_L qc_L_massAfter)
theorem gL_law_X9_massAfter : GoodIn lwA (wsV RL 189 RX9 yX9_massAfter wsX9_massAfter) := gL (aV qm_L_189 qi_X9_massAfter ql_X9_massAfter qn_X9 qc_X9_massAfter)
theorem gL_law_L_completeIn : GoodIn lwA (va_wsS RL 190 yL_completeIn wsL_completeIn) := gL (aS qm_L_190 qs_L_completeIn qn_L qc_L_completeIn)
theorem gL_law_X9_completeIn : GoodIn lwA (wsV RL 192 RX9 yX9_completeIn wsX9_completeIn) := gL (aV qm_L_192 qi_X9_completeIn ql_X9_completeIn qn_X9 qc_X9_completeIn)
theorem gL_law_L_bestRule : GoodIn lwA (va_wsS RL 193 yL_bestRule wsL_bestRule) := gL (aS qm_L_193 qs_L_bestRule qn_L qc_L_bestRule)
theorem gL_law_X9_bestRule : GoodIn lwA (wsV RL 195 RX9 yX9_bestRule wsX9_bestRule) := gL (aV qm_L_195 qi_X9_bestRule ql_X9_bestRule qn_X9 qc_X9_bestRule)
theorem gL_law_L_quote : GoodIn lwA (va_wsS RL 196 yL_quote wsL_quote) := gL (aS qm_L_196 qs_L_quote qn_L qc_L_quote)
theorem gL_law_X9_quote : GoodIn lwA (wsV RL 198 RX9 yX9_quote wsX9_quote) := gL (aV qm_L_198 qi_X9_quote ql_X9_quote qn_X9 qc_X9_quote)
theorem gL_law_L_append : GoodIn lwA (va_wsS RL 199 yL_append wsL_append) := gL (aS qm_L_199 qs_L_append qn_L qc_L_append)
theorem gL_law_X9_append : GoodIn lwA (wsV RL 201 RX9 yX9_append wsX9_append) := gL (aV qm_L_201 qi_X9_append ql_X9_append qn_X9 qc_X9_append)
theorem gL_law_X8_clear : GoodIn lwA (wsV RL 202 RX8 yX8_clear wsX8_clear) := gL (aV qm_L_202 qi_X8_clear ql_X8_clear qn_X8 qc_X8_clear)
theorem gL_law_X9_clear : GoodIn lwA (wsV RL 205 RX9 yX9_clear wsX9_clear) := gL (aV qm_L_205 qi_X9_clear ql_X9_clear qn_X9 qc_X9_clear)
theorem gL_law_X8_errorPosition : GoodIn lwA (wsV RL 206 RX8 yX8_errorPosition wsX8_errorPosition) := gL (aV qm_L_206 qi_X8_errorPosition ql_X8_errorPosition qn_X8 qc_X8_errorPosition)
theorem gL_law_X9_errorPosition : GoodIn lwA (wsV RL 209 RX9 yX9_errorPosition wsX9_errorPosition) := gL (aV qm_L_209 qi_X9_errorPosition ql_X9_errorPosition qn_X9 qc_X9_errorPosition)
theorem gL_law_X8_errorKind : GoodIn lwA (wsV RL 210 RX8 yX8_errorKind wsX8_errorKind) := gL (aV qm_L_210 qi_X8_errorKind ql_X8_errorKind qn_X8 qc_X8_errorKind)
theorem gL_law_X9_errorKind : GoodIn lwA (wsV RL 213 RX9 yX9_errorKind wsX9_errorKind) := gL (aV qm_L_213 qi_X9_errorKind ql_X9_errorKind qn_X9 qc_X9_errorKind)
theorem gL_law_L_execute : GoodIn lwA (va_wsS RL 214 yL_execute wsL_execute) := gL (aS qm_L_214 qs_L_execute qn_L qc_L_execute)
theorem gL_law_X9_execute : GoodIn lwA (wsV RL 217 RX9 yX9_execute wsX9_execute) := gL (aV qm_L_217 qi_X9_execute ql_X9_execute qn_X9 qc_X9_execute)
theorem gL_law_L_undo : GoodIn lwA (va_wsS RL 218 yL_undo wsL_undo) := gL (aS qm_L_218 qs_L_undo qn_L qc_L_undo)
theorem gL_law_X9_undo : GoodIn lwA (wsV RL 220 RX9 yX9_undo wsX9_undo) := gL (aV qm_L_220 qi_X9_undo ql_X9_undo qn_X9 qc_X9_undo)
theorem cd_X0_init : yX0_init.cls = RX0 ∧ yX0_init.cls ≠ "java/lang/invoke/MethodHandle" ∧ yX0_init.cls ≠ "java/lang/invoke/VarHandle" ∧ (parseMethodDescriptor yX0_init.desc).map (fun d => d.parameters.length) = some 0 := by decide +kernel
theorem cd_X0_copyFrom : yX0_copyFrom.cls = RX0 ∧ yX0_copyFrom.cls ≠ "java/lang/invoke/MethodHandle" ∧ yX0_copyFrom.cls ≠ "java/lang/invoke/VarHandle" ∧ (parseMethodDescriptor yX0_copyFrom.desc).map (fun d => d.parameters.length) = some 1 := by decide +kernel
theorem cd_X0_find : yX0_find.cls = RX0 ∧ yX0_find.cls ≠ "java/lang/invoke/MethodHandle" ∧ yX0_find.cls ≠ "java/lang/invoke/VarHandle" ∧ (parseMethodDescriptor yX0_find.desc).map (fun d => d.parameters.length) = some 2 := by decide +kernel
theorem cd_X0_enter : yX0_enter.cls = RX0 ∧ yX0_enter.cls ≠ "java/lang/invoke/MethodHandle" ∧ yX0_enter.cls ≠ "java/lang/invoke/VarHandle" ∧ (parseMethodDescriptor yX0_enter.desc).map (fun d => d.parameters.length) = some 4 := by decide +kernel
theorem cd_X0_property : yX0_property.cls = RX0 ∧ yX0_property.cls ≠ "java/lang/invoke/MethodHandle" ∧ yX0_property.cls ≠ "java/lang/invoke/VarHandle" ∧ (parseMethodDescriptor yX0_property.desc).map (fun d => d.parameters.length) = some 2 := by decide +kernel
theorem cd_X1_init : yX1_init.cls = RX1 ∧ yX1_init.cls ≠ "java/lang/invoke/MethodHandle" ∧ yX1_init.cls ≠ "java/lang/invoke/VarHandle" ∧ (parseMethodDescriptor yX1_init.desc).map (fun d => d.parameters.length) = some 0 := by decide +kernel
theorem cd_X1_copyFrom : yX1_copyFrom.cls = RX1 ∧ yX1_copyFrom.cls ≠ "java/lang/invoke/MethodHandle" ∧ yX1_copyFrom.cls ≠ "java/lang/invoke/VarHandle" ∧ (parseMethodDescriptor yX1_copyFrom.desc).map (fun d => d.parameters.length) = some 1 := by decide +kernel
theorem cd_X1_has : yX1_has.cls = RX1 ∧ yX1_has.cls ≠ "java/lang/invoke/MethodHandle" ∧ yX1_has.cls ≠ "java/lang/invoke/VarHandle" ∧ (parseMethodDescriptor yX1_has.desc).map (fun d => d.parameters.length) = some 1 := by decide +kernel
theorem cd_X1_addOne : yX1_addOne.cls = RX1 ∧ yX1_addOne.cls ≠ "java/lang/invoke/MethodHandle" ∧ yX1_addOne.cls ≠ "java/lang/invoke/VarHandle" ∧ (parseMethodDescriptor yX1_addOne.desc).map (fun d => d.parameters.length) = some 1 := by decide +kernel
theorem cd_X1_charge : yX1_charge.cls = RX1 ∧ yX1_charge.cls ≠ "java/lang/invoke/MethodHandle" ∧ yX1_charge.cls ≠ "java/lang/invoke/VarHandle" ∧ (parseMethodDescriptor yX1_charge.desc).map (fun d => d.parameters.length) = some 3 := by decide +kernel
theorem cd_X1_reduceDebt : yX1_reduceDebt.cls = RX1 ∧ yX1_reduceDebt.cls ≠ "java/lang/invoke/MethodHandle" ∧ yX1_reduceDebt.cls ≠ "java/lang/invoke/VarHandle" ∧ (parseMethodDescriptor yX1_reduceDebt.desc).map (fun d => d.parameters.length) = some 2 := by decide +kernel
theorem cd_X1_property : yX1_property.cls = RX1 ∧ yX1_property.cls ≠ "java/lang/invoke/MethodHandle" ∧ yX1_property.cls ≠ "java/lang/invoke/VarHandle" ∧ (parseMethodDescriptor yX1_property.desc).map (fun d => d.parameters.length) = some 2 := by decide +kernel
theorem cd_X2_init : yX2_init.cls = RX2 ∧ yX2_init.cls ≠ "java/lang/invoke/MethodHandle" ∧ yX2_init.cls ≠ "java/lang/invoke/VarHandle" ∧ (parseMethodDescriptor yX2_init.desc).map (fun d => d.parameters.length) = some 0 := by decide +kernel
theorem cd_X2_save : yX2_save.cls = RX2 ∧ yX2_save.cls ≠ "java/lang/invoke/MethodHandle" ∧ yX2_save.cls ≠ "java/lang/invoke/VarHandle" ∧ (parseMethodDescriptor yX2_save.desc).map (fun d => d.parameters.length) = some 1 := by decide +kernel
theorem cd_X2_restore : yX2_restore.cls = RX2 ∧ yX2_restore.cls ≠ "java/lang/invoke/MethodHandle" ∧ yX2_restore.cls ≠ "java/lang/invoke/VarHandle" ∧ (parseMethodDescriptor yX2_restore.desc).map (fun d => d.parameters.length) = some 1 := by decide +kernel
theorem cd_X3_init : yX3_init.cls = RX3 ∧ yX3_init.cls ≠ "java/lang/invoke/MethodHandle" ∧ yX3_init.cls ≠ "java/lang/invoke/VarHandle" ∧ (parseMethodDescriptor yX3_init.desc).map (fun d => d.parameters.length) = some 0 := by decide +kernel
theorem cd_X3_copyFrom : yX3_copyFrom.cls = RX3 ∧ yX3_copyFrom.cls ≠ "java/lang/invoke/MethodHandle" ∧ yX3_copyFrom.cls ≠ "java/lang/invoke/VarHandle" ∧ (parseMethodDescriptor yX3_copyFrom.desc).map (fun d => d.parameters.length) = some 1 := by decide +kernel
theorem cd_X3_has : yX3_has.cls = RX3 ∧ yX3_has.cls ≠ "java/lang/invoke/MethodHandle" ∧ yX3_has.cls ≠ "java/lang/invoke/VarHandle" ∧ (parseMethodDescriptor yX3_has.desc).map (fun d => d.parameters.length) = some 1 := by decide +kernel
theorem cd_X3_isOpen : yX3_isOpen.cls = RX3 ∧ yX3_isOpen.cls ≠ "java/lang/invoke/MethodHandle" ∧ yX3_isOpen.cls ≠ "java/lang/invoke/VarHandle" ∧ (parseMethodDescriptor yX3_isOpen.desc).map (fun d => d.parameters.length) = some 1 := by decide +kernel
theorem cd_X3_isComplete : yX3_isComplete.cls = RX3 ∧ yX3_isComplete.cls ≠ "java/lang/invoke/MethodHandle" ∧ yX3_isComplete.cls ≠ "java/lang/invoke/VarHandle" ∧ (parseMethodDescriptor yX3_isComplete.desc).map (fun d => d.parameters.length) = some 1 := by decide +kernel
theorem cd_X3_isWhole : yX3_isWhole.cls = RX3 ∧ yX3_isWhole.cls ≠ "java/lang/invoke/MethodHandle" ∧ yX3_isWhole.cls ≠ "java/lang/invoke/VarHandle" ∧ (parseMethodDescriptor yX3_isWhole.desc).map (fun d => d.parameters.length) = some 1 := by decide +kernel
theorem cd_X3_isFull : yX3_isFull.cls = RX3 ∧ yX3_isFull.cls ≠ "java/lang/invoke/MethodHandle" ∧ yX3_isFull.cls ≠ "java/lang/invoke/VarHandle" ∧ (parseMethodDescriptor yX3_isFull.desc).map (fun d => d.parameters.length) = some 0 := by decide +kernel
theorem cd_X3_place : yX3_place.cls = RX3 ∧ yX3_place.cls ≠ "java/lang/invoke/MethodHandle" ∧ yX3_place.cls ≠ "java/lang/invoke/VarHandle" ∧ (parseMethodDescriptor yX3_place.desc).map (fun d => d.parameters.length) = some 4 := by decide +kernel
theorem cd_X3_remaining : yX3_remaining.cls = RX3 ∧ yX3_remaining.cls ≠ "java/lang/invoke/MethodHandle" ∧ yX3_remaining.cls ≠ "java/lang/invoke/VarHandle" ∧ (parseMethodDescriptor yX3_remaining.desc).map (fun d => d.parameters.length) = some 1 := by decide +kernel
theorem cd_X3_deliver : yX3_deliver.cls = RX3 ∧ yX3_deliver.cls ≠ "java/lang/invoke/MethodHandle" ∧ yX3_deliver.cls ≠ "java/lang/invoke/VarHandle" ∧ (parseMethodDescriptor yX3_deliver.desc).map (fun d => d.parameters.length) = some 2 := by decide +kernel
theorem cd_X3_close : yX3_close.cls = RX3 ∧ yX3_close.cls ≠ "java/lang/invoke/MethodHandle" ∧ yX3_close.cls ≠ "java/lang/invoke/VarHandle" ∧ (parseMethodDescriptor yX3_close.desc).map (fun d => d.parameters.length) = some 2 := by decide +kernel
theorem cd_X3_expire : yX3_expire.cls = RX3 ∧ yX3_expire.cls ≠ "java/lang/invoke/MethodHandle" ∧ yX3_expire.cls ≠ "java/lang/invoke/VarHandle" ∧ (parseMethodDescriptor yX3_expire.desc).map (fun d => d.parameters.length) = some 0 := by decide +kernel
theorem cd_X3_openOf : yX3_openOf.cls = RX3 ∧ yX3_openOf.cls ≠ "java/lang/invoke/MethodHandle" ∧ yX3_openOf.cls ≠ "java/lang/invoke/VarHandle" ∧ (parseMethodDescriptor yX3_openOf.desc).map (fun d => d.parameters.length) = some 1 := by decide +kernel
theorem cd_X3_arrange : yX3_arrange.cls = RX3 ∧ yX3_arrange.cls ≠ "java/lang/invoke/MethodHandle" ∧ yX3_arrange.cls ≠ "java/lang/invoke/VarHandle" ∧ (parseMethodDescriptor yX3_arrange.desc).map (fun d => d.parameters.length) = some 2 := by decide +kernel
theorem cd_X3_openBefore : yX3_openBefore.cls = RX3 ∧ yX3_openBefore.cls ≠ "java/lang/invoke/MethodHandle" ∧ yX3_openBefore.cls ≠ "java/lang/invoke/VarHandle" ∧ (parseMethodDescriptor yX3_openBefore.desc).map (fun d => d.parameters.length) = some 3 := by decide +kernel
theorem cd_X3_comesBefore : yX3_comesBefore.cls = RX3 ∧ yX3_comesBefore.cls ≠ "java/lang/invoke/MethodHandle" ∧ yX3_comesBefore.cls ≠ "java/lang/invoke/VarHandle" ∧ (parseMethodDescriptor yX3_comesBefore.desc).map (fun d => d.parameters.length) = some 4 := by decide +kernel
theorem cd_X3_property : yX3_property.cls = RX3 ∧ yX3_property.cls ≠ "java/lang/invoke/MethodHandle" ∧ yX3_property.cls ≠ "java/lang/invoke/VarHandle" ∧ (parseMethodDescriptor yX3_property.desc).map (fun d => d.parameters.length) = some 2 := by decide +kernel
theorem cd_X4_init : yX4_init.cls = RX4 ∧ yX4_init.cls ≠ "java/lang/invoke/MethodHandle" ∧ yX4_init.cls ≠ "java/lang/invoke/VarHandle" ∧ (parseMethodDescriptor yX4_init.desc).map (fun d => d.parameters.length) = some 0 := by decide +kernel
theorem cd_X4_copyFrom : yX4_copyFrom.cls = RX4 ∧ yX4_copyFrom.cls ≠ "java/lang/invoke/MethodHandle" ∧ yX4_copyFrom.cls ≠ "java/lang/invoke/VarHandle" ∧ (parseMethodDescriptor yX4_copyFrom.desc).map (fun d => d.parameters.length) = some 1 := by decide +kernel
theorem cd_X4_letPass : yX4_letPass.cls = RX4 ∧ yX4_letPass.cls ≠ "java/lang/invoke/MethodHandle" ∧ yX4_letPass.cls ≠ "java/lang/invoke/VarHandle" ∧ (parseMethodDescriptor yX4_letPass.desc).map (fun d => d.parameters.length) = some 1 := by decide +kernel
theorem cd_X4_passHour : yX4_passHour.cls = RX4 ∧ yX4_passHour.cls ≠ "java/lang/invoke/MethodHandle" ∧ yX4_passHour.cls ≠ "java/lang/invoke/VarHandle" ∧ (parseMethodDescriptor yX4_passHour.desc).map (fun d => d.parameters.length) = some 0 := by decide +kernel
theorem cd_X4_produce : yX4_produce.cls = RX4 ∧ yX4_produce.cls ≠ "java/lang/invoke/MethodHandle" ∧ yX4_produce.cls ≠ "java/lang/invoke/VarHandle" ∧ (parseMethodDescriptor yX4_produce.desc).map (fun d => d.parameters.length) = some 0 := by decide +kernel
theorem cd_X4_serve : yX4_serve.cls = RX4 ∧ yX4_serve.cls ≠ "java/lang/invoke/MethodHandle" ∧ yX4_serve.cls ≠ "java/lang/invoke/VarHandle" ∧ (parseMethodDescriptor yX4_serve.desc).map (fun d => d.parameters.length) = some 2 := by decide +kernel
theorem cd_X4_isSkipped : yX4_isSkipped.cls = RX4 ∧ yX4_isSkipped.cls ≠ "java/lang/invoke/MethodHandle" ∧ yX4_isSkipped.cls ≠ "java/lang/invoke/VarHandle" ∧ (parseMethodDescriptor yX4_isSkipped.desc).map (fun d => d.parameters.length) = some 2 := by decide +kernel
theorem cd_X4_priceOf : yX4_priceOf.cls = RX4 ∧ yX4_priceOf.cls ≠ "java/lang/invoke/MethodHandle" ∧ yX4_priceOf.cls ≠ "java/lang/invoke/VarHandle" ∧ (parseMethodDescriptor yX4_priceOf.desc).map (fun d => d.parameters.length) = some 3 := by decide +kernel
theorem cd_X4_takePayment : yX4_takePayment.cls = RX4 ∧ yX4_takePayment.cls ≠ "java/lang/invoke/MethodHandle" ∧ yX4_takePayment.cls ≠ "java/lang/invoke/VarHandle" ∧ (parseMethodDescriptor yX4_takePayment.desc).map (fun d => d.parameters.length) = some 2 := by decide +kernel
theorem cd_X4_ordersBefore : yX4_ordersBefore.cls = RX4 ∧ yX4_ordersBefore.cls ≠ "java/lang/invoke/MethodHandle" ∧ yX4_ordersBefore.cls ≠ "java/lang/invoke/VarHandle" ∧ (parseMethodDescriptor yX4_ordersBefore.desc).map (fun d => d.parameters.length) = some 1 := by decide +kernel
theorem cd_X4_totalOf : yX4_totalOf.cls = RX4 ∧ yX4_totalOf.cls ≠ "java/lang/invoke/MethodHandle" ∧ yX4_totalOf.cls ≠ "java/lang/invoke/VarHandle" ∧ (parseMethodDescriptor yX4_totalOf.desc).map (fun d => d.parameters.length) = some 1 := by decide +kernel
theorem cd_X5_init : yX5_init.cls = RX5 ∧ yX5_init.cls ≠ "java/lang/invoke/MethodHandle" ∧ yX5_init.cls ≠ "java/lang/invoke/VarHandle" ∧ (parseMethodDescriptor yX5_init.desc).map (fun d => d.parameters.length) = some 0 := by decide +kernel
theorem cd_X5_copyFrom : yX5_copyFrom.cls = RX5 ∧ yX5_copyFrom.cls ≠ "java/lang/invoke/MethodHandle" ∧ yX5_copyFrom.cls ≠ "java/lang/invoke/VarHandle" ∧ (parseMethodDescriptor yX5_copyFrom.desc).map (fun d => d.parameters.length) = some 1 := by decide +kernel
theorem cd_X5_kept : yX5_kept.cls = RX5 ∧ yX5_kept.cls ≠ "java/lang/invoke/MethodHandle" ∧ yX5_kept.cls ≠ "java/lang/invoke/VarHandle" ∧ (parseMethodDescriptor yX5_kept.desc).map (fun d => d.parameters.length) = some 0 := by decide +kernel
theorem cd_X5_write : yX5_write.cls = RX5 ∧ yX5_write.cls ≠ "java/lang/invoke/MethodHandle" ∧ yX5_write.cls ≠ "java/lang/invoke/VarHandle" ∧ (parseMethodDescriptor yX5_write.desc).map (fun d => d.parameters.length) = some 4 := by decide +kernel
theorem cd_X5_property : yX5_property.cls = RX5 ∧ yX5_property.cls ≠ "java/lang/invoke/MethodHandle" ∧ yX5_property.cls ≠ "java/lang/invoke/VarHandle" ∧ (parseMethodDescriptor yX5_property.desc).map (fun d => d.parameters.length) = some 2 := by decide +kernel
theorem cd_X6_init : yX6_init.cls = RX6 ∧ yX6_init.cls ≠ "java/lang/invoke/MethodHandle" ∧ yX6_init.cls ≠ "java/lang/invoke/VarHandle" ∧ (parseMethodDescriptor yX6_init.desc).map (fun d => d.parameters.length) = some 0 := by decide +kernel
theorem cd_X6_copyFrom : yX6_copyFrom.cls = RX6 ∧ yX6_copyFrom.cls ≠ "java/lang/invoke/MethodHandle" ∧ yX6_copyFrom.cls ≠ "java/lang/invoke/VarHandle" ∧ (parseMethodDescriptor yX6_copyFrom.desc).map (fun d => d.parameters.length) = some 1 := by decide +kernel
theorem cd_X6_addOne : yX6_addOne.cls = RX6 ∧ yX6_addOne.cls ≠ "java/lang/invoke/MethodHandle" ∧ yX6_addOne.cls ≠ "java/lang/invoke/VarHandle" ∧ (parseMethodDescriptor yX6_addOne.desc).map (fun d => d.parameters.length) = some 3 := by decide +kernel
theorem cd_X6_hasSilo : yX6_hasSilo.cls = RX6 ∧ yX6_hasSilo.cls ≠ "java/lang/invoke/MethodHandle" ∧ yX6_hasSilo.cls ≠ "java/lang/invoke/VarHandle" ∧ (parseMethodDescriptor yX6_hasSilo.desc).map (fun d => d.parameters.length) = some 1 := by decide +kernel
theorem cd_X6_isEmpty : yX6_isEmpty.cls = RX6 ∧ yX6_isEmpty.cls ≠ "java/lang/invoke/MethodHandle" ∧ yX6_isEmpty.cls ≠ "java/lang/invoke/VarHandle" ∧ (parseMethodDescriptor yX6_isEmpty.desc).map (fun d => d.parameters.length) = some 1 := by decide +kernel
theorem cd_X6_hasRoom : yX6_hasRoom.cls = RX6 ∧ yX6_hasRoom.cls ≠ "java/lang/invoke/MethodHandle" ∧ yX6_hasRoom.cls ≠ "java/lang/invoke/VarHandle" ∧ (parseMethodDescriptor yX6_hasRoom.desc).map (fun d => d.parameters.length) = some 1 := by decide +kernel
theorem cd_X6_slotOf : yX6_slotOf.cls = RX6 ∧ yX6_slotOf.cls ≠ "java/lang/invoke/MethodHandle" ∧ yX6_slotOf.cls ≠ "java/lang/invoke/VarHandle" ∧ (parseMethodDescriptor yX6_slotOf.desc).map (fun d => d.parameters.length) = some 2 := by decide +kernel
theorem cd_X6_melt : yX6_melt.cls = RX6 ∧ yX6_melt.cls ≠ "java/lang/invoke/MethodHandle" ∧ yX6_melt.cls ≠ "java/lang/invoke/VarHandle" ∧ (parseMethodDescriptor yX6_melt.desc).map (fun d => d.parameters.length) = some 1 := by decide +kernel
theorem cd_X6_meltSilo : yX6_meltSilo.cls = RX6 ∧ yX6_meltSilo.cls ≠ "java/lang/invoke/MethodHandle" ∧ yX6_meltSilo.cls ≠ "java/lang/invoke/VarHandle" ∧ (parseMethodDescriptor yX6_meltSilo.desc).map (fun d => d.parameters.length) = some 2 := by decide +kernel
theorem cd_X6_lossOf : yX6_lossOf.cls = RX6 ∧ yX6_lossOf.cls ≠ "java/lang/invoke/MethodHandle" ∧ yX6_lossOf.cls ≠ "java/lang/invoke/VarHandle" ∧ (parseMethodDescriptor yX6_lossOf.desc).map (fun d => d.parameters.length) = some 4 := by decide +kernel
theorem cd_X6_fillSlot : yX6_fillSlot.cls = RX6 ∧ yX6_fillSlot.cls ≠ "java/lang/invoke/MethodHandle" ∧ yX6_fillSlot.cls ≠ "java/lang/invoke/VarHandle" ∧ (parseMethodDescriptor yX6_fillSlot.desc).map (fun d => d.parameters.length) = some 4 := by decide +kernel
theorem cd_X6_makeBlock : yX6_makeBlock.cls = RX6 ∧ yX6_makeBlock.cls ≠ "java/lang/invoke/MethodHandle" ∧ yX6_makeBlock.cls ≠ "java/lang/invoke/VarHandle" ∧ (parseMethodDescriptor yX6_makeBlock.desc).map (fun d => d.parameters.length) = some 1 := by decide +kernel
theorem cd_X6_moveTop : yX6_moveTop.cls = RX6 ∧ yX6_moveTop.cls ≠ "java/lang/invoke/MethodHandle" ∧ yX6_moveTop.cls ≠ "java/lang/invoke/VarHandle" ∧ (parseMethodDescriptor yX6_moveTop.desc).map (fun d => d.parameters.length) = some 2 := by decide +kernel
theorem cd_X6_oldestSlot : yX6_oldestSlot.cls = RX6 ∧ yX6_oldestSlot.cls ≠ "java/lang/invoke/MethodHandle" ∧ yX6_oldestSlot.cls ≠ "java/lang/invoke/VarHandle" ∧ (parseMethodDescriptor yX6_oldestSlot.desc).map (fun d => d.parameters.length) = some 0 := by decide +kernel
theorem cd_X6_removeBlock : yX6_removeBlock.cls = RX6 ∧ yX6_removeBlock.cls ≠ "java/lang/invoke/MethodHandle" ∧ yX6_removeBlock.cls ≠ "java/lang/invoke/VarHandle" ∧ (parseMethodDescriptor yX6_removeBlock.desc).map (fun d => d.parameters.length) = some 1 := by decide +kernel
theorem cd_X6_growOlder : yX6_growOlder.cls = RX6 ∧ yX6_growOlder.cls ≠ "java/lang/invoke/MethodHandle" ∧ yX6_growOlder.cls ≠ "java/lang/invoke/VarHandle" ∧ (parseMethodDescriptor yX6_growOlder.desc).map (fun d => d.parameters.length) = some 0 := by decide +kernel
theorem cd_X6_blocks : yX6_blocks.cls = RX6 ∧ yX6_blocks.cls ≠ "java/lang/invoke/MethodHandle" ∧ yX6_blocks.cls ≠ "java/lang/invoke/VarHandle" ∧ (parseMethodDescriptor yX6_blocks.desc).map (fun d => d.parameters.length) = some 0 := by decide +kernel
theorem cd_X6_mass : yX6_mass.cls = RX6 ∧ yX6_mass.cls ≠ "java/lang/invoke/MethodHandle" ∧ yX6_mass.cls ≠ "java/lang/invoke/VarHandle" ∧ (parseMethodDescriptor yX6_mass.desc).map (fun d => d.parameters.length) = some 0 := by decide +kernel
theorem cd_X6_sumOfAges : yX6_sumOfAges.cls = RX6 ∧ yX6_sumOfAges.cls ≠ "java/lang/invoke/MethodHandle" ∧ yX6_sumOfAges.cls ≠ "java/lang/invoke/VarHandle" ∧ (parseMethodDescriptor yX6_sumOfAges.desc).map (fun d => d.parameters.length) = some 0 := by decide +kernel
theorem cd_X6_meltedMass : yX6_meltedMass.cls = RX6 ∧ yX6_meltedMass.cls ≠ "java/lang/invoke/MethodHandle" ∧ yX6_meltedMass.cls ≠ "java/lang/invoke/VarHandle" ∧ (parseMethodDescriptor yX6_meltedMass.desc).map (fun d => d.parameters.length) = some 0 := by decide +kernel
theorem cd_X6_sumOf : yX6_sumOf.cls = RX6 ∧ yX6_sumOf.cls ≠ "java/lang/invoke/MethodHandle" ∧ yX6_sumOf.cls ≠ "java/lang/invoke/VarHandle" ∧ (parseMethodDescriptor yX6_sumOf.desc).map (fun d => d.parameters.length) = some 3 := by decide +kernel
theorem cd_X6_siloProperty : yX6_siloProperty.cls = RX6 ∧ yX6_siloProperty.cls ≠ "java/lang/invoke/MethodHandle" ∧ yX6_siloProperty.cls ≠ "java/lang/invoke/VarHandle" ∧ (parseMethodDescriptor yX6_siloProperty.desc).map (fun d => d.parameters.length) = some 2 := by decide +kernel
theorem cd_X6_blockProperty : yX6_blockProperty.cls = RX6 ∧ yX6_blockProperty.cls ≠ "java/lang/invoke/MethodHandle" ∧ yX6_blockProperty.cls ≠ "java/lang/invoke/VarHandle" ∧ (parseMethodDescriptor yX6_blockProperty.desc).map (fun d => d.parameters.length) = some 2 := by decide +kernel
theorem cd_X7_init : yX7_init.cls = RX7 ∧ yX7_init.cls ≠ "java/lang/invoke/MethodHandle" ∧ yX7_init.cls ≠ "java/lang/invoke/VarHandle" ∧ (parseMethodDescriptor yX7_init.desc).map (fun d => d.parameters.length) = some 0 := by decide +kernel
theorem cd_X7_addSign : yX7_addSign.cls = RX7 ∧ yX7_addSign.cls ≠ "java/lang/invoke/MethodHandle" ∧ yX7_addSign.cls ≠ "java/lang/invoke/VarHandle" ∧ (parseMethodDescriptor yX7_addSign.desc).map (fun d => d.parameters.length) = some 1 := by decide +kernel
theorem cd_X7_empty : yX7_empty.cls = RX7 ∧ yX7_empty.cls ≠ "java/lang/invoke/MethodHandle" ∧ yX7_empty.cls ≠ "java/lang/invoke/VarHandle" ∧ (parseMethodDescriptor yX7_empty.desc).map (fun d => d.parameters.length) = some 0 := by decide +kernel
theorem cd_X7_start : yX7_start.cls = RX7 ∧ yX7_start.cls ≠ "java/lang/invoke/MethodHandle" ∧ yX7_start.cls ≠ "java/lang/invoke/VarHandle" ∧ (parseMethodDescriptor yX7_start.desc).map (fun d => d.parameters.length) = some 0 := by decide +kernel
theorem cd_X7_hasCommand : yX7_hasCommand.cls = RX7 ∧ yX7_hasCommand.cls ≠ "java/lang/invoke/MethodHandle" ∧ yX7_hasCommand.cls ≠ "java/lang/invoke/VarHandle" ∧ (parseMethodDescriptor yX7_hasCommand.desc).map (fun d => d.parameters.length) = some 0 := by decide +kernel
theorem cd_X7_readAll : yX7_readAll.cls = RX7 ∧ yX7_readAll.cls ≠ "java/lang/invoke/MethodHandle" ∧ yX7_readAll.cls ≠ "java/lang/invoke/VarHandle" ∧ (parseMethodDescriptor yX7_readAll.desc).map (fun d => d.parameters.length) = some 0 := by decide +kernel
theorem cd_X7_readCommand : yX7_readCommand.cls = RX7 ∧ yX7_readCommand.cls ≠ "java/lang/invoke/MethodHandle" ∧ yX7_readCommand.cls ≠ "java/lang/invoke/VarHandle" ∧ (parseMethodDescriptor yX7_readCommand.desc).map (fun d => d.parameters.length) = some 0 := by decide +kernel
theorem cd_X7_numbersBehind : yX7_numbersBehind.cls = RX7 ∧ yX7_numbersBehind.cls ≠ "java/lang/invoke/MethodHandle" ∧ yX7_numbersBehind.cls ≠ "java/lang/invoke/VarHandle" ∧ (parseMethodDescriptor yX7_numbersBehind.desc).map (fun d => d.parameters.length) = some 1 := by decide +kernel
theorem cd_X7_sign : yX7_sign.cls = RX7 ∧ yX7_sign.cls ≠ "java/lang/invoke/MethodHandle" ∧ yX7_sign.cls ≠ "java/lang/invoke/VarHandle" ∧ (parseMethodDescriptor yX7_sign.desc).map (fun d => d.parameters.length) = some 0 := by decide +kernel
theorem cd_X7_failHere : yX7_failHere.cls = RX7 ∧ yX7_failHere.cls ≠ "java/lang/invoke/MethodHandle" ∧ yX7_failHere.cls ≠ "java/lang/invoke/VarHandle" ∧ (parseMethodDescriptor yX7_failHere.desc).map (fun d => d.parameters.length) = some 0 := by decide +kernel
theorem cd_X7_readComma : yX7_readComma.cls = RX7 ∧ yX7_readComma.cls ≠ "java/lang/invoke/MethodHandle" ∧ yX7_readComma.cls ≠ "java/lang/invoke/VarHandle" ∧ (parseMethodDescriptor yX7_readComma.desc).map (fun d => d.parameters.length) = some 0 := by decide +kernel
theorem cd_X7_readNumber : yX7_readNumber.cls = RX7 ∧ yX7_readNumber.cls ≠ "java/lang/invoke/MethodHandle" ∧ yX7_readNumber.cls ≠ "java/lang/invoke/VarHandle" ∧ (parseMethodDescriptor yX7_readNumber.desc).map (fun d => d.parameters.length) = some 1 := by decide +kernel
theorem cd_X7_isDigit : yX7_isDigit.cls = RX7 ∧ yX7_isDigit.cls ≠ "java/lang/invoke/MethodHandle" ∧ yX7_isDigit.cls ≠ "java/lang/invoke/VarHandle" ∧ (parseMethodDescriptor yX7_isDigit.desc).map (fun d => d.parameters.length) = some 1 := by decide +kernel
theorem cd_X7_readSeparator : yX7_readSeparator.cls = RX7 ∧ yX7_readSeparator.cls ≠ "java/lang/invoke/MethodHandle" ∧ yX7_readSeparator.cls ≠ "java/lang/invoke/VarHandle" ∧ (parseMethodDescriptor yX7_readSeparator.desc).map (fun d => d.parameters.length) = some 0 := by decide +kernel
theorem cd_X8_init : yX8_init.cls = RX8 ∧ yX8_init.cls ≠ "java/lang/invoke/MethodHandle" ∧ yX8_init.cls ≠ "java/lang/invoke/VarHandle" ∧ (parseMethodDescriptor yX8_init.desc).map (fun d => d.parameters.length) = some 0 := by decide +kernel
theorem cd_X8_addSilo : yX8_addSilo.cls = RX8 ∧ yX8_addSilo.cls ≠ "java/lang/invoke/MethodHandle" ∧ yX8_addSilo.cls ≠ "java/lang/invoke/VarHandle" ∧ (parseMethodDescriptor yX8_addSilo.desc).map (fun d => d.parameters.length) = some 3 := by decide +kernel
theorem cd_X8_setRule : yX8_setRule.cls = RX8 ∧ yX8_setRule.cls ≠ "java/lang/invoke/MethodHandle" ∧ yX8_setRule.cls ≠ "java/lang/invoke/VarHandle" ∧ (parseMethodDescriptor yX8_setRule.desc).map (fun d => d.parameters.length) = some 2 := by decide +kernel
theorem cd_X8_setStrength : yX8_setStrength.cls = RX8 ∧ yX8_setStrength.cls ≠ "java/lang/invoke/MethodHandle" ∧ yX8_setStrength.cls ≠ "java/lang/invoke/VarHandle" ∧ (parseMethodDescriptor yX8_setStrength.desc).map (fun d => d.parameters.length) = some 2 := by decide +kernel
theorem cd_X8_setTemperature : yX8_setTemperature.cls = RX8 ∧ yX8_setTemperature.cls ≠ "java/lang/invoke/MethodHandle" ∧ yX8_setTemperature.cls ≠ "java/lang/invoke/VarHandle" ∧ (parseMethodDescriptor yX8_setTemperature.desc).map (fun d => d.parameters.length) = some 2 := by decide +kernel
theorem cd_X8_set : yX8_set.cls = RX8 ∧ yX8_set.cls ≠ "java/lang/invoke/MethodHandle" ∧ yX8_set.cls ≠ "java/lang/invoke/VarHandle" ∧ (parseMethodDescriptor yX8_set.desc).map (fun d => d.parameters.length) = some 2 := by decide +kernel
theorem cd_X8_move : yX8_move.cls = RX8 ∧ yX8_move.cls ≠ "java/lang/invoke/MethodHandle" ∧ yX8_move.cls ≠ "java/lang/invoke/VarHandle" ∧ (parseMethodDescriptor yX8_move.desc).map (fun d => d.parameters.length) = some 2 := by decide +kernel
theorem cd_X8_pass : yX8_pass.cls = RX8 ∧ yX8_pass.cls ≠ "java/lang/invoke/MethodHandle" ∧ yX8_pass.cls ≠ "java/lang/invoke/VarHandle" ∧ (parseMethodDescriptor yX8_pass.desc).map (fun d => d.parameters.length) = some 1 := by decide +kernel
theorem cd_X8_addBoat : yX8_addBoat.cls = RX8 ∧ yX8_addBoat.cls ≠ "java/lang/invoke/MethodHandle" ∧ yX8_addBoat.cls ≠ "java/lang/invoke/VarHandle" ∧ (parseMethodDescriptor yX8_addBoat.desc).map (fun d => d.parameters.length) = some 1 := by decide +kernel
theorem cd_X8_setCatch : yX8_setCatch.cls = RX8 ∧ yX8_setCatch.cls ≠ "java/lang/invoke/MethodHandle" ∧ yX8_setCatch.cls ≠ "java/lang/invoke/VarHandle" ∧ (parseMethodDescriptor yX8_setCatch.desc).map (fun d => d.parameters.length) = some 2 := by decide +kernel
theorem cd_X8_order : yX8_order.cls = RX8 ∧ yX8_order.cls ≠ "java/lang/invoke/MethodHandle" ∧ yX8_order.cls ≠ "java/lang/invoke/VarHandle" ∧ (parseMethodDescriptor yX8_order.desc).map (fun d => d.parameters.length) = some 4 := by decide +kernel
theorem cd_X8_cancel : yX8_cancel.cls = RX8 ∧ yX8_cancel.cls ≠ "java/lang/invoke/MethodHandle" ∧ yX8_cancel.cls ≠ "java/lang/invoke/VarHandle" ∧ (parseMethodDescriptor yX8_cancel.desc).map (fun d => d.parameters.length) = some 1 := by decide +kernel
theorem cd_X8_pay : yX8_pay.cls = RX8 ∧ yX8_pay.cls ≠ "java/lang/invoke/MethodHandle" ∧ yX8_pay.cls ≠ "java/lang/invoke/VarHandle" ∧ (parseMethodDescriptor yX8_pay.desc).map (fun d => d.parameters.length) = some 2 := by decide +kernel
theorem cd_X8_silo : yX8_silo.cls = RX8 ∧ yX8_silo.cls ≠ "java/lang/invoke/MethodHandle" ∧ yX8_silo.cls ≠ "java/lang/invoke/VarHandle" ∧ (parseMethodDescriptor yX8_silo.desc).map (fun d => d.parameters.length) = some 2 := by decide +kernel
theorem cd_X8_block : yX8_block.cls = RX8 ∧ yX8_block.cls ≠ "java/lang/invoke/MethodHandle" ∧ yX8_block.cls ≠ "java/lang/invoke/VarHandle" ∧ (parseMethodDescriptor yX8_block.desc).map (fun d => d.parameters.length) = some 3 := by decide +kernel
theorem cd_X8_boat : yX8_boat.cls = RX8 ∧ yX8_boat.cls ≠ "java/lang/invoke/MethodHandle" ∧ yX8_boat.cls ≠ "java/lang/invoke/VarHandle" ∧ (parseMethodDescriptor yX8_boat.desc).map (fun d => d.parameters.length) = some 2 := by decide +kernel
theorem cd_X8_orderProperty : yX8_orderProperty.cls = RX8 ∧ yX8_orderProperty.cls ≠ "java/lang/invoke/MethodHandle" ∧ yX8_orderProperty.cls ≠ "java/lang/invoke/VarHandle" ∧ (parseMethodDescriptor yX8_orderProperty.desc).map (fun d => d.parameters.length) = some 2 := by decide +kernel
theorem cd_X8_receipt : yX8_receipt.cls = RX8 ∧ yX8_receipt.cls ≠ "java/lang/invoke/MethodHandle" ∧ yX8_receipt.cls ≠ "java/lang/invoke/VarHandle" ∧ (parseMethodDescriptor yX8_receipt.desc).map (fun d => d.parameters.length) = some 2 := by decide +kernel
theorem cd_X8_account : yX8_account.cls = RX8 ∧ yX8_account.cls ≠ "java/lang/invoke/MethodHandle" ∧ yX8_account.cls ≠ "java/lang/invoke/VarHandle" ∧ (parseMethodDescriptor yX8_account.desc).map (fun d => d.parameters.length) = some 2 := by decide +kernel
theorem cd_X8_findAccount : yX8_findAccount.cls = RX8 ∧ yX8_findAccount.cls ≠ "java/lang/invoke/MethodHandle" ∧ yX8_findAccount.cls ≠ "java/lang/invoke/VarHandle" ∧ (parseMethodDescriptor yX8_findAccount.desc).map (fun d => d.parameters.length) = some 2 := by decide +kernel
theorem cd_X8_setting : yX8_setting.cls = RX8 ∧ yX8_setting.cls ≠ "java/lang/invoke/MethodHandle" ∧ yX8_setting.cls ≠ "java/lang/invoke/VarHandle" ∧ (parseMethodDescriptor yX8_setting.desc).map (fun d => d.parameters.length) = some 1 := by decide +kernel
theorem cd_X8_total : yX8_total.cls = RX8 ∧ yX8_total.cls ≠ "java/lang/invoke/MethodHandle" ∧ yX8_total.cls ≠ "java/lang/invoke/VarHandle" ∧ (parseMethodDescriptor yX8_total.desc).map (fun d => d.parameters.length) = some 1 := by decide +kernel
theorem cd_X8_meanAge : yX8_meanAge.cls = RX8 ∧ yX8_meanAge.cls ≠ "java/lang/invoke/MethodHandle" ∧ yX8_meanAge.cls ≠ "java/lang/invoke/VarHandle" ∧ (parseMethodDescriptor yX8_meanAge.desc).map (fun d => d.parameters.length) = some 0 := by decide +kernel
theorem cd_X8_massAfter : yX8_massAfter.cls = RX8 ∧ yX8_massAfter.cls ≠ "java/lang/invoke/MethodHandle" ∧ yX8_massAfter.cls ≠ "java/lang/invoke/VarHandle" ∧ (parseMethodDescriptor yX8_massAfter.desc).map (fun d => d.parameters.length) = some 1 := by decide +kernel
theorem cd_X8_completeIn : yX8_completeIn.cls = RX8 ∧ yX8_completeIn.cls ≠ "java/lang/invoke/MethodHandle" ∧ yX8_completeIn.cls ≠ "java/lang/invoke/VarHandle" ∧ (parseMethodDescriptor yX8_completeIn.desc).map (fun d => d.parameters.length) = some 1 := by decide +kernel
theorem cd_X8_bestRule : yX8_bestRule.cls = RX8 ∧ yX8_bestRule.cls ≠ "java/lang/invoke/MethodHandle" ∧ yX8_bestRule.cls ≠ "java/lang/invoke/VarHandle" ∧ (parseMethodDescriptor yX8_bestRule.desc).map (fun d => d.parameters.length) = some 2 := by decide +kernel
theorem cd_X8_quote : yX8_quote.cls = RX8 ∧ yX8_quote.cls ≠ "java/lang/invoke/MethodHandle" ∧ yX8_quote.cls ≠ "java/lang/invoke/VarHandle" ∧ (parseMethodDescriptor yX8_quote.desc).map (fun d => d.parameters.length) = some 3 := by decide +kernel
theorem cd_X8_append : yX8_append.cls = RX8 ∧ yX8_append.cls ≠ "java/lang/invoke/MethodHandle" ∧ yX8_append.cls ≠ "java/lang/invoke/VarHandle" ∧ (parseMethodDescriptor yX8_append.desc).map (fun d => d.parameters.length) = some 1 := by decide +kernel
theorem cd_X8_clear : yX8_clear.cls = RX8 ∧ yX8_clear.cls ≠ "java/lang/invoke/MethodHandle" ∧ yX8_clear.cls ≠ "java/lang/invoke/VarHandle" ∧ (parseMethodDescriptor yX8_clear.desc).map (fun d => d.parameters.length) = some 0 := by decide +kernel
theorem cd_X8_errorPosition : yX8_errorPosition.cls = RX8 ∧ yX8_errorPosition.cls ≠ "java/lang/invoke/MethodHandle" ∧ yX8_errorPosition.cls ≠ "java/lang/invoke/VarHandle" ∧ (parseMethodDescriptor yX8_errorPosition.desc).map (fun d => d.parameters.length) = some 0 := by decide +kernel
theorem cd_X8_errorKind : yX8_errorKind.cls = RX8 ∧ yX8_errorKind.cls ≠ "java/lang/invoke/MethodHandle" ∧ yX8_errorKind.cls ≠ "java/lang/invoke/VarHandle" ∧ (parseMethodDescriptor yX8_errorKind.desc).map (fun d => d.parameters.length) = some 0 := by decide +kernel
theorem cd_X8_execute : yX8_execute.cls = RX8 ∧ yX8_execute.cls ≠ "java/lang/invoke/MethodHandle" ∧ yX8_execute.cls ≠ "java/lang/invoke/VarHandle" ∧ (parseMethodDescriptor yX8_execute.desc).map (fun d => d.parameters.length) = some 0 := by decide +kernel
theorem cd_X8_undo : yX8_undo.cls = RX8 ∧ yX8_undo.cls ≠ "java/lang/invoke/MethodHandle" ∧ yX8_undo.cls ≠ "java/lang/invoke/VarHandle" ∧ (parseMethodDescriptor yX8_undo.desc).map (fun d => d.parameters.length) = some 0 := by decide +kernel
theorem cd_X8_isWithin : yX8_isWithin.cls = RX8 ∧ yX8_isWithin.cls ≠ "java/lang/invoke/MethodHandle" ∧ yX8_isWithin.cls ≠ "java/lang/invoke/VarHandle" ∧ (parseMethodDescriptor yX8_isWithin.desc).map (fun d => d.parameters.length) = some 3 := by decide +kernel
theorem cd_X8_needItem : yX8_needItem.cls = RX8 ∧ yX8_needItem.cls ≠ "java/lang/invoke/MethodHandle" ∧ yX8_needItem.cls ≠ "java/lang/invoke/VarHandle" ∧ (parseMethodDescriptor yX8_needItem.desc).map (fun d => d.parameters.length) = some 1 := by decide +kernel
theorem cd_X8_needArgument : yX8_needArgument.cls = RX8 ∧ yX8_needArgument.cls ≠ "java/lang/invoke/MethodHandle" ∧ yX8_needArgument.cls ≠ "java/lang/invoke/VarHandle" ∧ (parseMethodDescriptor yX8_needArgument.desc).map (fun d => d.parameters.length) = some 1 := by decide +kernel
theorem cd_X8_needState : yX8_needState.cls = RX8 ∧ yX8_needState.cls ≠ "java/lang/invoke/MethodHandle" ∧ yX8_needState.cls ≠ "java/lang/invoke/VarHandle" ∧ (parseMethodDescriptor yX8_needState.desc).map (fun d => d.parameters.length) = some 1 := by decide +kernel
theorem cd_X8_refuse : yX8_refuse.cls = RX8 ∧ yX8_refuse.cls ≠ "java/lang/invoke/MethodHandle" ∧ yX8_refuse.cls ≠ "java/lang/invoke/VarHandle" ∧ (parseMethodDescriptor yX8_refuse.desc).map (fun d => d.parameters.length) = some 1 := by decide +kernel
theorem cd_X8_valueAt : yX8_valueAt.cls = RX8 ∧ yX8_valueAt.cls ≠ "java/lang/invoke/MethodHandle" ∧ yX8_valueAt.cls ≠ "java/lang/invoke/VarHandle" ∧ (parseMethodDescriptor yX8_valueAt.desc).map (fun d => d.parameters.length) = some 2 := by decide +kernel
theorem cd_X8_replace : yX8_replace.cls = RX8 ∧ yX8_replace.cls ≠ "java/lang/invoke/MethodHandle" ∧ yX8_replace.cls ≠ "java/lang/invoke/VarHandle" ∧ (parseMethodDescriptor yX8_replace.desc).map (fun d => d.parameters.length) = some 3 := by decide +kernel
theorem cd_X8_copyRow : yX8_copyRow.cls = RX8 ∧ yX8_copyRow.cls ≠ "java/lang/invoke/MethodHandle" ∧ yX8_copyRow.cls ≠ "java/lang/invoke/VarHandle" ∧ (parseMethodDescriptor yX8_copyRow.desc).map (fun d => d.parameters.length) = some 2 := by decide +kernel
theorem cd_X8_copyLongRow : yX8_copyLongRow.cls = RX8 ∧ yX8_copyLongRow.cls ≠ "java/lang/invoke/MethodHandle" ∧ yX8_copyLongRow.cls ≠ "java/lang/invoke/VarHandle" ∧ (parseMethodDescriptor yX8_copyLongRow.desc).map (fun d => d.parameters.length) = some 2 := by decide +kernel
theorem cd_X8_passFault : yX8_passFault.cls = RX8 ∧ yX8_passFault.cls ≠ "java/lang/invoke/MethodHandle" ∧ yX8_passFault.cls ≠ "java/lang/invoke/VarHandle" ∧ (parseMethodDescriptor yX8_passFault.desc).map (fun d => d.parameters.length) = some 1 := by decide +kernel
theorem cd_X8_moveFault : yX8_moveFault.cls = RX8 ∧ yX8_moveFault.cls ≠ "java/lang/invoke/MethodHandle" ∧ yX8_moveFault.cls ≠ "java/lang/invoke/VarHandle" ∧ (parseMethodDescriptor yX8_moveFault.desc).map (fun d => d.parameters.length) = some 2 := by decide +kernel
theorem cd_X8_catchFault : yX8_catchFault.cls = RX8 ∧ yX8_catchFault.cls ≠ "java/lang/invoke/MethodHandle" ∧ yX8_catchFault.cls ≠ "java/lang/invoke/VarHandle" ∧ (parseMethodDescriptor yX8_catchFault.desc).map (fun d => d.parameters.length) = some 2 := by decide +kernel
theorem cd_X8_orderFault : yX8_orderFault.cls = RX8 ∧ yX8_orderFault.cls ≠ "java/lang/invoke/MethodHandle" ∧ yX8_orderFault.cls ≠ "java/lang/invoke/VarHandle" ∧ (parseMethodDescriptor yX8_orderFault.desc).map (fun d => d.parameters.length) = some 3 := by decide +kernel
theorem cd_X8_payFault : yX8_payFault.cls = RX8 ∧ yX8_payFault.cls ≠ "java/lang/invoke/MethodHandle" ∧ yX8_payFault.cls ≠ "java/lang/invoke/VarHandle" ∧ (parseMethodDescriptor yX8_payFault.desc).map (fun d => d.parameters.length) = some 2 := by decide +kernel
theorem cd_X8_meltedWith : yX8_meltedWith.cls = RX8 ∧ yX8_meltedWith.cls ≠ "java/lang/invoke/MethodHandle" ∧ yX8_meltedWith.cls ≠ "java/lang/invoke/VarHandle" ∧ (parseMethodDescriptor yX8_meltedWith.desc).map (fun d => d.parameters.length) = some 3 := by decide +kernel
theorem cd_X8_commandFault : yX8_commandFault.cls = RX8 ∧ yX8_commandFault.cls ≠ "java/lang/invoke/MethodHandle" ∧ yX8_commandFault.cls ≠ "java/lang/invoke/VarHandle" ∧ (parseMethodDescriptor yX8_commandFault.desc).map (fun d => d.parameters.length) = some 0 := by decide +kernel
theorem cd_X8_runCommand : yX8_runCommand.cls = RX8 ∧ yX8_runCommand.cls ≠ "java/lang/invoke/MethodHandle" ∧ yX8_runCommand.cls ≠ "java/lang/invoke/VarHandle" ∧ (parseMethodDescriptor yX8_runCommand.desc).map (fun d => d.parameters.length) = some 0 := by decide +kernel
theorem cd_X9_init : yX9_init.cls = RX9 ∧ yX9_init.cls ≠ "java/lang/invoke/MethodHandle" ∧ yX9_init.cls ≠ "java/lang/invoke/VarHandle" ∧ (parseMethodDescriptor yX9_init.desc).map (fun d => d.parameters.length) = some 0 := by decide +kernel
theorem cd_X9_thrown : yX9_thrown.cls = RX9 ∧ yX9_thrown.cls ≠ "java/lang/invoke/MethodHandle" ∧ yX9_thrown.cls ≠ "java/lang/invoke/VarHandle" ∧ (parseMethodDescriptor yX9_thrown.desc).map (fun d => d.parameters.length) = some 0 := by decide +kernel
theorem cd_X9_refuse : yX9_refuse.cls = RX9 ∧ yX9_refuse.cls ≠ "java/lang/invoke/MethodHandle" ∧ yX9_refuse.cls ≠ "java/lang/invoke/VarHandle" ∧ (parseMethodDescriptor yX9_refuse.desc).map (fun d => d.parameters.length) = some 1 := by decide +kernel
theorem cd_X9_in : yX9_in.cls = RX9 ∧ yX9_in.cls ≠ "java/lang/invoke/MethodHandle" ∧ yX9_in.cls ≠ "java/lang/invoke/VarHandle" ∧ (parseMethodDescriptor yX9_in.desc).map (fun d => d.parameters.length) = some 3 := by decide +kernel
theorem cd_X9_isSilo : yX9_isSilo.cls = RX9 ∧ yX9_isSilo.cls ≠ "java/lang/invoke/MethodHandle" ∧ yX9_isSilo.cls ≠ "java/lang/invoke/VarHandle" ∧ (parseMethodDescriptor yX9_isSilo.desc).map (fun d => d.parameters.length) = some 1 := by decide +kernel
theorem cd_X9_isBoat : yX9_isBoat.cls = RX9 ∧ yX9_isBoat.cls ≠ "java/lang/invoke/MethodHandle" ∧ yX9_isBoat.cls ≠ "java/lang/invoke/VarHandle" ∧ (parseMethodDescriptor yX9_isBoat.desc).map (fun d => d.parameters.length) = some 1 := by decide +kernel
theorem cd_X9_isOrder : yX9_isOrder.cls = RX9 ∧ yX9_isOrder.cls ≠ "java/lang/invoke/MethodHandle" ∧ yX9_isOrder.cls ≠ "java/lang/invoke/VarHandle" ∧ (parseMethodDescriptor yX9_isOrder.desc).map (fun d => d.parameters.length) = some 1 := by decide +kernel
theorem cd_X9_save : yX9_save.cls = RX9 ∧ yX9_save.cls ≠ "java/lang/invoke/MethodHandle" ∧ yX9_save.cls ≠ "java/lang/invoke/VarHandle" ∧ (parseMethodDescriptor yX9_save.desc).map (fun d => d.parameters.length) = some 0 := by decide +kernel
theorem cd_X9_addSilo : yX9_addSilo.cls = RX9 ∧ yX9_addSilo.cls ≠ "java/lang/invoke/MethodHandle" ∧ yX9_addSilo.cls ≠ "java/lang/invoke/VarHandle" ∧ (parseMethodDescriptor yX9_addSilo.desc).map (fun d => d.parameters.length) = some 3 := by decide +kernel
theorem cd_X9_change : yX9_change.cls = RX9 ∧ yX9_change.cls ≠ "java/lang/invoke/MethodHandle" ∧ yX9_change.cls ≠ "java/lang/invoke/VarHandle" ∧ (parseMethodDescriptor yX9_change.desc).map (fun d => d.parameters.length) = some 2 := by decide +kernel
theorem cd_X9_setRule : yX9_setRule.cls = RX9 ∧ yX9_setRule.cls ≠ "java/lang/invoke/MethodHandle" ∧ yX9_setRule.cls ≠ "java/lang/invoke/VarHandle" ∧ (parseMethodDescriptor yX9_setRule.desc).map (fun d => d.parameters.length) = some 2 := by decide +kernel
theorem cd_X9_setStrength : yX9_setStrength.cls = RX9 ∧ yX9_setStrength.cls ≠ "java/lang/invoke/MethodHandle" ∧ yX9_setStrength.cls ≠ "java/lang/invoke/VarHandle" ∧ (parseMethodDescriptor yX9_setStrength.desc).map (fun d => d.parameters.length) = some 2 := by decide +kernel
theorem cd_X9_setTemperature : yX9_setTemperature.cls = RX9 ∧ yX9_setTemperature.cls ≠ "java/lang/invoke/MethodHandle" ∧ yX9_setTemperature.cls ≠ "java/lang/invoke/VarHandle" ∧ (parseMethodDescriptor yX9_setTemperature.desc).map (fun d => d.parameters.length) = some 2 := by decide +kernel
theorem cd_X9_least : yX9_least.cls = RX9 ∧ yX9_least.cls ≠ "java/lang/invoke/MethodHandle" ∧ yX9_least.cls ≠ "java/lang/invoke/VarHandle" ∧ (parseMethodDescriptor yX9_least.desc).map (fun d => d.parameters.length) = some 1 := by decide +kernel
theorem cd_X9_most : yX9_most.cls = RX9 ∧ yX9_most.cls ≠ "java/lang/invoke/MethodHandle" ∧ yX9_most.cls ≠ "java/lang/invoke/VarHandle" ∧ (parseMethodDescriptor yX9_most.desc).map (fun d => d.parameters.length) = some 1 := by decide +kernel
theorem cd_X9_set : yX9_set.cls = RX9 ∧ yX9_set.cls ≠ "java/lang/invoke/MethodHandle" ∧ yX9_set.cls ≠ "java/lang/invoke/VarHandle" ∧ (parseMethodDescriptor yX9_set.desc).map (fun d => d.parameters.length) = some 2 := by decide +kernel
theorem cd_X9_moveThrows : yX9_moveThrows.cls = RX9 ∧ yX9_moveThrows.cls ≠ "java/lang/invoke/MethodHandle" ∧ yX9_moveThrows.cls ≠ "java/lang/invoke/VarHandle" ∧ (parseMethodDescriptor yX9_moveThrows.desc).map (fun d => d.parameters.length) = some 2 := by decide +kernel
theorem cd_X9_doMove : yX9_doMove.cls = RX9 ∧ yX9_doMove.cls ≠ "java/lang/invoke/MethodHandle" ∧ yX9_doMove.cls ≠ "java/lang/invoke/VarHandle" ∧ (parseMethodDescriptor yX9_doMove.desc).map (fun d => d.parameters.length) = some 2 := by decide +kernel
theorem cd_X9_move : yX9_move.cls = RX9 ∧ yX9_move.cls ≠ "java/lang/invoke/MethodHandle" ∧ yX9_move.cls ≠ "java/lang/invoke/VarHandle" ∧ (parseMethodDescriptor yX9_move.desc).map (fun d => d.parameters.length) = some 2 := by decide +kernel
theorem cd_X9_heat : yX9_heat.cls = RX9 ∧ yX9_heat.cls ≠ "java/lang/invoke/MethodHandle" ∧ yX9_heat.cls ≠ "java/lang/invoke/VarHandle" ∧ (parseMethodDescriptor yX9_heat.desc).map (fun d => d.parameters.length) = some 0 := by decide +kernel
theorem cd_X9_lossOf : yX9_lossOf.cls = RX9 ∧ yX9_lossOf.cls ≠ "java/lang/invoke/MethodHandle" ∧ yX9_lossOf.cls ≠ "java/lang/invoke/VarHandle" ∧ (parseMethodDescriptor yX9_lossOf.desc).map (fun d => d.parameters.length) = some 3 := by decide +kernel
theorem cd_X9_removeBlock : yX9_removeBlock.cls = RX9 ∧ yX9_removeBlock.cls ≠ "java/lang/invoke/MethodHandle" ∧ yX9_removeBlock.cls ≠ "java/lang/invoke/VarHandle" ∧ (parseMethodDescriptor yX9_removeBlock.desc).map (fun d => d.parameters.length) = some 2 := by decide +kernel
theorem cd_X9_melt : yX9_melt.cls = RX9 ∧ yX9_melt.cls ≠ "java/lang/invoke/MethodHandle" ∧ yX9_melt.cls ≠ "java/lang/invoke/VarHandle" ∧ (parseMethodDescriptor yX9_melt.desc).map (fun d => d.parameters.length) = some 0 := by decide +kernel
theorem cd_X9_freeSilo : yX9_freeSilo.cls = RX9 ∧ yX9_freeSilo.cls ≠ "java/lang/invoke/MethodHandle" ∧ yX9_freeSilo.cls ≠ "java/lang/invoke/VarHandle" ∧ (parseMethodDescriptor yX9_freeSilo.desc).map (fun d => d.parameters.length) = some 0 := by decide +kernel
theorem cd_X9_produce : yX9_produce.cls = RX9 ∧ yX9_produce.cls ≠ "java/lang/invoke/MethodHandle" ∧ yX9_produce.cls ≠ "java/lang/invoke/VarHandle" ∧ (parseMethodDescriptor yX9_produce.desc).map (fun d => d.parameters.length) = some 0 := by decide +kernel
theorem cd_X9_remaining : yX9_remaining.cls = RX9 ∧ yX9_remaining.cls ≠ "java/lang/invoke/MethodHandle" ∧ yX9_remaining.cls ≠ "java/lang/invoke/VarHandle" ∧ (parseMethodDescriptor yX9_remaining.desc).map (fun d => d.parameters.length) = some 1 := by decide +kernel
theorem cd_X9_catchOf : yX9_catchOf.cls = RX9 ∧ yX9_catchOf.cls ≠ "java/lang/invoke/MethodHandle" ∧ yX9_catchOf.cls ≠ "java/lang/invoke/VarHandle" ∧ (parseMethodDescriptor yX9_catchOf.desc).map (fun d => d.parameters.length) = some 1 := by decide +kernel
theorem cd_X9_isBefore : yX9_isBefore.cls = RX9 ∧ yX9_isBefore.cls ≠ "java/lang/invoke/MethodHandle" ∧ yX9_isBefore.cls ≠ "java/lang/invoke/VarHandle" ∧ (parseMethodDescriptor yX9_isBefore.desc).map (fun d => d.parameters.length) = some 2 := by decide +kernel
theorem cd_X9_aheadOf : yX9_aheadOf.cls = RX9 ∧ yX9_aheadOf.cls ≠ "java/lang/invoke/MethodHandle" ∧ yX9_aheadOf.cls ≠ "java/lang/invoke/VarHandle" ∧ (parseMethodDescriptor yX9_aheadOf.desc).map (fun d => d.parameters.length) = some 1 := by decide +kernel
theorem cd_X9_stored : yX9_stored.cls = RX9 ∧ yX9_stored.cls ≠ "java/lang/invoke/MethodHandle" ∧ yX9_stored.cls ≠ "java/lang/invoke/VarHandle" ∧ (parseMethodDescriptor yX9_stored.desc).map (fun d => d.parameters.length) = some 0 := by decide +kernel
theorem cd_X9_blocks : yX9_blocks.cls = RX9 ∧ yX9_blocks.cls ≠ "java/lang/invoke/MethodHandle" ∧ yX9_blocks.cls ≠ "java/lang/invoke/VarHandle" ∧ (parseMethodDescriptor yX9_blocks.desc).map (fun d => d.parameters.length) = some 0 := by decide +kernel
theorem cd_X9_oldest : yX9_oldest.cls = RX9 ∧ yX9_oldest.cls ≠ "java/lang/invoke/MethodHandle" ∧ yX9_oldest.cls ≠ "java/lang/invoke/VarHandle" ∧ (parseMethodDescriptor yX9_oldest.desc).map (fun d => d.parameters.length) = some 0 := by decide +kernel
theorem cd_X9_bandNow : yX9_bandNow.cls = RX9 ∧ yX9_bandNow.cls ≠ "java/lang/invoke/MethodHandle" ∧ yX9_bandNow.cls ≠ "java/lang/invoke/VarHandle" ∧ (parseMethodDescriptor yX9_bandNow.desc).map (fun d => d.parameters.length) = some 0 := by decide +kernel
theorem cd_X9_priceOf : yX9_priceOf.cls = RX9 ∧ yX9_priceOf.cls ≠ "java/lang/invoke/MethodHandle" ∧ yX9_priceOf.cls ≠ "java/lang/invoke/VarHandle" ∧ (parseMethodDescriptor yX9_priceOf.desc).map (fun d => d.parameters.length) = some 3 := by decide +kernel
theorem cd_X9_accountOf : yX9_accountOf.cls = RX9 ∧ yX9_accountOf.cls ≠ "java/lang/invoke/MethodHandle" ∧ yX9_accountOf.cls ≠ "java/lang/invoke/VarHandle" ∧ (parseMethodDescriptor yX9_accountOf.desc).map (fun d => d.parameters.length) = some 2 := by decide +kernel
theorem cd_X9_enter : yX9_enter.cls = RX9 ∧ yX9_enter.cls ≠ "java/lang/invoke/MethodHandle" ∧ yX9_enter.cls ≠ "java/lang/invoke/VarHandle" ∧ (parseMethodDescriptor yX9_enter.desc).map (fun d => d.parameters.length) = some 3 := by decide +kernel
theorem cd_X9_giveReceipt : yX9_giveReceipt.cls = RX9 ∧ yX9_giveReceipt.cls ≠ "java/lang/invoke/MethodHandle" ∧ yX9_giveReceipt.cls ≠ "java/lang/invoke/VarHandle" ∧ (parseMethodDescriptor yX9_giveReceipt.desc).map (fun d => d.parameters.length) = some 3 := by decide +kernel
theorem cd_X9_serve : yX9_serve.cls = RX9 ∧ yX9_serve.cls ≠ "java/lang/invoke/MethodHandle" ∧ yX9_serve.cls ≠ "java/lang/invoke/VarHandle" ∧ (parseMethodDescriptor yX9_serve.desc).map (fun d => d.parameters.length) = some 1 := by decide +kernel
theorem cd_X9_openMany : yX9_openMany.cls = RX9 ∧ yX9_openMany.cls ≠ "java/lang/invoke/MethodHandle" ∧ yX9_openMany.cls ≠ "java/lang/invoke/VarHandle" ∧ (parseMethodDescriptor yX9_openMany.desc).map (fun d => d.parameters.length) = some 0 := by decide +kernel
theorem cd_X9_deliver : yX9_deliver.cls = RX9 ∧ yX9_deliver.cls ≠ "java/lang/invoke/MethodHandle" ∧ yX9_deliver.cls ≠ "java/lang/invoke/VarHandle" ∧ (parseMethodDescriptor yX9_deliver.desc).map (fun d => d.parameters.length) = some 0 := by decide +kernel
theorem cd_X9_expire : yX9_expire.cls = RX9 ∧ yX9_expire.cls ≠ "java/lang/invoke/MethodHandle" ∧ yX9_expire.cls ≠ "java/lang/invoke/VarHandle" ∧ (parseMethodDescriptor yX9_expire.desc).map (fun d => d.parameters.length) = some 0 := by decide +kernel
theorem cd_X9_hour : yX9_hour.cls = RX9 ∧ yX9_hour.cls ≠ "java/lang/invoke/MethodHandle" ∧ yX9_hour.cls ≠ "java/lang/invoke/VarHandle" ∧ (parseMethodDescriptor yX9_hour.desc).map (fun d => d.parameters.length) = some 0 := by decide +kernel
theorem cd_X9_passThrows : yX9_passThrows.cls = RX9 ∧ yX9_passThrows.cls ≠ "java/lang/invoke/MethodHandle" ∧ yX9_passThrows.cls ≠ "java/lang/invoke/VarHandle" ∧ (parseMethodDescriptor yX9_passThrows.desc).map (fun d => d.parameters.length) = some 1 := by decide +kernel
theorem cd_X9_doPass : yX9_doPass.cls = RX9 ∧ yX9_doPass.cls ≠ "java/lang/invoke/MethodHandle" ∧ yX9_doPass.cls ≠ "java/lang/invoke/VarHandle" ∧ (parseMethodDescriptor yX9_doPass.desc).map (fun d => d.parameters.length) = some 1 := by decide +kernel
theorem cd_X9_pass : yX9_pass.cls = RX9 ∧ yX9_pass.cls ≠ "java/lang/invoke/MethodHandle" ∧ yX9_pass.cls ≠ "java/lang/invoke/VarHandle" ∧ (parseMethodDescriptor yX9_pass.desc).map (fun d => d.parameters.length) = some 1 := by decide +kernel
theorem cd_X9_addBoat : yX9_addBoat.cls = RX9 ∧ yX9_addBoat.cls ≠ "java/lang/invoke/MethodHandle" ∧ yX9_addBoat.cls ≠ "java/lang/invoke/VarHandle" ∧ (parseMethodDescriptor yX9_addBoat.desc).map (fun d => d.parameters.length) = some 1 := by decide +kernel
theorem cd_X9_catchThrows : yX9_catchThrows.cls = RX9 ∧ yX9_catchThrows.cls ≠ "java/lang/invoke/MethodHandle" ∧ yX9_catchThrows.cls ≠ "java/lang/invoke/VarHandle" ∧ (parseMethodDescriptor yX9_catchThrows.desc).map (fun d => d.parameters.length) = some 2 := by decide +kernel
theorem cd_X9_setCatch : yX9_setCatch.cls = RX9 ∧ yX9_setCatch.cls ≠ "java/lang/invoke/MethodHandle" ∧ yX9_setCatch.cls ≠ "java/lang/invoke/VarHandle" ∧ (parseMethodDescriptor yX9_setCatch.desc).map (fun d => d.parameters.length) = some 2 := by decide +kernel
theorem cd_X9_orderThrows : yX9_orderThrows.cls = RX9 ∧ yX9_orderThrows.cls ≠ "java/lang/invoke/MethodHandle" ∧ yX9_orderThrows.cls ≠ "java/lang/invoke/VarHandle" ∧ (parseMethodDescriptor yX9_orderThrows.desc).map (fun d => d.parameters.length) = some 3 := by decide +kernel
theorem cd_X9_doOrder : yX9_doOrder.cls = RX9 ∧ yX9_doOrder.cls ≠ "java/lang/invoke/MethodHandle" ∧ yX9_doOrder.cls ≠ "java/lang/invoke/VarHandle" ∧ (parseMethodDescriptor yX9_doOrder.desc).map (fun d => d.parameters.length) = some 4 := by decide +kernel
theorem cd_X9_order : yX9_order.cls = RX9 ∧ yX9_order.cls ≠ "java/lang/invoke/MethodHandle" ∧ yX9_order.cls ≠ "java/lang/invoke/VarHandle" ∧ (parseMethodDescriptor yX9_order.desc).map (fun d => d.parameters.length) = some 4 := by decide +kernel
theorem cd_X9_cancel : yX9_cancel.cls = RX9 ∧ yX9_cancel.cls ≠ "java/lang/invoke/MethodHandle" ∧ yX9_cancel.cls ≠ "java/lang/invoke/VarHandle" ∧ (parseMethodDescriptor yX9_cancel.desc).map (fun d => d.parameters.length) = some 1 := by decide +kernel
theorem cd_X9_payThrows : yX9_payThrows.cls = RX9 ∧ yX9_payThrows.cls ≠ "java/lang/invoke/MethodHandle" ∧ yX9_payThrows.cls ≠ "java/lang/invoke/VarHandle" ∧ (parseMethodDescriptor yX9_payThrows.desc).map (fun d => d.parameters.length) = some 2 := by decide +kernel
theorem cd_X9_doPay : yX9_doPay.cls = RX9 ∧ yX9_doPay.cls ≠ "java/lang/invoke/MethodHandle" ∧ yX9_doPay.cls ≠ "java/lang/invoke/VarHandle" ∧ (parseMethodDescriptor yX9_doPay.desc).map (fun d => d.parameters.length) = some 2 := by decide +kernel
theorem cd_X9_pay : yX9_pay.cls = RX9 ∧ yX9_pay.cls ≠ "java/lang/invoke/MethodHandle" ∧ yX9_pay.cls ≠ "java/lang/invoke/VarHandle" ∧ (parseMethodDescriptor yX9_pay.desc).map (fun d => d.parameters.length) = some 2 := by decide +kernel
theorem cd_X9_massIn : yX9_massIn.cls = RX9 ∧ yX9_massIn.cls ≠ "java/lang/invoke/MethodHandle" ∧ yX9_massIn.cls ≠ "java/lang/invoke/VarHandle" ∧ (parseMethodDescriptor yX9_massIn.desc).map (fun d => d.parameters.length) = some 1 := by decide +kernel
theorem cd_X9_silo : yX9_silo.cls = RX9 ∧ yX9_silo.cls ≠ "java/lang/invoke/MethodHandle" ∧ yX9_silo.cls ≠ "java/lang/invoke/VarHandle" ∧ (parseMethodDescriptor yX9_silo.desc).map (fun d => d.parameters.length) = some 2 := by decide +kernel
theorem cd_X9_block : yX9_block.cls = RX9 ∧ yX9_block.cls ≠ "java/lang/invoke/MethodHandle" ∧ yX9_block.cls ≠ "java/lang/invoke/VarHandle" ∧ (parseMethodDescriptor yX9_block.desc).map (fun d => d.parameters.length) = some 3 := by decide +kernel
theorem cd_X9_openOf : yX9_openOf.cls = RX9 ∧ yX9_openOf.cls ≠ "java/lang/invoke/MethodHandle" ∧ yX9_openOf.cls ≠ "java/lang/invoke/VarHandle" ∧ (parseMethodDescriptor yX9_openOf.desc).map (fun d => d.parameters.length) = some 1 := by decide +kernel
theorem cd_X9_boat : yX9_boat.cls = RX9 ∧ yX9_boat.cls ≠ "java/lang/invoke/MethodHandle" ∧ yX9_boat.cls ≠ "java/lang/invoke/VarHandle" ∧ (parseMethodDescriptor yX9_boat.desc).map (fun d => d.parameters.length) = some 2 := by decide +kernel
theorem cd_X9_orderProperty : yX9_orderProperty.cls = RX9 ∧ yX9_orderProperty.cls ≠ "java/lang/invoke/MethodHandle" ∧ yX9_orderProperty.cls ≠ "java/lang/invoke/VarHandle" ∧ (parseMethodDescriptor yX9_orderProperty.desc).map (fun d => d.parameters.length) = some 2 := by decide +kernel
theorem cd_X9_receipt : yX9_receipt.cls = RX9 ∧ yX9_receipt.cls ≠ "java/lang/invoke/MethodHandle" ∧ yX9_receipt.cls ≠ "java/lang/invoke/VarHandle" ∧ (parseMethodDescriptor yX9_receipt.desc).map (fun d => d.parameters.length) = some 2 := by decide +kernel
theorem cd_X9_account : yX9_account.cls = RX9 ∧ yX9_account.cls ≠ "java/lang/invoke/MethodHandle" ∧ yX9_account.cls ≠ "java/lang/invoke/VarHandle" ∧ (parseMethodDescriptor yX9_account.desc).map (fun d => d.parameters.length) = some 2 := by decide +kernel
theorem cd_X9_findAccount : yX9_findAccount.cls = RX9 ∧ yX9_findAccount.cls ≠ "java/lang/invoke/MethodHandle" ∧ yX9_findAccount.cls ≠ "java/lang/invoke/VarHandle" ∧ (parseMethodDescriptor yX9_findAccount.desc).map (fun d => d.parameters.length) = some 2 := by decide +kernel
theorem cd_X9_setting : yX9_setting.cls = RX9 ∧ yX9_setting.cls ≠ "java/lang/invoke/MethodHandle" ∧ yX9_setting.cls ≠ "java/lang/invoke/VarHandle" ∧ (parseMethodDescriptor yX9_setting.desc).map (fun d => d.parameters.length) = some 1 := by decide +kernel
theorem cd_X9_total : yX9_total.cls = RX9 ∧ yX9_total.cls ≠ "java/lang/invoke/MethodHandle" ∧ yX9_total.cls ≠ "java/lang/invoke/VarHandle" ∧ (parseMethodDescriptor yX9_total.desc).map (fun d => d.parameters.length) = some 1 := by decide +kernel
theorem cd_X9_meanAge : yX9_meanAge.cls = RX9 ∧ yX9_meanAge.cls ≠ "java/lang/invoke/MethodHandle" ∧ yX9_meanAge.cls ≠ "java/lang/invoke/VarHandle" ∧ (parseMethodDescriptor yX9_meanAge.desc).map (fun d => d.parameters.length) = some 0 := by decide +kernel
theorem cd_X9_beginTrial : yX9_beginTrial.cls = RX9 ∧ yX9_beginTrial.cls ≠ "java/lang/invoke/MethodHandle" ∧ yX9_beginTrial.cls ≠ "java/lang/invoke/VarHandle" ∧ (parseMethodDescriptor yX9_beginTrial.desc).map (fun d => d.parameters.length) = some 0 := by decide +kernel
theorem cd_X9_endTrial : yX9_endTrial.cls = RX9 ∧ yX9_endTrial.cls ≠ "java/lang/invoke/MethodHandle" ∧ yX9_endTrial.cls ≠ "java/lang/invoke/VarHandle" ∧ (parseMethodDescriptor yX9_endTrial.desc).map (fun d => d.parameters.length) = some 0 := by decide +kernel
theorem cd_X9_massAfter : yX9_massAfter.cls = RX9 ∧ yX9_massAfter.cls ≠ "java/lang/invoke/MethodHandle" ∧ yX9_massAfter.cls ≠ "java/lang/invoke/VarHandle" ∧ (parseMethodDescriptor yX9_massAfter.desc).map (fun d => d.parameters.length) = some 1 := by decide +kernel
theorem cd_X9_completeIn : yX9_completeIn.cls = RX9 ∧ yX9_completeIn.cls ≠ "java/lang/invoke/MethodHandle" ∧ yX9_completeIn.cls ≠ "java/lang/invoke/VarHandle" ∧ (parseMethodDescriptor yX9_completeIn.desc).map (fun d => d.parameters.length) = some 1 := by decide +kernel
theorem cd_X9_bestRule : yX9_bestRule.cls = RX9 ∧ yX9_bestRule.cls ≠ "java/lang/invoke/MethodHandle" ∧ yX9_bestRule.cls ≠ "java/lang/invoke/VarHandle" ∧ (parseMethodDescriptor yX9_bestRule.desc).map (fun d => d.parameters.length) = some 2 := by decide +kernel
theorem cd_X9_quote : yX9_quote.cls = RX9 ∧ yX9_quote.cls ≠ "java/lang/invoke/MethodHandle" ∧ yX9_quote.cls ≠ "java/lang/invoke/VarHandle" ∧ (parseMethodDescriptor yX9_quote.desc).map (fun d => d.parameters.length) = some 3 := by decide +kernel
theorem cd_X9_append : yX9_append.cls = RX9 ∧ yX9_append.cls ≠ "java/lang/invoke/MethodHandle" ∧ yX9_append.cls ≠ "java/lang/invoke/VarHandle" ∧ (parseMethodDescriptor yX9_append.desc).map (fun d => d.parameters.length) = some 1 := by decide +kernel
theorem cd_X9_clear : yX9_clear.cls = RX9 ∧ yX9_clear.cls ≠ "java/lang/invoke/MethodHandle" ∧ yX9_clear.cls ≠ "java/lang/invoke/VarHandle" ∧ (parseMethodDescriptor yX9_clear.desc).map (fun d => d.parameters.length) = some 0 := by decide +kernel
theorem cd_X9_needs : yX9_needs.cls = RX9 ∧ yX9_needs.cls ≠ "java/lang/invoke/MethodHandle" ∧ yX9_needs.cls ≠ "java/lang/invoke/VarHandle" ∧ (parseMethodDescriptor yX9_needs.desc).map (fun d => d.parameters.length) = some 0 := by decide +kernel
theorem cd_X9_readOne : yX9_readOne.cls = RX9 ∧ yX9_readOne.cls ≠ "java/lang/invoke/MethodHandle" ∧ yX9_readOne.cls ≠ "java/lang/invoke/VarHandle" ∧ (parseMethodDescriptor yX9_readOne.desc).map (fun d => d.parameters.length) = some 1 := by decide +kernel
theorem cd_X9_ends : yX9_ends.cls = RX9 ∧ yX9_ends.cls ≠ "java/lang/invoke/MethodHandle" ∧ yX9_ends.cls ≠ "java/lang/invoke/VarHandle" ∧ (parseMethodDescriptor yX9_ends.desc).map (fun d => d.parameters.length) = some 0 := by decide +kernel
theorem cd_X9_error : yX9_error.cls = RX9 ∧ yX9_error.cls ≠ "java/lang/invoke/MethodHandle" ∧ yX9_error.cls ≠ "java/lang/invoke/VarHandle" ∧ (parseMethodDescriptor yX9_error.desc).map (fun d => d.parameters.length) = some 0 := by decide +kernel
theorem cd_X9_errorPosition : yX9_errorPosition.cls = RX9 ∧ yX9_errorPosition.cls ≠ "java/lang/invoke/MethodHandle" ∧ yX9_errorPosition.cls ≠ "java/lang/invoke/VarHandle" ∧ (parseMethodDescriptor yX9_errorPosition.desc).map (fun d => d.parameters.length) = some 0 := by decide +kernel
theorem cd_X9_errorKind : yX9_errorKind.cls = RX9 ∧ yX9_errorKind.cls ≠ "java/lang/invoke/MethodHandle" ∧ yX9_errorKind.cls ≠ "java/lang/invoke/VarHandle" ∧ (parseMethodDescriptor yX9_errorKind.desc).map (fun d => d.parameters.length) = some 0 := by decide +kernel
theorem cd_X9_done : yX9_done.cls = RX9 ∧ yX9_done.cls ≠ "java/lang/invoke/MethodHandle" ∧ yX9_done.cls ≠ "java/lang/invoke/VarHandle" ∧ (parseMethodDescriptor yX9_done.desc).map (fun d => d.parameters.length) = some 0 := by decide +kernel
theorem cd_X9_execute : yX9_execute.cls = RX9 ∧ yX9_execute.cls ≠ "java/lang/invoke/MethodHandle" ∧ yX9_execute.cls ≠ "java/lang/invoke/VarHandle" ∧ (parseMethodDescriptor yX9_execute.desc).map (fun d => d.parameters.length) = some 0 := by decide +kernel
theorem cd_X9_undo : yX9_undo.cls = RX9 ∧ yX9_undo.cls ≠ "java/lang/invoke/MethodHandle" ∧ yX9_undo.cls ≠ "java/lang/invoke/VarHandle" ∧ (parseMethodDescriptor yX9_undo.desc).map (fun d => d.parameters.length) = some 0 := by decide +kernel
