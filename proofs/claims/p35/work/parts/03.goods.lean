abbrev wsX0_init : List Cond := .code yX0_init cX0_init 1 none :: lwA
abbrev wsX8_copyRow : List Cond := .code yX8_copyRow cX8_copyRow 2 none :: lwA
abbrev wsX8_copyLongRow : List Cond := .code yX8_copyLongRow cX8_copyLongRow 2 none :: lwA
abbrev wsX0_copyFrom : List Cond := .code yX0_copyFrom cX0_copyFrom 2 none :: lwA
abbrev wsX0_find : List Cond := .code yX0_find cX0_find 4 (some .int) :: lwA
abbrev wsX0_enter : List Cond := .code yX0_enter cX0_enter 6 none :: lwA
abbrev wsX0_property : List Cond := .code yX0_property cX0_property 3 (some .long) :: lwA
abbrev wsX1_init : List Cond := .code yX1_init cX1_init 1 none :: lwA
abbrev wsX1_copyFrom : List Cond := .code yX1_copyFrom cX1_copyFrom 2 none :: lwA
abbrev wsX1_has : List Cond := .code yX1_has cX1_has 2 (some .boolean) :: lwA
abbrev wsX1_addOne : List Cond := .code yX1_addOne cX1_addOne 2 (some .int) :: lwA
abbrev wsX1_charge : List Cond := .code yX1_charge cX1_charge 4 none :: lwA
abbrev wsX1_reduceDebt : List Cond := .code yX1_reduceDebt cX1_reduceDebt 3 (some .int) :: lwA
abbrev wsX8_valueAt : List Cond := .code yX8_valueAt cX8_valueAt 2 (some .int) :: lwA
abbrev wsX1_property : List Cond := .code yX1_property cX1_property 3 (some .int) :: lwA
abbrev wsX6_init : List Cond := .code yX6_init cX6_init 1 none :: lwA
abbrev wsX3_init : List Cond := .code yX3_init cX3_init 1 none :: lwA
abbrev wsX5_init : List Cond := .code yX5_init cX5_init 1 none :: lwA
abbrev wsX4_init : List Cond := .code yX4_init cX4_init 2 none :: lwA
abbrev wsX2_init : List Cond := .code yX2_init cX2_init 2 none :: lwA
abbrev wsX6_copyFrom : List Cond := .code yX6_copyFrom cX6_copyFrom 2 none :: lwA
abbrev wsX3_copyFrom : List Cond := .code yX3_copyFrom cX3_copyFrom 2 none :: lwA
abbrev wsX5_copyFrom : List Cond := .code yX5_copyFrom cX5_copyFrom 2 none :: lwA
abbrev wsX4_copyFrom : List Cond := .code yX4_copyFrom cX4_copyFrom 2 none :: lwA
abbrev wsX2_save : List Cond := .code yX2_save cX2_save 3 none :: lwA
abbrev wsX2_restore : List Cond := .code yX2_restore cX2_restore 3 (some .int) :: lwA
abbrev wsX3_has : List Cond := .code yX3_has cX3_has 2 (some .boolean) :: lwA
abbrev wsX3_isOpen : List Cond := .code yX3_isOpen cX3_isOpen 2 (some .boolean) :: lwA
abbrev wsX3_isComplete : List Cond := .code yX3_isComplete cX3_isComplete 2 (some .boolean) :: lwA
abbrev wsX3_isWhole : List Cond := .code yX3_isWhole cX3_isWhole 2 (some .boolean) :: lwA
abbrev wsX3_isFull : List Cond := .code yX3_isFull cX3_isFull 1 (some .boolean) :: lwA
abbrev wsX3_place : List Cond := .code yX3_place cX3_place 5 (some .int) :: lwA
abbrev wsX3_remaining : List Cond := .code yX3_remaining cX3_remaining 3 (some .int) :: lwA
abbrev wsX3_close : List Cond := .code yX3_close cX3_close 5 none :: lwA
abbrev wsX3_deliver : List Cond := .code yX3_deliver cX3_deliver 3 none :: lwA
abbrev wsX3_expire : List Cond := .code yX3_expire cX3_expire 3 none :: lwA
abbrev wsX3_openOf : List Cond := .code yX3_openOf cX3_openOf 4 (some .int) :: lwA
abbrev wsX3_comesBefore : List Cond := .code yX3_comesBefore cX3_comesBefore 11 (some .boolean) :: lwA
abbrev wsX3_arrange : List Cond := .code yX3_arrange cX3_arrange 5 (some .int) :: lwA
abbrev wsX3_openBefore : List Cond := .code yX3_openBefore cX3_openBefore 6 (some .int) :: lwA
abbrev wsX3_property : List Cond := .code yX3_property cX3_property 3 (some .int) :: lwA
abbrev wsX6_lossOf : List Cond := .code yX6_lossOf cX6_lossOf 6 (some .int) :: lwA
abbrev wsX6_fillSlot : List Cond := .code yX6_fillSlot cX6_fillSlot 5 none :: lwA
abbrev wsX6_meltSilo : List Cond := .code yX6_meltSilo cX6_meltSilo 9 none :: lwA
abbrev wsX6_melt : List Cond := .code yX6_melt cX6_melt 3 none :: lwA
abbrev wsX6_makeBlock : List Cond := .code yX6_makeBlock cX6_makeBlock 3 (some .boolean) :: lwA
abbrev wsX4_produce : List Cond := .code yX4_produce cX4_produce 2 none :: lwA
abbrev wsX6_sumOf : List Cond := .code yX6_sumOf cX6_sumOf 8 (some .int) :: lwA
abbrev wsX6_mass : List Cond := .code yX6_mass cX6_mass 1 (some .int) :: lwA
abbrev wsX4_isSkipped : List Cond := .code yX4_isSkipped cX4_isSkipped 3 (some .boolean) :: lwA
abbrev wsX6_oldestSlot : List Cond := .code yX6_oldestSlot cX6_oldestSlot 5 (some .int) :: lwA
abbrev wsX6_removeBlock : List Cond := .code yX6_removeBlock cX6_removeBlock 6 (some .int) :: lwA
abbrev wsX4_priceOf : List Cond := .code yX4_priceOf cX4_priceOf 5 (some .int) :: lwA
abbrev wsX5_write : List Cond := .code yX5_write cX5_write 6 none :: lwA
abbrev wsX4_serve : List Cond := .code yX4_serve cX4_serve 10 none :: lwA
abbrev wsX6_growOlder : List Cond := .code yX6_growOlder cX6_growOlder 4 none :: lwA
abbrev wsX4_passHour : List Cond := .code yX4_passHour cX4_passHour 5 none :: lwA
abbrev wsX4_letPass : List Cond := .code yX4_letPass cX4_letPass 4 (some .int) :: lwA
abbrev wsX4_takePayment : List Cond := .code yX4_takePayment cX4_takePayment 3 (some .int) :: lwA
abbrev wsX4_ordersBefore : List Cond := .code yX4_ordersBefore cX4_ordersBefore 2 (some .int) :: lwA
abbrev wsX6_meltedMass : List Cond := .code yX6_meltedMass cX6_meltedMass 3 (some .int) :: lwA
abbrev wsX6_blocks : List Cond := .code yX6_blocks cX6_blocks 3 (some .int) :: lwA
abbrev wsX5_kept : List Cond := .code yX5_kept cX5_kept 1 (some .int) :: lwA
abbrev wsX4_totalOf : List Cond := .code yX4_totalOf cX4_totalOf 2 (some .long) :: lwA
abbrev wsX5_property : List Cond := .code yX5_property cX5_property 4 (some .int) :: lwA
abbrev wsX6_addOne : List Cond := .code yX6_addOne cX6_addOne 4 (some .int) :: lwA
abbrev wsX6_hasSilo : List Cond := .code yX6_hasSilo cX6_hasSilo 2 (some .boolean) :: lwA
abbrev wsX6_isEmpty : List Cond := .code yX6_isEmpty cX6_isEmpty 2 (some .boolean) :: lwA
abbrev wsX6_hasRoom : List Cond := .code yX6_hasRoom cX6_hasRoom 2 (some .boolean) :: lwA
abbrev wsX6_slotOf : List Cond := .code yX6_slotOf cX6_slotOf 3 (some .int) :: lwA
abbrev wsX6_moveTop : List Cond := .code yX6_moveTop cX6_moveTop 4 (some .int) :: lwA
abbrev wsX6_sumOfAges : List Cond := .code yX6_sumOfAges cX6_sumOfAges 1 (some .int) :: lwA
abbrev wsX6_siloProperty : List Cond := .code yX6_siloProperty cX6_siloProperty 3 (some .int) :: lwA
abbrev wsX7_init : List Cond := .code yX7_init cX7_init 1 none :: lwA
abbrev wsX7_start : List Cond := .code yX7_start cX7_start 1 none :: lwA
abbrev wsX7_hasCommand : List Cond := .code yX7_hasCommand cX7_hasCommand 1 (some .boolean) :: lwA
abbrev wsX7_sign : List Cond := .code yX7_sign cX7_sign 1 (some .char) :: lwA
abbrev wsX7_numbersBehind : List Cond := .code yX7_numbersBehind cX7_numbersBehind 1 (some .int) :: lwA
abbrev wsX7_failHere : List Cond := .code yX7_failHere cX7_failHere 1 none :: lwA
abbrev wsX7_readComma : List Cond := .code yX7_readComma cX7_readComma 1 none :: lwA
abbrev wsX7_isDigit : List Cond := .code yX7_isDigit cX7_isDigit 1 (some .boolean) :: lwA
abbrev wsX7_readNumber : List Cond := .code yX7_readNumber cX7_readNumber 4 none :: lwA
abbrev wsX7_readSeparator : List Cond := .code yX7_readSeparator cX7_readSeparator 1 none :: lwA
abbrev wsX7_readCommand : List Cond := .code yX7_readCommand cX7_readCommand 3 none :: lwA
abbrev wsX7_readAll : List Cond := .code yX7_readAll cX7_readAll 2 none :: lwA
abbrev wsX8_init : List Cond := .code yX8_init cX8_init 1 none :: lwA
abbrev wsX8_isWithin : List Cond := .code yX8_isWithin cX8_isWithin 3 (some .boolean) :: lwA
abbrev wsX8_refuse : List Cond := .code yX8_refuse cX8_refuse 1 none :: lwA
abbrev wsX8_needArgument : List Cond := .code yX8_needArgument cX8_needArgument 1 none :: lwA
abbrev wsX8_needState : List Cond := .code yX8_needState cX8_needState 1 none :: lwA
abbrev wsX8_addSilo : List Cond := .code yX8_addSilo cX8_addSilo 4 (some .int) :: lwA
abbrev wsX8_needItem : List Cond := .code yX8_needItem cX8_needItem 1 none :: lwA
abbrev wsX8_replace : List Cond := .code yX8_replace cX8_replace 4 (some .int) :: lwA
abbrev wsX8_setRule : List Cond := .code yX8_setRule cX8_setRule 3 (some .int) :: lwA
abbrev wsX8_setStrength : List Cond := .code yX8_setStrength cX8_setStrength 3 (some .int) :: lwA
abbrev wsX8_setTemperature : List Cond := .code yX8_setTemperature cX8_setTemperature 3 (some .int) :: lwA
abbrev wsX8_set : List Cond := .code yX8_set cX8_set 3 (some .int) :: lwA
abbrev wsX8_moveFault : List Cond := .code yX8_moveFault cX8_moveFault 3 (some .int) :: lwA
abbrev wsX8_move : List Cond := .code yX8_move cX8_move 3 (some .int) :: lwA
abbrev wsX8_passFault : List Cond := .code yX8_passFault cX8_passFault 2 (some .int) :: lwA
abbrev wsX8_pass : List Cond := .code yX8_pass cX8_pass 2 (some .int) :: lwA
abbrev wsX8_addBoat : List Cond := .code yX8_addBoat cX8_addBoat 2 (some .int) :: lwA
abbrev wsX8_catchFault : List Cond := .code yX8_catchFault cX8_catchFault 3 (some .int) :: lwA
abbrev wsX8_setCatch : List Cond := .code yX8_setCatch cX8_setCatch 3 (some .int) :: lwA
abbrev wsX8_orderFault : List Cond := .code yX8_orderFault cX8_orderFault 4 (some .int) :: lwA
abbrev wsX8_order : List Cond := .code yX8_order cX8_order 5 (some .int) :: lwA
abbrev wsX8_cancel : List Cond := .code yX8_cancel cX8_cancel 2 (some .int) :: lwA
abbrev wsX8_payFault : List Cond := .code yX8_payFault cX8_payFault 3 (some .int) :: lwA
abbrev wsX8_pay : List Cond := .code yX8_pay cX8_pay 3 (some .int) :: lwA
abbrev wsX8_silo : List Cond := .code yX8_silo cX8_silo 3 (some .int) :: lwA
abbrev wsX8_boat : List Cond := .code yX8_boat cX8_boat 3 (some .int) :: lwA
abbrev wsX8_orderProperty : List Cond := .code yX8_orderProperty cX8_orderProperty 3 (some .int) :: lwA
abbrev wsX8_receipt : List Cond := .code yX8_receipt cX8_receipt 3 (some .int) :: lwA
abbrev wsX8_account : List Cond := .code yX8_account cX8_account 3 (some .long) :: lwA
abbrev wsX8_findAccount : List Cond := .code yX8_findAccount cX8_findAccount 3 (some .int) :: lwA
abbrev wsX8_total : List Cond := .code yX8_total cX8_total 2 (some .long) :: lwA
abbrev wsX8_meanAge : List Cond := .code yX8_meanAge cX8_meanAge 2 (some .double) :: lwA
abbrev wsX8_massAfter : List Cond := .code yX8_massAfter cX8_massAfter 2 (some .int) :: lwA
abbrev wsX8_completeIn : List Cond := .code yX8_completeIn cX8_completeIn 3 (some .int) :: lwA
abbrev wsX8_meltedWith : List Cond := .code yX8_meltedWith cX8_meltedWith 4 (some .int) :: lwA
abbrev wsX8_bestRule : List Cond := .code yX8_bestRule cX8_bestRule 7 (some .int) :: lwA
abbrev wsX8_quote : List Cond := .code yX8_quote cX8_quote 4 (some .int) :: lwA
abbrev wsX8_errorPosition : List Cond := .code yX8_errorPosition cX8_errorPosition 1 (some .int) :: lwA
abbrev wsX8_errorKind : List Cond := .code yX8_errorKind cX8_errorKind 1 (some .int) :: lwA
abbrev wsX8_undo : List Cond := .code yX8_undo cX8_undo 1 (some .int) :: lwA
abbrev wsL_cell : List Cond := .code yL_cell cL_cell 2 (some .int) :: lwA
abbrev wsL_low : List Cond := .code yL_low cL_low 2 (some .int) :: lwA
abbrev wsL_addSilo : List Cond := .codeWith yL_addSilo cL_addSilo 5 (some .int) [(0, 7, 8, 15), (0, 7, 13, 18)] :: lwA
abbrev wsL_setRule : List Cond := .codeWith yL_setRule cL_setRule 4 (some .int) [(0, 6, 7, 25), (0, 6, 11, 15)] :: lwA
abbrev wsL_setStrength : List Cond := .codeWith yL_setStrength cL_setStrength 4 (some .int) [(0, 6, 7, 25), (0, 6, 11, 15)] :: lwA
abbrev wsL_setTemperature : List Cond := .codeWith yL_setTemperature cL_setTemperature 4 (some .int) [(0, 6, 7, 25), (0, 6, 11, 15)] :: lwA
abbrev wsL_set : List Cond := .codeWith yL_set cL_set 4 (some .int) [(0, 6, 7, 25), (0, 6, 11, 15)] :: lwA
abbrev wsL_move : List Cond := .codeWith yL_move cL_move 4 (some .int) [(0, 6, 7, 25), (0, 6, 11, 15), (0, 6, 15, 18)] :: lwA
abbrev wsL_pass : List Cond := .codeWith yL_pass cL_pass 3 (some .int) [(0, 5, 6, 15), (0, 5, 10, 18)] :: lwA
abbrev wsL_addBoat : List Cond := .codeWith yL_addBoat cL_addBoat 3 (some .int) [(0, 5, 6, 15), (0, 5, 10, 18)] :: lwA
abbrev wsL_setCatch : List Cond := .codeWith yL_setCatch cL_setCatch 4 (some .int) [(0, 6, 7, 25), (0, 6, 11, 15)] :: lwA
abbrev wsL_order : List Cond := .codeWith yL_order cL_order 6 (some .int) [(0, 9, 10, 25), (0, 9, 15, 15), (0, 9, 20, 18)] :: lwA
abbrev wsL_cancel : List Cond := .codeWith yL_cancel cL_cancel 3 (some .int) [(0, 5, 6, 25), (0, 5, 10, 18)] :: lwA
abbrev wsL_pay : List Cond := .codeWith yL_pay cL_pay 4 (some .int) [(0, 6, 7, 25), (0, 6, 11, 15), (0, 6, 15, 18)] :: lwA
abbrev wsL_silo : List Cond := .codeWith yL_silo cL_silo 4 (some .int) [(0, 6, 7, 25), (0, 6, 11, 15)] :: lwA
abbrev wsL_boat : List Cond := .codeWith yL_boat cL_boat 4 (some .int) [(0, 6, 7, 25), (0, 6, 11, 15)] :: lwA
abbrev wsL_orderProperty : List Cond := .codeWith yL_orderProperty cL_orderProperty 4 (some .int) [(0, 6, 7, 25), (0, 6, 11, 15)] :: lwA
abbrev wsL_receipt : List Cond := .codeWith yL_receipt cL_receipt 4 (some .int) [(0, 6, 7, 25), (0, 6, 11, 15)] :: lwA
abbrev wsL_massAfter : List Cond := .codeWith yL_massAfter cL_massAfter 3 (some .int) [(0, 5, 6, 15)] :: lwA
abbrev wsL_completeIn : List Cond := .codeWith yL_completeIn cL_completeIn 3 (some .int) [(0, 5, 6, 25), (0, 5, 10, 18)] :: lwA
abbrev wsL_bestRule : List Cond := .codeWith yL_bestRule cL_bestRule 4 (some .int) [(0, 6, 7, 25), (0, 6, 11, 15)] :: lwA
abbrev wsL_quote : List Cond := .codeWith yL_quote cL_quote 5 (some .int) [(0, 7, 8, 25), (0, 7, 13, 15)] :: lwA
abbrev wsL_undo : List Cond := .codeWith yL_undo cL_undo 2 (some .int) [(0, 4, 5, 18)] :: lwA
abbrev wsL_total : List Cond := .codeWith yL_total cL_total 3 (some .long) [(0, 5, 6, 15)] :: lwA
abbrev wsL_account : List Cond := .codeWith yL_account cL_account 4 (some .long) [(0, 6, 7, 25), (0, 6, 12, 15)] :: lwA
abbrev wsL_findAccount : List Cond := .codeWith yL_findAccount cL_findAccount 4 (some .int) [(0, 6, 7, 25), (0, 6, 11, 15)] :: lwA
abbrev wsL_change : List Cond := .code yL_change cL_change 6 (some .int) :: lwA
abbrev wsL_ask : List Cond := .code yL_ask cL_ask 4 (some .int) :: lwA
abbrev wsL_isWeighed : List Cond := .code yL_isWeighed cL_isWeighed 8 (some .boolean) :: lwA
abbrev wsL_isBilled : List Cond := .code yL_isBilled cL_isBilled 12 (some .boolean) :: lwA
abbrev wsL_areAlike : List Cond := .code yL_areAlike cL_areAlike 4 (some .boolean) :: lwA
theorem gX0_copyFrom_X8_copyRow_n29 : GoodIn wsX0_copyFrom (wsX8_copyRow) := gA (aC qc_X8_copyRow)
theorem gX0_copyFrom_X8_copyLongRow_n33 : GoodIn wsX0_copyFrom (wsX8_copyLongRow) := gA (aC qc_X8_copyLongRow)
theorem gX0_enter_X0_find : GoodIn wsX0_enter (wsV RX0 37 RX0 yX0_find wsX0_find) := gA (aV qm_X0_37 qi_X0_find ql_X0_find qn_X0 qc_X0_find)
theorem gX1_copyFrom_X8_copyRow_n25 : GoodIn wsX1_copyFrom (wsX8_copyRow) := gA (aC qc_X8_copyRow)
theorem gX1_charge_X1_has : GoodIn wsX1_charge (wsV RX1 29 RX1 yX1_has wsX1_has) := gA (aV qm_X1_29 qi_X1_has ql_X1_has qn_X1 qc_X1_has)
theorem gX1_reduceDebt_X1_has : GoodIn wsX1_reduceDebt (wsV RX1 29 RX1 yX1_has wsX1_has) := gA (aV qm_X1_29 qi_X1_has ql_X1_has qn_X1 qc_X1_has)
theorem gX1_property_X8_valueAt_n33 : GoodIn wsX1_property (wsX8_valueAt) := gA (aC qc_X8_valueAt)
theorem gX2_init_X4_init : GoodIn wsX2_init (wsX4_init) := gA (aC qc_X4_init)
theorem gX2_save_X4_copyFrom : GoodIn wsX2_save (wsV RX2 23 RX4 yX4_copyFrom wsX4_copyFrom) := gA (aV qm_X2_23 qi_X4_copyFrom ql_X4_copyFrom qn_X4 qc_X4_copyFrom)
theorem gX2_restore_X4_copyFrom : GoodIn wsX2_restore (wsV RX2 23 RX4 yX4_copyFrom wsX4_copyFrom) := gA (aV qm_X2_23 qi_X4_copyFrom ql_X4_copyFrom qn_X4 qc_X4_copyFrom)
theorem gX3_copyFrom_X8_copyRow_n43 : GoodIn wsX3_copyFrom (wsX8_copyRow) := gA (aC qc_X8_copyRow)
theorem gX3_isOpen_X3_has : GoodIn wsX3_isOpen (wsV RX3 47 RX3 yX3_has wsX3_has) := gA (aV qm_X3_47 qi_X3_has ql_X3_has qn_X3 qc_X3_has)
theorem gX3_isComplete_X3_has : GoodIn wsX3_isComplete (wsV RX3 47 RX3 yX3_has wsX3_has) := gA (aV qm_X3_47 qi_X3_has ql_X3_has qn_X3 qc_X3_has)
theorem gX3_isWhole_X8_valueAt_n51 : GoodIn wsX3_isWhole (wsX8_valueAt) := gA (aC qc_X8_valueAt)
theorem gX3_place_X3_isFull : GoodIn wsX3_place (wsV RX3 55 RX3 yX3_isFull wsX3_isFull) := gA (aV qm_X3_55 qi_X3_isFull ql_X3_isFull qn_X3 qc_X3_isFull)
theorem gX3_remaining_X8_valueAt_n51 : GoodIn wsX3_remaining (wsX8_valueAt) := gA (aC qc_X8_valueAt)
theorem gX3_deliver_X3_has : GoodIn wsX3_deliver (wsV RX3 47 RX3 yX3_has wsX3_has) := gA (aV qm_X3_47 qi_X3_has ql_X3_has qn_X3 qc_X3_has)
theorem gX3_deliver_X3_close : GoodIn wsX3_deliver (wsV RX3 59 RX3 yX3_close wsX3_close) := gA (aV qm_X3_59 qi_X3_close ql_X3_close qn_X3 qc_X3_close)
theorem gX3_close_X3_has : GoodIn wsX3_close (wsV RX3 47 RX3 yX3_has wsX3_has) := gA (aV qm_X3_47 qi_X3_has ql_X3_has qn_X3 qc_X3_has)
theorem gX3_expire_X3_has : GoodIn wsX3_expire (wsV RX3 47 RX3 yX3_has wsX3_has) := gA (aV qm_X3_47 qi_X3_has ql_X3_has qn_X3 qc_X3_has)
theorem gX3_expire_X3_close : GoodIn wsX3_expire (wsV RX3 59 RX3 yX3_close wsX3_close) := gA (aV qm_X3_59 qi_X3_close ql_X3_close qn_X3 qc_X3_close)
theorem gX3_openOf_X8_valueAt_n51 : GoodIn wsX3_openOf (wsX8_valueAt) := gA (aC qc_X8_valueAt)
theorem gX3_arrange_X3_comesBefore : GoodIn wsX3_arrange (wsV RX3 63 RX3 yX3_comesBefore wsX3_comesBefore) := gA (aV qm_X3_63 qi_X3_comesBefore ql_X3_comesBefore qn_X3 qc_X3_comesBefore)
theorem gX3_openBefore_X3_comesBefore : GoodIn wsX3_openBefore (wsV RX3 63 RX3 yX3_comesBefore wsX3_comesBefore) := gA (aV qm_X3_63 qi_X3_comesBefore ql_X3_comesBefore qn_X3 qc_X3_comesBefore)
theorem gX3_comesBefore_X8_valueAt_n51 : GoodIn wsX3_comesBefore (wsX8_valueAt) := gA (aC qc_X8_valueAt)
theorem gX3_comesBefore_X3_remaining : GoodIn wsX3_comesBefore (wsV RX3 72 RX3 yX3_remaining wsX3_remaining) := gA (aV qm_X3_72 qi_X3_remaining ql_X3_remaining qn_X3 qc_X3_remaining)
theorem gX3_property_X8_valueAt_n51 : GoodIn wsX3_property (wsX8_valueAt) := gA (aC qc_X8_valueAt)
theorem gX4_init_X8_copyRow_n18 : GoodIn wsX4_init (wsX8_copyRow) := gA (aC qc_X8_copyRow)
theorem gX4_init_X6_init : GoodIn wsX4_init (wsX6_init) := gA (aC qc_X6_init)
theorem gX4_init_X1_init : GoodIn wsX4_init (wsX1_init) := gA (aC qc_X1_init)
theorem gX4_init_X3_init : GoodIn wsX4_init (wsX3_init) := gA (aC qc_X3_init)
theorem gX4_init_X5_init : GoodIn wsX4_init (wsX5_init) := gA (aC qc_X5_init)
theorem gX4_init_X0_init : GoodIn wsX4_init (wsX0_init) := gA (aC qc_X0_init)
theorem gX4_copyFrom_X8_copyRow_n18 : GoodIn wsX4_copyFrom (wsX8_copyRow) := gA (aC qc_X8_copyRow)
theorem gX4_copyFrom_X6_copyFrom : GoodIn wsX4_copyFrom (wsV RX4 60 RX6 yX6_copyFrom wsX6_copyFrom) := gA (aV qm_X4_60 qi_X6_copyFrom ql_X6_copyFrom qn_X6 qc_X6_copyFrom)
theorem gX4_copyFrom_X1_copyFrom : GoodIn wsX4_copyFrom (wsV RX4 64 RX1 yX1_copyFrom wsX1_copyFrom) := gA (aV qm_X4_64 qi_X1_copyFrom ql_X1_copyFrom qn_X1 qc_X1_copyFrom)
theorem gX4_copyFrom_X3_copyFrom : GoodIn wsX4_copyFrom (wsV RX4 67 RX3 yX3_copyFrom wsX3_copyFrom) := gA (aV qm_X4_67 qi_X3_copyFrom ql_X3_copyFrom qn_X3 qc_X3_copyFrom)
theorem gX4_copyFrom_X5_copyFrom : GoodIn wsX4_copyFrom (wsV RX4 70 RX5 yX5_copyFrom wsX5_copyFrom) := gA (aV qm_X4_70 qi_X5_copyFrom ql_X5_copyFrom qn_X5 qc_X5_copyFrom)
theorem gX4_copyFrom_X0_copyFrom : GoodIn wsX4_copyFrom (wsV RX4 73 RX0 yX0_copyFrom wsX0_copyFrom) := gA (aV qm_X4_73 qi_X0_copyFrom ql_X0_copyFrom qn_X0 qc_X0_copyFrom)
theorem gX4_letPass_X4_passHour : GoodIn wsX4_letPass (wsV RX4 96 RX4 yX4_passHour wsX4_passHour) := gA (aV qm_X4_96 qi_X4_passHour ql_X4_passHour qn_X4 qc_X4_passHour)
theorem gX4_passHour_X8_valueAt_n99 : GoodIn wsX4_passHour (wsX8_valueAt) := gA (aC qc_X8_valueAt)
theorem gX4_passHour_X6_melt : GoodIn wsX4_passHour (wsV RX4 103 RX6 yX6_melt wsX6_melt) := gA (aV qm_X4_103 qi_X6_melt ql_X6_melt qn_X6 qc_X6_melt)
theorem gX4_passHour_X4_produce : GoodIn wsX4_passHour (wsV RX4 107 RX4 yX4_produce wsX4_produce) := gA (aV qm_X4_107 qi_X4_produce ql_X4_produce qn_X4 qc_X4_produce)
theorem gX4_passHour_X3_arrange : GoodIn wsX4_passHour (wsV RX4 110 RX3 yX3_arrange wsX3_arrange) := gA (aV qm_X4_110 qi_X3_arrange ql_X3_arrange qn_X3 qc_X3_arrange)
theorem gX4_passHour_X4_serve : GoodIn wsX4_passHour (wsV RX4 117 RX4 yX4_serve wsX4_serve) := gA (aV qm_X4_117 qi_X4_serve ql_X4_serve qn_X4 qc_X4_serve)
theorem gX4_passHour_X3_expire : GoodIn wsX4_passHour (wsV RX4 121 RX3 yX3_expire wsX3_expire) := gA (aV qm_X4_121 qi_X3_expire ql_X3_expire qn_X3 qc_X3_expire)
theorem gX4_passHour_X6_growOlder : GoodIn wsX4_passHour (wsV RX4 124 RX6 yX6_growOlder wsX6_growOlder) := gA (aV qm_X4_124 qi_X6_growOlder ql_X6_growOlder qn_X6 qc_X6_growOlder)
theorem gX4_produce_X6_makeBlock : GoodIn wsX4_produce (wsV RX4 127 RX6 yX6_makeBlock wsX6_makeBlock) := gA (aV qm_X4_127 qi_X6_makeBlock ql_X6_makeBlock qn_X6 qc_X6_makeBlock)
theorem gX4_serve_X8_valueAt_n99 : GoodIn wsX4_serve (wsX8_valueAt) := gA (aC qc_X8_valueAt)
theorem gX4_serve_X4_isSkipped : GoodIn wsX4_serve (wsV RX4 133 RX4 yX4_isSkipped wsX4_isSkipped) := gA (aV qm_X4_133 qi_X4_isSkipped ql_X4_isSkipped qn_X4 qc_X4_isSkipped)
theorem gX4_serve_X3_remaining : GoodIn wsX4_serve (wsV RX4 137 RX3 yX3_remaining wsX3_remaining) := gA (aV qm_X4_137 qi_X3_remaining ql_X3_remaining qn_X3 qc_X3_remaining)
theorem gX4_serve_X6_oldestSlot : GoodIn wsX4_serve (wsV RX4 141 RX6 yX6_oldestSlot wsX6_oldestSlot) := gA (aV qm_X4_141 qi_X6_oldestSlot ql_X6_oldestSlot qn_X6 qc_X6_oldestSlot)
theorem gX4_serve_X6_removeBlock : GoodIn wsX4_serve (wsV RX4 145 RX6 yX6_removeBlock wsX6_removeBlock) := gA (aV qm_X4_145 qi_X6_removeBlock ql_X6_removeBlock qn_X6 qc_X6_removeBlock)
theorem gX4_serve_X4_priceOf : GoodIn wsX4_serve (wsV RX4 148 RX4 yX4_priceOf wsX4_priceOf) := gA (aV qm_X4_148 qi_X4_priceOf ql_X4_priceOf qn_X4 qc_X4_priceOf)
theorem gX4_serve_X3_deliver : GoodIn wsX4_serve (wsV RX4 152 RX3 yX3_deliver wsX3_deliver) := gA (aV qm_X4_152 qi_X3_deliver ql_X3_deliver qn_X3 qc_X3_deliver)
theorem gX4_serve_X1_charge : GoodIn wsX4_serve (wsV RX4 155 RX1 yX1_charge wsX1_charge) := gA (aV qm_X4_155 qi_X1_charge ql_X1_charge qn_X1 qc_X1_charge)
theorem gX4_serve_X0_enter : GoodIn wsX4_serve (wsV RX4 159 RX0 yX0_enter wsX0_enter) := gA (aV qm_X4_159 qi_X0_enter ql_X0_enter qn_X0 qc_X0_enter)
theorem gX4_serve_X5_write : GoodIn wsX4_serve (wsV RX4 163 RX5 yX5_write wsX5_write) := gA (aV qm_X4_163 qi_X5_write ql_X5_write qn_X5 qc_X5_write)
theorem gX4_isSkipped_X8_valueAt_n99 : GoodIn wsX4_isSkipped (wsX8_valueAt) := gA (aC qc_X8_valueAt)
theorem gX4_isSkipped_X3_isWhole : GoodIn wsX4_isSkipped (wsV RX4 169 RX3 yX3_isWhole wsX3_isWhole) := gA (aV qm_X4_169 qi_X3_isWhole ql_X3_isWhole qn_X3 qc_X3_isWhole)
theorem gX4_isSkipped_X6_mass : GoodIn wsX4_isSkipped (wsV RX4 172 RX6 yX6_mass wsX6_mass) := gA (aV qm_X4_172 qi_X6_mass ql_X6_mass qn_X6 qc_X6_mass)
theorem gX4_isSkipped_X3_remaining : GoodIn wsX4_isSkipped (wsV RX4 137 RX3 yX3_remaining wsX3_remaining) := gA (aV qm_X4_137 qi_X3_remaining ql_X3_remaining qn_X3 qc_X3_remaining)
theorem gX4_priceOf_X8_valueAt_n99 : GoodIn wsX4_priceOf (wsX8_valueAt) := gA (aC qc_X8_valueAt)
theorem gX4_takePayment_X1_reduceDebt : GoodIn wsX4_takePayment (wsV RX4 178 RX1 yX1_reduceDebt wsX1_reduceDebt) := gA (aV qm_X4_178 qi_X1_reduceDebt ql_X1_reduceDebt qn_X1 qc_X1_reduceDebt)
theorem gX4_ordersBefore_X3_isOpen : GoodIn wsX4_ordersBefore (wsV RX4 182 RX3 yX3_isOpen wsX3_isOpen) := gA (aV qm_X4_182 qi_X3_isOpen ql_X3_isOpen qn_X3 qc_X3_isOpen)
theorem gX4_ordersBefore_X3_openBefore : GoodIn wsX4_ordersBefore (wsV RX4 185 RX3 yX3_openBefore wsX3_openBefore) := gA (aV qm_X4_185 qi_X3_openBefore ql_X3_openBefore qn_X3 qc_X3_openBefore)
theorem gX4_totalOf_X6_meltedMass : GoodIn wsX4_totalOf (wsV RX4 189 RX6 yX6_meltedMass wsX6_meltedMass) := gA (aV qm_X4_189 qi_X6_meltedMass ql_X6_meltedMass qn_X6 qc_X6_meltedMass)
theorem gX4_totalOf_X6_mass : GoodIn wsX4_totalOf (wsV RX4 172 RX6 yX6_mass wsX6_mass) := gA (aV qm_X4_172 qi_X6_mass ql_X6_mass qn_X6 qc_X6_mass)
theorem gX4_totalOf_X6_blocks : GoodIn wsX4_totalOf (wsV RX4 192 RX6 yX6_blocks wsX6_blocks) := gA (aV qm_X4_192 qi_X6_blocks ql_X6_blocks qn_X6 qc_X6_blocks)
theorem gX4_totalOf_X5_kept : GoodIn wsX4_totalOf (wsV RX4 205 RX5 yX5_kept wsX5_kept) := gA (aV qm_X4_205 qi_X5_kept ql_X5_kept qn_X5 qc_X5_kept)
theorem gX5_copyFrom_X8_copyRow_n32 : GoodIn wsX5_copyFrom (wsX8_copyRow) := gA (aC qc_X8_copyRow)
theorem gX5_property_X8_valueAt_n39 : GoodIn wsX5_property (wsX8_valueAt) := gA (aC qc_X8_valueAt)
theorem gX6_copyFrom_X8_copyRow_n43 : GoodIn wsX6_copyFrom (wsX8_copyRow) := gA (aC qc_X8_copyRow)
theorem gX6_isEmpty_X8_valueAt_n47 : GoodIn wsX6_isEmpty (wsX8_valueAt) := gA (aC qc_X8_valueAt)
theorem gX6_hasRoom_X8_valueAt_n47 : GoodIn wsX6_hasRoom (wsX8_valueAt) := gA (aC qc_X8_valueAt)
theorem gX6_slotOf_X6_hasSilo : GoodIn wsX6_slotOf (wsV RX6 51 RX6 yX6_hasSilo wsX6_hasSilo) := gA (aV qm_X6_51 qi_X6_hasSilo ql_X6_hasSilo qn_X6 qc_X6_hasSilo)
theorem gX6_melt_X6_meltSilo : GoodIn wsX6_melt (wsV RX6 55 RX6 yX6_meltSilo wsX6_meltSilo) := gA (aV qm_X6_55 qi_X6_meltSilo ql_X6_meltSilo qn_X6 qc_X6_meltSilo)
theorem gX6_meltSilo_X6_lossOf : GoodIn wsX6_meltSilo (wsV RX6 59 RX6 yX6_lossOf wsX6_lossOf) := gA (aV qm_X6_59 qi_X6_lossOf ql_X6_lossOf qn_X6 qc_X6_lossOf)
theorem gX6_meltSilo_X6_fillSlot : GoodIn wsX6_meltSilo (wsV RX6 63 RX6 yX6_fillSlot wsX6_fillSlot) := gA (aV qm_X6_63 qi_X6_fillSlot ql_X6_fillSlot qn_X6 qc_X6_fillSlot)
theorem gX6_makeBlock_X6_fillSlot : GoodIn wsX6_makeBlock (wsV RX6 63 RX6 yX6_fillSlot wsX6_fillSlot) := gA (aV qm_X6_63 qi_X6_fillSlot ql_X6_fillSlot qn_X6 qc_X6_fillSlot)
theorem gX6_moveTop_X8_valueAt_n47 : GoodIn wsX6_moveTop (wsX8_valueAt) := gA (aC qc_X8_valueAt)
theorem gX6_moveTop_X6_slotOf : GoodIn wsX6_moveTop (wsV RX6 67 RX6 yX6_slotOf wsX6_slotOf) := gA (aV qm_X6_67 qi_X6_slotOf ql_X6_slotOf qn_X6 qc_X6_slotOf)
theorem gX6_moveTop_X6_hasSilo : GoodIn wsX6_moveTop (wsV RX6 51 RX6 yX6_hasSilo wsX6_hasSilo) := gA (aV qm_X6_51 qi_X6_hasSilo ql_X6_hasSilo qn_X6 qc_X6_hasSilo)
theorem gX6_moveTop_X6_fillSlot : GoodIn wsX6_moveTop (wsV RX6 63 RX6 yX6_fillSlot wsX6_fillSlot) := gA (aV qm_X6_63 qi_X6_fillSlot ql_X6_fillSlot qn_X6 qc_X6_fillSlot)
theorem gX6_removeBlock_X6_fillSlot : GoodIn wsX6_removeBlock (wsV RX6 63 RX6 yX6_fillSlot wsX6_fillSlot) := gA (aV qm_X6_63 qi_X6_fillSlot ql_X6_fillSlot qn_X6 qc_X6_fillSlot)
theorem gX6_mass_X6_sumOf : GoodIn wsX6_mass (wsV RX6 71 RX6 yX6_sumOf wsX6_sumOf) := gA (aV qm_X6_71 qi_X6_sumOf ql_X6_sumOf qn_X6 qc_X6_sumOf)
theorem gX6_sumOfAges_X6_sumOf : GoodIn wsX6_sumOfAges (wsV RX6 71 RX6 yX6_sumOf wsX6_sumOf) := gA (aV qm_X6_71 qi_X6_sumOf ql_X6_sumOf qn_X6 qc_X6_sumOf)
theorem gX6_siloProperty_X8_valueAt_n47 : GoodIn wsX6_siloProperty (wsX8_valueAt) := gA (aC qc_X8_valueAt)
theorem gX6_siloProperty_X6_sumOf : GoodIn wsX6_siloProperty (wsV RX6 71 RX6 yX6_sumOf wsX6_sumOf) := gA (aV qm_X6_71 qi_X6_sumOf ql_X6_sumOf qn_X6 qc_X6_sumOf)
theorem gX7_readAll_X7_start : GoodIn wsX7_readAll (wsV RX7 31 RX7 yX7_start wsX7_start) := gA (aV qm_X7_31 qi_X7_start ql_X7_start qn_X7 qc_X7_start)
theorem gX7_readAll_X7_hasCommand : GoodIn wsX7_readAll (wsV RX7 34 RX7 yX7_hasCommand wsX7_hasCommand) := gA (aV qm_X7_34 qi_X7_hasCommand ql_X7_hasCommand qn_X7 qc_X7_hasCommand)
theorem gX7_readAll_X7_readCommand : GoodIn wsX7_readAll (wsV RX7 38 RX7 yX7_readCommand wsX7_readCommand) := gA (aV qm_X7_38 qi_X7_readCommand ql_X7_readCommand qn_X7 qc_X7_readCommand)
theorem gX7_readCommand_X7_sign : GoodIn wsX7_readCommand (wsV RX7 41 RX7 yX7_sign wsX7_sign) := gA (aV qm_X7_41 qi_X7_sign ql_X7_sign qn_X7 qc_X7_sign)
theorem gX7_readCommand_X7_numbersBehind : GoodIn wsX7_readCommand (va_wsS RX7 49 yX7_numbersBehind wsX7_numbersBehind) := gA (aS qm_X7_49 qs_X7_numbersBehind qn_X7 qc_X7_numbersBehind)
theorem gX7_readCommand_X7_failHere : GoodIn wsX7_readCommand (wsV RX7 53 RX7 yX7_failHere wsX7_failHere) := gA (aV qm_X7_53 qi_X7_failHere ql_X7_failHere qn_X7 qc_X7_failHere)
theorem gX7_readCommand_X7_readComma : GoodIn wsX7_readCommand (wsV RX7 56 RX7 yX7_readComma wsX7_readComma) := gA (aV qm_X7_56 qi_X7_readComma ql_X7_readComma qn_X7 qc_X7_readComma)
theorem gX7_readCommand_X7_readNumber : GoodIn wsX7_readCommand (wsV RX7 59 RX7 yX7_readNumber wsX7_readNumber) := gA (aV qm_X7_59 qi_X7_readNumber ql_X7_readNumber qn_X7 qc_X7_readNumber)
theorem gX7_readCommand_X7_readSeparator : GoodIn wsX7_readCommand (wsV RX7 66 RX7 yX7_readSeparator wsX7_readSeparator) := gA (aV qm_X7_66 qi_X7_readSeparator ql_X7_readSeparator qn_X7 qc_X7_readSeparator)
theorem gX7_readComma_X7_sign : GoodIn wsX7_readComma (wsV RX7 41 RX7 yX7_sign wsX7_sign) := gA (aV qm_X7_41 qi_X7_sign ql_X7_sign qn_X7 qc_X7_sign)
theorem gX7_readComma_X7_failHere : GoodIn wsX7_readComma (wsV RX7 53 RX7 yX7_failHere wsX7_failHere) := gA (aV qm_X7_53 qi_X7_failHere ql_X7_failHere qn_X7 qc_X7_failHere)
theorem gX7_readNumber_X7_sign : GoodIn wsX7_readNumber (wsV RX7 41 RX7 yX7_sign wsX7_sign) := gA (aV qm_X7_41 qi_X7_sign ql_X7_sign qn_X7 qc_X7_sign)
theorem gX7_readNumber_X7_isDigit : GoodIn wsX7_readNumber (va_wsS RX7 69 yX7_isDigit wsX7_isDigit) := gA (aS qm_X7_69 qs_X7_isDigit qn_X7 qc_X7_isDigit)
theorem gX7_readNumber_X7_failHere : GoodIn wsX7_readNumber (wsV RX7 53 RX7 yX7_failHere wsX7_failHere) := gA (aV qm_X7_53 qi_X7_failHere ql_X7_failHere qn_X7 qc_X7_failHere)
theorem gX7_readSeparator_X7_sign : GoodIn wsX7_readSeparator (wsV RX7 41 RX7 yX7_sign wsX7_sign) := gA (aV qm_X7_41 qi_X7_sign ql_X7_sign qn_X7 qc_X7_sign)
theorem gX7_readSeparator_X7_failHere : GoodIn wsX7_readSeparator (wsV RX7 53 RX7 yX7_failHere wsX7_failHere) := gA (aV qm_X7_53 qi_X7_failHere ql_X7_failHere qn_X7 qc_X7_failHere)
theorem gX8_init_X4_init : GoodIn wsX8_init (wsX4_init) := gA (aC qc_X4_init)
theorem gX8_init_X2_init : GoodIn wsX8_init (wsX2_init) := gA (aC qc_X2_init)
theorem gX8_init_X7_init : GoodIn wsX8_init (wsX7_init) := gA (aC qc_X7_init)
theorem gX8_addSilo_X8_isWithin : GoodIn wsX8_addSilo (va_wsS RX8 35 yX8_isWithin wsX8_isWithin) := gA (aS qm_X8_35 qs_X8_isWithin qn_X8 qc_X8_isWithin)
theorem gX8_addSilo_X8_needArgument : GoodIn wsX8_addSilo (va_wsS RX8 39 yX8_needArgument wsX8_needArgument) := gA (aS qm_X8_39 qs_X8_needArgument qn_X8 qc_X8_needArgument)
theorem gX8_addSilo_X8_needState : GoodIn wsX8_addSilo (va_wsS RX8 51 yX8_needState wsX8_needState) := gA (aS qm_X8_51 qs_X8_needState qn_X8 qc_X8_needState)
theorem gX8_addSilo_X2_save : GoodIn wsX8_addSilo (wsV RX8 54 RX2 yX2_save wsX2_save) := gA (aV qm_X8_54 qi_X2_save ql_X2_save qn_X2 qc_X2_save)
theorem gX8_addSilo_X6_addOne : GoodIn wsX8_addSilo (wsV RX8 58 RX6 yX6_addOne wsX6_addOne) := gA (aV qm_X8_58 qi_X6_addOne ql_X6_addOne qn_X6 qc_X6_addOne)
theorem gX8_setRule_X6_hasSilo : GoodIn wsX8_setRule (wsV RX8 62 RX6 yX6_hasSilo wsX6_hasSilo) := gA (aV qm_X8_62 qi_X6_hasSilo ql_X6_hasSilo qn_X6 qc_X6_hasSilo)
theorem gX8_setRule_X8_needItem : GoodIn wsX8_setRule (va_wsS RX8 66 yX8_needItem wsX8_needItem) := gA (aS qm_X8_66 qs_X8_needItem qn_X8 qc_X8_needItem)
theorem gX8_setRule_X8_isWithin : GoodIn wsX8_setRule (va_wsS RX8 35 yX8_isWithin wsX8_isWithin) := gA (aS qm_X8_35 qs_X8_isWithin qn_X8 qc_X8_isWithin)
theorem gX8_setRule_X8_needArgument : GoodIn wsX8_setRule (va_wsS RX8 39 yX8_needArgument wsX8_needArgument) := gA (aS qm_X8_39 qs_X8_needArgument qn_X8 qc_X8_needArgument)
theorem gX8_setRule_X2_save : GoodIn wsX8_setRule (wsV RX8 54 RX2 yX2_save wsX2_save) := gA (aV qm_X8_54 qi_X2_save ql_X2_save qn_X2 qc_X2_save)
theorem gX8_setRule_X8_replace : GoodIn wsX8_setRule (va_wsS RX8 73 yX8_replace wsX8_replace) := gA (aS qm_X8_73 qs_X8_replace qn_X8 qc_X8_replace)
theorem gX8_setStrength_X6_hasSilo : GoodIn wsX8_setStrength (wsV RX8 62 RX6 yX6_hasSilo wsX6_hasSilo) := gA (aV qm_X8_62 qi_X6_hasSilo ql_X6_hasSilo qn_X6 qc_X6_hasSilo)
theorem gX8_setStrength_X8_needItem : GoodIn wsX8_setStrength (va_wsS RX8 66 yX8_needItem wsX8_needItem) := gA (aS qm_X8_66 qs_X8_needItem qn_X8 qc_X8_needItem)
theorem gX8_setStrength_X8_isWithin : GoodIn wsX8_setStrength (va_wsS RX8 35 yX8_isWithin wsX8_isWithin) := gA (aS qm_X8_35 qs_X8_isWithin qn_X8 qc_X8_isWithin)
theorem gX8_setStrength_X8_needArgument : GoodIn wsX8_setStrength (va_wsS RX8 39 yX8_needArgument wsX8_needArgument) := gA (aS qm_X8_39 qs_X8_needArgument qn_X8 qc_X8_needArgument)
theorem gX8_setStrength_X2_save : GoodIn wsX8_setStrength (wsV RX8 54 RX2 yX2_save wsX2_save) := gA (aV qm_X8_54 qi_X2_save ql_X2_save qn_X2 qc_X2_save)
theorem gX8_setStrength_X8_replace : GoodIn wsX8_setStrength (va_wsS RX8 73 yX8_replace wsX8_replace) := gA (aS qm_X8_73 qs_X8_replace qn_X8 qc_X8_replace)
theorem gX8_setTemperature_X8_isWithin : GoodIn wsX8_setTemperature (va_wsS RX8 35 yX8_isWithin wsX8_isWithin) := gA (aS qm_X8_35 qs_X8_isWithin qn_X8 qc_X8_isWithin)
theorem gX8_setTemperature_X8_needItem : GoodIn wsX8_setTemperature (va_wsS RX8 66 yX8_needItem wsX8_needItem) := gA (aS qm_X8_66 qs_X8_needItem qn_X8 qc_X8_needItem)
theorem gX8_setTemperature_X8_needArgument : GoodIn wsX8_setTemperature (va_wsS RX8 39 yX8_needArgument wsX8_needArgument) := gA (aS qm_X8_39 qs_X8_needArgument qn_X8 qc_X8_needArgument)
theorem gX8_setTemperature_X2_save : GoodIn wsX8_setTemperature (wsV RX8 54 RX2 yX2_save wsX2_save) := gA (aV qm_X8_54 qi_X2_save ql_X2_save qn_X2 qc_X2_save)
theorem gX8_setTemperature_X8_replace : GoodIn wsX8_setTemperature (va_wsS RX8 73 yX8_replace wsX8_replace) := gA (aS qm_X8_73 qs_X8_replace qn_X8 qc_X8_replace)
theorem gX8_set_X8_isWithin : GoodIn wsX8_set (va_wsS RX8 35 yX8_isWithin wsX8_isWithin) := gA (aS qm_X8_35 qs_X8_isWithin qn_X8 qc_X8_isWithin)
theorem gX8_set_X8_needItem : GoodIn wsX8_set (va_wsS RX8 66 yX8_needItem wsX8_needItem) := gA (aS qm_X8_66 qs_X8_needItem qn_X8 qc_X8_needItem)
theorem gX8_set_X8_valueAt : GoodIn wsX8_set (va_wsS RX8 86 yX8_valueAt wsX8_valueAt) := gA (aS qm_X8_86 qs_X8_valueAt qn_X8 qc_X8_valueAt)
theorem gX8_set_X8_needArgument : GoodIn wsX8_set (va_wsS RX8 39 yX8_needArgument wsX8_needArgument) := gA (aS qm_X8_39 qs_X8_needArgument qn_X8 qc_X8_needArgument)
theorem gX8_set_X2_save : GoodIn wsX8_set (wsV RX8 54 RX2 yX2_save wsX2_save) := gA (aV qm_X8_54 qi_X2_save ql_X2_save qn_X2 qc_X2_save)
theorem gX8_set_X8_replace : GoodIn wsX8_set (va_wsS RX8 73 yX8_replace wsX8_replace) := gA (aS qm_X8_73 qs_X8_replace qn_X8 qc_X8_replace)
theorem gX8_move_X8_moveFault : GoodIn wsX8_move (wsV RX8 96 RX8 yX8_moveFault wsX8_moveFault) := gA (aV qm_X8_96 qi_X8_moveFault ql_X8_moveFault qn_X8 qc_X8_moveFault)
theorem gX8_move_X8_refuse : GoodIn wsX8_move (va_wsS RX8 100 yX8_refuse wsX8_refuse) := gA (aS qm_X8_100 qs_X8_refuse qn_X8 qc_X8_refuse)
theorem gX8_move_X2_save : GoodIn wsX8_move (wsV RX8 54 RX2 yX2_save wsX2_save) := gA (aV qm_X8_54 qi_X2_save ql_X2_save qn_X2 qc_X2_save)
theorem gX8_move_X6_moveTop : GoodIn wsX8_move (wsV RX8 104 RX6 yX6_moveTop wsX6_moveTop) := gA (aV qm_X8_104 qi_X6_moveTop ql_X6_moveTop qn_X6 qc_X6_moveTop)
theorem gX8_pass_X8_passFault : GoodIn wsX8_pass (wsV RX8 107 RX8 yX8_passFault wsX8_passFault) := gA (aV qm_X8_107 qi_X8_passFault ql_X8_passFault qn_X8 qc_X8_passFault)
theorem gX8_pass_X8_refuse : GoodIn wsX8_pass (va_wsS RX8 100 yX8_refuse wsX8_refuse) := gA (aS qm_X8_100 qs_X8_refuse qn_X8 qc_X8_refuse)
theorem gX8_pass_X2_save : GoodIn wsX8_pass (wsV RX8 54 RX2 yX2_save wsX2_save) := gA (aV qm_X8_54 qi_X2_save ql_X2_save qn_X2 qc_X2_save)
theorem gX8_pass_X4_letPass : GoodIn wsX8_pass (wsV RX8 111 RX4 yX4_letPass wsX4_letPass) := gA (aV qm_X8_111 qi_X4_letPass ql_X4_letPass qn_X4 qc_X4_letPass)
theorem gX8_addBoat_X8_isWithin : GoodIn wsX8_addBoat (va_wsS RX8 35 yX8_isWithin wsX8_isWithin) := gA (aS qm_X8_35 qs_X8_isWithin qn_X8 qc_X8_isWithin)
theorem gX8_addBoat_X8_needArgument : GoodIn wsX8_addBoat (va_wsS RX8 39 yX8_needArgument wsX8_needArgument) := gA (aS qm_X8_39 qs_X8_needArgument qn_X8 qc_X8_needArgument)
theorem gX8_addBoat_X8_needState : GoodIn wsX8_addBoat (va_wsS RX8 51 yX8_needState wsX8_needState) := gA (aS qm_X8_51 qs_X8_needState qn_X8 qc_X8_needState)
theorem gX8_addBoat_X2_save : GoodIn wsX8_addBoat (wsV RX8 54 RX2 yX2_save wsX2_save) := gA (aV qm_X8_54 qi_X2_save ql_X2_save qn_X2 qc_X2_save)
theorem gX8_addBoat_X1_addOne : GoodIn wsX8_addBoat (wsV RX8 124 RX1 yX1_addOne wsX1_addOne) := gA (aV qm_X8_124 qi_X1_addOne ql_X1_addOne qn_X1 qc_X1_addOne)
theorem gX8_setCatch_X8_catchFault : GoodIn wsX8_setCatch (wsV RX8 126 RX8 yX8_catchFault wsX8_catchFault) := gA (aV qm_X8_126 qi_X8_catchFault ql_X8_catchFault qn_X8 qc_X8_catchFault)
theorem gX8_setCatch_X8_refuse : GoodIn wsX8_setCatch (va_wsS RX8 100 yX8_refuse wsX8_refuse) := gA (aS qm_X8_100 qs_X8_refuse qn_X8 qc_X8_refuse)
theorem gX8_setCatch_X2_save : GoodIn wsX8_setCatch (wsV RX8 54 RX2 yX2_save wsX2_save) := gA (aV qm_X8_54 qi_X2_save ql_X2_save qn_X2 qc_X2_save)
theorem gX8_setCatch_X8_replace : GoodIn wsX8_setCatch (va_wsS RX8 73 yX8_replace wsX8_replace) := gA (aS qm_X8_73 qs_X8_replace qn_X8 qc_X8_replace)
theorem gX8_order_X8_orderFault : GoodIn wsX8_order (wsV RX8 132 RX8 yX8_orderFault wsX8_orderFault) := gA (aV qm_X8_132 qi_X8_orderFault ql_X8_orderFault qn_X8 qc_X8_orderFault)
theorem gX8_order_X8_refuse : GoodIn wsX8_order (va_wsS RX8 100 yX8_refuse wsX8_refuse) := gA (aS qm_X8_100 qs_X8_refuse qn_X8 qc_X8_refuse)
theorem gX8_order_X2_save : GoodIn wsX8_order (wsV RX8 54 RX2 yX2_save wsX2_save) := gA (aV qm_X8_54 qi_X2_save ql_X2_save qn_X2 qc_X2_save)
theorem gX8_order_X3_place : GoodIn wsX8_order (wsV RX8 139 RX3 yX3_place wsX3_place) := gA (aV qm_X8_139 qi_X3_place ql_X3_place qn_X3 qc_X3_place)
theorem gX8_cancel_X3_has : GoodIn wsX8_cancel (wsV RX8 145 RX3 yX3_has wsX3_has) := gA (aV qm_X8_145 qi_X3_has ql_X3_has qn_X3 qc_X3_has)
theorem gX8_cancel_X8_needItem : GoodIn wsX8_cancel (va_wsS RX8 66 yX8_needItem wsX8_needItem) := gA (aS qm_X8_66 qs_X8_needItem qn_X8 qc_X8_needItem)
theorem gX8_cancel_X3_isOpen : GoodIn wsX8_cancel (wsV RX8 148 RX3 yX3_isOpen wsX3_isOpen) := gA (aV qm_X8_148 qi_X3_isOpen ql_X3_isOpen qn_X3 qc_X3_isOpen)
theorem gX8_cancel_X8_needState : GoodIn wsX8_cancel (va_wsS RX8 51 yX8_needState wsX8_needState) := gA (aS qm_X8_51 qs_X8_needState qn_X8 qc_X8_needState)
theorem gX8_cancel_X2_save : GoodIn wsX8_cancel (wsV RX8 54 RX2 yX2_save wsX2_save) := gA (aV qm_X8_54 qi_X2_save ql_X2_save qn_X2 qc_X2_save)
theorem gX8_cancel_X3_close : GoodIn wsX8_cancel (wsV RX8 151 RX3 yX3_close wsX3_close) := gA (aV qm_X8_151 qi_X3_close ql_X3_close qn_X3 qc_X3_close)
theorem gX8_cancel_X3_remaining : GoodIn wsX8_cancel (wsV RX8 155 RX3 yX3_remaining wsX3_remaining) := gA (aV qm_X8_155 qi_X3_remaining ql_X3_remaining qn_X3 qc_X3_remaining)
theorem gX8_pay_X8_payFault : GoodIn wsX8_pay (wsV RX8 158 RX8 yX8_payFault wsX8_payFault) := gA (aV qm_X8_158 qi_X8_payFault ql_X8_payFault qn_X8 qc_X8_payFault)
theorem gX8_pay_X8_refuse : GoodIn wsX8_pay (va_wsS RX8 100 yX8_refuse wsX8_refuse) := gA (aS qm_X8_100 qs_X8_refuse qn_X8 qc_X8_refuse)
theorem gX8_pay_X2_save : GoodIn wsX8_pay (wsV RX8 54 RX2 yX2_save wsX2_save) := gA (aV qm_X8_54 qi_X2_save ql_X2_save qn_X2 qc_X2_save)
theorem gX8_pay_X4_takePayment : GoodIn wsX8_pay (wsV RX8 161 RX4 yX4_takePayment wsX4_takePayment) := gA (aV qm_X8_161 qi_X4_takePayment ql_X4_takePayment qn_X4 qc_X4_takePayment)
theorem gX8_silo_X6_hasSilo : GoodIn wsX8_silo (wsV RX8 62 RX6 yX6_hasSilo wsX6_hasSilo) := gA (aV qm_X8_62 qi_X6_hasSilo ql_X6_hasSilo qn_X6 qc_X6_hasSilo)
theorem gX8_silo_X8_needItem : GoodIn wsX8_silo (va_wsS RX8 66 yX8_needItem wsX8_needItem) := gA (aS qm_X8_66 qs_X8_needItem qn_X8 qc_X8_needItem)
theorem gX8_silo_X8_isWithin : GoodIn wsX8_silo (va_wsS RX8 35 yX8_isWithin wsX8_isWithin) := gA (aS qm_X8_35 qs_X8_isWithin qn_X8 qc_X8_isWithin)
theorem gX8_silo_X8_needArgument : GoodIn wsX8_silo (va_wsS RX8 39 yX8_needArgument wsX8_needArgument) := gA (aS qm_X8_39 qs_X8_needArgument qn_X8 qc_X8_needArgument)
theorem gX8_silo_X6_siloProperty : GoodIn wsX8_silo (wsV RX8 164 RX6 yX6_siloProperty wsX6_siloProperty) := gA (aV qm_X8_164 qi_X6_siloProperty ql_X6_siloProperty qn_X6 qc_X6_siloProperty)
theorem gX8_boat_X1_has : GoodIn wsX8_boat (wsV RX8 173 RX1 yX1_has wsX1_has) := gA (aV qm_X8_173 qi_X1_has ql_X1_has qn_X1 qc_X1_has)
theorem gX8_boat_X8_needItem : GoodIn wsX8_boat (va_wsS RX8 66 yX8_needItem wsX8_needItem) := gA (aS qm_X8_66 qs_X8_needItem qn_X8 qc_X8_needItem)
theorem gX8_boat_X8_isWithin : GoodIn wsX8_boat (va_wsS RX8 35 yX8_isWithin wsX8_isWithin) := gA (aS qm_X8_35 qs_X8_isWithin qn_X8 qc_X8_isWithin)
theorem gX8_boat_X8_needArgument : GoodIn wsX8_boat (va_wsS RX8 39 yX8_needArgument wsX8_needArgument) := gA (aS qm_X8_39 qs_X8_needArgument qn_X8 qc_X8_needArgument)
theorem gX8_boat_X3_openOf : GoodIn wsX8_boat (wsV RX8 174 RX3 yX3_openOf wsX3_openOf) := gA (aV qm_X8_174 qi_X3_openOf ql_X3_openOf qn_X3 qc_X3_openOf)
theorem gX8_boat_X1_property : GoodIn wsX8_boat (wsV RX8 177 RX1 yX1_property wsX1_property) := gA (aV qm_X8_177 qi_X1_property ql_X1_property qn_X1 qc_X1_property)
theorem gX8_orderProperty_X3_has : GoodIn wsX8_orderProperty (wsV RX8 145 RX3 yX3_has wsX3_has) := gA (aV qm_X8_145 qi_X3_has ql_X3_has qn_X3 qc_X3_has)
theorem gX8_orderProperty_X8_needItem : GoodIn wsX8_orderProperty (va_wsS RX8 66 yX8_needItem wsX8_needItem) := gA (aS qm_X8_66 qs_X8_needItem qn_X8 qc_X8_needItem)
theorem gX8_orderProperty_X8_isWithin : GoodIn wsX8_orderProperty (va_wsS RX8 35 yX8_isWithin wsX8_isWithin) := gA (aS qm_X8_35 qs_X8_isWithin qn_X8 qc_X8_isWithin)
theorem gX8_orderProperty_X8_needArgument : GoodIn wsX8_orderProperty (va_wsS RX8 39 yX8_needArgument wsX8_needArgument) := gA (aS qm_X8_39 qs_X8_needArgument qn_X8 qc_X8_needArgument)
theorem gX8_orderProperty_X4_ordersBefore : GoodIn wsX8_orderProperty (wsV RX8 180 RX4 yX4_ordersBefore wsX4_ordersBefore) := gA (aV qm_X8_180 qi_X4_ordersBefore ql_X4_ordersBefore qn_X4 qc_X4_ordersBefore)
theorem gX8_orderProperty_X3_property : GoodIn wsX8_orderProperty (wsV RX8 183 RX3 yX3_property wsX3_property) := gA (aV qm_X8_183 qi_X3_property ql_X3_property qn_X3 qc_X3_property)
theorem gX8_receipt_X5_kept : GoodIn wsX8_receipt (wsV RX8 188 RX5 yX5_kept wsX5_kept) := gA (aV qm_X8_188 qi_X5_kept ql_X5_kept qn_X5 qc_X5_kept)
theorem gX8_receipt_X8_isWithin : GoodIn wsX8_receipt (va_wsS RX8 35 yX8_isWithin wsX8_isWithin) := gA (aS qm_X8_35 qs_X8_isWithin qn_X8 qc_X8_isWithin)
theorem gX8_receipt_X8_needItem : GoodIn wsX8_receipt (va_wsS RX8 66 yX8_needItem wsX8_needItem) := gA (aS qm_X8_66 qs_X8_needItem qn_X8 qc_X8_needItem)
theorem gX8_receipt_X8_needArgument : GoodIn wsX8_receipt (va_wsS RX8 39 yX8_needArgument wsX8_needArgument) := gA (aS qm_X8_39 qs_X8_needArgument qn_X8 qc_X8_needArgument)
theorem gX8_receipt_X5_property : GoodIn wsX8_receipt (wsV RX8 194 RX5 yX5_property wsX5_property) := gA (aV qm_X8_194 qi_X5_property ql_X5_property qn_X5 qc_X5_property)
theorem gX8_account_X8_isWithin : GoodIn wsX8_account (va_wsS RX8 35 yX8_isWithin wsX8_isWithin) := gA (aS qm_X8_35 qs_X8_isWithin qn_X8 qc_X8_isWithin)
theorem gX8_account_X8_needItem : GoodIn wsX8_account (va_wsS RX8 66 yX8_needItem wsX8_needItem) := gA (aS qm_X8_66 qs_X8_needItem qn_X8 qc_X8_needItem)
theorem gX8_account_X8_needArgument : GoodIn wsX8_account (va_wsS RX8 39 yX8_needArgument wsX8_needArgument) := gA (aS qm_X8_39 qs_X8_needArgument qn_X8 qc_X8_needArgument)
theorem gX8_account_X0_property : GoodIn wsX8_account (wsV RX8 202 RX0 yX0_property wsX0_property) := gA (aV qm_X8_202 qi_X0_property ql_X0_property qn_X0 qc_X0_property)
theorem gX8_findAccount_X1_has : GoodIn wsX8_findAccount (wsV RX8 173 RX1 yX1_has wsX1_has) := gA (aV qm_X8_173 qi_X1_has ql_X1_has qn_X1 qc_X1_has)
theorem gX8_findAccount_X8_needItem : GoodIn wsX8_findAccount (va_wsS RX8 66 yX8_needItem wsX8_needItem) := gA (aS qm_X8_66 qs_X8_needItem qn_X8 qc_X8_needItem)
theorem gX8_findAccount_X8_isWithin : GoodIn wsX8_findAccount (va_wsS RX8 35 yX8_isWithin wsX8_isWithin) := gA (aS qm_X8_35 qs_X8_isWithin qn_X8 qc_X8_isWithin)
theorem gX8_findAccount_X8_needArgument : GoodIn wsX8_findAccount (va_wsS RX8 39 yX8_needArgument wsX8_needArgument) := gA (aS qm_X8_39 qs_X8_needArgument qn_X8 qc_X8_needArgument)
theorem gX8_findAccount_X0_find : GoodIn wsX8_findAccount (wsV RX8 205 RX0 yX0_find wsX0_find) := gA (aV qm_X8_205 qi_X0_find ql_X0_find qn_X0 qc_X0_find)
theorem gX8_total_X8_isWithin : GoodIn wsX8_total (va_wsS RX8 35 yX8_isWithin wsX8_isWithin) := gA (aS qm_X8_35 qs_X8_isWithin qn_X8 qc_X8_isWithin)
theorem gX8_total_X8_needArgument : GoodIn wsX8_total (va_wsS RX8 39 yX8_needArgument wsX8_needArgument) := gA (aS qm_X8_39 qs_X8_needArgument qn_X8 qc_X8_needArgument)
theorem gX8_total_X4_totalOf : GoodIn wsX8_total (wsV RX8 209 RX4 yX4_totalOf wsX4_totalOf) := gA (aV qm_X8_209 qi_X4_totalOf ql_X4_totalOf qn_X4 qc_X4_totalOf)
theorem gX8_meanAge_X6_blocks : GoodIn wsX8_meanAge (wsV RX8 213 RX6 yX6_blocks wsX6_blocks) := gA (aV qm_X8_213 qi_X6_blocks ql_X6_blocks qn_X6 qc_X6_blocks)
theorem gX8_meanAge_X6_sumOfAges : GoodIn wsX8_meanAge (wsV RX8 216 RX6 yX6_sumOfAges wsX6_sumOfAges) := gA (aV qm_X8_216 qi_X6_sumOfAges ql_X6_sumOfAges qn_X6 qc_X6_sumOfAges)
theorem gX8_massAfter_X8_isWithin : GoodIn wsX8_massAfter (va_wsS RX8 35 yX8_isWithin wsX8_isWithin) := gA (aS qm_X8_35 qs_X8_isWithin qn_X8 qc_X8_isWithin)
theorem gX8_massAfter_X8_needArgument : GoodIn wsX8_massAfter (va_wsS RX8 39 yX8_needArgument wsX8_needArgument) := gA (aS qm_X8_39 qs_X8_needArgument qn_X8 qc_X8_needArgument)
theorem gX8_massAfter_X4_copyFrom : GoodIn wsX8_massAfter (wsV RX8 219 RX4 yX4_copyFrom wsX4_copyFrom) := gA (aV qm_X8_219 qi_X4_copyFrom ql_X4_copyFrom qn_X4 qc_X4_copyFrom)
theorem gX8_massAfter_X4_letPass : GoodIn wsX8_massAfter (wsV RX8 111 RX4 yX4_letPass wsX4_letPass) := gA (aV qm_X8_111 qi_X4_letPass ql_X4_letPass qn_X4 qc_X4_letPass)
theorem gX8_massAfter_X6_mass : GoodIn wsX8_massAfter (wsV RX8 222 RX6 yX6_mass wsX6_mass) := gA (aV qm_X8_222 qi_X6_mass ql_X6_mass qn_X6 qc_X6_mass)
theorem gX8_completeIn_X3_has : GoodIn wsX8_completeIn (wsV RX8 145 RX3 yX3_has wsX3_has) := gA (aV qm_X8_145 qi_X3_has ql_X3_has qn_X3 qc_X3_has)
theorem gX8_completeIn_X8_needItem : GoodIn wsX8_completeIn (va_wsS RX8 66 yX8_needItem wsX8_needItem) := gA (aS qm_X8_66 qs_X8_needItem qn_X8 qc_X8_needItem)
theorem gX8_completeIn_X3_isOpen : GoodIn wsX8_completeIn (wsV RX8 148 RX3 yX3_isOpen wsX3_isOpen) := gA (aV qm_X8_148 qi_X3_isOpen ql_X3_isOpen qn_X3 qc_X3_isOpen)
theorem gX8_completeIn_X8_needState : GoodIn wsX8_completeIn (va_wsS RX8 51 yX8_needState wsX8_needState) := gA (aS qm_X8_51 qs_X8_needState qn_X8 qc_X8_needState)
theorem gX8_completeIn_X4_copyFrom : GoodIn wsX8_completeIn (wsV RX8 219 RX4 yX4_copyFrom wsX4_copyFrom) := gA (aV qm_X8_219 qi_X4_copyFrom ql_X4_copyFrom qn_X4 qc_X4_copyFrom)
theorem gX8_completeIn_X4_passHour : GoodIn wsX8_completeIn (wsV RX8 225 RX4 yX4_passHour wsX4_passHour) := gA (aV qm_X8_225 qi_X4_passHour ql_X4_passHour qn_X4 qc_X4_passHour)
theorem gX8_completeIn_X3_isComplete : GoodIn wsX8_completeIn (wsV RX8 228 RX3 yX3_isComplete wsX3_isComplete) := gA (aV qm_X8_228 qi_X3_isComplete ql_X3_isComplete qn_X3 qc_X3_isComplete)
theorem gX8_bestRule_X6_hasSilo : GoodIn wsX8_bestRule (wsV RX8 62 RX6 yX6_hasSilo wsX6_hasSilo) := gA (aV qm_X8_62 qi_X6_hasSilo ql_X6_hasSilo qn_X6 qc_X6_hasSilo)
theorem gX8_bestRule_X8_needItem : GoodIn wsX8_bestRule (va_wsS RX8 66 yX8_needItem wsX8_needItem) := gA (aS qm_X8_66 qs_X8_needItem qn_X8 qc_X8_needItem)
theorem gX8_bestRule_X8_isWithin : GoodIn wsX8_bestRule (va_wsS RX8 35 yX8_isWithin wsX8_isWithin) := gA (aS qm_X8_35 qs_X8_isWithin qn_X8 qc_X8_isWithin)
theorem gX8_bestRule_X8_needArgument : GoodIn wsX8_bestRule (va_wsS RX8 39 yX8_needArgument wsX8_needArgument) := gA (aS qm_X8_39 qs_X8_needArgument qn_X8 qc_X8_needArgument)
theorem gX8_bestRule_X8_meltedWith : GoodIn wsX8_bestRule (wsV RX8 231 RX8 yX8_meltedWith wsX8_meltedWith) := gA (aV qm_X8_231 qi_X8_meltedWith ql_X8_meltedWith qn_X8 qc_X8_meltedWith)
theorem gX8_quote_X1_has : GoodIn wsX8_quote (wsV RX8 173 RX1 yX1_has wsX1_has) := gA (aV qm_X8_173 qi_X1_has ql_X1_has qn_X1 qc_X1_has)
theorem gX8_quote_X8_needItem : GoodIn wsX8_quote (va_wsS RX8 66 yX8_needItem wsX8_needItem) := gA (aS qm_X8_66 qs_X8_needItem qn_X8 qc_X8_needItem)
theorem gX8_quote_X8_isWithin : GoodIn wsX8_quote (va_wsS RX8 35 yX8_isWithin wsX8_isWithin) := gA (aS qm_X8_35 qs_X8_isWithin qn_X8 qc_X8_isWithin)
theorem gX8_quote_X8_needArgument : GoodIn wsX8_quote (va_wsS RX8 39 yX8_needArgument wsX8_needArgument) := gA (aS qm_X8_39 qs_X8_needArgument qn_X8 qc_X8_needArgument)
theorem gX8_quote_X4_priceOf : GoodIn wsX8_quote (wsV RX8 234 RX4 yX4_priceOf wsX4_priceOf) := gA (aV qm_X8_234 qi_X4_priceOf ql_X4_priceOf qn_X4 qc_X4_priceOf)
theorem gX8_errorPosition_X7_readAll : GoodIn wsX8_errorPosition (wsV RX8 247 RX7 yX7_readAll wsX7_readAll) := gA (aV qm_X8_247 qi_X7_readAll ql_X7_readAll qn_X7 qc_X7_readAll)
theorem gX8_errorKind_X7_readAll : GoodIn wsX8_errorKind (wsV RX8 247 RX7 yX7_readAll wsX7_readAll) := gA (aV qm_X8_247 qi_X7_readAll ql_X7_readAll qn_X7 qc_X7_readAll)
theorem gX8_undo_X8_needState : GoodIn wsX8_undo (va_wsS RX8 51 yX8_needState wsX8_needState) := gA (aS qm_X8_51 qs_X8_needState qn_X8 qc_X8_needState)
theorem gX8_undo_X2_restore : GoodIn wsX8_undo (wsV RX8 272 RX2 yX2_restore wsX2_restore) := gA (aV qm_X8_272 qi_X2_restore ql_X2_restore qn_X2 qc_X2_restore)
theorem gX8_needItem_X8_refuse : GoodIn wsX8_needItem (va_wsS RX8 100 yX8_refuse wsX8_refuse) := gA (aS qm_X8_100 qs_X8_refuse qn_X8 qc_X8_refuse)
theorem gX8_needArgument_X8_refuse : GoodIn wsX8_needArgument (va_wsS RX8 100 yX8_refuse wsX8_refuse) := gA (aS qm_X8_100 qs_X8_refuse qn_X8 qc_X8_refuse)
theorem gX8_needState_X8_refuse : GoodIn wsX8_needState (va_wsS RX8 100 yX8_refuse wsX8_refuse) := gA (aS qm_X8_100 qs_X8_refuse qn_X8 qc_X8_refuse)
theorem gX8_passFault_X8_isWithin : GoodIn wsX8_passFault (va_wsS RX8 35 yX8_isWithin wsX8_isWithin) := gA (aS qm_X8_35 qs_X8_isWithin qn_X8 qc_X8_isWithin)
theorem gX8_moveFault_X6_hasSilo : GoodIn wsX8_moveFault (wsV RX8 62 RX6 yX6_hasSilo wsX6_hasSilo) := gA (aV qm_X8_62 qi_X6_hasSilo ql_X6_hasSilo qn_X6 qc_X6_hasSilo)
theorem gX8_moveFault_X6_isEmpty : GoodIn wsX8_moveFault (wsV RX8 307 RX6 yX6_isEmpty wsX6_isEmpty) := gA (aV qm_X8_307 qi_X6_isEmpty ql_X6_isEmpty qn_X6 qc_X6_isEmpty)
theorem gX8_moveFault_X6_hasRoom : GoodIn wsX8_moveFault (wsV RX8 310 RX6 yX6_hasRoom wsX6_hasRoom) := gA (aV qm_X8_310 qi_X6_hasRoom ql_X6_hasRoom qn_X6 qc_X6_hasRoom)
theorem gX8_catchFault_X1_has : GoodIn wsX8_catchFault (wsV RX8 173 RX1 yX1_has wsX1_has) := gA (aV qm_X8_173 qi_X1_has ql_X1_has qn_X1 qc_X1_has)
theorem gX8_catchFault_X8_isWithin : GoodIn wsX8_catchFault (va_wsS RX8 35 yX8_isWithin wsX8_isWithin) := gA (aS qm_X8_35 qs_X8_isWithin qn_X8 qc_X8_isWithin)
theorem gX8_orderFault_X1_has : GoodIn wsX8_orderFault (wsV RX8 173 RX1 yX1_has wsX1_has) := gA (aV qm_X8_173 qi_X1_has ql_X1_has qn_X1 qc_X1_has)
theorem gX8_orderFault_X8_isWithin : GoodIn wsX8_orderFault (va_wsS RX8 35 yX8_isWithin wsX8_isWithin) := gA (aS qm_X8_35 qs_X8_isWithin qn_X8 qc_X8_isWithin)
theorem gX8_orderFault_X3_isFull : GoodIn wsX8_orderFault (wsV RX8 313 RX3 yX3_isFull wsX3_isFull) := gA (aV qm_X8_313 qi_X3_isFull ql_X3_isFull qn_X3 qc_X3_isFull)
theorem gX8_payFault_X1_has : GoodIn wsX8_payFault (wsV RX8 173 RX1 yX1_has wsX1_has) := gA (aV qm_X8_173 qi_X1_has ql_X1_has qn_X1 qc_X1_has)
theorem gX8_payFault_X8_isWithin : GoodIn wsX8_payFault (va_wsS RX8 35 yX8_isWithin wsX8_isWithin) := gA (aS qm_X8_35 qs_X8_isWithin qn_X8 qc_X8_isWithin)
theorem gX8_payFault_X8_valueAt : GoodIn wsX8_payFault (va_wsS RX8 86 yX8_valueAt wsX8_valueAt) := gA (aS qm_X8_86 qs_X8_valueAt qn_X8 qc_X8_valueAt)
theorem gX8_meltedWith_X4_copyFrom : GoodIn wsX8_meltedWith (wsV RX8 219 RX4 yX4_copyFrom wsX4_copyFrom) := gA (aV qm_X8_219 qi_X4_copyFrom ql_X4_copyFrom qn_X4 qc_X4_copyFrom)
theorem gX8_meltedWith_X8_replace : GoodIn wsX8_meltedWith (va_wsS RX8 73 yX8_replace wsX8_replace) := gA (aS qm_X8_73 qs_X8_replace qn_X8 qc_X8_replace)
theorem gX8_meltedWith_X4_letPass : GoodIn wsX8_meltedWith (wsV RX8 111 RX4 yX4_letPass wsX4_letPass) := gA (aV qm_X8_111 qi_X4_letPass ql_X4_letPass qn_X4 qc_X4_letPass)
theorem gX8_meltedWith_X6_meltedMass : GoodIn wsX8_meltedWith (wsV RX8 320 RX6 yX6_meltedMass wsX6_meltedMass) := gA (aV qm_X8_320 qi_X6_meltedMass ql_X6_meltedMass qn_X6 qc_X6_meltedMass)
theorem gL_addSilo_X8_addSilo : GoodIn wsL_addSilo (wsV RL 9 RX8 yX8_addSilo wsX8_addSilo) := gA (aV qm_L_9 qi_X8_addSilo ql_X8_addSilo qn_X8 qc_X8_addSilo)
theorem gL_setRule_X8_setRule : GoodIn wsL_setRule (wsV RL 21 RX8 yX8_setRule wsX8_setRule) := gA (aV qm_L_21 qi_X8_setRule ql_X8_setRule qn_X8 qc_X8_setRule)
theorem gL_setStrength_X8_setStrength : GoodIn wsL_setStrength (wsV RL 28 RX8 yX8_setStrength wsX8_setStrength) := gA (aV qm_L_28 qi_X8_setStrength ql_X8_setStrength qn_X8 qc_X8_setStrength)
theorem gL_setTemperature_X8_setTemperature : GoodIn wsL_setTemperature (wsV RL 31 RX8 yX8_setTemperature wsX8_setTemperature) := gA (aV qm_L_31 qi_X8_setTemperature ql_X8_setTemperature qn_X8 qc_X8_setTemperature)
theorem gL_set_X8_set : GoodIn wsL_set (wsV RL 34 RX8 yX8_set wsX8_set) := gA (aV qm_L_34 qi_X8_set ql_X8_set qn_X8 qc_X8_set)
theorem gL_move_X8_move : GoodIn wsL_move (wsV RL 37 RX8 yX8_move wsX8_move) := gA (aV qm_L_37 qi_X8_move ql_X8_move qn_X8 qc_X8_move)
theorem gL_pass_X8_pass : GoodIn wsL_pass (wsV RL 40 RX8 yX8_pass wsX8_pass) := gA (aV qm_L_40 qi_X8_pass ql_X8_pass qn_X8 qc_X8_pass)
theorem gL_addBoat_X8_addBoat : GoodIn wsL_addBoat (wsV RL 44 RX8 yX8_addBoat wsX8_addBoat) := gA (aV qm_L_44 qi_X8_addBoat ql_X8_addBoat qn_X8 qc_X8_addBoat)
theorem gL_setCatch_X8_setCatch : GoodIn wsL_setCatch (wsV RL 47 RX8 yX8_setCatch wsX8_setCatch) := gA (aV qm_L_47 qi_X8_setCatch ql_X8_setCatch qn_X8 qc_X8_setCatch)
theorem gL_order_X8_order : GoodIn wsL_order (wsV RL 50 RX8 yX8_order wsX8_order) := gA (aV qm_L_50 qi_X8_order ql_X8_order qn_X8 qc_X8_order)
theorem gL_cancel_X8_cancel : GoodIn wsL_cancel (wsV RL 54 RX8 yX8_cancel wsX8_cancel) := gA (aV qm_L_54 qi_X8_cancel ql_X8_cancel qn_X8 qc_X8_cancel)
theorem gL_pay_X8_pay : GoodIn wsL_pay (wsV RL 57 RX8 yX8_pay wsX8_pay) := gA (aV qm_L_57 qi_X8_pay ql_X8_pay qn_X8 qc_X8_pay)
theorem gL_silo_X8_silo : GoodIn wsL_silo (wsV RL 60 RX8 yX8_silo wsX8_silo) := gA (aV qm_L_60 qi_X8_silo ql_X8_silo qn_X8 qc_X8_silo)
theorem gL_boat_X8_boat : GoodIn wsL_boat (wsV RL 63 RX8 yX8_boat wsX8_boat) := gA (aV qm_L_63 qi_X8_boat ql_X8_boat qn_X8 qc_X8_boat)
theorem gL_orderProperty_X8_orderProperty : GoodIn wsL_orderProperty (wsV RL 66 RX8 yX8_orderProperty wsX8_orderProperty) := gA (aV qm_L_66 qi_X8_orderProperty ql_X8_orderProperty qn_X8 qc_X8_orderProperty)
theorem gL_receipt_X8_receipt : GoodIn wsL_receipt (wsV RL 69 RX8 yX8_receipt wsX8_receipt) := gA (aV qm_L_69 qi_X8_receipt ql_X8_receipt qn_X8 qc_X8_receipt)
theorem gL_massAfter_X8_massAfter : GoodIn wsL_massAfter (wsV RL 72 RX8 yX8_massAfter wsX8_massAfter) := gA (aV qm_L_72 qi_X8_massAfter ql_X8_massAfter qn_X8 qc_X8_massAfter)
theorem gL_completeIn_X8_completeIn : GoodIn wsL_completeIn (wsV RL 75 RX8 yX8_completeIn wsX8_completeIn) := gA (aV qm_L_75 qi_X8_completeIn ql_X8_completeIn qn_X8 qc_X8_completeIn)
theorem gL_bestRule_X8_bestRule : GoodIn wsL_bestRule (wsV RL 78 RX8 yX8_bestRule wsX8_bestRule) := gA (aV qm_L_78 qi_X8_bestRule ql_X8_bestRule qn_X8 qc_X8_bestRule)
theorem gL_quote_X8_quote : GoodIn wsL_quote (wsV RL 81 RX8 yX8_quote wsX8_quote) := gA (aV qm_L_81 qi_X8_quote ql_X8_quote qn_X8 qc_X8_quote)
theorem gL_undo_X8_undo : GoodIn wsL_undo (wsV RL 84 RX8 yX8_undo wsX8_undo) := gA (aV qm_L_84 qi_X8_undo ql_X8_undo qn_X8 qc_X8_undo)
theorem gL_total_X8_total : GoodIn wsL_total (wsV RL 88 RX8 yX8_total wsX8_total) := gA (aV qm_L_88 qi_X8_total ql_X8_total qn_X8 qc_X8_total)
theorem gL_account_X8_account : GoodIn wsL_account (wsV RL 94 RX8 yX8_account wsX8_account) := gA (aV qm_L_94 qi_X8_account ql_X8_account qn_X8 qc_X8_account)
theorem gL_findAccount_X8_findAccount : GoodIn wsL_findAccount (wsV RL 100 RX8 yX8_findAccount wsX8_findAccount) := gA (aV qm_L_100 qi_X8_findAccount ql_X8_findAccount qn_X8 qc_X8_findAccount)
theorem gL_change_L_low : GoodIn wsL_change (va_wsS RL 103 yL_low wsL_low) := gA (aS qm_L_103 qs_L_low qn_L qc_L_low)
theorem gL_change_L_addSilo : GoodIn wsL_change (va_wsS RL 108 yL_addSilo wsL_addSilo) := gA (aS qm_L_108 qs_L_addSilo qn_L qc_L_addSilo)
theorem gL_change_L_addBoat : GoodIn wsL_change (va_wsS RL 111 yL_addBoat wsL_addBoat) := gA (aS qm_L_111 qs_L_addBoat qn_L qc_L_addBoat)
theorem gL_change_L_order : GoodIn wsL_change (va_wsS RL 114 yL_order wsL_order) := gA (aS qm_L_114 qs_L_order qn_L qc_L_order)
theorem gL_change_L_cancel : GoodIn wsL_change (va_wsS RL 117 yL_cancel wsL_cancel) := gA (aS qm_L_117 qs_L_cancel qn_L qc_L_cancel)
theorem gL_change_L_pay : GoodIn wsL_change (va_wsS RL 119 yL_pay wsL_pay) := gA (aS qm_L_119 qs_L_pay qn_L qc_L_pay)
theorem gL_change_L_setCatch : GoodIn wsL_change (va_wsS RL 122 yL_setCatch wsL_setCatch) := gA (aS qm_L_122 qs_L_setCatch qn_L qc_L_setCatch)
theorem gL_change_L_setRule : GoodIn wsL_change (va_wsS RL 124 yL_setRule wsL_setRule) := gA (aS qm_L_124 qs_L_setRule qn_L qc_L_setRule)
theorem gL_change_L_setStrength : GoodIn wsL_change (va_wsS RL 126 yL_setStrength wsL_setStrength) := gA (aS qm_L_126 qs_L_setStrength qn_L qc_L_setStrength)
theorem gL_change_L_setTemperature : GoodIn wsL_change (va_wsS RL 128 yL_setTemperature wsL_setTemperature) := gA (aS qm_L_128 qs_L_setTemperature qn_L qc_L_setTemperature)
theorem gL_change_L_set : GoodIn wsL_change (va_wsS RL 130 yL_set wsL_set) := gA (aS qm_L_130 qs_L_set qn_L qc_L_set)
theorem gL_change_L_move : GoodIn wsL_change (va_wsS RL 132 yL_move wsL_move) := gA (aS qm_L_132 qs_L_move qn_L qc_L_move)
theorem gL_change_L_undo : GoodIn wsL_change (va_wsS RL 134 yL_undo wsL_undo) := gA (aS qm_L_134 qs_L_undo qn_L qc_L_undo)
theorem gL_change_L_pass : GoodIn wsL_change (va_wsS RL 137 yL_pass wsL_pass) := gA (aS qm_L_137 qs_L_pass qn_L qc_L_pass)
theorem gL_ask_L_low : GoodIn wsL_ask (va_wsS RL 103 yL_low wsL_low) := gA (aS qm_L_103 qs_L_low qn_L qc_L_low)
theorem gL_ask_L_massAfter : GoodIn wsL_ask (va_wsS RL 139 yL_massAfter wsL_massAfter) := gA (aS qm_L_139 qs_L_massAfter qn_L qc_L_massAfter)
theorem gL_ask_L_completeIn : GoodIn wsL_ask (va_wsS RL 141 yL_completeIn wsL_completeIn) := gA (aS qm_L_141 qs_L_completeIn qn_L qc_L_completeIn)
theorem gL_ask_L_bestRule : GoodIn wsL_ask (va_wsS RL 143 yL_bestRule wsL_bestRule) := gA (aS qm_L_143 qs_L_bestRule qn_L qc_L_bestRule)
theorem gL_ask_L_quote : GoodIn wsL_ask (va_wsS RL 145 yL_quote wsL_quote) := gA (aS qm_L_145 qs_L_quote qn_L qc_L_quote)
theorem gL_ask_L_orderProperty : GoodIn wsL_ask (va_wsS RL 147 yL_orderProperty wsL_orderProperty) := gA (aS qm_L_147 qs_L_orderProperty qn_L qc_L_orderProperty)
theorem gL_ask_L_receipt : GoodIn wsL_ask (va_wsS RL 149 yL_receipt wsL_receipt) := gA (aS qm_L_149 qs_L_receipt qn_L qc_L_receipt)
theorem gL_ask_X8_meanAge : GoodIn wsL_ask (wsV RL 151 RX8 yX8_meanAge wsX8_meanAge) := gA (aV qm_L_151 qi_X8_meanAge ql_X8_meanAge qn_X8 qc_X8_meanAge)
theorem gL_ask_X8_errorPosition : GoodIn wsL_ask (wsV RL 157 RX8 yX8_errorPosition wsX8_errorPosition) := gA (aV qm_L_157 qi_X8_errorPosition ql_X8_errorPosition qn_X8 qc_X8_errorPosition)
theorem gL_ask_X8_errorKind : GoodIn wsL_ask (wsV RL 160 RX8 yX8_errorKind wsX8_errorKind) := gA (aV qm_L_160 qi_X8_errorKind ql_X8_errorKind qn_X8 qc_X8_errorKind)
theorem gL_isWeighed_L_total : GoodIn wsL_isWeighed (va_wsS RL 163 yL_total wsL_total) := gA (aS qm_L_163 qs_L_total qn_L qc_L_total)
theorem gL_isWeighed_L_silo : GoodIn wsL_isWeighed (va_wsS RL 166 yL_silo wsL_silo) := gA (aS qm_L_166 qs_L_silo qn_L qc_L_silo)
theorem gL_isBilled_L_total : GoodIn wsL_isBilled (va_wsS RL 163 yL_total wsL_total) := gA (aS qm_L_163 qs_L_total qn_L qc_L_total)
theorem gL_isBilled_L_boat : GoodIn wsL_isBilled (va_wsS RL 168 yL_boat wsL_boat) := gA (aS qm_L_168 qs_L_boat qn_L qc_L_boat)
theorem gL_isBilled_L_account : GoodIn wsL_isBilled (va_wsS RL 170 yL_account wsL_account) := gA (aS qm_L_170 qs_L_account qn_L qc_L_account)
theorem gL_isBilled_L_findAccount : GoodIn wsL_isBilled (va_wsS RL 173 yL_findAccount wsL_findAccount) := gA (aS qm_L_173 qs_L_findAccount qn_L qc_L_findAccount)
theorem gL_areAlike_X8_meanAge : GoodIn wsL_areAlike (wsV RL 151 RX8 yX8_meanAge wsX8_meanAge) := gA (aV qm_L_151 qi_X8_meanAge ql_X8_meanAge qn_X8 qc_X8_meanAge)
theorem gL_areAlike_L_total : GoodIn wsL_areAlike (va_wsS RL 163 yL_total wsL_total) := gA (aS qm_L_163 qs_L_total qn_L qc_L_total)
theorem gL_areAlike_L_receipt : GoodIn wsL_areAlike (va_wsS RL 149 yL_receipt wsL_receipt) := gA (aS qm_L_149 qs_L_receipt qn_L qc_L_receipt)
theorem gL_areAlike_L_massAfter : GoodIn wsL_areAlike (va_wsS RL 139 yL_massAfter wsL_massAfter) := gA (aS qm_L_139 qs_L_massAfter qn_L qc_L_massAfter)
theorem gL_law_X8_init : GoodIn lwA (wsX8_init) := gL (aC qc_X8_init)
theorem gL_law_L_cell : GoodIn lwA (va_wsS RL 176 yL_cell wsL_cell) := gL (aS qm_L_176 qs_L_cell qn_L qc_L_cell)
theorem gL_law_L_ask : GoodIn lwA (va_wsS RL 180 yL_ask wsL_ask) := gL (aS qm_L_180 qs_L_ask qn_L qc_L_ask)
theorem gL_law_L_change : GoodIn lwA (va_wsS RL 183 yL_change wsL_change) := gL (aS qm_L_183 qs_L_change qn_L qc_L_change)
theorem gL_law_L_isWeighed : GoodIn lwA (va_wsS RL 186 yL_isWeighed wsL_isWeighed) := gL (aS qm_L_186 qs_L_isWeighed qn_L qc_L_isWeighed)
theorem gL_law_L_isBilled : GoodIn lwA (va_wsS RL 190 yL_isBilled wsL_isBilled) := gL (aS qm_L_190 qs_L_isBilled qn_L qc_L_isBilled)
theorem gL_law_L_areAlike : GoodIn lwA (va_wsS RL 193 yL_areAlike wsL_areAlike) := gL (aS qm_L_193 qs_L_areAlike qn_L qc_L_areAlike)
theorem cd_X0_init : yX0_init.cls = RX0 ∧ yX0_init.cls ≠ "java/lang/invoke/MethodHandle" ∧ yX0_init.cls ≠ "java/lang/invoke/VarHandle" ∧ (parseMethodDescriptor yX0_init.desc).map (fun d => d.parameters.length) = some 0 := by decide +kernel
theorem cd_X0_copyFrom : yX0_copyFrom.cls = RX0 ∧ yX0_copyFrom.cls ≠ "java/lang/invoke/MethodHandle" ∧ yX0_copyFrom.cls ≠ "java/lang/invoke/VarHandle" ∧ (parseMethodDescriptor yX0_copyFrom.desc).map (fun d => d.parameters.length) = some 1 := by decide +kernel
theorem cd_X0_find : yX0_find.cls = RX0 ∧ yX0_find.cls ≠ "java/lang/invoke/MethodHandle" ∧ yX0_find.cls ≠ "java/lang/invoke/VarHandle" ∧ (parseMethodDescriptor yX0_find.desc).map (fun d => d.parameters.length) = some 2 := by decide +kernel
theorem cd_X0_enter : yX0_enter.cls = RX0 ∧ yX0_enter.cls ≠ "java/lang/invoke/MethodHandle" ∧ yX0_enter.cls ≠ "java/lang/invoke/VarHandle" ∧ (parseMethodDescriptor yX0_enter.desc).map (fun d => d.parameters.length) = some 4 := by decide +kernel
theorem cd_X0_property : yX0_property.cls = RX0 ∧ yX0_property.cls ≠ "java/lang/invoke/MethodHandle" ∧ yX0_property.cls ≠ "java/lang/invoke/VarHandle" ∧ (parseMethodDescriptor yX0_property.desc).map (fun d => d.parameters.length) = some 2 := by decide +kernel
theorem cd_X1_init : yX1_init.cls = RX1 ∧ yX1_init.cls ≠ "java/lang/invoke/MethodHandle" ∧ yX1_init.cls ≠ "java/lang/invoke/VarHandle" ∧ (parseMethodDescriptor yX1_init.desc).map (fun d => d.parameters.length) = some 0 := by decide +kernel
theorem cd_X1_copyFrom : yX1_copyFrom.cls = RX1 ∧ yX1_copyFrom.cls ≠ "java/lang/invoke/MethodHandle" ∧ yX1_copyFrom.cls ≠ "java/lang/invoke/VarHandle" ∧ (parseMethodDescriptor yX1_copyFrom.desc).map (fun d => d.parameters.length) = some 1 := by decide +kernel
theorem cd_X1_has : yX1_has.cls = RX1 ∧ yX1_has.cls ≠ "java/lang/invoke/MethodHandle" ∧ yX1_has.cls ≠ "java/lang/invoke/VarHandle" ∧ (parseMethodDescriptor yX1_has.desc).map (fun d => d.parameters.length) = some 1 := by decide +kernel
theorem cd_X1_addOne : yX1_addOne.cls = RX1 ∧ yX1_addOne.cls ≠ "java/lang/invoke/MethodHandle" ∧ yX1_addOne.cls ≠ "java/lang/invoke/VarHandle" ∧ (parseMethodDescriptor yX1_addOne.desc).map (fun d => d.parameters.length) = some 1 := by decide +kernel
theorem cd_X1_charge : yX1_charge.cls = RX1 ∧ yX1_charge.cls ≠ "java/lang/invoke/MethodHandle" ∧ yX1_charge.cls ≠ "java/lang/invoke/VarHandle" ∧ (parseMethodDescriptor yX1_charge.desc).map (fun d => d.parameters.length) = some 3 := by decide +kernel
theorem cd_X1_reduceDebt : yX1_reduceDebt.cls = RX1 ∧ yX1_reduceDebt.cls ≠ "java/lang/invoke/MethodHandle" ∧ yX1_reduceDebt.cls ≠ "java/lang/invoke/VarHandle" ∧ (parseMethodDescriptor yX1_reduceDebt.desc).map (fun d => d.parameters.length) = some 2 := by decide +kernel
theorem cd_X1_property : yX1_property.cls = RX1 ∧ yX1_property.cls ≠ "java/lang/invoke/MethodHandle" ∧ yX1_property.cls ≠ "java/lang/invoke/VarHandle" ∧ (parseMethodDescriptor yX1_property.desc).map (fun d => d.parameters.length) = some 2 := by decide +kernel
theorem cd_X2_init : yX2_init.cls = RX2 ∧ yX2_init.cls ≠ "java/lang/invoke/MethodHandle" ∧ yX2_init.cls ≠ "java/lang/invoke/VarHandle" ∧ (parseMethodDescriptor yX2_init.desc).map (fun d => d.parameters.length) = some 0 := by decide +kernel
theorem cd_X2_save : yX2_save.cls = RX2 ∧ yX2_save.cls ≠ "java/lang/invoke/MethodHandle" ∧ yX2_save.cls ≠ "java/lang/invoke/VarHandle" ∧ (parseMethodDescriptor yX2_save.desc).map (fun d => d.parameters.length) = some 1 := by decide +kernel
theorem cd_X2_restore : yX2_restore.cls = RX2 ∧ yX2_restore.cls ≠ "java/lang/invoke/MethodHandle" ∧ yX2_restore.cls ≠ "java/lang/invoke/VarHandle" ∧ (parseMethodDescriptor yX2_restore.desc).map (fun d => d.parameters.length) = some 1 := by decide +kernel
theorem cd_X3_init : yX3_init.cls = RX3 ∧ yX3_init.cls ≠ "java/lang/invoke/MethodHandle" ∧ yX3_init.cls ≠ "java/lang/invoke/VarHandle" ∧ (parseMethodDescriptor yX3_init.desc).map (fun d => d.parameters.length) = some 0 := by decide +kernel
theorem cd_X3_copyFrom : yX3_copyFrom.cls = RX3 ∧ yX3_copyFrom.cls ≠ "java/lang/invoke/MethodHandle" ∧ yX3_copyFrom.cls ≠ "java/lang/invoke/VarHandle" ∧ (parseMethodDescriptor yX3_copyFrom.desc).map (fun d => d.parameters.length) = some 1 := by decide +kernel
theorem cd_X3_has : yX3_has.cls = RX3 ∧ yX3_has.cls ≠ "java/lang/invoke/MethodHandle" ∧ yX3_has.cls ≠ "java/lang/invoke/VarHandle" ∧ (parseMethodDescriptor yX3_has.desc).map (fun d => d.parameters.length) = some 1 := by decide +kernel
theorem cd_X3_isOpen : yX3_isOpen.cls = RX3 ∧ yX3_isOpen.cls ≠ "java/lang/invoke/MethodHandle" ∧ yX3_isOpen.cls ≠ "java/lang/invoke/VarHandle" ∧ (parseMethodDescriptor yX3_isOpen.desc).map (fun d => d.parameters.length) = some 1 := by decide +kernel
theorem cd_X3_isComplete : yX3_isComplete.cls = RX3 ∧ yX3_isComplete.cls ≠ "java/lang/invoke/MethodHandle" ∧ yX3_isComplete.cls ≠ "java/lang/invoke/VarHandle" ∧ (parseMethodDescriptor yX3_isComplete.desc).map (fun d => d.parameters.length) = some 1 := by decide +kernel
theorem cd_X3_isWhole : yX3_isWhole.cls = RX3 ∧ yX3_isWhole.cls ≠ "java/lang/invoke/MethodHandle" ∧ yX3_isWhole.cls ≠ "java/lang/invoke/VarHandle" ∧ (parseMethodDescriptor yX3_isWhole.desc).map (fun d => d.parameters.length) = some 1 := by decide +kernel
theorem cd_X3_isFull : yX3_isFull.cls = RX3 ∧ yX3_isFull.cls ≠ "java/lang/invoke/MethodHandle" ∧ yX3_isFull.cls ≠ "java/lang/invoke/VarHandle" ∧ (parseMethodDescriptor yX3_isFull.desc).map (fun d => d.parameters.length) = some 0 := by decide +kernel
theorem cd_X3_place : yX3_place.cls = RX3 ∧ yX3_place.cls ≠ "java/lang/invoke/MethodHandle" ∧ yX3_place.cls ≠ "java/lang/invoke/VarHandle" ∧ (parseMethodDescriptor yX3_place.desc).map (fun d => d.parameters.length) = some 4 := by decide +kernel
theorem cd_X3_remaining : yX3_remaining.cls = RX3 ∧ yX3_remaining.cls ≠ "java/lang/invoke/MethodHandle" ∧ yX3_remaining.cls ≠ "java/lang/invoke/VarHandle" ∧ (parseMethodDescriptor yX3_remaining.desc).map (fun d => d.parameters.length) = some 1 := by decide +kernel
theorem cd_X3_deliver : yX3_deliver.cls = RX3 ∧ yX3_deliver.cls ≠ "java/lang/invoke/MethodHandle" ∧ yX3_deliver.cls ≠ "java/lang/invoke/VarHandle" ∧ (parseMethodDescriptor yX3_deliver.desc).map (fun d => d.parameters.length) = some 2 := by decide +kernel
theorem cd_X3_close : yX3_close.cls = RX3 ∧ yX3_close.cls ≠ "java/lang/invoke/MethodHandle" ∧ yX3_close.cls ≠ "java/lang/invoke/VarHandle" ∧ (parseMethodDescriptor yX3_close.desc).map (fun d => d.parameters.length) = some 2 := by decide +kernel
theorem cd_X3_expire : yX3_expire.cls = RX3 ∧ yX3_expire.cls ≠ "java/lang/invoke/MethodHandle" ∧ yX3_expire.cls ≠ "java/lang/invoke/VarHandle" ∧ (parseMethodDescriptor yX3_expire.desc).map (fun d => d.parameters.length) = some 0 := by decide +kernel
theorem cd_X3_openOf : yX3_openOf.cls = RX3 ∧ yX3_openOf.cls ≠ "java/lang/invoke/MethodHandle" ∧ yX3_openOf.cls ≠ "java/lang/invoke/VarHandle" ∧ (parseMethodDescriptor yX3_openOf.desc).map (fun d => d.parameters.length) = some 1 := by decide +kernel
theorem cd_X3_arrange : yX3_arrange.cls = RX3 ∧ yX3_arrange.cls ≠ "java/lang/invoke/MethodHandle" ∧ yX3_arrange.cls ≠ "java/lang/invoke/VarHandle" ∧ (parseMethodDescriptor yX3_arrange.desc).map (fun d => d.parameters.length) = some 2 := by decide +kernel
theorem cd_X3_openBefore : yX3_openBefore.cls = RX3 ∧ yX3_openBefore.cls ≠ "java/lang/invoke/MethodHandle" ∧ yX3_openBefore.cls ≠ "java/lang/invoke/VarHandle" ∧ (parseMethodDescriptor yX3_openBefore.desc).map (fun d => d.parameters.length) = some 3 := by decide +kernel
theorem cd_X3_comesBefore : yX3_comesBefore.cls = RX3 ∧ yX3_comesBefore.cls ≠ "java/lang/invoke/MethodHandle" ∧ yX3_comesBefore.cls ≠ "java/lang/invoke/VarHandle" ∧ (parseMethodDescriptor yX3_comesBefore.desc).map (fun d => d.parameters.length) = some 4 := by decide +kernel
theorem cd_X3_property : yX3_property.cls = RX3 ∧ yX3_property.cls ≠ "java/lang/invoke/MethodHandle" ∧ yX3_property.cls ≠ "java/lang/invoke/VarHandle" ∧ (parseMethodDescriptor yX3_property.desc).map (fun d => d.parameters.length) = some 2 := by decide +kernel
theorem cd_X4_init : yX4_init.cls = RX4 ∧ yX4_init.cls ≠ "java/lang/invoke/MethodHandle" ∧ yX4_init.cls ≠ "java/lang/invoke/VarHandle" ∧ (parseMethodDescriptor yX4_init.desc).map (fun d => d.parameters.length) = some 0 := by decide +kernel
theorem cd_X4_copyFrom : yX4_copyFrom.cls = RX4 ∧ yX4_copyFrom.cls ≠ "java/lang/invoke/MethodHandle" ∧ yX4_copyFrom.cls ≠ "java/lang/invoke/VarHandle" ∧ (parseMethodDescriptor yX4_copyFrom.desc).map (fun d => d.parameters.length) = some 1 := by decide +kernel
theorem cd_X4_letPass : yX4_letPass.cls = RX4 ∧ yX4_letPass.cls ≠ "java/lang/invoke/MethodHandle" ∧ yX4_letPass.cls ≠ "java/lang/invoke/VarHandle" ∧ (parseMethodDescriptor yX4_letPass.desc).map (fun d => d.parameters.length) = some 1 := by decide +kernel
theorem cd_X4_passHour : yX4_passHour.cls = RX4 ∧ yX4_passHour.cls ≠ "java/lang/invoke/MethodHandle" ∧ yX4_passHour.cls ≠ "java/lang/invoke/VarHandle" ∧ (parseMethodDescriptor yX4_passHour.desc).map (fun d => d.parameters.length) = some 0 := by decide +kernel
theorem cd_X4_produce : yX4_produce.cls = RX4 ∧ yX4_produce.cls ≠ "java/lang/invoke/MethodHandle" ∧ yX4_produce.cls ≠ "java/lang/invoke/VarHandle" ∧ (parseMethodDescriptor yX4_produce.desc).map (fun d => d.parameters.length) = some 0 := by decide +kernel
theorem cd_X4_serve : yX4_serve.cls = RX4 ∧ yX4_serve.cls ≠ "java/lang/invoke/MethodHandle" ∧ yX4_serve.cls ≠ "java/lang/invoke/VarHandle" ∧ (parseMethodDescriptor yX4_serve.desc).map (fun d => d.parameters.length) = some 2 := by decide +kernel
theorem cd_X4_isSkipped : yX4_isSkipped.cls = RX4 ∧ yX4_isSkipped.cls ≠ "java/lang/invoke/MethodHandle" ∧ yX4_isSkipped.cls ≠ "java/lang/invoke/VarHandle" ∧ (parseMethodDescriptor yX4_isSkipped.desc).map (fun d => d.parameters.length) = some 2 := by decide +kernel
theorem cd_X4_priceOf : yX4_priceOf.cls = RX4 ∧ yX4_priceOf.cls ≠ "java/lang/invoke/MethodHandle" ∧ yX4_priceOf.cls ≠ "java/lang/invoke/VarHandle" ∧ (parseMethodDescriptor yX4_priceOf.desc).map (fun d => d.parameters.length) = some 3 := by decide +kernel
theorem cd_X4_takePayment : yX4_takePayment.cls = RX4 ∧ yX4_takePayment.cls ≠ "java/lang/invoke/MethodHandle" ∧ yX4_takePayment.cls ≠ "java/lang/invoke/VarHandle" ∧ (parseMethodDescriptor yX4_takePayment.desc).map (fun d => d.parameters.length) = some 2 := by decide +kernel
theorem cd_X4_ordersBefore : yX4_ordersBefore.cls = RX4 ∧ yX4_ordersBefore.cls ≠ "java/lang/invoke/MethodHandle" ∧ yX4_ordersBefore.cls ≠ "java/lang/invoke/VarHandle" ∧ (parseMethodDescriptor yX4_ordersBefore.desc).map (fun d => d.parameters.length) = some 1 := by decide +kernel
theorem cd_X4_totalOf : yX4_totalOf.cls = RX4 ∧ yX4_totalOf.cls ≠ "java/lang/invoke/MethodHandle" ∧ yX4_totalOf.cls ≠ "java/lang/invoke/VarHandle" ∧ (parseMethodDescriptor yX4_totalOf.desc).map (fun d => d.parameters.length) = some 1 := by decide +kernel
theorem cd_X5_init : yX5_init.cls = RX5 ∧ yX5_init.cls ≠ "java/lang/invoke/MethodHandle" ∧ yX5_init.cls ≠ "java/lang/invoke/VarHandle" ∧ (parseMethodDescriptor yX5_init.desc).map (fun d => d.parameters.length) = some 0 := by decide +kernel
theorem cd_X5_copyFrom : yX5_copyFrom.cls = RX5 ∧ yX5_copyFrom.cls ≠ "java/lang/invoke/MethodHandle" ∧ yX5_copyFrom.cls ≠ "java/lang/invoke/VarHandle" ∧ (parseMethodDescriptor yX5_copyFrom.desc).map (fun d => d.parameters.length) = some 1 := by decide +kernel
theorem cd_X5_kept : yX5_kept.cls = RX5 ∧ yX5_kept.cls ≠ "java/lang/invoke/MethodHandle" ∧ yX5_kept.cls ≠ "java/lang/invoke/VarHandle" ∧ (parseMethodDescriptor yX5_kept.desc).map (fun d => d.parameters.length) = some 0 := by decide +kernel
theorem cd_X5_write : yX5_write.cls = RX5 ∧ yX5_write.cls ≠ "java/lang/invoke/MethodHandle" ∧ yX5_write.cls ≠ "java/lang/invoke/VarHandle" ∧ (parseMethodDescriptor yX5_write.desc).map (fun d => d.parameters.length) = some 4 := by decide +kernel
theorem cd_X5_property : yX5_property.cls = RX5 ∧ yX5_property.cls ≠ "java/lang/invoke/MethodHandle" ∧ yX5_property.cls ≠ "java/lang/invoke/VarHandle" ∧ (parseMethodDescriptor yX5_property.desc).map (fun d => d.parameters.length) = some 2 := by decide +kernel
theorem cd_X6_init : yX6_init.cls = RX6 ∧ yX6_init.cls ≠ "java/lang/invoke/MethodHandle" ∧ yX6_init.cls ≠ "java/lang/invoke/VarHandle" ∧ (parseMethodDescriptor yX6_init.desc).map (fun d => d.parameters.length) = some 0 := by decide +kernel
theorem cd_X6_copyFrom : yX6_copyFrom.cls = RX6 ∧ yX6_copyFrom.cls ≠ "java/lang/invoke/MethodHandle" ∧ yX6_copyFrom.cls ≠ "java/lang/invoke/VarHandle" ∧ (parseMethodDescriptor yX6_copyFrom.desc).map (fun d => d.parameters.length) = some 1 := by decide +kernel
theorem cd_X6_addOne : yX6_addOne.cls = RX6 ∧ yX6_addOne.cls ≠ "java/lang/invoke/MethodHandle" ∧ yX6_addOne.cls ≠ "java/lang/invoke/VarHandle" ∧ (parseMethodDescriptor yX6_addOne.desc).map (fun d => d.parameters.length) = some 3 := by decide +kernel
theorem cd_X6_hasSilo : yX6_hasSilo.cls = RX6 ∧ yX6_hasSilo.cls ≠ "java/lang/invoke/MethodHandle" ∧ yX6_hasSilo.cls ≠ "java/lang/invoke/VarHandle" ∧ (parseMethodDescriptor yX6_hasSilo.desc).map (fun d => d.parameters.length) = some 1 := by decide +kernel
theorem cd_X6_isEmpty : yX6_isEmpty.cls = RX6 ∧ yX6_isEmpty.cls ≠ "java/lang/invoke/MethodHandle" ∧ yX6_isEmpty.cls ≠ "java/lang/invoke/VarHandle" ∧ (parseMethodDescriptor yX6_isEmpty.desc).map (fun d => d.parameters.length) = some 1 := by decide +kernel
theorem cd_X6_hasRoom : yX6_hasRoom.cls = RX6 ∧ yX6_hasRoom.cls ≠ "java/lang/invoke/MethodHandle" ∧ yX6_hasRoom.cls ≠ "java/lang/invoke/VarHandle" ∧ (parseMethodDescriptor yX6_hasRoom.desc).map (fun d => d.parameters.length) = some 1 := by decide +kernel
theorem cd_X6_slotOf : yX6_slotOf.cls = RX6 ∧ yX6_slotOf.cls ≠ "java/lang/invoke/MethodHandle" ∧ yX6_slotOf.cls ≠ "java/lang/invoke/VarHandle" ∧ (parseMethodDescriptor yX6_slotOf.desc).map (fun d => d.parameters.length) = some 2 := by decide +kernel
theorem cd_X6_melt : yX6_melt.cls = RX6 ∧ yX6_melt.cls ≠ "java/lang/invoke/MethodHandle" ∧ yX6_melt.cls ≠ "java/lang/invoke/VarHandle" ∧ (parseMethodDescriptor yX6_melt.desc).map (fun d => d.parameters.length) = some 1 := by decide +kernel
theorem cd_X6_meltSilo : yX6_meltSilo.cls = RX6 ∧ yX6_meltSilo.cls ≠ "java/lang/invoke/MethodHandle" ∧ yX6_meltSilo.cls ≠ "java/lang/invoke/VarHandle" ∧ (parseMethodDescriptor yX6_meltSilo.desc).map (fun d => d.parameters.length) = some 2 := by decide +kernel
theorem cd_X6_lossOf : yX6_lossOf.cls = RX6 ∧ yX6_lossOf.cls ≠ "java/lang/invoke/MethodHandle" ∧ yX6_lossOf.cls ≠ "java/lang/invoke/VarHandle" ∧ (parseMethodDescriptor yX6_lossOf.desc).map (fun d => d.parameters.length) = some 4 := by decide +kernel
theorem cd_X6_fillSlot : yX6_fillSlot.cls = RX6 ∧ yX6_fillSlot.cls ≠ "java/lang/invoke/MethodHandle" ∧ yX6_fillSlot.cls ≠ "java/lang/invoke/VarHandle" ∧ (parseMethodDescriptor yX6_fillSlot.desc).map (fun d => d.parameters.length) = some 4 := by decide +kernel
theorem cd_X6_makeBlock : yX6_makeBlock.cls = RX6 ∧ yX6_makeBlock.cls ≠ "java/lang/invoke/MethodHandle" ∧ yX6_makeBlock.cls ≠ "java/lang/invoke/VarHandle" ∧ (parseMethodDescriptor yX6_makeBlock.desc).map (fun d => d.parameters.length) = some 1 := by decide +kernel
theorem cd_X6_moveTop : yX6_moveTop.cls = RX6 ∧ yX6_moveTop.cls ≠ "java/lang/invoke/MethodHandle" ∧ yX6_moveTop.cls ≠ "java/lang/invoke/VarHandle" ∧ (parseMethodDescriptor yX6_moveTop.desc).map (fun d => d.parameters.length) = some 2 := by decide +kernel
theorem cd_X6_oldestSlot : yX6_oldestSlot.cls = RX6 ∧ yX6_oldestSlot.cls ≠ "java/lang/invoke/MethodHandle" ∧ yX6_oldestSlot.cls ≠ "java/lang/invoke/VarHandle" ∧ (parseMethodDescriptor yX6_oldestSlot.desc).map (fun d => d.parameters.length) = some 0 := by decide +kernel
theorem cd_X6_removeBlock : yX6_removeBlock.cls = RX6 ∧ yX6_removeBlock.cls ≠ "java/lang/invoke/MethodHandle" ∧ yX6_removeBlock.cls ≠ "java/lang/invoke/VarHandle" ∧ (parseMethodDescriptor yX6_removeBlock.desc).map (fun d => d.parameters.length) = some 1 := by decide +kernel
theorem cd_X6_growOlder : yX6_growOlder.cls = RX6 ∧ yX6_growOlder.cls ≠ "java/lang/invoke/MethodHandle" ∧ yX6_growOlder.cls ≠ "java/lang/invoke/VarHandle" ∧ (parseMethodDescriptor yX6_growOlder.desc).map (fun d => d.parameters.length) = some 0 := by decide +kernel
theorem cd_X6_blocks : yX6_blocks.cls = RX6 ∧ yX6_blocks.cls ≠ "java/lang/invoke/MethodHandle" ∧ yX6_blocks.cls ≠ "java/lang/invoke/VarHandle" ∧ (parseMethodDescriptor yX6_blocks.desc).map (fun d => d.parameters.length) = some 0 := by decide +kernel
theorem cd_X6_mass : yX6_mass.cls = RX6 ∧ yX6_mass.cls ≠ "java/lang/invoke/MethodHandle" ∧ yX6_mass.cls ≠ "java/lang/invoke/VarHandle" ∧ (parseMethodDescriptor yX6_mass.desc).map (fun d => d.parameters.length) = some 0 := by decide +kernel
theorem cd_X6_sumOfAges : yX6_sumOfAges.cls = RX6 ∧ yX6_sumOfAges.cls ≠ "java/lang/invoke/MethodHandle" ∧ yX6_sumOfAges.cls ≠ "java/lang/invoke/VarHandle" ∧ (parseMethodDescriptor yX6_sumOfAges.desc).map (fun d => d.parameters.length) = some 0 := by decide +kernel
theorem cd_X6_meltedMass : yX6_meltedMass.cls = RX6 ∧ yX6_meltedMass.cls ≠ "java/lang/invoke/MethodHandle" ∧ yX6_meltedMass.cls ≠ "java/lang/invoke/VarHandle" ∧ (parseMethodDescriptor yX6_meltedMass.desc).map (fun d => d.parameters.length) = some 0 := by decide +kernel
theorem cd_X6_sumOf : yX6_sumOf.cls = RX6 ∧ yX6_sumOf.cls ≠ "java/lang/invoke/MethodHandle" ∧ yX6_sumOf.cls ≠ "java/lang/invoke/VarHandle" ∧ (parseMethodDescriptor yX6_sumOf.desc).map (fun d => d.parameters.length) = some 3 := by decide +kernel
theorem cd_X6_siloProperty : yX6_siloProperty.cls = RX6 ∧ yX6_siloProperty.cls ≠ "java/lang/invoke/MethodHandle" ∧ yX6_siloProperty.cls ≠ "java/lang/invoke/VarHandle" ∧ (parseMethodDescriptor yX6_siloProperty.desc).map (fun d => d.parameters.length) = some 2 := by decide +kernel
theorem cd_X7_init : yX7_init.cls = RX7 ∧ yX7_init.cls ≠ "java/lang/invoke/MethodHandle" ∧ yX7_init.cls ≠ "java/lang/invoke/VarHandle" ∧ (parseMethodDescriptor yX7_init.desc).map (fun d => d.parameters.length) = some 0 := by decide +kernel
theorem cd_X7_start : yX7_start.cls = RX7 ∧ yX7_start.cls ≠ "java/lang/invoke/MethodHandle" ∧ yX7_start.cls ≠ "java/lang/invoke/VarHandle" ∧ (parseMethodDescriptor yX7_start.desc).map (fun d => d.parameters.length) = some 0 := by decide +kernel
theorem cd_X7_hasCommand : yX7_hasCommand.cls = RX7 ∧ yX7_hasCommand.cls ≠ "java/lang/invoke/MethodHandle" ∧ yX7_hasCommand.cls ≠ "java/lang/invoke/VarHandle" ∧ (parseMethodDescriptor yX7_hasCommand.desc).map (fun d => d.parameters.length) = some 0 := by decide +kernel
theorem cd_X7_readAll : yX7_readAll.cls = RX7 ∧ yX7_readAll.cls ≠ "java/lang/invoke/MethodHandle" ∧ yX7_readAll.cls ≠ "java/lang/invoke/VarHandle" ∧ (parseMethodDescriptor yX7_readAll.desc).map (fun d => d.parameters.length) = some 0 := by decide +kernel
theorem cd_X7_readCommand : yX7_readCommand.cls = RX7 ∧ yX7_readCommand.cls ≠ "java/lang/invoke/MethodHandle" ∧ yX7_readCommand.cls ≠ "java/lang/invoke/VarHandle" ∧ (parseMethodDescriptor yX7_readCommand.desc).map (fun d => d.parameters.length) = some 0 := by decide +kernel
theorem cd_X7_numbersBehind : yX7_numbersBehind.cls = RX7 ∧ yX7_numbersBehind.cls ≠ "java/lang/invoke/MethodHandle" ∧ yX7_numbersBehind.cls ≠ "java/lang/invoke/VarHandle" ∧ (parseMethodDescriptor yX7_numbersBehind.desc).map (fun d => d.parameters.length) = some 1 := by decide +kernel
theorem cd_X7_sign : yX7_sign.cls = RX7 ∧ yX7_sign.cls ≠ "java/lang/invoke/MethodHandle" ∧ yX7_sign.cls ≠ "java/lang/invoke/VarHandle" ∧ (parseMethodDescriptor yX7_sign.desc).map (fun d => d.parameters.length) = some 0 := by decide +kernel
theorem cd_X7_failHere : yX7_failHere.cls = RX7 ∧ yX7_failHere.cls ≠ "java/lang/invoke/MethodHandle" ∧ yX7_failHere.cls ≠ "java/lang/invoke/VarHandle" ∧ (parseMethodDescriptor yX7_failHere.desc).map (fun d => d.parameters.length) = some 0 := by decide +kernel
theorem cd_X7_readComma : yX7_readComma.cls = RX7 ∧ yX7_readComma.cls ≠ "java/lang/invoke/MethodHandle" ∧ yX7_readComma.cls ≠ "java/lang/invoke/VarHandle" ∧ (parseMethodDescriptor yX7_readComma.desc).map (fun d => d.parameters.length) = some 0 := by decide +kernel
theorem cd_X7_readNumber : yX7_readNumber.cls = RX7 ∧ yX7_readNumber.cls ≠ "java/lang/invoke/MethodHandle" ∧ yX7_readNumber.cls ≠ "java/lang/invoke/VarHandle" ∧ (parseMethodDescriptor yX7_readNumber.desc).map (fun d => d.parameters.length) = some 1 := by decide +kernel
theorem cd_X7_isDigit : yX7_isDigit.cls = RX7 ∧ yX7_isDigit.cls ≠ "java/lang/invoke/MethodHandle" ∧ yX7_isDigit.cls ≠ "java/lang/invoke/VarHandle" ∧ (parseMethodDescriptor yX7_isDigit.desc).map (fun d => d.parameters.length) = some 1 := by decide +kernel
theorem cd_X7_readSeparator : yX7_readSeparator.cls = RX7 ∧ yX7_readSeparator.cls ≠ "java/lang/invoke/MethodHandle" ∧ yX7_readSeparator.cls ≠ "java/lang/invoke/VarHandle" ∧ (parseMethodDescriptor yX7_readSeparator.desc).map (fun d => d.parameters.length) = some 0 := by decide +kernel
theorem cd_X8_init : yX8_init.cls = RX8 ∧ yX8_init.cls ≠ "java/lang/invoke/MethodHandle" ∧ yX8_init.cls ≠ "java/lang/invoke/VarHandle" ∧ (parseMethodDescriptor yX8_init.desc).map (fun d => d.parameters.length) = some 0 := by decide +kernel
theorem cd_X8_addSilo : yX8_addSilo.cls = RX8 ∧ yX8_addSilo.cls ≠ "java/lang/invoke/MethodHandle" ∧ yX8_addSilo.cls ≠ "java/lang/invoke/VarHandle" ∧ (parseMethodDescriptor yX8_addSilo.desc).map (fun d => d.parameters.length) = some 3 := by decide +kernel
theorem cd_X8_setRule : yX8_setRule.cls = RX8 ∧ yX8_setRule.cls ≠ "java/lang/invoke/MethodHandle" ∧ yX8_setRule.cls ≠ "java/lang/invoke/VarHandle" ∧ (parseMethodDescriptor yX8_setRule.desc).map (fun d => d.parameters.length) = some 2 := by decide +kernel
theorem cd_X8_setStrength : yX8_setStrength.cls = RX8 ∧ yX8_setStrength.cls ≠ "java/lang/invoke/MethodHandle" ∧ yX8_setStrength.cls ≠ "java/lang/invoke/VarHandle" ∧ (parseMethodDescriptor yX8_setStrength.desc).map (fun d => d.parameters.length) = some 2 := by decide +kernel
theorem cd_X8_setTemperature : yX8_setTemperature.cls = RX8 ∧ yX8_setTemperature.cls ≠ "java/lang/invoke/MethodHandle" ∧ yX8_setTemperature.cls ≠ "java/lang/invoke/VarHandle" ∧ (parseMethodDescriptor yX8_setTemperature.desc).map (fun d => d.parameters.length) = some 2 := by decide +kernel
theorem cd_X8_set : yX8_set.cls = RX8 ∧ yX8_set.cls ≠ "java/lang/invoke/MethodHandle" ∧ yX8_set.cls ≠ "java/lang/invoke/VarHandle" ∧ (parseMethodDescriptor yX8_set.desc).map (fun d => d.parameters.length) = some 2 := by decide +kernel
theorem cd_X8_move : yX8_move.cls = RX8 ∧ yX8_move.cls ≠ "java/lang/invoke/MethodHandle" ∧ yX8_move.cls ≠ "java/lang/invoke/VarHandle" ∧ (parseMethodDescriptor yX8_move.desc).map (fun d => d.parameters.length) = some 2 := by decide +kernel
theorem cd_X8_pass : yX8_pass.cls = RX8 ∧ yX8_pass.cls ≠ "java/lang/invoke/MethodHandle" ∧ yX8_pass.cls ≠ "java/lang/invoke/VarHandle" ∧ (parseMethodDescriptor yX8_pass.desc).map (fun d => d.parameters.length) = some 1 := by decide +kernel
theorem cd_X8_addBoat : yX8_addBoat.cls = RX8 ∧ yX8_addBoat.cls ≠ "java/lang/invoke/MethodHandle" ∧ yX8_addBoat.cls ≠ "java/lang/invoke/VarHandle" ∧ (parseMethodDescriptor yX8_addBoat.desc).map (fun d => d.parameters.length) = some 1 := by decide +kernel
theorem cd_X8_setCatch : yX8_setCatch.cls = RX8 ∧ yX8_setCatch.cls ≠ "java/lang/invoke/MethodHandle" ∧ yX8_setCatch.cls ≠ "java/lang/invoke/VarHandle" ∧ (parseMethodDescriptor yX8_setCatch.desc).map (fun d => d.parameters.length) = some 2 := by decide +kernel
theorem cd_X8_order : yX8_order.cls = RX8 ∧ yX8_order.cls ≠ "java/lang/invoke/MethodHandle" ∧ yX8_order.cls ≠ "java/lang/invoke/VarHandle" ∧ (parseMethodDescriptor yX8_order.desc).map (fun d => d.parameters.length) = some 4 := by decide +kernel
theorem cd_X8_cancel : yX8_cancel.cls = RX8 ∧ yX8_cancel.cls ≠ "java/lang/invoke/MethodHandle" ∧ yX8_cancel.cls ≠ "java/lang/invoke/VarHandle" ∧ (parseMethodDescriptor yX8_cancel.desc).map (fun d => d.parameters.length) = some 1 := by decide +kernel
theorem cd_X8_pay : yX8_pay.cls = RX8 ∧ yX8_pay.cls ≠ "java/lang/invoke/MethodHandle" ∧ yX8_pay.cls ≠ "java/lang/invoke/VarHandle" ∧ (parseMethodDescriptor yX8_pay.desc).map (fun d => d.parameters.length) = some 2 := by decide +kernel
theorem cd_X8_silo : yX8_silo.cls = RX8 ∧ yX8_silo.cls ≠ "java/lang/invoke/MethodHandle" ∧ yX8_silo.cls ≠ "java/lang/invoke/VarHandle" ∧ (parseMethodDescriptor yX8_silo.desc).map (fun d => d.parameters.length) = some 2 := by decide +kernel
theorem cd_X8_boat : yX8_boat.cls = RX8 ∧ yX8_boat.cls ≠ "java/lang/invoke/MethodHandle" ∧ yX8_boat.cls ≠ "java/lang/invoke/VarHandle" ∧ (parseMethodDescriptor yX8_boat.desc).map (fun d => d.parameters.length) = some 2 := by decide +kernel
theorem cd_X8_orderProperty : yX8_orderProperty.cls = RX8 ∧ yX8_orderProperty.cls ≠ "java/lang/invoke/MethodHandle" ∧ yX8_orderProperty.cls ≠ "java/lang/invoke/VarHandle" ∧ (parseMethodDescriptor yX8_orderProperty.desc).map (fun d => d.parameters.length) = some 2 := by decide +kernel
theorem cd_X8_receipt : yX8_receipt.cls = RX8 ∧ yX8_receipt.cls ≠ "java/lang/invoke/MethodHandle" ∧ yX8_receipt.cls ≠ "java/lang/invoke/VarHandle" ∧ (parseMethodDescriptor yX8_receipt.desc).map (fun d => d.parameters.length) = some 2 := by decide +kernel
theorem cd_X8_account : yX8_account.cls = RX8 ∧ yX8_account.cls ≠ "java/lang/invoke/MethodHandle" ∧ yX8_account.cls ≠ "java/lang/invoke/VarHandle" ∧ (parseMethodDescriptor yX8_account.desc).map (fun d => d.parameters.length) = some 2 := by decide +kernel
theorem cd_X8_findAccount : yX8_findAccount.cls = RX8 ∧ yX8_findAccount.cls ≠ "java/lang/invoke/MethodHandle" ∧ yX8_findAccount.cls ≠ "java/lang/invoke/VarHandle" ∧ (parseMethodDescriptor yX8_findAccount.desc).map (fun d => d.parameters.length) = some 2 := by decide +kernel
theorem cd_X8_total : yX8_total.cls = RX8 ∧ yX8_total.cls ≠ "java/lang/invoke/MethodHandle" ∧ yX8_total.cls ≠ "java/lang/invoke/VarHandle" ∧ (parseMethodDescriptor yX8_total.desc).map (fun d => d.parameters.length) = some 1 := by decide +kernel
theorem cd_X8_meanAge : yX8_meanAge.cls = RX8 ∧ yX8_meanAge.cls ≠ "java/lang/invoke/MethodHandle" ∧ yX8_meanAge.cls ≠ "java/lang/invoke/VarHandle" ∧ (parseMethodDescriptor yX8_meanAge.desc).map (fun d => d.parameters.length) = some 0 := by decide +kernel
theorem cd_X8_massAfter : yX8_massAfter.cls = RX8 ∧ yX8_massAfter.cls ≠ "java/lang/invoke/MethodHandle" ∧ yX8_massAfter.cls ≠ "java/lang/invoke/VarHandle" ∧ (parseMethodDescriptor yX8_massAfter.desc).map (fun d => d.parameters.length) = some 1 := by decide +kernel
theorem cd_X8_completeIn : yX8_completeIn.cls = RX8 ∧ yX8_completeIn.cls ≠ "java/lang/invoke/MethodHandle" ∧ yX8_completeIn.cls ≠ "java/lang/invoke/VarHandle" ∧ (parseMethodDescriptor yX8_completeIn.desc).map (fun d => d.parameters.length) = some 1 := by decide +kernel
theorem cd_X8_bestRule : yX8_bestRule.cls = RX8 ∧ yX8_bestRule.cls ≠ "java/lang/invoke/MethodHandle" ∧ yX8_bestRule.cls ≠ "java/lang/invoke/VarHandle" ∧ (parseMethodDescriptor yX8_bestRule.desc).map (fun d => d.parameters.length) = some 2 := by decide +kernel
theorem cd_X8_quote : yX8_quote.cls = RX8 ∧ yX8_quote.cls ≠ "java/lang/invoke/MethodHandle" ∧ yX8_quote.cls ≠ "java/lang/invoke/VarHandle" ∧ (parseMethodDescriptor yX8_quote.desc).map (fun d => d.parameters.length) = some 3 := by decide +kernel
theorem cd_X8_errorPosition : yX8_errorPosition.cls = RX8 ∧ yX8_errorPosition.cls ≠ "java/lang/invoke/MethodHandle" ∧ yX8_errorPosition.cls ≠ "java/lang/invoke/VarHandle" ∧ (parseMethodDescriptor yX8_errorPosition.desc).map (fun d => d.parameters.length) = some 0 := by decide +kernel
theorem cd_X8_errorKind : yX8_errorKind.cls = RX8 ∧ yX8_errorKind.cls ≠ "java/lang/invoke/MethodHandle" ∧ yX8_errorKind.cls ≠ "java/lang/invoke/VarHandle" ∧ (parseMethodDescriptor yX8_errorKind.desc).map (fun d => d.parameters.length) = some 0 := by decide +kernel
theorem cd_X8_undo : yX8_undo.cls = RX8 ∧ yX8_undo.cls ≠ "java/lang/invoke/MethodHandle" ∧ yX8_undo.cls ≠ "java/lang/invoke/VarHandle" ∧ (parseMethodDescriptor yX8_undo.desc).map (fun d => d.parameters.length) = some 0 := by decide +kernel
theorem cd_X8_isWithin : yX8_isWithin.cls = RX8 ∧ yX8_isWithin.cls ≠ "java/lang/invoke/MethodHandle" ∧ yX8_isWithin.cls ≠ "java/lang/invoke/VarHandle" ∧ (parseMethodDescriptor yX8_isWithin.desc).map (fun d => d.parameters.length) = some 3 := by decide +kernel
theorem cd_X8_needItem : yX8_needItem.cls = RX8 ∧ yX8_needItem.cls ≠ "java/lang/invoke/MethodHandle" ∧ yX8_needItem.cls ≠ "java/lang/invoke/VarHandle" ∧ (parseMethodDescriptor yX8_needItem.desc).map (fun d => d.parameters.length) = some 1 := by decide +kernel
theorem cd_X8_needArgument : yX8_needArgument.cls = RX8 ∧ yX8_needArgument.cls ≠ "java/lang/invoke/MethodHandle" ∧ yX8_needArgument.cls ≠ "java/lang/invoke/VarHandle" ∧ (parseMethodDescriptor yX8_needArgument.desc).map (fun d => d.parameters.length) = some 1 := by decide +kernel
theorem cd_X8_needState : yX8_needState.cls = RX8 ∧ yX8_needState.cls ≠ "java/lang/invoke/MethodHandle" ∧ yX8_needState.cls ≠ "java/lang/invoke/VarHandle" ∧ (parseMethodDescriptor yX8_needState.desc).map (fun d => d.parameters.length) = some 1 := by decide +kernel
theorem cd_X8_refuse : yX8_refuse.cls = RX8 ∧ yX8_refuse.cls ≠ "java/lang/invoke/MethodHandle" ∧ yX8_refuse.cls ≠ "java/lang/invoke/VarHandle" ∧ (parseMethodDescriptor yX8_refuse.desc).map (fun d => d.parameters.length) = some 1 := by decide +kernel
theorem cd_X8_valueAt : yX8_valueAt.cls = RX8 ∧ yX8_valueAt.cls ≠ "java/lang/invoke/MethodHandle" ∧ yX8_valueAt.cls ≠ "java/lang/invoke/VarHandle" ∧ (parseMethodDescriptor yX8_valueAt.desc).map (fun d => d.parameters.length) = some 2 := by decide +kernel
theorem cd_X8_replace : yX8_replace.cls = RX8 ∧ yX8_replace.cls ≠ "java/lang/invoke/MethodHandle" ∧ yX8_replace.cls ≠ "java/lang/invoke/VarHandle" ∧ (parseMethodDescriptor yX8_replace.desc).map (fun d => d.parameters.length) = some 3 := by decide +kernel
theorem cd_X8_copyRow : yX8_copyRow.cls = RX8 ∧ yX8_copyRow.cls ≠ "java/lang/invoke/MethodHandle" ∧ yX8_copyRow.cls ≠ "java/lang/invoke/VarHandle" ∧ (parseMethodDescriptor yX8_copyRow.desc).map (fun d => d.parameters.length) = some 2 := by decide +kernel
theorem cd_X8_copyLongRow : yX8_copyLongRow.cls = RX8 ∧ yX8_copyLongRow.cls ≠ "java/lang/invoke/MethodHandle" ∧ yX8_copyLongRow.cls ≠ "java/lang/invoke/VarHandle" ∧ (parseMethodDescriptor yX8_copyLongRow.desc).map (fun d => d.parameters.length) = some 2 := by decide +kernel
theorem cd_X8_passFault : yX8_passFault.cls = RX8 ∧ yX8_passFault.cls ≠ "java/lang/invoke/MethodHandle" ∧ yX8_passFault.cls ≠ "java/lang/invoke/VarHandle" ∧ (parseMethodDescriptor yX8_passFault.desc).map (fun d => d.parameters.length) = some 1 := by decide +kernel
theorem cd_X8_moveFault : yX8_moveFault.cls = RX8 ∧ yX8_moveFault.cls ≠ "java/lang/invoke/MethodHandle" ∧ yX8_moveFault.cls ≠ "java/lang/invoke/VarHandle" ∧ (parseMethodDescriptor yX8_moveFault.desc).map (fun d => d.parameters.length) = some 2 := by decide +kernel
theorem cd_X8_catchFault : yX8_catchFault.cls = RX8 ∧ yX8_catchFault.cls ≠ "java/lang/invoke/MethodHandle" ∧ yX8_catchFault.cls ≠ "java/lang/invoke/VarHandle" ∧ (parseMethodDescriptor yX8_catchFault.desc).map (fun d => d.parameters.length) = some 2 := by decide +kernel
theorem cd_X8_orderFault : yX8_orderFault.cls = RX8 ∧ yX8_orderFault.cls ≠ "java/lang/invoke/MethodHandle" ∧ yX8_orderFault.cls ≠ "java/lang/invoke/VarHandle" ∧ (parseMethodDescriptor yX8_orderFault.desc).map (fun d => d.parameters.length) = some 3 := by decide +kernel
theorem cd_X8_payFault : yX8_payFault.cls = RX8 ∧ yX8_payFault.cls ≠ "java/lang/invoke/MethodHandle" ∧ yX8_payFault.cls ≠ "java/lang/invoke/VarHandle" ∧ (parseMethodDescriptor yX8_payFault.desc).map (fun d => d.parameters.length) = some 2 := by decide +kernel
theorem cd_X8_meltedWith : yX8_meltedWith.cls = RX8 ∧ yX8_meltedWith.cls ≠ "java/lang/invoke/MethodHandle" ∧ yX8_meltedWith.cls ≠ "java/lang/invoke/VarHandle" ∧ (parseMethodDescriptor yX8_meltedWith.desc).map (fun d => d.parameters.length) = some 3 := by decide +kernel
