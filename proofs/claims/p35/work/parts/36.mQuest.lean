/-- L_ask -/
def f_L_ask (x1 : Int32) (x2 : Int32) (imT : Mem) (imdP : Mem) (indP : MemL) (imdS : Mem) (imdB : Mem) (imdO : Mem) (imdR : Mem) (imdA : Mem) (indA : MemL) (imP : Mem) (inP : MemL) (imS : Mem) (imB : Mem) (imO : Mem) (imR : Mem) (imA : Mem) (inA : MemL) (imH : Mem) (ihs : (Nat → PSt)) : Option (Int32 × Mem × Mem × MemL × Mem × Mem × Mem × Mem × Mem × MemL) := bd1 (f_L_low x2 (6 : Int32)) fun r_1 => bd1 (f_L_low x1 (8 : Int32)) fun r_3 => (if r_3 = 0 then bd1 (f_L_low x2 (50 : Int32)) fun r_57 => bd9 (f_L_massAfter r_57 imT imdP indP imdS imdB imdO imdR imdA indA imP inP imS imB imO imR imA inA imH ihs) fun r_59 mdP_60 ndP_61 mdS_62 mdB_63 mdO_64 mdR_65 mdA_66 ndA_67 => some (r_59, imT, mdP_60, ndP_61, mdS_62, mdB_63, mdO_64, mdR_65, mdA_66, ndA_67) else (if r_3 = 1 then bd1 (f_L_low x2 (9 : Int32)) fun r_45 => bd9 (f_L_completeIn r_45 imT imdP indP imdS imdB imdO imdR imdA indA imP inP imS imB imO imR imA inA imH ihs) fun r_47 mdP_48 ndP_49 mdS_50 mdB_51 mdO_52 mdR_53 mdA_54 ndA_55 => some (r_47, imT, mdP_48, ndP_49, mdS_50, mdB_51, mdO_52, mdR_53, mdA_54, ndA_55) else (if r_3 = 2 then bd1 (f_L_low (x2 / (6 : Int32)) (25 : Int32)) fun r_33 => bd9 (f_L_bestRule r_1 ((1 : Int32) + r_33) imT imdP indP imdS imdB imdO imdR imdA indA imP inP imS imB imO imR imA inA imH ihs) fun r_35 mdP_36 ndP_37 mdS_38 mdB_39 mdO_40 mdR_41 mdA_42 ndA_43 => some (r_35, imT, mdP_36, ndP_37, mdS_38, mdB_39, mdO_40, mdR_41, mdA_42, ndA_43) else (if r_3 = 3 then bd1 (f_L_low (x2 / (6 : Int32)) (10001 : Int32)) fun r_27 => bd1 (f_L_low (x2 / (7 : Int32)) (3 : Int32)) fun r_29 => bd1 (f_L_quote r_1 r_27 r_29 imT imdP indP imdS imdB imdO imdR imdA indA imP inP imS imB imO imR imA inA imH ihs) fun r_31 => some (r_31, imT, imdP, indP, imdS, imdB, imdO, imdR, imdA, indA) else (if r_3 = 4 then bd1 (f_L_low x2 (9 : Int32)) fun r_21 => bd1 (f_L_low (x2 / (9 : Int32)) (8 : Int32)) fun r_23 => bd1 (f_L_orderProperty r_21 r_23 imT imdP indP imdS imdB imdO imdR imdA indA imP inP imS imB imO imR imA inA imH ihs) fun r_25 => some (r_25, imT, imdP, indP, imdS, imdB, imdO, imdR, imdA, indA) else (if r_3 = 5 then bd1 (f_L_low x2 (17 : Int32)) fun r_15 => bd1 (f_L_low (x2 / (17 : Int32)) (6 : Int32)) fun r_17 => bd1 (f_L_receipt r_15 r_17 imT imdP indP imdS imdB imdO imdR imdA indA imP inP imS imB imO imR imA inA imH ihs) fun r_19 => some (r_19, imT, imdP, indP, imdS, imdB, imdO, imdR, imdA, indA) else (if r_3 = 6 then bd1 (f_X8_meanAge imT imdP indP imdS imdB imdO imdR imdA indA imP inP imS imB imO imR imA inA imH ihs) fun r_12 => gn (FP.dmul r_12 (4620693217682128896 : UInt64)) (some ((FP.d2i (FP.dmul r_12 (4620693217682128896 : UInt64))), imT, imdP, indP, imdS, imdB, imdO, imdR, imdA, indA)) else bd2 (f_X8_errorPosition imT imdP indP imdS imdB imdO imdR imdA indA imP inP imS imB imO imR imA inA imH ihs) fun r_5 mT_6 => bd2 (f_X8_errorKind mT_6 imdP indP imdS imdB imdO imdR imdA indA imP inP imS imB imO imR imA inA imH ihs) fun r_8 mT_9 => some ((r_5 + r_8), mT_9, imdP, indP, imdS, imdB, imdO, imdR, imdA, indA))))))))
/-- L_isWeighed -/
def f_L_isWeighed_L10  (imT : Mem) (imdP : Mem) (indP : MemL) (imdS : Mem) (imdB : Mem) (imdO : Mem) (imdR : Mem) (imdA : Mem) (indA : MemL) (imP : Mem) (inP : MemL) (imS : Mem) (imB : Mem) (imO : Mem) (imR : Mem) (imA : Mem) (inA : MemL) (imH : Mem) (ihs : (Nat → PSt)) : Nat → Int64 → Int64 → Int64 → Int32 → Option (Int32)
  | 0, _, _, _, _ => none
  | n + 1, x1, x3, x5, x7 => bd1 (f_L_total_N (7 : Int32) imT imdP indP imdS imdB imdO imdR imdA indA imP inP imS imB imO imR imA inA imH ihs) fun r_1 => (if (r_1.toInt32) ≤ x7 then bd1 (f_L_total_N (4 : Int32) imT imdP indP imdS imdB imdO imdR imdA indA imP inP imS imB imO imR imA inA imH ihs) fun r_4 => (if (lg_cmp x1 r_4) = 0 then bd1 (f_L_total_N (3 : Int32) imT imdP indP imdS imdB imdO imdR imdA indA imP inP imS imB imO imR imA inA imH ihs) fun r_7 => (if (lg_cmp x3 r_7) = 0 then bd1 (f_L_total_N (6 : Int32) imT imdP indP imdS imdB imdO imdR imdA indA imP inP imS imB imO imR imA inA imH ihs) fun r_10 => (if (lg_cmp x5 r_10) = 0 then bd1 (f_L_total_N (1 : Int32) imT imdP indP imdS imdB imdO imdR imdA indA imP inP imS imB imO imR imA inA imH ihs) fun r_13 => bd1 (f_L_total_N (2 : Int32) imT imdP indP imdS imdB imdO imdR imdA indA imP inP imS imB imO imR imA inA imH ihs) fun r_15 => bd1 (f_L_total_N (3 : Int32) imT imdP indP imdS imdB imdO imdR imdA indA imP inP imS imB imO imR imA inA imH ihs) fun r_17 => bd1 (f_L_total_N (4 : Int32) imT imdP indP imdS imdB imdO imdR imdA indA imP inP imS imB imO imR imA inA imH ihs) fun r_19 => (if (lg_cmp r_13 ((r_15 + r_17) + r_19)) = 0 then some (1 : Int32) else some (0 : Int32)) else some (0 : Int32)) else some (0 : Int32)) else some (0 : Int32)) else bd1 (f_L_silo_N x7 (4 : Int32) imT imdP indP imdS imdB imdO imdR imdA indA imP inP imS imB imO imR imA inA imH ihs) fun r_22 => lt' (x1 + (r_22.toInt64)) fun x1_24 => bd1 (f_L_silo_N x7 (5 : Int32) imT imdP indP imdS imdB imdO imdR imdA indA imP inP imS imB imO imR imA inA imH ihs) fun r_25 => lt' (x3 + (r_25.toInt64)) fun x3_27 => bd1 (f_L_silo_N x7 (3 : Int32) imT imdP indP imdS imdB imdO imdR imdA indA imP inP imS imB imO imR imA inA imH ihs) fun r_28 => lt' (x5 + (r_28.toInt64)) fun x5_30 => bd1 (f_L_silo_N x7 (3 : Int32) imT imdP indP imdS imdB imdO imdR imdA indA imP inP imS imB imO imR imA inA imH ihs) fun r_31 => bd1 (f_L_silo_N x7 (0 : Int32) imT imdP indP imdS imdB imdO imdR imdA indA imP inP imS imB imO imR imA inA imH ihs) fun r_33 => (if r_31 ≤ r_33 then lt' (x7 + (1 : Int32)) fun x7_36 => (f_L_isWeighed_L10 imT imdP indP imdS imdB imdO imdR imdA indA imP inP imS imB imO imR imA inA imH ihs n) x1_24 x3_27 x5_30 x7_36 else some (0 : Int32)))
def f_L_isWeighed (imT : Mem) (imdP : Mem) (indP : MemL) (imdS : Mem) (imdB : Mem) (imdO : Mem) (imdR : Mem) (imdA : Mem) (indA : MemL) (imP : Mem) (inP : MemL) (imS : Mem) (imB : Mem) (imO : Mem) (imR : Mem) (imA : Mem) (inA : MemL) (imH : Mem) (ihs : (Nat → PSt)) : Option (Int32) := f_L_isWeighed_L10 imT imdP indP imdS imdB imdO imdR imdA indA imP inP imS imB imO imR imA inA imH ihs fuel (0 : Int64) (0 : Int64) (0 : Int64) (0 : Int32)
/-- L_isBilled -/
def f_L_isBilled_L72  (x1 : Int64) (x3 : Int64) (x5 : Int64) (imT : Mem) (imdP : Mem) (indP : MemL) (imdS : Mem) (imdB : Mem) (imdO : Mem) (imdR : Mem) (imdA : Mem) (indA : MemL) (imP : Mem) (inP : MemL) (imS : Mem) (imB : Mem) (imO : Mem) (imR : Mem) (imA : Mem) (inA : MemL) (imH : Mem) (ihs : (Nat → PSt)) : Nat → Int64 → Int64 → Int32 → Option (Int32)
  | 0, _, _, _ => none
  | n + 1, x7, x9, x11 => bd1 (f_L_total_N (14 : Int32) imT imdP indP imdS imdB imdO imdR imdA indA imP inP imS imB imO imR imA inA imH ihs) fun r_1 => (if (r_1.toInt32) ≤ x11 then bd1 (f_L_total_N (11 : Int32) imT imdP indP imdS imdB imdO imdR imdA indA imP inP imS imB imO imR imA inA imH ihs) fun r_4 => bd1 (f_L_total_N (12 : Int32) imT imdP indP imdS imdB imdO imdR imdA indA imP inP imS imB imO imR imA inA imH ihs) fun r_6 => (if (lg_cmp x1 (r_4 - r_6)) = 0 then bd1 (f_L_total_N (2 : Int32) imT imdP indP imdS imdB imdO imdR imdA indA imP inP imS imB imO imR imA inA imH ihs) fun r_9 => (if (lg_cmp x3 r_9) = 0 then bd1 (f_L_total_N (10 : Int32) imT imdP indP imdS imdB imdO imdR imdA indA imP inP imS imB imO imR imA inA imH ihs) fun r_12 => (if (lg_cmp x5 r_12) = 0 then (if (lg_cmp x7 x3) = 0 then bd1 (f_L_total_N (11 : Int32) imT imdP indP imdS imdB imdO imdR imdA indA imP inP imS imB imO imR imA inA imH ihs) fun r_16 => (if (lg_cmp x9 r_16) = 0 then some (1 : Int32) else some (0 : Int32)) else some (0 : Int32)) else some (0 : Int32)) else some (0 : Int32)) else some (0 : Int32)) else bd1 (f_L_account_N x11 (2 : Int32) imT imdP indP imdS imdB imdO imdR imdA indA imP inP imS imB imO imR imA inA imH ihs) fun r_19 => lt' (x7 + r_19) fun x7_21 => bd1 (f_L_account_N x11 (3 : Int32) imT imdP indP imdS imdB imdO imdR imdA indA imP inP imS imB imO imR imA inA imH ihs) fun r_22 => lt' (x9 + r_22) fun x9_24 => bd1 (f_L_account_N x11 (0 : Int32) imT imdP indP imdS imdB imdO imdR imdA indA imP inP imS imB imO imR imA inA imH ihs) fun r_25 => bd1 (f_L_account_N x11 (1 : Int32) imT imdP indP imdS imdB imdO imdR imdA indA imP inP imS imB imO imR imA inA imH ihs) fun r_27 => bd1 (f_L_findAccount_N (r_25.toInt32) (r_27.toInt32) imT imdP indP imdS imdB imdO imdR imdA indA imP inP imS imB imO imR imA inA imH ihs) fun r_29 => (if r_29 = x11 then lt' (x11 + (1 : Int32)) fun x11_32 => (f_L_isBilled_L72 x1 x3 x5 imT imdP indP imdS imdB imdO imdR imdA indA imP inP imS imB imO imR imA inA imH ihs n) x7_21 x9_24 x11_32 else some (0 : Int32)))
def f_L_isBilled_L10  (imT : Mem) (imdP : Mem) (indP : MemL) (imdS : Mem) (imdB : Mem) (imdO : Mem) (imdR : Mem) (imdA : Mem) (indA : MemL) (imP : Mem) (inP : MemL) (imS : Mem) (imB : Mem) (imO : Mem) (imR : Mem) (imA : Mem) (inA : MemL) (imH : Mem) (ihs : (Nat → PSt)) : Nat → Int64 → Int64 → Int64 → Int32 → Option (Int32)
  | 0, _, _, _, _ => none
  | n + 1, x1, x3, x5, x7 => bd1 (f_L_total_N (8 : Int32) imT imdP indP imdS imdB imdO imdR imdA indA imP inP imS imB imO imR imA inA imH ihs) fun r_33 => (if (r_33.toInt32) ≤ x7 then f_L_isBilled_L72 x1 x3 x5 imT imdP indP imdS imdB imdO imdR imdA indA imP inP imS imB imO imR imA inA imH ihs fuel (0 : Int64) (0 : Int64) (0 : Int32) else bd1 (f_L_boat_N x7 (1 : Int32) imT imdP indP imdS imdB imdO imdR imdA indA imP inP imS imB imO imR imA inA imH ihs) fun r_36 => lt' (x1 + (r_36.toInt64)) fun x1_38 => bd1 (f_L_boat_N x7 (2 : Int32) imT imdP indP imdS imdB imdO imdR imdA indA imP inP imS imB imO imR imA inA imH ihs) fun r_39 => lt' (x3 + (r_39.toInt64)) fun x3_41 => bd1 (f_L_boat_N x7 (3 : Int32) imT imdP indP imdS imdB imdO imdR imdA indA imP inP imS imB imO imR imA inA imH ihs) fun r_42 => lt' (x5 + (r_42.toInt64)) fun x5_44 => lt' (x7 + (1 : Int32)) fun x7_45 => (f_L_isBilled_L10 imT imdP indP imdS imdB imdO imdR imdA indA imP inP imS imB imO imR imA inA imH ihs n) x1_38 x3_41 x5_44 x7_45)
def f_L_isBilled (imT : Mem) (imdP : Mem) (indP : MemL) (imdS : Mem) (imdB : Mem) (imdO : Mem) (imdR : Mem) (imdA : Mem) (indA : MemL) (imP : Mem) (inP : MemL) (imS : Mem) (imB : Mem) (imO : Mem) (imR : Mem) (imA : Mem) (inA : MemL) (imH : Mem) (ihs : (Nat → PSt)) : Option (Int32) := f_L_isBilled_L10 imT imdP indP imdS imdB imdO imdR imdA indA imP inP imS imB imO imR imA inA imH ihs fuel (0 : Int64) (0 : Int64) (0 : Int64) (0 : Int32)
abbrev rm_L_ask : Room := { frames := 10, cells := 3, slots := 18, locals := 217 }
set_option maxHeartbeats 40000000 in
set_option maxRecDepth 100000 in
theorem c_L_ask (l : Launch) (hst : l.stackTraces = false) (D : va_G) (cy : Nat → Nat) (aI aT adP adS adB adO adR adA aP aS aB aO aR aA aH : Nat → Nat) (ah : Nat → Nat → Nat → Nat) (x1 : Int32) (x2 : Int32) (imT : Mem) (imdP : Mem) (indP : MemL) (imdS : Mem) (imdB : Mem) (imdO : Mem) (imdR : Mem) (imdA : Mem) (indA : MemL) (imP : Mem) (inP : MemL) (imS : Mem) (imB : Mem) (imO : Mem) (imR : Mem) (imA : Mem) (inA : MemL) (imH : Mem) (ihs : (Nat → PSt)) (r' : Int32) (mT' : Mem) (mdP' : Mem) (ndP' : MemL) (mdS' : Mem) (mdB' : Mem) (mdO' : Mem) (mdR' : Mem) (mdA' : Mem) (ndA' : MemL) (hE : f_L_ask x1 x2 imT imdP indP imdS imdB imdO imdR imdA indA imP inP imS imB imO imR imA inA imH ihs = some (r', mT', mdP', ndP', mdS', mdB', mdO', mdR', mdA', ndA')) : CH l yL_ask wsL_ask rm_L_ask D cy [.ref (aI 0), .int x1, .int x2] (W_All cy aI aT adP adS adB adO adR adA aP aS aB aO aR aA aH ah imT imdP indP imdS imdB imdO imdR imdA indA imP inP imS imB imO imR imA inA imH ihs) 3 18 (QI D cy r' (W_All cy aI aT adP adS adB adO adR adA aP aS aB aO aR aA aH ah mT' mdP' ndP' mdS' mdB' mdO' mdR' mdA' ndA' imP inP imS imB imO imR imA inA imH ihs)) := by
  refine CHp_of (cc := cL_ask) (maxL := 4) (ret := (some .int)) (by decide) rfl (Nat.le_of_ble_eq_true rfl) (fun p e s m args below meth c A ls hx hb hr hml hlocks hown hts hA hK hN hX hP hD hS hl => ?_)
  have hown : s.vm.findClass RL = some m.cls := hown
  have hl : lv_has ls 4 [(0, .ref (aI 0)), (1, .int x1), (2, .int x2)] := hl
  have hC : CallFix p m c cL_ask 4 s args wsL_ask RL := ⟨hx, hb, hml, hown, hts⟩
  have k155 : (Cond.constantDouble RL 155 (4620693217682128896)).before args s = true := hts _ (mC qk_L_155)
  unfold f_L_ask at hE
  refine lv_iload_n hx hb dL_ask_0 rfl (lv_at hl 2 rfl) ?_
  refine lv_bipush (v := 6) hx hb dL_ask_1 (by decide) ?_
  obtain ⟨r_1, hc_2, hE⟩ := bd1_el hE
  refine ki (X := []) (Y := (W_All cy aI aT adP adS adB adO adR adA aP aS aB aO aR aA aH ah imT imdP indP imdS imdB imdO imdR imdA indA imP inP imS imB imO imR imA inA imH ihs)) (ws1 := (W_All cy aI aT adP adS adB adO adR adA aP aS aB aO aR aA aH ah imT imdP indP imdS imdB imdO imdR imdA indA imP inP imS imB imO imR imA inA imH ihs)) (rS (X := []) (Y := (W_All cy aI aT adP adS adB adO adR adA aP aS aB aO aR aA aH ah imT imdP indP imdS imdB imdO imdR imdA indA imP inP imS imB imO imR imA inA imH ihs)) (As := [.int x2, .int (6 : Int32)]) (rest := []) hC (c_L_low l D cy x2 (6 : Int32) r_1 hc_2) (cwS 2 hts gL_ask_L_low rfl rfl rfl (by decide +kernel) ⟨Nat.le_of_ble_eq_true rfl, Nat.le_of_ble_eq_true rfl⟩) hK hN hP hD hS hA rfl rfl hl.1 rfl (lv_room (Nat.le_of_ble_eq_true rfl)) dL_ask_3 ⟨Nat.le_of_ble_eq_true rfl, Nat.le_of_ble_eq_true rfl⟩) hP hD hS hA rfl rfl rfl (fun H locs hP hD hS => ?_)
  refine lv_istore_n (lv' := [(3, .int r_1), (0, .ref (aI 0)), (1, .int x1), (2, .int x2)]) hx hb dL_ask_6 rfl hl (by decide) rfl (fun ls hl => ?_)
  refine lv_iload_n hx hb dL_ask_7 rfl (lv_at hl 2 rfl) ?_
  refine lv_bipush (v := 8) hx hb dL_ask_8 (by decide) ?_
  obtain ⟨r_3, hc_4, hE⟩ := bd1_el hE
  refine ki (X := []) (Y := (W_All cy aI aT adP adS adB adO adR adA aP aS aB aO aR aA aH ah imT imdP indP imdS imdB imdO imdR imdA indA imP inP imS imB imO imR imA inA imH ihs)) (ws1 := (W_All cy aI aT adP adS adB adO adR adA aP aS aB aO aR aA aH ah imT imdP indP imdS imdB imdO imdR imdA indA imP inP imS imB imO imR imA inA imH ihs)) (rS (X := []) (Y := (W_All cy aI aT adP adS adB adO adR adA aP aS aB aO aR aA aH ah imT imdP indP imdS imdB imdO imdR imdA indA imP inP imS imB imO imR imA inA imH ihs)) (As := [.int x1, .int (8 : Int32)]) (rest := []) hC (c_L_low l D cy x1 (8 : Int32) r_3 hc_4) (cwS 2 hts gL_ask_L_low rfl rfl rfl (by decide +kernel) ⟨Nat.le_of_ble_eq_true rfl, Nat.le_of_ble_eq_true rfl⟩) hK hN hP hD hS hA rfl rfl hl.1 rfl (lv_room (Nat.le_of_ble_eq_true rfl)) dL_ask_10 ⟨Nat.le_of_ble_eq_true rfl, Nat.le_of_ble_eq_true rfl⟩) hP hD hS hA rfl rfl rfl (fun H locs hP hD hS => ?_)
  by_cases c_11_0 : r_3 = 0
  · replace hE := it_t hE c_11_0
    refine lv_tableIn (tgt := 56) hx hb dL_ask_13 (by rw [c_11_0]; decide) (by rw [c_11_0]; decide) (off := 43) (by rw [c_11_0]; decide) (by decide) ?_
    refine lv_aload_n hx hb dL_ask_56 rfl (lv_at hl 1 rfl) ?_
    refine lv_iload_n hx hb dL_ask_57 rfl (lv_at hl 3 rfl) ?_
    refine lv_bipush (v := 50) hx hb dL_ask_58 (by decide) ?_
    obtain ⟨r_57, hc_58, hE⟩ := bd1_el hE
    refine ki (X := []) (Y := (W_All cy aI aT adP adS adB adO adR adA aP aS aB aO aR aA aH ah imT imdP indP imdS imdB imdO imdR imdA indA imP inP imS imB imO imR imA inA imH ihs)) (ws1 := (W_All cy aI aT adP adS adB adO adR adA aP aS aB aO aR aA aH ah imT imdP indP imdS imdB imdO imdR imdA indA imP inP imS imB imO imR imA inA imH ihs)) (rS (X := []) (Y := (W_All cy aI aT adP adS adB adO adR adA aP aS aB aO aR aA aH ah imT imdP indP imdS imdB imdO imdR imdA indA imP inP imS imB imO imR imA inA imH ihs)) (As := [.int x2, .int (50 : Int32)]) (rest := [.ref (aI 0)]) hC (c_L_low l D cy x2 (50 : Int32) r_57 hc_58) (cwS 2 hts gL_ask_L_low rfl rfl rfl (by decide +kernel) ⟨Nat.le_of_ble_eq_true rfl, Nat.le_of_ble_eq_true rfl⟩) hK hN hP hD hS hA rfl rfl hl.1 rfl (lv_room (Nat.le_of_ble_eq_true rfl)) dL_ask_60 ⟨Nat.le_of_ble_eq_true rfl, Nat.le_of_ble_eq_true rfl⟩) hP hD hS hA rfl rfl rfl (fun H locs hP hD hS => ?_)
    obtain ⟨r_59, mdP_60, ndP_61, mdS_62, mdB_63, mdO_64, mdR_65, mdA_66, ndA_67, hc_68, hE⟩ := bd9_el hE
    refine ki (X := []) (Y := []) (ws1 := (W_All cy aI aT adP adS adB adO adR adA aP aS aB aO aR aA aH ah imT mdP_60 ndP_61 mdS_62 mdB_63 mdO_64 mdR_65 mdA_66 ndA_67 imP inP imS imB imO imR imA inA imH ihs)) (rH (X := []) (Y := []) (As := [.ref (aI 0), .int r_57]) (rest := []) hC (c_L_massAfter l hst D cy aI aT adP adS adB adO adR adA aP aS aB aO aR aA aH ah r_57 imT imdP indP imdS imdB imdO imdR imdA indA imP inP imS imB imO imR imA inA imH ihs r_59 mdP_60 ndP_61 mdS_62 mdB_63 mdO_64 mdR_65 mdA_66 ndA_67 hc_68) (vx_cwSW (hh := [(0, 5, 6, 15)]) 2 hts gL_ask_L_massAfter rfl rfl rfl (by decide +kernel) ⟨Nat.le_of_ble_eq_true rfl, Nat.le_of_ble_eq_true rfl⟩) hK hN hX hP hD hS hA rfl rfl hl.1 rfl (lv_room (Nat.le_of_ble_eq_true rfl)) dL_ask_63 ⟨Nat.le_of_ble_eq_true rfl, Nat.le_of_ble_eq_true rfl⟩) hP hD hS hA rfl rfl rfl (fun H locs hP hD hS => ?_)
    have hE := Option.some.inj hE
    obtain ⟨q0, hE⟩ := Prod.mk.inj hE
    obtain ⟨q1, hE⟩ := Prod.mk.inj hE
    obtain ⟨q2, hE⟩ := Prod.mk.inj hE
    obtain ⟨q3, hE⟩ := Prod.mk.inj hE
    obtain ⟨q4, hE⟩ := Prod.mk.inj hE
    obtain ⟨q5, hE⟩ := Prod.mk.inj hE
    obtain ⟨q6, hE⟩ := Prod.mk.inj hE
    obtain ⟨q7, hE⟩ := Prod.mk.inj hE
    obtain ⟨q8, q9⟩ := Prod.mk.inj hE
    refine W.widen (k := 3) (n := 18) (Nat.le_of_ble_eq_true rfl) (Nat.le_of_ble_eq_true rfl) ?_
    exact ei hx hb hr hlocks hK hP hD hS q0 (by rw [q1, q2, q3, q4, q5, q6, q7, q8, q9]) dL_ask_66
  · replace hE := it_f hE c_11_0
    by_cases c_11_1 : r_3 = 1
    · replace hE := it_t hE c_11_1
      refine lv_tableIn (tgt := 67) hx hb dL_ask_13 (by rw [c_11_1]; decide) (by rw [c_11_1]; decide) (off := 54) (by rw [c_11_1]; decide) (by decide) ?_
      refine lv_aload_n hx hb dL_ask_67 rfl (lv_at hl 1 rfl) ?_
      refine lv_iload_n hx hb dL_ask_68 rfl (lv_at hl 3 rfl) ?_
      refine lv_bipush (v := 9) hx hb dL_ask_69 (by decide) ?_
      obtain ⟨r_45, hc_46, hE⟩ := bd1_el hE
      refine ki (X := []) (Y := (W_All cy aI aT adP adS adB adO adR adA aP aS aB aO aR aA aH ah imT imdP indP imdS imdB imdO imdR imdA indA imP inP imS imB imO imR imA inA imH ihs)) (ws1 := (W_All cy aI aT adP adS adB adO adR adA aP aS aB aO aR aA aH ah imT imdP indP imdS imdB imdO imdR imdA indA imP inP imS imB imO imR imA inA imH ihs)) (rS (X := []) (Y := (W_All cy aI aT adP adS adB adO adR adA aP aS aB aO aR aA aH ah imT imdP indP imdS imdB imdO imdR imdA indA imP inP imS imB imO imR imA inA imH ihs)) (As := [.int x2, .int (9 : Int32)]) (rest := [.ref (aI 0)]) hC (c_L_low l D cy x2 (9 : Int32) r_45 hc_46) (cwS 2 hts gL_ask_L_low rfl rfl rfl (by decide +kernel) ⟨Nat.le_of_ble_eq_true rfl, Nat.le_of_ble_eq_true rfl⟩) hK hN hP hD hS hA rfl rfl hl.1 rfl (lv_room (Nat.le_of_ble_eq_true rfl)) dL_ask_71 ⟨Nat.le_of_ble_eq_true rfl, Nat.le_of_ble_eq_true rfl⟩) hP hD hS hA rfl rfl rfl (fun H locs hP hD hS => ?_)
      obtain ⟨r_47, mdP_48, ndP_49, mdS_50, mdB_51, mdO_52, mdR_53, mdA_54, ndA_55, hc_56, hE⟩ := bd9_el hE
      refine ki (X := []) (Y := []) (ws1 := (W_All cy aI aT adP adS adB adO adR adA aP aS aB aO aR aA aH ah imT mdP_48 ndP_49 mdS_50 mdB_51 mdO_52 mdR_53 mdA_54 ndA_55 imP inP imS imB imO imR imA inA imH ihs)) (rH (X := []) (Y := []) (As := [.ref (aI 0), .int r_45]) (rest := []) hC (c_L_completeIn l hst D cy aI aT adP adS adB adO adR adA aP aS aB aO aR aA aH ah r_45 imT imdP indP imdS imdB imdO imdR imdA indA imP inP imS imB imO imR imA inA imH ihs r_47 mdP_48 ndP_49 mdS_50 mdB_51 mdO_52 mdR_53 mdA_54 ndA_55 hc_56) (vx_cwSW (hh := [(0, 5, 6, 25), (0, 5, 10, 18)]) 2 hts gL_ask_L_completeIn rfl rfl rfl (by decide +kernel) ⟨Nat.le_of_ble_eq_true rfl, Nat.le_of_ble_eq_true rfl⟩) hK hN hX hP hD hS hA rfl rfl hl.1 rfl (lv_room (Nat.le_of_ble_eq_true rfl)) dL_ask_74 ⟨Nat.le_of_ble_eq_true rfl, Nat.le_of_ble_eq_true rfl⟩) hP hD hS hA rfl rfl rfl (fun H locs hP hD hS => ?_)
      have hE := Option.some.inj hE
      obtain ⟨q0, hE⟩ := Prod.mk.inj hE
      obtain ⟨q1, hE⟩ := Prod.mk.inj hE
      obtain ⟨q2, hE⟩ := Prod.mk.inj hE
      obtain ⟨q3, hE⟩ := Prod.mk.inj hE
      obtain ⟨q4, hE⟩ := Prod.mk.inj hE
      obtain ⟨q5, hE⟩ := Prod.mk.inj hE
      obtain ⟨q6, hE⟩ := Prod.mk.inj hE
      obtain ⟨q7, hE⟩ := Prod.mk.inj hE
      obtain ⟨q8, q9⟩ := Prod.mk.inj hE
      refine W.widen (k := 3) (n := 18) (Nat.le_of_ble_eq_true rfl) (Nat.le_of_ble_eq_true rfl) ?_
      exact ei hx hb hr hlocks hK hP hD hS q0 (by rw [q1, q2, q3, q4, q5, q6, q7, q8, q9]) dL_ask_77
    · replace hE := it_f hE c_11_1
      by_cases c_11_2 : r_3 = 2
      · replace hE := it_t hE c_11_2
        refine lv_tableIn (tgt := 78) hx hb dL_ask_13 (by rw [c_11_2]; decide) (by rw [c_11_2]; decide) (off := 65) (by rw [c_11_2]; decide) (by decide) ?_
        refine lv_aload_n hx hb dL_ask_78 rfl (lv_at hl 1 rfl) ?_
        refine lv_iload_n hx hb dL_ask_79 rfl (lv_at hl 0 rfl) ?_
        refine lv_iconst (v := 1) hx hb dL_ask_80 (by decide) ?_
        refine lv_iload_n hx hb dL_ask_81 rfl (lv_at hl 3 rfl) ?_
        refine lv_bipush (v := 6) hx hb dL_ask_82 (by decide) ?_
        refine lv_idiv hx hb dL_ask_84 (by decide) ?_
        refine lv_bipush (v := 25) hx hb dL_ask_85 (by decide) ?_
        obtain ⟨r_33, hc_34, hE⟩ := bd1_el hE
        refine ki (X := []) (Y := (W_All cy aI aT adP adS adB adO adR adA aP aS aB aO aR aA aH ah imT imdP indP imdS imdB imdO imdR imdA indA imP inP imS imB imO imR imA inA imH ihs)) (ws1 := (W_All cy aI aT adP adS adB adO adR adA aP aS aB aO aR aA aH ah imT imdP indP imdS imdB imdO imdR imdA indA imP inP imS imB imO imR imA inA imH ihs)) (rS (X := []) (Y := (W_All cy aI aT adP adS adB adO adR adA aP aS aB aO aR aA aH ah imT imdP indP imdS imdB imdO imdR imdA indA imP inP imS imB imO imR imA inA imH ihs)) (As := [.int (x2 / (6 : Int32)), .int (25 : Int32)]) (rest := [.int (1 : Int32), .int r_1, .ref (aI 0)]) hC (c_L_low l D cy (x2 / (6 : Int32)) (25 : Int32) r_33 hc_34) (cwS 2 hts gL_ask_L_low rfl rfl rfl (by decide +kernel) ⟨Nat.le_of_ble_eq_true rfl, Nat.le_of_ble_eq_true rfl⟩) hK hN hP hD hS hA rfl rfl hl.1 rfl (lv_room (Nat.le_of_ble_eq_true rfl)) dL_ask_87 ⟨Nat.le_of_ble_eq_true rfl, Nat.le_of_ble_eq_true rfl⟩) hP hD hS hA rfl rfl rfl (fun H locs hP hD hS => ?_)
        refine lv_iadd hx hb dL_ask_90 ?_
        obtain ⟨r_35, mdP_36, ndP_37, mdS_38, mdB_39, mdO_40, mdR_41, mdA_42, ndA_43, hc_44, hE⟩ := bd9_el hE
        refine ki (X := []) (Y := []) (ws1 := (W_All cy aI aT adP adS adB adO adR adA aP aS aB aO aR aA aH ah imT mdP_36 ndP_37 mdS_38 mdB_39 mdO_40 mdR_41 mdA_42 ndA_43 imP inP imS imB imO imR imA inA imH ihs)) (rH (X := []) (Y := []) (As := [.ref (aI 0), .int r_1, .int ((1 : Int32) + r_33)]) (rest := []) hC (c_L_bestRule l hst D cy aI aT adP adS adB adO adR adA aP aS aB aO aR aA aH ah r_1 ((1 : Int32) + r_33) imT imdP indP imdS imdB imdO imdR imdA indA imP inP imS imB imO imR imA inA imH ihs r_35 mdP_36 ndP_37 mdS_38 mdB_39 mdO_40 mdR_41 mdA_42 ndA_43 hc_44) (vx_cwSW (hh := [(0, 6, 7, 25), (0, 6, 11, 15)]) 3 hts gL_ask_L_bestRule rfl rfl rfl (by decide +kernel) ⟨Nat.le_of_ble_eq_true rfl, Nat.le_of_ble_eq_true rfl⟩) hK hN hX hP hD hS hA rfl rfl hl.1 rfl (lv_room (Nat.le_of_ble_eq_true rfl)) dL_ask_91 ⟨Nat.le_of_ble_eq_true rfl, Nat.le_of_ble_eq_true rfl⟩) hP hD hS hA rfl rfl rfl (fun H locs hP hD hS => ?_)
        have hE := Option.some.inj hE
        obtain ⟨q0, hE⟩ := Prod.mk.inj hE
        obtain ⟨q1, hE⟩ := Prod.mk.inj hE
        obtain ⟨q2, hE⟩ := Prod.mk.inj hE
        obtain ⟨q3, hE⟩ := Prod.mk.inj hE
        obtain ⟨q4, hE⟩ := Prod.mk.inj hE
        obtain ⟨q5, hE⟩ := Prod.mk.inj hE
        obtain ⟨q6, hE⟩ := Prod.mk.inj hE
        obtain ⟨q7, hE⟩ := Prod.mk.inj hE
        obtain ⟨q8, q9⟩ := Prod.mk.inj hE
        refine W.widen (k := 3) (n := 18) (Nat.le_of_ble_eq_true rfl) (Nat.le_of_ble_eq_true rfl) ?_
        exact ei hx hb hr hlocks hK hP hD hS q0 (by rw [q1, q2, q3, q4, q5, q6, q7, q8, q9]) dL_ask_94
      · replace hE := it_f hE c_11_2
        by_cases c_11_3 : r_3 = 3
        · replace hE := it_t hE c_11_3
          refine lv_tableIn (tgt := 95) hx hb dL_ask_13 (by rw [c_11_3]; decide) (by rw [c_11_3]; decide) (off := 82) (by rw [c_11_3]; decide) (by decide) ?_
          refine lv_aload_n hx hb dL_ask_95 rfl (lv_at hl 1 rfl) ?_
          refine lv_iload_n hx hb dL_ask_96 rfl (lv_at hl 0 rfl) ?_
          refine lv_iload_n hx hb dL_ask_97 rfl (lv_at hl 3 rfl) ?_
          refine lv_bipush (v := 6) hx hb dL_ask_98 (by decide) ?_
          refine lv_idiv hx hb dL_ask_100 (by decide) ?_
          refine lv_sipush (v := 10001) hx hb dL_ask_101 (by decide) ?_
          obtain ⟨r_27, hc_28, hE⟩ := bd1_el hE
          refine ki (X := []) (Y := (W_All cy aI aT adP adS adB adO adR adA aP aS aB aO aR aA aH ah imT imdP indP imdS imdB imdO imdR imdA indA imP inP imS imB imO imR imA inA imH ihs)) (ws1 := (W_All cy aI aT adP adS adB adO adR adA aP aS aB aO aR aA aH ah imT imdP indP imdS imdB imdO imdR imdA indA imP inP imS imB imO imR imA inA imH ihs)) (rS (X := []) (Y := (W_All cy aI aT adP adS adB adO adR adA aP aS aB aO aR aA aH ah imT imdP indP imdS imdB imdO imdR imdA indA imP inP imS imB imO imR imA inA imH ihs)) (As := [.int (x2 / (6 : Int32)), .int (10001 : Int32)]) (rest := [.int r_1, .ref (aI 0)]) hC (c_L_low l D cy (x2 / (6 : Int32)) (10001 : Int32) r_27 hc_28) (cwS 2 hts gL_ask_L_low rfl rfl rfl (by decide +kernel) ⟨Nat.le_of_ble_eq_true rfl, Nat.le_of_ble_eq_true rfl⟩) hK hN hP hD hS hA rfl rfl hl.1 rfl (lv_room (Nat.le_of_ble_eq_true rfl)) dL_ask_104 ⟨Nat.le_of_ble_eq_true rfl, Nat.le_of_ble_eq_true rfl⟩) hP hD hS hA rfl rfl rfl (fun H locs hP hD hS => ?_)
          refine lv_iload_n hx hb dL_ask_107 rfl (lv_at hl 3 rfl) ?_
          refine lv_bipush (v := 7) hx hb dL_ask_108 (by decide) ?_
          refine lv_idiv hx hb dL_ask_110 (by decide) ?_
          refine lv_iconst (v := 3) hx hb dL_ask_111 (by decide) ?_
          obtain ⟨r_29, hc_30, hE⟩ := bd1_el hE
          refine ki (X := []) (Y := (W_All cy aI aT adP adS adB adO adR adA aP aS aB aO aR aA aH ah imT imdP indP imdS imdB imdO imdR imdA indA imP inP imS imB imO imR imA inA imH ihs)) (ws1 := (W_All cy aI aT adP adS adB adO adR adA aP aS aB aO aR aA aH ah imT imdP indP imdS imdB imdO imdR imdA indA imP inP imS imB imO imR imA inA imH ihs)) (rS (X := []) (Y := (W_All cy aI aT adP adS adB adO adR adA aP aS aB aO aR aA aH ah imT imdP indP imdS imdB imdO imdR imdA indA imP inP imS imB imO imR imA inA imH ihs)) (As := [.int (x2 / (7 : Int32)), .int (3 : Int32)]) (rest := [.int r_27, .int r_1, .ref (aI 0)]) hC (c_L_low l D cy (x2 / (7 : Int32)) (3 : Int32) r_29 hc_30) (cwS 2 hts gL_ask_L_low rfl rfl rfl (by decide +kernel) ⟨Nat.le_of_ble_eq_true rfl, Nat.le_of_ble_eq_true rfl⟩) hK hN hP hD hS hA rfl rfl hl.1 rfl (lv_room (Nat.le_of_ble_eq_true rfl)) dL_ask_112 ⟨Nat.le_of_ble_eq_true rfl, Nat.le_of_ble_eq_true rfl⟩) hP hD hS hA rfl rfl rfl (fun H locs hP hD hS => ?_)
          obtain ⟨r_31, hc_32, hE⟩ := bd1_el hE
          refine ki (X := []) (Y := []) (ws1 := (W_All cy aI aT adP adS adB adO adR adA aP aS aB aO aR aA aH ah imT imdP indP imdS imdB imdO imdR imdA indA imP inP imS imB imO imR imA inA imH ihs)) (rH (X := []) (Y := []) (As := [.ref (aI 0), .int r_1, .int r_27, .int r_29]) (rest := []) hC (c_L_quote l hst D cy aI aT adP adS adB adO adR adA aP aS aB aO aR aA aH ah r_1 r_27 r_29 imT imdP indP imdS imdB imdO imdR imdA indA imP inP imS imB imO imR imA inA imH ihs r_31 hc_32) (vx_cwSW (hh := [(0, 7, 8, 25), (0, 7, 13, 15)]) 4 hts gL_ask_L_quote rfl rfl rfl (by decide +kernel) ⟨Nat.le_of_ble_eq_true rfl, Nat.le_of_ble_eq_true rfl⟩) hK hN hX hP hD hS hA rfl rfl hl.1 rfl (lv_room (Nat.le_of_ble_eq_true rfl)) dL_ask_115 ⟨Nat.le_of_ble_eq_true rfl, Nat.le_of_ble_eq_true rfl⟩) hP hD hS hA rfl rfl rfl (fun H locs hP hD hS => ?_)
          have hE := Option.some.inj hE
          obtain ⟨q0, hE⟩ := Prod.mk.inj hE
          obtain ⟨q1, hE⟩ := Prod.mk.inj hE
          obtain ⟨q2, hE⟩ := Prod.mk.inj hE
          obtain ⟨q3, hE⟩ := Prod.mk.inj hE
          obtain ⟨q4, hE⟩ := Prod.mk.inj hE
          obtain ⟨q5, hE⟩ := Prod.mk.inj hE
          obtain ⟨q6, hE⟩ := Prod.mk.inj hE
          obtain ⟨q7, hE⟩ := Prod.mk.inj hE
          obtain ⟨q8, q9⟩ := Prod.mk.inj hE
          refine W.widen (k := 3) (n := 18) (Nat.le_of_ble_eq_true rfl) (Nat.le_of_ble_eq_true rfl) ?_
          exact ei hx hb hr hlocks hK hP hD hS q0 (by rw [q1, q2, q3, q4, q5, q6, q7, q8, q9]) dL_ask_118
        · replace hE := it_f hE c_11_3
          by_cases c_11_4 : r_3 = 4
          · replace hE := it_t hE c_11_4
            refine lv_tableIn (tgt := 119) hx hb dL_ask_13 (by rw [c_11_4]; decide) (by rw [c_11_4]; decide) (off := 106) (by rw [c_11_4]; decide) (by decide) ?_
            refine lv_aload_n hx hb dL_ask_119 rfl (lv_at hl 1 rfl) ?_
            refine lv_iload_n hx hb dL_ask_120 rfl (lv_at hl 3 rfl) ?_
            refine lv_bipush (v := 9) hx hb dL_ask_121 (by decide) ?_
            obtain ⟨r_21, hc_22, hE⟩ := bd1_el hE
            refine ki (X := []) (Y := (W_All cy aI aT adP adS adB adO adR adA aP aS aB aO aR aA aH ah imT imdP indP imdS imdB imdO imdR imdA indA imP inP imS imB imO imR imA inA imH ihs)) (ws1 := (W_All cy aI aT adP adS adB adO adR adA aP aS aB aO aR aA aH ah imT imdP indP imdS imdB imdO imdR imdA indA imP inP imS imB imO imR imA inA imH ihs)) (rS (X := []) (Y := (W_All cy aI aT adP adS adB adO adR adA aP aS aB aO aR aA aH ah imT imdP indP imdS imdB imdO imdR imdA indA imP inP imS imB imO imR imA inA imH ihs)) (As := [.int x2, .int (9 : Int32)]) (rest := [.ref (aI 0)]) hC (c_L_low l D cy x2 (9 : Int32) r_21 hc_22) (cwS 2 hts gL_ask_L_low rfl rfl rfl (by decide +kernel) ⟨Nat.le_of_ble_eq_true rfl, Nat.le_of_ble_eq_true rfl⟩) hK hN hP hD hS hA rfl rfl hl.1 rfl (lv_room (Nat.le_of_ble_eq_true rfl)) dL_ask_123 ⟨Nat.le_of_ble_eq_true rfl, Nat.le_of_ble_eq_true rfl⟩) hP hD hS hA rfl rfl rfl (fun H locs hP hD hS => ?_)
            refine lv_iload_n hx hb dL_ask_126 rfl (lv_at hl 3 rfl) ?_
            refine lv_bipush (v := 9) hx hb dL_ask_127 (by decide) ?_
            refine lv_idiv hx hb dL_ask_129 (by decide) ?_
            refine lv_bipush (v := 8) hx hb dL_ask_130 (by decide) ?_
            obtain ⟨r_23, hc_24, hE⟩ := bd1_el hE
            refine ki (X := []) (Y := (W_All cy aI aT adP adS adB adO adR adA aP aS aB aO aR aA aH ah imT imdP indP imdS imdB imdO imdR imdA indA imP inP imS imB imO imR imA inA imH ihs)) (ws1 := (W_All cy aI aT adP adS adB adO adR adA aP aS aB aO aR aA aH ah imT imdP indP imdS imdB imdO imdR imdA indA imP inP imS imB imO imR imA inA imH ihs)) (rS (X := []) (Y := (W_All cy aI aT adP adS adB adO adR adA aP aS aB aO aR aA aH ah imT imdP indP imdS imdB imdO imdR imdA indA imP inP imS imB imO imR imA inA imH ihs)) (As := [.int (x2 / (9 : Int32)), .int (8 : Int32)]) (rest := [.int r_21, .ref (aI 0)]) hC (c_L_low l D cy (x2 / (9 : Int32)) (8 : Int32) r_23 hc_24) (cwS 2 hts gL_ask_L_low rfl rfl rfl (by decide +kernel) ⟨Nat.le_of_ble_eq_true rfl, Nat.le_of_ble_eq_true rfl⟩) hK hN hP hD hS hA rfl rfl hl.1 rfl (lv_room (Nat.le_of_ble_eq_true rfl)) dL_ask_132 ⟨Nat.le_of_ble_eq_true rfl, Nat.le_of_ble_eq_true rfl⟩) hP hD hS hA rfl rfl rfl (fun H locs hP hD hS => ?_)
            obtain ⟨r_25, hc_26, hE⟩ := bd1_el hE
            refine ki (X := []) (Y := []) (ws1 := (W_All cy aI aT adP adS adB adO adR adA aP aS aB aO aR aA aH ah imT imdP indP imdS imdB imdO imdR imdA indA imP inP imS imB imO imR imA inA imH ihs)) (rH (X := []) (Y := []) (As := [.ref (aI 0), .int r_21, .int r_23]) (rest := []) hC (c_L_orderProperty l hst D cy aI aT adP adS adB adO adR adA aP aS aB aO aR aA aH ah r_21 r_23 imT imdP indP imdS imdB imdO imdR imdA indA imP inP imS imB imO imR imA inA imH ihs r_25 hc_26) (vx_cwSW (hh := [(0, 6, 7, 25), (0, 6, 11, 15)]) 3 hts gL_ask_L_orderProperty rfl rfl rfl (by decide +kernel) ⟨Nat.le_of_ble_eq_true rfl, Nat.le_of_ble_eq_true rfl⟩) hK hN hX hP hD hS hA rfl rfl hl.1 rfl (lv_room (Nat.le_of_ble_eq_true rfl)) dL_ask_135 ⟨Nat.le_of_ble_eq_true rfl, Nat.le_of_ble_eq_true rfl⟩) hP hD hS hA rfl rfl rfl (fun H locs hP hD hS => ?_)
            have hE := Option.some.inj hE
            obtain ⟨q0, hE⟩ := Prod.mk.inj hE
            obtain ⟨q1, hE⟩ := Prod.mk.inj hE
            obtain ⟨q2, hE⟩ := Prod.mk.inj hE
            obtain ⟨q3, hE⟩ := Prod.mk.inj hE
            obtain ⟨q4, hE⟩ := Prod.mk.inj hE
            obtain ⟨q5, hE⟩ := Prod.mk.inj hE
            obtain ⟨q6, hE⟩ := Prod.mk.inj hE
            obtain ⟨q7, hE⟩ := Prod.mk.inj hE
            obtain ⟨q8, q9⟩ := Prod.mk.inj hE
            refine W.widen (k := 3) (n := 18) (Nat.le_of_ble_eq_true rfl) (Nat.le_of_ble_eq_true rfl) ?_
            exact ei hx hb hr hlocks hK hP hD hS q0 (by rw [q1, q2, q3, q4, q5, q6, q7, q8, q9]) dL_ask_138
          · replace hE := it_f hE c_11_4
            by_cases c_11_5 : r_3 = 5
            · replace hE := it_t hE c_11_5
              refine lv_tableIn (tgt := 139) hx hb dL_ask_13 (by rw [c_11_5]; decide) (by rw [c_11_5]; decide) (off := 126) (by rw [c_11_5]; decide) (by decide) ?_
              refine lv_aload_n hx hb dL_ask_139 rfl (lv_at hl 1 rfl) ?_
              refine lv_iload_n hx hb dL_ask_140 rfl (lv_at hl 3 rfl) ?_
              refine lv_bipush (v := 17) hx hb dL_ask_141 (by decide) ?_
              obtain ⟨r_15, hc_16, hE⟩ := bd1_el hE
              refine ki (X := []) (Y := (W_All cy aI aT adP adS adB adO adR adA aP aS aB aO aR aA aH ah imT imdP indP imdS imdB imdO imdR imdA indA imP inP imS imB imO imR imA inA imH ihs)) (ws1 := (W_All cy aI aT adP adS adB adO adR adA aP aS aB aO aR aA aH ah imT imdP indP imdS imdB imdO imdR imdA indA imP inP imS imB imO imR imA inA imH ihs)) (rS (X := []) (Y := (W_All cy aI aT adP adS adB adO adR adA aP aS aB aO aR aA aH ah imT imdP indP imdS imdB imdO imdR imdA indA imP inP imS imB imO imR imA inA imH ihs)) (As := [.int x2, .int (17 : Int32)]) (rest := [.ref (aI 0)]) hC (c_L_low l D cy x2 (17 : Int32) r_15 hc_16) (cwS 2 hts gL_ask_L_low rfl rfl rfl (by decide +kernel) ⟨Nat.le_of_ble_eq_true rfl, Nat.le_of_ble_eq_true rfl⟩) hK hN hP hD hS hA rfl rfl hl.1 rfl (lv_room (Nat.le_of_ble_eq_true rfl)) dL_ask_143 ⟨Nat.le_of_ble_eq_true rfl, Nat.le_of_ble_eq_true rfl⟩) hP hD hS hA rfl rfl rfl (fun H locs hP hD hS => ?_)
              refine lv_iload_n hx hb dL_ask_146 rfl (lv_at hl 3 rfl) ?_
              refine lv_bipush (v := 17) hx hb dL_ask_147 (by decide) ?_
              refine lv_idiv hx hb dL_ask_149 (by decide) ?_
              refine lv_bipush (v := 6) hx hb dL_ask_150 (by decide) ?_
              obtain ⟨r_17, hc_18, hE⟩ := bd1_el hE
              refine ki (X := []) (Y := (W_All cy aI aT adP adS adB adO adR adA aP aS aB aO aR aA aH ah imT imdP indP imdS imdB imdO imdR imdA indA imP inP imS imB imO imR imA inA imH ihs)) (ws1 := (W_All cy aI aT adP adS adB adO adR adA aP aS aB aO aR aA aH ah imT imdP indP imdS imdB imdO imdR imdA indA imP inP imS imB imO imR imA inA imH ihs)) (rS (X := []) (Y := (W_All cy aI aT adP adS adB adO adR adA aP aS aB aO aR aA aH ah imT imdP indP imdS imdB imdO imdR imdA indA imP inP imS imB imO imR imA inA imH ihs)) (As := [.int (x2 / (17 : Int32)), .int (6 : Int32)]) (rest := [.int r_15, .ref (aI 0)]) hC (c_L_low l D cy (x2 / (17 : Int32)) (6 : Int32) r_17 hc_18) (cwS 2 hts gL_ask_L_low rfl rfl rfl (by decide +kernel) ⟨Nat.le_of_ble_eq_true rfl, Nat.le_of_ble_eq_true rfl⟩) hK hN hP hD hS hA rfl rfl hl.1 rfl (lv_room (Nat.le_of_ble_eq_true rfl)) dL_ask_152 ⟨Nat.le_of_ble_eq_true rfl, Nat.le_of_ble_eq_true rfl⟩) hP hD hS hA rfl rfl rfl (fun H locs hP hD hS => ?_)
              obtain ⟨r_19, hc_20, hE⟩ := bd1_el hE
              refine ki (X := []) (Y := []) (ws1 := (W_All cy aI aT adP adS adB adO adR adA aP aS aB aO aR aA aH ah imT imdP indP imdS imdB imdO imdR imdA indA imP inP imS imB imO imR imA inA imH ihs)) (rH (X := []) (Y := []) (As := [.ref (aI 0), .int r_15, .int r_17]) (rest := []) hC (c_L_receipt l hst D cy aI aT adP adS adB adO adR adA aP aS aB aO aR aA aH ah r_15 r_17 imT imdP indP imdS imdB imdO imdR imdA indA imP inP imS imB imO imR imA inA imH ihs r_19 hc_20) (vx_cwSW (hh := [(0, 6, 7, 25), (0, 6, 11, 15)]) 3 hts gL_ask_L_receipt rfl rfl rfl (by decide +kernel) ⟨Nat.le_of_ble_eq_true rfl, Nat.le_of_ble_eq_true rfl⟩) hK hN hX hP hD hS hA rfl rfl hl.1 rfl (lv_room (Nat.le_of_ble_eq_true rfl)) dL_ask_155 ⟨Nat.le_of_ble_eq_true rfl, Nat.le_of_ble_eq_true rfl⟩) hP hD hS hA rfl rfl rfl (fun H locs hP hD hS => ?_)
              have hE := Option.some.inj hE
              obtain ⟨q0, hE⟩ := Prod.mk.inj hE
              obtain ⟨q1, hE⟩ := Prod.mk.inj hE
              obtain ⟨q2, hE⟩ := Prod.mk.inj hE
              obtain ⟨q3, hE⟩ := Prod.mk.inj hE
              obtain ⟨q4, hE⟩ := Prod.mk.inj hE
              obtain ⟨q5, hE⟩ := Prod.mk.inj hE
              obtain ⟨q6, hE⟩ := Prod.mk.inj hE
              obtain ⟨q7, hE⟩ := Prod.mk.inj hE
              obtain ⟨q8, q9⟩ := Prod.mk.inj hE
              refine W.widen (k := 3) (n := 18) (Nat.le_of_ble_eq_true rfl) (Nat.le_of_ble_eq_true rfl) ?_
              exact ei hx hb hr hlocks hK hP hD hS q0 (by rw [q1, q2, q3, q4, q5, q6, q7, q8, q9]) dL_ask_158
            · replace hE := it_f hE c_11_5
              by_cases c_11_6 : r_3 = 6
              · replace hE := it_t hE c_11_6
                refine lv_tableIn (tgt := 159) hx hb dL_ask_13 (by rw [c_11_6]; decide) (by rw [c_11_6]; decide) (off := 146) (by rw [c_11_6]; decide) (by decide) ?_
                refine lv_aload_n hx hb dL_ask_159 rfl (lv_at hl 1 rfl) ?_
                obtain ⟨r_12, hc_13, hE⟩ := bd1_el hE
                refine kd (X := []) (Y := []) (ws1 := (W_All cy aI aT adP adS adB adO adR adA aP aS aB aO aR aA aH ah imT imdP indP imdS imdB imdO imdR imdA indA imP inP imS imB imO imR imA inA imH ihs)) (rV (X := []) (Y := []) (As := []) (rest := []) hC (c_X8_meanAge l D cy aI aT adP adS adB adO adR adA aP aS aB aO aR aA aH ah imT imdP indP imdS imdB imdO imdR imdA indA imP inP imS imB imO imR imA inA imH ihs r_12 hc_13) (cwV 0 hts gL_ask_X8_meanAge rfl rfl rfl cd_X8_meanAge ⟨Nat.le_of_ble_eq_true rfl, Nat.le_of_ble_eq_true rfl⟩) hK hN hP hD hS hA rfl 0 8 rfl rfl rfl hl.1 rfl (lv_room (Nat.le_of_ble_eq_true rfl)) dL_ask_160 ⟨Nat.le_of_ble_eq_true rfl, Nat.le_of_ble_eq_true rfl⟩) hP hD hS hA rfl rfl rfl (fun H locs hP hD hS => ?_)
                refine lv_ldc2d hx hb hown k155 dL_ask_163 ?_
                obtain ⟨g_14, hE⟩ := gn_el hE
                refine lv_dmul hx hb dL_ask_166 g_14 ?_
                refine lv_d2i hx hb dL_ask_167 ?_
                have hE := Option.some.inj hE
                obtain ⟨q0, hE⟩ := Prod.mk.inj hE
                obtain ⟨q1, hE⟩ := Prod.mk.inj hE
                obtain ⟨q2, hE⟩ := Prod.mk.inj hE
                obtain ⟨q3, hE⟩ := Prod.mk.inj hE
                obtain ⟨q4, hE⟩ := Prod.mk.inj hE
                obtain ⟨q5, hE⟩ := Prod.mk.inj hE
                obtain ⟨q6, hE⟩ := Prod.mk.inj hE
                obtain ⟨q7, hE⟩ := Prod.mk.inj hE
                obtain ⟨q8, q9⟩ := Prod.mk.inj hE
                refine W.widen (k := 3) (n := 18) (Nat.le_of_ble_eq_true rfl) (Nat.le_of_ble_eq_true rfl) ?_
                exact ei hx hb hr hlocks hK hP hD hS q0 (by rw [q1, q2, q3, q4, q5, q6, q7, q8, q9]) dL_ask_168
              · replace hE := it_f hE c_11_6
                refine lv_tableOut (tgt := 169) hx hb dL_ask_13 (sw_out (lo := 0) (hi := 6) (fun z h1 h2 => ?_)) (by decide) ?_
                · rcases (show z = 0 ∨ z = 1 ∨ z = 2 ∨ z = 3 ∨ z = 4 ∨ z = 5 ∨ z = 6 by omega) with rfl | rfl | rfl | rfl | rfl | rfl | rfl
                  · exact fun q9 => c_11_0 (q9.trans (by decide))
                  · exact fun q9 => c_11_1 (q9.trans (by decide))
                  · exact fun q9 => c_11_2 (q9.trans (by decide))
                  · exact fun q9 => c_11_3 (q9.trans (by decide))
                  · exact fun q9 => c_11_4 (q9.trans (by decide))
                  · exact fun q9 => c_11_5 (q9.trans (by decide))
                  · exact fun q9 => c_11_6 (q9.trans (by decide))
                · refine lv_aload_n hx hb dL_ask_169 rfl (lv_at hl 1 rfl) ?_
                  obtain ⟨r_5, mT_6, hc_7, hE⟩ := bd2_el hE
                  refine ki (X := []) (Y := []) (ws1 := (W_All cy aI aT adP adS adB adO adR adA aP aS aB aO aR aA aH ah mT_6 imdP indP imdS imdB imdO imdR imdA indA imP inP imS imB imO imR imA inA imH ihs)) (rV (X := []) (Y := []) (As := []) (rest := []) hC (c_X8_errorPosition l D cy aI aT adP adS adB adO adR adA aP aS aB aO aR aA aH ah imT imdP indP imdS imdB imdO imdR imdA indA imP inP imS imB imO imR imA inA imH ihs r_5 mT_6 hc_7) (cwV 0 hts gL_ask_X8_errorPosition rfl rfl rfl cd_X8_errorPosition ⟨Nat.le_of_ble_eq_true rfl, Nat.le_of_ble_eq_true rfl⟩) hK hN hP hD hS hA rfl 0 8 rfl rfl rfl hl.1 rfl (lv_room (Nat.le_of_ble_eq_true rfl)) dL_ask_170 ⟨Nat.le_of_ble_eq_true rfl, Nat.le_of_ble_eq_true rfl⟩) hP hD hS hA rfl rfl rfl (fun H locs hP hD hS => ?_)
                  refine lv_aload_n hx hb dL_ask_173 rfl (lv_at hl 1 rfl) ?_
                  obtain ⟨r_8, mT_9, hc_10, hE⟩ := bd2_el hE
                  refine ki (X := []) (Y := []) (ws1 := (W_All cy aI aT adP adS adB adO adR adA aP aS aB aO aR aA aH ah mT_9 imdP indP imdS imdB imdO imdR imdA indA imP inP imS imB imO imR imA inA imH ihs)) (rV (X := []) (Y := []) (As := []) (rest := [.int r_5]) hC (c_X8_errorKind l D cy aI aT adP adS adB adO adR adA aP aS aB aO aR aA aH ah mT_6 imdP indP imdS imdB imdO imdR imdA indA imP inP imS imB imO imR imA inA imH ihs r_8 mT_9 hc_10) (cwV 0 hts gL_ask_X8_errorKind rfl rfl rfl cd_X8_errorKind ⟨Nat.le_of_ble_eq_true rfl, Nat.le_of_ble_eq_true rfl⟩) hK hN hP hD hS hA rfl 0 8 rfl rfl rfl hl.1 rfl (lv_room (Nat.le_of_ble_eq_true rfl)) dL_ask_174 ⟨Nat.le_of_ble_eq_true rfl, Nat.le_of_ble_eq_true rfl⟩) hP hD hS hA rfl rfl rfl (fun H locs hP hD hS => ?_)
                  refine lv_iadd hx hb dL_ask_177 ?_
                  have hE := Option.some.inj hE
                  obtain ⟨q0, hE⟩ := Prod.mk.inj hE
                  obtain ⟨q1, hE⟩ := Prod.mk.inj hE
                  obtain ⟨q2, hE⟩ := Prod.mk.inj hE
                  obtain ⟨q3, hE⟩ := Prod.mk.inj hE
                  obtain ⟨q4, hE⟩ := Prod.mk.inj hE
                  obtain ⟨q5, hE⟩ := Prod.mk.inj hE
                  obtain ⟨q6, hE⟩ := Prod.mk.inj hE
                  obtain ⟨q7, hE⟩ := Prod.mk.inj hE
                  obtain ⟨q8, q9⟩ := Prod.mk.inj hE
                  refine W.widen (k := 3) (n := 18) (Nat.le_of_ble_eq_true rfl) (Nat.le_of_ble_eq_true rfl) ?_
                  exact ei hx hb hr hlocks hK hP hD hS q0 (by rw [q1, q2, q3, q4, q5, q6, q7, q8, q9]) dL_ask_178
abbrev rm_L_isWeighed : Room := { frames := 5, cells := 0, slots := 0, locals := 111 }
set_option maxHeartbeats 40000000 in
set_option maxRecDepth 100000 in
theorem c_L_isWeighed (l : Launch) (D : va_G) (cy : Nat → Nat) (aI aT adP adS adB adO adR adA aP aS aB aO aR aA aH : Nat → Nat) (ah : Nat → Nat → Nat → Nat) (imT : Mem) (imdP : Mem) (indP : MemL) (imdS : Mem) (imdB : Mem) (imdO : Mem) (imdR : Mem) (imdA : Mem) (indA : MemL) (imP : Mem) (inP : MemL) (imS : Mem) (imB : Mem) (imO : Mem) (imR : Mem) (imA : Mem) (inA : MemL) (imH : Mem) (ihs : (Nat → PSt)) (r' : Int32) (hE : f_L_isWeighed imT imdP indP imdS imdB imdO imdR imdA indA imP inP imS imB imO imR imA inA imH ihs = some r') : CH l yL_isWeighed wsL_isWeighed rm_L_isWeighed D cy [.ref (aI 0)] (W_All cy aI aT adP adS adB adO adR adA aP aS aB aO aR aA aH ah imT imdP indP imdS imdB imdO imdR imdA indA imP inP imS imB imO imR imA inA imH ihs) 0 0 (QI D cy r' (W_All cy aI aT adP adS adB adO adR adA aP aS aB aO aR aA aH ah imT imdP indP imdS imdB imdO imdR imdA indA imP inP imS imB imO imR imA inA imH ihs)) := by
  refine CHp_of (cc := cL_isWeighed) (maxL := 8) (ret := (some .boolean)) (by decide) rfl (Nat.le_of_ble_eq_true rfl) (fun p e s m args below meth c A ls hx hb hr hml hlocks hown hts hA hK hN hX hP hD hS hl => ?_)
  have hown : s.vm.findClass RL = some m.cls := hown
  have hl : lv_has ls 8 [(0, .ref (aI 0))] := hl
  have hC : CallFix p m c cL_isWeighed 8 s args wsL_isWeighed RL := ⟨hx, hb, hml, hown, hts⟩
  have h10 : ∀ (n : Nat), ∀ (x1 : Int64) (x3 : Int64) (x5 : Int64) (x7 : Int32) (H : Heap) (locs : List Loc) (ls : Array Slot), f_L_isWeighed_L10 imT imdP indP imdS imdB imdO imdR imdA indA imP inP imS imB imO imR imA inA imH ihs n x1 x3 x5 x7 = some r' → va_P D vwCl (W_All cy aI aT adP adS adB adO adR adA aP aS aB aO aR aA aH ah imT imdP indP imdS imdB imdO imdR imdA indA imP inP imS imB imO imR imA inA imH ihs) H → va_D A (W_All cy aI aT adP adS adB adO adR adA aP aS aB aO aR aA aH ah imT imdP indP imdS imdB imdO imdR imdA indA imP inP imS imB imO imR imA inA imH ihs) → va_S A s.heap H locs → lv_has ls 8 [(0, .ref (aI 0)), (1, .long x1), (3, .long x3), (5, .long x5), (7, .int x7)] → W p l e rm_L_isWeighed s m args below meth c H locs 0 0 (MQ below (QI D cy r' (W_All cy aI aT adP adS adB adO adR adA aP aS aB aO aR aA aH ah imT imdP indP imdS imdB imdO imdR imdA indA imP inP imS imB imO imR imA inA imH ihs) A) args s 0 0 A) (F0 m 10 ls []) := by
    intro n
    induction n with
    | zero => intro x1 x3 x5 x7 H locs ls hE; exact absurd hE (fun h9 => nomatch h9)
    | succ n ih =>
      intro x1 x3 x5 x7 H locs ls hE hP hD hS hl
      replace hE : (bd1 (f_L_total_N (7 : Int32) imT imdP indP imdS imdB imdO imdR imdA indA imP inP imS imB imO imR imA inA imH ihs) fun r_1 => (if (r_1.toInt32) ≤ x7 then bd1 (f_L_total_N (4 : Int32) imT imdP indP imdS imdB imdO imdR imdA indA imP inP imS imB imO imR imA inA imH ihs) fun r_4 => (if (lg_cmp x1 r_4) = 0 then bd1 (f_L_total_N (3 : Int32) imT imdP indP imdS imdB imdO imdR imdA indA imP inP imS imB imO imR imA inA imH ihs) fun r_7 => (if (lg_cmp x3 r_7) = 0 then bd1 (f_L_total_N (6 : Int32) imT imdP indP imdS imdB imdO imdR imdA indA imP inP imS imB imO imR imA inA imH ihs) fun r_10 => (if (lg_cmp x5 r_10) = 0 then bd1 (f_L_total_N (1 : Int32) imT imdP indP imdS imdB imdO imdR imdA indA imP inP imS imB imO imR imA inA imH ihs) fun r_13 => bd1 (f_L_total_N (2 : Int32) imT imdP indP imdS imdB imdO imdR imdA indA imP inP imS imB imO imR imA inA imH ihs) fun r_15 => bd1 (f_L_total_N (3 : Int32) imT imdP indP imdS imdB imdO imdR imdA indA imP inP imS imB imO imR imA inA imH ihs) fun r_17 => bd1 (f_L_total_N (4 : Int32) imT imdP indP imdS imdB imdO imdR imdA indA imP inP imS imB imO imR imA inA imH ihs) fun r_19 => (if (lg_cmp r_13 ((r_15 + r_17) + r_19)) = 0 then some (1 : Int32) else some (0 : Int32)) else some (0 : Int32)) else some (0 : Int32)) else some (0 : Int32)) else bd1 (f_L_silo_N x7 (4 : Int32) imT imdP indP imdS imdB imdO imdR imdA indA imP inP imS imB imO imR imA inA imH ihs) fun r_22 => lt' (x1 + (r_22.toInt64)) fun x1_24 => bd1 (f_L_silo_N x7 (5 : Int32) imT imdP indP imdS imdB imdO imdR imdA indA imP inP imS imB imO imR imA inA imH ihs) fun r_25 => lt' (x3 + (r_25.toInt64)) fun x3_27 => bd1 (f_L_silo_N x7 (3 : Int32) imT imdP indP imdS imdB imdO imdR imdA indA imP inP imS imB imO imR imA inA imH ihs) fun r_28 => lt' (x5 + (r_28.toInt64)) fun x5_30 => bd1 (f_L_silo_N x7 (3 : Int32) imT imdP indP imdS imdB imdO imdR imdA indA imP inP imS imB imO imR imA inA imH ihs) fun r_31 => bd1 (f_L_silo_N x7 (0 : Int32) imT imdP indP imdS imdB imdO imdR imdA indA imP inP imS imB imO imR imA inA imH ihs) fun r_33 => (if r_31 ≤ r_33 then lt' (x7 + (1 : Int32)) fun x7_36 => (f_L_isWeighed_L10 imT imdP indP imdS imdB imdO imdR imdA indA imP inP imS imB imO imR imA inA imH ihs n) x1_24 x3_27 x5_30 x7_36 else some (0 : Int32)))) = some r' := hE
      refine lv_iload hx hb dL_isWeighed_10 (lv_at hl 4 rfl) ?_
      refine lv_aload_n hx hb dL_isWeighed_12 rfl (lv_at hl 0 rfl) ?_
      refine lv_bipush (v := 7) hx hb dL_isWeighed_13 (by decide) ?_
      obtain ⟨r_1, hc_2, hE⟩ := bd1_el hE
      refine kl (X := []) (Y := []) (ws1 := (W_All cy aI aT adP adS adB adO adR adA aP aS aB aO aR aA aH ah imT imdP indP imdS imdB imdO imdR imdA indA imP inP imS imB imO imR imA inA imH ihs)) (rH (X := []) (Y := []) (As := [.ref (aI 0), .int (7 : Int32)]) (rest := [.int x7]) hC (c_L_total_N l D cy aI aT adP adS adB adO adR adA aP aS aB aO aR aA aH ah (7 : Int32) imT imdP indP imdS imdB imdO imdR imdA indA imP inP imS imB imO imR imA inA imH ihs r_1 hc_2) (vx_cwSW (hh := [(0, 5, 6, 15)]) 2 hts gL_isWeighed_L_total rfl rfl rfl (by decide +kernel) ⟨Nat.le_of_ble_eq_true rfl, Nat.le_of_ble_eq_true rfl⟩) hK hN hX hP hD hS hA rfl rfl hl.1 rfl (lv_room (Nat.le_of_ble_eq_true rfl)) dL_isWeighed_15 ⟨Nat.le_of_ble_eq_true rfl, Nat.le_of_ble_eq_true rfl⟩) hP hD hS hA rfl rfl rfl (fun H locs hP hD hS => ?_)
      refine lv_l2i hx hb dL_isWeighed_18 rfl ?_
      refine lv_icmp_ge (tgt := 82) hx hb dL_isWeighed_19 (by decide) (fun c_3 => ?_) (fun c_3 => ?_)
      · replace hE := it_t hE c_3
        refine lv_lload_n hx hb dL_isWeighed_82 rfl (lv_at hl 1 rfl) ?_
        refine lv_aload_n hx hb dL_isWeighed_83 rfl (lv_at hl 0 rfl) ?_
        refine lv_iconst (v := 4) hx hb dL_isWeighed_84 (by decide) ?_
        obtain ⟨r_4, hc_5, hE⟩ := bd1_el hE
        refine kl (X := []) (Y := []) (ws1 := (W_All cy aI aT adP adS adB adO adR adA aP aS aB aO aR aA aH ah imT imdP indP imdS imdB imdO imdR imdA indA imP inP imS imB imO imR imA inA imH ihs)) (rH (X := []) (Y := []) (As := [.ref (aI 0), .int (4 : Int32)]) (rest := [.long x1]) hC (c_L_total_N l D cy aI aT adP adS adB adO adR adA aP aS aB aO aR aA aH ah (4 : Int32) imT imdP indP imdS imdB imdO imdR imdA indA imP inP imS imB imO imR imA inA imH ihs r_4 hc_5) (vx_cwSW (hh := [(0, 5, 6, 15)]) 2 hts gL_isWeighed_L_total rfl rfl rfl (by decide +kernel) ⟨Nat.le_of_ble_eq_true rfl, Nat.le_of_ble_eq_true rfl⟩) hK hN hX hP hD hS hA rfl rfl hl.1 rfl (lv_room (Nat.le_of_ble_eq_true rfl)) dL_isWeighed_85 ⟨Nat.le_of_ble_eq_true rfl, Nat.le_of_ble_eq_true rfl⟩) hP hD hS hA rfl rfl rfl (fun H locs hP hD hS => ?_)
        refine W.lcmp hx hb dL_isWeighed_88 ?_
        refine lv_if_ne (tgt := 144) hx hb dL_isWeighed_89 (by decide) (fun c_6 => ?_) (fun c_6 => ?_)
        · replace hE := it_f hE c_6
          refine lv_iconst (v := 0) hx hb dL_isWeighed_144 (by decide) ?_
          have hE := Option.some.inj hE
          exact ez hx hb hr (by decide) hlocks hK hP hD hS hE rfl dL_isWeighed_145
        · replace hE := it_t hE c_6
          refine lv_lload_n hx hb dL_isWeighed_92 rfl (lv_at hl 2 rfl) ?_
          refine lv_aload_n hx hb dL_isWeighed_93 rfl (lv_at hl 0 rfl) ?_
          refine lv_iconst (v := 3) hx hb dL_isWeighed_94 (by decide) ?_
          obtain ⟨r_7, hc_8, hE⟩ := bd1_el hE
          refine kl (X := []) (Y := []) (ws1 := (W_All cy aI aT adP adS adB adO adR adA aP aS aB aO aR aA aH ah imT imdP indP imdS imdB imdO imdR imdA indA imP inP imS imB imO imR imA inA imH ihs)) (rH (X := []) (Y := []) (As := [.ref (aI 0), .int (3 : Int32)]) (rest := [.long x3]) hC (c_L_total_N l D cy aI aT adP adS adB adO adR adA aP aS aB aO aR aA aH ah (3 : Int32) imT imdP indP imdS imdB imdO imdR imdA indA imP inP imS imB imO imR imA inA imH ihs r_7 hc_8) (vx_cwSW (hh := [(0, 5, 6, 15)]) 2 hts gL_isWeighed_L_total rfl rfl rfl (by decide +kernel) ⟨Nat.le_of_ble_eq_true rfl, Nat.le_of_ble_eq_true rfl⟩) hK hN hX hP hD hS hA rfl rfl hl.1 rfl (lv_room (Nat.le_of_ble_eq_true rfl)) dL_isWeighed_95 ⟨Nat.le_of_ble_eq_true rfl, Nat.le_of_ble_eq_true rfl⟩) hP hD hS hA rfl rfl rfl (fun H locs hP hD hS => ?_)
          refine W.lcmp hx hb dL_isWeighed_98 ?_
          refine lv_if_ne (tgt := 144) hx hb dL_isWeighed_99 (by decide) (fun c_9 => ?_) (fun c_9 => ?_)
          · replace hE := it_f hE c_9
            refine lv_iconst (v := 0) hx hb dL_isWeighed_144 (by decide) ?_
            have hE := Option.some.inj hE
            exact ez hx hb hr (by decide) hlocks hK hP hD hS hE rfl dL_isWeighed_145
          · replace hE := it_t hE c_9
            refine lv_lload hx hb dL_isWeighed_102 (lv_at hl 3 rfl) ?_
            refine lv_aload_n hx hb dL_isWeighed_104 rfl (lv_at hl 0 rfl) ?_
            refine lv_bipush (v := 6) hx hb dL_isWeighed_105 (by decide) ?_
            obtain ⟨r_10, hc_11, hE⟩ := bd1_el hE
            refine kl (X := []) (Y := []) (ws1 := (W_All cy aI aT adP adS adB adO adR adA aP aS aB aO aR aA aH ah imT imdP indP imdS imdB imdO imdR imdA indA imP inP imS imB imO imR imA inA imH ihs)) (rH (X := []) (Y := []) (As := [.ref (aI 0), .int (6 : Int32)]) (rest := [.long x5]) hC (c_L_total_N l D cy aI aT adP adS adB adO adR adA aP aS aB aO aR aA aH ah (6 : Int32) imT imdP indP imdS imdB imdO imdR imdA indA imP inP imS imB imO imR imA inA imH ihs r_10 hc_11) (vx_cwSW (hh := [(0, 5, 6, 15)]) 2 hts gL_isWeighed_L_total rfl rfl rfl (by decide +kernel) ⟨Nat.le_of_ble_eq_true rfl, Nat.le_of_ble_eq_true rfl⟩) hK hN hX hP hD hS hA rfl rfl hl.1 rfl (lv_room (Nat.le_of_ble_eq_true rfl)) dL_isWeighed_107 ⟨Nat.le_of_ble_eq_true rfl, Nat.le_of_ble_eq_true rfl⟩) hP hD hS hA rfl rfl rfl (fun H locs hP hD hS => ?_)
            refine W.lcmp hx hb dL_isWeighed_110 ?_
            refine lv_if_ne (tgt := 144) hx hb dL_isWeighed_111 (by decide) (fun c_12 => ?_) (fun c_12 => ?_)
            · replace hE := it_f hE c_12
              refine lv_iconst (v := 0) hx hb dL_isWeighed_144 (by decide) ?_
              have hE := Option.some.inj hE
              exact ez hx hb hr (by decide) hlocks hK hP hD hS hE rfl dL_isWeighed_145
            · replace hE := it_t hE c_12
              refine lv_aload_n hx hb dL_isWeighed_114 rfl (lv_at hl 0 rfl) ?_
              refine lv_iconst (v := 1) hx hb dL_isWeighed_115 (by decide) ?_
              obtain ⟨r_13, hc_14, hE⟩ := bd1_el hE
              refine kl (X := []) (Y := []) (ws1 := (W_All cy aI aT adP adS adB adO adR adA aP aS aB aO aR aA aH ah imT imdP indP imdS imdB imdO imdR imdA indA imP inP imS imB imO imR imA inA imH ihs)) (rH (X := []) (Y := []) (As := [.ref (aI 0), .int (1 : Int32)]) (rest := []) hC (c_L_total_N l D cy aI aT adP adS adB adO adR adA aP aS aB aO aR aA aH ah (1 : Int32) imT imdP indP imdS imdB imdO imdR imdA indA imP inP imS imB imO imR imA inA imH ihs r_13 hc_14) (vx_cwSW (hh := [(0, 5, 6, 15)]) 2 hts gL_isWeighed_L_total rfl rfl rfl (by decide +kernel) ⟨Nat.le_of_ble_eq_true rfl, Nat.le_of_ble_eq_true rfl⟩) hK hN hX hP hD hS hA rfl rfl hl.1 rfl (lv_room (Nat.le_of_ble_eq_true rfl)) dL_isWeighed_116 ⟨Nat.le_of_ble_eq_true rfl, Nat.le_of_ble_eq_true rfl⟩) hP hD hS hA rfl rfl rfl (fun H locs hP hD hS => ?_)
              refine lv_aload_n hx hb dL_isWeighed_119 rfl (lv_at hl 0 rfl) ?_
              refine lv_iconst (v := 2) hx hb dL_isWeighed_120 (by decide) ?_
              obtain ⟨r_15, hc_16, hE⟩ := bd1_el hE
              refine kl (X := []) (Y := []) (ws1 := (W_All cy aI aT adP adS adB adO adR adA aP aS aB aO aR aA aH ah imT imdP indP imdS imdB imdO imdR imdA indA imP inP imS imB imO imR imA inA imH ihs)) (rH (X := []) (Y := []) (As := [.ref (aI 0), .int (2 : Int32)]) (rest := [.long r_13]) hC (c_L_total_N l D cy aI aT adP adS adB adO adR adA aP aS aB aO aR aA aH ah (2 : Int32) imT imdP indP imdS imdB imdO imdR imdA indA imP inP imS imB imO imR imA inA imH ihs r_15 hc_16) (vx_cwSW (hh := [(0, 5, 6, 15)]) 2 hts gL_isWeighed_L_total rfl rfl rfl (by decide +kernel) ⟨Nat.le_of_ble_eq_true rfl, Nat.le_of_ble_eq_true rfl⟩) hK hN hX hP hD hS hA rfl rfl hl.1 rfl (lv_room (Nat.le_of_ble_eq_true rfl)) dL_isWeighed_121 ⟨Nat.le_of_ble_eq_true rfl, Nat.le_of_ble_eq_true rfl⟩) hP hD hS hA rfl rfl rfl (fun H locs hP hD hS => ?_)
              refine lv_aload_n hx hb dL_isWeighed_124 rfl (lv_at hl 0 rfl) ?_
              refine lv_iconst (v := 3) hx hb dL_isWeighed_125 (by decide) ?_
              obtain ⟨r_17, hc_18, hE⟩ := bd1_el hE
              refine kl (X := []) (Y := []) (ws1 := (W_All cy aI aT adP adS adB adO adR adA aP aS aB aO aR aA aH ah imT imdP indP imdS imdB imdO imdR imdA indA imP inP imS imB imO imR imA inA imH ihs)) (rH (X := []) (Y := []) (As := [.ref (aI 0), .int (3 : Int32)]) (rest := [.long r_15, .long r_13]) hC (c_L_total_N l D cy aI aT adP adS adB adO adR adA aP aS aB aO aR aA aH ah (3 : Int32) imT imdP indP imdS imdB imdO imdR imdA indA imP inP imS imB imO imR imA inA imH ihs r_17 hc_18) (vx_cwSW (hh := [(0, 5, 6, 15)]) 2 hts gL_isWeighed_L_total rfl rfl rfl (by decide +kernel) ⟨Nat.le_of_ble_eq_true rfl, Nat.le_of_ble_eq_true rfl⟩) hK hN hX hP hD hS hA rfl rfl hl.1 rfl (lv_room (Nat.le_of_ble_eq_true rfl)) dL_isWeighed_126 ⟨Nat.le_of_ble_eq_true rfl, Nat.le_of_ble_eq_true rfl⟩) hP hD hS hA rfl rfl rfl (fun H locs hP hD hS => ?_)
              refine lv_ladd hx hb dL_isWeighed_129 ?_
              refine lv_aload_n hx hb dL_isWeighed_130 rfl (lv_at hl 0 rfl) ?_
              refine lv_iconst (v := 4) hx hb dL_isWeighed_131 (by decide) ?_
              obtain ⟨r_19, hc_20, hE⟩ := bd1_el hE
              refine kl (X := []) (Y := []) (ws1 := (W_All cy aI aT adP adS adB adO adR adA aP aS aB aO aR aA aH ah imT imdP indP imdS imdB imdO imdR imdA indA imP inP imS imB imO imR imA inA imH ihs)) (rH (X := []) (Y := []) (As := [.ref (aI 0), .int (4 : Int32)]) (rest := [.long (r_15 + r_17), .long r_13]) hC (c_L_total_N l D cy aI aT adP adS adB adO adR adA aP aS aB aO aR aA aH ah (4 : Int32) imT imdP indP imdS imdB imdO imdR imdA indA imP inP imS imB imO imR imA inA imH ihs r_19 hc_20) (vx_cwSW (hh := [(0, 5, 6, 15)]) 2 hts gL_isWeighed_L_total rfl rfl rfl (by decide +kernel) ⟨Nat.le_of_ble_eq_true rfl, Nat.le_of_ble_eq_true rfl⟩) hK hN hX hP hD hS hA rfl rfl hl.1 rfl (lv_room (Nat.le_of_ble_eq_true rfl)) dL_isWeighed_132 ⟨Nat.le_of_ble_eq_true rfl, Nat.le_of_ble_eq_true rfl⟩) hP hD hS hA rfl rfl rfl (fun H locs hP hD hS => ?_)
              refine lv_ladd hx hb dL_isWeighed_135 ?_
              refine W.lcmp hx hb dL_isWeighed_136 ?_
              refine lv_if_ne (tgt := 144) hx hb dL_isWeighed_137 (by decide) (fun c_21 => ?_) (fun c_21 => ?_)
              · replace hE := it_f hE c_21
                refine lv_iconst (v := 0) hx hb dL_isWeighed_144 (by decide) ?_
                have hE := Option.some.inj hE
                exact ez hx hb hr (by decide) hlocks hK hP hD hS hE rfl dL_isWeighed_145
              · replace hE := it_t hE c_21
                refine lv_iconst (v := 1) hx hb dL_isWeighed_140 (by decide) ?_
                refine lv_goto (tgt := 145) hx hb dL_isWeighed_141 (by decide) ?_
                have hE := Option.some.inj hE
                exact ez hx hb hr (by decide) hlocks hK hP hD hS hE rfl dL_isWeighed_145
      · replace hE := it_f hE c_3
        refine lv_lload_n hx hb dL_isWeighed_22 rfl (lv_at hl 1 rfl) ?_
        refine lv_aload_n hx hb dL_isWeighed_23 rfl (lv_at hl 0 rfl) ?_
        refine lv_iload hx hb dL_isWeighed_24 (lv_at hl 4 rfl) ?_
        refine lv_iconst (v := 4) hx hb dL_isWeighed_26 (by decide) ?_
        obtain ⟨r_22, hc_23, hE⟩ := bd1_el hE
        refine ki (X := []) (Y := []) (ws1 := (W_All cy aI aT adP adS adB adO adR adA aP aS aB aO aR aA aH ah imT imdP indP imdS imdB imdO imdR imdA indA imP inP imS imB imO imR imA inA imH ihs)) (rH (X := []) (Y := []) (As := [.ref (aI 0), .int x7, .int (4 : Int32)]) (rest := [.long x1]) hC (c_L_silo_N l D cy aI aT adP adS adB adO adR adA aP aS aB aO aR aA aH ah x7 (4 : Int32) imT imdP indP imdS imdB imdO imdR imdA indA imP inP imS imB imO imR imA inA imH ihs r_22 hc_23) (vx_cwSW (hh := [(0, 6, 7, 25), (0, 6, 11, 15)]) 3 hts gL_isWeighed_L_silo rfl rfl rfl (by decide +kernel) ⟨Nat.le_of_ble_eq_true rfl, Nat.le_of_ble_eq_true rfl⟩) hK hN hX hP hD hS hA rfl rfl hl.1 rfl (lv_room (Nat.le_of_ble_eq_true rfl)) dL_isWeighed_27 ⟨Nat.le_of_ble_eq_true rfl, Nat.le_of_ble_eq_true rfl⟩) hP hD hS hA rfl rfl rfl (fun H locs hP hD hS => ?_)
        refine lv_i2l hx hb dL_isWeighed_30 rfl ?_
        refine lv_ladd hx hb dL_isWeighed_31 ?_
        obtain ⟨x1_24, e_x1_24, hE⟩ := lt_el hE
        refine s_nmL e_x1_24 ?_
        refine lv_lstore_n (lv' := [(1, .long x1_24), (0, .ref (aI 0)), (3, .long x3), (5, .long x5), (7, .int x7)]) hx hb dL_isWeighed_32 rfl hl (by decide) rfl (fun ls hl => ?_)
        refine lv_lload_n hx hb dL_isWeighed_33 rfl (lv_at hl 2 rfl) ?_
        refine lv_aload_n hx hb dL_isWeighed_34 rfl (lv_at hl 1 rfl) ?_
        refine lv_iload hx hb dL_isWeighed_35 (lv_at hl 4 rfl) ?_
        refine lv_iconst (v := 5) hx hb dL_isWeighed_37 (by decide) ?_
        obtain ⟨r_25, hc_26, hE⟩ := bd1_el hE
        refine ki (X := []) (Y := []) (ws1 := (W_All cy aI aT adP adS adB adO adR adA aP aS aB aO aR aA aH ah imT imdP indP imdS imdB imdO imdR imdA indA imP inP imS imB imO imR imA inA imH ihs)) (rH (X := []) (Y := []) (As := [.ref (aI 0), .int x7, .int (5 : Int32)]) (rest := [.long x3]) hC (c_L_silo_N l D cy aI aT adP adS adB adO adR adA aP aS aB aO aR aA aH ah x7 (5 : Int32) imT imdP indP imdS imdB imdO imdR imdA indA imP inP imS imB imO imR imA inA imH ihs r_25 hc_26) (vx_cwSW (hh := [(0, 6, 7, 25), (0, 6, 11, 15)]) 3 hts gL_isWeighed_L_silo rfl rfl rfl (by decide +kernel) ⟨Nat.le_of_ble_eq_true rfl, Nat.le_of_ble_eq_true rfl⟩) hK hN hX hP hD hS hA rfl rfl hl.1 rfl (lv_room (Nat.le_of_ble_eq_true rfl)) dL_isWeighed_38 ⟨Nat.le_of_ble_eq_true rfl, Nat.le_of_ble_eq_true rfl⟩) hP hD hS hA rfl rfl rfl (fun H locs hP hD hS => ?_)
        refine lv_i2l hx hb dL_isWeighed_41 rfl ?_
        refine lv_ladd hx hb dL_isWeighed_42 ?_
        obtain ⟨x3_27, e_x3_27, hE⟩ := lt_el hE
        refine s_nmL e_x3_27 ?_
        refine lv_lstore_n (lv' := [(3, .long x3_27), (1, .long x1_24), (0, .ref (aI 0)), (5, .long x5), (7, .int x7)]) hx hb dL_isWeighed_43 rfl hl (by decide) rfl (fun ls hl => ?_)
        refine lv_lload hx hb dL_isWeighed_44 (lv_at hl 3 rfl) ?_
        refine lv_aload_n hx hb dL_isWeighed_46 rfl (lv_at hl 2 rfl) ?_
        refine lv_iload hx hb dL_isWeighed_47 (lv_at hl 4 rfl) ?_
        refine lv_iconst (v := 3) hx hb dL_isWeighed_49 (by decide) ?_
        obtain ⟨r_28, hc_29, hE⟩ := bd1_el hE
        refine ki (X := []) (Y := []) (ws1 := (W_All cy aI aT adP adS adB adO adR adA aP aS aB aO aR aA aH ah imT imdP indP imdS imdB imdO imdR imdA indA imP inP imS imB imO imR imA inA imH ihs)) (rH (X := []) (Y := []) (As := [.ref (aI 0), .int x7, .int (3 : Int32)]) (rest := [.long x5]) hC (c_L_silo_N l D cy aI aT adP adS adB adO adR adA aP aS aB aO aR aA aH ah x7 (3 : Int32) imT imdP indP imdS imdB imdO imdR imdA indA imP inP imS imB imO imR imA inA imH ihs r_28 hc_29) (vx_cwSW (hh := [(0, 6, 7, 25), (0, 6, 11, 15)]) 3 hts gL_isWeighed_L_silo rfl rfl rfl (by decide +kernel) ⟨Nat.le_of_ble_eq_true rfl, Nat.le_of_ble_eq_true rfl⟩) hK hN hX hP hD hS hA rfl rfl hl.1 rfl (lv_room (Nat.le_of_ble_eq_true rfl)) dL_isWeighed_50 ⟨Nat.le_of_ble_eq_true rfl, Nat.le_of_ble_eq_true rfl⟩) hP hD hS hA rfl rfl rfl (fun H locs hP hD hS => ?_)
        refine lv_i2l hx hb dL_isWeighed_53 rfl ?_
        refine lv_ladd hx hb dL_isWeighed_54 ?_
        obtain ⟨x5_30, e_x5_30, hE⟩ := lt_el hE
        refine s_nmL e_x5_30 ?_
        refine lv_lstore (lv' := [(5, .long x5_30), (3, .long x3_27), (1, .long x1_24), (0, .ref (aI 0)), (7, .int x7)]) hx hb dL_isWeighed_55 hl (by decide) rfl (fun ls hl => ?_)
        refine lv_aload_n hx hb dL_isWeighed_57 rfl (lv_at hl 3 rfl) ?_
        refine lv_iload hx hb dL_isWeighed_58 (lv_at hl 4 rfl) ?_
        refine lv_iconst (v := 3) hx hb dL_isWeighed_60 (by decide) ?_
        obtain ⟨r_31, hc_32, hE⟩ := bd1_el hE
        refine ki (X := []) (Y := []) (ws1 := (W_All cy aI aT adP adS adB adO adR adA aP aS aB aO aR aA aH ah imT imdP indP imdS imdB imdO imdR imdA indA imP inP imS imB imO imR imA inA imH ihs)) (rH (X := []) (Y := []) (As := [.ref (aI 0), .int x7, .int (3 : Int32)]) (rest := []) hC (c_L_silo_N l D cy aI aT adP adS adB adO adR adA aP aS aB aO aR aA aH ah x7 (3 : Int32) imT imdP indP imdS imdB imdO imdR imdA indA imP inP imS imB imO imR imA inA imH ihs r_31 hc_32) (vx_cwSW (hh := [(0, 6, 7, 25), (0, 6, 11, 15)]) 3 hts gL_isWeighed_L_silo rfl rfl rfl (by decide +kernel) ⟨Nat.le_of_ble_eq_true rfl, Nat.le_of_ble_eq_true rfl⟩) hK hN hX hP hD hS hA rfl rfl hl.1 rfl (lv_room (Nat.le_of_ble_eq_true rfl)) dL_isWeighed_61 ⟨Nat.le_of_ble_eq_true rfl, Nat.le_of_ble_eq_true rfl⟩) hP hD hS hA rfl rfl rfl (fun H locs hP hD hS => ?_)
        refine lv_aload_n hx hb dL_isWeighed_64 rfl (lv_at hl 3 rfl) ?_
        refine lv_iload hx hb dL_isWeighed_65 (lv_at hl 4 rfl) ?_
        refine lv_iconst (v := 0) hx hb dL_isWeighed_67 (by decide) ?_
        obtain ⟨r_33, hc_34, hE⟩ := bd1_el hE
        refine ki (X := []) (Y := []) (ws1 := (W_All cy aI aT adP adS adB adO adR adA aP aS aB aO aR aA aH ah imT imdP indP imdS imdB imdO imdR imdA indA imP inP imS imB imO imR imA inA imH ihs)) (rH (X := []) (Y := []) (As := [.ref (aI 0), .int x7, .int (0 : Int32)]) (rest := [.int r_31]) hC (c_L_silo_N l D cy aI aT adP adS adB adO adR adA aP aS aB aO aR aA aH ah x7 (0 : Int32) imT imdP indP imdS imdB imdO imdR imdA indA imP inP imS imB imO imR imA inA imH ihs r_33 hc_34) (vx_cwSW (hh := [(0, 6, 7, 25), (0, 6, 11, 15)]) 3 hts gL_isWeighed_L_silo rfl rfl rfl (by decide +kernel) ⟨Nat.le_of_ble_eq_true rfl, Nat.le_of_ble_eq_true rfl⟩) hK hN hX hP hD hS hA rfl rfl hl.1 rfl (lv_room (Nat.le_of_ble_eq_true rfl)) dL_isWeighed_68 ⟨Nat.le_of_ble_eq_true rfl, Nat.le_of_ble_eq_true rfl⟩) hP hD hS hA rfl rfl rfl (fun H locs hP hD hS => ?_)
        refine lv_icmp_le (tgt := 76) hx hb dL_isWeighed_71 (by decide) (fun c_35 => ?_) (fun c_35 => ?_)
        · replace hE := it_t hE c_35
          obtain ⟨x7_36, e_x7_36, hE⟩ := lt_el hE
          refine lv_iinc (v := x7_36) (lv' := [(7, .int x7_36), (5, .long x5_30), (3, .long x3_27), (1, .long x1_24), (0, .ref (aI 0))]) hx hb dL_isWeighed_76 hl (k := 4) rfl (by rw [e_x7_36]; rfl) (by decide) rfl (fun ls hl => ?_)
          refine lv_goto (tgt := 10) hx hb dL_isWeighed_79 (by decide) ?_
          exact ih x1_24 x3_27 x5_30 x7_36 _ _ _ hE hP hD hS (lv_sub hl [4, 3, 2, 1, 0] rfl)
        · replace hE := it_f hE c_35
          refine lv_iconst (v := 0) hx hb dL_isWeighed_74 (by decide) ?_
          have hE := Option.some.inj hE
          exact ez hx hb hr (by decide) hlocks hK hP hD hS hE rfl dL_isWeighed_75
  unfold f_L_isWeighed at hE
  refine lv_lconst (v := 0) hx hb dL_isWeighed_0 (by decide) ?_
  refine lv_lstore_n (lv' := [(1, .long (0 : Int64)), (0, .ref (aI 0))]) hx hb dL_isWeighed_1 rfl hl (by decide) rfl (fun ls hl => ?_)
  refine lv_lconst (v := 0) hx hb dL_isWeighed_2 (by decide) ?_
  refine lv_lstore_n (lv' := [(3, .long (0 : Int64)), (1, .long (0 : Int64)), (0, .ref (aI 0))]) hx hb dL_isWeighed_3 rfl hl (by decide) rfl (fun ls hl => ?_)
  refine lv_lconst (v := 0) hx hb dL_isWeighed_4 (by decide) ?_
  refine lv_lstore (lv' := [(5, .long (0 : Int64)), (3, .long (0 : Int64)), (1, .long (0 : Int64)), (0, .ref (aI 0))]) hx hb dL_isWeighed_5 hl (by decide) rfl (fun ls hl => ?_)
  refine lv_iconst (v := 0) hx hb dL_isWeighed_7 (by decide) ?_
  refine lv_istore (lv' := [(7, .int (0 : Int32)), (5, .long (0 : Int64)), (3, .long (0 : Int64)), (1, .long (0 : Int64)), (0, .ref (aI 0))]) hx hb dL_isWeighed_8 hl (by decide) rfl (fun ls hl => ?_)
  exact h10 fuel (0 : Int64) (0 : Int64) (0 : Int64) (0 : Int32) _ _ _ hE hP hD hS (lv_sub hl [4, 3, 2, 1, 0] rfl)
abbrev rm_L_isBilled : Room := { frames := 5, cells := 0, slots := 0, locals := 111 }
set_option maxHeartbeats 40000000 in
set_option maxRecDepth 100000 in
theorem c_L_isBilled (l : Launch) (D : va_G) (cy : Nat → Nat) (aI aT adP adS adB adO adR adA aP aS aB aO aR aA aH : Nat → Nat) (ah : Nat → Nat → Nat → Nat) (imT : Mem) (imdP : Mem) (indP : MemL) (imdS : Mem) (imdB : Mem) (imdO : Mem) (imdR : Mem) (imdA : Mem) (indA : MemL) (imP : Mem) (inP : MemL) (imS : Mem) (imB : Mem) (imO : Mem) (imR : Mem) (imA : Mem) (inA : MemL) (imH : Mem) (ihs : (Nat → PSt)) (r' : Int32) (hE : f_L_isBilled imT imdP indP imdS imdB imdO imdR imdA indA imP inP imS imB imO imR imA inA imH ihs = some r') : CH l yL_isBilled wsL_isBilled rm_L_isBilled D cy [.ref (aI 0)] (W_All cy aI aT adP adS adB adO adR adA aP aS aB aO aR aA aH ah imT imdP indP imdS imdB imdO imdR imdA indA imP inP imS imB imO imR imA inA imH ihs) 0 0 (QI D cy r' (W_All cy aI aT adP adS adB adO adR adA aP aS aB aO aR aA aH ah imT imdP indP imdS imdB imdO imdR imdA indA imP inP imS imB imO imR imA inA imH ihs)) := by
  refine CHp_of (cc := cL_isBilled) (maxL := 12) (ret := (some .boolean)) (by decide) rfl (Nat.le_of_ble_eq_true rfl) (fun p e s m args below meth c A ls hx hb hr hml hlocks hown hts hA hK hN hX hP hD hS hl => ?_)
  have hown : s.vm.findClass RL = some m.cls := hown
  have hl : lv_has ls 12 [(0, .ref (aI 0))] := hl
  have hC : CallFix p m c cL_isBilled 12 s args wsL_isBilled RL := ⟨hx, hb, hml, hown, hts⟩
  have h72 : ∀ (x1 : Int64) (x3 : Int64) (x5 : Int64), ∀ (n : Nat), ∀ (x7 : Int64) (x9 : Int64) (x11 : Int32) (H : Heap) (locs : List Loc) (ls : Array Slot), f_L_isBilled_L72 x1 x3 x5 imT imdP indP imdS imdB imdO imdR imdA indA imP inP imS imB imO imR imA inA imH ihs n x7 x9 x11 = some r' → va_P D vwCl (W_All cy aI aT adP adS adB adO adR adA aP aS aB aO aR aA aH ah imT imdP indP imdS imdB imdO imdR imdA indA imP inP imS imB imO imR imA inA imH ihs) H → va_D A (W_All cy aI aT adP adS adB adO adR adA aP aS aB aO aR aA aH ah imT imdP indP imdS imdB imdO imdR imdA indA imP inP imS imB imO imR imA inA imH ihs) → va_S A s.heap H locs → lv_has ls 12 [(0, .ref (aI 0)), (1, .long x1), (3, .long x3), (5, .long x5), (7, .long x7), (9, .long x9), (11, .int x11)] → W p l e rm_L_isBilled s m args below meth c H locs 0 0 (MQ below (QI D cy r' (W_All cy aI aT adP adS adB adO adR adA aP aS aB aO aR aA aH ah imT imdP indP imdS imdB imdO imdR imdA indA imP inP imS imB imO imR imA inA imH ihs) A) args s 0 0 A) (F0 m 72 ls []) := by
    intro x1 x3 x5 n
    induction n with
    | zero => intro x7 x9 x11 H locs ls hE; exact absurd hE (fun h9 => nomatch h9)
    | succ n ih =>
      intro x7 x9 x11 H locs ls hE hP hD hS hl
      replace hE : (bd1 (f_L_total_N (14 : Int32) imT imdP indP imdS imdB imdO imdR imdA indA imP inP imS imB imO imR imA inA imH ihs) fun r_1 => (if (r_1.toInt32) ≤ x11 then bd1 (f_L_total_N (11 : Int32) imT imdP indP imdS imdB imdO imdR imdA indA imP inP imS imB imO imR imA inA imH ihs) fun r_4 => bd1 (f_L_total_N (12 : Int32) imT imdP indP imdS imdB imdO imdR imdA indA imP inP imS imB imO imR imA inA imH ihs) fun r_6 => (if (lg_cmp x1 (r_4 - r_6)) = 0 then bd1 (f_L_total_N (2 : Int32) imT imdP indP imdS imdB imdO imdR imdA indA imP inP imS imB imO imR imA inA imH ihs) fun r_9 => (if (lg_cmp x3 r_9) = 0 then bd1 (f_L_total_N (10 : Int32) imT imdP indP imdS imdB imdO imdR imdA indA imP inP imS imB imO imR imA inA imH ihs) fun r_12 => (if (lg_cmp x5 r_12) = 0 then (if (lg_cmp x7 x3) = 0 then bd1 (f_L_total_N (11 : Int32) imT imdP indP imdS imdB imdO imdR imdA indA imP inP imS imB imO imR imA inA imH ihs) fun r_16 => (if (lg_cmp x9 r_16) = 0 then some (1 : Int32) else some (0 : Int32)) else some (0 : Int32)) else some (0 : Int32)) else some (0 : Int32)) else some (0 : Int32)) else bd1 (f_L_account_N x11 (2 : Int32) imT imdP indP imdS imdB imdO imdR imdA indA imP inP imS imB imO imR imA inA imH ihs) fun r_19 => lt' (x7 + r_19) fun x7_21 => bd1 (f_L_account_N x11 (3 : Int32) imT imdP indP imdS imdB imdO imdR imdA indA imP inP imS imB imO imR imA inA imH ihs) fun r_22 => lt' (x9 + r_22) fun x9_24 => bd1 (f_L_account_N x11 (0 : Int32) imT imdP indP imdS imdB imdO imdR imdA indA imP inP imS imB imO imR imA inA imH ihs) fun r_25 => bd1 (f_L_account_N x11 (1 : Int32) imT imdP indP imdS imdB imdO imdR imdA indA imP inP imS imB imO imR imA inA imH ihs) fun r_27 => bd1 (f_L_findAccount_N (r_25.toInt32) (r_27.toInt32) imT imdP indP imdS imdB imdO imdR imdA indA imP inP imS imB imO imR imA inA imH ihs) fun r_29 => (if r_29 = x11 then lt' (x11 + (1 : Int32)) fun x11_32 => (f_L_isBilled_L72 x1 x3 x5 imT imdP indP imdS imdB imdO imdR imdA indA imP inP imS imB imO imR imA inA imH ihs n) x7_21 x9_24 x11_32 else some (0 : Int32)))) = some r' := hE
      refine lv_iload hx hb dL_isBilled_72 (lv_at hl 6 rfl) ?_
      refine lv_aload_n hx hb dL_isBilled_74 rfl (lv_at hl 0 rfl) ?_
      refine lv_bipush (v := 14) hx hb dL_isBilled_75 (by decide) ?_
      obtain ⟨r_1, hc_2, hE⟩ := bd1_el hE
      refine kl (X := []) (Y := []) (ws1 := (W_All cy aI aT adP adS adB adO adR adA aP aS aB aO aR aA aH ah imT imdP indP imdS imdB imdO imdR imdA indA imP inP imS imB imO imR imA inA imH ihs)) (rH (X := []) (Y := []) (As := [.ref (aI 0), .int (14 : Int32)]) (rest := [.int x11]) hC (c_L_total_N l D cy aI aT adP adS adB adO adR adA aP aS aB aO aR aA aH ah (14 : Int32) imT imdP indP imdS imdB imdO imdR imdA indA imP inP imS imB imO imR imA inA imH ihs r_1 hc_2) (vx_cwSW (hh := [(0, 5, 6, 15)]) 2 hts gL_isBilled_L_total rfl rfl rfl (by decide +kernel) ⟨Nat.le_of_ble_eq_true rfl, Nat.le_of_ble_eq_true rfl⟩) hK hN hX hP hD hS hA rfl rfl hl.1 rfl (lv_room (Nat.le_of_ble_eq_true rfl)) dL_isBilled_77 ⟨Nat.le_of_ble_eq_true rfl, Nat.le_of_ble_eq_true rfl⟩) hP hD hS hA rfl rfl rfl (fun H locs hP hD hS => ?_)
      refine lv_l2i hx hb dL_isBilled_80 rfl ?_
      refine lv_icmp_ge (tgt := 141) hx hb dL_isBilled_81 (by decide) (fun c_3 => ?_) (fun c_3 => ?_)
      · replace hE := it_t hE c_3
        refine lv_lload_n hx hb dL_isBilled_141 rfl (lv_at hl 1 rfl) ?_
        refine lv_aload_n hx hb dL_isBilled_142 rfl (lv_at hl 0 rfl) ?_
        refine lv_bipush (v := 11) hx hb dL_isBilled_143 (by decide) ?_
        obtain ⟨r_4, hc_5, hE⟩ := bd1_el hE
        refine kl (X := []) (Y := []) (ws1 := (W_All cy aI aT adP adS adB adO adR adA aP aS aB aO aR aA aH ah imT imdP indP imdS imdB imdO imdR imdA indA imP inP imS imB imO imR imA inA imH ihs)) (rH (X := []) (Y := []) (As := [.ref (aI 0), .int (11 : Int32)]) (rest := [.long x1]) hC (c_L_total_N l D cy aI aT adP adS adB adO adR adA aP aS aB aO aR aA aH ah (11 : Int32) imT imdP indP imdS imdB imdO imdR imdA indA imP inP imS imB imO imR imA inA imH ihs r_4 hc_5) (vx_cwSW (hh := [(0, 5, 6, 15)]) 2 hts gL_isBilled_L_total rfl rfl rfl (by decide +kernel) ⟨Nat.le_of_ble_eq_true rfl, Nat.le_of_ble_eq_true rfl⟩) hK hN hX hP hD hS hA rfl rfl hl.1 rfl (lv_room (Nat.le_of_ble_eq_true rfl)) dL_isBilled_145 ⟨Nat.le_of_ble_eq_true rfl, Nat.le_of_ble_eq_true rfl⟩) hP hD hS hA rfl rfl rfl (fun H locs hP hD hS => ?_)
        refine lv_aload_n hx hb dL_isBilled_148 rfl (lv_at hl 0 rfl) ?_
        refine lv_bipush (v := 12) hx hb dL_isBilled_149 (by decide) ?_
        obtain ⟨r_6, hc_7, hE⟩ := bd1_el hE
        refine kl (X := []) (Y := []) (ws1 := (W_All cy aI aT adP adS adB adO adR adA aP aS aB aO aR aA aH ah imT imdP indP imdS imdB imdO imdR imdA indA imP inP imS imB imO imR imA inA imH ihs)) (rH (X := []) (Y := []) (As := [.ref (aI 0), .int (12 : Int32)]) (rest := [.long r_4, .long x1]) hC (c_L_total_N l D cy aI aT adP adS adB adO adR adA aP aS aB aO aR aA aH ah (12 : Int32) imT imdP indP imdS imdB imdO imdR imdA indA imP inP imS imB imO imR imA inA imH ihs r_6 hc_7) (vx_cwSW (hh := [(0, 5, 6, 15)]) 2 hts gL_isBilled_L_total rfl rfl rfl (by decide +kernel) ⟨Nat.le_of_ble_eq_true rfl, Nat.le_of_ble_eq_true rfl⟩) hK hN hX hP hD hS hA rfl rfl hl.1 rfl (lv_room (Nat.le_of_ble_eq_true rfl)) dL_isBilled_151 ⟨Nat.le_of_ble_eq_true rfl, Nat.le_of_ble_eq_true rfl⟩) hP hD hS hA rfl rfl rfl (fun H locs hP hD hS => ?_)
        refine lv_lsub hx hb dL_isBilled_154 ?_
        refine W.lcmp hx hb dL_isBilled_155 ?_
        refine lv_if_ne (tgt := 204) hx hb dL_isBilled_156 (by decide) (fun c_8 => ?_) (fun c_8 => ?_)
        · replace hE := it_f hE c_8
          refine lv_iconst (v := 0) hx hb dL_isBilled_204 (by decide) ?_
          have hE := Option.some.inj hE
          exact ez hx hb hr (by decide) hlocks hK hP hD hS hE rfl dL_isBilled_205
        · replace hE := it_t hE c_8
          refine lv_lload_n hx hb dL_isBilled_159 rfl (lv_at hl 2 rfl) ?_
          refine lv_aload_n hx hb dL_isBilled_160 rfl (lv_at hl 0 rfl) ?_
          refine lv_iconst (v := 2) hx hb dL_isBilled_161 (by decide) ?_
          obtain ⟨r_9, hc_10, hE⟩ := bd1_el hE
          refine kl (X := []) (Y := []) (ws1 := (W_All cy aI aT adP adS adB adO adR adA aP aS aB aO aR aA aH ah imT imdP indP imdS imdB imdO imdR imdA indA imP inP imS imB imO imR imA inA imH ihs)) (rH (X := []) (Y := []) (As := [.ref (aI 0), .int (2 : Int32)]) (rest := [.long x3]) hC (c_L_total_N l D cy aI aT adP adS adB adO adR adA aP aS aB aO aR aA aH ah (2 : Int32) imT imdP indP imdS imdB imdO imdR imdA indA imP inP imS imB imO imR imA inA imH ihs r_9 hc_10) (vx_cwSW (hh := [(0, 5, 6, 15)]) 2 hts gL_isBilled_L_total rfl rfl rfl (by decide +kernel) ⟨Nat.le_of_ble_eq_true rfl, Nat.le_of_ble_eq_true rfl⟩) hK hN hX hP hD hS hA rfl rfl hl.1 rfl (lv_room (Nat.le_of_ble_eq_true rfl)) dL_isBilled_162 ⟨Nat.le_of_ble_eq_true rfl, Nat.le_of_ble_eq_true rfl⟩) hP hD hS hA rfl rfl rfl (fun H locs hP hD hS => ?_)
          refine W.lcmp hx hb dL_isBilled_165 ?_
          refine lv_if_ne (tgt := 204) hx hb dL_isBilled_166 (by decide) (fun c_11 => ?_) (fun c_11 => ?_)
          · replace hE := it_f hE c_11
            refine lv_iconst (v := 0) hx hb dL_isBilled_204 (by decide) ?_
            have hE := Option.some.inj hE
            exact ez hx hb hr (by decide) hlocks hK hP hD hS hE rfl dL_isBilled_205
          · replace hE := it_t hE c_11
            refine lv_lload hx hb dL_isBilled_169 (lv_at hl 3 rfl) ?_
            refine lv_aload_n hx hb dL_isBilled_171 rfl (lv_at hl 0 rfl) ?_
            refine lv_bipush (v := 10) hx hb dL_isBilled_172 (by decide) ?_
            obtain ⟨r_12, hc_13, hE⟩ := bd1_el hE
            refine kl (X := []) (Y := []) (ws1 := (W_All cy aI aT adP adS adB adO adR adA aP aS aB aO aR aA aH ah imT imdP indP imdS imdB imdO imdR imdA indA imP inP imS imB imO imR imA inA imH ihs)) (rH (X := []) (Y := []) (As := [.ref (aI 0), .int (10 : Int32)]) (rest := [.long x5]) hC (c_L_total_N l D cy aI aT adP adS adB adO adR adA aP aS aB aO aR aA aH ah (10 : Int32) imT imdP indP imdS imdB imdO imdR imdA indA imP inP imS imB imO imR imA inA imH ihs r_12 hc_13) (vx_cwSW (hh := [(0, 5, 6, 15)]) 2 hts gL_isBilled_L_total rfl rfl rfl (by decide +kernel) ⟨Nat.le_of_ble_eq_true rfl, Nat.le_of_ble_eq_true rfl⟩) hK hN hX hP hD hS hA rfl rfl hl.1 rfl (lv_room (Nat.le_of_ble_eq_true rfl)) dL_isBilled_174 ⟨Nat.le_of_ble_eq_true rfl, Nat.le_of_ble_eq_true rfl⟩) hP hD hS hA rfl rfl rfl (fun H locs hP hD hS => ?_)
            refine W.lcmp hx hb dL_isBilled_177 ?_
            refine lv_if_ne (tgt := 204) hx hb dL_isBilled_178 (by decide) (fun c_14 => ?_) (fun c_14 => ?_)
            · replace hE := it_f hE c_14
              refine lv_iconst (v := 0) hx hb dL_isBilled_204 (by decide) ?_
              have hE := Option.some.inj hE
              exact ez hx hb hr (by decide) hlocks hK hP hD hS hE rfl dL_isBilled_205
            · replace hE := it_t hE c_14
              refine lv_lload hx hb dL_isBilled_181 (lv_at hl 4 rfl) ?_
              refine lv_lload_n hx hb dL_isBilled_183 rfl (lv_at hl 2 rfl) ?_
              refine W.lcmp hx hb dL_isBilled_184 ?_
              refine lv_if_ne (tgt := 204) hx hb dL_isBilled_185 (by decide) (fun c_15 => ?_) (fun c_15 => ?_)
              · replace hE := it_f hE c_15
                refine lv_iconst (v := 0) hx hb dL_isBilled_204 (by decide) ?_
                have hE := Option.some.inj hE
                exact ez hx hb hr (by decide) hlocks hK hP hD hS hE rfl dL_isBilled_205
              · replace hE := it_t hE c_15
                refine lv_lload hx hb dL_isBilled_188 (lv_at hl 5 rfl) ?_
                refine lv_aload_n hx hb dL_isBilled_190 rfl (lv_at hl 0 rfl) ?_
                refine lv_bipush (v := 11) hx hb dL_isBilled_191 (by decide) ?_
                obtain ⟨r_16, hc_17, hE⟩ := bd1_el hE
                refine kl (X := []) (Y := []) (ws1 := (W_All cy aI aT adP adS adB adO adR adA aP aS aB aO aR aA aH ah imT imdP indP imdS imdB imdO imdR imdA indA imP inP imS imB imO imR imA inA imH ihs)) (rH (X := []) (Y := []) (As := [.ref (aI 0), .int (11 : Int32)]) (rest := [.long x9]) hC (c_L_total_N l D cy aI aT adP adS adB adO adR adA aP aS aB aO aR aA aH ah (11 : Int32) imT imdP indP imdS imdB imdO imdR imdA indA imP inP imS imB imO imR imA inA imH ihs r_16 hc_17) (vx_cwSW (hh := [(0, 5, 6, 15)]) 2 hts gL_isBilled_L_total rfl rfl rfl (by decide +kernel) ⟨Nat.le_of_ble_eq_true rfl, Nat.le_of_ble_eq_true rfl⟩) hK hN hX hP hD hS hA rfl rfl hl.1 rfl (lv_room (Nat.le_of_ble_eq_true rfl)) dL_isBilled_193 ⟨Nat.le_of_ble_eq_true rfl, Nat.le_of_ble_eq_true rfl⟩) hP hD hS hA rfl rfl rfl (fun H locs hP hD hS => ?_)
                refine W.lcmp hx hb dL_isBilled_196 ?_
                refine lv_if_ne (tgt := 204) hx hb dL_isBilled_197 (by decide) (fun c_18 => ?_) (fun c_18 => ?_)
                · replace hE := it_f hE c_18
                  refine lv_iconst (v := 0) hx hb dL_isBilled_204 (by decide) ?_
                  have hE := Option.some.inj hE
                  exact ez hx hb hr (by decide) hlocks hK hP hD hS hE rfl dL_isBilled_205
                · replace hE := it_t hE c_18
                  refine lv_iconst (v := 1) hx hb dL_isBilled_200 (by decide) ?_
                  refine lv_goto (tgt := 205) hx hb dL_isBilled_201 (by decide) ?_
                  have hE := Option.some.inj hE
                  exact ez hx hb hr (by decide) hlocks hK hP hD hS hE rfl dL_isBilled_205
      · replace hE := it_f hE c_3
        refine lv_lload hx hb dL_isBilled_84 (lv_at hl 4 rfl) ?_
        refine lv_aload_n hx hb dL_isBilled_86 rfl (lv_at hl 0 rfl) ?_
        refine lv_iload hx hb dL_isBilled_87 (lv_at hl 6 rfl) ?_
        refine lv_iconst (v := 2) hx hb dL_isBilled_89 (by decide) ?_
        obtain ⟨r_19, hc_20, hE⟩ := bd1_el hE
        refine kl (X := []) (Y := []) (ws1 := (W_All cy aI aT adP adS adB adO adR adA aP aS aB aO aR aA aH ah imT imdP indP imdS imdB imdO imdR imdA indA imP inP imS imB imO imR imA inA imH ihs)) (rH (X := []) (Y := []) (As := [.ref (aI 0), .int x11, .int (2 : Int32)]) (rest := [.long x7]) hC (c_L_account_N l D cy aI aT adP adS adB adO adR adA aP aS aB aO aR aA aH ah x11 (2 : Int32) imT imdP indP imdS imdB imdO imdR imdA indA imP inP imS imB imO imR imA inA imH ihs r_19 hc_20) (vx_cwSW (hh := [(0, 6, 7, 25), (0, 6, 12, 15)]) 3 hts gL_isBilled_L_account rfl rfl rfl (by decide +kernel) ⟨Nat.le_of_ble_eq_true rfl, Nat.le_of_ble_eq_true rfl⟩) hK hN hX hP hD hS hA rfl rfl hl.1 rfl (lv_room (Nat.le_of_ble_eq_true rfl)) dL_isBilled_90 ⟨Nat.le_of_ble_eq_true rfl, Nat.le_of_ble_eq_true rfl⟩) hP hD hS hA rfl rfl rfl (fun H locs hP hD hS => ?_)
        refine lv_ladd hx hb dL_isBilled_93 ?_
        obtain ⟨x7_21, e_x7_21, hE⟩ := lt_el hE
        refine s_nmL e_x7_21 ?_
        refine lv_lstore (lv' := [(7, .long x7_21), (0, .ref (aI 0)), (1, .long x1), (3, .long x3), (5, .long x5), (9, .long x9), (11, .int x11)]) hx hb dL_isBilled_94 hl (by decide) rfl (fun ls hl => ?_)
        refine lv_lload hx hb dL_isBilled_96 (lv_at hl 5 rfl) ?_
        refine lv_aload_n hx hb dL_isBilled_98 rfl (lv_at hl 1 rfl) ?_
        refine lv_iload hx hb dL_isBilled_99 (lv_at hl 6 rfl) ?_
        refine lv_iconst (v := 3) hx hb dL_isBilled_101 (by decide) ?_
        obtain ⟨r_22, hc_23, hE⟩ := bd1_el hE
        refine kl (X := []) (Y := []) (ws1 := (W_All cy aI aT adP adS adB adO adR adA aP aS aB aO aR aA aH ah imT imdP indP imdS imdB imdO imdR imdA indA imP inP imS imB imO imR imA inA imH ihs)) (rH (X := []) (Y := []) (As := [.ref (aI 0), .int x11, .int (3 : Int32)]) (rest := [.long x9]) hC (c_L_account_N l D cy aI aT adP adS adB adO adR adA aP aS aB aO aR aA aH ah x11 (3 : Int32) imT imdP indP imdS imdB imdO imdR imdA indA imP inP imS imB imO imR imA inA imH ihs r_22 hc_23) (vx_cwSW (hh := [(0, 6, 7, 25), (0, 6, 12, 15)]) 3 hts gL_isBilled_L_account rfl rfl rfl (by decide +kernel) ⟨Nat.le_of_ble_eq_true rfl, Nat.le_of_ble_eq_true rfl⟩) hK hN hX hP hD hS hA rfl rfl hl.1 rfl (lv_room (Nat.le_of_ble_eq_true rfl)) dL_isBilled_102 ⟨Nat.le_of_ble_eq_true rfl, Nat.le_of_ble_eq_true rfl⟩) hP hD hS hA rfl rfl rfl (fun H locs hP hD hS => ?_)
        refine lv_ladd hx hb dL_isBilled_105 ?_
        obtain ⟨x9_24, e_x9_24, hE⟩ := lt_el hE
        refine s_nmL e_x9_24 ?_
        refine lv_lstore (lv' := [(9, .long x9_24), (7, .long x7_21), (0, .ref (aI 0)), (1, .long x1), (3, .long x3), (5, .long x5), (11, .int x11)]) hx hb dL_isBilled_106 hl (by decide) rfl (fun ls hl => ?_)
        refine lv_aload_n hx hb dL_isBilled_108 rfl (lv_at hl 2 rfl) ?_
        refine lv_aload_n hx hb dL_isBilled_109 rfl (lv_at hl 2 rfl) ?_
        refine lv_iload hx hb dL_isBilled_110 (lv_at hl 6 rfl) ?_
        refine lv_iconst (v := 0) hx hb dL_isBilled_112 (by decide) ?_
        obtain ⟨r_25, hc_26, hE⟩ := bd1_el hE
        refine kl (X := []) (Y := []) (ws1 := (W_All cy aI aT adP adS adB adO adR adA aP aS aB aO aR aA aH ah imT imdP indP imdS imdB imdO imdR imdA indA imP inP imS imB imO imR imA inA imH ihs)) (rH (X := []) (Y := []) (As := [.ref (aI 0), .int x11, .int (0 : Int32)]) (rest := [.ref (aI 0)]) hC (c_L_account_N l D cy aI aT adP adS adB adO adR adA aP aS aB aO aR aA aH ah x11 (0 : Int32) imT imdP indP imdS imdB imdO imdR imdA indA imP inP imS imB imO imR imA inA imH ihs r_25 hc_26) (vx_cwSW (hh := [(0, 6, 7, 25), (0, 6, 12, 15)]) 3 hts gL_isBilled_L_account rfl rfl rfl (by decide +kernel) ⟨Nat.le_of_ble_eq_true rfl, Nat.le_of_ble_eq_true rfl⟩) hK hN hX hP hD hS hA rfl rfl hl.1 rfl (lv_room (Nat.le_of_ble_eq_true rfl)) dL_isBilled_113 ⟨Nat.le_of_ble_eq_true rfl, Nat.le_of_ble_eq_true rfl⟩) hP hD hS hA rfl rfl rfl (fun H locs hP hD hS => ?_)
        refine lv_l2i hx hb dL_isBilled_116 rfl ?_
        refine lv_aload_n hx hb dL_isBilled_117 rfl (lv_at hl 2 rfl) ?_
        refine lv_iload hx hb dL_isBilled_118 (lv_at hl 6 rfl) ?_
        refine lv_iconst (v := 1) hx hb dL_isBilled_120 (by decide) ?_
        obtain ⟨r_27, hc_28, hE⟩ := bd1_el hE
        refine kl (X := []) (Y := []) (ws1 := (W_All cy aI aT adP adS adB adO adR adA aP aS aB aO aR aA aH ah imT imdP indP imdS imdB imdO imdR imdA indA imP inP imS imB imO imR imA inA imH ihs)) (rH (X := []) (Y := []) (As := [.ref (aI 0), .int x11, .int (1 : Int32)]) (rest := [.int (r_25.toInt32), .ref (aI 0)]) hC (c_L_account_N l D cy aI aT adP adS adB adO adR adA aP aS aB aO aR aA aH ah x11 (1 : Int32) imT imdP indP imdS imdB imdO imdR imdA indA imP inP imS imB imO imR imA inA imH ihs r_27 hc_28) (vx_cwSW (hh := [(0, 6, 7, 25), (0, 6, 12, 15)]) 3 hts gL_isBilled_L_account rfl rfl rfl (by decide +kernel) ⟨Nat.le_of_ble_eq_true rfl, Nat.le_of_ble_eq_true rfl⟩) hK hN hX hP hD hS hA rfl rfl hl.1 rfl (lv_room (Nat.le_of_ble_eq_true rfl)) dL_isBilled_121 ⟨Nat.le_of_ble_eq_true rfl, Nat.le_of_ble_eq_true rfl⟩) hP hD hS hA rfl rfl rfl (fun H locs hP hD hS => ?_)
        refine lv_l2i hx hb dL_isBilled_124 rfl ?_
        obtain ⟨r_29, hc_30, hE⟩ := bd1_el hE
        refine ki (X := []) (Y := []) (ws1 := (W_All cy aI aT adP adS adB adO adR adA aP aS aB aO aR aA aH ah imT imdP indP imdS imdB imdO imdR imdA indA imP inP imS imB imO imR imA inA imH ihs)) (rH (X := []) (Y := []) (As := [.ref (aI 0), .int (r_25.toInt32), .int (r_27.toInt32)]) (rest := []) hC (c_L_findAccount_N l D cy aI aT adP adS adB adO adR adA aP aS aB aO aR aA aH ah (r_25.toInt32) (r_27.toInt32) imT imdP indP imdS imdB imdO imdR imdA indA imP inP imS imB imO imR imA inA imH ihs r_29 hc_30) (vx_cwSW (hh := [(0, 6, 7, 25), (0, 6, 11, 15)]) 3 hts gL_isBilled_L_findAccount rfl rfl rfl (by decide +kernel) ⟨Nat.le_of_ble_eq_true rfl, Nat.le_of_ble_eq_true rfl⟩) hK hN hX hP hD hS hA rfl rfl hl.1 rfl (lv_room (Nat.le_of_ble_eq_true rfl)) dL_isBilled_125 ⟨Nat.le_of_ble_eq_true rfl, Nat.le_of_ble_eq_true rfl⟩) hP hD hS hA rfl rfl rfl (fun H locs hP hD hS => ?_)
        refine lv_iload hx hb dL_isBilled_128 (lv_at hl 6 rfl) ?_
        refine lv_icmp_eq (tgt := 135) hx hb dL_isBilled_130 (by decide) (fun c_31 => ?_) (fun c_31 => ?_)
        · replace hE := it_t hE c_31
          obtain ⟨x11_32, e_x11_32, hE⟩ := lt_el hE
          refine lv_iinc (v := x11_32) (lv' := [(11, .int x11_32), (9, .long x9_24), (7, .long x7_21), (0, .ref (aI 0)), (1, .long x1), (3, .long x3), (5, .long x5)]) hx hb dL_isBilled_135 hl (k := 6) rfl (by rw [e_x11_32]; rfl) (by decide) rfl (fun ls hl => ?_)
          refine lv_goto (tgt := 72) hx hb dL_isBilled_138 (by decide) ?_
          exact ih x7_21 x9_24 x11_32 _ _ _ hE hP hD hS (lv_sub hl [3, 4, 5, 6, 2, 1, 0] rfl)
        · replace hE := it_f hE c_31
          refine lv_iconst (v := 0) hx hb dL_isBilled_133 (by decide) ?_
          have hE := Option.some.inj hE
          exact ez hx hb hr (by decide) hlocks hK hP hD hS hE rfl dL_isBilled_134
  have h10 : ∀ (n : Nat), ∀ (x1 : Int64) (x3 : Int64) (x5 : Int64) (x7 : Int32) (H : Heap) (locs : List Loc) (ls : Array Slot), f_L_isBilled_L10 imT imdP indP imdS imdB imdO imdR imdA indA imP inP imS imB imO imR imA inA imH ihs n x1 x3 x5 x7 = some r' → va_P D vwCl (W_All cy aI aT adP adS adB adO adR adA aP aS aB aO aR aA aH ah imT imdP indP imdS imdB imdO imdR imdA indA imP inP imS imB imO imR imA inA imH ihs) H → va_D A (W_All cy aI aT adP adS adB adO adR adA aP aS aB aO aR aA aH ah imT imdP indP imdS imdB imdO imdR imdA indA imP inP imS imB imO imR imA inA imH ihs) → va_S A s.heap H locs → lv_has ls 12 [(0, .ref (aI 0)), (1, .long x1), (3, .long x3), (5, .long x5), (7, .int x7)] → W p l e rm_L_isBilled s m args below meth c H locs 0 0 (MQ below (QI D cy r' (W_All cy aI aT adP adS adB adO adR adA aP aS aB aO aR aA aH ah imT imdP indP imdS imdB imdO imdR imdA indA imP inP imS imB imO imR imA inA imH ihs) A) args s 0 0 A) (F0 m 10 ls []) := by
    intro n
    induction n with
    | zero => intro x1 x3 x5 x7 H locs ls hE; exact absurd hE (fun h9 => nomatch h9)
    | succ n ih =>
      intro x1 x3 x5 x7 H locs ls hE hP hD hS hl
      replace hE : (bd1 (f_L_total_N (8 : Int32) imT imdP indP imdS imdB imdO imdR imdA indA imP inP imS imB imO imR imA inA imH ihs) fun r_33 => (if (r_33.toInt32) ≤ x7 then f_L_isBilled_L72 x1 x3 x5 imT imdP indP imdS imdB imdO imdR imdA indA imP inP imS imB imO imR imA inA imH ihs fuel (0 : Int64) (0 : Int64) (0 : Int32) else bd1 (f_L_boat_N x7 (1 : Int32) imT imdP indP imdS imdB imdO imdR imdA indA imP inP imS imB imO imR imA inA imH ihs) fun r_36 => lt' (x1 + (r_36.toInt64)) fun x1_38 => bd1 (f_L_boat_N x7 (2 : Int32) imT imdP indP imdS imdB imdO imdR imdA indA imP inP imS imB imO imR imA inA imH ihs) fun r_39 => lt' (x3 + (r_39.toInt64)) fun x3_41 => bd1 (f_L_boat_N x7 (3 : Int32) imT imdP indP imdS imdB imdO imdR imdA indA imP inP imS imB imO imR imA inA imH ihs) fun r_42 => lt' (x5 + (r_42.toInt64)) fun x5_44 => lt' (x7 + (1 : Int32)) fun x7_45 => (f_L_isBilled_L10 imT imdP indP imdS imdB imdO imdR imdA indA imP inP imS imB imO imR imA inA imH ihs n) x1_38 x3_41 x5_44 x7_45)) = some r' := hE
      refine lv_iload hx hb dL_isBilled_10 (lv_at hl 4 rfl) ?_
      refine lv_aload_n hx hb dL_isBilled_12 rfl (lv_at hl 0 rfl) ?_
      refine lv_bipush (v := 8) hx hb dL_isBilled_13 (by decide) ?_
      obtain ⟨r_33, hc_34, hE⟩ := bd1_el hE
      refine kl (X := []) (Y := []) (ws1 := (W_All cy aI aT adP adS adB adO adR adA aP aS aB aO aR aA aH ah imT imdP indP imdS imdB imdO imdR imdA indA imP inP imS imB imO imR imA inA imH ihs)) (rH (X := []) (Y := []) (As := [.ref (aI 0), .int (8 : Int32)]) (rest := [.int x7]) hC (c_L_total_N l D cy aI aT adP adS adB adO adR adA aP aS aB aO aR aA aH ah (8 : Int32) imT imdP indP imdS imdB imdO imdR imdA indA imP inP imS imB imO imR imA inA imH ihs r_33 hc_34) (vx_cwSW (hh := [(0, 5, 6, 15)]) 2 hts gL_isBilled_L_total rfl rfl rfl (by decide +kernel) ⟨Nat.le_of_ble_eq_true rfl, Nat.le_of_ble_eq_true rfl⟩) hK hN hX hP hD hS hA rfl rfl hl.1 rfl (lv_room (Nat.le_of_ble_eq_true rfl)) dL_isBilled_15 ⟨Nat.le_of_ble_eq_true rfl, Nat.le_of_ble_eq_true rfl⟩) hP hD hS hA rfl rfl rfl (fun H locs hP hD hS => ?_)
      refine lv_l2i hx hb dL_isBilled_18 rfl ?_
      refine lv_icmp_ge (tgt := 63) hx hb dL_isBilled_19 (by decide) (fun c_35 => ?_) (fun c_35 => ?_)
      · replace hE := it_t hE c_35
        refine lv_lconst (v := 0) hx hb dL_isBilled_63 (by decide) ?_
        refine lv_lstore (lv' := [(7, .long (0 : Int64)), (0, .ref (aI 0)), (1, .long x1), (3, .long x3), (5, .long x5)]) hx hb dL_isBilled_64 hl (by decide) rfl (fun ls hl => ?_)
        refine lv_lconst (v := 0) hx hb dL_isBilled_66 (by decide) ?_
        refine lv_lstore (lv' := [(9, .long (0 : Int64)), (7, .long (0 : Int64)), (0, .ref (aI 0)), (1, .long x1), (3, .long x3), (5, .long x5)]) hx hb dL_isBilled_67 hl (by decide) rfl (fun ls hl => ?_)
        refine lv_iconst (v := 0) hx hb dL_isBilled_69 (by decide) ?_
        refine lv_istore (lv' := [(11, .int (0 : Int32)), (9, .long (0 : Int64)), (7, .long (0 : Int64)), (0, .ref (aI 0)), (1, .long x1), (3, .long x3), (5, .long x5)]) hx hb dL_isBilled_70 hl (by decide) rfl (fun ls hl => ?_)
        exact h72 x1 x3 x5 fuel (0 : Int64) (0 : Int64) (0 : Int32) _ _ _ hE hP hD hS (lv_sub hl [3, 4, 5, 6, 2, 1, 0] rfl)
      · replace hE := it_f hE c_35
        refine lv_lload_n hx hb dL_isBilled_22 rfl (lv_at hl 1 rfl) ?_
        refine lv_aload_n hx hb dL_isBilled_23 rfl (lv_at hl 0 rfl) ?_
        refine lv_iload hx hb dL_isBilled_24 (lv_at hl 4 rfl) ?_
        refine lv_iconst (v := 1) hx hb dL_isBilled_26 (by decide) ?_
        obtain ⟨r_36, hc_37, hE⟩ := bd1_el hE
        refine ki (X := []) (Y := []) (ws1 := (W_All cy aI aT adP adS adB adO adR adA aP aS aB aO aR aA aH ah imT imdP indP imdS imdB imdO imdR imdA indA imP inP imS imB imO imR imA inA imH ihs)) (rH (X := []) (Y := []) (As := [.ref (aI 0), .int x7, .int (1 : Int32)]) (rest := [.long x1]) hC (c_L_boat_N l D cy aI aT adP adS adB adO adR adA aP aS aB aO aR aA aH ah x7 (1 : Int32) imT imdP indP imdS imdB imdO imdR imdA indA imP inP imS imB imO imR imA inA imH ihs r_36 hc_37) (vx_cwSW (hh := [(0, 6, 7, 25), (0, 6, 11, 15)]) 3 hts gL_isBilled_L_boat rfl rfl rfl (by decide +kernel) ⟨Nat.le_of_ble_eq_true rfl, Nat.le_of_ble_eq_true rfl⟩) hK hN hX hP hD hS hA rfl rfl hl.1 rfl (lv_room (Nat.le_of_ble_eq_true rfl)) dL_isBilled_27 ⟨Nat.le_of_ble_eq_true rfl, Nat.le_of_ble_eq_true rfl⟩) hP hD hS hA rfl rfl rfl (fun H locs hP hD hS => ?_)
        refine lv_i2l hx hb dL_isBilled_30 rfl ?_
        refine lv_ladd hx hb dL_isBilled_31 ?_
        obtain ⟨x1_38, e_x1_38, hE⟩ := lt_el hE
        refine s_nmL e_x1_38 ?_
        refine lv_lstore_n (lv' := [(1, .long x1_38), (0, .ref (aI 0)), (3, .long x3), (5, .long x5), (7, .int x7)]) hx hb dL_isBilled_32 rfl hl (by decide) rfl (fun ls hl => ?_)
        refine lv_lload_n hx hb dL_isBilled_33 rfl (lv_at hl 2 rfl) ?_
        refine lv_aload_n hx hb dL_isBilled_34 rfl (lv_at hl 1 rfl) ?_
        refine lv_iload hx hb dL_isBilled_35 (lv_at hl 4 rfl) ?_
        refine lv_iconst (v := 2) hx hb dL_isBilled_37 (by decide) ?_
        obtain ⟨r_39, hc_40, hE⟩ := bd1_el hE
        refine ki (X := []) (Y := []) (ws1 := (W_All cy aI aT adP adS adB adO adR adA aP aS aB aO aR aA aH ah imT imdP indP imdS imdB imdO imdR imdA indA imP inP imS imB imO imR imA inA imH ihs)) (rH (X := []) (Y := []) (As := [.ref (aI 0), .int x7, .int (2 : Int32)]) (rest := [.long x3]) hC (c_L_boat_N l D cy aI aT adP adS adB adO adR adA aP aS aB aO aR aA aH ah x7 (2 : Int32) imT imdP indP imdS imdB imdO imdR imdA indA imP inP imS imB imO imR imA inA imH ihs r_39 hc_40) (vx_cwSW (hh := [(0, 6, 7, 25), (0, 6, 11, 15)]) 3 hts gL_isBilled_L_boat rfl rfl rfl (by decide +kernel) ⟨Nat.le_of_ble_eq_true rfl, Nat.le_of_ble_eq_true rfl⟩) hK hN hX hP hD hS hA rfl rfl hl.1 rfl (lv_room (Nat.le_of_ble_eq_true rfl)) dL_isBilled_38 ⟨Nat.le_of_ble_eq_true rfl, Nat.le_of_ble_eq_true rfl⟩) hP hD hS hA rfl rfl rfl (fun H locs hP hD hS => ?_)
        refine lv_i2l hx hb dL_isBilled_41 rfl ?_
        refine lv_ladd hx hb dL_isBilled_42 ?_
        obtain ⟨x3_41, e_x3_41, hE⟩ := lt_el hE
        refine s_nmL e_x3_41 ?_
        refine lv_lstore_n (lv' := [(3, .long x3_41), (1, .long x1_38), (0, .ref (aI 0)), (5, .long x5), (7, .int x7)]) hx hb dL_isBilled_43 rfl hl (by decide) rfl (fun ls hl => ?_)
        refine lv_lload hx hb dL_isBilled_44 (lv_at hl 3 rfl) ?_
        refine lv_aload_n hx hb dL_isBilled_46 rfl (lv_at hl 2 rfl) ?_
        refine lv_iload hx hb dL_isBilled_47 (lv_at hl 4 rfl) ?_
        refine lv_iconst (v := 3) hx hb dL_isBilled_49 (by decide) ?_
        obtain ⟨r_42, hc_43, hE⟩ := bd1_el hE
        refine ki (X := []) (Y := []) (ws1 := (W_All cy aI aT adP adS adB adO adR adA aP aS aB aO aR aA aH ah imT imdP indP imdS imdB imdO imdR imdA indA imP inP imS imB imO imR imA inA imH ihs)) (rH (X := []) (Y := []) (As := [.ref (aI 0), .int x7, .int (3 : Int32)]) (rest := [.long x5]) hC (c_L_boat_N l D cy aI aT adP adS adB adO adR adA aP aS aB aO aR aA aH ah x7 (3 : Int32) imT imdP indP imdS imdB imdO imdR imdA indA imP inP imS imB imO imR imA inA imH ihs r_42 hc_43) (vx_cwSW (hh := [(0, 6, 7, 25), (0, 6, 11, 15)]) 3 hts gL_isBilled_L_boat rfl rfl rfl (by decide +kernel) ⟨Nat.le_of_ble_eq_true rfl, Nat.le_of_ble_eq_true rfl⟩) hK hN hX hP hD hS hA rfl rfl hl.1 rfl (lv_room (Nat.le_of_ble_eq_true rfl)) dL_isBilled_50 ⟨Nat.le_of_ble_eq_true rfl, Nat.le_of_ble_eq_true rfl⟩) hP hD hS hA rfl rfl rfl (fun H locs hP hD hS => ?_)
        refine lv_i2l hx hb dL_isBilled_53 rfl ?_
        refine lv_ladd hx hb dL_isBilled_54 ?_
        obtain ⟨x5_44, e_x5_44, hE⟩ := lt_el hE
        refine s_nmL e_x5_44 ?_
        refine lv_lstore (lv' := [(5, .long x5_44), (3, .long x3_41), (1, .long x1_38), (0, .ref (aI 0)), (7, .int x7)]) hx hb dL_isBilled_55 hl (by decide) rfl (fun ls hl => ?_)
        obtain ⟨x7_45, e_x7_45, hE⟩ := lt_el hE
        refine lv_iinc (v := x7_45) (lv' := [(7, .int x7_45), (5, .long x5_44), (3, .long x3_41), (1, .long x1_38), (0, .ref (aI 0))]) hx hb dL_isBilled_57 hl (k := 4) rfl (by rw [e_x7_45]; rfl) (by decide) rfl (fun ls hl => ?_)
        refine lv_goto (tgt := 10) hx hb dL_isBilled_60 (by decide) ?_
        exact ih x1_38 x3_41 x5_44 x7_45 _ _ _ hE hP hD hS (lv_sub hl [4, 3, 2, 1, 0] rfl)
  unfold f_L_isBilled at hE
  refine lv_lconst (v := 0) hx hb dL_isBilled_0 (by decide) ?_
  refine lv_lstore_n (lv' := [(1, .long (0 : Int64)), (0, .ref (aI 0))]) hx hb dL_isBilled_1 rfl hl (by decide) rfl (fun ls hl => ?_)
  refine lv_lconst (v := 0) hx hb dL_isBilled_2 (by decide) ?_
  refine lv_lstore_n (lv' := [(3, .long (0 : Int64)), (1, .long (0 : Int64)), (0, .ref (aI 0))]) hx hb dL_isBilled_3 rfl hl (by decide) rfl (fun ls hl => ?_)
  refine lv_lconst (v := 0) hx hb dL_isBilled_4 (by decide) ?_
  refine lv_lstore (lv' := [(5, .long (0 : Int64)), (3, .long (0 : Int64)), (1, .long (0 : Int64)), (0, .ref (aI 0))]) hx hb dL_isBilled_5 hl (by decide) rfl (fun ls hl => ?_)
  refine lv_iconst (v := 0) hx hb dL_isBilled_7 (by decide) ?_
  refine lv_istore (lv' := [(7, .int (0 : Int32)), (5, .long (0 : Int64)), (3, .long (0 : Int64)), (1, .long (0 : Int64)), (0, .ref (aI 0))]) hx hb dL_isBilled_8 hl (by decide) rfl (fun ls hl => ?_)
  exact h10 fuel (0 : Int64) (0 : Int64) (0 : Int64) (0 : Int32) _ _ _ hE hP hD hS (lv_sub hl [4, 3, 2, 1, 0] rfl)
