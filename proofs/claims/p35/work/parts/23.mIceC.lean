abbrev rm_X8_receipt : Room := { frames := 8, cells := 2, slots := 12, locals := 122 }
set_option maxHeartbeats 40000000 in
set_option maxRecDepth 100000 in
theorem c_X8_receipt (l : Launch) (hst : l.stackTraces = false) (D : va_G) (cy : Nat → Nat) (aI aT adP adS adB adO adR adA aP aS aB aO aR aA aH : Nat → Nat) (ah : Nat → Nat → Nat → Nat) (x1 : Int32) (x2 : Int32) (imT : Mem) (imdP : Mem) (indP : MemL) (imdS : Mem) (imdB : Mem) (imdO : Mem) (imdR : Mem) (imdA : Mem) (indA : MemL) (imP : Mem) (inP : MemL) (imS : Mem) (imB : Mem) (imO : Mem) (imR : Mem) (imA : Mem) (inA : MemL) (imH : Mem) (ihs : (Nat → PSt)) (k' : Nat) (r' : Int32) (hE : f_X8_receipt x1 x2 imT imdP indP imdS imdB imdO imdR imdA indA imP inP imS imB imO imR imA inA imH ihs = some (k', r')) : CXI l yX8_receipt wsX8_receipt rm_X8_receipt D cy [.ref (aI 0), .int x1, .int x2] (W_All cy aI aT adP adS adB adO adR adA aP aS aB aO aR aA aH ah imT imdP indP imdS imdB imdO imdR imdA indA imP inP imS imB imO imR imA inA imH ihs) 2 12 k' r' (W_All cy aI aT adP adS adB adO adR adA aP aS aB aO aR aA aH ah imT imdP indP imdS imdB imdO imdR imdA indA imP inP imS imB imO imR imA inA imH ihs) := by
  refine CX_of (cc := cX8_receipt) (maxL := 3) (ret := (some .int)) (by decide) rfl (Nat.le_of_ble_eq_true rfl) (fun p e s m args below meth c A ls hx hb hr hml hlocks hnm hown hts hA htab hK hN hP hD hS hl => ?_)
  have hown : s.vm.findClass RX8 = some m.cls := hown
  have hl : lv_has ls 3 [(0, .ref (aI 0)), (1, .int x1), (2, .int x2)] := hl
  have hC : CallFix p m c cX8_receipt 3 s args wsX8_receipt RX8 := ⟨hx, hb, hml, hown, hts⟩
  have f10 : (Cond.fieldLink RX8 10 "IcePlant" "now" "LIcePlant$Plant;").before args s = true := hts _ (mC qf_X8_10)
  have f184 : (Cond.fieldLink RX8 184 "IcePlant$Plant" "receipts" "LIcePlant$Receipts;").before args s = true := hts _ (mC qf_X8_184)
  have iX4 : ∀ w ∈ wsX40, w ∈ wsX8_receipt := fun w h => mC (iA_X4 w h)
  have iX8 : ∀ w ∈ wsX80, w ∈ wsX8_receipt := fun w h => mC (iA_X8 w h)
  unfold f_X8_receipt at hE
  refine lv_iload_n hx hb dX8_receipt_0 rfl (lv_at hl 1 rfl) ?_
  refine lv_iconst (v := 0) hx hb dX8_receipt_1 (by decide) ?_
  refine lv_aload_n hx hb dX8_receipt_2 rfl (lv_at hl 0 rfl) ?_
  refine va_get (D := D) (ci := 8) (v := .ref (aP 0)) (C := RX8) (T := TX8) (N := 4) hx hb hts iX8 hown hK hP 0 rfl rfl 0 (by decide) f10 (fun _ h9 => h9) rfl dX8_receipt_3 ?_
  refine va_get (D := D) (ci := 4) (v := .ref (aR 0)) (C := RX4) (T := TX4) (N := 13) hx hb hts iX4 hown hK hP 40 rfl rfl 5 (by decide) f184 (fun _ h9 => h9) rfl dX8_receipt_6 ?_
  obtain ⟨r_1, hc_2, hE⟩ := bd1_el hE
  refine ki (X := ((W_I aI aP adP aH aT) ++ ((W_T cy aT imT) ++ ((W_P cy adP adS adB adO adR adA imdP indP) ++ ((W_S cy adS imdS) ++ ((W_B cy adB imdB) ++ ((W_O cy adO imdO) ++ ((W_R cy adR imdR) ++ ((W_A cy adA imdA indA) ++ ((W_P cy aP aS aB aO aR aA imP inP) ++ ((W_S cy aS imS) ++ ((W_B cy aB imB) ++ (W_O cy aO imO))))))))))))) (Y := ((W_A cy aA imA inA) ++ ((W_H cy aH ah imH) ++ (W_HS cy ah ihs)))) (ws1 := (W_All cy aI aT adP adS adB adO adR adA aP aS aB aO aR aA aH ah imT imdP indP imdS imdB imdO imdR imdA indA imP inP imS imB imO imR imA inA imH ihs)) (rV (X := ((W_I aI aP adP aH aT) ++ ((W_T cy aT imT) ++ ((W_P cy adP adS adB adO adR adA imdP indP) ++ ((W_S cy adS imdS) ++ ((W_B cy adB imdB) ++ ((W_O cy adO imdO) ++ ((W_R cy adR imdR) ++ ((W_A cy adA imdA indA) ++ ((W_P cy aP aS aB aO aR aA imP inP) ++ ((W_S cy aS imS) ++ ((W_B cy aB imB) ++ (W_O cy aO imO))))))))))))) (Y := ((W_A cy aA imA inA) ++ ((W_H cy aH ah imH) ++ (W_HS cy ah ihs)))) (As := []) (rest := [.int (0 : Int32), .int x1]) hC (c_X5_kept l D cy aR imR r_1 hc_2) (cwV 0 hts gX8_receipt_X5_kept rfl rfl rfl cd_X5_kept ⟨Nat.le_of_ble_eq_true rfl, Nat.le_of_ble_eq_true rfl⟩) hK hN hP hD hS hA rfl 0 5 rfl rfl rfl hl.1 rfl (lv_room (Nat.le_of_ble_eq_true rfl)) dX8_receipt_9 ⟨Nat.le_of_ble_eq_true rfl, Nat.le_of_ble_eq_true rfl⟩) hP hD hS hA rfl rfl rfl (fun H locs hP hD hS => ?_)
  refine lv_iconst (v := 1) hx hb dX8_receipt_12 (by decide) ?_
  refine lv_isub hx hb dX8_receipt_13 ?_
  obtain ⟨r_3, hc_4, hE⟩ := bd1_el hE
  refine ki (X := []) (Y := (W_All cy aI aT adP adS adB adO adR adA aP aS aB aO aR aA aH ah imT imdP indP imdS imdB imdO imdR imdA indA imP inP imS imB imO imR imA inA imH ihs)) (ws1 := (W_All cy aI aT adP adS adB adO adR adA aP aS aB aO aR aA aH ah imT imdP indP imdS imdB imdO imdR imdA indA imP inP imS imB imO imR imA inA imH ihs)) (rS (X := []) (Y := (W_All cy aI aT adP adS adB adO adR adA aP aS aB aO aR aA aH ah imT imdP indP imdS imdB imdO imdR imdA indA imP inP imS imB imO imR imA inA imH ihs)) (As := [.int x1, .int (0 : Int32), .int (r_1 - (1 : Int32))]) (rest := []) hC (c_X8_isWithin l D cy x1 (0 : Int32) (r_1 - (1 : Int32)) r_3 hc_4) (cwS 3 hts gX8_receipt_X8_isWithin rfl rfl rfl cd_X8_isWithin ⟨Nat.le_of_ble_eq_true rfl, Nat.le_of_ble_eq_true rfl⟩) hK hN hP hD hS hA rfl rfl hl.1 rfl (lv_room (Nat.le_of_ble_eq_true rfl)) dX8_receipt_14 ⟨Nat.le_of_ble_eq_true rfl, Nat.le_of_ble_eq_true rfl⟩) hP hD hS hA rfl rfl rfl (fun H locs hP hD hS => ?_)
  obtain ⟨k_6, hc_5, hE⟩ := bd1_el hE
  refine kxv (X := []) (Y := (W_All cy aI aT adP adS adB adO adR adA aP aS aB aO aR aA aH ah imT imdP indP imdS imdB imdO imdR imdA indA imP inP imS imB imO imR imA inA imH ihs)) (ws1 := (W_All cy aI aT adP adS adB adO adR adA aP aS aB aO aR aA aH ah imT imdP indP imdS imdB imdO imdR imdA indA imP inP imS imB imO imR imA inA imH ihs)) (xS (X := []) (Y := (W_All cy aI aT adP adS adB adO adR adA aP aS aB aO aR aA aH ah imT imdP indP imdS imdB imdO imdR imdA indA imP inP imS imB imO imR imA inA imH ihs)) (As := [.int r_3]) (rest := []) hC (c_X8_needItem l hst D cy r_3 k_6 hc_5) (cwS 1 hts gX8_receipt_X8_needItem rfl rfl rfl cd_X8_needItem ⟨Nat.le_of_ble_eq_true rfl, Nat.le_of_ble_eq_true rfl⟩) hK hN hP hD hS hA rfl rfl hl.1 rfl (lv_room (Nat.le_of_ble_eq_true rfl)) dX8_receipt_17 ⟨Nat.le_of_ble_eq_true rfl, Nat.le_of_ble_eq_true rfl⟩) hP hD hS hA rfl rfl rfl (fun hk0 H locs ce q9 hP hD hS hce hcv hcl => ?_) (fun hk0 H locs hP hD hS => ?_)
  · replace hE := it_f hE hk0
    have hE := Option.some.inj hE
    obtain ⟨q0, q1⟩ := Prod.mk.inj hE
    exact exx htab hlocks hK hP hD hS hce hcv hcl hk0 q0 rfl (Nat.le_of_ble_eq_true rfl) (Nat.le_of_ble_eq_true rfl)
  · replace hE := it_t hE hk0
    refine lv_iload_n hx hb dX8_receipt_20 rfl (lv_at hl 2 rfl) ?_
    refine lv_iconst (v := 0) hx hb dX8_receipt_21 (by decide) ?_
    refine lv_iconst (v := 4) hx hb dX8_receipt_22 (by decide) ?_
    obtain ⟨r_7, hc_8, hE⟩ := bd1_el hE
    refine ki (X := []) (Y := (W_All cy aI aT adP adS adB adO adR adA aP aS aB aO aR aA aH ah imT imdP indP imdS imdB imdO imdR imdA indA imP inP imS imB imO imR imA inA imH ihs)) (ws1 := (W_All cy aI aT adP adS adB adO adR adA aP aS aB aO aR aA aH ah imT imdP indP imdS imdB imdO imdR imdA indA imP inP imS imB imO imR imA inA imH ihs)) (rS (X := []) (Y := (W_All cy aI aT adP adS adB adO adR adA aP aS aB aO aR aA aH ah imT imdP indP imdS imdB imdO imdR imdA indA imP inP imS imB imO imR imA inA imH ihs)) (As := [.int x2, .int (0 : Int32), .int (4 : Int32)]) (rest := []) hC (c_X8_isWithin l D cy x2 (0 : Int32) (4 : Int32) r_7 hc_8) (cwS 3 hts gX8_receipt_X8_isWithin rfl rfl rfl cd_X8_isWithin ⟨Nat.le_of_ble_eq_true rfl, Nat.le_of_ble_eq_true rfl⟩) hK hN hP hD hS hA rfl rfl hl.1 rfl (lv_room (Nat.le_of_ble_eq_true rfl)) dX8_receipt_23 ⟨Nat.le_of_ble_eq_true rfl, Nat.le_of_ble_eq_true rfl⟩) hP hD hS hA rfl rfl rfl (fun H locs hP hD hS => ?_)
    obtain ⟨k_10, hc_9, hE⟩ := bd1_el hE
    refine kxv (X := []) (Y := (W_All cy aI aT adP adS adB adO adR adA aP aS aB aO aR aA aH ah imT imdP indP imdS imdB imdO imdR imdA indA imP inP imS imB imO imR imA inA imH ihs)) (ws1 := (W_All cy aI aT adP adS adB adO adR adA aP aS aB aO aR aA aH ah imT imdP indP imdS imdB imdO imdR imdA indA imP inP imS imB imO imR imA inA imH ihs)) (xS (X := []) (Y := (W_All cy aI aT adP adS adB adO adR adA aP aS aB aO aR aA aH ah imT imdP indP imdS imdB imdO imdR imdA indA imP inP imS imB imO imR imA inA imH ihs)) (As := [.int r_7]) (rest := []) hC (c_X8_needArgument l hst D cy r_7 k_10 hc_9) (cwS 1 hts gX8_receipt_X8_needArgument rfl rfl rfl cd_X8_needArgument ⟨Nat.le_of_ble_eq_true rfl, Nat.le_of_ble_eq_true rfl⟩) hK hN hP hD hS hA rfl rfl hl.1 rfl (lv_room (Nat.le_of_ble_eq_true rfl)) dX8_receipt_26 ⟨Nat.le_of_ble_eq_true rfl, Nat.le_of_ble_eq_true rfl⟩) hP hD hS hA rfl rfl rfl (fun hk0 H locs ce q9 hP hD hS hce hcv hcl => ?_) (fun hk0 H locs hP hD hS => ?_)
    · replace hE := it_f hE hk0
      have hE := Option.some.inj hE
      obtain ⟨q0, q1⟩ := Prod.mk.inj hE
      exact exx htab hlocks hK hP hD hS hce hcv hcl hk0 q0 rfl (Nat.le_of_ble_eq_true rfl) (Nat.le_of_ble_eq_true rfl)
    · replace hE := it_t hE hk0
      refine lv_aload_n hx hb dX8_receipt_29 rfl (lv_at hl 0 rfl) ?_
      refine va_get (D := D) (ci := 8) (v := .ref (aP 0)) (C := RX8) (T := TX8) (N := 4) hx hb hts iX8 hown hK hP 0 rfl rfl 0 (by decide) f10 (fun _ h9 => h9) rfl dX8_receipt_30 ?_
      refine va_get (D := D) (ci := 4) (v := .ref (aR 0)) (C := RX4) (T := TX4) (N := 13) hx hb hts iX4 hown hK hP 40 rfl rfl 5 (by decide) f184 (fun _ h9 => h9) rfl dX8_receipt_33 ?_
      refine lv_iload_n hx hb dX8_receipt_36 rfl (lv_at hl 1 rfl) ?_
      refine lv_iload_n hx hb dX8_receipt_37 rfl (lv_at hl 2 rfl) ?_
      obtain ⟨r_11, hc_12, hE⟩ := bd1_el hE
      refine ki (X := ((W_I aI aP adP aH aT) ++ ((W_T cy aT imT) ++ ((W_P cy adP adS adB adO adR adA imdP indP) ++ ((W_S cy adS imdS) ++ ((W_B cy adB imdB) ++ ((W_O cy adO imdO) ++ ((W_R cy adR imdR) ++ ((W_A cy adA imdA indA) ++ ((W_P cy aP aS aB aO aR aA imP inP) ++ ((W_S cy aS imS) ++ ((W_B cy aB imB) ++ (W_O cy aO imO))))))))))))) (Y := ((W_A cy aA imA inA) ++ ((W_H cy aH ah imH) ++ (W_HS cy ah ihs)))) (ws1 := (W_All cy aI aT adP adS adB adO adR adA aP aS aB aO aR aA aH ah imT imdP indP imdS imdB imdO imdR imdA indA imP inP imS imB imO imR imA inA imH ihs)) (rV (X := ((W_I aI aP adP aH aT) ++ ((W_T cy aT imT) ++ ((W_P cy adP adS adB adO adR adA imdP indP) ++ ((W_S cy adS imdS) ++ ((W_B cy adB imdB) ++ ((W_O cy adO imdO) ++ ((W_R cy adR imdR) ++ ((W_A cy adA imdA indA) ++ ((W_P cy aP aS aB aO aR aA imP inP) ++ ((W_S cy aS imS) ++ ((W_B cy aB imB) ++ (W_O cy aO imO))))))))))))) (Y := ((W_A cy aA imA inA) ++ ((W_H cy aH ah imH) ++ (W_HS cy ah ihs)))) (As := [.int x1, .int x2]) (rest := []) hC (c_X5_property l D cy aR x1 x2 imR r_11 hc_12) (cwV 2 hts gX8_receipt_X5_property rfl rfl rfl cd_X5_property ⟨Nat.le_of_ble_eq_true rfl, Nat.le_of_ble_eq_true rfl⟩) hK hN hP hD hS hA rfl 0 5 rfl rfl rfl hl.1 rfl (lv_room (Nat.le_of_ble_eq_true rfl)) dX8_receipt_38 ⟨Nat.le_of_ble_eq_true rfl, Nat.le_of_ble_eq_true rfl⟩) hP hD hS hA rfl rfl rfl (fun H locs hP hD hS => ?_)
      have hE := Option.some.inj hE
      obtain ⟨q0, q1⟩ := Prod.mk.inj hE
      exact exi hx hb hr hlocks hK hP hD hS q0 q1 rfl (Nat.le_of_ble_eq_true rfl) (Nat.le_of_ble_eq_true rfl) dX8_receipt_41
abbrev rm_X8_account : Room := { frames := 8, cells := 2, slots := 12, locals := 122 }
set_option maxHeartbeats 40000000 in
set_option maxRecDepth 100000 in
theorem c_X8_account (l : Launch) (hst : l.stackTraces = false) (D : va_G) (cy : Nat → Nat) (aI aT adP adS adB adO adR adA aP aS aB aO aR aA aH : Nat → Nat) (ah : Nat → Nat → Nat → Nat) (x1 : Int32) (x2 : Int32) (imT : Mem) (imdP : Mem) (indP : MemL) (imdS : Mem) (imdB : Mem) (imdO : Mem) (imdR : Mem) (imdA : Mem) (indA : MemL) (imP : Mem) (inP : MemL) (imS : Mem) (imB : Mem) (imO : Mem) (imR : Mem) (imA : Mem) (inA : MemL) (imH : Mem) (ihs : (Nat → PSt)) (k' : Nat) (r' : Int64) (hE : f_X8_account x1 x2 imT imdP indP imdS imdB imdO imdR imdA indA imP inP imS imB imO imR imA inA imH ihs = some (k', r')) : CXL l yX8_account wsX8_account rm_X8_account D cy [.ref (aI 0), .int x1, .int x2] (W_All cy aI aT adP adS adB adO adR adA aP aS aB aO aR aA aH ah imT imdP indP imdS imdB imdO imdR imdA indA imP inP imS imB imO imR imA inA imH ihs) 2 12 k' r' (W_All cy aI aT adP adS adB adO adR adA aP aS aB aO aR aA aH ah imT imdP indP imdS imdB imdO imdR imdA indA imP inP imS imB imO imR imA inA imH ihs) := by
  refine CX_of (cc := cX8_account) (maxL := 3) (ret := (some .long)) (by decide) rfl (Nat.le_of_ble_eq_true rfl) (fun p e s m args below meth c A ls hx hb hr hml hlocks hnm hown hts hA htab hK hN hP hD hS hl => ?_)
  have hown : s.vm.findClass RX8 = some m.cls := hown
  have hl : lv_has ls 3 [(0, .ref (aI 0)), (1, .int x1), (2, .int x2)] := hl
  have hC : CallFix p m c cX8_account 3 s args wsX8_account RX8 := ⟨hx, hb, hml, hown, hts⟩
  have f10 : (Cond.fieldLink RX8 10 "IcePlant" "now" "LIcePlant$Plant;").before args s = true := hts _ (mC qf_X8_10)
  have f195 : (Cond.fieldLink RX8 195 "IcePlant$Plant" "accounts" "LIcePlant$Accounts;").before args s = true := hts _ (mC qf_X8_195)
  have f199 : (Cond.fieldLink RX8 199 "IcePlant$Accounts" "count" "I").before args s = true := hts _ (mC qf_X8_199)
  have iX0 : ∀ w ∈ wsX00, w ∈ wsX8_account := fun w h => mC (iA_X0 w h)
  have iX4 : ∀ w ∈ wsX40, w ∈ wsX8_account := fun w h => mC (iA_X4 w h)
  have iX8 : ∀ w ∈ wsX80, w ∈ wsX8_account := fun w h => mC (iA_X8 w h)
  unfold f_X8_account at hE
  refine lv_iload_n hx hb dX8_account_0 rfl (lv_at hl 1 rfl) ?_
  refine lv_iconst (v := 0) hx hb dX8_account_1 (by decide) ?_
  refine lv_aload_n hx hb dX8_account_2 rfl (lv_at hl 0 rfl) ?_
  refine va_get (D := D) (ci := 8) (v := .ref (aP 0)) (C := RX8) (T := TX8) (N := 4) hx hb hts iX8 hown hK hP 0 rfl rfl 0 (by decide) f10 (fun _ h9 => h9) rfl dX8_account_3 ?_
  refine va_get (D := D) (ci := 4) (v := .ref (aA 0)) (C := RX4) (T := TX4) (N := 13) hx hb hts iX4 hown hK hP 40 rfl rfl 6 (by decide) f195 (fun _ h9 => h9) rfl dX8_account_6 ?_
  refine va_get (D := D) (ci := 0) (v := .int (imA 0 0)) (C := RX0) (T := TX0) (N := 5) hx hb hts iX0 hown hK hP 71 rfl rfl 0 (by decide) f199 (fun _ h9 => h9) rfl dX8_account_9 ?_
  refine lv_iconst (v := 1) hx hb dX8_account_12 (by decide) ?_
  refine lv_isub hx hb dX8_account_13 ?_
  obtain ⟨r_1, hc_2, hE⟩ := bd1_el hE
  refine ki (X := []) (Y := (W_All cy aI aT adP adS adB adO adR adA aP aS aB aO aR aA aH ah imT imdP indP imdS imdB imdO imdR imdA indA imP inP imS imB imO imR imA inA imH ihs)) (ws1 := (W_All cy aI aT adP adS adB adO adR adA aP aS aB aO aR aA aH ah imT imdP indP imdS imdB imdO imdR imdA indA imP inP imS imB imO imR imA inA imH ihs)) (rS (X := []) (Y := (W_All cy aI aT adP adS adB adO adR adA aP aS aB aO aR aA aH ah imT imdP indP imdS imdB imdO imdR imdA indA imP inP imS imB imO imR imA inA imH ihs)) (As := [.int x1, .int (0 : Int32), .int ((imA 0 0) - (1 : Int32))]) (rest := []) hC (c_X8_isWithin l D cy x1 (0 : Int32) ((imA 0 0) - (1 : Int32)) r_1 hc_2) (cwS 3 hts gX8_account_X8_isWithin rfl rfl rfl cd_X8_isWithin ⟨Nat.le_of_ble_eq_true rfl, Nat.le_of_ble_eq_true rfl⟩) hK hN hP hD hS hA rfl rfl hl.1 rfl (lv_room (Nat.le_of_ble_eq_true rfl)) dX8_account_14 ⟨Nat.le_of_ble_eq_true rfl, Nat.le_of_ble_eq_true rfl⟩) hP hD hS hA rfl rfl rfl (fun H locs hP hD hS => ?_)
  obtain ⟨k_4, hc_3, hE⟩ := bd1_el hE
  refine kxv (X := []) (Y := (W_All cy aI aT adP adS adB adO adR adA aP aS aB aO aR aA aH ah imT imdP indP imdS imdB imdO imdR imdA indA imP inP imS imB imO imR imA inA imH ihs)) (ws1 := (W_All cy aI aT adP adS adB adO adR adA aP aS aB aO aR aA aH ah imT imdP indP imdS imdB imdO imdR imdA indA imP inP imS imB imO imR imA inA imH ihs)) (xS (X := []) (Y := (W_All cy aI aT adP adS adB adO adR adA aP aS aB aO aR aA aH ah imT imdP indP imdS imdB imdO imdR imdA indA imP inP imS imB imO imR imA inA imH ihs)) (As := [.int r_1]) (rest := []) hC (c_X8_needItem l hst D cy r_1 k_4 hc_3) (cwS 1 hts gX8_account_X8_needItem rfl rfl rfl cd_X8_needItem ⟨Nat.le_of_ble_eq_true rfl, Nat.le_of_ble_eq_true rfl⟩) hK hN hP hD hS hA rfl rfl hl.1 rfl (lv_room (Nat.le_of_ble_eq_true rfl)) dX8_account_17 ⟨Nat.le_of_ble_eq_true rfl, Nat.le_of_ble_eq_true rfl⟩) hP hD hS hA rfl rfl rfl (fun hk0 H locs ce q9 hP hD hS hce hcv hcl => ?_) (fun hk0 H locs hP hD hS => ?_)
  · replace hE := it_f hE hk0
    have hE := Option.some.inj hE
    obtain ⟨q0, q1⟩ := Prod.mk.inj hE
    exact exx htab hlocks hK hP hD hS hce hcv hcl hk0 q0 rfl (Nat.le_of_ble_eq_true rfl) (Nat.le_of_ble_eq_true rfl)
  · replace hE := it_t hE hk0
    refine lv_iload_n hx hb dX8_account_20 rfl (lv_at hl 2 rfl) ?_
    refine lv_iconst (v := 0) hx hb dX8_account_21 (by decide) ?_
    refine lv_iconst (v := 3) hx hb dX8_account_22 (by decide) ?_
    obtain ⟨r_5, hc_6, hE⟩ := bd1_el hE
    refine ki (X := []) (Y := (W_All cy aI aT adP adS adB adO adR adA aP aS aB aO aR aA aH ah imT imdP indP imdS imdB imdO imdR imdA indA imP inP imS imB imO imR imA inA imH ihs)) (ws1 := (W_All cy aI aT adP adS adB adO adR adA aP aS aB aO aR aA aH ah imT imdP indP imdS imdB imdO imdR imdA indA imP inP imS imB imO imR imA inA imH ihs)) (rS (X := []) (Y := (W_All cy aI aT adP adS adB adO adR adA aP aS aB aO aR aA aH ah imT imdP indP imdS imdB imdO imdR imdA indA imP inP imS imB imO imR imA inA imH ihs)) (As := [.int x2, .int (0 : Int32), .int (3 : Int32)]) (rest := []) hC (c_X8_isWithin l D cy x2 (0 : Int32) (3 : Int32) r_5 hc_6) (cwS 3 hts gX8_account_X8_isWithin rfl rfl rfl cd_X8_isWithin ⟨Nat.le_of_ble_eq_true rfl, Nat.le_of_ble_eq_true rfl⟩) hK hN hP hD hS hA rfl rfl hl.1 rfl (lv_room (Nat.le_of_ble_eq_true rfl)) dX8_account_23 ⟨Nat.le_of_ble_eq_true rfl, Nat.le_of_ble_eq_true rfl⟩) hP hD hS hA rfl rfl rfl (fun H locs hP hD hS => ?_)
    obtain ⟨k_8, hc_7, hE⟩ := bd1_el hE
    refine kxv (X := []) (Y := (W_All cy aI aT adP adS adB adO adR adA aP aS aB aO aR aA aH ah imT imdP indP imdS imdB imdO imdR imdA indA imP inP imS imB imO imR imA inA imH ihs)) (ws1 := (W_All cy aI aT adP adS adB adO adR adA aP aS aB aO aR aA aH ah imT imdP indP imdS imdB imdO imdR imdA indA imP inP imS imB imO imR imA inA imH ihs)) (xS (X := []) (Y := (W_All cy aI aT adP adS adB adO adR adA aP aS aB aO aR aA aH ah imT imdP indP imdS imdB imdO imdR imdA indA imP inP imS imB imO imR imA inA imH ihs)) (As := [.int r_5]) (rest := []) hC (c_X8_needArgument l hst D cy r_5 k_8 hc_7) (cwS 1 hts gX8_account_X8_needArgument rfl rfl rfl cd_X8_needArgument ⟨Nat.le_of_ble_eq_true rfl, Nat.le_of_ble_eq_true rfl⟩) hK hN hP hD hS hA rfl rfl hl.1 rfl (lv_room (Nat.le_of_ble_eq_true rfl)) dX8_account_26 ⟨Nat.le_of_ble_eq_true rfl, Nat.le_of_ble_eq_true rfl⟩) hP hD hS hA rfl rfl rfl (fun hk0 H locs ce q9 hP hD hS hce hcv hcl => ?_) (fun hk0 H locs hP hD hS => ?_)
    · replace hE := it_f hE hk0
      have hE := Option.some.inj hE
      obtain ⟨q0, q1⟩ := Prod.mk.inj hE
      exact exx htab hlocks hK hP hD hS hce hcv hcl hk0 q0 rfl (Nat.le_of_ble_eq_true rfl) (Nat.le_of_ble_eq_true rfl)
    · replace hE := it_t hE hk0
      refine lv_aload_n hx hb dX8_account_29 rfl (lv_at hl 0 rfl) ?_
      refine va_get (D := D) (ci := 8) (v := .ref (aP 0)) (C := RX8) (T := TX8) (N := 4) hx hb hts iX8 hown hK hP 0 rfl rfl 0 (by decide) f10 (fun _ h9 => h9) rfl dX8_account_30 ?_
      refine va_get (D := D) (ci := 4) (v := .ref (aA 0)) (C := RX4) (T := TX4) (N := 13) hx hb hts iX4 hown hK hP 40 rfl rfl 6 (by decide) f195 (fun _ h9 => h9) rfl dX8_account_33 ?_
      refine lv_iload_n hx hb dX8_account_36 rfl (lv_at hl 1 rfl) ?_
      refine lv_iload_n hx hb dX8_account_37 rfl (lv_at hl 2 rfl) ?_
      obtain ⟨r_9, hc_10, hE⟩ := bd1_el hE
      refine kl (X := ((W_I aI aP adP aH aT) ++ ((W_T cy aT imT) ++ ((W_P cy adP adS adB adO adR adA imdP indP) ++ ((W_S cy adS imdS) ++ ((W_B cy adB imdB) ++ ((W_O cy adO imdO) ++ ((W_R cy adR imdR) ++ ((W_A cy adA imdA indA) ++ ((W_P cy aP aS aB aO aR aA imP inP) ++ ((W_S cy aS imS) ++ ((W_B cy aB imB) ++ ((W_O cy aO imO) ++ (W_R cy aR imR)))))))))))))) (Y := ((W_H cy aH ah imH) ++ (W_HS cy ah ihs))) (ws1 := (W_All cy aI aT adP adS adB adO adR adA aP aS aB aO aR aA aH ah imT imdP indP imdS imdB imdO imdR imdA indA imP inP imS imB imO imR imA inA imH ihs)) (rV (X := ((W_I aI aP adP aH aT) ++ ((W_T cy aT imT) ++ ((W_P cy adP adS adB adO adR adA imdP indP) ++ ((W_S cy adS imdS) ++ ((W_B cy adB imdB) ++ ((W_O cy adO imdO) ++ ((W_R cy adR imdR) ++ ((W_A cy adA imdA indA) ++ ((W_P cy aP aS aB aO aR aA imP inP) ++ ((W_S cy aS imS) ++ ((W_B cy aB imB) ++ ((W_O cy aO imO) ++ (W_R cy aR imR)))))))))))))) (Y := ((W_H cy aH ah imH) ++ (W_HS cy ah ihs))) (As := [.int x1, .int x2]) (rest := []) hC (c_X0_property l D cy aA x1 x2 imA inA r_9 hc_10) (cwV 2 hts gX8_account_X0_property rfl rfl rfl cd_X0_property ⟨Nat.le_of_ble_eq_true rfl, Nat.le_of_ble_eq_true rfl⟩) hK hN hP hD hS hA rfl 0 0 rfl rfl rfl hl.1 rfl (lv_room (Nat.le_of_ble_eq_true rfl)) dX8_account_38 ⟨Nat.le_of_ble_eq_true rfl, Nat.le_of_ble_eq_true rfl⟩) hP hD hS hA rfl rfl rfl (fun H locs hP hD hS => ?_)
      have hE := Option.some.inj hE
      obtain ⟨q0, q1⟩ := Prod.mk.inj hE
      exact exl hx hb hr hlocks hK hP hD hS q0 q1 rfl (Nat.le_of_ble_eq_true rfl) (Nat.le_of_ble_eq_true rfl) dX8_account_41
abbrev rm_X8_findAccount : Room := { frames := 8, cells := 2, slots := 12, locals := 122 }
set_option maxHeartbeats 40000000 in
set_option maxRecDepth 100000 in
theorem c_X8_findAccount (l : Launch) (hst : l.stackTraces = false) (D : va_G) (cy : Nat → Nat) (aI aT adP adS adB adO adR adA aP aS aB aO aR aA aH : Nat → Nat) (ah : Nat → Nat → Nat → Nat) (x1 : Int32) (x2 : Int32) (imT : Mem) (imdP : Mem) (indP : MemL) (imdS : Mem) (imdB : Mem) (imdO : Mem) (imdR : Mem) (imdA : Mem) (indA : MemL) (imP : Mem) (inP : MemL) (imS : Mem) (imB : Mem) (imO : Mem) (imR : Mem) (imA : Mem) (inA : MemL) (imH : Mem) (ihs : (Nat → PSt)) (k' : Nat) (r' : Int32) (hE : f_X8_findAccount x1 x2 imT imdP indP imdS imdB imdO imdR imdA indA imP inP imS imB imO imR imA inA imH ihs = some (k', r')) : CXI l yX8_findAccount wsX8_findAccount rm_X8_findAccount D cy [.ref (aI 0), .int x1, .int x2] (W_All cy aI aT adP adS adB adO adR adA aP aS aB aO aR aA aH ah imT imdP indP imdS imdB imdO imdR imdA indA imP inP imS imB imO imR imA inA imH ihs) 2 12 k' r' (W_All cy aI aT adP adS adB adO adR adA aP aS aB aO aR aA aH ah imT imdP indP imdS imdB imdO imdR imdA indA imP inP imS imB imO imR imA inA imH ihs) := by
  refine CX_of (cc := cX8_findAccount) (maxL := 3) (ret := (some .int)) (by decide) rfl (Nat.le_of_ble_eq_true rfl) (fun p e s m args below meth c A ls hx hb hr hml hlocks hnm hown hts hA htab hK hN hP hD hS hl => ?_)
  have hown : s.vm.findClass RX8 = some m.cls := hown
  have hl : lv_has ls 3 [(0, .ref (aI 0)), (1, .int x1), (2, .int x2)] := hl
  have hC : CallFix p m c cX8_findAccount 3 s args wsX8_findAccount RX8 := ⟨hx, hb, hml, hown, hts⟩
  have f10 : (Cond.fieldLink RX8 10 "IcePlant" "now" "LIcePlant$Plant;").before args s = true := hts _ (mC qf_X8_10)
  have f115 : (Cond.fieldLink RX8 115 "IcePlant$Plant" "boats" "LIcePlant$Boats;").before args s = true := hts _ (mC qf_X8_115)
  have f195 : (Cond.fieldLink RX8 195 "IcePlant$Plant" "accounts" "LIcePlant$Accounts;").before args s = true := hts _ (mC qf_X8_195)
  have iX4 : ∀ w ∈ wsX40, w ∈ wsX8_findAccount := fun w h => mC (iA_X4 w h)
  have iX8 : ∀ w ∈ wsX80, w ∈ wsX8_findAccount := fun w h => mC (iA_X8 w h)
  unfold f_X8_findAccount at hE
  refine lv_aload_n hx hb dX8_findAccount_0 rfl (lv_at hl 0 rfl) ?_
  refine va_get (D := D) (ci := 8) (v := .ref (aP 0)) (C := RX8) (T := TX8) (N := 4) hx hb hts iX8 hown hK hP 0 rfl rfl 0 (by decide) f10 (fun _ h9 => h9) rfl dX8_findAccount_1 ?_
  refine va_get (D := D) (ci := 4) (v := .ref (aB 0)) (C := RX4) (T := TX4) (N := 13) hx hb hts iX4 hown hK hP 40 rfl rfl 3 (by decide) f115 (fun _ h9 => h9) rfl dX8_findAccount_4 ?_
  refine lv_iload_n hx hb dX8_findAccount_7 rfl (lv_at hl 1 rfl) ?_
  obtain ⟨r_1, hc_2, hE⟩ := bd1_el hE
  refine ki (X := ((W_I aI aP adP aH aT) ++ ((W_T cy aT imT) ++ ((W_P cy adP adS adB adO adR adA imdP indP) ++ ((W_S cy adS imdS) ++ ((W_B cy adB imdB) ++ ((W_O cy adO imdO) ++ ((W_R cy adR imdR) ++ ((W_A cy adA imdA indA) ++ ((W_P cy aP aS aB aO aR aA imP inP) ++ (W_S cy aS imS))))))))))) (Y := ((W_O cy aO imO) ++ ((W_R cy aR imR) ++ ((W_A cy aA imA inA) ++ ((W_H cy aH ah imH) ++ (W_HS cy ah ihs)))))) (ws1 := (W_All cy aI aT adP adS adB adO adR adA aP aS aB aO aR aA aH ah imT imdP indP imdS imdB imdO imdR imdA indA imP inP imS imB imO imR imA inA imH ihs)) (rV (X := ((W_I aI aP adP aH aT) ++ ((W_T cy aT imT) ++ ((W_P cy adP adS adB adO adR adA imdP indP) ++ ((W_S cy adS imdS) ++ ((W_B cy adB imdB) ++ ((W_O cy adO imdO) ++ ((W_R cy adR imdR) ++ ((W_A cy adA imdA indA) ++ ((W_P cy aP aS aB aO aR aA imP inP) ++ (W_S cy aS imS))))))))))) (Y := ((W_O cy aO imO) ++ ((W_R cy aR imR) ++ ((W_A cy aA imA inA) ++ ((W_H cy aH ah imH) ++ (W_HS cy ah ihs)))))) (As := [.int x1]) (rest := []) hC (c_X1_has l D cy aB x1 imB r_1 hc_2) (cwV 1 hts gX8_findAccount_X1_has rfl rfl rfl cd_X1_has ⟨Nat.le_of_ble_eq_true rfl, Nat.le_of_ble_eq_true rfl⟩) hK hN hP hD hS hA rfl 0 1 rfl rfl rfl hl.1 rfl (lv_room (Nat.le_of_ble_eq_true rfl)) dX8_findAccount_8 ⟨Nat.le_of_ble_eq_true rfl, Nat.le_of_ble_eq_true rfl⟩) hP hD hS hA rfl rfl rfl (fun H locs hP hD hS => ?_)
  obtain ⟨k_4, hc_3, hE⟩ := bd1_el hE
  refine kxv (X := []) (Y := (W_All cy aI aT adP adS adB adO adR adA aP aS aB aO aR aA aH ah imT imdP indP imdS imdB imdO imdR imdA indA imP inP imS imB imO imR imA inA imH ihs)) (ws1 := (W_All cy aI aT adP adS adB adO adR adA aP aS aB aO aR aA aH ah imT imdP indP imdS imdB imdO imdR imdA indA imP inP imS imB imO imR imA inA imH ihs)) (xS (X := []) (Y := (W_All cy aI aT adP adS adB adO adR adA aP aS aB aO aR aA aH ah imT imdP indP imdS imdB imdO imdR imdA indA imP inP imS imB imO imR imA inA imH ihs)) (As := [.int r_1]) (rest := []) hC (c_X8_needItem l hst D cy r_1 k_4 hc_3) (cwS 1 hts gX8_findAccount_X8_needItem rfl rfl rfl cd_X8_needItem ⟨Nat.le_of_ble_eq_true rfl, Nat.le_of_ble_eq_true rfl⟩) hK hN hP hD hS hA rfl rfl hl.1 rfl (lv_room (Nat.le_of_ble_eq_true rfl)) dX8_findAccount_11 ⟨Nat.le_of_ble_eq_true rfl, Nat.le_of_ble_eq_true rfl⟩) hP hD hS hA rfl rfl rfl (fun hk0 H locs ce q9 hP hD hS hce hcv hcl => ?_) (fun hk0 H locs hP hD hS => ?_)
  · replace hE := it_f hE hk0
    have hE := Option.some.inj hE
    obtain ⟨q0, q1⟩ := Prod.mk.inj hE
    exact exx htab hlocks hK hP hD hS hce hcv hcl hk0 q0 rfl (Nat.le_of_ble_eq_true rfl) (Nat.le_of_ble_eq_true rfl)
  · replace hE := it_t hE hk0
    refine lv_iload_n hx hb dX8_findAccount_14 rfl (lv_at hl 2 rfl) ?_
    refine lv_iconst (v := 0) hx hb dX8_findAccount_15 (by decide) ?_
    refine lv_iconst (v := 1) hx hb dX8_findAccount_16 (by decide) ?_
    obtain ⟨r_5, hc_6, hE⟩ := bd1_el hE
    refine ki (X := []) (Y := (W_All cy aI aT adP adS adB adO adR adA aP aS aB aO aR aA aH ah imT imdP indP imdS imdB imdO imdR imdA indA imP inP imS imB imO imR imA inA imH ihs)) (ws1 := (W_All cy aI aT adP adS adB adO adR adA aP aS aB aO aR aA aH ah imT imdP indP imdS imdB imdO imdR imdA indA imP inP imS imB imO imR imA inA imH ihs)) (rS (X := []) (Y := (W_All cy aI aT adP adS adB adO adR adA aP aS aB aO aR aA aH ah imT imdP indP imdS imdB imdO imdR imdA indA imP inP imS imB imO imR imA inA imH ihs)) (As := [.int x2, .int (0 : Int32), .int (1 : Int32)]) (rest := []) hC (c_X8_isWithin l D cy x2 (0 : Int32) (1 : Int32) r_5 hc_6) (cwS 3 hts gX8_findAccount_X8_isWithin rfl rfl rfl cd_X8_isWithin ⟨Nat.le_of_ble_eq_true rfl, Nat.le_of_ble_eq_true rfl⟩) hK hN hP hD hS hA rfl rfl hl.1 rfl (lv_room (Nat.le_of_ble_eq_true rfl)) dX8_findAccount_17 ⟨Nat.le_of_ble_eq_true rfl, Nat.le_of_ble_eq_true rfl⟩) hP hD hS hA rfl rfl rfl (fun H locs hP hD hS => ?_)
    obtain ⟨k_8, hc_7, hE⟩ := bd1_el hE
    refine kxv (X := []) (Y := (W_All cy aI aT adP adS adB adO adR adA aP aS aB aO aR aA aH ah imT imdP indP imdS imdB imdO imdR imdA indA imP inP imS imB imO imR imA inA imH ihs)) (ws1 := (W_All cy aI aT adP adS adB adO adR adA aP aS aB aO aR aA aH ah imT imdP indP imdS imdB imdO imdR imdA indA imP inP imS imB imO imR imA inA imH ihs)) (xS (X := []) (Y := (W_All cy aI aT adP adS adB adO adR adA aP aS aB aO aR aA aH ah imT imdP indP imdS imdB imdO imdR imdA indA imP inP imS imB imO imR imA inA imH ihs)) (As := [.int r_5]) (rest := []) hC (c_X8_needArgument l hst D cy r_5 k_8 hc_7) (cwS 1 hts gX8_findAccount_X8_needArgument rfl rfl rfl cd_X8_needArgument ⟨Nat.le_of_ble_eq_true rfl, Nat.le_of_ble_eq_true rfl⟩) hK hN hP hD hS hA rfl rfl hl.1 rfl (lv_room (Nat.le_of_ble_eq_true rfl)) dX8_findAccount_20 ⟨Nat.le_of_ble_eq_true rfl, Nat.le_of_ble_eq_true rfl⟩) hP hD hS hA rfl rfl rfl (fun hk0 H locs ce q9 hP hD hS hce hcv hcl => ?_) (fun hk0 H locs hP hD hS => ?_)
    · replace hE := it_f hE hk0
      have hE := Option.some.inj hE
      obtain ⟨q0, q1⟩ := Prod.mk.inj hE
      exact exx htab hlocks hK hP hD hS hce hcv hcl hk0 q0 rfl (Nat.le_of_ble_eq_true rfl) (Nat.le_of_ble_eq_true rfl)
    · replace hE := it_t hE hk0
      refine lv_aload_n hx hb dX8_findAccount_23 rfl (lv_at hl 0 rfl) ?_
      refine va_get (D := D) (ci := 8) (v := .ref (aP 0)) (C := RX8) (T := TX8) (N := 4) hx hb hts iX8 hown hK hP 0 rfl rfl 0 (by decide) f10 (fun _ h9 => h9) rfl dX8_findAccount_24 ?_
      refine va_get (D := D) (ci := 4) (v := .ref (aA 0)) (C := RX4) (T := TX4) (N := 13) hx hb hts iX4 hown hK hP 40 rfl rfl 6 (by decide) f195 (fun _ h9 => h9) rfl dX8_findAccount_27 ?_
      refine lv_iload_n hx hb dX8_findAccount_30 rfl (lv_at hl 1 rfl) ?_
      refine lv_iload_n hx hb dX8_findAccount_31 rfl (lv_at hl 2 rfl) ?_
      obtain ⟨r_9, hc_10, hE⟩ := bd1_el hE
      refine ki (X := ((W_I aI aP adP aH aT) ++ ((W_T cy aT imT) ++ ((W_P cy adP adS adB adO adR adA imdP indP) ++ ((W_S cy adS imdS) ++ ((W_B cy adB imdB) ++ ((W_O cy adO imdO) ++ ((W_R cy adR imdR) ++ ((W_A cy adA imdA indA) ++ ((W_P cy aP aS aB aO aR aA imP inP) ++ ((W_S cy aS imS) ++ ((W_B cy aB imB) ++ ((W_O cy aO imO) ++ (W_R cy aR imR)))))))))))))) (Y := ((W_H cy aH ah imH) ++ (W_HS cy ah ihs))) (ws1 := (W_All cy aI aT adP adS adB adO adR adA aP aS aB aO aR aA aH ah imT imdP indP imdS imdB imdO imdR imdA indA imP inP imS imB imO imR imA inA imH ihs)) (rV (X := ((W_I aI aP adP aH aT) ++ ((W_T cy aT imT) ++ ((W_P cy adP adS adB adO adR adA imdP indP) ++ ((W_S cy adS imdS) ++ ((W_B cy adB imdB) ++ ((W_O cy adO imdO) ++ ((W_R cy adR imdR) ++ ((W_A cy adA imdA indA) ++ ((W_P cy aP aS aB aO aR aA imP inP) ++ ((W_S cy aS imS) ++ ((W_B cy aB imB) ++ ((W_O cy aO imO) ++ (W_R cy aR imR)))))))))))))) (Y := ((W_H cy aH ah imH) ++ (W_HS cy ah ihs))) (As := [.int x1, .int x2]) (rest := []) hC (c_X0_find l D cy aA x1 x2 imA inA r_9 hc_10) (cwV 2 hts gX8_findAccount_X0_find rfl rfl rfl cd_X0_find ⟨Nat.le_of_ble_eq_true rfl, Nat.le_of_ble_eq_true rfl⟩) hK hN hP hD hS hA rfl 0 0 rfl rfl rfl hl.1 rfl (lv_room (Nat.le_of_ble_eq_true rfl)) dX8_findAccount_32 ⟨Nat.le_of_ble_eq_true rfl, Nat.le_of_ble_eq_true rfl⟩) hP hD hS hA rfl rfl rfl (fun H locs hP hD hS => ?_)
      have hE := Option.some.inj hE
      obtain ⟨q0, q1⟩ := Prod.mk.inj hE
      exact exi hx hb hr hlocks hK hP hD hS q0 q1 rfl (Nat.le_of_ble_eq_true rfl) (Nat.le_of_ble_eq_true rfl) dX8_findAccount_35
abbrev rm_X8_total : Room := { frames := 8, cells := 1, slots := 6, locals := 122 }
set_option maxHeartbeats 40000000 in
set_option maxRecDepth 100000 in
theorem c_X8_total (l : Launch) (hst : l.stackTraces = false) (D : va_G) (cy : Nat → Nat) (aI aT adP adS adB adO adR adA aP aS aB aO aR aA aH : Nat → Nat) (ah : Nat → Nat → Nat → Nat) (x1 : Int32) (imT : Mem) (imdP : Mem) (indP : MemL) (imdS : Mem) (imdB : Mem) (imdO : Mem) (imdR : Mem) (imdA : Mem) (indA : MemL) (imP : Mem) (inP : MemL) (imS : Mem) (imB : Mem) (imO : Mem) (imR : Mem) (imA : Mem) (inA : MemL) (imH : Mem) (ihs : (Nat → PSt)) (k' : Nat) (r' : Int64) (hE : f_X8_total x1 imT imdP indP imdS imdB imdO imdR imdA indA imP inP imS imB imO imR imA inA imH ihs = some (k', r')) : CXL l yX8_total wsX8_total rm_X8_total D cy [.ref (aI 0), .int x1] (W_All cy aI aT adP adS adB adO adR adA aP aS aB aO aR aA aH ah imT imdP indP imdS imdB imdO imdR imdA indA imP inP imS imB imO imR imA inA imH ihs) 1 6 k' r' (W_All cy aI aT adP adS adB adO adR adA aP aS aB aO aR aA aH ah imT imdP indP imdS imdB imdO imdR imdA indA imP inP imS imB imO imR imA inA imH ihs) := by
  refine CX_of (cc := cX8_total) (maxL := 2) (ret := (some .long)) (by decide) rfl (Nat.le_of_ble_eq_true rfl) (fun p e s m args below meth c A ls hx hb hr hml hlocks hnm hown hts hA htab hK hN hP hD hS hl => ?_)
  have hown : s.vm.findClass RX8 = some m.cls := hown
  have hl : lv_has ls 2 [(0, .ref (aI 0)), (1, .int x1)] := hl
  have hC : CallFix p m c cX8_total 2 s args wsX8_total RX8 := ⟨hx, hb, hml, hown, hts⟩
  have f10 : (Cond.fieldLink RX8 10 "IcePlant" "now" "LIcePlant$Plant;").before args s = true := hts _ (mC qf_X8_10)
  have f22 : (Cond.fieldLink RX8 22 "IcePlant" "history" "LIcePlant$History;").before args s = true := hts _ (mC qf_X8_22)
  have f208 : (Cond.fieldLink RX8 208 "IcePlant$History" "count" "I").before args s = true := hts _ (mC qf_X8_208)
  have iX2 : ∀ w ∈ wsX20, w ∈ wsX8_total := fun w h => mC (iA_X2 w h)
  have iX8 : ∀ w ∈ wsX80, w ∈ wsX8_total := fun w h => mC (iA_X8 w h)
  unfold f_X8_total at hE
  refine lv_iload_n hx hb dX8_total_0 rfl (lv_at hl 1 rfl) ?_
  refine lv_iconst (v := 0) hx hb dX8_total_1 (by decide) ?_
  refine lv_bipush (v := 15) hx hb dX8_total_2 (by decide) ?_
  obtain ⟨r_1, hc_2, hE⟩ := bd1_el hE
  refine ki (X := []) (Y := (W_All cy aI aT adP adS adB adO adR adA aP aS aB aO aR aA aH ah imT imdP indP imdS imdB imdO imdR imdA indA imP inP imS imB imO imR imA inA imH ihs)) (ws1 := (W_All cy aI aT adP adS adB adO adR adA aP aS aB aO aR aA aH ah imT imdP indP imdS imdB imdO imdR imdA indA imP inP imS imB imO imR imA inA imH ihs)) (rS (X := []) (Y := (W_All cy aI aT adP adS adB adO adR adA aP aS aB aO aR aA aH ah imT imdP indP imdS imdB imdO imdR imdA indA imP inP imS imB imO imR imA inA imH ihs)) (As := [.int x1, .int (0 : Int32), .int (15 : Int32)]) (rest := []) hC (c_X8_isWithin l D cy x1 (0 : Int32) (15 : Int32) r_1 hc_2) (cwS 3 hts gX8_total_X8_isWithin rfl rfl rfl cd_X8_isWithin ⟨Nat.le_of_ble_eq_true rfl, Nat.le_of_ble_eq_true rfl⟩) hK hN hP hD hS hA rfl rfl hl.1 rfl (lv_room (Nat.le_of_ble_eq_true rfl)) dX8_total_4 ⟨Nat.le_of_ble_eq_true rfl, Nat.le_of_ble_eq_true rfl⟩) hP hD hS hA rfl rfl rfl (fun H locs hP hD hS => ?_)
  obtain ⟨k_4, hc_3, hE⟩ := bd1_el hE
  refine kxv (X := []) (Y := (W_All cy aI aT adP adS adB adO adR adA aP aS aB aO aR aA aH ah imT imdP indP imdS imdB imdO imdR imdA indA imP inP imS imB imO imR imA inA imH ihs)) (ws1 := (W_All cy aI aT adP adS adB adO adR adA aP aS aB aO aR aA aH ah imT imdP indP imdS imdB imdO imdR imdA indA imP inP imS imB imO imR imA inA imH ihs)) (xS (X := []) (Y := (W_All cy aI aT adP adS adB adO adR adA aP aS aB aO aR aA aH ah imT imdP indP imdS imdB imdO imdR imdA indA imP inP imS imB imO imR imA inA imH ihs)) (As := [.int r_1]) (rest := []) hC (c_X8_needArgument l hst D cy r_1 k_4 hc_3) (cwS 1 hts gX8_total_X8_needArgument rfl rfl rfl cd_X8_needArgument ⟨Nat.le_of_ble_eq_true rfl, Nat.le_of_ble_eq_true rfl⟩) hK hN hP hD hS hA rfl rfl hl.1 rfl (lv_room (Nat.le_of_ble_eq_true rfl)) dX8_total_7 ⟨Nat.le_of_ble_eq_true rfl, Nat.le_of_ble_eq_true rfl⟩) hP hD hS hA rfl rfl rfl (fun hk0 H locs ce q9 hP hD hS hce hcv hcl => ?_) (fun hk0 H locs hP hD hS => ?_)
  · replace hE := it_f hE hk0
    have hE := Option.some.inj hE
    obtain ⟨q0, q1⟩ := Prod.mk.inj hE
    exact exx htab hlocks hK hP hD hS hce hcv hcl hk0 q0 rfl (Nat.le_of_ble_eq_true rfl) (Nat.le_of_ble_eq_true rfl)
  · replace hE := it_t hE hk0
    refine lv_iload_n hx hb dX8_total_10 rfl (lv_at hl 1 rfl) ?_
    refine lv_bipush (v := 15) hx hb dX8_total_11 (by decide) ?_
    refine lv_icmp_ne (tgt := 27) hx hb dX8_total_13 (by decide) (fun c_5 => ?_) (fun c_5 => ?_)
    · replace hE := it_f hE c_5
      refine lv_aload_n hx hb dX8_total_27 rfl (lv_at hl 0 rfl) ?_
      refine va_get (D := D) (ci := 8) (v := .ref (aP 0)) (C := RX8) (T := TX8) (N := 4) hx hb hts iX8 hown hK hP 0 rfl rfl 0 (by decide) f10 (fun _ h9 => h9) rfl dX8_total_28 ?_
      refine lv_iload_n hx hb dX8_total_31 rfl (lv_at hl 1 rfl) ?_
      obtain ⟨r_6, hc_7, hE⟩ := bd1_el hE
      refine kl (X := ((W_I aI aP adP aH aT) ++ ((W_T cy aT imT) ++ ((W_P cy adP adS adB adO adR adA imdP indP) ++ ((W_S cy adS imdS) ++ ((W_B cy adB imdB) ++ ((W_O cy adO imdO) ++ ((W_R cy adR imdR) ++ (W_A cy adA imdA indA))))))))) (Y := ((W_H cy aH ah imH) ++ (W_HS cy ah ihs))) (ws1 := (W_All cy aI aT adP adS adB adO adR adA aP aS aB aO aR aA aH ah imT imdP indP imdS imdB imdO imdR imdA indA imP inP imS imB imO imR imA inA imH ihs)) (rV (X := ((W_I aI aP adP aH aT) ++ ((W_T cy aT imT) ++ ((W_P cy adP adS adB adO adR adA imdP indP) ++ ((W_S cy adS imdS) ++ ((W_B cy adB imdB) ++ ((W_O cy adO imdO) ++ ((W_R cy adR imdR) ++ (W_A cy adA imdA indA))))))))) (Y := ((W_H cy aH ah imH) ++ (W_HS cy ah ihs))) (As := [.int x1]) (rest := []) hC (c_X4_totalOf l D cy aP aS aB aO aR aA x1 imP inP imS imB imO imR imA inA r_6 hc_7) (cwV 1 hts gX8_total_X4_totalOf rfl rfl rfl cd_X4_totalOf ⟨Nat.le_of_ble_eq_true rfl, Nat.le_of_ble_eq_true rfl⟩) hK hN hP hD hS hA rfl 0 4 rfl rfl rfl hl.1 rfl (lv_room (Nat.le_of_ble_eq_true rfl)) dX8_total_32 ⟨Nat.le_of_ble_eq_true rfl, Nat.le_of_ble_eq_true rfl⟩) hP hD hS hA rfl rfl rfl (fun H locs hP hD hS => ?_)
      have hE := Option.some.inj hE
      obtain ⟨q0, q1⟩ := Prod.mk.inj hE
      exact exl hx hb hr hlocks hK hP hD hS q0 q1 rfl (Nat.le_of_ble_eq_true rfl) (Nat.le_of_ble_eq_true rfl) dX8_total_35
    · replace hE := it_t hE c_5
      refine lv_aload_n hx hb dX8_total_16 rfl (lv_at hl 0 rfl) ?_
      refine va_get (D := D) (ci := 8) (v := .ref (aH 0)) (C := RX8) (T := TX8) (N := 4) hx hb hts iX8 hown hK hP 0 rfl rfl 2 (by decide) f22 (fun _ h9 => h9) rfl dX8_total_17 ?_
      refine va_get (D := D) (ci := 2) (v := .int (imH 1 0)) (C := RX2) (T := TX2) (N := 3) hx hb hts iX2 hown hK hP 76 rfl rfl 1 (by decide) f208 (fun _ h9 => h9) rfl dX8_total_20 ?_
      refine lv_i2l hx hb dX8_total_23 rfl ?_
      refine lv_goto (tgt := 35) hx hb dX8_total_24 (by decide) ?_
      have hE := Option.some.inj hE
      obtain ⟨q0, q1⟩ := Prod.mk.inj hE
      exact exl hx hb hr hlocks hK hP hD hS q0 q1 rfl (Nat.le_of_ble_eq_true rfl) (Nat.le_of_ble_eq_true rfl) dX8_total_35
abbrev rm_X8_massAfter : Room := { frames := 8, cells := 1, slots := 6, locals := 145 }
set_option maxHeartbeats 40000000 in
set_option maxRecDepth 100000 in
theorem c_X8_massAfter (l : Launch) (hst : l.stackTraces = false) (D : va_G) (cy : Nat → Nat) (aI aT adP adS adB adO adR adA aP aS aB aO aR aA aH : Nat → Nat) (ah : Nat → Nat → Nat → Nat) (x1 : Int32) (imT : Mem) (imdP : Mem) (indP : MemL) (imdS : Mem) (imdB : Mem) (imdO : Mem) (imdR : Mem) (imdA : Mem) (indA : MemL) (imP : Mem) (inP : MemL) (imS : Mem) (imB : Mem) (imO : Mem) (imR : Mem) (imA : Mem) (inA : MemL) (imH : Mem) (ihs : (Nat → PSt)) (k' : Nat) (r' : Int32) (mdP' : Mem) (ndP' : MemL) (mdS' : Mem) (mdB' : Mem) (mdO' : Mem) (mdR' : Mem) (mdA' : Mem) (ndA' : MemL) (hE : f_X8_massAfter x1 imT imdP indP imdS imdB imdO imdR imdA indA imP inP imS imB imO imR imA inA imH ihs = some (k', r', mdP', ndP', mdS', mdB', mdO', mdR', mdA', ndA')) : CXI l yX8_massAfter wsX8_massAfter rm_X8_massAfter D cy [.ref (aI 0), .int x1] (W_All cy aI aT adP adS adB adO adR adA aP aS aB aO aR aA aH ah imT imdP indP imdS imdB imdO imdR imdA indA imP inP imS imB imO imR imA inA imH ihs) 1 6 k' r' (W_All cy aI aT adP adS adB adO adR adA aP aS aB aO aR aA aH ah imT mdP' ndP' mdS' mdB' mdO' mdR' mdA' ndA' imP inP imS imB imO imR imA inA imH ihs) := by
  refine CX_of (cc := cX8_massAfter) (maxL := 2) (ret := (some .int)) (by decide) rfl (Nat.le_of_ble_eq_true rfl) (fun p e s m args below meth c A ls hx hb hr hml hlocks hnm hown hts hA htab hK hN hP hD hS hl => ?_)
  have hown : s.vm.findClass RX8 = some m.cls := hown
  have hl : lv_has ls 2 [(0, .ref (aI 0)), (1, .int x1)] := hl
  have hC : CallFix p m c cX8_massAfter 2 s args wsX8_massAfter RX8 := ⟨hx, hb, hml, hown, hts⟩
  have f10 : (Cond.fieldLink RX8 10 "IcePlant" "now" "LIcePlant$Plant;").before args s = true := hts _ (mC qf_X8_10)
  have f16 : (Cond.fieldLink RX8 16 "IcePlant" "trial" "LIcePlant$Plant;").before args s = true := hts _ (mC qf_X8_16)
  have f43 : (Cond.fieldLink RX8 43 "IcePlant$Plant" "store" "LIcePlant$Store;").before args s = true := hts _ (mC qf_X8_43)
  have iX4 : ∀ w ∈ wsX40, w ∈ wsX8_massAfter := fun w h => mC (iA_X4 w h)
  have iX8 : ∀ w ∈ wsX80, w ∈ wsX8_massAfter := fun w h => mC (iA_X8 w h)
  unfold f_X8_massAfter at hE
  refine lv_iload_n hx hb dX8_massAfter_0 rfl (lv_at hl 1 rfl) ?_
  refine lv_iconst (v := 0) hx hb dX8_massAfter_1 (by decide) ?_
  refine lv_bipush (v := 48) hx hb dX8_massAfter_2 (by decide) ?_
  obtain ⟨r_1, hc_2, hE⟩ := bd1_el hE
  refine ki (X := []) (Y := (W_All cy aI aT adP adS adB adO adR adA aP aS aB aO aR aA aH ah imT imdP indP imdS imdB imdO imdR imdA indA imP inP imS imB imO imR imA inA imH ihs)) (ws1 := (W_All cy aI aT adP adS adB adO adR adA aP aS aB aO aR aA aH ah imT imdP indP imdS imdB imdO imdR imdA indA imP inP imS imB imO imR imA inA imH ihs)) (rS (X := []) (Y := (W_All cy aI aT adP adS adB adO adR adA aP aS aB aO aR aA aH ah imT imdP indP imdS imdB imdO imdR imdA indA imP inP imS imB imO imR imA inA imH ihs)) (As := [.int x1, .int (0 : Int32), .int (48 : Int32)]) (rest := []) hC (c_X8_isWithin l D cy x1 (0 : Int32) (48 : Int32) r_1 hc_2) (cwS 3 hts gX8_massAfter_X8_isWithin rfl rfl rfl cd_X8_isWithin ⟨Nat.le_of_ble_eq_true rfl, Nat.le_of_ble_eq_true rfl⟩) hK hN hP hD hS hA rfl rfl hl.1 rfl (lv_room (Nat.le_of_ble_eq_true rfl)) dX8_massAfter_4 ⟨Nat.le_of_ble_eq_true rfl, Nat.le_of_ble_eq_true rfl⟩) hP hD hS hA rfl rfl rfl (fun H locs hP hD hS => ?_)
  obtain ⟨k_4, hc_3, hE⟩ := bd1_el hE
  refine kxv (X := []) (Y := (W_All cy aI aT adP adS adB adO adR adA aP aS aB aO aR aA aH ah imT imdP indP imdS imdB imdO imdR imdA indA imP inP imS imB imO imR imA inA imH ihs)) (ws1 := (W_All cy aI aT adP adS adB adO adR adA aP aS aB aO aR aA aH ah imT imdP indP imdS imdB imdO imdR imdA indA imP inP imS imB imO imR imA inA imH ihs)) (xS (X := []) (Y := (W_All cy aI aT adP adS adB adO adR adA aP aS aB aO aR aA aH ah imT imdP indP imdS imdB imdO imdR imdA indA imP inP imS imB imO imR imA inA imH ihs)) (As := [.int r_1]) (rest := []) hC (c_X8_needArgument l hst D cy r_1 k_4 hc_3) (cwS 1 hts gX8_massAfter_X8_needArgument rfl rfl rfl cd_X8_needArgument ⟨Nat.le_of_ble_eq_true rfl, Nat.le_of_ble_eq_true rfl⟩) hK hN hP hD hS hA rfl rfl hl.1 rfl (lv_room (Nat.le_of_ble_eq_true rfl)) dX8_massAfter_7 ⟨Nat.le_of_ble_eq_true rfl, Nat.le_of_ble_eq_true rfl⟩) hP hD hS hA rfl rfl rfl (fun hk0 H locs ce q9 hP hD hS hce hcv hcl => ?_) (fun hk0 H locs hP hD hS => ?_)
  · replace hE := it_f hE hk0
    have hE := Option.some.inj hE
    obtain ⟨q0, hE⟩ := Prod.mk.inj hE
    obtain ⟨q1, hE⟩ := Prod.mk.inj hE
    obtain ⟨q2, hE⟩ := Prod.mk.inj hE
    obtain ⟨q3, hE⟩ := Prod.mk.inj hE
    obtain ⟨q4, hE⟩ := Prod.mk.inj hE
    obtain ⟨q5, hE⟩ := Prod.mk.inj hE
    obtain ⟨q6, hE⟩ := Prod.mk.inj hE
    obtain ⟨q7, hE⟩ := Prod.mk.inj hE
    obtain ⟨q8, q9⟩ := Prod.mk.inj hE
    exact exx htab hlocks hK hP hD hS hce hcv hcl hk0 q0 (by rw [q2, q3, q4, q5, q6, q7, q8, q9]) (Nat.le_of_ble_eq_true rfl) (Nat.le_of_ble_eq_true rfl)
  · replace hE := it_t hE hk0
    refine lv_aload_n hx hb dX8_massAfter_10 rfl (lv_at hl 0 rfl) ?_
    refine va_get (D := D) (ci := 8) (v := .ref (adP 0)) (C := RX8) (T := TX8) (N := 4) hx hb hts iX8 hown hK hP 0 rfl rfl 1 (by decide) f16 (fun _ h9 => h9) rfl dX8_massAfter_11 ?_
    refine lv_aload_n hx hb dX8_massAfter_14 rfl (lv_at hl 0 rfl) ?_
    refine va_get (D := D) (ci := 8) (v := .ref (aP 0)) (C := RX8) (T := TX8) (N := 4) hx hb hts iX8 hown hK hP 0 rfl rfl 0 (by decide) f10 (fun _ h9 => h9) rfl dX8_massAfter_15 ?_
    obtain ⟨mdP_5, ndP_6, mdS_7, mdB_8, mdO_9, mdR_10, mdA_11, ndA_12, hc_13, hE⟩ := bd8_el hE
    refine kv (X := ((W_I aI aP adP aH aT) ++ (W_T cy aT imT))) (Y := ((W_H cy aH ah imH) ++ (W_HS cy ah ihs))) (ws1 := (W_All cy aI aT adP adS adB adO adR adA aP aS aB aO aR aA aH ah imT mdP_5 ndP_6 mdS_7 mdB_8 mdO_9 mdR_10 mdA_11 ndA_12 imP inP imS imB imO imR imA inA imH ihs)) (rV (X := ((W_I aI aP adP aH aT) ++ (W_T cy aT imT))) (Y := ((W_H cy aH ah imH) ++ (W_HS cy ah ihs))) (As := [.ref (aP 0)]) (rest := []) hC (c_X4_copyFrom l D cy adP adS adB adO adR adA aP aS aB aO aR aA imdP indP imdS imdB imdO imdR imdA indA imP inP imS imB imO imR imA inA mdP_5 ndP_6 mdS_7 mdB_8 mdO_9 mdR_10 mdA_11 ndA_12 hc_13) (cwV 1 hts gX8_massAfter_X4_copyFrom rfl rfl rfl cd_X4_copyFrom ⟨Nat.le_of_ble_eq_true rfl, Nat.le_of_ble_eq_true rfl⟩) hK hN hP hD hS hA rfl 0 4 rfl rfl rfl hl.1 rfl (lv_room (Nat.le_of_ble_eq_true rfl)) dX8_massAfter_18 ⟨Nat.le_of_ble_eq_true rfl, Nat.le_of_ble_eq_true rfl⟩) hP hD hS hA rfl rfl rfl (fun H locs hP hD hS => ?_)
    refine lv_aload_n hx hb dX8_massAfter_21 rfl (lv_at hl 0 rfl) ?_
    refine va_get (D := D) (ci := 8) (v := .ref (adP 0)) (C := RX8) (T := TX8) (N := 4) hx hb hts iX8 hown hK hP 0 rfl rfl 1 (by decide) f16 (fun _ h9 => h9) rfl dX8_massAfter_22 ?_
    refine lv_iload_n hx hb dX8_massAfter_25 rfl (lv_at hl 1 rfl) ?_
    obtain ⟨r_14, mdP_15, ndP_16, mdS_17, mdB_18, mdO_19, mdR_20, mdA_21, ndA_22, hc_23, hE⟩ := bd9_el hE
    refine ki (X := ((W_I aI aP adP aH aT) ++ (W_T cy aT imT))) (Y := ((W_P cy aP aS aB aO aR aA imP inP) ++ ((W_S cy aS imS) ++ ((W_B cy aB imB) ++ ((W_O cy aO imO) ++ ((W_R cy aR imR) ++ ((W_A cy aA imA inA) ++ ((W_H cy aH ah imH) ++ (W_HS cy ah ihs))))))))) (ws1 := (W_All cy aI aT adP adS adB adO adR adA aP aS aB aO aR aA aH ah imT mdP_15 ndP_16 mdS_17 mdB_18 mdO_19 mdR_20 mdA_21 ndA_22 imP inP imS imB imO imR imA inA imH ihs)) (rV (X := ((W_I aI aP adP aH aT) ++ (W_T cy aT imT))) (Y := ((W_P cy aP aS aB aO aR aA imP inP) ++ ((W_S cy aS imS) ++ ((W_B cy aB imB) ++ ((W_O cy aO imO) ++ ((W_R cy aR imR) ++ ((W_A cy aA imA inA) ++ ((W_H cy aH ah imH) ++ (W_HS cy ah ihs))))))))) (As := [.int x1]) (rest := []) hC (c_X4_letPass l D cy adP adS adB adO adR adA x1 mdP_5 ndP_6 mdS_7 mdB_8 mdO_9 mdR_10 mdA_11 ndA_12 r_14 mdP_15 ndP_16 mdS_17 mdB_18 mdO_19 mdR_20 mdA_21 ndA_22 hc_23) (cwV 1 hts gX8_massAfter_X4_letPass rfl rfl rfl cd_X4_letPass ⟨Nat.le_of_ble_eq_true rfl, Nat.le_of_ble_eq_true rfl⟩) hK hN hP hD hS hA rfl 0 4 rfl rfl rfl hl.1 rfl (lv_room (Nat.le_of_ble_eq_true rfl)) dX8_massAfter_26 ⟨Nat.le_of_ble_eq_true rfl, Nat.le_of_ble_eq_true rfl⟩) hP hD hS hA rfl rfl rfl (fun H locs hP hD hS => ?_)
    refine lv_pop hx hb dX8_massAfter_29 rfl ?_
    refine lv_aload_n hx hb dX8_massAfter_30 rfl (lv_at hl 0 rfl) ?_
    refine va_get (D := D) (ci := 8) (v := .ref (adP 0)) (C := RX8) (T := TX8) (N := 4) hx hb hts iX8 hown hK hP 0 rfl rfl 1 (by decide) f16 (fun _ h9 => h9) rfl dX8_massAfter_31 ?_
    refine va_get (D := D) (ci := 4) (v := .ref (adS 0)) (C := RX4) (T := TX4) (N := 13) hx hb hts iX4 hown hK hP 4 rfl rfl 2 (by decide) f43 (fun _ h9 => h9) rfl dX8_massAfter_34 ?_
    obtain ⟨r_24, hc_25, hE⟩ := bd1_el hE
    refine ki (X := ((W_I aI aP adP aH aT) ++ ((W_T cy aT imT) ++ (W_P cy adP adS adB adO adR adA mdP_15 ndP_16)))) (Y := ((W_B cy adB mdB_18) ++ ((W_O cy adO mdO_19) ++ ((W_R cy adR mdR_20) ++ ((W_A cy adA mdA_21 ndA_22) ++ ((W_P cy aP aS aB aO aR aA imP inP) ++ ((W_S cy aS imS) ++ ((W_B cy aB imB) ++ ((W_O cy aO imO) ++ ((W_R cy aR imR) ++ ((W_A cy aA imA inA) ++ ((W_H cy aH ah imH) ++ (W_HS cy ah ihs))))))))))))) (ws1 := (W_All cy aI aT adP adS adB adO adR adA aP aS aB aO aR aA aH ah imT mdP_15 ndP_16 mdS_17 mdB_18 mdO_19 mdR_20 mdA_21 ndA_22 imP inP imS imB imO imR imA inA imH ihs)) (rV (X := ((W_I aI aP adP aH aT) ++ ((W_T cy aT imT) ++ (W_P cy adP adS adB adO adR adA mdP_15 ndP_16)))) (Y := ((W_B cy adB mdB_18) ++ ((W_O cy adO mdO_19) ++ ((W_R cy adR mdR_20) ++ ((W_A cy adA mdA_21 ndA_22) ++ ((W_P cy aP aS aB aO aR aA imP inP) ++ ((W_S cy aS imS) ++ ((W_B cy aB imB) ++ ((W_O cy aO imO) ++ ((W_R cy aR imR) ++ ((W_A cy aA imA inA) ++ ((W_H cy aH ah imH) ++ (W_HS cy ah ihs))))))))))))) (As := []) (rest := []) hC (c_X6_mass l D cy adS mdS_17 r_24 hc_25) (cwV 0 hts gX8_massAfter_X6_mass rfl rfl rfl cd_X6_mass ⟨Nat.le_of_ble_eq_true rfl, Nat.le_of_ble_eq_true rfl⟩) hK hN hP hD hS hA rfl 0 6 rfl rfl rfl hl.1 rfl (lv_room (Nat.le_of_ble_eq_true rfl)) dX8_massAfter_37 ⟨Nat.le_of_ble_eq_true rfl, Nat.le_of_ble_eq_true rfl⟩) hP hD hS hA rfl rfl rfl (fun H locs hP hD hS => ?_)
    have hE := Option.some.inj hE
    obtain ⟨q0, hE⟩ := Prod.mk.inj hE
    obtain ⟨q1, hE⟩ := Prod.mk.inj hE
    obtain ⟨q2, hE⟩ := Prod.mk.inj hE
    obtain ⟨q3, hE⟩ := Prod.mk.inj hE
    obtain ⟨q4, hE⟩ := Prod.mk.inj hE
    obtain ⟨q5, hE⟩ := Prod.mk.inj hE
    obtain ⟨q6, hE⟩ := Prod.mk.inj hE
    obtain ⟨q7, hE⟩ := Prod.mk.inj hE
    obtain ⟨q8, q9⟩ := Prod.mk.inj hE
    exact exi hx hb hr hlocks hK hP hD hS q0 q1 (by rw [q2, q3, q4, q5, q6, q7, q8, q9]) (Nat.le_of_ble_eq_true rfl) (Nat.le_of_ble_eq_true rfl) dX8_massAfter_40
abbrev rm_X8_completeIn : Room := { frames := 8, cells := 2, slots := 12, locals := 122 }
set_option maxHeartbeats 40000000 in
set_option maxRecDepth 100000 in
theorem c_X8_completeIn (l : Launch) (hst : l.stackTraces = false) (D : va_G) (cy : Nat → Nat) (aI aT adP adS adB adO adR adA aP aS aB aO aR aA aH : Nat → Nat) (ah : Nat → Nat → Nat → Nat) (x1 : Int32) (imT : Mem) (imdP : Mem) (indP : MemL) (imdS : Mem) (imdB : Mem) (imdO : Mem) (imdR : Mem) (imdA : Mem) (indA : MemL) (imP : Mem) (inP : MemL) (imS : Mem) (imB : Mem) (imO : Mem) (imR : Mem) (imA : Mem) (inA : MemL) (imH : Mem) (ihs : (Nat → PSt)) (k' : Nat) (r' : Int32) (mdP' : Mem) (ndP' : MemL) (mdS' : Mem) (mdB' : Mem) (mdO' : Mem) (mdR' : Mem) (mdA' : Mem) (ndA' : MemL) (hE : f_X8_completeIn x1 imT imdP indP imdS imdB imdO imdR imdA indA imP inP imS imB imO imR imA inA imH ihs = some (k', r', mdP', ndP', mdS', mdB', mdO', mdR', mdA', ndA')) : CXI l yX8_completeIn wsX8_completeIn rm_X8_completeIn D cy [.ref (aI 0), .int x1] (W_All cy aI aT adP adS adB adO adR adA aP aS aB aO aR aA aH ah imT imdP indP imdS imdB imdO imdR imdA indA imP inP imS imB imO imR imA inA imH ihs) 2 12 k' r' (W_All cy aI aT adP adS adB adO adR adA aP aS aB aO aR aA aH ah imT mdP' ndP' mdS' mdB' mdO' mdR' mdA' ndA' imP inP imS imB imO imR imA inA imH ihs) := by
  refine CX_of (cc := cX8_completeIn) (maxL := 3) (ret := (some .int)) (by decide) rfl (Nat.le_of_ble_eq_true rfl) (fun p e s m args below meth c A ls hx hb hr hml hlocks hnm hown hts hA htab hK hN hP hD hS hl => ?_)
  have hown : s.vm.findClass RX8 = some m.cls := hown
  have hl : lv_has ls 3 [(0, .ref (aI 0)), (1, .int x1)] := hl
  have hC : CallFix p m c cX8_completeIn 3 s args wsX8_completeIn RX8 := ⟨hx, hb, hml, hown, hts⟩
  have f10 : (Cond.fieldLink RX8 10 "IcePlant" "now" "LIcePlant$Plant;").before args s = true := hts _ (mC qf_X8_10)
  have f16 : (Cond.fieldLink RX8 16 "IcePlant" "trial" "LIcePlant$Plant;").before args s = true := hts _ (mC qf_X8_16)
  have f135 : (Cond.fieldLink RX8 135 "IcePlant$Plant" "orders" "LIcePlant$Orders;").before args s = true := hts _ (mC qf_X8_135)
  have iX4 : ∀ w ∈ wsX40, w ∈ wsX8_completeIn := fun w h => mC (iA_X4 w h)
  have iX8 : ∀ w ∈ wsX80, w ∈ wsX8_completeIn := fun w h => mC (iA_X8 w h)
  have h41 : ∀ (x1 : Int32), ∀ (n : Nat), ∀ (x2 : Int32) (mdP : Mem) (ndP : MemL) (mdS : Mem) (mdB : Mem) (mdO : Mem) (mdR : Mem) (mdA : Mem) (ndA : MemL) (H : Heap) (locs : List Loc) (ls : Array Slot), f_X8_completeIn_L41 x1 imT imP inP imS imB imO imR imA inA imH ihs n x2 mdP ndP mdS mdB mdO mdR mdA ndA = some (k', r', mdP', ndP', mdS', mdB', mdO', mdR', mdA', ndA') → va_P D vwCl (W_All cy aI aT adP adS adB adO adR adA aP aS aB aO aR aA aH ah imT mdP ndP mdS mdB mdO mdR mdA ndA imP inP imS imB imO imR imA inA imH ihs) H → va_D A (W_All cy aI aT adP adS adB adO adR adA aP aS aB aO aR aA aH ah imT mdP ndP mdS mdB mdO mdR mdA ndA imP inP imS imB imO imR imA inA imH ihs) → va_S A s.heap H locs → lv_has ls 3 [(0, .ref (aI 0)), (1, .int x1), (2, .int x2)] → W p l e rm_X8_completeIn s m args below meth c H locs 2 12 (vx_MQ below (QXI D cy k' r' (W_All cy aI aT adP adS adB adO adR adA aP aS aB aO aR aA aH ah imT mdP' ndP' mdS' mdB' mdO' mdR' mdA' ndA' imP inP imS imB imO imR imA inA imH ihs) A) (XX D cy k' (W_All cy aI aT adP adS adB adO adR adA aP aS aB aO aR aA aH ah imT mdP' ndP' mdS' mdB' mdO' mdR' mdA' ndA' imP inP imS imB imO imR imA inA imH ihs) A) args s 2 12 A) (F0 m 41 ls []) := by
    intro x1 n
    induction n with
    | zero => intro x2 mdP ndP mdS mdB mdO mdR mdA ndA H locs ls hE; exact absurd hE (fun h9 => nomatch h9)
    | succ n ih =>
      intro x2 mdP ndP mdS mdB mdO mdR mdA ndA H locs ls hE hP hD hS hl
      replace hE : ((if (48 : Int32) < x2 then some (0, (-1 : Int32), mdP, ndP, mdS, mdB, mdO, mdR, mdA, ndA) else bd1 (f_X3_isOpen x1 mdO) fun r_2 => (if r_2 = 0 then some (0, (-1 : Int32), mdP, ndP, mdS, mdB, mdO, mdR, mdA, ndA) else bd8 (f_X4_passHour mdP ndP mdS mdB mdO mdR mdA ndA) fun mdP_5 ndP_6 mdS_7 mdB_8 mdO_9 mdR_10 mdA_11 ndA_12 => bd1 (f_X3_isComplete x1 mdO_9) fun r_14 => (if r_14 = 0 then lt' (x2 + (1 : Int32)) fun x2_17 => (f_X8_completeIn_L41 x1 imT imP inP imS imB imO imR imA inA imH ihs n) x2_17 mdP_5 ndP_6 mdS_7 mdB_8 mdO_9 mdR_10 mdA_11 ndA_12 else some (0, x2, mdP_5, ndP_6, mdS_7, mdB_8, mdO_9, mdR_10, mdA_11, ndA_12))))) = some (k', r', mdP', ndP', mdS', mdB', mdO', mdR', mdA', ndA') := hE
      refine lv_iload_n hx hb dX8_completeIn_41 rfl (lv_at hl 2 rfl) ?_
      refine lv_bipush (v := 48) hx hb dX8_completeIn_42 (by decide) ?_
      refine lv_icmp_gt (tgt := 90) hx hb dX8_completeIn_44 (by decide) (fun c_1 => ?_) (fun c_1 => ?_)
      · replace hE := it_t hE c_1
        refine lv_iconst (v := (-1)) hx hb dX8_completeIn_90 (by decide) ?_
        have hE := Option.some.inj hE
        obtain ⟨q0, hE⟩ := Prod.mk.inj hE
        obtain ⟨q1, hE⟩ := Prod.mk.inj hE
        obtain ⟨q2, hE⟩ := Prod.mk.inj hE
        obtain ⟨q3, hE⟩ := Prod.mk.inj hE
        obtain ⟨q4, hE⟩ := Prod.mk.inj hE
        obtain ⟨q5, hE⟩ := Prod.mk.inj hE
        obtain ⟨q6, hE⟩ := Prod.mk.inj hE
        obtain ⟨q7, hE⟩ := Prod.mk.inj hE
        obtain ⟨q8, q9⟩ := Prod.mk.inj hE
        exact exi hx hb hr hlocks hK hP hD hS q0 q1 (by rw [q2, q3, q4, q5, q6, q7, q8, q9]) (Nat.le_of_ble_eq_true rfl) (Nat.le_of_ble_eq_true rfl) dX8_completeIn_91
      · replace hE := it_f hE c_1
        refine lv_aload_n hx hb dX8_completeIn_47 rfl (lv_at hl 0 rfl) ?_
        refine va_get (D := D) (ci := 8) (v := .ref (adP 0)) (C := RX8) (T := TX8) (N := 4) hx hb hts iX8 hown hK hP 0 rfl rfl 1 (by decide) f16 (fun _ h9 => h9) rfl dX8_completeIn_48 ?_
        refine va_get (D := D) (ci := 4) (v := .ref (adO 0)) (C := RX4) (T := TX4) (N := 13) hx hb hts iX4 hown hK hP 4 rfl rfl 4 (by decide) f135 (fun _ h9 => h9) rfl dX8_completeIn_51 ?_
        refine lv_iload_n hx hb dX8_completeIn_54 rfl (lv_at hl 1 rfl) ?_
        obtain ⟨r_2, hc_3, hE⟩ := bd1_el hE
        refine ki (X := ((W_I aI aP adP aH aT) ++ ((W_T cy aT imT) ++ ((W_P cy adP adS adB adO adR adA mdP ndP) ++ ((W_S cy adS mdS) ++ (W_B cy adB mdB)))))) (Y := ((W_R cy adR mdR) ++ ((W_A cy adA mdA ndA) ++ ((W_P cy aP aS aB aO aR aA imP inP) ++ ((W_S cy aS imS) ++ ((W_B cy aB imB) ++ ((W_O cy aO imO) ++ ((W_R cy aR imR) ++ ((W_A cy aA imA inA) ++ ((W_H cy aH ah imH) ++ (W_HS cy ah ihs))))))))))) (ws1 := (W_All cy aI aT adP adS adB adO adR adA aP aS aB aO aR aA aH ah imT mdP ndP mdS mdB mdO mdR mdA ndA imP inP imS imB imO imR imA inA imH ihs)) (rV (X := ((W_I aI aP adP aH aT) ++ ((W_T cy aT imT) ++ ((W_P cy adP adS adB adO adR adA mdP ndP) ++ ((W_S cy adS mdS) ++ (W_B cy adB mdB)))))) (Y := ((W_R cy adR mdR) ++ ((W_A cy adA mdA ndA) ++ ((W_P cy aP aS aB aO aR aA imP inP) ++ ((W_S cy aS imS) ++ ((W_B cy aB imB) ++ ((W_O cy aO imO) ++ ((W_R cy aR imR) ++ ((W_A cy aA imA inA) ++ ((W_H cy aH ah imH) ++ (W_HS cy ah ihs))))))))))) (As := [.int x1]) (rest := []) hC (c_X3_isOpen l D cy adO x1 mdO r_2 hc_3) (cwV 1 hts gX8_completeIn_X3_isOpen rfl rfl rfl cd_X3_isOpen ⟨Nat.le_of_ble_eq_true rfl, Nat.le_of_ble_eq_true rfl⟩) hK hN hP hD hS hA rfl 0 3 rfl rfl rfl hl.1 rfl (lv_room (Nat.le_of_ble_eq_true rfl)) dX8_completeIn_55 ⟨Nat.le_of_ble_eq_true rfl, Nat.le_of_ble_eq_true rfl⟩) hP hD hS hA rfl rfl rfl (fun H locs hP hD hS => ?_)
        refine lv_if_eq (tgt := 90) hx hb dX8_completeIn_58 (by decide) (fun c_4 => ?_) (fun c_4 => ?_)
        · replace hE := it_t hE c_4
          refine lv_iconst (v := (-1)) hx hb dX8_completeIn_90 (by decide) ?_
          have hE := Option.some.inj hE
          obtain ⟨q0, hE⟩ := Prod.mk.inj hE
          obtain ⟨q1, hE⟩ := Prod.mk.inj hE
          obtain ⟨q2, hE⟩ := Prod.mk.inj hE
          obtain ⟨q3, hE⟩ := Prod.mk.inj hE
          obtain ⟨q4, hE⟩ := Prod.mk.inj hE
          obtain ⟨q5, hE⟩ := Prod.mk.inj hE
          obtain ⟨q6, hE⟩ := Prod.mk.inj hE
          obtain ⟨q7, hE⟩ := Prod.mk.inj hE
          obtain ⟨q8, q9⟩ := Prod.mk.inj hE
          exact exi hx hb hr hlocks hK hP hD hS q0 q1 (by rw [q2, q3, q4, q5, q6, q7, q8, q9]) (Nat.le_of_ble_eq_true rfl) (Nat.le_of_ble_eq_true rfl) dX8_completeIn_91
        · replace hE := it_f hE c_4
          refine lv_aload_n hx hb dX8_completeIn_61 rfl (lv_at hl 0 rfl) ?_
          refine va_get (D := D) (ci := 8) (v := .ref (adP 0)) (C := RX8) (T := TX8) (N := 4) hx hb hts iX8 hown hK hP 0 rfl rfl 1 (by decide) f16 (fun _ h9 => h9) rfl dX8_completeIn_62 ?_
          obtain ⟨mdP_5, ndP_6, mdS_7, mdB_8, mdO_9, mdR_10, mdA_11, ndA_12, hc_13, hE⟩ := bd8_el hE
          refine kv (X := ((W_I aI aP adP aH aT) ++ (W_T cy aT imT))) (Y := ((W_P cy aP aS aB aO aR aA imP inP) ++ ((W_S cy aS imS) ++ ((W_B cy aB imB) ++ ((W_O cy aO imO) ++ ((W_R cy aR imR) ++ ((W_A cy aA imA inA) ++ ((W_H cy aH ah imH) ++ (W_HS cy ah ihs))))))))) (ws1 := (W_All cy aI aT adP adS adB adO adR adA aP aS aB aO aR aA aH ah imT mdP_5 ndP_6 mdS_7 mdB_8 mdO_9 mdR_10 mdA_11 ndA_12 imP inP imS imB imO imR imA inA imH ihs)) (rV (X := ((W_I aI aP adP aH aT) ++ (W_T cy aT imT))) (Y := ((W_P cy aP aS aB aO aR aA imP inP) ++ ((W_S cy aS imS) ++ ((W_B cy aB imB) ++ ((W_O cy aO imO) ++ ((W_R cy aR imR) ++ ((W_A cy aA imA inA) ++ ((W_H cy aH ah imH) ++ (W_HS cy ah ihs))))))))) (As := []) (rest := []) hC (c_X4_passHour l D cy adP adS adB adO adR adA mdP ndP mdS mdB mdO mdR mdA ndA mdP_5 ndP_6 mdS_7 mdB_8 mdO_9 mdR_10 mdA_11 ndA_12 hc_13) (cwV 0 hts gX8_completeIn_X4_passHour rfl rfl rfl cd_X4_passHour ⟨Nat.le_of_ble_eq_true rfl, Nat.le_of_ble_eq_true rfl⟩) hK hN hP hD hS hA rfl 0 4 rfl rfl rfl hl.1 rfl (lv_room (Nat.le_of_ble_eq_true rfl)) dX8_completeIn_65 ⟨Nat.le_of_ble_eq_true rfl, Nat.le_of_ble_eq_true rfl⟩) hP hD hS hA rfl rfl rfl (fun H locs hP hD hS => ?_)
          refine lv_aload_n hx hb dX8_completeIn_68 rfl (lv_at hl 0 rfl) ?_
          refine va_get (D := D) (ci := 8) (v := .ref (adP 0)) (C := RX8) (T := TX8) (N := 4) hx hb hts iX8 hown hK hP 0 rfl rfl 1 (by decide) f16 (fun _ h9 => h9) rfl dX8_completeIn_69 ?_
          refine va_get (D := D) (ci := 4) (v := .ref (adO 0)) (C := RX4) (T := TX4) (N := 13) hx hb hts iX4 hown hK hP 4 rfl rfl 4 (by decide) f135 (fun _ h9 => h9) rfl dX8_completeIn_72 ?_
          refine lv_iload_n hx hb dX8_completeIn_75 rfl (lv_at hl 1 rfl) ?_
          obtain ⟨r_14, hc_15, hE⟩ := bd1_el hE
          refine ki (X := ((W_I aI aP adP aH aT) ++ ((W_T cy aT imT) ++ ((W_P cy adP adS adB adO adR adA mdP_5 ndP_6) ++ ((W_S cy adS mdS_7) ++ (W_B cy adB mdB_8)))))) (Y := ((W_R cy adR mdR_10) ++ ((W_A cy adA mdA_11 ndA_12) ++ ((W_P cy aP aS aB aO aR aA imP inP) ++ ((W_S cy aS imS) ++ ((W_B cy aB imB) ++ ((W_O cy aO imO) ++ ((W_R cy aR imR) ++ ((W_A cy aA imA inA) ++ ((W_H cy aH ah imH) ++ (W_HS cy ah ihs))))))))))) (ws1 := (W_All cy aI aT adP adS adB adO adR adA aP aS aB aO aR aA aH ah imT mdP_5 ndP_6 mdS_7 mdB_8 mdO_9 mdR_10 mdA_11 ndA_12 imP inP imS imB imO imR imA inA imH ihs)) (rV (X := ((W_I aI aP adP aH aT) ++ ((W_T cy aT imT) ++ ((W_P cy adP adS adB adO adR adA mdP_5 ndP_6) ++ ((W_S cy adS mdS_7) ++ (W_B cy adB mdB_8)))))) (Y := ((W_R cy adR mdR_10) ++ ((W_A cy adA mdA_11 ndA_12) ++ ((W_P cy aP aS aB aO aR aA imP inP) ++ ((W_S cy aS imS) ++ ((W_B cy aB imB) ++ ((W_O cy aO imO) ++ ((W_R cy aR imR) ++ ((W_A cy aA imA inA) ++ ((W_H cy aH ah imH) ++ (W_HS cy ah ihs))))))))))) (As := [.int x1]) (rest := []) hC (c_X3_isComplete l D cy adO x1 mdO_9 r_14 hc_15) (cwV 1 hts gX8_completeIn_X3_isComplete rfl rfl rfl cd_X3_isComplete ⟨Nat.le_of_ble_eq_true rfl, Nat.le_of_ble_eq_true rfl⟩) hK hN hP hD hS hA rfl 0 3 rfl rfl rfl hl.1 rfl (lv_room (Nat.le_of_ble_eq_true rfl)) dX8_completeIn_76 ⟨Nat.le_of_ble_eq_true rfl, Nat.le_of_ble_eq_true rfl⟩) hP hD hS hA rfl rfl rfl (fun H locs hP hD hS => ?_)
          refine lv_if_eq (tgt := 84) hx hb dX8_completeIn_79 (by decide) (fun c_16 => ?_) (fun c_16 => ?_)
          · replace hE := it_t hE c_16
            obtain ⟨x2_17, e_x2_17, hE⟩ := lt_el hE
            refine lv_iinc (v := x2_17) (lv' := [(2, .int x2_17), (0, .ref (aI 0)), (1, .int x1)]) hx hb dX8_completeIn_84 hl (k := 2) rfl (by rw [e_x2_17]; rfl) (by decide) rfl (fun ls hl => ?_)
            refine lv_goto (tgt := 41) hx hb dX8_completeIn_87 (by decide) ?_
            refine W.widen (k := 2) (n := 12) (Nat.le_of_ble_eq_true rfl) (Nat.le_of_ble_eq_true rfl) ?_
            exact ih x2_17 mdP_5 ndP_6 mdS_7 mdB_8 mdO_9 mdR_10 mdA_11 ndA_12 _ _ _ hE hP hD hS (lv_sub hl [1, 2, 0] rfl)
          · replace hE := it_f hE c_16
            refine lv_iload_n hx hb dX8_completeIn_82 rfl (lv_at hl 2 rfl) ?_
            have hE := Option.some.inj hE
            obtain ⟨q0, hE⟩ := Prod.mk.inj hE
            obtain ⟨q1, hE⟩ := Prod.mk.inj hE
            obtain ⟨q2, hE⟩ := Prod.mk.inj hE
            obtain ⟨q3, hE⟩ := Prod.mk.inj hE
            obtain ⟨q4, hE⟩ := Prod.mk.inj hE
            obtain ⟨q5, hE⟩ := Prod.mk.inj hE
            obtain ⟨q6, hE⟩ := Prod.mk.inj hE
            obtain ⟨q7, hE⟩ := Prod.mk.inj hE
            obtain ⟨q8, q9⟩ := Prod.mk.inj hE
            exact exi hx hb hr hlocks hK hP hD hS q0 q1 (by rw [q2, q3, q4, q5, q6, q7, q8, q9]) (Nat.le_of_ble_eq_true rfl) (Nat.le_of_ble_eq_true rfl) dX8_completeIn_83
  unfold f_X8_completeIn at hE
  refine lv_aload_n hx hb dX8_completeIn_0 rfl (lv_at hl 0 rfl) ?_
  refine va_get (D := D) (ci := 8) (v := .ref (aP 0)) (C := RX8) (T := TX8) (N := 4) hx hb hts iX8 hown hK hP 0 rfl rfl 0 (by decide) f10 (fun _ h9 => h9) rfl dX8_completeIn_1 ?_
  refine va_get (D := D) (ci := 4) (v := .ref (aO 0)) (C := RX4) (T := TX4) (N := 13) hx hb hts iX4 hown hK hP 40 rfl rfl 4 (by decide) f135 (fun _ h9 => h9) rfl dX8_completeIn_4 ?_
  refine lv_iload_n hx hb dX8_completeIn_7 rfl (lv_at hl 1 rfl) ?_
  obtain ⟨r_18, hc_19, hE⟩ := bd1_el hE
  refine ki (X := ((W_I aI aP adP aH aT) ++ ((W_T cy aT imT) ++ ((W_P cy adP adS adB adO adR adA imdP indP) ++ ((W_S cy adS imdS) ++ ((W_B cy adB imdB) ++ ((W_O cy adO imdO) ++ ((W_R cy adR imdR) ++ ((W_A cy adA imdA indA) ++ ((W_P cy aP aS aB aO aR aA imP inP) ++ ((W_S cy aS imS) ++ (W_B cy aB imB)))))))))))) (Y := ((W_R cy aR imR) ++ ((W_A cy aA imA inA) ++ ((W_H cy aH ah imH) ++ (W_HS cy ah ihs))))) (ws1 := (W_All cy aI aT adP adS adB adO adR adA aP aS aB aO aR aA aH ah imT imdP indP imdS imdB imdO imdR imdA indA imP inP imS imB imO imR imA inA imH ihs)) (rV (X := ((W_I aI aP adP aH aT) ++ ((W_T cy aT imT) ++ ((W_P cy adP adS adB adO adR adA imdP indP) ++ ((W_S cy adS imdS) ++ ((W_B cy adB imdB) ++ ((W_O cy adO imdO) ++ ((W_R cy adR imdR) ++ ((W_A cy adA imdA indA) ++ ((W_P cy aP aS aB aO aR aA imP inP) ++ ((W_S cy aS imS) ++ (W_B cy aB imB)))))))))))) (Y := ((W_R cy aR imR) ++ ((W_A cy aA imA inA) ++ ((W_H cy aH ah imH) ++ (W_HS cy ah ihs))))) (As := [.int x1]) (rest := []) hC (c_X3_has l D cy aO x1 imO r_18 hc_19) (cwV 1 hts gX8_completeIn_X3_has rfl rfl rfl cd_X3_has ⟨Nat.le_of_ble_eq_true rfl, Nat.le_of_ble_eq_true rfl⟩) hK hN hP hD hS hA rfl 0 3 rfl rfl rfl hl.1 rfl (lv_room (Nat.le_of_ble_eq_true rfl)) dX8_completeIn_8 ⟨Nat.le_of_ble_eq_true rfl, Nat.le_of_ble_eq_true rfl⟩) hP hD hS hA rfl rfl rfl (fun H locs hP hD hS => ?_)
  obtain ⟨k_21, hc_20, hE⟩ := bd1_el hE
  refine kxv (X := []) (Y := (W_All cy aI aT adP adS adB adO adR adA aP aS aB aO aR aA aH ah imT imdP indP imdS imdB imdO imdR imdA indA imP inP imS imB imO imR imA inA imH ihs)) (ws1 := (W_All cy aI aT adP adS adB adO adR adA aP aS aB aO aR aA aH ah imT imdP indP imdS imdB imdO imdR imdA indA imP inP imS imB imO imR imA inA imH ihs)) (xS (X := []) (Y := (W_All cy aI aT adP adS adB adO adR adA aP aS aB aO aR aA aH ah imT imdP indP imdS imdB imdO imdR imdA indA imP inP imS imB imO imR imA inA imH ihs)) (As := [.int r_18]) (rest := []) hC (c_X8_needItem l hst D cy r_18 k_21 hc_20) (cwS 1 hts gX8_completeIn_X8_needItem rfl rfl rfl cd_X8_needItem ⟨Nat.le_of_ble_eq_true rfl, Nat.le_of_ble_eq_true rfl⟩) hK hN hP hD hS hA rfl rfl hl.1 rfl (lv_room (Nat.le_of_ble_eq_true rfl)) dX8_completeIn_11 ⟨Nat.le_of_ble_eq_true rfl, Nat.le_of_ble_eq_true rfl⟩) hP hD hS hA rfl rfl rfl (fun hk0 H locs ce q9 hP hD hS hce hcv hcl => ?_) (fun hk0 H locs hP hD hS => ?_)
  · replace hE := it_f hE hk0
    have hE := Option.some.inj hE
    obtain ⟨q0, hE⟩ := Prod.mk.inj hE
    obtain ⟨q1, hE⟩ := Prod.mk.inj hE
    obtain ⟨q2, hE⟩ := Prod.mk.inj hE
    obtain ⟨q3, hE⟩ := Prod.mk.inj hE
    obtain ⟨q4, hE⟩ := Prod.mk.inj hE
    obtain ⟨q5, hE⟩ := Prod.mk.inj hE
    obtain ⟨q6, hE⟩ := Prod.mk.inj hE
    obtain ⟨q7, hE⟩ := Prod.mk.inj hE
    obtain ⟨q8, q9⟩ := Prod.mk.inj hE
    exact exx htab hlocks hK hP hD hS hce hcv hcl hk0 q0 (by rw [q2, q3, q4, q5, q6, q7, q8, q9]) (Nat.le_of_ble_eq_true rfl) (Nat.le_of_ble_eq_true rfl)
  · replace hE := it_t hE hk0
    refine lv_aload_n hx hb dX8_completeIn_14 rfl (lv_at hl 0 rfl) ?_
    refine va_get (D := D) (ci := 8) (v := .ref (aP 0)) (C := RX8) (T := TX8) (N := 4) hx hb hts iX8 hown hK hP 0 rfl rfl 0 (by decide) f10 (fun _ h9 => h9) rfl dX8_completeIn_15 ?_
    refine va_get (D := D) (ci := 4) (v := .ref (aO 0)) (C := RX4) (T := TX4) (N := 13) hx hb hts iX4 hown hK hP 40 rfl rfl 4 (by decide) f135 (fun _ h9 => h9) rfl dX8_completeIn_18 ?_
    refine lv_iload_n hx hb dX8_completeIn_21 rfl (lv_at hl 1 rfl) ?_
    obtain ⟨r_22, hc_23, hE⟩ := bd1_el hE
    refine ki (X := ((W_I aI aP adP aH aT) ++ ((W_T cy aT imT) ++ ((W_P cy adP adS adB adO adR adA imdP indP) ++ ((W_S cy adS imdS) ++ ((W_B cy adB imdB) ++ ((W_O cy adO imdO) ++ ((W_R cy adR imdR) ++ ((W_A cy adA imdA indA) ++ ((W_P cy aP aS aB aO aR aA imP inP) ++ ((W_S cy aS imS) ++ (W_B cy aB imB)))))))))))) (Y := ((W_R cy aR imR) ++ ((W_A cy aA imA inA) ++ ((W_H cy aH ah imH) ++ (W_HS cy ah ihs))))) (ws1 := (W_All cy aI aT adP adS adB adO adR adA aP aS aB aO aR aA aH ah imT imdP indP imdS imdB imdO imdR imdA indA imP inP imS imB imO imR imA inA imH ihs)) (rV (X := ((W_I aI aP adP aH aT) ++ ((W_T cy aT imT) ++ ((W_P cy adP adS adB adO adR adA imdP indP) ++ ((W_S cy adS imdS) ++ ((W_B cy adB imdB) ++ ((W_O cy adO imdO) ++ ((W_R cy adR imdR) ++ ((W_A cy adA imdA indA) ++ ((W_P cy aP aS aB aO aR aA imP inP) ++ ((W_S cy aS imS) ++ (W_B cy aB imB)))))))))))) (Y := ((W_R cy aR imR) ++ ((W_A cy aA imA inA) ++ ((W_H cy aH ah imH) ++ (W_HS cy ah ihs))))) (As := [.int x1]) (rest := []) hC (c_X3_isOpen l D cy aO x1 imO r_22 hc_23) (cwV 1 hts gX8_completeIn_X3_isOpen rfl rfl rfl cd_X3_isOpen ⟨Nat.le_of_ble_eq_true rfl, Nat.le_of_ble_eq_true rfl⟩) hK hN hP hD hS hA rfl 0 3 rfl rfl rfl hl.1 rfl (lv_room (Nat.le_of_ble_eq_true rfl)) dX8_completeIn_22 ⟨Nat.le_of_ble_eq_true rfl, Nat.le_of_ble_eq_true rfl⟩) hP hD hS hA rfl rfl rfl (fun H locs hP hD hS => ?_)
    obtain ⟨k_25, hc_24, hE⟩ := bd1_el hE
    refine kxv (X := []) (Y := (W_All cy aI aT adP adS adB adO adR adA aP aS aB aO aR aA aH ah imT imdP indP imdS imdB imdO imdR imdA indA imP inP imS imB imO imR imA inA imH ihs)) (ws1 := (W_All cy aI aT adP adS adB adO adR adA aP aS aB aO aR aA aH ah imT imdP indP imdS imdB imdO imdR imdA indA imP inP imS imB imO imR imA inA imH ihs)) (xS (X := []) (Y := (W_All cy aI aT adP adS adB adO adR adA aP aS aB aO aR aA aH ah imT imdP indP imdS imdB imdO imdR imdA indA imP inP imS imB imO imR imA inA imH ihs)) (As := [.int r_22]) (rest := []) hC (c_X8_needState l hst D cy r_22 k_25 hc_24) (cwS 1 hts gX8_completeIn_X8_needState rfl rfl rfl cd_X8_needState ⟨Nat.le_of_ble_eq_true rfl, Nat.le_of_ble_eq_true rfl⟩) hK hN hP hD hS hA rfl rfl hl.1 rfl (lv_room (Nat.le_of_ble_eq_true rfl)) dX8_completeIn_25 ⟨Nat.le_of_ble_eq_true rfl, Nat.le_of_ble_eq_true rfl⟩) hP hD hS hA rfl rfl rfl (fun hk0 H locs ce q9 hP hD hS hce hcv hcl => ?_) (fun hk0 H locs hP hD hS => ?_)
    · replace hE := it_f hE hk0
      have hE := Option.some.inj hE
      obtain ⟨q0, hE⟩ := Prod.mk.inj hE
      obtain ⟨q1, hE⟩ := Prod.mk.inj hE
      obtain ⟨q2, hE⟩ := Prod.mk.inj hE
      obtain ⟨q3, hE⟩ := Prod.mk.inj hE
      obtain ⟨q4, hE⟩ := Prod.mk.inj hE
      obtain ⟨q5, hE⟩ := Prod.mk.inj hE
      obtain ⟨q6, hE⟩ := Prod.mk.inj hE
      obtain ⟨q7, hE⟩ := Prod.mk.inj hE
      obtain ⟨q8, q9⟩ := Prod.mk.inj hE
      exact exx htab hlocks hK hP hD hS hce hcv hcl hk0 q0 (by rw [q2, q3, q4, q5, q6, q7, q8, q9]) (Nat.le_of_ble_eq_true rfl) (Nat.le_of_ble_eq_true rfl)
    · replace hE := it_t hE hk0
      refine lv_aload_n hx hb dX8_completeIn_28 rfl (lv_at hl 0 rfl) ?_
      refine va_get (D := D) (ci := 8) (v := .ref (adP 0)) (C := RX8) (T := TX8) (N := 4) hx hb hts iX8 hown hK hP 0 rfl rfl 1 (by decide) f16 (fun _ h9 => h9) rfl dX8_completeIn_29 ?_
      refine lv_aload_n hx hb dX8_completeIn_32 rfl (lv_at hl 0 rfl) ?_
      refine va_get (D := D) (ci := 8) (v := .ref (aP 0)) (C := RX8) (T := TX8) (N := 4) hx hb hts iX8 hown hK hP 0 rfl rfl 0 (by decide) f10 (fun _ h9 => h9) rfl dX8_completeIn_33 ?_
      obtain ⟨mdP_26, ndP_27, mdS_28, mdB_29, mdO_30, mdR_31, mdA_32, ndA_33, hc_34, hE⟩ := bd8_el hE
      refine kv (X := ((W_I aI aP adP aH aT) ++ (W_T cy aT imT))) (Y := ((W_H cy aH ah imH) ++ (W_HS cy ah ihs))) (ws1 := (W_All cy aI aT adP adS adB adO adR adA aP aS aB aO aR aA aH ah imT mdP_26 ndP_27 mdS_28 mdB_29 mdO_30 mdR_31 mdA_32 ndA_33 imP inP imS imB imO imR imA inA imH ihs)) (rV (X := ((W_I aI aP adP aH aT) ++ (W_T cy aT imT))) (Y := ((W_H cy aH ah imH) ++ (W_HS cy ah ihs))) (As := [.ref (aP 0)]) (rest := []) hC (c_X4_copyFrom l D cy adP adS adB adO adR adA aP aS aB aO aR aA imdP indP imdS imdB imdO imdR imdA indA imP inP imS imB imO imR imA inA mdP_26 ndP_27 mdS_28 mdB_29 mdO_30 mdR_31 mdA_32 ndA_33 hc_34) (cwV 1 hts gX8_completeIn_X4_copyFrom rfl rfl rfl cd_X4_copyFrom ⟨Nat.le_of_ble_eq_true rfl, Nat.le_of_ble_eq_true rfl⟩) hK hN hP hD hS hA rfl 0 4 rfl rfl rfl hl.1 rfl (lv_room (Nat.le_of_ble_eq_true rfl)) dX8_completeIn_36 ⟨Nat.le_of_ble_eq_true rfl, Nat.le_of_ble_eq_true rfl⟩) hP hD hS hA rfl rfl rfl (fun H locs hP hD hS => ?_)
      refine lv_iconst (v := 1) hx hb dX8_completeIn_39 (by decide) ?_
      refine lv_istore_n (lv' := [(2, .int (1 : Int32)), (0, .ref (aI 0)), (1, .int x1)]) hx hb dX8_completeIn_40 rfl hl (by decide) rfl (fun ls hl => ?_)
      refine W.widen (k := 2) (n := 12) (Nat.le_of_ble_eq_true rfl) (Nat.le_of_ble_eq_true rfl) ?_
      exact h41 x1 fuel (1 : Int32) mdP_26 ndP_27 mdS_28 mdB_29 mdO_30 mdR_31 mdA_32 ndA_33 _ _ _ hE hP hD hS (lv_sub hl [1, 2, 0] rfl)
abbrev rm_X8_meltedWith : Room := { frames := 6, cells := 0, slots := 0, locals := 145 }
set_option maxHeartbeats 40000000 in
set_option maxRecDepth 100000 in
theorem c_X8_meltedWith (l : Launch) (D : va_G) (cy : Nat → Nat) (aI aT adP adS adB adO adR adA aP aS aB aO aR aA aH : Nat → Nat) (ah : Nat → Nat → Nat → Nat) (x1 : Int32) (x2 : Int32) (x3 : Int32) (imT : Mem) (imdP : Mem) (indP : MemL) (imdS : Mem) (imdB : Mem) (imdO : Mem) (imdR : Mem) (imdA : Mem) (indA : MemL) (imP : Mem) (inP : MemL) (imS : Mem) (imB : Mem) (imO : Mem) (imR : Mem) (imA : Mem) (inA : MemL) (imH : Mem) (ihs : (Nat → PSt)) (r' : Int32) (mdP' : Mem) (ndP' : MemL) (mdS' : Mem) (mdB' : Mem) (mdO' : Mem) (mdR' : Mem) (mdA' : Mem) (ndA' : MemL) (hE : f_X8_meltedWith x1 x2 x3 imT imdP indP imdS imdB imdO imdR imdA indA imP inP imS imB imO imR imA inA imH ihs = some (r', mdP', ndP', mdS', mdB', mdO', mdR', mdA', ndA')) : CI l yX8_meltedWith wsX8_meltedWith rm_X8_meltedWith D cy [.ref (aI 0), .int x1, .int x2, .int x3] (W_All cy aI aT adP adS adB adO adR adA aP aS aB aO aR aA aH ah imT imdP indP imdS imdB imdO imdR imdA indA imP inP imS imB imO imR imA inA imH ihs) 0 0 r' (W_All cy aI aT adP adS adB adO adR adA aP aS aB aO aR aA aH ah imT mdP' ndP' mdS' mdB' mdO' mdR' mdA' ndA' imP inP imS imB imO imR imA inA imH ihs) := by
  refine CQ_of (cc := cX8_meltedWith) (maxL := 4) (ret := (some .int)) (by decide) rfl (Nat.le_of_ble_eq_true rfl) (fun p e s m args below meth c A ls hx hb hr hml hlocks hnm hown hts hA hK hN hP hD hS hl => ?_)
  have hown : s.vm.findClass RX8 = some m.cls := hown
  have hl : lv_has ls 4 [(0, .ref (aI 0)), (1, .int x1), (2, .int x2), (3, .int x3)] := hl
  have hC : CallFix p m c cX8_meltedWith 4 s args wsX8_meltedWith RX8 := ⟨hx, hb, hml, hown, hts⟩
  have f10 : (Cond.fieldLink RX8 10 "IcePlant" "now" "LIcePlant$Plant;").before args s = true := hts _ (mC qf_X8_10)
  have f16 : (Cond.fieldLink RX8 16 "IcePlant" "trial" "LIcePlant$Plant;").before args s = true := hts _ (mC qf_X8_16)
  have f43 : (Cond.fieldLink RX8 43 "IcePlant$Plant" "store" "LIcePlant$Store;").before args s = true := hts _ (mC qf_X8_43)
  have f69 : (Cond.fieldLink RX8 69 "IcePlant$Store" "rules" "[I").before args s = true := hts _ (mC qf_X8_69)
  have iX4 : ∀ w ∈ wsX40, w ∈ wsX8_meltedWith := fun w h => mC (iA_X4 w h)
  have iX6 : ∀ w ∈ wsX60, w ∈ wsX8_meltedWith := fun w h => mC (iA_X6 w h)
  have iX8 : ∀ w ∈ wsX80, w ∈ wsX8_meltedWith := fun w h => mC (iA_X8 w h)
  unfold f_X8_meltedWith at hE
  refine lv_aload_n hx hb dX8_meltedWith_0 rfl (lv_at hl 0 rfl) ?_
  refine va_get (D := D) (ci := 8) (v := .ref (adP 0)) (C := RX8) (T := TX8) (N := 4) hx hb hts iX8 hown hK hP 0 rfl rfl 1 (by decide) f16 (fun _ h9 => h9) rfl dX8_meltedWith_1 ?_
  refine lv_aload_n hx hb dX8_meltedWith_4 rfl (lv_at hl 0 rfl) ?_
  refine va_get (D := D) (ci := 8) (v := .ref (aP 0)) (C := RX8) (T := TX8) (N := 4) hx hb hts iX8 hown hK hP 0 rfl rfl 0 (by decide) f10 (fun _ h9 => h9) rfl dX8_meltedWith_5 ?_
  obtain ⟨mdP_1, ndP_2, mdS_3, mdB_4, mdO_5, mdR_6, mdA_7, ndA_8, hc_9, hE⟩ := bd8_el hE
  refine kv (X := ((W_I aI aP adP aH aT) ++ (W_T cy aT imT))) (Y := ((W_H cy aH ah imH) ++ (W_HS cy ah ihs))) (ws1 := (W_All cy aI aT adP adS adB adO adR adA aP aS aB aO aR aA aH ah imT mdP_1 ndP_2 mdS_3 mdB_4 mdO_5 mdR_6 mdA_7 ndA_8 imP inP imS imB imO imR imA inA imH ihs)) (rV (X := ((W_I aI aP adP aH aT) ++ (W_T cy aT imT))) (Y := ((W_H cy aH ah imH) ++ (W_HS cy ah ihs))) (As := [.ref (aP 0)]) (rest := []) hC (c_X4_copyFrom l D cy adP adS adB adO adR adA aP aS aB aO aR aA imdP indP imdS imdB imdO imdR imdA indA imP inP imS imB imO imR imA inA mdP_1 ndP_2 mdS_3 mdB_4 mdO_5 mdR_6 mdA_7 ndA_8 hc_9) (cwV 1 hts gX8_meltedWith_X4_copyFrom rfl rfl rfl cd_X4_copyFrom ⟨Nat.le_of_ble_eq_true rfl, Nat.le_of_ble_eq_true rfl⟩) hK hN hP hD hS hA rfl 0 4 rfl rfl rfl hl.1 rfl (lv_room (Nat.le_of_ble_eq_true rfl)) dX8_meltedWith_8 ⟨Nat.le_of_ble_eq_true rfl, Nat.le_of_ble_eq_true rfl⟩) hP hD hS hA rfl rfl rfl (fun H locs hP hD hS => ?_)
  refine lv_aload_n hx hb dX8_meltedWith_11 rfl (lv_at hl 0 rfl) ?_
  refine va_get (D := D) (ci := 8) (v := .ref (adP 0)) (C := RX8) (T := TX8) (N := 4) hx hb hts iX8 hown hK hP 0 rfl rfl 1 (by decide) f16 (fun _ h9 => h9) rfl dX8_meltedWith_12 ?_
  refine va_get (D := D) (ci := 4) (v := .ref (adS 0)) (C := RX4) (T := TX4) (N := 13) hx hb hts iX4 hown hK hP 4 rfl rfl 2 (by decide) f43 (fun _ h9 => h9) rfl dX8_meltedWith_15 ?_
  refine va_get (D := D) (ci := 6) (v := .ref (adS 4)) (C := RX6) (T := TX6) (N := 10) hx hb hts iX6 hown hK hP 7 rfl rfl 3 (by decide) f69 (fun _ h9 => h9) rfl dX8_meltedWith_18 ?_
  refine lv_iload_n hx hb dX8_meltedWith_21 rfl (lv_at hl 1 rfl) ?_
  refine lv_iload_n hx hb dX8_meltedWith_22 rfl (lv_at hl 2 rfl) ?_
  obtain ⟨r_10, g_11, hc_13, hE⟩ := bd2_el hE
  obtain ⟨mdS_12, e_mdS_12, hE⟩ := lt_el hE
  refine ki (X := (List.take 9 (W_All cy aI aT adP adS adB adO adR adA aP aS aB aO aR aA aH ah imT mdP_1 ndP_2 mdS_3 mdB_4 mdO_5 mdR_6 mdA_7 ndA_8 imP inP imS imB imO imR imA inA imH ihs))) (Y := (List.drop 10 (W_All cy aI aT adP adS adB adO adR adA aP aS aB aO aR aA aH ah imT mdP_1 ndP_2 mdS_3 mdB_4 mdO_5 mdR_6 mdA_7 ndA_8 imP inP imS imB imO imR imA inA imH ihs))) (ws1 := (W_All cy aI aT adP adS adB adO adR adA aP aS aB aO aR aA aH ah imT mdP_1 ndP_2 mdS_12 mdB_4 mdO_5 mdR_6 mdA_7 ndA_8 imP inP imS imB imO imR imA inA imH ihs)) (rS (X := (List.take 9 (W_All cy aI aT adP adS adB adO adR adA aP aS aB aO aR aA aH ah imT mdP_1 ndP_2 mdS_3 mdB_4 mdO_5 mdR_6 mdA_7 ndA_8 imP inP imS imB imO imR imA inA imH ihs))) (Y := (List.drop 10 (W_All cy aI aT adP adS adB adO adR adA aP aS aB aO aR aA aH ah imT mdP_1 ndP_2 mdS_3 mdB_4 mdO_5 mdR_6 mdA_7 ndA_8 imP inP imS imB imO imR imA inA imH ihs))) (As := [.ref (adS 4), .int x1, .int x2]) (rest := []) hC (c_X8_replace l D cy (adS 4) x1 x2 (5) (mdS_3 3) r_10 g_11 hc_13) (cwS 3 hts gX8_meltedWith_X8_replace rfl rfl rfl cd_X8_replace ⟨Nat.le_of_ble_eq_true rfl, Nat.le_of_ble_eq_true rfl⟩) hK hN hP hD hS hA rfl rfl hl.1 rfl (lv_room (Nat.le_of_ble_eq_true rfl)) dX8_meltedWith_23 ⟨Nat.le_of_ble_eq_true rfl, Nat.le_of_ble_eq_true rfl⟩) hP hD hS hA rfl rfl (by rw [e_mdS_12]; rfl) (fun H locs hP hD hS => ?_)
  refine lv_pop hx hb dX8_meltedWith_26 rfl ?_
  refine lv_aload_n hx hb dX8_meltedWith_27 rfl (lv_at hl 0 rfl) ?_
  refine va_get (D := D) (ci := 8) (v := .ref (adP 0)) (C := RX8) (T := TX8) (N := 4) hx hb hts iX8 hown hK hP 0 rfl rfl 1 (by decide) f16 (fun _ h9 => h9) rfl dX8_meltedWith_28 ?_
  refine lv_iload_n hx hb dX8_meltedWith_31 rfl (lv_at hl 3 rfl) ?_
  obtain ⟨r_14, mdP_15, ndP_16, mdS_17, mdB_18, mdO_19, mdR_20, mdA_21, ndA_22, hc_23, hE⟩ := bd9_el hE
  refine ki (X := ((W_I aI aP adP aH aT) ++ (W_T cy aT imT))) (Y := ((W_P cy aP aS aB aO aR aA imP inP) ++ ((W_S cy aS imS) ++ ((W_B cy aB imB) ++ ((W_O cy aO imO) ++ ((W_R cy aR imR) ++ ((W_A cy aA imA inA) ++ ((W_H cy aH ah imH) ++ (W_HS cy ah ihs))))))))) (ws1 := (W_All cy aI aT adP adS adB adO adR adA aP aS aB aO aR aA aH ah imT mdP_15 ndP_16 mdS_17 mdB_18 mdO_19 mdR_20 mdA_21 ndA_22 imP inP imS imB imO imR imA inA imH ihs)) (rV (X := ((W_I aI aP adP aH aT) ++ (W_T cy aT imT))) (Y := ((W_P cy aP aS aB aO aR aA imP inP) ++ ((W_S cy aS imS) ++ ((W_B cy aB imB) ++ ((W_O cy aO imO) ++ ((W_R cy aR imR) ++ ((W_A cy aA imA inA) ++ ((W_H cy aH ah imH) ++ (W_HS cy ah ihs))))))))) (As := [.int x3]) (rest := []) hC (c_X4_letPass l D cy adP adS adB adO adR adA x3 mdP_1 ndP_2 mdS_12 mdB_4 mdO_5 mdR_6 mdA_7 ndA_8 r_14 mdP_15 ndP_16 mdS_17 mdB_18 mdO_19 mdR_20 mdA_21 ndA_22 hc_23) (cwV 1 hts gX8_meltedWith_X4_letPass rfl rfl rfl cd_X4_letPass ⟨Nat.le_of_ble_eq_true rfl, Nat.le_of_ble_eq_true rfl⟩) hK hN hP hD hS hA rfl 0 4 rfl rfl rfl hl.1 rfl (lv_room (Nat.le_of_ble_eq_true rfl)) dX8_meltedWith_32 ⟨Nat.le_of_ble_eq_true rfl, Nat.le_of_ble_eq_true rfl⟩) hP hD hS hA rfl rfl rfl (fun H locs hP hD hS => ?_)
  refine lv_pop hx hb dX8_meltedWith_35 rfl ?_
  refine lv_aload_n hx hb dX8_meltedWith_36 rfl (lv_at hl 0 rfl) ?_
  refine va_get (D := D) (ci := 8) (v := .ref (adP 0)) (C := RX8) (T := TX8) (N := 4) hx hb hts iX8 hown hK hP 0 rfl rfl 1 (by decide) f16 (fun _ h9 => h9) rfl dX8_meltedWith_37 ?_
  refine va_get (D := D) (ci := 4) (v := .ref (adS 0)) (C := RX4) (T := TX4) (N := 13) hx hb hts iX4 hown hK hP 4 rfl rfl 2 (by decide) f43 (fun _ h9 => h9) rfl dX8_meltedWith_40 ?_
  obtain ⟨r_24, hc_25, hE⟩ := bd1_el hE
  refine ki (X := ((W_I aI aP adP aH aT) ++ ((W_T cy aT imT) ++ (W_P cy adP adS adB adO adR adA mdP_15 ndP_16)))) (Y := ((W_B cy adB mdB_18) ++ ((W_O cy adO mdO_19) ++ ((W_R cy adR mdR_20) ++ ((W_A cy adA mdA_21 ndA_22) ++ ((W_P cy aP aS aB aO aR aA imP inP) ++ ((W_S cy aS imS) ++ ((W_B cy aB imB) ++ ((W_O cy aO imO) ++ ((W_R cy aR imR) ++ ((W_A cy aA imA inA) ++ ((W_H cy aH ah imH) ++ (W_HS cy ah ihs))))))))))))) (ws1 := (W_All cy aI aT adP adS adB adO adR adA aP aS aB aO aR aA aH ah imT mdP_15 ndP_16 mdS_17 mdB_18 mdO_19 mdR_20 mdA_21 ndA_22 imP inP imS imB imO imR imA inA imH ihs)) (rV (X := ((W_I aI aP adP aH aT) ++ ((W_T cy aT imT) ++ (W_P cy adP adS adB adO adR adA mdP_15 ndP_16)))) (Y := ((W_B cy adB mdB_18) ++ ((W_O cy adO mdO_19) ++ ((W_R cy adR mdR_20) ++ ((W_A cy adA mdA_21 ndA_22) ++ ((W_P cy aP aS aB aO aR aA imP inP) ++ ((W_S cy aS imS) ++ ((W_B cy aB imB) ++ ((W_O cy aO imO) ++ ((W_R cy aR imR) ++ ((W_A cy aA imA inA) ++ ((W_H cy aH ah imH) ++ (W_HS cy ah ihs))))))))))))) (As := []) (rest := []) hC (c_X6_meltedMass l D cy adS mdS_17 r_24 hc_25) (cwV 0 hts gX8_meltedWith_X6_meltedMass rfl rfl rfl cd_X6_meltedMass ⟨Nat.le_of_ble_eq_true rfl, Nat.le_of_ble_eq_true rfl⟩) hK hN hP hD hS hA rfl 0 6 rfl rfl rfl hl.1 rfl (lv_room (Nat.le_of_ble_eq_true rfl)) dX8_meltedWith_43 ⟨Nat.le_of_ble_eq_true rfl, Nat.le_of_ble_eq_true rfl⟩) hP hD hS hA rfl rfl rfl (fun H locs hP hD hS => ?_)
  refine lv_aload_n hx hb dX8_meltedWith_46 rfl (lv_at hl 0 rfl) ?_
  refine va_get (D := D) (ci := 8) (v := .ref (aP 0)) (C := RX8) (T := TX8) (N := 4) hx hb hts iX8 hown hK hP 0 rfl rfl 0 (by decide) f10 (fun _ h9 => h9) rfl dX8_meltedWith_47 ?_
  refine va_get (D := D) (ci := 4) (v := .ref (aS 0)) (C := RX4) (T := TX4) (N := 13) hx hb hts iX4 hown hK hP 40 rfl rfl 2 (by decide) f43 (fun _ h9 => h9) rfl dX8_meltedWith_50 ?_
  obtain ⟨r_26, hc_27, hE⟩ := bd1_el hE
  refine ki (X := ((W_I aI aP adP aH aT) ++ ((W_T cy aT imT) ++ ((W_P cy adP adS adB adO adR adA mdP_15 ndP_16) ++ ((W_S cy adS mdS_17) ++ ((W_B cy adB mdB_18) ++ ((W_O cy adO mdO_19) ++ ((W_R cy adR mdR_20) ++ ((W_A cy adA mdA_21 ndA_22) ++ (W_P cy aP aS aB aO aR aA imP inP)))))))))) (Y := ((W_B cy aB imB) ++ ((W_O cy aO imO) ++ ((W_R cy aR imR) ++ ((W_A cy aA imA inA) ++ ((W_H cy aH ah imH) ++ (W_HS cy ah ihs))))))) (ws1 := (W_All cy aI aT adP adS adB adO adR adA aP aS aB aO aR aA aH ah imT mdP_15 ndP_16 mdS_17 mdB_18 mdO_19 mdR_20 mdA_21 ndA_22 imP inP imS imB imO imR imA inA imH ihs)) (rV (X := ((W_I aI aP adP aH aT) ++ ((W_T cy aT imT) ++ ((W_P cy adP adS adB adO adR adA mdP_15 ndP_16) ++ ((W_S cy adS mdS_17) ++ ((W_B cy adB mdB_18) ++ ((W_O cy adO mdO_19) ++ ((W_R cy adR mdR_20) ++ ((W_A cy adA mdA_21 ndA_22) ++ (W_P cy aP aS aB aO aR aA imP inP)))))))))) (Y := ((W_B cy aB imB) ++ ((W_O cy aO imO) ++ ((W_R cy aR imR) ++ ((W_A cy aA imA inA) ++ ((W_H cy aH ah imH) ++ (W_HS cy ah ihs))))))) (As := []) (rest := [.int r_24]) hC (c_X6_meltedMass l D cy aS imS r_26 hc_27) (cwV 0 hts gX8_meltedWith_X6_meltedMass rfl rfl rfl cd_X6_meltedMass ⟨Nat.le_of_ble_eq_true rfl, Nat.le_of_ble_eq_true rfl⟩) hK hN hP hD hS hA rfl 0 6 rfl rfl rfl hl.1 rfl (lv_room (Nat.le_of_ble_eq_true rfl)) dX8_meltedWith_53 ⟨Nat.le_of_ble_eq_true rfl, Nat.le_of_ble_eq_true rfl⟩) hP hD hS hA rfl rfl rfl (fun H locs hP hD hS => ?_)
  refine lv_isub hx hb dX8_meltedWith_56 ?_
  have hE := Option.some.inj hE
  obtain ⟨q0, hE⟩ := Prod.mk.inj hE
  obtain ⟨q1, hE⟩ := Prod.mk.inj hE
  obtain ⟨q2, hE⟩ := Prod.mk.inj hE
  obtain ⟨q3, hE⟩ := Prod.mk.inj hE
  obtain ⟨q4, hE⟩ := Prod.mk.inj hE
  obtain ⟨q5, hE⟩ := Prod.mk.inj hE
  obtain ⟨q6, hE⟩ := Prod.mk.inj hE
  obtain ⟨q7, q8⟩ := Prod.mk.inj hE
  exact ei hx hb hr hlocks hK hP hD hS q0 (by rw [q1, q2, q3, q4, q5, q6, q7, q8]) dX8_meltedWith_57
abbrev rm_X8_bestRule : Room := { frames := 8, cells := 2, slots := 12, locals := 168 }
set_option maxHeartbeats 40000000 in
set_option maxRecDepth 100000 in
theorem c_X8_bestRule (l : Launch) (hst : l.stackTraces = false) (D : va_G) (cy : Nat → Nat) (aI aT adP adS adB adO adR adA aP aS aB aO aR aA aH : Nat → Nat) (ah : Nat → Nat → Nat → Nat) (x1 : Int32) (x2 : Int32) (imT : Mem) (imdP : Mem) (indP : MemL) (imdS : Mem) (imdB : Mem) (imdO : Mem) (imdR : Mem) (imdA : Mem) (indA : MemL) (imP : Mem) (inP : MemL) (imS : Mem) (imB : Mem) (imO : Mem) (imR : Mem) (imA : Mem) (inA : MemL) (imH : Mem) (ihs : (Nat → PSt)) (k' : Nat) (r' : Int32) (mdP' : Mem) (ndP' : MemL) (mdS' : Mem) (mdB' : Mem) (mdO' : Mem) (mdR' : Mem) (mdA' : Mem) (ndA' : MemL) (hE : f_X8_bestRule x1 x2 imT imdP indP imdS imdB imdO imdR imdA indA imP inP imS imB imO imR imA inA imH ihs = some (k', r', mdP', ndP', mdS', mdB', mdO', mdR', mdA', ndA')) : CXI l yX8_bestRule wsX8_bestRule rm_X8_bestRule D cy [.ref (aI 0), .int x1, .int x2] (W_All cy aI aT adP adS adB adO adR adA aP aS aB aO aR aA aH ah imT imdP indP imdS imdB imdO imdR imdA indA imP inP imS imB imO imR imA inA imH ihs) 2 12 k' r' (W_All cy aI aT adP adS adB adO adR adA aP aS aB aO aR aA aH ah imT mdP' ndP' mdS' mdB' mdO' mdR' mdA' ndA' imP inP imS imB imO imR imA inA imH ihs) := by
  refine CX_of (cc := cX8_bestRule) (maxL := 7) (ret := (some .int)) (by decide) rfl (Nat.le_of_ble_eq_true rfl) (fun p e s m args below meth c A ls hx hb hr hml hlocks hnm hown hts hA htab hK hN hP hD hS hl => ?_)
  have hown : s.vm.findClass RX8 = some m.cls := hown
  have hl : lv_has ls 7 [(0, .ref (aI 0)), (1, .int x1), (2, .int x2)] := hl
  have hC : CallFix p m c cX8_bestRule 7 s args wsX8_bestRule RX8 := ⟨hx, hb, hml, hown, hts⟩
  have f10 : (Cond.fieldLink RX8 10 "IcePlant" "now" "LIcePlant$Plant;").before args s = true := hts _ (mC qf_X8_10)
  have f43 : (Cond.fieldLink RX8 43 "IcePlant$Plant" "store" "LIcePlant$Store;").before args s = true := hts _ (mC qf_X8_43)
  have iX4 : ∀ w ∈ wsX40, w ∈ wsX8_bestRule := fun w h => mC (iA_X4 w h)
  have iX8 : ∀ w ∈ wsX80, w ∈ wsX8_bestRule := fun w h => mC (iA_X8 w h)
  have h68 : ∀ (x1 : Int32) (x2 : Int32) (x3 : Int32) (x4 : Int32) (x5 : Int32) (mdP : Mem) (ndP : MemL) (mdS : Mem) (mdB : Mem) (mdO : Mem) (mdR : Mem) (mdA : Mem) (ndA : MemL), ∀ (k38 : (Int32 → Int32 → Int32 → Mem → MemL → Mem → Mem → Mem → Mem → Mem → MemL → Option (Nat × Int32 × Mem × MemL × Mem × Mem × Mem × Mem × Mem × MemL))), (∀ (x3 : Int32) (x4 : Int32) (x5 : Int32) (mdP : Mem) (ndP : MemL) (mdS : Mem) (mdB : Mem) (mdO : Mem) (mdR : Mem) (mdA : Mem) (ndA : MemL) (H : Heap) (locs : List Loc) (ls : Array Slot), k38 x3 x4 x5 mdP ndP mdS mdB mdO mdR mdA ndA = some (k', r', mdP', ndP', mdS', mdB', mdO', mdR', mdA', ndA') → va_P D vwCl (W_All cy aI aT adP adS adB adO adR adA aP aS aB aO aR aA aH ah imT mdP ndP mdS mdB mdO mdR mdA ndA imP inP imS imB imO imR imA inA imH ihs) H → va_D A (W_All cy aI aT adP adS adB adO adR adA aP aS aB aO aR aA aH ah imT mdP ndP mdS mdB mdO mdR mdA ndA imP inP imS imB imO imR imA inA imH ihs) → va_S A s.heap H locs → lv_has ls 7 [(0, .ref (aI 0)), (1, .int x1), (2, .int x2), (3, .int x3), (4, .int x4), (5, .int x5)] → W p l e rm_X8_bestRule s m args below meth c H locs 2 12 (vx_MQ below (QXI D cy k' r' (W_All cy aI aT adP adS adB adO adR adA aP aS aB aO aR aA aH ah imT mdP' ndP' mdS' mdB' mdO' mdR' mdA' ndA' imP inP imS imB imO imR imA inA imH ihs) A) (XX D cy k' (W_All cy aI aT adP adS adB adO adR adA aP aS aB aO aR aA aH ah imT mdP' ndP' mdS' mdB' mdO' mdR' mdA' ndA' imP inP imS imB imO imR imA inA imH ihs) A) args s 2 12 A) (F0 m 38 ls [])) → ∀  (H : Heap) (locs : List Loc) (ls : Array Slot), f_X8_bestRule_b68 k38 x1 x2 x3 x4 x5 imT mdP ndP mdS mdB mdO mdR mdA ndA imP inP imS imB imO imR imA inA imH ihs = some (k', r', mdP', ndP', mdS', mdB', mdO', mdR', mdA', ndA') → va_P D vwCl (W_All cy aI aT adP adS adB adO adR adA aP aS aB aO aR aA aH ah imT mdP ndP mdS mdB mdO mdR mdA ndA imP inP imS imB imO imR imA inA imH ihs) H → va_D A (W_All cy aI aT adP adS adB adO adR adA aP aS aB aO aR aA aH ah imT mdP ndP mdS mdB mdO mdR mdA ndA imP inP imS imB imO imR imA inA imH ihs) → va_S A s.heap H locs → lv_has ls 7 [(0, .ref (aI 0)), (1, .int x1), (2, .int x2), (3, .int x3), (4, .int x4), (5, .int x5)] → W p l e rm_X8_bestRule s m args below meth c H locs 2 12 (vx_MQ below (QXI D cy k' r' (W_All cy aI aT adP adS adB adO adR adA aP aS aB aO aR aA aH ah imT mdP' ndP' mdS' mdB' mdO' mdR' mdA' ndA' imP inP imS imB imO imR imA inA imH ihs) A) (XX D cy k' (W_All cy aI aT adP adS adB adO adR adA aP aS aB aO aR aA aH ah imT mdP' ndP' mdS' mdB' mdO' mdR' mdA' ndA' imP inP imS imB imO imR imA inA imH ihs) A) args s 2 12 A) (F0 m 68 ls []) := by
    intro x1 x2 x3 x4 x5 mdP ndP mdS mdB mdO mdR mdA ndA k38 hk38 H locs ls hE hP hD hS hl
    replace hE : (lt' (x5 + (1 : Int32)) fun x5_1 => k38 x3 x4 x5_1 mdP ndP mdS mdB mdO mdR mdA ndA) = some (k', r', mdP', ndP', mdS', mdB', mdO', mdR', mdA', ndA') := hE
    obtain ⟨x5_1, e_x5_1, hE⟩ := lt_el hE
    refine lv_iinc (v := x5_1) (lv' := [(5, .int x5_1), (0, .ref (aI 0)), (1, .int x1), (2, .int x2), (3, .int x3), (4, .int x4)]) hx hb dX8_bestRule_68 hl (k := 5) rfl (by rw [e_x5_1]; rfl) (by decide) rfl (fun ls hl => ?_)
    refine lv_goto (tgt := 38) hx hb dX8_bestRule_71 (by decide) ?_
    refine W.widen (k := 2) (n := 12) (Nat.le_of_ble_eq_true rfl) (Nat.le_of_ble_eq_true rfl) ?_
    exact hk38 x3 x4 x5_1 mdP ndP mdS mdB mdO mdR mdA ndA _ _ _ hE hP hD hS (lv_sub hl [1, 2, 3, 4, 5, 0] rfl)
  have h38 : ∀ (x1 : Int32) (x2 : Int32), ∀ (n : Nat), ∀ (x3 : Int32) (x4 : Int32) (x5 : Int32) (mdP : Mem) (ndP : MemL) (mdS : Mem) (mdB : Mem) (mdO : Mem) (mdR : Mem) (mdA : Mem) (ndA : MemL) (H : Heap) (locs : List Loc) (ls : Array Slot), f_X8_bestRule_L38 x1 x2 imT imP inP imS imB imO imR imA inA imH ihs n x3 x4 x5 mdP ndP mdS mdB mdO mdR mdA ndA = some (k', r', mdP', ndP', mdS', mdB', mdO', mdR', mdA', ndA') → va_P D vwCl (W_All cy aI aT adP adS adB adO adR adA aP aS aB aO aR aA aH ah imT mdP ndP mdS mdB mdO mdR mdA ndA imP inP imS imB imO imR imA inA imH ihs) H → va_D A (W_All cy aI aT adP adS adB adO adR adA aP aS aB aO aR aA aH ah imT mdP ndP mdS mdB mdO mdR mdA ndA imP inP imS imB imO imR imA inA imH ihs) → va_S A s.heap H locs → lv_has ls 7 [(0, .ref (aI 0)), (1, .int x1), (2, .int x2), (3, .int x3), (4, .int x4), (5, .int x5)] → W p l e rm_X8_bestRule s m args below meth c H locs 2 12 (vx_MQ below (QXI D cy k' r' (W_All cy aI aT adP adS adB adO adR adA aP aS aB aO aR aA aH ah imT mdP' ndP' mdS' mdB' mdO' mdR' mdA' ndA' imP inP imS imB imO imR imA inA imH ihs) A) (XX D cy k' (W_All cy aI aT adP adS adB adO adR adA aP aS aB aO aR aA aH ah imT mdP' ndP' mdS' mdB' mdO' mdR' mdA' ndA' imP inP imS imB imO imR imA inA imH ihs) A) args s 2 12 A) (F0 m 38 ls []) := by
    intro x1 x2 n
    induction n with
    | zero => intro x3 x4 x5 mdP ndP mdS mdB mdO mdR mdA ndA H locs ls hE; exact absurd hE (fun h9 => nomatch h9)
    | succ n ih =>
      intro x3 x4 x5 mdP ndP mdS mdB mdO mdR mdA ndA H locs ls hE hP hD hS hl
      replace hE : ((if (3 : Int32) < x5 then some (0, x3, mdP, ndP, mdS, mdB, mdO, mdR, mdA, ndA) else bd9 (f_X8_meltedWith x1 x5 x2 imT mdP ndP mdS mdB mdO mdR mdA ndA imP inP imS imB imO imR imA inA imH ihs) fun r_3 mdP_4 ndP_5 mdS_6 mdB_7 mdO_8 mdR_9 mdA_10 ndA_11 => (if x4 ≤ r_3 then f_X8_bestRule_b68 (f_X8_bestRule_L38 x1 x2 imT imP inP imS imB imO imR imA inA imH ihs n) x1 x2 x3 x4 x5 imT mdP_4 ndP_5 mdS_6 mdB_7 mdO_8 mdR_9 mdA_10 ndA_11 imP inP imS imB imO imR imA inA imH ihs else f_X8_bestRule_b68 (f_X8_bestRule_L38 x1 x2 imT imP inP imS imB imO imR imA inA imH ihs n) x1 x2 x5 r_3 x5 imT mdP_4 ndP_5 mdS_6 mdB_7 mdO_8 mdR_9 mdA_10 ndA_11 imP inP imS imB imO imR imA inA imH ihs))) = some (k', r', mdP', ndP', mdS', mdB', mdO', mdR', mdA', ndA') := hE
      refine lv_iload hx hb dX8_bestRule_38 (lv_at hl 5 rfl) ?_
      refine lv_iconst (v := 3) hx hb dX8_bestRule_40 (by decide) ?_
      refine lv_icmp_gt (tgt := 74) hx hb dX8_bestRule_41 (by decide) (fun c_2 => ?_) (fun c_2 => ?_)
      · replace hE := it_t hE c_2
        refine lv_iload_n hx hb dX8_bestRule_74 rfl (lv_at hl 3 rfl) ?_
        have hE := Option.some.inj hE
        obtain ⟨q0, hE⟩ := Prod.mk.inj hE
        obtain ⟨q1, hE⟩ := Prod.mk.inj hE
        obtain ⟨q2, hE⟩ := Prod.mk.inj hE
        obtain ⟨q3, hE⟩ := Prod.mk.inj hE
        obtain ⟨q4, hE⟩ := Prod.mk.inj hE
        obtain ⟨q5, hE⟩ := Prod.mk.inj hE
        obtain ⟨q6, hE⟩ := Prod.mk.inj hE
        obtain ⟨q7, hE⟩ := Prod.mk.inj hE
        obtain ⟨q8, q9⟩ := Prod.mk.inj hE
        exact exi hx hb hr hlocks hK hP hD hS q0 q1 (by rw [q2, q3, q4, q5, q6, q7, q8, q9]) (Nat.le_of_ble_eq_true rfl) (Nat.le_of_ble_eq_true rfl) dX8_bestRule_75
      · replace hE := it_f hE c_2
        refine lv_aload_n hx hb dX8_bestRule_44 rfl (lv_at hl 0 rfl) ?_
        refine lv_iload_n hx hb dX8_bestRule_45 rfl (lv_at hl 1 rfl) ?_
        refine lv_iload hx hb dX8_bestRule_46 (lv_at hl 5 rfl) ?_
        refine lv_iload_n hx hb dX8_bestRule_48 rfl (lv_at hl 2 rfl) ?_
        obtain ⟨r_3, mdP_4, ndP_5, mdS_6, mdB_7, mdO_8, mdR_9, mdA_10, ndA_11, hc_12, hE⟩ := bd9_el hE
        refine ki (X := []) (Y := []) (ws1 := (W_All cy aI aT adP adS adB adO adR adA aP aS aB aO aR aA aH ah imT mdP_4 ndP_5 mdS_6 mdB_7 mdO_8 mdR_9 mdA_10 ndA_11 imP inP imS imB imO imR imA inA imH ihs)) (rV (X := []) (Y := []) (As := [.int x1, .int x5, .int x2]) (rest := []) hC (c_X8_meltedWith l D cy aI aT adP adS adB adO adR adA aP aS aB aO aR aA aH ah x1 x5 x2 imT mdP ndP mdS mdB mdO mdR mdA ndA imP inP imS imB imO imR imA inA imH ihs r_3 mdP_4 ndP_5 mdS_6 mdB_7 mdO_8 mdR_9 mdA_10 ndA_11 hc_12) (cwV 3 hts gX8_bestRule_X8_meltedWith rfl rfl rfl cd_X8_meltedWith ⟨Nat.le_of_ble_eq_true rfl, Nat.le_of_ble_eq_true rfl⟩) hK hN hP hD hS hA rfl 0 8 rfl rfl rfl hl.1 rfl (lv_room (Nat.le_of_ble_eq_true rfl)) dX8_bestRule_49 ⟨Nat.le_of_ble_eq_true rfl, Nat.le_of_ble_eq_true rfl⟩) hP hD hS hA rfl rfl rfl (fun H locs hP hD hS => ?_)
        refine lv_istore (lv' := [(6, .int r_3), (0, .ref (aI 0)), (1, .int x1), (2, .int x2), (3, .int x3), (4, .int x4), (5, .int x5)]) hx hb dX8_bestRule_52 hl (by decide) rfl (fun ls hl => ?_)
        refine lv_iload hx hb dX8_bestRule_54 (lv_at hl 0 rfl) ?_
        refine lv_iload hx hb dX8_bestRule_56 (lv_at hl 5 rfl) ?_
        refine lv_icmp_ge (tgt := 68) hx hb dX8_bestRule_58 (by decide) (fun c_13 => ?_) (fun c_13 => ?_)
        · replace hE := it_t hE c_13
          refine W.widen (k := 2) (n := 12) (Nat.le_of_ble_eq_true rfl) (Nat.le_of_ble_eq_true rfl) ?_
          exact h68 x1 x2 x3 x4 x5 mdP_4 ndP_5 mdS_6 mdB_7 mdO_8 mdR_9 mdA_10 ndA_11 (f_X8_bestRule_L38 x1 x2 imT imP inP imS imB imO imR imA inA imH ihs n) ih _ _ _ hE hP hD hS (lv_sub hl [1, 2, 3, 4, 5, 6] rfl)
        · replace hE := it_f hE c_13
          refine lv_iload hx hb dX8_bestRule_61 (lv_at hl 6 rfl) ?_
          refine lv_istore_n (lv' := [(3, .int x5), (6, .int r_3), (0, .ref (aI 0)), (1, .int x1), (2, .int x2), (4, .int x4), (5, .int x5)]) hx hb dX8_bestRule_63 rfl hl (by decide) rfl (fun ls hl => ?_)
          refine lv_iload hx hb dX8_bestRule_64 (lv_at hl 1 rfl) ?_
          refine lv_istore (lv' := [(4, .int r_3), (3, .int x5), (6, .int r_3), (0, .ref (aI 0)), (1, .int x1), (2, .int x2), (5, .int x5)]) hx hb dX8_bestRule_66 hl (by decide) rfl (fun ls hl => ?_)
          refine W.widen (k := 2) (n := 12) (Nat.le_of_ble_eq_true rfl) (Nat.le_of_ble_eq_true rfl) ?_
          exact h68 x1 x2 x5 r_3 x5 mdP_4 ndP_5 mdS_6 mdB_7 mdO_8 mdR_9 mdA_10 ndA_11 (f_X8_bestRule_L38 x1 x2 imT imP inP imS imB imO imR imA inA imH ihs n) ih _ _ _ hE hP hD hS (lv_sub hl [3, 4, 5, 1, 0, 6] rfl)
  unfold f_X8_bestRule at hE
  refine lv_aload_n hx hb dX8_bestRule_0 rfl (lv_at hl 0 rfl) ?_
  refine va_get (D := D) (ci := 8) (v := .ref (aP 0)) (C := RX8) (T := TX8) (N := 4) hx hb hts iX8 hown hK hP 0 rfl rfl 0 (by decide) f10 (fun _ h9 => h9) rfl dX8_bestRule_1 ?_
  refine va_get (D := D) (ci := 4) (v := .ref (aS 0)) (C := RX4) (T := TX4) (N := 13) hx hb hts iX4 hown hK hP 40 rfl rfl 2 (by decide) f43 (fun _ h9 => h9) rfl dX8_bestRule_4 ?_
  refine lv_iload_n hx hb dX8_bestRule_7 rfl (lv_at hl 1 rfl) ?_
  obtain ⟨r_14, hc_15, hE⟩ := bd1_el hE
  refine ki (X := ((W_I aI aP adP aH aT) ++ ((W_T cy aT imT) ++ ((W_P cy adP adS adB adO adR adA imdP indP) ++ ((W_S cy adS imdS) ++ ((W_B cy adB imdB) ++ ((W_O cy adO imdO) ++ ((W_R cy adR imdR) ++ ((W_A cy adA imdA indA) ++ (W_P cy aP aS aB aO aR aA imP inP)))))))))) (Y := ((W_B cy aB imB) ++ ((W_O cy aO imO) ++ ((W_R cy aR imR) ++ ((W_A cy aA imA inA) ++ ((W_H cy aH ah imH) ++ (W_HS cy ah ihs))))))) (ws1 := (W_All cy aI aT adP adS adB adO adR adA aP aS aB aO aR aA aH ah imT imdP indP imdS imdB imdO imdR imdA indA imP inP imS imB imO imR imA inA imH ihs)) (rV (X := ((W_I aI aP adP aH aT) ++ ((W_T cy aT imT) ++ ((W_P cy adP adS adB adO adR adA imdP indP) ++ ((W_S cy adS imdS) ++ ((W_B cy adB imdB) ++ ((W_O cy adO imdO) ++ ((W_R cy adR imdR) ++ ((W_A cy adA imdA indA) ++ (W_P cy aP aS aB aO aR aA imP inP)))))))))) (Y := ((W_B cy aB imB) ++ ((W_O cy aO imO) ++ ((W_R cy aR imR) ++ ((W_A cy aA imA inA) ++ ((W_H cy aH ah imH) ++ (W_HS cy ah ihs))))))) (As := [.int x1]) (rest := []) hC (c_X6_hasSilo l D cy aS x1 imS r_14 hc_15) (cwV 1 hts gX8_bestRule_X6_hasSilo rfl rfl rfl cd_X6_hasSilo ⟨Nat.le_of_ble_eq_true rfl, Nat.le_of_ble_eq_true rfl⟩) hK hN hP hD hS hA rfl 0 6 rfl rfl rfl hl.1 rfl (lv_room (Nat.le_of_ble_eq_true rfl)) dX8_bestRule_8 ⟨Nat.le_of_ble_eq_true rfl, Nat.le_of_ble_eq_true rfl⟩) hP hD hS hA rfl rfl rfl (fun H locs hP hD hS => ?_)
  obtain ⟨k_17, hc_16, hE⟩ := bd1_el hE
  refine kxv (X := []) (Y := (W_All cy aI aT adP adS adB adO adR adA aP aS aB aO aR aA aH ah imT imdP indP imdS imdB imdO imdR imdA indA imP inP imS imB imO imR imA inA imH ihs)) (ws1 := (W_All cy aI aT adP adS adB adO adR adA aP aS aB aO aR aA aH ah imT imdP indP imdS imdB imdO imdR imdA indA imP inP imS imB imO imR imA inA imH ihs)) (xS (X := []) (Y := (W_All cy aI aT adP adS adB adO adR adA aP aS aB aO aR aA aH ah imT imdP indP imdS imdB imdO imdR imdA indA imP inP imS imB imO imR imA inA imH ihs)) (As := [.int r_14]) (rest := []) hC (c_X8_needItem l hst D cy r_14 k_17 hc_16) (cwS 1 hts gX8_bestRule_X8_needItem rfl rfl rfl cd_X8_needItem ⟨Nat.le_of_ble_eq_true rfl, Nat.le_of_ble_eq_true rfl⟩) hK hN hP hD hS hA rfl rfl hl.1 rfl (lv_room (Nat.le_of_ble_eq_true rfl)) dX8_bestRule_11 ⟨Nat.le_of_ble_eq_true rfl, Nat.le_of_ble_eq_true rfl⟩) hP hD hS hA rfl rfl rfl (fun hk0 H locs ce q9 hP hD hS hce hcv hcl => ?_) (fun hk0 H locs hP hD hS => ?_)
  · replace hE := it_f hE hk0
    have hE := Option.some.inj hE
    obtain ⟨q0, hE⟩ := Prod.mk.inj hE
    obtain ⟨q1, hE⟩ := Prod.mk.inj hE
    obtain ⟨q2, hE⟩ := Prod.mk.inj hE
    obtain ⟨q3, hE⟩ := Prod.mk.inj hE
    obtain ⟨q4, hE⟩ := Prod.mk.inj hE
    obtain ⟨q5, hE⟩ := Prod.mk.inj hE
    obtain ⟨q6, hE⟩ := Prod.mk.inj hE
    obtain ⟨q7, hE⟩ := Prod.mk.inj hE
    obtain ⟨q8, q9⟩ := Prod.mk.inj hE
    exact exx htab hlocks hK hP hD hS hce hcv hcl hk0 q0 (by rw [q2, q3, q4, q5, q6, q7, q8, q9]) (Nat.le_of_ble_eq_true rfl) (Nat.le_of_ble_eq_true rfl)
  · replace hE := it_t hE hk0
    refine lv_iload_n hx hb dX8_bestRule_14 rfl (lv_at hl 2 rfl) ?_
    refine lv_iconst (v := 1) hx hb dX8_bestRule_15 (by decide) ?_
    refine lv_bipush (v := 24) hx hb dX8_bestRule_16 (by decide) ?_
    obtain ⟨r_18, hc_19, hE⟩ := bd1_el hE
    refine ki (X := []) (Y := (W_All cy aI aT adP adS adB adO adR adA aP aS aB aO aR aA aH ah imT imdP indP imdS imdB imdO imdR imdA indA imP inP imS imB imO imR imA inA imH ihs)) (ws1 := (W_All cy aI aT adP adS adB adO adR adA aP aS aB aO aR aA aH ah imT imdP indP imdS imdB imdO imdR imdA indA imP inP imS imB imO imR imA inA imH ihs)) (rS (X := []) (Y := (W_All cy aI aT adP adS adB adO adR adA aP aS aB aO aR aA aH ah imT imdP indP imdS imdB imdO imdR imdA indA imP inP imS imB imO imR imA inA imH ihs)) (As := [.int x2, .int (1 : Int32), .int (24 : Int32)]) (rest := []) hC (c_X8_isWithin l D cy x2 (1 : Int32) (24 : Int32) r_18 hc_19) (cwS 3 hts gX8_bestRule_X8_isWithin rfl rfl rfl cd_X8_isWithin ⟨Nat.le_of_ble_eq_true rfl, Nat.le_of_ble_eq_true rfl⟩) hK hN hP hD hS hA rfl rfl hl.1 rfl (lv_room (Nat.le_of_ble_eq_true rfl)) dX8_bestRule_18 ⟨Nat.le_of_ble_eq_true rfl, Nat.le_of_ble_eq_true rfl⟩) hP hD hS hA rfl rfl rfl (fun H locs hP hD hS => ?_)
    obtain ⟨k_21, hc_20, hE⟩ := bd1_el hE
    refine kxv (X := []) (Y := (W_All cy aI aT adP adS adB adO adR adA aP aS aB aO aR aA aH ah imT imdP indP imdS imdB imdO imdR imdA indA imP inP imS imB imO imR imA inA imH ihs)) (ws1 := (W_All cy aI aT adP adS adB adO adR adA aP aS aB aO aR aA aH ah imT imdP indP imdS imdB imdO imdR imdA indA imP inP imS imB imO imR imA inA imH ihs)) (xS (X := []) (Y := (W_All cy aI aT adP adS adB adO adR adA aP aS aB aO aR aA aH ah imT imdP indP imdS imdB imdO imdR imdA indA imP inP imS imB imO imR imA inA imH ihs)) (As := [.int r_18]) (rest := []) hC (c_X8_needArgument l hst D cy r_18 k_21 hc_20) (cwS 1 hts gX8_bestRule_X8_needArgument rfl rfl rfl cd_X8_needArgument ⟨Nat.le_of_ble_eq_true rfl, Nat.le_of_ble_eq_true rfl⟩) hK hN hP hD hS hA rfl rfl hl.1 rfl (lv_room (Nat.le_of_ble_eq_true rfl)) dX8_bestRule_21 ⟨Nat.le_of_ble_eq_true rfl, Nat.le_of_ble_eq_true rfl⟩) hP hD hS hA rfl rfl rfl (fun hk0 H locs ce q9 hP hD hS hce hcv hcl => ?_) (fun hk0 H locs hP hD hS => ?_)
    · replace hE := it_f hE hk0
      have hE := Option.some.inj hE
      obtain ⟨q0, hE⟩ := Prod.mk.inj hE
      obtain ⟨q1, hE⟩ := Prod.mk.inj hE
      obtain ⟨q2, hE⟩ := Prod.mk.inj hE
      obtain ⟨q3, hE⟩ := Prod.mk.inj hE
      obtain ⟨q4, hE⟩ := Prod.mk.inj hE
      obtain ⟨q5, hE⟩ := Prod.mk.inj hE
      obtain ⟨q6, hE⟩ := Prod.mk.inj hE
      obtain ⟨q7, hE⟩ := Prod.mk.inj hE
      obtain ⟨q8, q9⟩ := Prod.mk.inj hE
      exact exx htab hlocks hK hP hD hS hce hcv hcl hk0 q0 (by rw [q2, q3, q4, q5, q6, q7, q8, q9]) (Nat.le_of_ble_eq_true rfl) (Nat.le_of_ble_eq_true rfl)
    · replace hE := it_t hE hk0
      refine lv_iconst (v := 0) hx hb dX8_bestRule_24 (by decide) ?_
      refine lv_istore_n (lv' := [(3, .int (0 : Int32)), (0, .ref (aI 0)), (1, .int x1), (2, .int x2)]) hx hb dX8_bestRule_25 rfl hl (by decide) rfl (fun ls hl => ?_)
      refine lv_aload_n hx hb dX8_bestRule_26 rfl (lv_at hl 1 rfl) ?_
      refine lv_iload_n hx hb dX8_bestRule_27 rfl (lv_at hl 2 rfl) ?_
      refine lv_iconst (v := 0) hx hb dX8_bestRule_28 (by decide) ?_
      refine lv_iload_n hx hb dX8_bestRule_29 rfl (lv_at hl 3 rfl) ?_
      obtain ⟨r_22, mdP_23, ndP_24, mdS_25, mdB_26, mdO_27, mdR_28, mdA_29, ndA_30, hc_31, hE⟩ := bd9_el hE
      refine ki (X := []) (Y := []) (ws1 := (W_All cy aI aT adP adS adB adO adR adA aP aS aB aO aR aA aH ah imT mdP_23 ndP_24 mdS_25 mdB_26 mdO_27 mdR_28 mdA_29 ndA_30 imP inP imS imB imO imR imA inA imH ihs)) (rV (X := []) (Y := []) (As := [.int x1, .int (0 : Int32), .int x2]) (rest := []) hC (c_X8_meltedWith l D cy aI aT adP adS adB adO adR adA aP aS aB aO aR aA aH ah x1 (0 : Int32) x2 imT imdP indP imdS imdB imdO imdR imdA indA imP inP imS imB imO imR imA inA imH ihs r_22 mdP_23 ndP_24 mdS_25 mdB_26 mdO_27 mdR_28 mdA_29 ndA_30 hc_31) (cwV 3 hts gX8_bestRule_X8_meltedWith rfl rfl rfl cd_X8_meltedWith ⟨Nat.le_of_ble_eq_true rfl, Nat.le_of_ble_eq_true rfl⟩) hK hN hP hD hS hA rfl 0 8 rfl rfl rfl hl.1 rfl (lv_room (Nat.le_of_ble_eq_true rfl)) dX8_bestRule_30 ⟨Nat.le_of_ble_eq_true rfl, Nat.le_of_ble_eq_true rfl⟩) hP hD hS hA rfl rfl rfl (fun H locs hP hD hS => ?_)
      refine lv_istore (lv' := [(4, .int r_22), (3, .int (0 : Int32)), (0, .ref (aI 0)), (1, .int x1), (2, .int x2)]) hx hb dX8_bestRule_33 hl (by decide) rfl (fun ls hl => ?_)
      refine lv_iconst (v := 1) hx hb dX8_bestRule_35 (by decide) ?_
      refine lv_istore (lv' := [(5, .int (1 : Int32)), (4, .int r_22), (3, .int (0 : Int32)), (0, .ref (aI 0)), (1, .int x1), (2, .int x2)]) hx hb dX8_bestRule_36 hl (by decide) rfl (fun ls hl => ?_)
      refine W.widen (k := 2) (n := 12) (Nat.le_of_ble_eq_true rfl) (Nat.le_of_ble_eq_true rfl) ?_
      exact h38 x1 x2 fuel (0 : Int32) r_22 (1 : Int32) mdP_23 ndP_24 mdS_25 mdB_26 mdO_27 mdR_28 mdA_29 ndA_30 _ _ _ hE hP hD hS (lv_sub hl [3, 4, 5, 2, 1, 0] rfl)
abbrev rm_X8_quote : Room := { frames := 8, cells := 3, slots := 18, locals := 122 }
set_option maxHeartbeats 40000000 in
set_option maxRecDepth 100000 in
theorem c_X8_quote (l : Launch) (hst : l.stackTraces = false) (D : va_G) (cy : Nat → Nat) (aI aT adP adS adB adO adR adA aP aS aB aO aR aA aH : Nat → Nat) (ah : Nat → Nat → Nat → Nat) (x1 : Int32) (x2 : Int32) (x3 : Int32) (imT : Mem) (imdP : Mem) (indP : MemL) (imdS : Mem) (imdB : Mem) (imdO : Mem) (imdR : Mem) (imdA : Mem) (indA : MemL) (imP : Mem) (inP : MemL) (imS : Mem) (imB : Mem) (imO : Mem) (imR : Mem) (imA : Mem) (inA : MemL) (imH : Mem) (ihs : (Nat → PSt)) (k' : Nat) (r' : Int32) (hE : f_X8_quote x1 x2 x3 imT imdP indP imdS imdB imdO imdR imdA indA imP inP imS imB imO imR imA inA imH ihs = some (k', r')) : CXI l yX8_quote wsX8_quote rm_X8_quote D cy [.ref (aI 0), .int x1, .int x2, .int x3] (W_All cy aI aT adP adS adB adO adR adA aP aS aB aO aR aA aH ah imT imdP indP imdS imdB imdO imdR imdA indA imP inP imS imB imO imR imA inA imH ihs) 3 18 k' r' (W_All cy aI aT adP adS adB adO adR adA aP aS aB aO aR aA aH ah imT imdP indP imdS imdB imdO imdR imdA indA imP inP imS imB imO imR imA inA imH ihs) := by
  refine CX_of (cc := cX8_quote) (maxL := 4) (ret := (some .int)) (by decide) rfl (Nat.le_of_ble_eq_true rfl) (fun p e s m args below meth c A ls hx hb hr hml hlocks hnm hown hts hA htab hK hN hP hD hS hl => ?_)
  have hown : s.vm.findClass RX8 = some m.cls := hown
  have hl : lv_has ls 4 [(0, .ref (aI 0)), (1, .int x1), (2, .int x2), (3, .int x3)] := hl
  have hC : CallFix p m c cX8_quote 4 s args wsX8_quote RX8 := ⟨hx, hb, hml, hown, hts⟩
  have f10 : (Cond.fieldLink RX8 10 "IcePlant" "now" "LIcePlant$Plant;").before args s = true := hts _ (mC qf_X8_10)
  have f115 : (Cond.fieldLink RX8 115 "IcePlant$Plant" "boats" "LIcePlant$Boats;").before args s = true := hts _ (mC qf_X8_115)
  have iX4 : ∀ w ∈ wsX40, w ∈ wsX8_quote := fun w h => mC (iA_X4 w h)
  have iX8 : ∀ w ∈ wsX80, w ∈ wsX8_quote := fun w h => mC (iA_X8 w h)
  unfold f_X8_quote at hE
  refine lv_aload_n hx hb dX8_quote_0 rfl (lv_at hl 0 rfl) ?_
  refine va_get (D := D) (ci := 8) (v := .ref (aP 0)) (C := RX8) (T := TX8) (N := 4) hx hb hts iX8 hown hK hP 0 rfl rfl 0 (by decide) f10 (fun _ h9 => h9) rfl dX8_quote_1 ?_
  refine va_get (D := D) (ci := 4) (v := .ref (aB 0)) (C := RX4) (T := TX4) (N := 13) hx hb hts iX4 hown hK hP 40 rfl rfl 3 (by decide) f115 (fun _ h9 => h9) rfl dX8_quote_4 ?_
  refine lv_iload_n hx hb dX8_quote_7 rfl (lv_at hl 1 rfl) ?_
  obtain ⟨r_1, hc_2, hE⟩ := bd1_el hE
  refine ki (X := ((W_I aI aP adP aH aT) ++ ((W_T cy aT imT) ++ ((W_P cy adP adS adB adO adR adA imdP indP) ++ ((W_S cy adS imdS) ++ ((W_B cy adB imdB) ++ ((W_O cy adO imdO) ++ ((W_R cy adR imdR) ++ ((W_A cy adA imdA indA) ++ ((W_P cy aP aS aB aO aR aA imP inP) ++ (W_S cy aS imS))))))))))) (Y := ((W_O cy aO imO) ++ ((W_R cy aR imR) ++ ((W_A cy aA imA inA) ++ ((W_H cy aH ah imH) ++ (W_HS cy ah ihs)))))) (ws1 := (W_All cy aI aT adP adS adB adO adR adA aP aS aB aO aR aA aH ah imT imdP indP imdS imdB imdO imdR imdA indA imP inP imS imB imO imR imA inA imH ihs)) (rV (X := ((W_I aI aP adP aH aT) ++ ((W_T cy aT imT) ++ ((W_P cy adP adS adB adO adR adA imdP indP) ++ ((W_S cy adS imdS) ++ ((W_B cy adB imdB) ++ ((W_O cy adO imdO) ++ ((W_R cy adR imdR) ++ ((W_A cy adA imdA indA) ++ ((W_P cy aP aS aB aO aR aA imP inP) ++ (W_S cy aS imS))))))))))) (Y := ((W_O cy aO imO) ++ ((W_R cy aR imR) ++ ((W_A cy aA imA inA) ++ ((W_H cy aH ah imH) ++ (W_HS cy ah ihs)))))) (As := [.int x1]) (rest := []) hC (c_X1_has l D cy aB x1 imB r_1 hc_2) (cwV 1 hts gX8_quote_X1_has rfl rfl rfl cd_X1_has ⟨Nat.le_of_ble_eq_true rfl, Nat.le_of_ble_eq_true rfl⟩) hK hN hP hD hS hA rfl 0 1 rfl rfl rfl hl.1 rfl (lv_room (Nat.le_of_ble_eq_true rfl)) dX8_quote_8 ⟨Nat.le_of_ble_eq_true rfl, Nat.le_of_ble_eq_true rfl⟩) hP hD hS hA rfl rfl rfl (fun H locs hP hD hS => ?_)
  obtain ⟨k_4, hc_3, hE⟩ := bd1_el hE
  refine kxv (X := []) (Y := (W_All cy aI aT adP adS adB adO adR adA aP aS aB aO aR aA aH ah imT imdP indP imdS imdB imdO imdR imdA indA imP inP imS imB imO imR imA inA imH ihs)) (ws1 := (W_All cy aI aT adP adS adB adO adR adA aP aS aB aO aR aA aH ah imT imdP indP imdS imdB imdO imdR imdA indA imP inP imS imB imO imR imA inA imH ihs)) (xS (X := []) (Y := (W_All cy aI aT adP adS adB adO adR adA aP aS aB aO aR aA aH ah imT imdP indP imdS imdB imdO imdR imdA indA imP inP imS imB imO imR imA inA imH ihs)) (As := [.int r_1]) (rest := []) hC (c_X8_needItem l hst D cy r_1 k_4 hc_3) (cwS 1 hts gX8_quote_X8_needItem rfl rfl rfl cd_X8_needItem ⟨Nat.le_of_ble_eq_true rfl, Nat.le_of_ble_eq_true rfl⟩) hK hN hP hD hS hA rfl rfl hl.1 rfl (lv_room (Nat.le_of_ble_eq_true rfl)) dX8_quote_11 ⟨Nat.le_of_ble_eq_true rfl, Nat.le_of_ble_eq_true rfl⟩) hP hD hS hA rfl rfl rfl (fun hk0 H locs ce q9 hP hD hS hce hcv hcl => ?_) (fun hk0 H locs hP hD hS => ?_)
  · replace hE := it_f hE hk0
    have hE := Option.some.inj hE
    obtain ⟨q0, q1⟩ := Prod.mk.inj hE
    exact exx htab hlocks hK hP hD hS hce hcv hcl hk0 q0 rfl (Nat.le_of_ble_eq_true rfl) (Nat.le_of_ble_eq_true rfl)
  · replace hE := it_t hE hk0
    refine lv_iload_n hx hb dX8_quote_14 rfl (lv_at hl 2 rfl) ?_
    refine lv_iconst (v := 0) hx hb dX8_quote_15 (by decide) ?_
    refine lv_sipush (v := 9999) hx hb dX8_quote_16 (by decide) ?_
    obtain ⟨r_5, hc_6, hE⟩ := bd1_el hE
    refine ki (X := []) (Y := (W_All cy aI aT adP adS adB adO adR adA aP aS aB aO aR aA aH ah imT imdP indP imdS imdB imdO imdR imdA indA imP inP imS imB imO imR imA inA imH ihs)) (ws1 := (W_All cy aI aT adP adS adB adO adR adA aP aS aB aO aR aA aH ah imT imdP indP imdS imdB imdO imdR imdA indA imP inP imS imB imO imR imA inA imH ihs)) (rS (X := []) (Y := (W_All cy aI aT adP adS adB adO adR adA aP aS aB aO aR aA aH ah imT imdP indP imdS imdB imdO imdR imdA indA imP inP imS imB imO imR imA inA imH ihs)) (As := [.int x2, .int (0 : Int32), .int (9999 : Int32)]) (rest := []) hC (c_X8_isWithin l D cy x2 (0 : Int32) (9999 : Int32) r_5 hc_6) (cwS 3 hts gX8_quote_X8_isWithin rfl rfl rfl cd_X8_isWithin ⟨Nat.le_of_ble_eq_true rfl, Nat.le_of_ble_eq_true rfl⟩) hK hN hP hD hS hA rfl rfl hl.1 rfl (lv_room (Nat.le_of_ble_eq_true rfl)) dX8_quote_19 ⟨Nat.le_of_ble_eq_true rfl, Nat.le_of_ble_eq_true rfl⟩) hP hD hS hA rfl rfl rfl (fun H locs hP hD hS => ?_)
    obtain ⟨k_8, hc_7, hE⟩ := bd1_el hE
    refine kxv (X := []) (Y := (W_All cy aI aT adP adS adB adO adR adA aP aS aB aO aR aA aH ah imT imdP indP imdS imdB imdO imdR imdA indA imP inP imS imB imO imR imA inA imH ihs)) (ws1 := (W_All cy aI aT adP adS adB adO adR adA aP aS aB aO aR aA aH ah imT imdP indP imdS imdB imdO imdR imdA indA imP inP imS imB imO imR imA inA imH ihs)) (xS (X := []) (Y := (W_All cy aI aT adP adS adB adO adR adA aP aS aB aO aR aA aH ah imT imdP indP imdS imdB imdO imdR imdA indA imP inP imS imB imO imR imA inA imH ihs)) (As := [.int r_5]) (rest := []) hC (c_X8_needArgument l hst D cy r_5 k_8 hc_7) (cwS 1 hts gX8_quote_X8_needArgument rfl rfl rfl cd_X8_needArgument ⟨Nat.le_of_ble_eq_true rfl, Nat.le_of_ble_eq_true rfl⟩) hK hN hP hD hS hA rfl rfl hl.1 rfl (lv_room (Nat.le_of_ble_eq_true rfl)) dX8_quote_22 ⟨Nat.le_of_ble_eq_true rfl, Nat.le_of_ble_eq_true rfl⟩) hP hD hS hA rfl rfl rfl (fun hk0 H locs ce q9 hP hD hS hce hcv hcl => ?_) (fun hk0 H locs hP hD hS => ?_)
    · replace hE := it_f hE hk0
      have hE := Option.some.inj hE
      obtain ⟨q0, q1⟩ := Prod.mk.inj hE
      exact exx htab hlocks hK hP hD hS hce hcv hcl hk0 q0 rfl (Nat.le_of_ble_eq_true rfl) (Nat.le_of_ble_eq_true rfl)
    · replace hE := it_t hE hk0
      refine lv_iload_n hx hb dX8_quote_25 rfl (lv_at hl 3 rfl) ?_
      refine lv_iconst (v := 0) hx hb dX8_quote_26 (by decide) ?_
      refine lv_iconst (v := 1) hx hb dX8_quote_27 (by decide) ?_
      obtain ⟨r_9, hc_10, hE⟩ := bd1_el hE
      refine ki (X := []) (Y := (W_All cy aI aT adP adS adB adO adR adA aP aS aB aO aR aA aH ah imT imdP indP imdS imdB imdO imdR imdA indA imP inP imS imB imO imR imA inA imH ihs)) (ws1 := (W_All cy aI aT adP adS adB adO adR adA aP aS aB aO aR aA aH ah imT imdP indP imdS imdB imdO imdR imdA indA imP inP imS imB imO imR imA inA imH ihs)) (rS (X := []) (Y := (W_All cy aI aT adP adS adB adO adR adA aP aS aB aO aR aA aH ah imT imdP indP imdS imdB imdO imdR imdA indA imP inP imS imB imO imR imA inA imH ihs)) (As := [.int x3, .int (0 : Int32), .int (1 : Int32)]) (rest := []) hC (c_X8_isWithin l D cy x3 (0 : Int32) (1 : Int32) r_9 hc_10) (cwS 3 hts gX8_quote_X8_isWithin rfl rfl rfl cd_X8_isWithin ⟨Nat.le_of_ble_eq_true rfl, Nat.le_of_ble_eq_true rfl⟩) hK hN hP hD hS hA rfl rfl hl.1 rfl (lv_room (Nat.le_of_ble_eq_true rfl)) dX8_quote_28 ⟨Nat.le_of_ble_eq_true rfl, Nat.le_of_ble_eq_true rfl⟩) hP hD hS hA rfl rfl rfl (fun H locs hP hD hS => ?_)
      obtain ⟨k_12, hc_11, hE⟩ := bd1_el hE
      refine kxv (X := []) (Y := (W_All cy aI aT adP adS adB adO adR adA aP aS aB aO aR aA aH ah imT imdP indP imdS imdB imdO imdR imdA indA imP inP imS imB imO imR imA inA imH ihs)) (ws1 := (W_All cy aI aT adP adS adB adO adR adA aP aS aB aO aR aA aH ah imT imdP indP imdS imdB imdO imdR imdA indA imP inP imS imB imO imR imA inA imH ihs)) (xS (X := []) (Y := (W_All cy aI aT adP adS adB adO adR adA aP aS aB aO aR aA aH ah imT imdP indP imdS imdB imdO imdR imdA indA imP inP imS imB imO imR imA inA imH ihs)) (As := [.int r_9]) (rest := []) hC (c_X8_needArgument l hst D cy r_9 k_12 hc_11) (cwS 1 hts gX8_quote_X8_needArgument rfl rfl rfl cd_X8_needArgument ⟨Nat.le_of_ble_eq_true rfl, Nat.le_of_ble_eq_true rfl⟩) hK hN hP hD hS hA rfl rfl hl.1 rfl (lv_room (Nat.le_of_ble_eq_true rfl)) dX8_quote_31 ⟨Nat.le_of_ble_eq_true rfl, Nat.le_of_ble_eq_true rfl⟩) hP hD hS hA rfl rfl rfl (fun hk0 H locs ce q9 hP hD hS hce hcv hcl => ?_) (fun hk0 H locs hP hD hS => ?_)
      · replace hE := it_f hE hk0
        have hE := Option.some.inj hE
        obtain ⟨q0, q1⟩ := Prod.mk.inj hE
        exact exx htab hlocks hK hP hD hS hce hcv hcl hk0 q0 rfl (Nat.le_of_ble_eq_true rfl) (Nat.le_of_ble_eq_true rfl)
      · replace hE := it_t hE hk0
        refine lv_aload_n hx hb dX8_quote_34 rfl (lv_at hl 0 rfl) ?_
        refine va_get (D := D) (ci := 8) (v := .ref (aP 0)) (C := RX8) (T := TX8) (N := 4) hx hb hts iX8 hown hK hP 0 rfl rfl 0 (by decide) f10 (fun _ h9 => h9) rfl dX8_quote_35 ?_
        refine lv_iload_n hx hb dX8_quote_38 rfl (lv_at hl 1 rfl) ?_
        refine lv_iload_n hx hb dX8_quote_39 rfl (lv_at hl 2 rfl) ?_
        refine lv_iload_n hx hb dX8_quote_40 rfl (lv_at hl 3 rfl) ?_
        obtain ⟨r_13, hc_14, hE⟩ := bd1_el hE
        refine ki (X := ((W_I aI aP adP aH aT) ++ ((W_T cy aT imT) ++ ((W_P cy adP adS adB adO adR adA imdP indP) ++ ((W_S cy adS imdS) ++ ((W_B cy adB imdB) ++ ((W_O cy adO imdO) ++ ((W_R cy adR imdR) ++ (W_A cy adA imdA indA))))))))) (Y := ((W_H cy aH ah imH) ++ (W_HS cy ah ihs))) (ws1 := (W_All cy aI aT adP adS adB adO adR adA aP aS aB aO aR aA aH ah imT imdP indP imdS imdB imdO imdR imdA indA imP inP imS imB imO imR imA inA imH ihs)) (rV (X := ((W_I aI aP adP aH aT) ++ ((W_T cy aT imT) ++ ((W_P cy adP adS adB adO adR adA imdP indP) ++ ((W_S cy adS imdS) ++ ((W_B cy adB imdB) ++ ((W_O cy adO imdO) ++ ((W_R cy adR imdR) ++ (W_A cy adA imdA indA))))))))) (Y := ((W_H cy aH ah imH) ++ (W_HS cy ah ihs))) (As := [.int x1, .int x2, .int x3]) (rest := []) hC (c_X4_priceOf l D cy aP aS aB aO aR aA x1 x2 x3 imP inP imS imB imO imR imA inA r_13 hc_14) (cwV 3 hts gX8_quote_X4_priceOf rfl rfl rfl cd_X4_priceOf ⟨Nat.le_of_ble_eq_true rfl, Nat.le_of_ble_eq_true rfl⟩) hK hN hP hD hS hA rfl 0 4 rfl rfl rfl hl.1 rfl (lv_room (Nat.le_of_ble_eq_true rfl)) dX8_quote_41 ⟨Nat.le_of_ble_eq_true rfl, Nat.le_of_ble_eq_true rfl⟩) hP hD hS hA rfl rfl rfl (fun H locs hP hD hS => ?_)
        have hE := Option.some.inj hE
        obtain ⟨q0, q1⟩ := Prod.mk.inj hE
        exact exi hx hb hr hlocks hK hP hD hS q0 q1 rfl (Nat.le_of_ble_eq_true rfl) (Nat.le_of_ble_eq_true rfl) dX8_quote_44
abbrev rm_X8_errorPosition : Room := { frames := 4, cells := 0, slots := 0, locals := 86 }
set_option maxHeartbeats 40000000 in
set_option maxRecDepth 100000 in
theorem c_X8_errorPosition (l : Launch) (D : va_G) (cy : Nat → Nat) (aI aT adP adS adB adO adR adA aP aS aB aO aR aA aH : Nat → Nat) (ah : Nat → Nat → Nat → Nat) (imT : Mem) (imdP : Mem) (indP : MemL) (imdS : Mem) (imdB : Mem) (imdO : Mem) (imdR : Mem) (imdA : Mem) (indA : MemL) (imP : Mem) (inP : MemL) (imS : Mem) (imB : Mem) (imO : Mem) (imR : Mem) (imA : Mem) (inA : MemL) (imH : Mem) (ihs : (Nat → PSt)) (r' : Int32) (mT' : Mem) (hE : f_X8_errorPosition imT imdP indP imdS imdB imdO imdR imdA indA imP inP imS imB imO imR imA inA imH ihs = some (r', mT')) : CI l yX8_errorPosition wsX8_errorPosition rm_X8_errorPosition D cy [.ref (aI 0)] (W_All cy aI aT adP adS adB adO adR adA aP aS aB aO aR aA aH ah imT imdP indP imdS imdB imdO imdR imdA indA imP inP imS imB imO imR imA inA imH ihs) 0 0 r' (W_All cy aI aT adP adS adB adO adR adA aP aS aB aO aR aA aH ah mT' imdP indP imdS imdB imdO imdR imdA indA imP inP imS imB imO imR imA inA imH ihs) := by
  refine CQ_of (cc := cX8_errorPosition) (maxL := 1) (ret := (some .int)) (by decide) rfl (Nat.le_of_ble_eq_true rfl) (fun p e s m args below meth c A ls hx hb hr hml hlocks hnm hown hts hA hK hN hP hD hS hl => ?_)
  have hown : s.vm.findClass RX8 = some m.cls := hown
  have hl : lv_has ls 1 [(0, .ref (aI 0))] := hl
  have hC : CallFix p m c cX8_errorPosition 1 s args wsX8_errorPosition RX8 := ⟨hx, hb, hml, hown, hts⟩
  have f29 : (Cond.fieldLink RX8 29 "IcePlant" "text" "LIcePlant$Text;").before args s = true := hts _ (mC qf_X8_29)
  have f250 : (Cond.fieldLink RX8 250 "IcePlant$Text" "error" "I").before args s = true := hts _ (mC qf_X8_250)
  have f253 : (Cond.fieldLink RX8 253 "IcePlant$Text" "at" "I").before args s = true := hts _ (mC qf_X8_253)
  have iX7 : ∀ w ∈ wsX70, w ∈ wsX8_errorPosition := fun w h => mC (iA_X7 w h)
  have iX8 : ∀ w ∈ wsX80, w ∈ wsX8_errorPosition := fun w h => mC (iA_X8 w h)
  unfold f_X8_errorPosition at hE
  refine lv_aload_n hx hb dX8_errorPosition_0 rfl (lv_at hl 0 rfl) ?_
  refine va_get (D := D) (ci := 8) (v := .ref (aT 0)) (C := RX8) (T := TX8) (N := 4) hx hb hts iX8 hown hK hP 0 rfl rfl 3 (by decide) f29 (fun _ h9 => h9) rfl dX8_errorPosition_1 ?_
  obtain ⟨mT_1, hc_2, hE⟩ := bd1_el hE
  refine kv (X := (W_I aI aP adP aH aT)) (Y := ((W_P cy adP adS adB adO adR adA imdP indP) ++ ((W_S cy adS imdS) ++ ((W_B cy adB imdB) ++ ((W_O cy adO imdO) ++ ((W_R cy adR imdR) ++ ((W_A cy adA imdA indA) ++ ((W_P cy aP aS aB aO aR aA imP inP) ++ ((W_S cy aS imS) ++ ((W_B cy aB imB) ++ ((W_O cy aO imO) ++ ((W_R cy aR imR) ++ ((W_A cy aA imA inA) ++ ((W_H cy aH ah imH) ++ (W_HS cy ah ihs))))))))))))))) (ws1 := (W_All cy aI aT adP adS adB adO adR adA aP aS aB aO aR aA aH ah mT_1 imdP indP imdS imdB imdO imdR imdA indA imP inP imS imB imO imR imA inA imH ihs)) (rV (X := (W_I aI aP adP aH aT)) (Y := ((W_P cy adP adS adB adO adR adA imdP indP) ++ ((W_S cy adS imdS) ++ ((W_B cy adB imdB) ++ ((W_O cy adO imdO) ++ ((W_R cy adR imdR) ++ ((W_A cy adA imdA indA) ++ ((W_P cy aP aS aB aO aR aA imP inP) ++ ((W_S cy aS imS) ++ ((W_B cy aB imB) ++ ((W_O cy aO imO) ++ ((W_R cy aR imR) ++ ((W_A cy aA imA inA) ++ ((W_H cy aH ah imH) ++ (W_HS cy ah ihs))))))))))))))) (As := []) (rest := []) hC (c_X7_readAll l D cy aT imT mT_1 hc_2) (cwV 0 hts gX8_errorPosition_X7_readAll rfl rfl rfl cd_X7_readAll ⟨Nat.le_of_ble_eq_true rfl, Nat.le_of_ble_eq_true rfl⟩) hK hN hP hD hS hA rfl 0 7 rfl rfl rfl hl.1 rfl (lv_room (Nat.le_of_ble_eq_true rfl)) dX8_errorPosition_4 ⟨Nat.le_of_ble_eq_true rfl, Nat.le_of_ble_eq_true rfl⟩) hP hD hS hA rfl rfl rfl (fun H locs hP hD hS => ?_)
  refine lv_aload_n hx hb dX8_errorPosition_7 rfl (lv_at hl 0 rfl) ?_
  refine va_get (D := D) (ci := 8) (v := .ref (aT 0)) (C := RX8) (T := TX8) (N := 4) hx hb hts iX8 hown hK hP 0 rfl rfl 3 (by decide) f29 (fun _ h9 => h9) rfl dX8_errorPosition_8 ?_
  refine va_get (D := D) (ci := 7) (v := .int (mT_1 2 0)) (C := RX7) (T := TX7) (N := 8) hx hb hts iX7 hown hK hP 1 rfl rfl 2 (by decide) f250 (fun _ h9 => h9) rfl dX8_errorPosition_11 ?_
  refine lv_if_ne (tgt := 21) hx hb dX8_errorPosition_14 (by decide) (fun c_3 => ?_) (fun c_3 => ?_)
  · replace hE := it_f hE c_3
    refine lv_aload_n hx hb dX8_errorPosition_21 rfl (lv_at hl 0 rfl) ?_
    refine va_get (D := D) (ci := 8) (v := .ref (aT 0)) (C := RX8) (T := TX8) (N := 4) hx hb hts iX8 hown hK hP 0 rfl rfl 3 (by decide) f29 (fun _ h9 => h9) rfl dX8_errorPosition_22 ?_
    refine va_get (D := D) (ci := 7) (v := .int (mT_1 1 0)) (C := RX7) (T := TX7) (N := 8) hx hb hts iX7 hown hK hP 1 rfl rfl 1 (by decide) f253 (fun _ h9 => h9) rfl dX8_errorPosition_25 ?_
    have hE := Option.some.inj hE
    obtain ⟨q0, q1⟩ := Prod.mk.inj hE
    exact ei hx hb hr hlocks hK hP hD hS q0 (by rw [q1]) dX8_errorPosition_28
  · replace hE := it_t hE c_3
    refine lv_iconst (v := (-1)) hx hb dX8_errorPosition_17 (by decide) ?_
    refine lv_goto (tgt := 28) hx hb dX8_errorPosition_18 (by decide) ?_
    have hE := Option.some.inj hE
    obtain ⟨q0, q1⟩ := Prod.mk.inj hE
    exact ei hx hb hr hlocks hK hP hD hS q0 (by rw [q1]) dX8_errorPosition_28
abbrev rm_X8_errorKind : Room := { frames := 4, cells := 0, slots := 0, locals := 86 }
set_option maxHeartbeats 40000000 in
set_option maxRecDepth 100000 in
theorem c_X8_errorKind (l : Launch) (D : va_G) (cy : Nat → Nat) (aI aT adP adS adB adO adR adA aP aS aB aO aR aA aH : Nat → Nat) (ah : Nat → Nat → Nat → Nat) (imT : Mem) (imdP : Mem) (indP : MemL) (imdS : Mem) (imdB : Mem) (imdO : Mem) (imdR : Mem) (imdA : Mem) (indA : MemL) (imP : Mem) (inP : MemL) (imS : Mem) (imB : Mem) (imO : Mem) (imR : Mem) (imA : Mem) (inA : MemL) (imH : Mem) (ihs : (Nat → PSt)) (r' : Int32) (mT' : Mem) (hE : f_X8_errorKind imT imdP indP imdS imdB imdO imdR imdA indA imP inP imS imB imO imR imA inA imH ihs = some (r', mT')) : CI l yX8_errorKind wsX8_errorKind rm_X8_errorKind D cy [.ref (aI 0)] (W_All cy aI aT adP adS adB adO adR adA aP aS aB aO aR aA aH ah imT imdP indP imdS imdB imdO imdR imdA indA imP inP imS imB imO imR imA inA imH ihs) 0 0 r' (W_All cy aI aT adP adS adB adO adR adA aP aS aB aO aR aA aH ah mT' imdP indP imdS imdB imdO imdR imdA indA imP inP imS imB imO imR imA inA imH ihs) := by
  refine CQ_of (cc := cX8_errorKind) (maxL := 1) (ret := (some .int)) (by decide) rfl (Nat.le_of_ble_eq_true rfl) (fun p e s m args below meth c A ls hx hb hr hml hlocks hnm hown hts hA hK hN hP hD hS hl => ?_)
  have hown : s.vm.findClass RX8 = some m.cls := hown
  have hl : lv_has ls 1 [(0, .ref (aI 0))] := hl
  have hC : CallFix p m c cX8_errorKind 1 s args wsX8_errorKind RX8 := ⟨hx, hb, hml, hown, hts⟩
  have f29 : (Cond.fieldLink RX8 29 "IcePlant" "text" "LIcePlant$Text;").before args s = true := hts _ (mC qf_X8_29)
  have f250 : (Cond.fieldLink RX8 250 "IcePlant$Text" "error" "I").before args s = true := hts _ (mC qf_X8_250)
  have iX7 : ∀ w ∈ wsX70, w ∈ wsX8_errorKind := fun w h => mC (iA_X7 w h)
  have iX8 : ∀ w ∈ wsX80, w ∈ wsX8_errorKind := fun w h => mC (iA_X8 w h)
  unfold f_X8_errorKind at hE
  refine lv_aload_n hx hb dX8_errorKind_0 rfl (lv_at hl 0 rfl) ?_
  refine va_get (D := D) (ci := 8) (v := .ref (aT 0)) (C := RX8) (T := TX8) (N := 4) hx hb hts iX8 hown hK hP 0 rfl rfl 3 (by decide) f29 (fun _ h9 => h9) rfl dX8_errorKind_1 ?_
  obtain ⟨mT_1, hc_2, hE⟩ := bd1_el hE
  refine kv (X := (W_I aI aP adP aH aT)) (Y := ((W_P cy adP adS adB adO adR adA imdP indP) ++ ((W_S cy adS imdS) ++ ((W_B cy adB imdB) ++ ((W_O cy adO imdO) ++ ((W_R cy adR imdR) ++ ((W_A cy adA imdA indA) ++ ((W_P cy aP aS aB aO aR aA imP inP) ++ ((W_S cy aS imS) ++ ((W_B cy aB imB) ++ ((W_O cy aO imO) ++ ((W_R cy aR imR) ++ ((W_A cy aA imA inA) ++ ((W_H cy aH ah imH) ++ (W_HS cy ah ihs))))))))))))))) (ws1 := (W_All cy aI aT adP adS adB adO adR adA aP aS aB aO aR aA aH ah mT_1 imdP indP imdS imdB imdO imdR imdA indA imP inP imS imB imO imR imA inA imH ihs)) (rV (X := (W_I aI aP adP aH aT)) (Y := ((W_P cy adP adS adB adO adR adA imdP indP) ++ ((W_S cy adS imdS) ++ ((W_B cy adB imdB) ++ ((W_O cy adO imdO) ++ ((W_R cy adR imdR) ++ ((W_A cy adA imdA indA) ++ ((W_P cy aP aS aB aO aR aA imP inP) ++ ((W_S cy aS imS) ++ ((W_B cy aB imB) ++ ((W_O cy aO imO) ++ ((W_R cy aR imR) ++ ((W_A cy aA imA inA) ++ ((W_H cy aH ah imH) ++ (W_HS cy ah ihs))))))))))))))) (As := []) (rest := []) hC (c_X7_readAll l D cy aT imT mT_1 hc_2) (cwV 0 hts gX8_errorKind_X7_readAll rfl rfl rfl cd_X7_readAll ⟨Nat.le_of_ble_eq_true rfl, Nat.le_of_ble_eq_true rfl⟩) hK hN hP hD hS hA rfl 0 7 rfl rfl rfl hl.1 rfl (lv_room (Nat.le_of_ble_eq_true rfl)) dX8_errorKind_4 ⟨Nat.le_of_ble_eq_true rfl, Nat.le_of_ble_eq_true rfl⟩) hP hD hS hA rfl rfl rfl (fun H locs hP hD hS => ?_)
  refine lv_aload_n hx hb dX8_errorKind_7 rfl (lv_at hl 0 rfl) ?_
  refine va_get (D := D) (ci := 8) (v := .ref (aT 0)) (C := RX8) (T := TX8) (N := 4) hx hb hts iX8 hown hK hP 0 rfl rfl 3 (by decide) f29 (fun _ h9 => h9) rfl dX8_errorKind_8 ?_
  refine va_get (D := D) (ci := 7) (v := .int (mT_1 2 0)) (C := RX7) (T := TX7) (N := 8) hx hb hts iX7 hown hK hP 1 rfl rfl 2 (by decide) f250 (fun _ h9 => h9) rfl dX8_errorKind_11 ?_
  have hE := Option.some.inj hE
  obtain ⟨q0, q1⟩ := Prod.mk.inj hE
  exact ei hx hb hr hlocks hK hP hD hS q0 (by rw [q1]) dX8_errorKind_14
