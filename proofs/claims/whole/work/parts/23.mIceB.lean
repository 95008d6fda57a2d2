abbrev rm_X8_receipt : Room := { frames := 8, cells := 2, slots := 12, locals := 122 }
set_option maxHeartbeats 40000000 in
set_option maxRecDepth 100000 in
theorem c_X8_receipt (l : Launch) (hst : l.stackTraces = false) (D : va_G) (cy : Nat → Nat) (aI aT adP adS adB adO adR adA aP aS aB aO aR aA aH : Nat → Nat) (ah : Nat → Nat → Nat → Nat) (x1 : Int32) (x2 : Int32) (imT : Mem) (imdP : Mem) (indP : MemL) (imdS : Mem) (imdB : Mem) (imdO : Mem) (imdR : Mem) (imdA : Mem) (indA : MemL) (imP : Mem) (inP : MemL) (imS : Mem) (imB : Mem) (imO : Mem) (imR : Mem) (imA : Mem) (inA : MemL) (imH : Mem) (ihs : (Nat → PSt)) (k' : Nat) (r' : Int32) (hE : f_X8_receipt x1 x2 imT imdP indP imdS imdB imdO imdR imdA indA imP inP imS imB imO imR imA inA imH ihs = some (k', r')) : CXI l yX8_receipt wsX8_receipt rm_X8_receipt D cy [.ref (aI 0), .int x1, .int x2] (W_All cy aI aT adP adS adB adO adR adA aP aS aB aO aR aA aH ah imT imdP indP imdS imdB imdO imdR imdA indA imP inP imS imB imO imR imA inA imH ihs) 2 12 k' r' (W_All cy aI aT adP adS adB adO adR adA aP aS aB aO aR aA aH ah imT imdP indP imdS imdB imdO imdR imdA indA imP inP imS imB imO imR imA inA imH ihs) := by
  refine CX_of (cc := cX8_receipt) (maxL := 3) (ret := (some .int)) (by decide) rfl (Nat.le_of_ble_eq_true rfl) (fun p e s m args below meth c A ls hx hb hr hml hlocks hnm hown hts hA htab hK hN hP hD hS hl => ?_)
  have hown : s.vm.findClass RX8 = some m.cls := hown
  have hl : lv_has ls 3 [(0, .ref (aI 0)), (1, .int x1), (2, .int x2)] := hl
  have hC : CallFix p m c cX8_receipt 3 s args wsX8_receipt RX8 := ⟨hx, hb, hml, hown, hts⟩
  have f10 : (Cond.fieldLink RX8 10 "IcePlant" "now" "LIcePlant$Plant;").before args s = true := hts _ (by decide +kernel)
  have f184 : (Cond.fieldLink RX8 184 "IcePlant$Plant" "receipts" "LIcePlant$Receipts;").before args s = true := hts _ (by decide +kernel)
  have iX4 : ∀ w ∈ wsX40, w ∈ wsX8_receipt := by decide +kernel
  have iX8 : ∀ w ∈ wsX80, w ∈ wsX8_receipt := by decide +kernel
  unfold f_X8_receipt at hE
  refine lv_iload_n hx hb dX8_receipt_0 rfl (lv_at hl 1 rfl) ?_
  refine lv_iconst (v := 0) hx hb dX8_receipt_1 (by decide) ?_
  refine lv_aload_n hx hb dX8_receipt_2 rfl (lv_at hl 0 rfl) ?_
  refine va_get (D := D) (ci := 8) (v := .ref (aP 0)) (C := RX8) (T := TX8) (N := 4) hx hb hts iX8 hown hK hP 0 rfl rfl 0 (by decide) f10 (fun _ h9 => h9) rfl dX8_receipt_3 ?_
  refine va_get (D := D) (ci := 4) (v := .ref (aR 0)) (C := RX4) (T := TX4) (N := 13) hx hb hts iX4 hown hK hP 40 rfl rfl 5 (by decide) f184 (fun _ h9 => h9) rfl dX8_receipt_6 ?_
  obtain ⟨r_1, hc_2, hE⟩ := bd1_el hE
  refine ki (X := ((W_I aI aP adP aH aT) ++ ((W_T cy aT imT) ++ ((W_P cy adP adS adB adO adR adA imdP indP) ++ ((W_S cy adS imdS) ++ ((W_B cy adB imdB) ++ ((W_O cy adO imdO) ++ ((W_R cy adR imdR) ++ ((W_A cy adA imdA indA) ++ ((W_P cy aP aS aB aO aR aA imP inP) ++ ((W_S cy aS imS) ++ ((W_B cy aB imB) ++ (W_O cy aO imO))))))))))))) (Y := ((W_A cy aA imA inA) ++ ((W_H cy aH ah imH) ++ (W_HS cy ah ihs)))) (ws1 := (W_All cy aI aT adP adS adB adO adR adA aP aS aB aO aR aA aH ah imT imdP indP imdS imdB imdO imdR imdA indA imP inP imS imB imO imR imA inA imH ihs)) (rV (X := ((W_I aI aP adP aH aT) ++ ((W_T cy aT imT) ++ ((W_P cy adP adS adB adO adR adA imdP indP) ++ ((W_S cy adS imdS) ++ ((W_B cy adB imdB) ++ ((W_O cy adO imdO) ++ ((W_R cy adR imdR) ++ ((W_A cy adA imdA indA) ++ ((W_P cy aP aS aB aO aR aA imP inP) ++ ((W_S cy aS imS) ++ ((W_B cy aB imB) ++ (W_O cy aO imO))))))))))))) (Y := ((W_A cy aA imA inA) ++ ((W_H cy aH ah imH) ++ (W_HS cy ah ihs)))) (As := []) (rest := [.int (0 : Int32), .int x1]) hC (c_X5_kept l D cy aR imR r_1 hc_2) (cwV 0 hts gX8_receipt_X5_kept rfl rfl rfl (by decide +kernel) ⟨Nat.le_of_ble_eq_true rfl, Nat.le_of_ble_eq_true rfl⟩) hK hN hP hD hS hA rfl 0 5 rfl rfl rfl hl.1 rfl (lv_room (Nat.le_of_ble_eq_true rfl)) dX8_receipt_9 ⟨Nat.le_of_ble_eq_true rfl, Nat.le_of_ble_eq_true rfl⟩) hP hD hS hA rfl rfl rfl (fun H locs hP hD hS => ?_)
  refine lv_iconst (v := 1) hx hb dX8_receipt_12 (by decide) ?_
  refine lv_isub hx hb dX8_receipt_13 ?_
  obtain ⟨r_3, hc_4, hE⟩ := bd1_el hE
  refine ki (X := []) (Y := (W_All cy aI aT adP adS adB adO adR adA aP aS aB aO aR aA aH ah imT imdP indP imdS imdB imdO imdR imdA indA imP inP imS imB imO imR imA inA imH ihs)) (ws1 := (W_All cy aI aT adP adS adB adO adR adA aP aS aB aO aR aA aH ah imT imdP indP imdS imdB imdO imdR imdA indA imP inP imS imB imO imR imA inA imH ihs)) (rS (X := []) (Y := (W_All cy aI aT adP adS adB adO adR adA aP aS aB aO aR aA aH ah imT imdP indP imdS imdB imdO imdR imdA indA imP inP imS imB imO imR imA inA imH ihs)) (As := [.int x1, .int (0 : Int32), .int (r_1 - (1 : Int32))]) (rest := []) hC (c_X8_isWithin l D cy x1 (0 : Int32) (r_1 - (1 : Int32)) r_3 hc_4) (cwS 3 hts gX8_receipt_X8_isWithin rfl rfl rfl (by decide +kernel) ⟨Nat.le_of_ble_eq_true rfl, Nat.le_of_ble_eq_true rfl⟩) hK hN hP hD hS hA rfl rfl hl.1 rfl (lv_room (Nat.le_of_ble_eq_true rfl)) dX8_receipt_14 ⟨Nat.le_of_ble_eq_true rfl, Nat.le_of_ble_eq_true rfl⟩) hP hD hS hA rfl rfl rfl (fun H locs hP hD hS => ?_)
  obtain ⟨k_6, hc_5, hE⟩ := bd1_el hE
  refine kxv (X := []) (Y := (W_All cy aI aT adP adS adB adO adR adA aP aS aB aO aR aA aH ah imT imdP indP imdS imdB imdO imdR imdA indA imP inP imS imB imO imR imA inA imH ihs)) (ws1 := (W_All cy aI aT adP adS adB adO adR adA aP aS aB aO aR aA aH ah imT imdP indP imdS imdB imdO imdR imdA indA imP inP imS imB imO imR imA inA imH ihs)) (xS (X := []) (Y := (W_All cy aI aT adP adS adB adO adR adA aP aS aB aO aR aA aH ah imT imdP indP imdS imdB imdO imdR imdA indA imP inP imS imB imO imR imA inA imH ihs)) (As := [.int r_3]) (rest := []) hC (c_X8_needItem l hst D cy r_3 k_6 hc_5) (cwS 1 hts gX8_receipt_X8_needItem rfl rfl rfl (by decide +kernel) ⟨Nat.le_of_ble_eq_true rfl, Nat.le_of_ble_eq_true rfl⟩) hK hN hP hD hS hA rfl rfl hl.1 rfl (lv_room (Nat.le_of_ble_eq_true rfl)) dX8_receipt_17 ⟨Nat.le_of_ble_eq_true rfl, Nat.le_of_ble_eq_true rfl⟩) hP hD hS hA rfl rfl rfl (fun hk0 H locs ce q9 hP hD hS hce hcv hcl => ?_) (fun hk0 H locs hP hD hS => ?_)
  · replace hE := it_f hE hk0
    have hE := Option.some.inj hE
    obtain ⟨q0, q1⟩ := Prod.mk.inj hE
    exact exx htab hlocks hK hP hD hS hce hcv hcl hk0 q0 rfl (Nat.le_of_ble_eq_true rfl) (Nat.le_of_ble_eq_true rfl)
  · replace hE := it_t hE hk0
    refine lv_iload_n hx hb dX8_receipt_20 rfl (lv_at hl 2 rfl) ?_
    refine lv_iconst (v := 0) hx hb dX8_receipt_21 (by decide) ?_
    refine lv_iconst (v := 4) hx hb dX8_receipt_22 (by decide) ?_
    obtain ⟨r_7, hc_8, hE⟩ := bd1_el hE
    refine ki (X := []) (Y := (W_All cy aI aT adP adS adB adO adR adA aP aS aB aO aR aA aH ah imT imdP indP imdS imdB imdO imdR imdA indA imP inP imS imB imO imR imA inA imH ihs)) (ws1 := (W_All cy aI aT adP adS adB adO adR adA aP aS aB aO aR aA aH ah imT imdP indP imdS imdB imdO imdR imdA indA imP inP imS imB imO imR imA inA imH ihs)) (rS (X := []) (Y := (W_All cy aI aT adP adS adB adO adR adA aP aS aB aO aR aA aH ah imT imdP indP imdS imdB imdO imdR imdA indA imP inP imS imB imO imR imA inA imH ihs)) (As := [.int x2, .int (0 : Int32), .int (4 : Int32)]) (rest := []) hC (c_X8_isWithin l D cy x2 (0 : Int32) (4 : Int32) r_7 hc_8) (cwS 3 hts gX8_receipt_X8_isWithin rfl rfl rfl (by decide +kernel) ⟨Nat.le_of_ble_eq_true rfl, Nat.le_of_ble_eq_true rfl⟩) hK hN hP hD hS hA rfl rfl hl.1 rfl (lv_room (Nat.le_of_ble_eq_true rfl)) dX8_receipt_23 ⟨Nat.le_of_ble_eq_true rfl, Nat.le_of_ble_eq_true rfl⟩) hP hD hS hA rfl rfl rfl (fun H locs hP hD hS => ?_)
    obtain ⟨k_10, hc_9, hE⟩ := bd1_el hE
    refine kxv (X := []) (Y := (W_All cy aI aT adP adS adB adO adR adA aP aS aB aO aR aA aH ah imT imdP indP imdS imdB imdO imdR imdA indA imP inP imS imB imO imR imA inA imH ihs)) (ws1 := (W_All cy aI aT adP adS adB adO adR adA aP aS aB aO aR aA aH ah imT imdP indP imdS imdB imdO imdR imdA indA imP inP imS imB imO imR imA inA imH ihs)) (xS (X := []) (Y := (W_All cy aI aT adP adS adB adO adR adA aP aS aB aO aR aA aH ah imT imdP indP imdS imdB imdO imdR imdA indA imP inP imS imB imO imR imA inA imH ihs)) (As := [.int r_7]) (rest := []) hC (c_X8_needArgument l hst D cy r_7 k_10 hc_9) (cwS 1 hts gX8_receipt_X8_needArgument rfl rfl rfl (by decide +kernel) ⟨Nat.le_of_ble_eq_true rfl, Nat.le_of_ble_eq_true rfl⟩) hK hN hP hD hS hA rfl rfl hl.1 rfl (lv_room (Nat.le_of_ble_eq_true rfl)) dX8_receipt_26 ⟨Nat.le_of_ble_eq_true rfl, Nat.le_of_ble_eq_true rfl⟩) hP hD hS hA rfl rfl rfl (fun hk0 H locs ce q9 hP hD hS hce hcv hcl => ?_) (fun hk0 H locs hP hD hS => ?_)
    · replace hE := it_f hE hk0
      have hE := Option.some.inj hE
      obtain ⟨q0, q1⟩ := Prod.mk.inj hE
      exact exx htab hlocks hK hP hD hS hce hcv hcl hk0 q0 rfl (Nat.le_of_ble_eq_true rfl) (Nat.le_of_ble_eq_true rfl)
    · replace hE := it_t hE hk0
      refine lv_aload_n hx hb dX8_receipt_29 rfl (lv_at hl 0 rfl) ?_
      refine va_get (D := D) (ci := 8) (v := .ref (aP 0)) (C := RX8) (T := TX8) (N := 4) hx hb hts iX8 hown hK hP 0 rfl rfl 0 (by decide) f10 (fun _ h9 => h9) rfl dX8_receipt_30 ?_
      refine va_get (D := D) (ci := 4) (v := .ref (aR 0)) (C := RX4) (T := TX4) (N := 13) hx hb hts iX4 hown hK hP 40 rfl rfl 5 (by decide) f184 (fun _ h9 => h9) rfl dX8_receipt_33 ?_
      refine lv_iload_n hx hb dX8_receipt_36 rfl (lv_at hl 1 rfl) ?_
      refine lv_iload_n hx hb dX8_receipt_37 rfl (lv_at hl 2 rfl) ?_
      obtain ⟨r_11, hc_12, hE⟩ := bd1_el hE
      refine ki (X := ((W_I aI aP adP aH aT) ++ ((W_T cy aT imT) ++ ((W_P cy adP adS adB adO adR adA imdP indP) ++ ((W_S cy adS imdS) ++ ((W_B cy adB imdB) ++ ((W_O cy adO imdO) ++ ((W_R cy adR imdR) ++ ((W_A cy adA imdA indA) ++ ((W_P cy aP aS aB aO aR aA imP inP) ++ ((W_S cy aS imS) ++ ((W_B cy aB imB) ++ (W_O cy aO imO))))))))))))) (Y := ((W_A cy aA imA inA) ++ ((W_H cy aH ah imH) ++ (W_HS cy ah ihs)))) (ws1 := (W_All cy aI aT adP adS adB adO adR adA aP aS aB aO aR aA aH ah imT imdP indP imdS imdB imdO imdR imdA indA imP inP imS imB imO imR imA inA imH ihs)) (rV (X := ((W_I aI aP adP aH aT) ++ ((W_T cy aT imT) ++ ((W_P cy adP adS adB adO adR adA imdP indP) ++ ((W_S cy adS imdS) ++ ((W_B cy adB imdB) ++ ((W_O cy adO imdO) ++ ((W_R cy adR imdR) ++ ((W_A cy adA imdA indA) ++ ((W_P cy aP aS aB aO aR aA imP inP) ++ ((W_S cy aS imS) ++ ((W_B cy aB imB) ++ (W_O cy aO imO))))))))))))) (Y := ((W_A cy aA imA inA) ++ ((W_H cy aH ah imH) ++ (W_HS cy ah ihs)))) (As := [.int x1, .int x2]) (rest := []) hC (c_X5_property l D cy aR x1 x2 imR r_11 hc_12) (cwV 2 hts gX8_receipt_X5_property rfl rfl rfl (by decide +kernel) ⟨Nat.le_of_ble_eq_true rfl, Nat.le_of_ble_eq_true rfl⟩) hK hN hP hD hS hA rfl 0 5 rfl rfl rfl hl.1 rfl (lv_room (Nat.le_of_ble_eq_true rfl)) dX8_receipt_38 ⟨Nat.le_of_ble_eq_true rfl, Nat.le_of_ble_eq_true rfl⟩) hP hD hS hA rfl rfl rfl (fun H locs hP hD hS => ?_)
      have hE := Option.some.inj hE
      obtain ⟨q0, q1⟩ := Prod.mk.inj hE
      exact exi hx hb hr hlocks hK hP hD hS q0 q1 rfl (Nat.le_of_ble_eq_true rfl) (Nat.le_of_ble_eq_true rfl) dX8_receipt_41
abbrev rm_X8_account : Room := { frames := 8, cells := 2, slots := 12, locals := 122 }
set_option maxHeartbeats 40000000 in
set_option maxRecDepth 100000 in
theorem c_X8_account (l : Launch) (hst : l.stackTraces = false) (D : va_G) (cy : Nat → Nat) (aI aT adP adS adB adO adR adA aP aS aB aO aR aA aH : Nat → Nat) (ah : Nat → Nat → Nat → Nat) (x1 : Int32) (x2 : Int32) (imT : Mem) (imdP : Mem) (indP : MemL) (imdS : Mem) (imdB : Mem) (imdO : Mem) (imdR : Mem) (imdA : Mem) (indA : MemL) (imP : Mem) (inP : MemL) (imS : Mem) (imB : Mem) (imO : Mem) (imR : Mem) (imA : Mem) (inA : MemL) (imH : Mem) (ihs : (Nat → PSt)) (k' : Nat) (r' : Int64) (hE : f_X8_account x1 x2 imT imdP indP imdS imdB imdO imdR imdA indA imP inP imS imB imO imR imA inA imH ihs = some (k', r')) : CXL l yX8_account wsX8_account rm_X8_account D cy [.ref (aI 0), .int x1, .int x2] (W_All cy aI aT adP adS adB adO adR adA aP aS aB aO aR aA aH ah imT imdP indP imdS imdB imdO imdR imdA indA imP inP imS imB imO imR imA inA imH ihs) 2 12 k' r' (W_All cy aI aT adP adS adB adO adR adA aP aS aB aO aR aA aH ah imT imdP indP imdS imdB imdO imdR imdA indA imP inP imS imB imO imR imA inA imH ihs) := by
  refine CX_of (cc := cX8_account) (maxL := 3) (ret := (some .long)) (by decide) rfl (Nat.le_of_ble_eq_true rfl) (fun p e s m args below meth c A ls hx hb hr hml hlocks hnm hown hts hA htab hK hN hP hD hS hl => ?_)
  have hown : s.vm.findClass RX8 = some m.cls := hown
  have hl : lv_has ls 3 [(0, .ref (aI 0)), (1, .int x1), (2, .int x2)] := hl
  have hC : CallFix p m c cX8_account 3 s args wsX8_account RX8 := ⟨hx, hb, hml, hown, hts⟩
  have f10 : (Cond.fieldLink RX8 10 "IcePlant" "now" "LIcePlant$Plant;").before args s = true := hts _ (by decide +kernel)
  have f195 : (Cond.fieldLink RX8 195 "IcePlant$Plant" "accounts" "LIcePlant$Accounts;").before args s = true := hts _ (by decide +kernel)
  have f199 : (Cond.fieldLink RX8 199 "IcePlant$Accounts" "count" "I").before args s = true := hts _ (by decide +kernel)
  have iX0 : ∀ w ∈ wsX00, w ∈ wsX8_account := by decide +kernel
  have iX4 : ∀ w ∈ wsX40, w ∈ wsX8_account := by decide +kernel
  have iX8 : ∀ w ∈ wsX80, w ∈ wsX8_account := by decide +kernel
  unfold f_X8_account at hE
  refine lv_iload_n hx hb dX8_account_0 rfl (lv_at hl 1 rfl) ?_
  refine lv_iconst (v := 0) hx hb dX8_account_1 (by decide) ?_
  refine lv_aload_n hx hb dX8_account_2 rfl (lv_at hl 0 rfl) ?_
  refine va_get (D := D) (ci := 8) (v := .ref (aP 0)) (C := RX8) (T := TX8) (N := 4) hx hb hts iX8 hown hK hP 0 rfl rfl 0 (by decide) f10 (fun _ h9 => h9) rfl dX8_account_3 ?_
  refine va_get (D := D) (ci := 4) (v := .ref (aA 0)) (C := RX4) (T := TX4) (N := 13) hx hb hts iX4 hown hK hP 40 rfl rfl 6 (by decide) f195 (fun _ h9 => h9) rfl dX8_account_6 ?_
  refine va_get (D := D) (ci := 0) (v := .int (imA 0 0)) (C := RX0) (T := TX0) (N := 5) hx hb hts iX0 hown hK hP 71 rfl rfl 0 (by decide) f199 (fun _ h9 => h9) rfl dX8_account_9 ?_
  refine lv_iconst (v := 1) hx hb dX8_account_12 (by decide) ?_
  refine lv_isub hx hb dX8_account_13 ?_
  obtain ⟨r_1, hc_2, hE⟩ := bd1_el hE
  refine ki (X := []) (Y := (W_All cy aI aT adP adS adB adO adR adA aP aS aB aO aR aA aH ah imT imdP indP imdS imdB imdO imdR imdA indA imP inP imS imB imO imR imA inA imH ihs)) (ws1 := (W_All cy aI aT adP adS adB adO adR adA aP aS aB aO aR aA aH ah imT imdP indP imdS imdB imdO imdR imdA indA imP inP imS imB imO imR imA inA imH ihs)) (rS (X := []) (Y := (W_All cy aI aT adP adS adB adO adR adA aP aS aB aO aR aA aH ah imT imdP indP imdS imdB imdO imdR imdA indA imP inP imS imB imO imR imA inA imH ihs)) (As := [.int x1, .int (0 : Int32), .int ((imA 0 0) - (1 : Int32))]) (rest := []) hC (c_X8_isWithin l D cy x1 (0 : Int32) ((imA 0 0) - (1 : Int32)) r_1 hc_2) (cwS 3 hts gX8_account_X8_isWithin rfl rfl rfl (by decide +kernel) ⟨Nat.le_of_ble_eq_true rfl, Nat.le_of_ble_eq_true rfl⟩) hK hN hP hD hS hA rfl rfl hl.1 rfl (lv_room (Nat.le_of_ble_eq_true rfl)) dX8_account_14 ⟨Nat.le_of_ble_eq_true rfl, Nat.le_of_ble_eq_true rfl⟩) hP hD hS hA rfl rfl rfl (fun H locs hP hD hS => ?_)
  obtain ⟨k_4, hc_3, hE⟩ := bd1_el hE
  refine kxv (X := []) (Y := (W_All cy aI aT adP adS adB adO adR adA aP aS aB aO aR aA aH ah imT imdP indP imdS imdB imdO imdR imdA indA imP inP imS imB imO imR imA inA imH ihs)) (ws1 := (W_All cy aI aT adP adS adB adO adR adA aP aS aB aO aR aA aH ah imT imdP indP imdS imdB imdO imdR imdA indA imP inP imS imB imO imR imA inA imH ihs)) (xS (X := []) (Y := (W_All cy aI aT adP adS adB adO adR adA aP aS aB aO aR aA aH ah imT imdP indP imdS imdB imdO imdR imdA indA imP inP imS imB imO imR imA inA imH ihs)) (As := [.int r_1]) (rest := []) hC (c_X8_needItem l hst D cy r_1 k_4 hc_3) (cwS 1 hts gX8_account_X8_needItem rfl rfl rfl (by decide +kernel) ⟨Nat.le_of_ble_eq_true rfl, Nat.le_of_ble_eq_true rfl⟩) hK hN hP hD hS hA rfl rfl hl.1 rfl (lv_room (Nat.le_of_ble_eq_true rfl)) dX8_account_17 ⟨Nat.le_of_ble_eq_true rfl, Nat.le_of_ble_eq_true rfl⟩) hP hD hS hA rfl rfl rfl (fun hk0 H locs ce q9 hP hD hS hce hcv hcl => ?_) (fun hk0 H locs hP hD hS => ?_)
  · replace hE := it_f hE hk0
    have hE := Option.some.inj hE
    obtain ⟨q0, q1⟩ := Prod.mk.inj hE
    exact exx htab hlocks hK hP hD hS hce hcv hcl hk0 q0 rfl (Nat.le_of_ble_eq_true rfl) (Nat.le_of_ble_eq_true rfl)
  · replace hE := it_t hE hk0
    refine lv_iload_n hx hb dX8_account_20 rfl (lv_at hl 2 rfl) ?_
    refine lv_iconst (v := 0) hx hb dX8_account_21 (by decide) ?_
    refine lv_iconst (v := 3) hx hb dX8_account_22 (by decide) ?_
    obtain ⟨r_5, hc_6, hE⟩ := bd1_el hE
    refine ki (X := []) (Y := (W_All cy aI aT adP adS adB adO adR adA aP aS aB aO aR aA aH ah imT imdP indP imdS imdB imdO imdR imdA indA imP inP imS imB imO imR imA inA imH ihs)) (ws1 := (W_All cy aI aT adP adS adB adO adR adA aP aS aB aO aR aA aH ah imT imdP indP imdS imdB imdO imdR imdA indA imP inP imS imB imO imR imA inA imH ihs)) (rS (X := []) (Y := (W_All cy aI aT adP adS adB adO adR adA aP aS aB aO aR aA aH ah imT imdP indP imdS imdB imdO imdR imdA indA imP inP imS imB imO imR imA inA imH ihs)) (As := [.int x2, .int (0 : Int32), .int (3 : Int32)]) (rest := []) hC (c_X8_isWithin l D cy x2 (0 : Int32) (3 : Int32) r_5 hc_6) (cwS 3 hts gX8_account_X8_isWithin rfl rfl rfl (by decide +kernel) ⟨Nat.le_of_ble_eq_true rfl, Nat.le_of_ble_eq_true rfl⟩) hK hN hP hD hS hA rfl rfl hl.1 rfl (lv_room (Nat.le_of_ble_eq_true rfl)) dX8_account_23 ⟨Nat.le_of_ble_eq_true rfl, Nat.le_of_ble_eq_true rfl⟩) hP hD hS hA rfl rfl rfl (fun H locs hP hD hS => ?_)
    obtain ⟨k_8, hc_7, hE⟩ := bd1_el hE
    refine kxv (X := []) (Y := (W_All cy aI aT adP adS adB adO adR adA aP aS aB aO aR aA aH ah imT imdP indP imdS imdB imdO imdR imdA indA imP inP imS imB imO imR imA inA imH ihs)) (ws1 := (W_All cy aI aT adP adS adB adO adR adA aP aS aB aO aR aA aH ah imT imdP indP imdS imdB imdO imdR imdA indA imP inP imS imB imO imR imA inA imH ihs)) (xS (X := []) (Y := (W_All cy aI aT adP adS adB adO adR adA aP aS aB aO aR aA aH ah imT imdP indP imdS imdB imdO imdR imdA indA imP inP imS imB imO imR imA inA imH ihs)) (As := [.int r_5]) (rest := []) hC (c_X8_needArgument l hst D cy r_5 k_8 hc_7) (cwS 1 hts gX8_account_X8_needArgument rfl rfl rfl (by decide +kernel) ⟨Nat.le_of_ble_eq_true rfl, Nat.le_of_ble_eq_true rfl⟩) hK hN hP hD hS hA rfl rfl hl.1 rfl (lv_room (Nat.le_of_ble_eq_true rfl)) dX8_account_26 ⟨Nat.le_of_ble_eq_true rfl, Nat.le_of_ble_eq_true rfl⟩) hP hD hS hA rfl rfl rfl (fun hk0 H locs ce q9 hP hD hS hce hcv hcl => ?_) (fun hk0 H locs hP hD hS => ?_)
    · replace hE := it_f hE hk0
      have hE := Option.some.inj hE
      obtain ⟨q0, q1⟩ := Prod.mk.inj hE
      exact exx htab hlocks hK hP hD hS hce hcv hcl hk0 q0 rfl (Nat.le_of_ble_eq_true rfl) (Nat.le_of_ble_eq_true rfl)
    · replace hE := it_t hE hk0
      refine lv_aload_n hx hb dX8_account_29 rfl (lv_at hl 0 rfl) ?_
      refine va_get (D := D) (ci := 8) (v := .ref (aP 0)) (C := RX8) (T := TX8) (N := 4) hx hb hts iX8 hown hK hP 0 rfl rfl 0 (by decide) f10 (fun _ h9 => h9) rfl dX8_account_30 ?_
      refine va_get (D := D) (ci := 4) (v := .ref (aA 0)) (C := RX4) (T := TX4) (N := 13) hx hb hts iX4 hown hK hP 40 rfl rfl 6 (by decide) f195 (fun _ h9 => h9) rfl dX8_account_33 ?_
      refine lv_iload_n hx hb dX8_account_36 rfl (lv_at hl 1 rfl) ?_
      refine lv_iload_n hx hb dX8_account_37 rfl (lv_at hl 2 rfl) ?_
      obtain ⟨r_9, hc_10, hE⟩ := bd1_el hE
      refine kl (X := ((W_I aI aP adP aH aT) ++ ((W_T cy aT imT) ++ ((W_P cy adP adS adB adO adR adA imdP indP) ++ ((W_S cy adS imdS) ++ ((W_B cy adB imdB) ++ ((W_O cy adO imdO) ++ ((W_R cy adR imdR) ++ ((W_A cy adA imdA indA) ++ ((W_P cy aP aS aB aO aR aA imP inP) ++ ((W_S cy aS imS) ++ ((W_B cy aB imB) ++ ((W_O cy aO imO) ++ (W_R cy aR imR)))))))))))))) (Y := ((W_H cy aH ah imH) ++ (W_HS cy ah ihs))) (ws1 := (W_All cy aI aT adP adS adB adO adR adA aP aS aB aO aR aA aH ah imT imdP indP imdS imdB imdO imdR imdA indA imP inP imS imB imO imR imA inA imH ihs)) (rV (X := ((W_I aI aP adP aH aT) ++ ((W_T cy aT imT) ++ ((W_P cy adP adS adB adO adR adA imdP indP) ++ ((W_S cy adS imdS) ++ ((W_B cy adB imdB) ++ ((W_O cy adO imdO) ++ ((W_R cy adR imdR) ++ ((W_A cy adA imdA indA) ++ ((W_P cy aP aS aB aO aR aA imP inP) ++ ((W_S cy aS imS) ++ ((W_B cy aB imB) ++ ((W_O cy aO imO) ++ (W_R cy aR imR)))))))))))))) (Y := ((W_H cy aH ah imH) ++ (W_HS cy ah ihs))) (As := [.int x1, .int x2]) (rest := []) hC (c_X0_property l D cy aA x1 x2 imA inA r_9 hc_10) (cwV 2 hts gX8_account_X0_property rfl rfl rfl (by decide +kernel) ⟨Nat.le_of_ble_eq_true rfl, Nat.le_of_ble_eq_true rfl⟩) hK hN hP hD hS hA rfl 0 0 rfl rfl rfl hl.1 rfl (lv_room (Nat.le_of_ble_eq_true rfl)) dX8_account_38 ⟨Nat.le_of_ble_eq_true rfl, Nat.le_of_ble_eq_true rfl⟩) hP hD hS hA rfl rfl rfl (fun H locs hP hD hS => ?_)
      have hE := Option.some.inj hE
      obtain ⟨q0, q1⟩ := Prod.mk.inj hE
      exact exl hx hb hr hlocks hK hP hD hS q0 q1 rfl (Nat.le_of_ble_eq_true rfl) (Nat.le_of_ble_eq_true rfl) dX8_account_41
abbrev rm_X8_findAccount : Room := { frames := 8, cells := 2, slots := 12, locals := 122 }
set_option maxHeartbeats 40000000 in
set_option maxRecDepth 100000 in
theorem c_X8_findAccount (l : Launch) (hst : l.stackTraces = false) (D : va_G) (cy : Nat → Nat) (aI aT adP adS adB adO adR adA aP aS aB aO aR aA aH : Nat → Nat) (ah : Nat → Nat → Nat → Nat) (x1 : Int32) (x2 : Int32) (imT : Mem) (imdP : Mem) (indP : MemL) (imdS : Mem) (imdB : Mem) (imdO : Mem) (imdR : Mem) (imdA : Mem) (indA : MemL) (imP : Mem) (inP : MemL) (imS : Mem) (imB : Mem) (imO : Mem) (imR : Mem) (imA : Mem) (inA : MemL) (imH : Mem) (ihs : (Nat → PSt)) (k' : Nat) (r' : Int32) (hE : f_X8_findAccount x1 x2 imT imdP indP imdS imdB imdO imdR imdA indA imP inP imS imB imO imR imA inA imH ihs = some (k', r')) : CXI l yX8_findAccount wsX8_findAccount rm_X8_findAccount D cy [.ref (aI 0), .int x1, .int x2] (W_All cy aI aT adP adS adB adO adR adA aP aS aB aO aR aA aH ah imT imdP indP imdS imdB imdO imdR imdA indA imP inP imS imB imO imR imA inA imH ihs) 2 12 k' r' (W_All cy aI aT adP adS adB adO adR adA aP aS aB aO aR aA aH ah imT imdP indP imdS imdB imdO imdR imdA indA imP inP imS imB imO imR imA inA imH ihs) := by
  refine CX_of (cc := cX8_findAccount) (maxL := 3) (ret := (some .int)) (by decide) rfl (Nat.le_of_ble_eq_true rfl) (fun p e s m args below meth c A ls hx hb hr hml hlocks hnm hown hts hA htab hK hN hP hD hS hl => ?_)
  have hown : s.vm.findClass RX8 = some m.cls := hown
  have hl : lv_has ls 3 [(0, .ref (aI 0)), (1, .int x1), (2, .int x2)] := hl
  have hC : CallFix p m c cX8_findAccount 3 s args wsX8_findAccount RX8 := ⟨hx, hb, hml, hown, hts⟩
  have f10 : (Cond.fieldLink RX8 10 "IcePlant" "now" "LIcePlant$Plant;").before args s = true := hts _ (by decide +kernel)
  have f115 : (Cond.fieldLink RX8 115 "IcePlant$Plant" "boats" "LIcePlant$Boats;").before args s = true := hts _ (by decide +kernel)
  have f195 : (Cond.fieldLink RX8 195 "IcePlant$Plant" "accounts" "LIcePlant$Accounts;").before args s = true := hts _ (by decide +kernel)
  have iX4 : ∀ w ∈ wsX40, w ∈ wsX8_findAccount := by decide +kernel
  have iX8 : ∀ w ∈ wsX80, w ∈ wsX8_findAccount := by decide +kernel
  unfold f_X8_findAccount at hE
  refine lv_aload_n hx hb dX8_findAccount_0 rfl (lv_at hl 0 rfl) ?_
  refine va_get (D := D) (ci := 8) (v := .ref (aP 0)) (C := RX8) (T := TX8) (N := 4) hx hb hts iX8 hown hK hP 0 rfl rfl 0 (by decide) f10 (fun _ h9 => h9) rfl dX8_findAccount_1 ?_
  refine va_get (D := D) (ci := 4) (v := .ref (aB 0)) (C := RX4) (T := TX4) (N := 13) hx hb hts iX4 hown hK hP 40 rfl rfl 3 (by decide) f115 (fun _ h9 => h9) rfl dX8_findAccount_4 ?_
  refine lv_iload_n hx hb dX8_findAccount_7 rfl (lv_at hl 1 rfl) ?_
  obtain ⟨r_1, hc_2, hE⟩ := bd1_el hE
  refine ki (X := ((W_I aI aP adP aH aT) ++ ((W_T cy aT imT) ++ ((W_P cy adP adS adB adO adR adA imdP indP) ++ ((W_S cy adS imdS) ++ ((W_B cy adB imdB) ++ ((W_O cy adO imdO) ++ ((W_R cy adR imdR) ++ ((W_A cy adA imdA indA) ++ ((W_P cy aP aS aB aO aR aA imP inP) ++ (W_S cy aS imS))))))))))) (Y := ((W_O cy aO imO) ++ ((W_R cy aR imR) ++ ((W_A cy aA imA inA) ++ ((W_H cy aH ah imH) ++ (W_HS cy ah ihs)))))) (ws1 := (W_All cy aI aT adP adS adB adO adR adA aP aS aB aO aR aA aH ah imT imdP indP imdS imdB imdO imdR imdA indA imP inP imS imB imO imR imA inA imH ihs)) (rV (X := ((W_I aI aP adP aH aT) ++ ((W_T cy aT imT) ++ ((W_P cy adP adS adB adO adR adA imdP indP) ++ ((W_S cy adS imdS) ++ ((W_B cy adB imdB) ++ ((W_O cy adO imdO) ++ ((W_R cy adR imdR) ++ ((W_A cy adA imdA indA) ++ ((W_P cy aP aS aB aO aR aA imP inP) ++ (W_S cy aS imS))))))))))) (Y := ((W_O cy aO imO) ++ ((W_R cy aR imR) ++ ((W_A cy aA imA inA) ++ ((W_H cy aH ah imH) ++ (W_HS cy ah ihs)))))) (As := [.int x1]) (rest := []) hC (c_X1_has l D cy aB x1 imB r_1 hc_2) (cwV 1 hts gX8_findAccount_X1_has rfl rfl rfl (by decide +kernel) ⟨Nat.le_of_ble_eq_true rfl, Nat.le_of_ble_eq_true rfl⟩) hK hN hP hD hS hA rfl 0 1 rfl rfl rfl hl.1 rfl (lv_room (Nat.le_of_ble_eq_true rfl)) dX8_findAccount_8 ⟨Nat.le_of_ble_eq_true rfl, Nat.le_of_ble_eq_true rfl⟩) hP hD hS hA rfl rfl rfl (fun H locs hP hD hS => ?_)
  obtain ⟨k_4, hc_3, hE⟩ := bd1_el hE
  refine kxv (X := []) (Y := (W_All cy aI aT adP adS adB adO adR adA aP aS aB aO aR aA aH ah imT imdP indP imdS imdB imdO imdR imdA indA imP inP imS imB imO imR imA inA imH ihs)) (ws1 := (W_All cy aI aT adP adS adB adO adR adA aP aS aB aO aR aA aH ah imT imdP indP imdS imdB imdO imdR imdA indA imP inP imS imB imO imR imA inA imH ihs)) (xS (X := []) (Y := (W_All cy aI aT adP adS adB adO adR adA aP aS aB aO aR aA aH ah imT imdP indP imdS imdB imdO imdR imdA indA imP inP imS imB imO imR imA inA imH ihs)) (As := [.int r_1]) (rest := []) hC (c_X8_needItem l hst D cy r_1 k_4 hc_3) (cwS 1 hts gX8_findAccount_X8_needItem rfl rfl rfl (by decide +kernel) ⟨Nat.le_of_ble_eq_true rfl, Nat.le_of_ble_eq_true rfl⟩) hK hN hP hD hS hA rfl rfl hl.1 rfl (lv_room (Nat.le_of_ble_eq_true rfl)) dX8_findAccount_11 ⟨Nat.le_of_ble_eq_true rfl, Nat.le_of_ble_eq_true rfl⟩) hP hD hS hA rfl rfl rfl (fun hk0 H locs ce q9 hP hD hS hce hcv hcl => ?_) (fun hk0 H locs hP hD hS => ?_)
  · replace hE := it_f hE hk0
    have hE := Option.some.inj hE
    obtain ⟨q0, q1⟩ := Prod.mk.inj hE
    exact exx htab hlocks hK hP hD hS hce hcv hcl hk0 q0 rfl (Nat.le_of_ble_eq_true rfl) (Nat.le_of_ble_eq_true rfl)
  · replace hE := it_t hE hk0
    refine lv_iload_n hx hb dX8_findAccount_14 rfl (lv_at hl 2 rfl) ?_
    refine lv_iconst (v := 0) hx hb dX8_findAccount_15 (by decide) ?_
    refine lv_iconst (v := 1) hx hb dX8_findAccount_16 (by decide) ?_
    obtain ⟨r_5, hc_6, hE⟩ := bd1_el hE
    refine ki (X := []) (Y := (W_All cy aI aT adP adS adB adO adR adA aP aS aB aO aR aA aH ah imT imdP indP imdS imdB imdO imdR imdA indA imP inP imS imB imO imR imA inA imH ihs)) (ws1 := (W_All cy aI aT adP adS adB adO adR adA aP aS aB aO aR aA aH ah imT imdP indP imdS imdB imdO imdR imdA indA imP inP imS imB imO imR imA inA imH ihs)) (rS (X := []) (Y := (W_All cy aI aT adP adS adB adO adR adA aP aS aB aO aR aA aH ah imT imdP indP imdS imdB imdO imdR imdA indA imP inP imS imB imO imR imA inA imH ihs)) (As := [.int x2, .int (0 : Int32), .int (1 : Int32)]) (rest := []) hC (c_X8_isWithin l D cy x2 (0 : Int32) (1 : Int32) r_5 hc_6) (cwS 3 hts gX8_findAccount_X8_isWithin rfl rfl rfl (by decide +kernel) ⟨Nat.le_of_ble_eq_true rfl, Nat.le_of_ble_eq_true rfl⟩) hK hN hP hD hS hA rfl rfl hl.1 rfl (lv_room (Nat.le_of_ble_eq_true rfl)) dX8_findAccount_17 ⟨Nat.le_of_ble_eq_true rfl, Nat.le_of_ble_eq_true rfl⟩) hP hD hS hA rfl rfl rfl (fun H locs hP hD hS => ?_)
    obtain ⟨k_8, hc_7, hE⟩ := bd1_el hE
    refine kxv (X := []) (Y := (W_All cy aI aT adP adS adB adO adR adA aP aS aB aO aR aA aH ah imT imdP indP imdS imdB imdO imdR imdA indA imP inP imS imB imO imR imA inA imH ihs)) (ws1 := (W_All cy aI aT adP adS adB adO adR adA aP aS aB aO aR aA aH ah imT imdP indP imdS imdB imdO imdR imdA indA imP inP imS imB imO imR imA inA imH ihs)) (xS (X := []) (Y := (W_All cy aI aT adP adS adB adO adR adA aP aS aB aO aR aA aH ah imT imdP indP imdS imdB imdO imdR imdA indA imP inP imS imB imO imR imA inA imH ihs)) (As := [.int r_5]) (rest := []) hC (c_X8_needArgument l hst D cy r_5 k_8 hc_7) (cwS 1 hts gX8_findAccount_X8_needArgument rfl rfl rfl (by decide +kernel) ⟨Nat.le_of_ble_eq_true rfl, Nat.le_of_ble_eq_true rfl⟩) hK hN hP hD hS hA rfl rfl hl.1 rfl (lv_room (Nat.le_of_ble_eq_true rfl)) dX8_findAccount_20 ⟨Nat.le_of_ble_eq_true rfl, Nat.le_of_ble_eq_true rfl⟩) hP hD hS hA rfl rfl rfl (fun hk0 H locs ce q9 hP hD hS hce hcv hcl => ?_) (fun hk0 H locs hP hD hS => ?_)
    · replace hE := it_f hE hk0
      have hE := Option.some.inj hE
      obtain ⟨q0, q1⟩ := Prod.mk.inj hE
      exact exx htab hlocks hK hP hD hS hce hcv hcl hk0 q0 rfl (Nat.le_of_ble_eq_true rfl) (Nat.le_of_ble_eq_true rfl)
    · replace hE := it_t hE hk0
      refine lv_aload_n hx hb dX8_findAccount_23 rfl (lv_at hl 0 rfl) ?_
      refine va_get (D := D) (ci := 8) (v := .ref (aP 0)) (C := RX8) (T := TX8) (N := 4) hx hb hts iX8 hown hK hP 0 rfl rfl 0 (by decide) f10 (fun _ h9 => h9) rfl dX8_findAccount_24 ?_
      refine va_get (D := D) (ci := 4) (v := .ref (aA 0)) (C := RX4) (T := TX4) (N := 13) hx hb hts iX4 hown hK hP 40 rfl rfl 6 (by decide) f195 (fun _ h9 => h9) rfl dX8_findAccount_27 ?_
      refine lv_iload_n hx hb dX8_findAccount_30 rfl (lv_at hl 1 rfl) ?_
      refine lv_iload_n hx hb dX8_findAccount_31 rfl (lv_at hl 2 rfl) ?_
      obtain ⟨r_9, hc_10, hE⟩ := bd1_el hE
      refine ki (X := ((W_I aI aP adP aH aT) ++ ((W_T cy aT imT) ++ ((W_P cy adP adS adB adO adR adA imdP indP) ++ ((W_S cy adS imdS) ++ ((W_B cy adB imdB) ++ ((W_O cy adO imdO) ++ ((W_R cy adR imdR) ++ ((W_A cy adA imdA indA) ++ ((W_P cy aP aS aB aO aR aA imP inP) ++ ((W_S cy aS imS) ++ ((W_B cy aB imB) ++ ((W_O cy aO imO) ++ (W_R cy aR imR)))))))))))))) (Y := ((W_H cy aH ah imH) ++ (W_HS cy ah ihs))) (ws1 := (W_All cy aI aT adP adS adB adO adR adA aP aS aB aO aR aA aH ah imT imdP indP imdS imdB imdO imdR imdA indA imP inP imS imB imO imR imA inA imH ihs)) (rV (X := ((W_I aI aP adP aH aT) ++ ((W_T cy aT imT) ++ ((W_P cy adP adS adB adO adR adA imdP indP) ++ ((W_S cy adS imdS) ++ ((W_B cy adB imdB) ++ ((W_O cy adO imdO) ++ ((W_R cy adR imdR) ++ ((W_A cy adA imdA indA) ++ ((W_P cy aP aS aB aO aR aA imP inP) ++ ((W_S cy aS imS) ++ ((W_B cy aB imB) ++ ((W_O cy aO imO) ++ (W_R cy aR imR)))))))))))))) (Y := ((W_H cy aH ah imH) ++ (W_HS cy ah ihs))) (As := [.int x1, .int x2]) (rest := []) hC (c_X0_find l D cy aA x1 x2 imA inA r_9 hc_10) (cwV 2 hts gX8_findAccount_X0_find rfl rfl rfl (by decide +kernel) ⟨Nat.le_of_ble_eq_true rfl, Nat.le_of_ble_eq_true rfl⟩) hK hN hP hD hS hA rfl 0 0 rfl rfl rfl hl.1 rfl (lv_room (Nat.le_of_ble_eq_true rfl)) dX8_findAccount_32 ⟨Nat.le_of_ble_eq_true rfl, Nat.le_of_ble_eq_true rfl⟩) hP hD hS hA rfl rfl rfl (fun H locs hP hD hS => ?_)
      have hE := Option.some.inj hE
      obtain ⟨q0, q1⟩ := Prod.mk.inj hE
      exact exi hx hb hr hlocks hK hP hD hS q0 q1 rfl (Nat.le_of_ble_eq_true rfl) (Nat.le_of_ble_eq_true rfl) dX8_findAccount_35
abbrev rm_X8_setting : Room := { frames := 8, cells := 1, slots := 6, locals := 122 }
set_option maxHeartbeats 40000000 in
set_option maxRecDepth 100000 in
theorem c_X8_setting (l : Launch) (hst : l.stackTraces = false) (D : va_G) (cy : Nat → Nat) (aI aT adP adS adB adO adR adA aP aS aB aO aR aA aH : Nat → Nat) (ah : Nat → Nat → Nat → Nat) (x1 : Int32) (imT : Mem) (imdP : Mem) (indP : MemL) (imdS : Mem) (imdB : Mem) (imdO : Mem) (imdR : Mem) (imdA : Mem) (indA : MemL) (imP : Mem) (inP : MemL) (imS : Mem) (imB : Mem) (imO : Mem) (imR : Mem) (imA : Mem) (inA : MemL) (imH : Mem) (ihs : (Nat → PSt)) (k' : Nat) (r' : Int32) (hE : f_X8_setting x1 imT imdP indP imdS imdB imdO imdR imdA indA imP inP imS imB imO imR imA inA imH ihs = some (k', r')) : CXI l yX8_setting wsX8_setting rm_X8_setting D cy [.ref (aI 0), .int x1] (W_All cy aI aT adP adS adB adO adR adA aP aS aB aO aR aA aH ah imT imdP indP imdS imdB imdO imdR imdA indA imP inP imS imB imO imR imA inA imH ihs) 1 6 k' r' (W_All cy aI aT adP adS adB adO adR adA aP aS aB aO aR aA aH ah imT imdP indP imdS imdB imdO imdR imdA indA imP inP imS imB imO imR imA inA imH ihs) := by
  refine CX_of (cc := cX8_setting) (maxL := 2) (ret := (some .int)) (by decide) rfl (Nat.le_of_ble_eq_true rfl) (fun p e s m args below meth c A ls hx hb hr hml hlocks hnm hown hts hA htab hK hN hP hD hS hl => ?_)
  have hown : s.vm.findClass RX8 = some m.cls := hown
  have hl : lv_has ls 2 [(0, .ref (aI 0)), (1, .int x1)] := hl
  have hC : CallFix p m c cX8_setting 2 s args wsX8_setting RX8 := ⟨hx, hb, hml, hown, hts⟩
  have f10 : (Cond.fieldLink RX8 10 "IcePlant" "now" "LIcePlant$Plant;").before args s = true := hts _ (by decide +kernel)
  have f93 : (Cond.fieldLink RX8 93 "IcePlant$Plant" "settings" "[I").before args s = true := hts _ (by decide +kernel)
  have iX4 : ∀ w ∈ wsX40, w ∈ wsX8_setting := by decide +kernel
  have iX8 : ∀ w ∈ wsX80, w ∈ wsX8_setting := by decide +kernel
  unfold f_X8_setting at hE
  refine lv_iload_n hx hb dX8_setting_0 rfl (lv_at hl 1 rfl) ?_
  refine lv_iconst (v := 0) hx hb dX8_setting_1 (by decide) ?_
  refine lv_bipush (v := 7) hx hb dX8_setting_2 (by decide) ?_
  obtain ⟨r_1, hc_2, hE⟩ := bd1_el hE
  refine ki (X := []) (Y := (W_All cy aI aT adP adS adB adO adR adA aP aS aB aO aR aA aH ah imT imdP indP imdS imdB imdO imdR imdA indA imP inP imS imB imO imR imA inA imH ihs)) (ws1 := (W_All cy aI aT adP adS adB adO adR adA aP aS aB aO aR aA aH ah imT imdP indP imdS imdB imdO imdR imdA indA imP inP imS imB imO imR imA inA imH ihs)) (rS (X := []) (Y := (W_All cy aI aT adP adS adB adO adR adA aP aS aB aO aR aA aH ah imT imdP indP imdS imdB imdO imdR imdA indA imP inP imS imB imO imR imA inA imH ihs)) (As := [.int x1, .int (0 : Int32), .int (7 : Int32)]) (rest := []) hC (c_X8_isWithin l D cy x1 (0 : Int32) (7 : Int32) r_1 hc_2) (cwS 3 hts gX8_setting_X8_isWithin rfl rfl rfl (by decide +kernel) ⟨Nat.le_of_ble_eq_true rfl, Nat.le_of_ble_eq_true rfl⟩) hK hN hP hD hS hA rfl rfl hl.1 rfl (lv_room (Nat.le_of_ble_eq_true rfl)) dX8_setting_4 ⟨Nat.le_of_ble_eq_true rfl, Nat.le_of_ble_eq_true rfl⟩) hP hD hS hA rfl rfl rfl (fun H locs hP hD hS => ?_)
  obtain ⟨k_4, hc_3, hE⟩ := bd1_el hE
  refine kxv (X := []) (Y := (W_All cy aI aT adP adS adB adO adR adA aP aS aB aO aR aA aH ah imT imdP indP imdS imdB imdO imdR imdA indA imP inP imS imB imO imR imA inA imH ihs)) (ws1 := (W_All cy aI aT adP adS adB adO adR adA aP aS aB aO aR aA aH ah imT imdP indP imdS imdB imdO imdR imdA indA imP inP imS imB imO imR imA inA imH ihs)) (xS (X := []) (Y := (W_All cy aI aT adP adS adB adO adR adA aP aS aB aO aR aA aH ah imT imdP indP imdS imdB imdO imdR imdA indA imP inP imS imB imO imR imA inA imH ihs)) (As := [.int r_1]) (rest := []) hC (c_X8_needItem l hst D cy r_1 k_4 hc_3) (cwS 1 hts gX8_setting_X8_needItem rfl rfl rfl (by decide +kernel) ⟨Nat.le_of_ble_eq_true rfl, Nat.le_of_ble_eq_true rfl⟩) hK hN hP hD hS hA rfl rfl hl.1 rfl (lv_room (Nat.le_of_ble_eq_true rfl)) dX8_setting_7 ⟨Nat.le_of_ble_eq_true rfl, Nat.le_of_ble_eq_true rfl⟩) hP hD hS hA rfl rfl rfl (fun hk0 H locs ce q9 hP hD hS hce hcv hcl => ?_) (fun hk0 H locs hP hD hS => ?_)
  · replace hE := it_f hE hk0
    have hE := Option.some.inj hE
    obtain ⟨q0, q1⟩ := Prod.mk.inj hE
    exact exx htab hlocks hK hP hD hS hce hcv hcl hk0 q0 rfl (Nat.le_of_ble_eq_true rfl) (Nat.le_of_ble_eq_true rfl)
  · replace hE := it_t hE hk0
    refine lv_aload_n hx hb dX8_setting_10 rfl (lv_at hl 0 rfl) ?_
    refine va_get (D := D) (ci := 8) (v := .ref (aP 0)) (C := RX8) (T := TX8) (N := 4) hx hb hts iX8 hown hK hP 0 rfl rfl 0 (by decide) f10 (fun _ h9 => h9) rfl dX8_setting_11 ?_
    refine va_get (D := D) (ci := 4) (v := .ref (aP 1)) (C := RX4) (T := TX4) (N := 13) hx hb hts iX4 hown hK hP 40 rfl rfl 0 (by decide) f93 (fun _ h9 => h9) rfl dX8_setting_14 ?_
    refine lv_iload_n hx hb dX8_setting_17 rfl (lv_at hl 1 rfl) ?_
    obtain ⟨r_5, hc_6, hE⟩ := bd1_el hE
    refine ki (X := (List.take 41 (W_All cy aI aT adP adS adB adO adR adA aP aS aB aO aR aA aH ah imT imdP indP imdS imdB imdO imdR imdA indA imP inP imS imB imO imR imA inA imH ihs))) (Y := (List.drop 42 (W_All cy aI aT adP adS adB adO adR adA aP aS aB aO aR aA aH ah imT imdP indP imdS imdB imdO imdR imdA indA imP inP imS imB imO imR imA inA imH ihs))) (ws1 := (W_All cy aI aT adP adS adB adO adR adA aP aS aB aO aR aA aH ah imT imdP indP imdS imdB imdO imdR imdA indA imP inP imS imB imO imR imA inA imH ihs)) (rS (X := (List.take 41 (W_All cy aI aT adP adS adB adO adR adA aP aS aB aO aR aA aH ah imT imdP indP imdS imdB imdO imdR imdA indA imP inP imS imB imO imR imA inA imH ihs))) (Y := (List.drop 42 (W_All cy aI aT adP adS adB adO adR adA aP aS aB aO aR aA aH ah imT imdP indP imdS imdB imdO imdR imdA indA imP inP imS imB imO imR imA inA imH ihs))) (As := [.ref (aP 1), .int x1]) (rest := []) hC (c_X8_valueAt l D cy (aP 1) x1 (8) (imP 0) r_5 hc_6) (cwS 2 hts gX8_setting_X8_valueAt rfl rfl rfl (by decide +kernel) ⟨Nat.le_of_ble_eq_true rfl, Nat.le_of_ble_eq_true rfl⟩) hK hN hP hD hS hA rfl rfl hl.1 rfl (lv_room (Nat.le_of_ble_eq_true rfl)) dX8_setting_18 ⟨Nat.le_of_ble_eq_true rfl, Nat.le_of_ble_eq_true rfl⟩) hP hD hS hA rfl rfl rfl (fun H locs hP hD hS => ?_)
    have hE := Option.some.inj hE
    obtain ⟨q0, q1⟩ := Prod.mk.inj hE
    exact exi hx hb hr hlocks hK hP hD hS q0 q1 rfl (Nat.le_of_ble_eq_true rfl) (Nat.le_of_ble_eq_true rfl) dX8_setting_21
abbrev rm_X8_total : Room := { frames := 8, cells := 1, slots := 6, locals := 122 }
set_option maxHeartbeats 40000000 in
set_option maxRecDepth 100000 in
theorem c_X8_total (l : Launch) (hst : l.stackTraces = false) (D : va_G) (cy : Nat → Nat) (aI aT adP adS adB adO adR adA aP aS aB aO aR aA aH : Nat → Nat) (ah : Nat → Nat → Nat → Nat) (x1 : Int32) (imT : Mem) (imdP : Mem) (indP : MemL) (imdS : Mem) (imdB : Mem) (imdO : Mem) (imdR : Mem) (imdA : Mem) (indA : MemL) (imP : Mem) (inP : MemL) (imS : Mem) (imB : Mem) (imO : Mem) (imR : Mem) (imA : Mem) (inA : MemL) (imH : Mem) (ihs : (Nat → PSt)) (k' : Nat) (r' : Int64) (hE : f_X8_total x1 imT imdP indP imdS imdB imdO imdR imdA indA imP inP imS imB imO imR imA inA imH ihs = some (k', r')) : CXL l yX8_total wsX8_total rm_X8_total D cy [.ref (aI 0), .int x1] (W_All cy aI aT adP adS adB adO adR adA aP aS aB aO aR aA aH ah imT imdP indP imdS imdB imdO imdR imdA indA imP inP imS imB imO imR imA inA imH ihs) 1 6 k' r' (W_All cy aI aT adP adS adB adO adR adA aP aS aB aO aR aA aH ah imT imdP indP imdS imdB imdO imdR imdA indA imP inP imS imB imO imR imA inA imH ihs) := by
  refine CX_of (cc := cX8_total) (maxL := 2) (ret := (some .long)) (by decide) rfl (Nat.le_of_ble_eq_true rfl) (fun p e s m args below meth c A ls hx hb hr hml hlocks hnm hown hts hA htab hK hN hP hD hS hl => ?_)
  have hown : s.vm.findClass RX8 = some m.cls := hown
  have hl : lv_has ls 2 [(0, .ref (aI 0)), (1, .int x1)] := hl
  have hC : CallFix p m c cX8_total 2 s args wsX8_total RX8 := ⟨hx, hb, hml, hown, hts⟩
  have f10 : (Cond.fieldLink RX8 10 "IcePlant" "now" "LIcePlant$Plant;").before args s = true := hts _ (by decide +kernel)
  have f22 : (Cond.fieldLink RX8 22 "IcePlant" "history" "LIcePlant$History;").before args s = true := hts _ (by decide +kernel)
  have f208 : (Cond.fieldLink RX8 208 "IcePlant$History" "count" "I").before args s = true := hts _ (by decide +kernel)
  have iX2 : ∀ w ∈ wsX20, w ∈ wsX8_total := by decide +kernel
  have iX8 : ∀ w ∈ wsX80, w ∈ wsX8_total := by decide +kernel
  unfold f_X8_total at hE
  refine lv_iload_n hx hb dX8_total_0 rfl (lv_at hl 1 rfl) ?_
  refine lv_iconst (v := 0) hx hb dX8_total_1 (by decide) ?_
  refine lv_bipush (v := 15) hx hb dX8_total_2 (by decide) ?_
  obtain ⟨r_1, hc_2, hE⟩ := bd1_el hE
  refine ki (X := []) (Y := (W_All cy aI aT adP adS adB adO adR adA aP aS aB aO aR aA aH ah imT imdP indP imdS imdB imdO imdR imdA indA imP inP imS imB imO imR imA inA imH ihs)) (ws1 := (W_All cy aI aT adP adS adB adO adR adA aP aS aB aO aR aA aH ah imT imdP indP imdS imdB imdO imdR imdA indA imP inP imS imB imO imR imA inA imH ihs)) (rS (X := []) (Y := (W_All cy aI aT adP adS adB adO adR adA aP aS aB aO aR aA aH ah imT imdP indP imdS imdB imdO imdR imdA indA imP inP imS imB imO imR imA inA imH ihs)) (As := [.int x1, .int (0 : Int32), .int (15 : Int32)]) (rest := []) hC (c_X8_isWithin l D cy x1 (0 : Int32) (15 : Int32) r_1 hc_2) (cwS 3 hts gX8_total_X8_isWithin rfl rfl rfl (by decide +kernel) ⟨Nat.le_of_ble_eq_true rfl, Nat.le_of_ble_eq_true rfl⟩) hK hN hP hD hS hA rfl rfl hl.1 rfl (lv_room (Nat.le_of_ble_eq_true rfl)) dX8_total_4 ⟨Nat.le_of_ble_eq_true rfl, Nat.le_of_ble_eq_true rfl⟩) hP hD hS hA rfl rfl rfl (fun H locs hP hD hS => ?_)
  obtain ⟨k_4, hc_3, hE⟩ := bd1_el hE
  refine kxv (X := []) (Y := (W_All cy aI aT adP adS adB adO adR adA aP aS aB aO aR aA aH ah imT imdP indP imdS imdB imdO imdR imdA indA imP inP imS imB imO imR imA inA imH ihs)) (ws1 := (W_All cy aI aT adP adS adB adO adR adA aP aS aB aO aR aA aH ah imT imdP indP imdS imdB imdO imdR imdA indA imP inP imS imB imO imR imA inA imH ihs)) (xS (X := []) (Y := (W_All cy aI aT adP adS adB adO adR adA aP aS aB aO aR aA aH ah imT imdP indP imdS imdB imdO imdR imdA indA imP inP imS imB imO imR imA inA imH ihs)) (As := [.int r_1]) (rest := []) hC (c_X8_needArgument l hst D cy r_1 k_4 hc_3) (cwS 1 hts gX8_total_X8_needArgument rfl rfl rfl (by decide +kernel) ⟨Nat.le_of_ble_eq_true rfl, Nat.le_of_ble_eq_true rfl⟩) hK hN hP hD hS hA rfl rfl hl.1 rfl (lv_room (Nat.le_of_ble_eq_true rfl)) dX8_total_7 ⟨Nat.le_of_ble_eq_true rfl, Nat.le_of_ble_eq_true rfl⟩) hP hD hS hA rfl rfl rfl (fun hk0 H locs ce q9 hP hD hS hce hcv hcl => ?_) (fun hk0 H locs hP hD hS => ?_)
  · replace hE := it_f hE hk0
    have hE := Option.some.inj hE
    obtain ⟨q0, q1⟩ := Prod.mk.inj hE
    exact exx htab hlocks hK hP hD hS hce hcv hcl hk0 q0 rfl (Nat.le_of_ble_eq_true rfl) (Nat.le_of_ble_eq_true rfl)
  · replace hE := it_t hE hk0
    refine lv_iload_n hx hb dX8_total_10 rfl (lv_at hl 1 rfl) ?_
    refine lv_bipush (v := 15) hx hb dX8_total_11 (by decide) ?_
    refine lv_icmp_ne (tgt := 27) hx hb dX8_total_13 (by decide) (fun c_5 => ?_) (fun c_5 => ?_)
    · replace hE := it_f hE c_5
      refine lv_aload_n hx hb dX8_total_27 rfl (lv_at hl 0 rfl) ?_
      refine va_get (D := D) (ci := 8) (v := .ref (aP 0)) (C := RX8) (T := TX8) (N := 4) hx hb hts iX8 hown hK hP 0 rfl rfl 0 (by decide) f10 (fun _ h9 => h9) rfl dX8_total_28 ?_
      refine lv_iload_n hx hb dX8_total_31 rfl (lv_at hl 1 rfl) ?_
      obtain ⟨r_6, hc_7, hE⟩ := bd1_el hE
      refine kl (X := ((W_I aI aP adP aH aT) ++ ((W_T cy aT imT) ++ ((W_P cy adP adS adB adO adR adA imdP indP) ++ ((W_S cy adS imdS) ++ ((W_B cy adB imdB) ++ ((W_O cy adO imdO) ++ ((W_R cy adR imdR) ++ (W_A cy adA imdA indA))))))))) (Y := ((W_H cy aH ah imH) ++ (W_HS cy ah ihs))) (ws1 := (W_All cy aI aT adP adS adB adO adR adA aP aS aB aO aR aA aH ah imT imdP indP imdS imdB imdO imdR imdA indA imP inP imS imB imO imR imA inA imH ihs)) (rV (X := ((W_I aI aP adP aH aT) ++ ((W_T cy aT imT) ++ ((W_P cy adP adS adB adO adR adA imdP indP) ++ ((W_S cy adS imdS) ++ ((W_B cy adB imdB) ++ ((W_O cy adO imdO) ++ ((W_R cy adR imdR) ++ (W_A cy adA imdA indA))))))))) (Y := ((W_H cy aH ah imH) ++ (W_HS cy ah ihs))) (As := [.int x1]) (rest := []) hC (c_X4_totalOf l D cy aP aS aB aO aR aA x1 imP inP imS imB imO imR imA inA r_6 hc_7) (cwV 1 hts gX8_total_X4_totalOf rfl rfl rfl (by decide +kernel) ⟨Nat.le_of_ble_eq_true rfl, Nat.le_of_ble_eq_true rfl⟩) hK hN hP hD hS hA rfl 0 4 rfl rfl rfl hl.1 rfl (lv_room (Nat.le_of_ble_eq_true rfl)) dX8_total_32 ⟨Nat.le_of_ble_eq_true rfl, Nat.le_of_ble_eq_true rfl⟩) hP hD hS hA rfl rfl rfl (fun H locs hP hD hS => ?_)
      have hE := Option.some.inj hE
      obtain ⟨q0, q1⟩ := Prod.mk.inj hE
      exact exl hx hb hr hlocks hK hP hD hS q0 q1 rfl (Nat.le_of_ble_eq_true rfl) (Nat.le_of_ble_eq_true rfl) dX8_total_35
    · replace hE := it_t hE c_5
      refine lv_aload_n hx hb dX8_total_16 rfl (lv_at hl 0 rfl) ?_
      refine va_get (D := D) (ci := 8) (v := .ref (aH 0)) (C := RX8) (T := TX8) (N := 4) hx hb hts iX8 hown hK hP 0 rfl rfl 2 (by decide) f22 (fun _ h9 => h9) rfl dX8_total_17 ?_
      refine va_get (D := D) (ci := 2) (v := .int (imH 1 0)) (C := RX2) (T := TX2) (N := 3) hx hb hts iX2 hown hK hP 76 rfl rfl 1 (by decide) f208 (fun _ h9 => h9) rfl dX8_total_20 ?_
      refine lv_i2l hx hb dX8_total_23 rfl ?_
      refine lv_goto (tgt := 35) hx hb dX8_total_24 (by decide) ?_
      have hE := Option.some.inj hE
      obtain ⟨q0, q1⟩ := Prod.mk.inj hE
      exact exl hx hb hr hlocks hK hP hD hS q0 q1 rfl (Nat.le_of_ble_eq_true rfl) (Nat.le_of_ble_eq_true rfl) dX8_total_35
abbrev rm_X8_massAfter : Room := { frames := 8, cells := 1, slots := 6, locals := 145 }
set_option maxHeartbeats 40000000 in
set_option maxRecDepth 100000 in
theorem c_X8_massAfter (l : Launch) (hst : l.stackTraces = false) (D : va_G) (cy : Nat → Nat) (aI aT adP adS adB adO adR adA aP aS aB aO aR aA aH : Nat → Nat) (ah : Nat → Nat → Nat → Nat) (x1 : Int32) (imT : Mem) (imdP : Mem) (indP : MemL) (imdS : Mem) (imdB : Mem) (imdO : Mem) (imdR : Mem) (imdA : Mem) (indA : MemL) (imP : Mem) (inP : MemL) (imS : Mem) (imB : Mem) (imO : Mem) (imR : Mem) (imA : Mem) (inA : MemL) (imH : Mem) (ihs : (Nat → PSt)) (k' : Nat) (r' : Int32) (mdP' : Mem) (ndP' : MemL) (mdS' : Mem) (mdB' : Mem) (mdO' : Mem) (mdR' : Mem) (mdA' : Mem) (ndA' : MemL) (hE : f_X8_massAfter x1 imT imdP indP imdS imdB imdO imdR imdA indA imP inP imS imB imO imR imA inA imH ihs = some (k', r', mdP', ndP', mdS', mdB', mdO', mdR', mdA', ndA')) : CXI l yX8_massAfter wsX8_massAfter rm_X8_massAfter D cy [.ref (aI 0), .int x1] (W_All cy aI aT adP adS adB adO adR adA aP aS aB aO aR aA aH ah imT imdP indP imdS imdB imdO imdR imdA indA imP inP imS imB imO imR imA inA imH ihs) 1 6 k' r' (W_All cy aI aT adP adS adB adO adR adA aP aS aB aO aR aA aH ah imT mdP' ndP' mdS' mdB' mdO' mdR' mdA' ndA' imP inP imS imB imO imR imA inA imH ihs) := by
  refine CX_of (cc := cX8_massAfter) (maxL := 2) (ret := (some .int)) (by decide) rfl (Nat.le_of_ble_eq_true rfl) (fun p e s m args below meth c A ls hx hb hr hml hlocks hnm hown hts hA htab hK hN hP hD hS hl => ?_)
  have hown : s.vm.findClass RX8 = some m.cls := hown
  have hl : lv_has ls 2 [(0, .ref (aI 0)), (1, .int x1)] := hl
  have hC : CallFix p m c cX8_massAfter 2 s args wsX8_massAfter RX8 := ⟨hx, hb, hml, hown, hts⟩
  have f10 : (Cond.fieldLink RX8 10 "IcePlant" "now" "LIcePlant$Plant;").before args s = true := hts _ (by decide +kernel)
  have f16 : (Cond.fieldLink RX8 16 "IcePlant" "trial" "LIcePlant$Plant;").before args s = true := hts _ (by decide +kernel)
  have f43 : (Cond.fieldLink RX8 43 "IcePlant$Plant" "store" "LIcePlant$Store;").before args s = true := hts _ (by decide +kernel)
  have iX4 : ∀ w ∈ wsX40, w ∈ wsX8_massAfter := by decide +kernel
  have iX8 : ∀ w ∈ wsX80, w ∈ wsX8_massAfter := by decide +kernel
  unfold f_X8_massAfter at hE
  refine lv_iload_n hx hb dX8_massAfter_0 rfl (lv_at hl 1 rfl) ?_
  refine lv_iconst (v := 0) hx hb dX8_massAfter_1 (by decide) ?_
  refine lv_bipush (v := 48) hx hb dX8_massAfter_2 (by decide) ?_
  obtain ⟨r_1, hc_2, hE⟩ := bd1_el hE
  refine ki (X := []) (Y := (W_All cy aI aT adP adS adB adO adR adA aP aS aB aO aR aA aH ah imT imdP indP imdS imdB imdO imdR imdA indA imP inP imS imB imO imR imA inA imH ihs)) (ws1 := (W_All cy aI aT adP adS adB adO adR adA aP aS aB aO aR aA aH ah imT imdP indP imdS imdB imdO imdR imdA indA imP inP imS imB imO imR imA inA imH ihs)) (rS (X := []) (Y := (W_All cy aI aT adP adS adB adO adR adA aP aS aB aO aR aA aH ah imT imdP indP imdS imdB imdO imdR imdA indA imP inP imS imB imO imR imA inA imH ihs)) (As := [.int x1, .int (0 : Int32), .int (48 : Int32)]) (rest := []) hC (c_X8_isWithin l D cy x1 (0 : Int32) (48 : Int32) r_1 hc_2) (cwS 3 hts gX8_massAfter_X8_isWithin rfl rfl rfl (by decide +kernel) ⟨Nat.le_of_ble_eq_true rfl, Nat.le_of_ble_eq_true rfl⟩) hK hN hP hD hS hA rfl rfl hl.1 rfl (lv_room (Nat.le_of_ble_eq_true rfl)) dX8_massAfter_4 ⟨Nat.le_of_ble_eq_true rfl, Nat.le_of_ble_eq_true rfl⟩) hP hD hS hA rfl rfl rfl (fun H locs hP hD hS => ?_)
  obtain ⟨k_4, hc_3, hE⟩ := bd1_el hE
  refine kxv (X := []) (Y := (W_All cy aI aT adP adS adB adO adR adA aP aS aB aO aR aA aH ah imT imdP indP imdS imdB imdO imdR imdA indA imP inP imS imB imO imR imA inA imH ihs)) (ws1 := (W_All cy aI aT adP adS adB adO adR adA aP aS aB aO aR aA aH ah imT imdP indP imdS imdB imdO imdR imdA indA imP inP imS imB imO imR imA inA imH ihs)) (xS (X := []) (Y := (W_All cy aI aT adP adS adB adO adR adA aP aS aB aO aR aA aH ah imT imdP indP imdS imdB imdO imdR imdA indA imP inP imS imB imO imR imA inA imH ihs)) (As := [.int r_1]) (rest := []) hC (c_X8_needArgument l hst D cy r_1 k_4 hc_3) (cwS 1 hts gX8_massAfter_X8_needArgument rfl rfl rfl (by decide +kernel) ⟨Nat.le_of_ble_eq_true rfl, Nat.le_of_ble_eq_true rfl⟩) hK hN hP hD hS hA rfl rfl hl.1 rfl (lv_room (Nat.le_of_ble_eq_true rfl)) dX8_massAfter_7 ⟨Nat.le_of_ble_eq_true rfl, Nat.le_of_ble_eq_true rfl⟩) hP hD hS hA rfl rfl rfl (fun hk0 H locs ce q9 hP hD hS hce hcv hcl => ?_) (fun hk0 H locs hP hD hS => ?_)
  · replace hE := it_f hE hk0
    have hE := Option.some.inj hE
    obtain ⟨q0, hE⟩ := Prod.mk.inj hE
    obtain ⟨q1, hE⟩ := Prod.mk.inj hE
    obtain ⟨q2, hE⟩ := Prod.mk.inj hE
    obtain ⟨q3, hE⟩ := Prod.mk.inj hE
    obtain ⟨q4, hE⟩ := Prod.mk.inj hE
    obtain ⟨q5, hE⟩ := Prod.mk.inj hE
    obtain ⟨q6, hE⟩ := Prod.mk.inj hE
    obtain ⟨q7, hE⟩ := Prod.mk.inj hE
    obtain ⟨q8, q9⟩ := Prod.mk.inj hE
    exact exx htab hlocks hK hP hD hS hce hcv hcl hk0 q0 (by rw [q2, q3, q4, q5, q6, q7, q8, q9]) (Nat.le_of_ble_eq_true rfl) (Nat.le_of_ble_eq_true rfl)
  · replace hE := it_t hE hk0
    refine lv_aload_n hx hb dX8_massAfter_10 rfl (lv_at hl 0 rfl) ?_
    refine va_get (D := D) (ci := 8) (v := .ref (adP 0)) (C := RX8) (T := TX8) (N := 4) hx hb hts iX8 hown hK hP 0 rfl rfl 1 (by decide) f16 (fun _ h9 => h9) rfl dX8_massAfter_11 ?_
    refine lv_aload_n hx hb dX8_massAfter_14 rfl (lv_at hl 0 rfl) ?_
    refine va_get (D := D) (ci := 8) (v := .ref (aP 0)) (C := RX8) (T := TX8) (N := 4) hx hb hts iX8 hown hK hP 0 rfl rfl 0 (by decide) f10 (fun _ h9 => h9) rfl dX8_massAfter_15 ?_
    obtain ⟨mdP_5, ndP_6, mdS_7, mdB_8, mdO_9, mdR_10, mdA_11, ndA_12, hc_13, hE⟩ := bd8_el hE
    refine kv (X := ((W_I aI aP adP aH aT) ++ (W_T cy aT imT))) (Y := ((W_H cy aH ah imH) ++ (W_HS cy ah ihs))) (ws1 := (W_All cy aI aT adP adS adB adO adR adA aP aS aB aO aR aA aH ah imT mdP_5 ndP_6 mdS_7 mdB_8 mdO_9 mdR_10 mdA_11 ndA_12 imP inP imS imB imO imR imA inA imH ihs)) (rV (X := ((W_I aI aP adP aH aT) ++ (W_T cy aT imT))) (Y := ((W_H cy aH ah imH) ++ (W_HS cy ah ihs))) (As := [.ref (aP 0)]) (rest := []) hC (c_X4_copyFrom l D cy adP adS adB adO adR adA aP aS aB aO aR aA imdP indP imdS imdB imdO imdR imdA indA imP inP imS imB imO imR imA inA mdP_5 ndP_6 mdS_7 mdB_8 mdO_9 mdR_10 mdA_11 ndA_12 hc_13) (cwV 1 hts gX8_massAfter_X4_copyFrom rfl rfl rfl (by decide +kernel) ⟨Nat.le_of_ble_eq_true rfl, Nat.le_of_ble_eq_true rfl⟩) hK hN hP hD hS hA rfl 0 4 rfl rfl rfl hl.1 rfl (lv_room (Nat.le_of_ble_eq_true rfl)) dX8_massAfter_18 ⟨Nat.le_of_ble_eq_true rfl, Nat.le_of_ble_eq_true rfl⟩) hP hD hS hA rfl rfl rfl (fun H locs hP hD hS => ?_)
    refine lv_aload_n hx hb dX8_massAfter_21 rfl (lv_at hl 0 rfl) ?_
    refine va_get (D := D) (ci := 8) (v := .ref (adP 0)) (C := RX8) (T := TX8) (N := 4) hx hb hts iX8 hown hK hP 0 rfl rfl 1 (by decide) f16 (fun _ h9 => h9) rfl dX8_massAfter_22 ?_
    refine lv_iload_n hx hb dX8_massAfter_25 rfl (lv_at hl 1 rfl) ?_
    obtain ⟨r_14, mdP_15, ndP_16, mdS_17, mdB_18, mdO_19, mdR_20, mdA_21, ndA_22, hc_23, hE⟩ := bd9_el hE
    refine ki (X := ((W_I aI aP adP aH aT) ++ (W_T cy aT imT))) (Y := ((W_P cy aP aS aB aO aR aA imP inP) ++ ((W_S cy aS imS) ++ ((W_B cy aB imB) ++ ((W_O cy aO imO) ++ ((W_R cy aR imR) ++ ((W_A cy aA imA inA) ++ ((W_H cy aH ah imH) ++ (W_HS cy ah ihs))))))))) (ws1 := (W_All cy aI aT adP adS adB adO adR adA aP aS aB aO aR aA aH ah imT mdP_15 ndP_16 mdS_17 mdB_18 mdO_19 mdR_20 mdA_21 ndA_22 imP inP imS imB imO imR imA inA imH ihs)) (rV (X := ((W_I aI aP adP aH aT) ++ (W_T cy aT imT))) (Y := ((W_P cy aP aS aB aO aR aA imP inP) ++ ((W_S cy aS imS) ++ ((W_B cy aB imB) ++ ((W_O cy aO imO) ++ ((W_R cy aR imR) ++ ((W_A cy aA imA inA) ++ ((W_H cy aH ah imH) ++ (W_HS cy ah ihs))))))))) (As := [.int x1]) (rest := []) hC (c_X4_letPass l D cy adP adS adB adO adR adA x1 mdP_5 ndP_6 mdS_7 mdB_8 mdO_9 mdR_10 mdA_11 ndA_12 r_14 mdP_15 ndP_16 mdS_17 mdB_18 mdO_19 mdR_20 mdA_21 ndA_22 hc_23) (cwV 1 hts gX8_massAfter_X4_letPass rfl rfl rfl (by decide +kernel) ⟨Nat.le_of_ble_eq_true rfl, Nat.le_of_ble_eq_true rfl⟩) hK hN hP hD hS hA rfl 0 4 rfl rfl rfl hl.1 rfl (lv_room (Nat.le_of_ble_eq_true rfl)) dX8_massAfter_26 ⟨Nat.le_of_ble_eq_true rfl, Nat.le_of_ble_eq_true rfl⟩) hP hD hS hA rfl rfl rfl (fun H locs hP hD hS => ?_)
    refine lv_pop hx hb dX8_massAfter_29 rfl ?_
    refine lv_aload_n hx hb dX8_massAfter_30 rfl (lv_at hl 0 rfl) ?_
    refine va_get (D := D) (ci := 8) (v := .ref (adP 0)) (C := RX8) (T := TX8) (N := 4) hx hb hts iX8 hown hK hP 0 rfl rfl 1 (by decide) f16 (fun _ h9 => h9) rfl dX8_massAfter_31 ?_
    refine va_get (D := D) (ci := 4) (v := .ref (adS 0)) (C := RX4) (T := TX4) (N := 13) hx hb hts iX4 hown hK hP 4 rfl rfl 2 (by decide) f43 (fun _ h9 => h9) rfl dX8_massAfter_34 ?_
    obtain ⟨r_24, hc_25, hE⟩ := bd1_el hE
    refine ki (X := ((W_I aI aP adP aH aT) ++ ((W_T cy aT imT) ++ (W_P cy adP adS adB adO adR adA mdP_15 ndP_16)))) (Y := ((W_B cy adB mdB_18) ++ ((W_O cy adO mdO_19) ++ ((W_R cy adR mdR_20) ++ ((W_A cy adA mdA_21 ndA_22) ++ ((W_P cy aP aS aB aO aR aA imP inP) ++ ((W_S cy aS imS) ++ ((W_B cy aB imB) ++ ((W_O cy aO imO) ++ ((W_R cy aR imR) ++ ((W_A cy aA imA inA) ++ ((W_H cy aH ah imH) ++ (W_HS cy ah ihs))))))))))))) (ws1 := (W_All cy aI aT adP adS adB adO adR adA aP aS aB aO aR aA aH ah imT mdP_15 ndP_16 mdS_17 mdB_18 mdO_19 mdR_20 mdA_21 ndA_22 imP inP imS imB imO imR imA inA imH ihs)) (rV (X := ((W_I aI aP adP aH aT) ++ ((W_T cy aT imT) ++ (W_P cy adP adS adB adO adR adA mdP_15 ndP_16)))) (Y := ((W_B cy adB mdB_18) ++ ((W_O cy adO mdO_19) ++ ((W_R cy adR mdR_20) ++ ((W_A cy adA mdA_21 ndA_22) ++ ((W_P cy aP aS aB aO aR aA imP inP) ++ ((W_S cy aS imS) ++ ((W_B cy aB imB) ++ ((W_O cy aO imO) ++ ((W_R cy aR imR) ++ ((W_A cy aA imA inA) ++ ((W_H cy aH ah imH) ++ (W_HS cy ah ihs))))))))))))) (As := []) (rest := []) hC (c_X6_mass l D cy adS mdS_17 r_24 hc_25) (cwV 0 hts gX8_massAfter_X6_mass rfl rfl rfl (by decide +kernel) ⟨Nat.le_of_ble_eq_true rfl, Nat.le_of_ble_eq_true rfl⟩) hK hN hP hD hS hA rfl 0 6 rfl rfl rfl hl.1 rfl (lv_room (Nat.le_of_ble_eq_true rfl)) dX8_massAfter_37 ⟨Nat.le_of_ble_eq_true rfl, Nat.le_of_ble_eq_true rfl⟩) hP hD hS hA rfl rfl rfl (fun H locs hP hD hS => ?_)
    have hE := Option.some.inj hE
    obtain ⟨q0, hE⟩ := Prod.mk.inj hE
    obtain ⟨q1, hE⟩ := Prod.mk.inj hE
    obtain ⟨q2, hE⟩ := Prod.mk.inj hE
    obtain ⟨q3, hE⟩ := Prod.mk.inj hE
    obtain ⟨q4, hE⟩ := Prod.mk.inj hE
    obtain ⟨q5, hE⟩ := Prod.mk.inj hE
    obtain ⟨q6, hE⟩ := Prod.mk.inj hE
    obtain ⟨q7, hE⟩ := Prod.mk.inj hE
    obtain ⟨q8, q9⟩ := Prod.mk.inj hE
    exact exi hx hb hr hlocks hK hP hD hS q0 q1 (by rw [q2, q3, q4, q5, q6, q7, q8, q9]) (Nat.le_of_ble_eq_true rfl) (Nat.le_of_ble_eq_true rfl) dX8_massAfter_40
abbrev rm_X8_completeIn : Room := { frames := 8, cells := 2, slots := 12, locals := 122 }
set_option maxHeartbeats 40000000 in
set_option maxRecDepth 100000 in
theorem c_X8_completeIn (l : Launch) (hst : l.stackTraces = false) (D : va_G) (cy : Nat → Nat) (aI aT adP adS adB adO adR adA aP aS aB aO aR aA aH : Nat → Nat) (ah : Nat → Nat → Nat → Nat) (x1 : Int32) (imT : Mem) (imdP : Mem) (indP : MemL) (imdS : Mem) (imdB : Mem) (imdO : Mem) (imdR : Mem) (imdA : Mem) (indA : MemL) (imP : Mem) (inP : MemL) (imS : Mem) (imB : Mem) (imO : Mem) (imR : Mem) (imA : Mem) (inA : MemL) (imH : Mem) (ihs : (Nat → PSt)) (k' : Nat) (r' : Int32) (mdP' : Mem) (ndP' : MemL) (mdS' : Mem) (mdB' : Mem) (mdO' : Mem) (mdR' : Mem) (mdA' : Mem) (ndA' : MemL) (hE : f_X8_completeIn x1 imT imdP indP imdS imdB imdO imdR imdA indA imP inP imS imB imO imR imA inA imH ihs = some (k', r', mdP', ndP', mdS', mdB', mdO', mdR', mdA', ndA')) : CXI l yX8_completeIn wsX8_completeIn rm_X8_completeIn D cy [.ref (aI 0), .int x1] (W_All cy aI aT adP adS adB adO adR adA aP aS aB aO aR aA aH ah imT imdP indP imdS imdB imdO imdR imdA indA imP inP imS imB imO imR imA inA imH ihs) 2 12 k' r' (W_All cy aI aT adP adS adB adO adR adA aP aS aB aO aR aA aH ah imT mdP' ndP' mdS' mdB' mdO' mdR' mdA' ndA' imP inP imS imB imO imR imA inA imH ihs) := by
  refine CX_of (cc := cX8_completeIn) (maxL := 3) (ret := (some .int)) (by decide) rfl (Nat.le_of_ble_eq_true rfl) (fun p e s m args below meth c A ls hx hb hr hml hlocks hnm hown hts hA htab hK hN hP hD hS hl => ?_)
  have hown : s.vm.findClass RX8 = some m.cls := hown
  have hl : lv_has ls 3 [(0, .ref (aI 0)), (1, .int x1)] := hl
  have hC : CallFix p m c cX8_completeIn 3 s args wsX8_completeIn RX8 := ⟨hx, hb, hml, hown, hts⟩
  have f10 : (Cond.fieldLink RX8 10 "IcePlant" "now" "LIcePlant$Plant;").before args s = true := hts _ (by decide +kernel)
  have f16 : (Cond.fieldLink RX8 16 "IcePlant" "trial" "LIcePlant$Plant;").before args s = true := hts _ (by decide +kernel)
  have f135 : (Cond.fieldLink RX8 135 "IcePlant$Plant" "orders" "LIcePlant$Orders;").before args s = true := hts _ (by decide +kernel)
  have iX4 : ∀ w ∈ wsX40, w ∈ wsX8_completeIn := by decide +kernel
  have iX8 : ∀ w ∈ wsX80, w ∈ wsX8_completeIn := by decide +kernel
  have h41 : ∀ (x1 : Int32), ∀ (n : Nat), ∀ (x2 : Int32) (mdP : Mem) (ndP : MemL) (mdS : Mem) (mdB : Mem) (mdO : Mem) (mdR : Mem) (mdA : Mem) (ndA : MemL) (H : Heap) (locs : List Loc) (ls : Array Slot), f_X8_completeIn_L41 x1 imT imP inP imS imB imO imR imA inA imH ihs n x2 mdP ndP mdS mdB mdO mdR mdA ndA = some (k', r', mdP', ndP', mdS', mdB', mdO', mdR', mdA', ndA') → va_P D vwCl (W_All cy aI aT adP adS adB adO adR adA aP aS aB aO aR aA aH ah imT mdP ndP mdS mdB mdO mdR mdA ndA imP inP imS imB imO imR imA inA imH ihs) H → va_D A (W_All cy aI aT adP adS adB adO adR adA aP aS aB aO aR aA aH ah imT mdP ndP mdS mdB mdO mdR mdA ndA imP inP imS imB imO imR imA inA imH ihs) → va_S A s.heap H locs → lv_has ls 3 [(0, .ref (aI 0)), (1, .int x1), (2, .int x2)] → W p l e rm_X8_completeIn s m args below meth c H locs 2 12 (vx_MQ below (QXI D cy k' r' (W_All cy aI aT adP adS adB adO adR adA aP aS aB aO aR aA aH ah imT mdP' ndP' mdS' mdB' mdO' mdR' mdA' ndA' imP inP imS imB imO imR imA inA imH ihs) A) (XX D cy k' (W_All cy aI aT adP adS adB adO adR adA aP aS aB aO aR aA aH ah imT mdP' ndP' mdS' mdB' mdO' mdR' mdA' ndA' imP inP imS imB imO imR imA inA imH ihs) A) args s 2 12 A) (F0 m 41 ls []) := by
    intro x1 n
    induction n with
    | zero => intro x2 mdP ndP mdS mdB mdO mdR mdA ndA H locs ls hE; exact absurd hE (fun h9 => nomatch h9)
    | succ n ih =>
      intro x2 mdP ndP mdS mdB mdO mdR mdA ndA H locs ls hE hP hD hS hl
      replace hE : ((if (48 : Int32) < x2 then some (0, (-1 : Int32), mdP, ndP, mdS, mdB, mdO, mdR, mdA, ndA) else bd1 (f_X3_isOpen x1 mdO) fun r_2 => (if r_2 = 0 then some (0, (-1 : Int32), mdP, ndP, mdS, mdB, mdO, mdR, mdA, ndA) else bd8 (f_X4_passHour mdP ndP mdS mdB mdO mdR mdA ndA) fun mdP_5 ndP_6 mdS_7 mdB_8 mdO_9 mdR_10 mdA_11 ndA_12 => bd1 (f_X3_isComplete x1 mdO_9) fun r_14 => (if r_14 = 0 then lt' (x2 + (1 : Int32)) fun x2_17 => (f_X8_completeIn_L41 x1 imT imP inP imS imB imO imR imA inA imH ihs n) x2_17 mdP_5 ndP_6 mdS_7 mdB_8 mdO_9 mdR_10 mdA_11 ndA_12 else some (0, x2, mdP_5, ndP_6, mdS_7, mdB_8, mdO_9, mdR_10, mdA_11, ndA_12))))) = some (k', r', mdP', ndP', mdS', mdB', mdO', mdR', mdA', ndA') := hE
      refine lv_iload_n hx hb dX8_completeIn_41 rfl (lv_at hl 2 rfl) ?_
      refine lv_bipush (v := 48) hx hb dX8_completeIn_42 (by decide) ?_
      refine lv_icmp_gt (tgt := 90) hx hb dX8_completeIn_44 (by decide) (fun c_1 => ?_) (fun c_1 => ?_)
      · replace hE := it_t hE c_1
        refine lv_iconst (v := (-1)) hx hb dX8_completeIn_90 (by decide) ?_
        have hE := Option.some.inj hE
        obtain ⟨q0, hE⟩ := Prod.mk.inj hE
        obtain ⟨q1, hE⟩ := Prod.mk.inj hE
        obtain ⟨q2, hE⟩ := Prod.mk.inj hE
        obtain ⟨q3, hE⟩ := Prod.mk.inj hE
        obtain ⟨q4, hE⟩ := Prod.mk.inj hE
        obtain ⟨q5, hE⟩ := Prod.mk.inj hE
        obtain ⟨q6, hE⟩ := Prod.mk.inj hE
        obtain ⟨q7, hE⟩ := Prod.mk.inj hE
        obtain ⟨q8, q9⟩ := Prod.mk.inj hE
        exact exi hx hb hr hlocks hK hP hD hS q0 q1 (by rw [q2, q3, q4, q5, q6, q7, q8, q9]) (Nat.le_of_ble_eq_true rfl) (Nat.le_of_ble_eq_true rfl) dX8_completeIn_91
      · replace hE := it_f hE c_1
        refine lv_aload_n hx hb dX8_completeIn_47 rfl (lv_at hl 0 rfl) ?_
        refine va_get (D := D) (ci := 8) (v := .ref (adP 0)) (C := RX8) (T := TX8) (N := 4) hx hb hts iX8 hown hK hP 0 rfl rfl 1 (by decide) f16 (fun _ h9 => h9) rfl dX8_completeIn_48 ?_
        refine va_get (D := D) (ci := 4) (v := .ref (adO 0)) (C := RX4) (T := TX4) (N := 13) hx hb hts iX4 hown hK hP 4 rfl rfl 4 (by decide) f135 (fun _ h9 => h9) rfl dX8_completeIn_51 ?_
        refine lv_iload_n hx hb dX8_completeIn_54 rfl (lv_at hl 1 rfl) ?_
        obtain ⟨r_2, hc_3, hE⟩ := bd1_el hE
        refine ki (X := ((W_I aI aP adP aH aT) ++ ((W_T cy aT imT) ++ ((W_P cy adP adS adB adO adR adA mdP ndP) ++ ((W_S cy adS mdS) ++ (W_B cy adB mdB)))))) (Y := ((W_R cy adR mdR) ++ ((W_A cy adA mdA ndA) ++ ((W_P cy aP aS aB aO aR aA imP inP) ++ ((W_S cy aS imS) ++ ((W_B cy aB imB) ++ ((W_O cy aO imO) ++ ((W_R cy aR imR) ++ ((W_A cy aA imA inA) ++ ((W_H cy aH ah imH) ++ (W_HS cy ah ihs))))))))))) (ws1 := (W_All cy aI aT adP adS adB adO adR adA aP aS aB aO aR aA aH ah imT mdP ndP mdS mdB mdO mdR mdA ndA imP inP imS imB imO imR imA inA imH ihs)) (rV (X := ((W_I aI aP adP aH aT) ++ ((W_T cy aT imT) ++ ((W_P cy adP adS adB adO adR adA mdP ndP) ++ ((W_S cy adS mdS) ++ (W_B cy adB mdB)))))) (Y := ((W_R cy adR mdR) ++ ((W_A cy adA mdA ndA) ++ ((W_P cy aP aS aB aO aR aA imP inP) ++ ((W_S cy aS imS) ++ ((W_B cy aB imB) ++ ((W_O cy aO imO) ++ ((W_R cy aR imR) ++ ((W_A cy aA imA inA) ++ ((W_H cy aH ah imH) ++ (W_HS cy ah ihs))))))))))) (As := [.int x1]) (rest := []) hC (c_X3_isOpen l D cy adO x1 mdO r_2 hc_3) (cwV 1 hts gX8_completeIn_X3_isOpen rfl rfl rfl (by decide +kernel) ⟨Nat.le_of_ble_eq_true rfl, Nat.le_of_ble_eq_true rfl⟩) hK hN hP hD hS hA rfl 0 3 rfl rfl rfl hl.1 rfl (lv_room (Nat.le_of_ble_eq_true rfl)) dX8_completeIn_55 ⟨Nat.le_of_ble_eq_true rfl, Nat.le_of_ble_eq_true rfl⟩) hP hD hS hA rfl rfl rfl (fun H locs hP hD hS => ?_)
        refine lv_if_eq (tgt := 90) hx hb dX8_completeIn_58 (by decide) (fun c_4 => ?_) (fun c_4 => ?_)
        · replace hE := it_t hE c_4
          refine lv_iconst (v := (-1)) hx hb dX8_completeIn_90 (by decide) ?_
          have hE := Option.some.inj hE
          obtain ⟨q0, hE⟩ := Prod.mk.inj hE
          obtain ⟨q1, hE⟩ := Prod.mk.inj hE
          obtain ⟨q2, hE⟩ := Prod.mk.inj hE
          obtain ⟨q3, hE⟩ := Prod.mk.inj hE
          obtain ⟨q4, hE⟩ := Prod.mk.inj hE
          obtain ⟨q5, hE⟩ := Prod.mk.inj hE
          obtain ⟨q6, hE⟩ := Prod.mk.inj hE
          obtain ⟨q7, hE⟩ := Prod.mk.inj hE
          obtain ⟨q8, q9⟩ := Prod.mk.inj hE
          exact exi hx hb hr hlocks hK hP hD hS q0 q1 (by rw [q2, q3, q4, q5, q6, q7, q8, q9]) (Nat.le_of_ble_eq_true rfl) (Nat.le_of_ble_eq_true rfl) dX8_completeIn_91
        · replace hE := it_f hE c_4
          refine lv_aload_n hx hb dX8_completeIn_61 rfl (lv_at hl 0 rfl) ?_
          refine va_get (D := D) (ci := 8) (v := .ref (adP 0)) (C := RX8) (T := TX8) (N := 4) hx hb hts iX8 hown hK hP 0 rfl rfl 1 (by decide) f16 (fun _ h9 => h9) rfl dX8_completeIn_62 ?_
          obtain ⟨mdP_5, ndP_6, mdS_7, mdB_8, mdO_9, mdR_10, mdA_11, ndA_12, hc_13, hE⟩ := bd8_el hE
          refine kv (X := ((W_I aI aP adP aH aT) ++ (W_T cy aT imT))) (Y := ((W_P cy aP aS aB aO aR aA imP inP) ++ ((W_S cy aS imS) ++ ((W_B cy aB imB) ++ ((W_O cy aO imO) ++ ((W_R cy aR imR) ++ ((W_A cy aA imA inA) ++ ((W_H cy aH ah imH) ++ (W_HS cy ah ihs))))))))) (ws1 := (W_All cy aI aT adP adS adB adO adR adA aP aS aB aO aR aA aH ah imT mdP_5 ndP_6 mdS_7 mdB_8 mdO_9 mdR_10 mdA_11 ndA_12 imP inP imS imB imO imR imA inA imH ihs)) (rV (X := ((W_I aI aP adP aH aT) ++ (W_T cy aT imT))) (Y := ((W_P cy aP aS aB aO aR aA imP inP) ++ ((W_S cy aS imS) ++ ((W_B cy aB imB) ++ ((W_O cy aO imO) ++ ((W_R cy aR imR) ++ ((W_A cy aA imA inA) ++ ((W_H cy aH ah imH) ++ (W_HS cy ah ihs))))))))) (As := []) (rest := []) hC (c_X4_passHour l D cy adP adS adB adO adR adA mdP ndP mdS mdB mdO mdR mdA ndA mdP_5 ndP_6 mdS_7 mdB_8 mdO_9 mdR_10 mdA_11 ndA_12 hc_13) (cwV 0 hts gX8_completeIn_X4_passHour rfl rfl rfl (by decide +kernel) ⟨Nat.le_of_ble_eq_true rfl, Nat.le_of_ble_eq_true rfl⟩) hK hN hP hD hS hA rfl 0 4 rfl rfl rfl hl.1 rfl (lv_room (Nat.le_of_ble_eq_true rfl)) dX8_completeIn_65 ⟨Nat.le_of_ble_eq_true rfl, Nat.le_of_ble_eq_true rfl⟩) hP hD hS hA rfl rfl rfl (fun H locs hP hD hS => ?_)
          refine lv_aload_n hx hb dX8_completeIn_68 rfl (lv_at hl 0 rfl) ?_
          refine va_get (D := D) (ci := 8) (v := .ref (adP 0)) (C := RX8) (T := TX8) (N := 4) hx hb hts iX8 hown hK hP 0 rfl rfl 1 (by decide) f16 (fun _ h9 => h9) rfl dX8_completeIn_69 ?_
          refine va_get (D := D) (ci := 4) (v := .ref (adO 0)) (C := RX4) (T := TX4) (N := 13) hx hb hts iX4 hown hK hP 4 rfl rfl 4 (by decide) f135 (fun _ h9 => h9) rfl dX8_completeIn_72 ?_
          refine lv_iload_n hx hb dX8_completeIn_75 rfl (lv_at hl 1 rfl) ?_
          obtain ⟨r_14, hc_15, hE⟩ := bd1_el hE
          refine ki (X := ((W_I aI aP adP aH aT) ++ ((W_T cy aT imT) ++ ((W_P cy adP adS adB adO adR adA mdP_5 ndP_6) ++ ((W_S cy adS mdS_7) ++ (W_B cy adB mdB_8)))))) (Y := ((W_R cy adR mdR_10) ++ ((W_A cy adA mdA_11 ndA_12) ++ ((W_P cy aP aS aB aO aR aA imP inP) ++ ((W_S cy aS imS) ++ ((W_B cy aB imB) ++ ((W_O cy aO imO) ++ ((W_R cy aR imR) ++ ((W_A cy aA imA inA) ++ ((W_H cy aH ah imH) ++ (W_HS cy ah ihs))))))))))) (ws1 := (W_All cy aI aT adP adS adB adO adR adA aP aS aB aO aR aA aH ah imT mdP_5 ndP_6 mdS_7 mdB_8 mdO_9 mdR_10 mdA_11 ndA_12 imP inP imS imB imO imR imA inA imH ihs)) (rV (X := ((W_I aI aP adP aH aT) ++ ((W_T cy aT imT) ++ ((W_P cy adP adS adB adO adR adA mdP_5 ndP_6) ++ ((W_S cy adS mdS_7) ++ (W_B cy adB mdB_8)))))) (Y := ((W_R cy adR mdR_10) ++ ((W_A cy adA mdA_11 ndA_12) ++ ((W_P cy aP aS aB aO aR aA imP inP) ++ ((W_S cy aS imS) ++ ((W_B cy aB imB) ++ ((W_O cy aO imO) ++ ((W_R cy aR imR) ++ ((W_A cy aA imA inA) ++ ((W_H cy aH ah imH) ++ (W_HS cy ah ihs))))))))))) (As := [.int x1]) (rest := []) hC (c_X3_isComplete l D cy adO x1 mdO_9 r_14 hc_15) (cwV 1 hts gX8_completeIn_X3_isComplete rfl rfl rfl (by decide +kernel) ⟨Nat.le_of_ble_eq_true rfl, Nat.le_of_ble_eq_true rfl⟩) hK hN hP hD hS hA rfl 0 3 rfl rfl rfl hl.1 rfl (lv_room (Nat.le_of_ble_eq_true rfl)) dX8_completeIn_76 ⟨Nat.le_of_ble_eq_true rfl, Nat.le_of_ble_eq_true rfl⟩) hP hD hS hA rfl rfl rfl (fun H locs hP hD hS => ?_)
          refine lv_if_eq (tgt := 84) hx hb dX8_completeIn_79 (by decide) (fun c_16 => ?_) (fun c_16 => ?_)
          · replace hE := it_t hE c_16
            obtain ⟨x2_17, e_x2_17, hE⟩ := lt_el hE
            refine lv_iinc (v := x2_17) (lv' := [(2, .int x2_17), (0, .ref (aI 0)), (1, .int x1)]) hx hb dX8_completeIn_84 hl (k := 2) rfl (by rw [e_x2_17]; rfl) (by decide) rfl (fun ls hl => ?_)
            refine lv_goto (tgt := 41) hx hb dX8_completeIn_87 (by decide) ?_
            refine W.widen (k := 2) (n := 12) (Nat.le_of_ble_eq_true rfl) (Nat.le_of_ble_eq_true rfl) ?_
            exact ih x2_17 mdP_5 ndP_6 mdS_7 mdB_8 mdO_9 mdR_10 mdA_11 ndA_12 _ _ _ hE hP hD hS (lv_sub hl [1, 2, 0] rfl)
          · replace hE := it_f hE c_16
            refine lv_iload_n hx hb dX8_completeIn_82 rfl (lv_at hl 2 rfl) ?_
            have hE := Option.some.inj hE
            obtain ⟨q0, hE⟩ := Prod.mk.inj hE
            obtain ⟨q1, hE⟩ := Prod.mk.inj hE
            obtain ⟨q2, hE⟩ := Prod.mk.inj hE
            obtain ⟨q3, hE⟩ := Prod.mk.inj hE
            obtain ⟨q4, hE⟩ := Prod.mk.inj hE
            obtain ⟨q5, hE⟩ := Prod.mk.inj hE
            obtain ⟨q6, hE⟩ := Prod.mk.inj hE
            obtain ⟨q7, hE⟩ := Prod.mk.inj hE
            obtain ⟨q8, q9⟩ := Prod.mk.inj hE
            exact exi hx hb hr hlocks hK hP hD hS q0 q1 (by rw [q2, q3, q4, q5, q6, q7, q8, q9]) (Nat.le_of_ble_eq_true rfl) (Nat.le_of_ble_eq_true rfl) dX8_completeIn_83
  unfold f_X8_completeIn at hE
  refine lv_aload_n hx hb dX8_completeIn_0 rfl (lv_at hl 0 rfl) ?_
  refine va_get (D := D) (ci := 8) (v := .ref (aP 0)) (C := RX8) (T := TX8) (N := 4) hx hb hts iX8 hown hK hP 0 rfl rfl 0 (by decide) f10 (fun _ h9 => h9) rfl dX8_completeIn_1 ?_
  refine va_get (D := D) (ci := 4) (v := .ref (aO 0)) (C := RX4) (T := TX4) (N := 13) hx hb hts iX4 hown hK hP 40 rfl rfl 4 (by decide) f135 (fun _ h9 => h9) rfl dX8_completeIn_4 ?_
  refine lv_iload_n hx hb dX8_completeIn_7 rfl (lv_at hl 1 rfl) ?_
  obtain ⟨r_18, hc_19, hE⟩ := bd1_el hE
  refine ki (X := ((W_I aI aP adP aH aT) ++ ((W_T cy aT imT) ++ ((W_P cy adP adS adB adO adR adA imdP indP) ++ ((W_S cy adS imdS) ++ ((W_B cy adB imdB) ++ ((W_O cy adO imdO) ++ ((W_R cy adR imdR) ++ ((W_A cy adA imdA indA) ++ ((W_P cy aP aS aB aO aR aA imP inP) ++ ((W_S cy aS imS) ++ (W_B cy aB imB)))))))))))) (Y := ((W_R cy aR imR) ++ ((W_A cy aA imA inA) ++ ((W_H cy aH ah imH) ++ (W_HS cy ah ihs))))) (ws1 := (W_All cy aI aT adP adS adB adO adR adA aP aS aB aO aR aA aH ah imT imdP indP imdS imdB imdO imdR imdA indA imP inP imS imB imO imR imA inA imH ihs)) (rV (X := ((W_I aI aP adP aH aT) ++ ((W_T cy aT imT) ++ ((W_P cy adP adS adB adO adR adA imdP indP) ++ ((W_S cy adS imdS) ++ ((W_B cy adB imdB) ++ ((W_O cy adO imdO) ++ ((W_R cy adR imdR) ++ ((W_A cy adA imdA indA) ++ ((W_P cy aP aS aB aO aR aA imP inP) ++ ((W_S cy aS imS) ++ (W_B cy aB imB)))))))))))) (Y := ((W_R cy aR imR) ++ ((W_A cy aA imA inA) ++ ((W_H cy aH ah imH) ++ (W_HS cy ah ihs))))) (As := [.int x1]) (rest := []) hC (c_X3_has l D cy aO x1 imO r_18 hc_19) (cwV 1 hts gX8_completeIn_X3_has rfl rfl rfl (by decide +kernel) ⟨Nat.le_of_ble_eq_true rfl, Nat.le_of_ble_eq_true rfl⟩) hK hN hP hD hS hA rfl 0 3 rfl rfl rfl hl.1 rfl (lv_room (Nat.le_of_ble_eq_true rfl)) dX8_completeIn_8 ⟨Nat.le_of_ble_eq_true rfl, Nat.le_of_ble_eq_true rfl⟩) hP hD hS hA rfl rfl rfl (fun H locs hP hD hS => ?_)
  obtain ⟨k_21, hc_20, hE⟩ := bd1_el hE
  refine kxv (X := []) (Y := (W_All cy aI aT adP adS adB adO adR adA aP aS aB aO aR aA aH ah imT imdP indP imdS imdB imdO imdR imdA indA imP inP imS imB imO imR imA inA imH ihs)) (ws1 := (W_All cy aI aT adP adS adB adO adR adA aP aS aB aO aR aA aH ah imT imdP indP imdS imdB imdO imdR imdA indA imP inP imS imB imO imR imA inA imH ihs)) (xS (X := []) (Y := (W_All cy aI aT adP adS adB adO adR adA aP aS aB aO aR aA aH ah imT imdP indP imdS imdB imdO imdR imdA indA imP inP imS imB imO imR imA inA imH ihs)) (As := [.int r_18]) (rest := []) hC (c_X8_needItem l hst D cy r_18 k_21 hc_20) (cwS 1 hts gX8_completeIn_X8_needItem rfl rfl rfl (by decide +kernel) ⟨Nat.le_of_ble_eq_true rfl, Nat.le_of_ble_eq_true rfl⟩) hK hN hP hD hS hA rfl rfl hl.1 rfl (lv_room (Nat.le_of_ble_eq_true rfl)) dX8_completeIn_11 ⟨Nat.le_of_ble_eq_true rfl, Nat.le_of_ble_eq_true rfl⟩) hP hD hS hA rfl rfl rfl (fun hk0 H locs ce q9 hP hD hS hce hcv hcl => ?_) (fun hk0 H locs hP hD hS => ?_)
  · replace hE := it_f hE hk0
    have hE := Option.some.inj hE
    obtain ⟨q0, hE⟩ := Prod.mk.inj hE
    obtain ⟨q1, hE⟩ := Prod.mk.inj hE
    obtain ⟨q2, hE⟩ := Prod.mk.inj hE
    obtain ⟨q3, hE⟩ := Prod.mk.inj hE
    obtain ⟨q4, hE⟩ := Prod.mk.inj hE
    obtain ⟨q5, hE⟩ := Prod.mk.inj hE
    obtain ⟨q6, hE⟩ := Prod.mk.inj hE
    obtain ⟨q7, hE⟩ := Prod.mk.inj hE
    obtain ⟨q8, q9⟩ := Prod.mk.inj hE
    exact exx htab hlocks hK hP hD hS hce hcv hcl hk0 q0 (by rw [q2, q3, q4, q5, q6, q7, q8, q9]) (Nat.le_of_ble_eq_true rfl) (Nat.le_of_ble_eq_true rfl)
  · replace hE := it_t hE hk0
    refine lv_aload_n hx hb dX8_completeIn_14 rfl (lv_at hl 0 rfl) ?_
    refine va_get (D := D) (ci := 8) (v := .ref (aP 0)) (C := RX8) (T := TX8) (N := 4) hx hb hts iX8 hown hK hP 0 rfl rfl 0 (by decide) f10 (fun _ h9 => h9) rfl dX8_completeIn_15 ?_
    refine va_get (D := D) (ci := 4) (v := .ref (aO 0)) (C := RX4) (T := TX4) (N := 13) hx hb hts iX4 hown hK hP 40 rfl rfl 4 (by decide) f135 (fun _ h9 => h9) rfl dX8_completeIn_18 ?_
    refine lv_iload_n hx hb dX8_completeIn_21 rfl (lv_at hl 1 rfl) ?_
    obtain ⟨r_22, hc_23, hE⟩ := bd1_el hE
    refine ki (X := ((W_I aI aP adP aH aT) ++ ((W_T cy aT imT) ++ ((W_P cy adP adS adB adO adR adA imdP indP) ++ ((W_S cy adS imdS) ++ ((W_B cy adB imdB) ++ ((W_O cy adO imdO) ++ ((W_R cy adR imdR) ++ ((W_A cy adA imdA indA) ++ ((W_P cy aP aS aB aO aR aA imP inP) ++ ((W_S cy aS imS) ++ (W_B cy aB imB)))))))))))) (Y := ((W_R cy aR imR) ++ ((W_A cy aA imA inA) ++ ((W_H cy aH ah imH) ++ (W_HS cy ah ihs))))) (ws1 := (W_All cy aI aT adP adS adB adO adR adA aP aS aB aO aR aA aH ah imT imdP indP imdS imdB imdO imdR imdA indA imP inP imS imB imO imR imA inA imH ihs)) (rV (X := ((W_I aI aP adP aH aT) ++ ((W_T cy aT imT) ++ ((W_P cy adP adS adB adO adR adA imdP indP) ++ ((W_S cy adS imdS) ++ ((W_B cy adB imdB) ++ ((W_O cy adO imdO) ++ ((W_R cy adR imdR) ++ ((W_A cy adA imdA indA) ++ ((W_P cy aP aS aB aO aR aA imP inP) ++ ((W_S cy aS imS) ++ (W_B cy aB imB)))))))))))) (Y := ((W_R cy aR imR) ++ ((W_A cy aA imA inA) ++ ((W_H cy aH ah imH) ++ (W_HS cy ah ihs))))) (As := [.int x1]) (rest := []) hC (c_X3_isOpen l D cy aO x1 imO r_22 hc_23) (cwV 1 hts gX8_completeIn_X3_isOpen rfl rfl rfl (by decide +kernel) ⟨Nat.le_of_ble_eq_true rfl, Nat.le_of_ble_eq_true rfl⟩) hK hN hP hD hS hA rfl 0 3 rfl rfl rfl hl.1 rfl (lv_room (Nat.le_of_ble_eq_true rfl)) dX8_completeIn_22 ⟨Nat.le_of_ble_eq_true rfl, Nat.le_of_ble_eq_true rfl⟩) hP hD hS hA rfl rfl rfl (fun H locs hP hD hS => ?_)
    obtain ⟨k_25, hc_24, hE⟩ := bd1_el hE
    refine kxv (X := []) (Y := (W_All cy aI aT adP adS adB adO adR adA aP aS aB aO aR aA aH ah imT imdP indP imdS imdB imdO imdR imdA indA imP inP imS imB imO imR imA inA imH ihs)) (ws1 := (W_All cy aI aT adP adS adB adO adR adA aP aS aB aO aR aA aH ah imT imdP indP imdS imdB imdO imdR imdA indA imP inP imS imB imO imR imA inA imH ihs)) (xS (X := []) (Y := (W_All cy aI aT adP adS adB adO adR adA aP aS aB aO aR aA aH ah imT imdP indP imdS imdB imdO imdR imdA indA imP inP imS imB imO imR imA inA imH ihs)) (As := [.int r_22]) (rest := []) hC (c_X8_needState l hst D cy r_22 k_25 hc_24) (cwS 1 hts gX8_completeIn_X8_needState rfl rfl rfl (by decide +kernel) ⟨Nat.le_of_ble_eq_true rfl, Nat.le_of_ble_eq_true rfl⟩) hK hN hP hD hS hA rfl rfl hl.1 rfl (lv_room (Nat.le_of_ble_eq_true rfl)) dX8_completeIn_25 ⟨Nat.le_of_ble_eq_true rfl, Nat.le_of_ble_eq_true rfl⟩) hP hD hS hA rfl rfl rfl (fun hk0 H locs ce q9 hP hD hS hce hcv hcl => ?_) (fun hk0 H locs hP hD hS => ?_)
    · replace hE := it_f hE hk0
      have hE := Option.some.inj hE
      obtain ⟨q0, hE⟩ := Prod.mk.inj hE
      obtain ⟨q1, hE⟩ := Prod.mk.inj hE
      obtain ⟨q2, hE⟩ := Prod.mk.inj hE
      obtain ⟨q3, hE⟩ := Prod.mk.inj hE
      obtain ⟨q4, hE⟩ := Prod.mk.inj hE
      obtain ⟨q5, hE⟩ := Prod.mk.inj hE
      obtain ⟨q6, hE⟩ := Prod.mk.inj hE
      obtain ⟨q7, hE⟩ := Prod.mk.inj hE
      obtain ⟨q8, q9⟩ := Prod.mk.inj hE
      exact exx htab hlocks hK hP hD hS hce hcv hcl hk0 q0 (by rw [q2, q3, q4, q5, q6, q7, q8, q9]) (Nat.le_of_ble_eq_true rfl) (Nat.le_of_ble_eq_true rfl)
    · replace hE := it_t hE hk0
      refine lv_aload_n hx hb dX8_completeIn_28 rfl (lv_at hl 0 rfl) ?_
      refine va_get (D := D) (ci := 8) (v := .ref (adP 0)) (C := RX8) (T := TX8) (N := 4) hx hb hts iX8 hown hK hP 0 rfl rfl 1 (by decide) f16 (fun _ h9 => h9) rfl dX8_completeIn_29 ?_
      refine lv_aload_n hx hb dX8_completeIn_32 rfl (lv_at hl 0 rfl) ?_
      refine va_get (D := D) (ci := 8) (v := .ref (aP 0)) (C := RX8) (T := TX8) (N := 4) hx hb hts iX8 hown hK hP 0 rfl rfl 0 (by decide) f10 (fun _ h9 => h9) rfl dX8_completeIn_33 ?_
      obtain ⟨mdP_26, ndP_27, mdS_28, mdB_29, mdO_30, mdR_31, mdA_32, ndA_33, hc_34, hE⟩ := bd8_el hE
      refine kv (X := ((W_I aI aP adP aH aT) ++ (W_T cy aT imT))) (Y := ((W_H cy aH ah imH) ++ (W_HS cy ah ihs))) (ws1 := (W_All cy aI aT adP adS adB adO adR adA aP aS aB aO aR aA aH ah imT mdP_26 ndP_27 mdS_28 mdB_29 mdO_30 mdR_31 mdA_32 ndA_33 imP inP imS imB imO imR imA inA imH ihs)) (rV (X := ((W_I aI aP adP aH aT) ++ (W_T cy aT imT))) (Y := ((W_H cy aH ah imH) ++ (W_HS cy ah ihs))) (As := [.ref (aP 0)]) (rest := []) hC (c_X4_copyFrom l D cy adP adS adB adO adR adA aP aS aB aO aR aA imdP indP imdS imdB imdO imdR imdA indA imP inP imS imB imO imR imA inA mdP_26 ndP_27 mdS_28 mdB_29 mdO_30 mdR_31 mdA_32 ndA_33 hc_34) (cwV 1 hts gX8_completeIn_X4_copyFrom rfl rfl rfl (by decide +kernel) ⟨Nat.le_of_ble_eq_true rfl, Nat.le_of_ble_eq_true rfl⟩) hK hN hP hD hS hA rfl 0 4 rfl rfl rfl hl.1 rfl (lv_room (Nat.le_of_ble_eq_true rfl)) dX8_completeIn_36 ⟨Nat.le_of_ble_eq_true rfl, Nat.le_of_ble_eq_true rfl⟩) hP hD hS hA rfl rfl rfl (fun H locs hP hD hS => ?_)
      refine lv_iconst (v := 1) hx hb dX8_completeIn_39 (by decide) ?_
      refine lv_istore_n (lv' := [(2, .int (1 : Int32)), (0, .ref (aI 0)), (1, .int x1)]) hx hb dX8_completeIn_40 rfl hl (by decide) rfl (fun ls hl => ?_)
      refine W.widen (k := 2) (n := 12) (Nat.le_of_ble_eq_true rfl) (Nat.le_of_ble_eq_true rfl) ?_
      exact h41 x1 fuel (1 : Int32) mdP_26 ndP_27 mdS_28 mdB_29 mdO_30 mdR_31 mdA_32 ndA_33 _ _ _ hE hP hD hS (lv_sub hl [1, 2, 0] rfl)
abbrev rm_X8_meltedWith : Room := { frames := 6, cells := 0, slots := 0, locals := 145 }
set_option maxHeartbeats 40000000 in
set_option maxRecDepth 100000 in
theorem c_X8_meltedWith (l : Launch) (D : va_G) (cy : Nat → Nat) (aI aT adP adS adB adO adR adA aP aS aB aO aR aA aH : Nat → Nat) (ah : Nat → Nat → Nat → Nat) (x1 : Int32) (x2 : Int32) (x3 : Int32) (imT : Mem) (imdP : Mem) (indP : MemL) (imdS : Mem) (imdB : Mem) (imdO : Mem) (imdR : Mem) (imdA : Mem) (indA : MemL) (imP : Mem) (inP : MemL) (imS : Mem) (imB : Mem) (imO : Mem) (imR : Mem) (imA : Mem) (inA : MemL) (imH : Mem) (ihs : (Nat → PSt)) (r' : Int32) (mdP' : Mem) (ndP' : MemL) (mdS' : Mem) (mdB' : Mem) (mdO' : Mem) (mdR' : Mem) (mdA' : Mem) (ndA' : MemL) (hE : f_X8_meltedWith x1 x2 x3 imT imdP indP imdS imdB imdO imdR imdA indA imP inP imS imB imO imR imA inA imH ihs = some (r', mdP', ndP', mdS', mdB', mdO', mdR', mdA', ndA')) : CI l yX8_meltedWith wsX8_meltedWith rm_X8_meltedWith D cy [.ref (aI 0), .int x1, .int x2, .int x3] (W_All cy aI aT adP adS adB adO adR adA aP aS aB aO aR aA aH ah imT imdP indP imdS imdB imdO imdR imdA indA imP inP imS imB imO imR imA inA imH ihs) 0 0 r' (W_All cy aI aT adP adS adB adO adR adA aP aS aB aO aR aA aH ah imT mdP' ndP' mdS' mdB' mdO' mdR' mdA' ndA' imP inP imS imB imO imR imA inA imH ihs) := by
  refine CQ_of (cc := cX8_meltedWith) (maxL := 4) (ret := (some .int)) (by decide) rfl (Nat.le_of_ble_eq_true rfl) (fun p e s m args below meth c A ls hx hb hr hml hlocks hnm hown hts hA hK hN hP hD hS hl => ?_)
  have hown : s.vm.findClass RX8 = some m.cls := hown
  have hl : lv_has ls 4 [(0, .ref (aI 0)), (1, .int x1), (2, .int x2), (3, .int x3)] := hl
  have hC : CallFix p m c cX8_meltedWith 4 s args wsX8_meltedWith RX8 := ⟨hx, hb, hml, hown, hts⟩
  have f10 : (Cond.fieldLink RX8 10 "IcePlant" "now" "LIcePlant$Plant;").before args s = true := hts _ (by decide +kernel)
  have f16 : (Cond.fieldLink RX8 16 "IcePlant" "trial" "LIcePlant$Plant;").before args s = true := hts _ (by decide +kernel)
  have f43 : (Cond.fieldLink RX8 43 "IcePlant$Plant" "store" "LIcePlant$Store;").before args s = true := hts _ (by decide +kernel)
  have f69 : (Cond.fieldLink RX8 69 "IcePlant$Store" "rules" "[I").before args s = true := hts _ (by decide +kernel)
  have iX4 : ∀ w ∈ wsX40, w ∈ wsX8_meltedWith := by decide +kernel
  have iX6 : ∀ w ∈ wsX60, w ∈ wsX8_meltedWith := by decide +kernel
  have iX8 : ∀ w ∈ wsX80, w ∈ wsX8_meltedWith := by decide +kernel
  unfold f_X8_meltedWith at hE
  refine lv_aload_n hx hb dX8_meltedWith_0 rfl (lv_at hl 0 rfl) ?_
  refine va_get (D := D) (ci := 8) (v := .ref (adP 0)) (C := RX8) (T := TX8) (N := 4) hx hb hts iX8 hown hK hP 0 rfl rfl 1 (by decide) f16 (fun _ h9 => h9) rfl dX8_meltedWith_1 ?_
  refine lv_aload_n hx hb dX8_meltedWith_4 rfl (lv_at hl 0 rfl) ?_
  refine va_get (D := D) (ci := 8) (v := .ref (aP 0)) (C := RX8) (T := TX8) (N := 4) hx hb hts iX8 hown hK hP 0 rfl rfl 0 (by decide) f10 (fun _ h9 => h9) rfl dX8_meltedWith_5 ?_
  obtain ⟨mdP_1, ndP_2, mdS_3, mdB_4, mdO_5, mdR_6, mdA_7, ndA_8, hc_9, hE⟩ := bd8_el hE
  refine kv (X := ((W_I aI aP adP aH aT) ++ (W_T cy aT imT))) (Y := ((W_H cy aH ah imH) ++ (W_HS cy ah ihs))) (ws1 := (W_All cy aI aT adP adS adB adO adR adA aP aS aB aO aR aA aH ah imT mdP_1 ndP_2 mdS_3 mdB_4 mdO_5 mdR_6 mdA_7 ndA_8 imP inP imS imB imO imR imA inA imH ihs)) (rV (X := ((W_I aI aP adP aH aT) ++ (W_T cy aT imT))) (Y := ((W_H cy aH ah imH) ++ (W_HS cy ah ihs))) (As := [.ref (aP 0)]) (rest := []) hC (c_X4_copyFrom l D cy adP adS adB adO adR adA aP aS aB aO aR aA imdP indP imdS imdB imdO imdR imdA indA imP inP imS imB imO imR imA inA mdP_1 ndP_2 mdS_3 mdB_4 mdO_5 mdR_6 mdA_7 ndA_8 hc_9) (cwV 1 hts gX8_meltedWith_X4_copyFrom rfl rfl rfl (by decide +kernel) ⟨Nat.le_of_ble_eq_true rfl, Nat.le_of_ble_eq_true rfl⟩) hK hN hP hD hS hA rfl 0 4 rfl rfl rfl hl.1 rfl (lv_room (Nat.le_of_ble_eq_true rfl)) dX8_meltedWith_8 ⟨Nat.le_of_ble_eq_true rfl, Nat.le_of_ble_eq_true rfl⟩) hP hD hS hA rfl rfl rfl (fun H locs hP hD hS => ?_)
  refine lv_aload_n hx hb dX8_meltedWith_11 rfl (lv_at hl 0 rfl) ?_
  refine va_get (D := D) (ci := 8) (v := .ref (adP 0)) (C := RX8) (T := TX8) (N := 4) hx hb hts iX8 hown hK hP 0 rfl rfl 1 (by decide) f16 (fun _ h9 => h9) rfl dX8_meltedWith_12 ?_
  refine va_get (D := D) (ci := 4) (v := .ref (adS 0)) (C := RX4) (T := TX4) (N := 13) hx hb hts iX4 hown hK hP 4 rfl rfl 2 (by decide) f43 (fun _ h9 => h9) rfl dX8_meltedWith_15 ?_
  refine va_get (D := D) (ci := 6) (v := .ref (adS 4)) (C := RX6) (T := TX6) (N := 10) hx hb hts iX6 hown hK hP 7 rfl rfl 3 (by decide) f69 (fun _ h9 => h9) rfl dX8_meltedWith_18 ?_
  refine lv_iload_n hx hb dX8_meltedWith_21 rfl (lv_at hl 1 rfl) ?_
  refine lv_iload_n hx hb dX8_meltedWith_22 rfl (lv_at hl 2 rfl) ?_
  obtain ⟨r_10, g_11, hc_13, hE⟩ := bd2_el hE
  obtain ⟨mdS_12, e_mdS_12, hE⟩ := lt_el hE
  refine ki (X := (List.take 9 (W_All cy aI aT adP adS adB adO adR adA aP aS aB aO aR aA aH ah imT mdP_1 ndP_2 mdS_3 mdB_4 mdO_5 mdR_6 mdA_7 ndA_8 imP inP imS imB imO imR imA inA imH ihs))) (Y := (List.drop 10 (W_All cy aI aT adP adS adB adO adR adA aP aS aB aO aR aA aH ah imT mdP_1 ndP_2 mdS_3 mdB_4 mdO_5 mdR_6 mdA_7 ndA_8 imP inP imS imB imO imR imA inA imH ihs))) (ws1 := (W_All cy aI aT adP adS adB adO adR adA aP aS aB aO aR aA aH ah imT mdP_1 ndP_2 mdS_12 mdB_4 mdO_5 mdR_6 mdA_7 ndA_8 imP inP imS imB imO imR imA inA imH ihs)) (rS (X := (List.take 9 (W_All cy aI aT adP adS adB adO adR adA aP aS aB aO aR aA aH ah imT mdP_1 ndP_2 mdS_3 mdB_4 mdO_5 mdR_6 mdA_7 ndA_8 imP inP imS imB imO imR imA inA imH ihs))) (Y := (List.drop 10 (W_All cy aI aT adP adS adB adO adR adA aP aS aB aO aR aA aH ah imT mdP_1 ndP_2 mdS_3 mdB_4 mdO_5 mdR_6 mdA_7 ndA_8 imP inP imS imB imO imR imA inA imH ihs))) (As := [.ref (adS 4), .int x1, .int x2]) (rest := []) hC (c_X8_replace l D cy (adS 4) x1 x2 (5) (mdS_3 3) r_10 g_11 hc_13) (cwS 3 hts gX8_meltedWith_X8_replace rfl rfl rfl (by decide +kernel) ⟨Nat.le_of_ble_eq_true rfl, Nat.le_of_ble_eq_true rfl⟩) hK hN hP hD hS hA rfl rfl hl.1 rfl (lv_room (Nat.le_of_ble_eq_true rfl)) dX8_meltedWith_23 ⟨Nat.le_of_ble_eq_true rfl, Nat.le_of_ble_eq_true rfl⟩) hP hD hS hA rfl rfl (by rw [e_mdS_12]; rfl) (fun H locs hP hD hS => ?_)
  refine lv_pop hx hb dX8_meltedWith_26 rfl ?_
  refine lv_aload_n hx hb dX8_meltedWith_27 rfl (lv_at hl 0 rfl) ?_
  refine va_get (D := D) (ci := 8) (v := .ref (adP 0)) (C := RX8) (T := TX8) (N := 4) hx hb hts iX8 hown hK hP 0 rfl rfl 1 (by decide) f16 (fun _ h9 => h9) rfl dX8_meltedWith_28 ?_
  refine lv_iload_n hx hb dX8_meltedWith_31 rfl (lv_at hl 3 rfl) ?_
  obtain ⟨r_14, mdP_15, ndP_16, mdS_17, mdB_18, mdO_19, mdR_20, mdA_21, ndA_22, hc_23, hE⟩ := bd9_el hE
  refine ki (X := ((W_I aI aP adP aH aT) ++ (W_T cy aT imT))) (Y := ((W_P cy aP aS aB aO aR aA imP inP) ++ ((W_S cy aS imS) ++ ((W_B cy aB imB) ++ ((W_O cy aO imO) ++ ((W_R cy aR imR) ++ ((W_A cy aA imA inA) ++ ((W_H cy aH ah imH) ++ (W_HS cy ah ihs))))))))) (ws1 := (W_All cy aI aT adP adS adB adO adR adA aP aS aB aO aR aA aH ah imT mdP_15 ndP_16 mdS_17 mdB_18 mdO_19 mdR_20 mdA_21 ndA_22 imP inP imS imB imO imR imA inA imH ihs)) (rV (X := ((W_I aI aP adP aH aT) ++ (W_T cy aT imT))) (Y := ((W_P cy aP aS aB aO aR aA imP inP) ++ ((W_S cy aS imS) ++ ((W_B cy aB imB) ++ ((W_O cy aO imO) ++ ((W_R cy aR imR) ++ ((W_A cy aA imA inA) ++ ((W_H cy aH ah imH) ++ (W_HS cy ah ihs))))))))) (As := [.int x3]) (rest := []) hC (c_X4_letPass l D cy adP adS adB adO adR adA x3 mdP_1 ndP_2 mdS_12 mdB_4 mdO_5 mdR_6 mdA_7 ndA_8 r_14 mdP_15 ndP_16 mdS_17 mdB_18 mdO_19 mdR_20 mdA_21 ndA_22 hc_23) (cwV 1 hts gX8_meltedWith_X4_letPass rfl rfl rfl (by decide +kernel) ⟨Nat.le_of_ble_eq_true rfl, Nat.le_of_ble_eq_true rfl⟩) hK hN hP hD hS hA rfl 0 4 rfl rfl rfl hl.1 rfl (lv_room (Nat.le_of_ble_eq_true rfl)) dX8_meltedWith_32 ⟨Nat.le_of_ble_eq_true rfl, Nat.le_of_ble_eq_true rfl⟩) hP hD hS hA rfl rfl rfl (fun H locs hP hD hS => ?_)
  refine lv_pop hx hb dX8_meltedWith_35 rfl ?_
  refine lv_aload_n hx hb dX8_meltedWith_36 rfl (lv_at hl 0 rfl) ?_
  refine va_get (D := D) (ci := 8) (v := .ref (adP 0)) (C := RX8) (T := TX8) (N := 4) hx hb hts iX8 hown hK hP 0 rfl rfl 1 (by decide) f16 (fun _ h9 => h9) rfl dX8_meltedWith_37 ?_
  refine va_get (D := D) (ci := 4) (v := .ref (adS 0)) (C := RX4) (T := TX4) (N := 13) hx hb hts iX4 hown hK hP 4 rfl rfl 2 (by decide) f43 (fun _ h9 => h9) rfl dX8_meltedWith_40 ?_
  obtain ⟨r_24, hc_25, hE⟩ := bd1_el hE
  refine ki (X := ((W_I aI aP adP aH aT) ++ ((W_T cy aT imT) ++ (W_P cy adP adS adB adO adR adA mdP_15 ndP_16)))) (Y := ((W_B cy adB mdB_18) ++ ((W_O cy adO mdO_19) ++ ((W_R cy adR mdR_20) ++ ((W_A cy adA mdA_21 ndA_22) ++ ((W_P cy aP aS aB aO aR aA imP inP) ++ ((W_S cy aS imS) ++ ((W_B cy aB imB) ++ ((W_O cy aO imO) ++ ((W_R cy aR imR) ++ ((W_A cy aA imA inA) ++ ((W_H cy aH ah imH) ++ (W_HS cy ah ihs))))))))))))) (ws1 := (W_All cy aI aT adP adS adB adO adR adA aP aS aB aO aR aA aH ah imT mdP_15 ndP_16 mdS_17 mdB_18 mdO_19 mdR_20 mdA_21 ndA_22 imP inP imS imB imO imR imA inA imH ihs)) (rV (X := ((W_I aI aP adP aH aT) ++ ((W_T cy aT imT) ++ (W_P cy adP adS adB adO adR adA mdP_15 ndP_16)))) (Y := ((W_B cy adB mdB_18) ++ ((W_O cy adO mdO_19) ++ ((W_R cy adR mdR_20) ++ ((W_A cy adA mdA_21 ndA_22) ++ ((W_P cy aP aS aB aO aR aA imP inP) ++ ((W_S cy aS imS) ++ ((W_B cy aB imB) ++ ((W_O cy aO imO) ++ ((W_R cy aR imR) ++ ((W_A cy aA imA inA) ++ ((W_H cy aH ah imH) ++ (W_HS cy ah ihs))))))))))))) (As := []) (rest := []) hC (c_X6_meltedMass l D cy adS mdS_17 r_24 hc_25) (cwV 0 hts gX8_meltedWith_X6_meltedMass rfl rfl rfl (by decide +kernel) ⟨Nat.le_of_ble_eq_true rfl, Nat.le_of_ble_eq_true rfl⟩) hK hN hP hD hS hA rfl 0 6 rfl rfl rfl hl.1 rfl (lv_room (Nat.le_of_ble_eq_true rfl)) dX8_meltedWith_43 ⟨Nat.le_of_ble_eq_true rfl, Nat.le_of_ble_eq_true rfl⟩) hP hD hS hA rfl rfl rfl (fun H locs hP hD hS => ?_)
  refine lv_aload_n hx hb dX8_meltedWith_46 rfl (lv_at hl 0 rfl) ?_
  refine va_get (D := D) (ci := 8) (v := .ref (aP 0)) (C := RX8) (T := TX8) (N := 4) hx hb hts iX8 hown hK hP 0 rfl rfl 0 (by decide) f10 (fun _ h9 => h9) rfl dX8_meltedWith_47 ?_
  refine va_get (D := D) (ci := 4) (v := .ref (aS 0)) (C := RX4) (T := TX4) (N := 13) hx hb hts iX4 hown hK hP 40 rfl rfl 2 (by decide) f43 (fun _ h9 => h9) rfl dX8_meltedWith_50 ?_
  obtain ⟨r_26, hc_27, hE⟩ := bd1_el hE
  refine ki (X := ((W_I aI aP adP aH aT) ++ ((W_T cy aT imT) ++ ((W_P cy adP adS adB adO adR adA mdP_15 ndP_16) ++ ((W_S cy adS mdS_17) ++ ((W_B cy adB mdB_18) ++ ((W_O cy adO mdO_19) ++ ((W_R cy adR mdR_20) ++ ((W_A cy adA mdA_21 ndA_22) ++ (W_P cy aP aS aB aO aR aA imP inP)))))))))) (Y := ((W_B cy aB imB) ++ ((W_O cy aO imO) ++ ((W_R cy aR imR) ++ ((W_A cy aA imA inA) ++ ((W_H cy aH ah imH) ++ (W_HS cy ah ihs))))))) (ws1 := (W_All cy aI aT adP adS adB adO adR adA aP aS aB aO aR aA aH ah imT mdP_15 ndP_16 mdS_17 mdB_18 mdO_19 mdR_20 mdA_21 ndA_22 imP inP imS imB imO imR imA inA imH ihs)) (rV (X := ((W_I aI aP adP aH aT) ++ ((W_T cy aT imT) ++ ((W_P cy adP adS adB adO adR adA mdP_15 ndP_16) ++ ((W_S cy adS mdS_17) ++ ((W_B cy adB mdB_18) ++ ((W_O cy adO mdO_19) ++ ((W_R cy adR mdR_20) ++ ((W_A cy adA mdA_21 ndA_22) ++ (W_P cy aP aS aB aO aR aA imP inP)))))))))) (Y := ((W_B cy aB imB) ++ ((W_O cy aO imO) ++ ((W_R cy aR imR) ++ ((W_A cy aA imA inA) ++ ((W_H cy aH ah imH) ++ (W_HS cy ah ihs))))))) (As := []) (rest := [.int r_24]) hC (c_X6_meltedMass l D cy aS imS r_26 hc_27) (cwV 0 hts gX8_meltedWith_X6_meltedMass rfl rfl rfl (by decide +kernel) ⟨Nat.le_of_ble_eq_true rfl, Nat.le_of_ble_eq_true rfl⟩) hK hN hP hD hS hA rfl 0 6 rfl rfl rfl hl.1 rfl (lv_room (Nat.le_of_ble_eq_true rfl)) dX8_meltedWith_53 ⟨Nat.le_of_ble_eq_true rfl, Nat.le_of_ble_eq_true rfl⟩) hP hD hS hA rfl rfl rfl (fun H locs hP hD hS => ?_)
  refine lv_isub hx hb dX8_meltedWith_56 ?_
  have hE := Option.some.inj hE
  obtain ⟨q0, hE⟩ := Prod.mk.inj hE
  obtain ⟨q1, hE⟩ := Prod.mk.inj hE
  obtain ⟨q2, hE⟩ := Prod.mk.inj hE
  obtain ⟨q3, hE⟩ := Prod.mk.inj hE
  obtain ⟨q4, hE⟩ := Prod.mk.inj hE
  obtain ⟨q5, hE⟩ := Prod.mk.inj hE
  obtain ⟨q6, hE⟩ := Prod.mk.inj hE
  obtain ⟨q7, q8⟩ := Prod.mk.inj hE
  exact ei hx hb hr hlocks hK hP hD hS q0 (by rw [q1, q2, q3, q4, q5, q6, q7, q8]) dX8_meltedWith_57
abbrev rm_X8_bestRule : Room := { frames := 8, cells := 2, slots := 12, locals := 168 }
set_option maxHeartbeats 40000000 in
set_option maxRecDepth 100000 in
theorem c_X8_bestRule (l : Launch) (hst : l.stackTraces = false) (D : va_G) (cy : Nat → Nat) (aI aT adP adS adB adO adR adA aP aS aB aO aR aA aH : Nat → Nat) (ah : Nat → Nat → Nat → Nat) (x1 : Int32) (x2 : Int32) (imT : Mem) (imdP : Mem) (indP : MemL) (imdS : Mem) (imdB : Mem) (imdO : Mem) (imdR : Mem) (imdA : Mem) (indA : MemL) (imP : Mem) (inP : MemL) (imS : Mem) (imB : Mem) (imO : Mem) (imR : Mem) (imA : Mem) (inA : MemL) (imH : Mem) (ihs : (Nat → PSt)) (k' : Nat) (r' : Int32) (mdP' : Mem) (ndP' : MemL) (mdS' : Mem) (mdB' : Mem) (mdO' : Mem) (mdR' : Mem) (mdA' : Mem) (ndA' : MemL) (hE : f_X8_bestRule x1 x2 imT imdP indP imdS imdB imdO imdR imdA indA imP inP imS imB imO imR imA inA imH ihs = some (k', r', mdP', ndP', mdS', mdB', mdO', mdR', mdA', ndA')) : CXI l yX8_bestRule wsX8_bestRule rm_X8_bestRule D cy [.ref (aI 0), .int x1, .int x2] (W_All cy aI aT adP adS adB adO adR adA aP aS aB aO aR aA aH ah imT imdP indP imdS imdB imdO imdR imdA indA imP inP imS imB imO imR imA inA imH ihs) 2 12 k' r' (W_All cy aI aT adP adS adB adO adR adA aP aS aB aO aR aA aH ah imT mdP' ndP' mdS' mdB' mdO' mdR' mdA' ndA' imP inP imS imB imO imR imA inA imH ihs) := by
  refine CX_of (cc := cX8_bestRule) (maxL := 7) (ret := (some .int)) (by decide) rfl (Nat.le_of_ble_eq_true rfl) (fun p e s m args below meth c A ls hx hb hr hml hlocks hnm hown hts hA htab hK hN hP hD hS hl => ?_)
  have hown : s.vm.findClass RX8 = some m.cls := hown
  have hl : lv_has ls 7 [(0, .ref (aI 0)), (1, .int x1), (2, .int x2)] := hl
  have hC : CallFix p m c cX8_bestRule 7 s args wsX8_bestRule RX8 := ⟨hx, hb, hml, hown, hts⟩
  have f10 : (Cond.fieldLink RX8 10 "IcePlant" "now" "LIcePlant$Plant;").before args s = true := hts _ (by decide +kernel)
  have f43 : (Cond.fieldLink RX8 43 "IcePlant$Plant" "store" "LIcePlant$Store;").before args s = true := hts _ (by decide +kernel)
  have iX4 : ∀ w ∈ wsX40, w ∈ wsX8_bestRule := by decide +kernel
  have iX8 : ∀ w ∈ wsX80, w ∈ wsX8_bestRule := by decide +kernel
  have h68 : ∀ (x1 : Int32) (x2 : Int32) (x3 : Int32) (x4 : Int32) (x5 : Int32) (mdP : Mem) (ndP : MemL) (mdS : Mem) (mdB : Mem) (mdO : Mem) (mdR : Mem) (mdA : Mem) (ndA : MemL), ∀ (k38 : (Int32 → Int32 → Int32 → Mem → MemL → Mem → Mem → Mem → Mem → Mem → MemL → Option (Nat × Int32 × Mem × MemL × Mem × Mem × Mem × Mem × Mem × MemL))), (∀ (x3 : Int32) (x4 : Int32) (x5 : Int32) (mdP : Mem) (ndP : MemL) (mdS : Mem) (mdB : Mem) (mdO : Mem) (mdR : Mem) (mdA : Mem) (ndA : MemL) (H : Heap) (locs : List Loc) (ls : Array Slot), k38 x3 x4 x5 mdP ndP mdS mdB mdO mdR mdA ndA = some (k', r', mdP', ndP', mdS', mdB', mdO', mdR', mdA', ndA') → va_P D vwCl (W_All cy aI aT adP adS adB adO adR adA aP aS aB aO aR aA aH ah imT mdP ndP mdS mdB mdO mdR mdA ndA imP inP imS imB imO imR imA inA imH ihs) H → va_D A (W_All cy aI aT adP adS adB adO adR adA aP aS aB aO aR aA aH ah imT mdP ndP mdS mdB mdO mdR mdA ndA imP inP imS imB imO imR imA inA imH ihs) → va_S A s.heap H locs → lv_has ls 7 [(0, .ref (aI 0)), (1, .int x1), (2, .int x2), (3, .int x3), (4, .int x4), (5, .int x5)] → W p l e rm_X8_bestRule s m args below meth c H locs 2 12 (vx_MQ below (QXI D cy k' r' (W_All cy aI aT adP adS adB adO adR adA aP aS aB aO aR aA aH ah imT mdP' ndP' mdS' mdB' mdO' mdR' mdA' ndA' imP inP imS imB imO imR imA inA imH ihs) A) (XX D cy k' (W_All cy aI aT adP adS adB adO adR adA aP aS aB aO aR aA aH ah imT mdP' ndP' mdS' mdB' mdO' mdR' mdA' ndA' imP inP imS imB imO imR imA inA imH ihs) A) args s 2 12 A) (F0 m 38 ls [])) → ∀  (H : Heap) (locs : List Loc) (ls : Array Slot), f_X8_bestRule_b68 k38 x1 x2 x3 x4 x5 imT mdP ndP mdS mdB mdO mdR mdA ndA imP inP imS imB imO imR imA inA imH ihs = some (k', r', mdP', ndP', mdS', mdB', mdO', mdR', mdA', ndA') → va_P D vwCl (W_All cy aI aT adP adS adB adO adR adA aP aS aB aO aR aA aH ah imT mdP ndP mdS mdB mdO mdR mdA ndA imP inP imS imB imO imR imA inA imH ihs) H → va_D A (W_All cy aI aT adP adS adB adO adR adA aP aS aB aO aR aA aH ah imT mdP ndP mdS mdB mdO mdR mdA ndA imP inP imS imB imO imR imA inA imH ihs) → va_S A s.heap H locs → lv_has ls 7 [(0, .ref (aI 0)), (1, .int x1), (2, .int x2), (3, .int x3), (4, .int x4), (5, .int x5)] → W p l e rm_X8_bestRule s m args below meth c H locs 2 12 (vx_MQ below (QXI D cy k' r' (W_All cy aI aT adP adS adB adO adR adA aP aS aB aO aR aA aH ah imT mdP' ndP' mdS' mdB' mdO' mdR' mdA' ndA' imP inP imS imB imO imR imA inA imH ihs) A) (XX D cy k' (W_All cy aI aT adP adS adB adO adR adA aP aS aB aO aR aA aH ah imT mdP' ndP' mdS' mdB' mdO' mdR' mdA' ndA' imP inP imS imB imO imR imA inA imH ihs) A) args s 2 12 A) (F0 m 68 ls []) := by
    intro x1 x2 x3 x4 x5 mdP ndP mdS mdB mdO mdR mdA ndA k38 hk38 H locs ls hE hP hD hS hl
    replace hE : (lt' (x5 + (1 : Int32)) fun x5_1 => k38 x3 x4 x5_1 mdP ndP mdS mdB mdO mdR mdA ndA) = some (k', r', mdP', ndP', mdS', mdB', mdO', mdR', mdA', ndA') := hE
    obtain ⟨x5_1, e_x5_1, hE⟩ := lt_el hE
    refine lv_iinc (v := x5_1) (lv' := [(5, .int x5_1), (0, .ref (aI 0)), (1, .int x1), (2, .int x2), (3, .int x3), (4, .int x4)]) hx hb dX8_bestRule_68 hl (k := 5) rfl (by rw [e_x5_1]; rfl) (by decide) rfl (fun ls hl => ?_)
    refine lv_goto (tgt := 38) hx hb dX8_bestRule_71 (by decide) ?_
    refine W.widen (k := 2) (n := 12) (Nat.le_of_ble_eq_true rfl) (Nat.le_of_ble_eq_true rfl) ?_
    exact hk38 x3 x4 x5_1 mdP ndP mdS mdB mdO mdR mdA ndA _ _ _ hE hP hD hS (lv_sub hl [1, 2, 3, 4, 5, 0] rfl)
  have h38 : ∀ (x1 : Int32) (x2 : Int32), ∀ (n : Nat), ∀ (x3 : Int32) (x4 : Int32) (x5 : Int32) (mdP : Mem) (ndP : MemL) (mdS : Mem) (mdB : Mem) (mdO : Mem) (mdR : Mem) (mdA : Mem) (ndA : MemL) (H : Heap) (locs : List Loc) (ls : Array Slot), f_X8_bestRule_L38 x1 x2 imT imP inP imS imB imO imR imA inA imH ihs n x3 x4 x5 mdP ndP mdS mdB mdO mdR mdA ndA = some (k', r', mdP', ndP', mdS', mdB', mdO', mdR', mdA', ndA') → va_P D vwCl (W_All cy aI aT adP adS adB adO adR adA aP aS aB aO aR aA aH ah imT mdP ndP mdS mdB mdO mdR mdA ndA imP inP imS imB imO imR imA inA imH ihs) H → va_D A (W_All cy aI aT adP adS adB adO adR adA aP aS aB aO aR aA aH ah imT mdP ndP mdS mdB mdO mdR mdA ndA imP inP imS imB imO imR imA inA imH ihs) → va_S A s.heap H locs → lv_has ls 7 [(0, .ref (aI 0)), (1, .int x1), (2, .int x2), (3, .int x3), (4, .int x4), (5, .int x5)] → W p l e rm_X8_bestRule s m args below meth c H locs 2 12 (vx_MQ below (QXI D cy k' r' (W_All cy aI aT adP adS adB adO adR adA aP aS aB aO aR aA aH ah imT mdP' ndP' mdS' mdB' mdO' mdR' mdA' ndA' imP inP imS imB imO imR imA inA imH ihs) A) (XX D cy k' (W_All cy aI aT adP adS adB adO adR adA aP aS aB aO aR aA aH ah imT mdP' ndP' mdS' mdB' mdO' mdR' mdA' ndA' imP inP imS imB imO imR imA inA imH ihs) A) args s 2 12 A) (F0 m 38 ls []) := by
    intro x1 x2 n
    induction n with
    | zero => intro x3 x4 x5 mdP ndP mdS mdB mdO mdR mdA ndA H locs ls hE; exact absurd hE (fun h9 => nomatch h9)
    | succ n ih =>
      intro x3 x4 x5 mdP ndP mdS mdB mdO mdR mdA ndA H locs ls hE hP hD hS hl
      replace hE : ((if (3 : Int32) < x5 then some (0, x3, mdP, ndP, mdS, mdB, mdO, mdR, mdA, ndA) else bd9 (f_X8_meltedWith x1 x5 x2 imT mdP ndP mdS mdB mdO mdR mdA ndA imP inP imS imB imO imR imA inA imH ihs) fun r_3 mdP_4 ndP_5 mdS_6 mdB_7 mdO_8 mdR_9 mdA_10 ndA_11 => (if x4 ≤ r_3 then f_X8_bestRule_b68 (f_X8_bestRule_L38 x1 x2 imT imP inP imS imB imO imR imA inA imH ihs n) x1 x2 x3 x4 x5 imT mdP_4 ndP_5 mdS_6 mdB_7 mdO_8 mdR_9 mdA_10 ndA_11 imP inP imS imB imO imR imA inA imH ihs else f_X8_bestRule_b68 (f_X8_bestRule_L38 x1 x2 imT imP inP imS imB imO imR imA inA imH ihs n) x1 x2 x5 r_3 x5 imT mdP_4 ndP_5 mdS_6 mdB_7 mdO_8 mdR_9 mdA_10 ndA_11 imP inP imS imB imO imR imA inA imH ihs))) = some (k', r', mdP', ndP', mdS', mdB', mdO', mdR', mdA', ndA') := hE
      refine lv_iload hx hb dX8_bestRule_38 (lv_at hl 5 rfl) ?_
      refine lv_iconst (v := 3) hx hb dX8_bestRule_40 (by decide) ?_
      refine lv_icmp_gt (tgt := 74) hx hb dX8_bestRule_41 (by decide) (fun c_2 => ?_) (fun c_2 => ?_)
      · replace hE := it_t hE c_2
        refine lv_iload_n hx hb dX8_bestRule_74 rfl (lv_at hl 3 rfl) ?_
        have hE := Option.some.inj hE
        obtain ⟨q0, hE⟩ := Prod.mk.inj hE
        obtain ⟨q1, hE⟩ := Prod.mk.inj hE
        obtain ⟨q2, hE⟩ := Prod.mk.inj hE
        obtain ⟨q3, hE⟩ := Prod.mk.inj hE
        obtain ⟨q4, hE⟩ := Prod.mk.inj hE
        obtain ⟨q5, hE⟩ := Prod.mk.inj hE
        obtain ⟨q6, hE⟩ := Prod.mk.inj hE
        obtain ⟨q7, hE⟩ := Prod.mk.inj hE
        obtain ⟨q8, q9⟩ := Prod.mk.inj hE
        exact exi hx hb hr hlocks hK hP hD hS q0 q1 (by rw [q2, q3, q4, q5, q6, q7, q8, q9]) (Nat.le_of_ble_eq_true rfl) (Nat.le_of_ble_eq_true rfl) dX8_bestRule_75
      · replace hE := it_f hE c_2
        refine lv_aload_n hx hb dX8_bestRule_44 rfl (lv_at hl 0 rfl) ?_
        refine lv_iload_n hx hb dX8_bestRule_45 rfl (lv_at hl 1 rfl) ?_
        refine lv_iload hx hb dX8_bestRule_46 (lv_at hl 5 rfl) ?_
        refine lv_iload_n hx hb dX8_bestRule_48 rfl (lv_at hl 2 rfl) ?_
        obtain ⟨r_3, mdP_4, ndP_5, mdS_6, mdB_7, mdO_8, mdR_9, mdA_10, ndA_11, hc_12, hE⟩ := bd9_el hE
        refine ki (X := []) (Y := []) (ws1 := (W_All cy aI aT adP adS adB adO adR adA aP aS aB aO aR aA aH ah imT mdP_4 ndP_5 mdS_6 mdB_7 mdO_8 mdR_9 mdA_10 ndA_11 imP inP imS imB imO imR imA inA imH ihs)) (rV (X := []) (Y := []) (As := [.int x1, .int x5, .int x2]) (rest := []) hC (c_X8_meltedWith l D cy aI aT adP adS adB adO adR adA aP aS aB aO aR aA aH ah x1 x5 x2 imT mdP ndP mdS mdB mdO mdR mdA ndA imP inP imS imB imO imR imA inA imH ihs r_3 mdP_4 ndP_5 mdS_6 mdB_7 mdO_8 mdR_9 mdA_10 ndA_11 hc_12) (cwV 3 hts gX8_bestRule_X8_meltedWith rfl rfl rfl (by decide +kernel) ⟨Nat.le_of_ble_eq_true rfl, Nat.le_of_ble_eq_true rfl⟩) hK hN hP hD hS hA rfl 0 8 rfl rfl rfl hl.1 rfl (lv_room (Nat.le_of_ble_eq_true rfl)) dX8_bestRule_49 ⟨Nat.le_of_ble_eq_true rfl, Nat.le_of_ble_eq_true rfl⟩) hP hD hS hA rfl rfl rfl (fun H locs hP hD hS => ?_)
        refine lv_istore (lv' := [(6, .int r_3), (0, .ref (aI 0)), (1, .int x1), (2, .int x2), (3, .int x3), (4, .int x4), (5, .int x5)]) hx hb dX8_bestRule_52 hl (by decide) rfl (fun ls hl => ?_)
        refine lv_iload hx hb dX8_bestRule_54 (lv_at hl 0 rfl) ?_
        refine lv_iload hx hb dX8_bestRule_56 (lv_at hl 5 rfl) ?_
        refine lv_icmp_ge (tgt := 68) hx hb dX8_bestRule_58 (by decide) (fun c_13 => ?_) (fun c_13 => ?_)
        · replace hE := it_t hE c_13
          refine W.widen (k := 2) (n := 12) (Nat.le_of_ble_eq_true rfl) (Nat.le_of_ble_eq_true rfl) ?_
          exact h68 x1 x2 x3 x4 x5 mdP_4 ndP_5 mdS_6 mdB_7 mdO_8 mdR_9 mdA_10 ndA_11 (f_X8_bestRule_L38 x1 x2 imT imP inP imS imB imO imR imA inA imH ihs n) ih _ _ _ hE hP hD hS (lv_sub hl [1, 2, 3, 4, 5, 6] rfl)
        · replace hE := it_f hE c_13
          refine lv_iload hx hb dX8_bestRule_61 (lv_at hl 6 rfl) ?_
          refine lv_istore_n (lv' := [(3, .int x5), (6, .int r_3), (0, .ref (aI 0)), (1, .int x1), (2, .int x2), (4, .int x4), (5, .int x5)]) hx hb dX8_bestRule_63 rfl hl (by decide) rfl (fun ls hl => ?_)
          refine lv_iload hx hb dX8_bestRule_64 (lv_at hl 1 rfl) ?_
          refine lv_istore (lv' := [(4, .int r_3), (3, .int x5), (6, .int r_3), (0, .ref (aI 0)), (1, .int x1), (2, .int x2), (5, .int x5)]) hx hb dX8_bestRule_66 hl (by decide) rfl (fun ls hl => ?_)
          refine W.widen (k := 2) (n := 12) (Nat.le_of_ble_eq_true rfl) (Nat.le_of_ble_eq_true rfl) ?_
          exact h68 x1 x2 x5 r_3 x5 mdP_4 ndP_5 mdS_6 mdB_7 mdO_8 mdR_9 mdA_10 ndA_11 (f_X8_bestRule_L38 x1 x2 imT imP inP imS imB imO imR imA inA imH ihs n) ih _ _ _ hE hP hD hS (lv_sub hl [3, 4, 5, 1, 0, 6] rfl)
  unfold f_X8_bestRule at hE
  refine lv_aload_n hx hb dX8_bestRule_0 rfl (lv_at hl 0 rfl) ?_
  refine va_get (D := D) (ci := 8) (v := .ref (aP 0)) (C := RX8) (T := TX8) (N := 4) hx hb hts iX8 hown hK hP 0 rfl rfl 0 (by decide) f10 (fun _ h9 => h9) rfl dX8_bestRule_1 ?_
  refine va_get (D := D) (ci := 4) (v := .ref (aS 0)) (C := RX4) (T := TX4) (N := 13) hx hb hts iX4 hown hK hP 40 rfl rfl 2 (by decide) f43 (fun _ h9 => h9) rfl dX8_bestRule_4 ?_
  refine lv_iload_n hx hb dX8_bestRule_7 rfl (lv_at hl 1 rfl) ?_
  obtain ⟨r_14, hc_15, hE⟩ := bd1_el hE
  refine ki (X := ((W_I aI aP adP aH aT) ++ ((W_T cy aT imT) ++ ((W_P cy adP adS adB adO adR adA imdP indP) ++ ((W_S cy adS imdS) ++ ((W_B cy adB imdB) ++ ((W_O cy adO imdO) ++ ((W_R cy adR imdR) ++ ((W_A cy adA imdA indA) ++ (W_P cy aP aS aB aO aR aA imP inP)))))))))) (Y := ((W_B cy aB imB) ++ ((W_O cy aO imO) ++ ((W_R cy aR imR) ++ ((W_A cy aA imA inA) ++ ((W_H cy aH ah imH) ++ (W_HS cy ah ihs))))))) (ws1 := (W_All cy aI aT adP adS adB adO adR adA aP aS aB aO aR aA aH ah imT imdP indP imdS imdB imdO imdR imdA indA imP inP imS imB imO imR imA inA imH ihs)) (rV (X := ((W_I aI aP adP aH aT) ++ ((W_T cy aT imT) ++ ((W_P cy adP adS adB adO adR adA imdP indP) ++ ((W_S cy adS imdS) ++ ((W_B cy adB imdB) ++ ((W_O cy adO imdO) ++ ((W_R cy adR imdR) ++ ((W_A cy adA imdA indA) ++ (W_P cy aP aS aB aO aR aA imP inP)))))))))) (Y := ((W_B cy aB imB) ++ ((W_O cy aO imO) ++ ((W_R cy aR imR) ++ ((W_A cy aA imA inA) ++ ((W_H cy aH ah imH) ++ (W_HS cy ah ihs))))))) (As := [.int x1]) (rest := []) hC (c_X6_hasSilo l D cy aS x1 imS r_14 hc_15) (cwV 1 hts gX8_bestRule_X6_hasSilo rfl rfl rfl (by decide +kernel) ⟨Nat.le_of_ble_eq_true rfl, Nat.le_of_ble_eq_true rfl⟩) hK hN hP hD hS hA rfl 0 6 rfl rfl rfl hl.1 rfl (lv_room (Nat.le_of_ble_eq_true rfl)) dX8_bestRule_8 ⟨Nat.le_of_ble_eq_true rfl, Nat.le_of_ble_eq_true rfl⟩) hP hD hS hA rfl rfl rfl (fun H locs hP hD hS => ?_)
  obtain ⟨k_17, hc_16, hE⟩ := bd1_el hE
  refine kxv (X := []) (Y := (W_All cy aI aT adP adS adB adO adR adA aP aS aB aO aR aA aH ah imT imdP indP imdS imdB imdO imdR imdA indA imP inP imS imB imO imR imA inA imH ihs)) (ws1 := (W_All cy aI aT adP adS adB adO adR adA aP aS aB aO aR aA aH ah imT imdP indP imdS imdB imdO imdR imdA indA imP inP imS imB imO imR imA inA imH ihs)) (xS (X := []) (Y := (W_All cy aI aT adP adS adB adO adR adA aP aS aB aO aR aA aH ah imT imdP indP imdS imdB imdO imdR imdA indA imP inP imS imB imO imR imA inA imH ihs)) (As := [.int r_14]) (rest := []) hC (c_X8_needItem l hst D cy r_14 k_17 hc_16) (cwS 1 hts gX8_bestRule_X8_needItem rfl rfl rfl (by decide +kernel) ⟨Nat.le_of_ble_eq_true rfl, Nat.le_of_ble_eq_true rfl⟩) hK hN hP hD hS hA rfl rfl hl.1 rfl (lv_room (Nat.le_of_ble_eq_true rfl)) dX8_bestRule_11 ⟨Nat.le_of_ble_eq_true rfl, Nat.le_of_ble_eq_true rfl⟩) hP hD hS hA rfl rfl rfl (fun hk0 H locs ce q9 hP hD hS hce hcv hcl => ?_) (fun hk0 H locs hP hD hS => ?_)
  · replace hE := it_f hE hk0
    have hE := Option.some.inj hE
    obtain ⟨q0, hE⟩ := Prod.mk.inj hE
    obtain ⟨q1, hE⟩ := Prod.mk.inj hE
    obtain ⟨q2, hE⟩ := Prod.mk.inj hE
    obtain ⟨q3, hE⟩ := Prod.mk.inj hE
    obtain ⟨q4, hE⟩ := Prod.mk.inj hE
    obtain ⟨q5, hE⟩ := Prod.mk.inj hE
    obtain ⟨q6, hE⟩ := Prod.mk.inj hE
    obtain ⟨q7, hE⟩ := Prod.mk.inj hE
    obtain ⟨q8, q9⟩ := Prod.mk.inj hE
    exact exx htab hlocks hK hP hD hS hce hcv hcl hk0 q0 (by rw [q2, q3, q4, q5, q6, q7, q8, q9]) (Nat.le_of_ble_eq_true rfl) (Nat.le_of_ble_eq_true rfl)
  · replace hE := it_t hE hk0
    refine lv_iload_n hx hb dX8_bestRule_14 rfl (lv_at hl 2 rfl) ?_
    refine lv_iconst (v := 1) hx hb dX8_bestRule_15 (by decide) ?_
    refine lv_bipush (v := 24) hx hb dX8_bestRule_16 (by decide) ?_
    obtain ⟨r_18, hc_19, hE⟩ := bd1_el hE
    refine ki (X := []) (Y := (W_All cy aI aT adP adS adB adO adR adA aP aS aB aO aR aA aH ah imT imdP indP imdS imdB imdO imdR imdA indA imP inP imS imB imO imR imA inA imH ihs)) (ws1 := (W_All cy aI aT adP adS adB adO adR adA aP aS aB aO aR aA aH ah imT imdP indP imdS imdB imdO imdR imdA indA imP inP imS imB imO imR imA inA imH ihs)) (rS (X := []) (Y := (W_All cy aI aT adP adS adB adO adR adA aP aS aB aO aR aA aH ah imT imdP indP imdS imdB imdO imdR imdA indA imP inP imS imB imO imR imA inA imH ihs)) (As := [.int x2, .int (1 : Int32), .int (24 : Int32)]) (rest := []) hC (c_X8_isWithin l D cy x2 (1 : Int32) (24 : Int32) r_18 hc_19) (cwS 3 hts gX8_bestRule_X8_isWithin rfl rfl rfl (by decide +kernel) ⟨Nat.le_of_ble_eq_true rfl, Nat.le_of_ble_eq_true rfl⟩) hK hN hP hD hS hA rfl rfl hl.1 rfl (lv_room (Nat.le_of_ble_eq_true rfl)) dX8_bestRule_18 ⟨Nat.le_of_ble_eq_true rfl, Nat.le_of_ble_eq_true rfl⟩) hP hD hS hA rfl rfl rfl (fun H locs hP hD hS => ?_)
    obtain ⟨k_21, hc_20, hE⟩ := bd1_el hE
    refine kxv (X := []) (Y := (W_All cy aI aT adP adS adB adO adR adA aP aS aB aO aR aA aH ah imT imdP indP imdS imdB imdO imdR imdA indA imP inP imS imB imO imR imA inA imH ihs)) (ws1 := (W_All cy aI aT adP adS adB adO adR adA aP aS aB aO aR aA aH ah imT imdP indP imdS imdB imdO imdR imdA indA imP inP imS imB imO imR imA inA imH ihs)) (xS (X := []) (Y := (W_All cy aI aT adP adS adB adO adR adA aP aS aB aO aR aA aH ah imT imdP indP imdS imdB imdO imdR imdA indA imP inP imS imB imO imR imA inA imH ihs)) (As := [.int r_18]) (rest := []) hC (c_X8_needArgument l hst D cy r_18 k_21 hc_20) (cwS 1 hts gX8_bestRule_X8_needArgument rfl rfl rfl (by decide +kernel) ⟨Nat.le_of_ble_eq_true rfl, Nat.le_of_ble_eq_true rfl⟩) hK hN hP hD hS hA rfl rfl hl.1 rfl (lv_room (Nat.le_of_ble_eq_true rfl)) dX8_bestRule_21 ⟨Nat.le_of_ble_eq_true rfl, Nat.le_of_ble_eq_true rfl⟩) hP hD hS hA rfl rfl rfl (fun hk0 H locs ce q9 hP hD hS hce hcv hcl => ?_) (fun hk0 H locs hP hD hS => ?_)
    · replace hE := it_f hE hk0
      have hE := Option.some.inj hE
      obtain ⟨q0, hE⟩ := Prod.mk.inj hE
      obtain ⟨q1, hE⟩ := Prod.mk.inj hE
      obtain ⟨q2, hE⟩ := Prod.mk.inj hE
      obtain ⟨q3, hE⟩ := Prod.mk.inj hE
      obtain ⟨q4, hE⟩ := Prod.mk.inj hE
      obtain ⟨q5, hE⟩ := Prod.mk.inj hE
      obtain ⟨q6, hE⟩ := Prod.mk.inj hE
      obtain ⟨q7, hE⟩ := Prod.mk.inj hE
      obtain ⟨q8, q9⟩ := Prod.mk.inj hE
      exact exx htab hlocks hK hP hD hS hce hcv hcl hk0 q0 (by rw [q2, q3, q4, q5, q6, q7, q8, q9]) (Nat.le_of_ble_eq_true rfl) (Nat.le_of_ble_eq_true rfl)
    · replace hE := it_t hE hk0
      refine lv_iconst (v := 0) hx hb dX8_bestRule_24 (by decide) ?_
      refine lv_istore_n (lv' := [(3, .int (0 : Int32)), (0, .ref (aI 0)), (1, .int x1), (2, .int x2)]) hx hb dX8_bestRule_25 rfl hl (by decide) rfl (fun ls hl => ?_)
      refine lv_aload_n hx hb dX8_bestRule_26 rfl (lv_at hl 1 rfl) ?_
      refine lv_iload_n hx hb dX8_bestRule_27 rfl (lv_at hl 2 rfl) ?_
      refine lv_iconst (v := 0) hx hb dX8_bestRule_28 (by decide) ?_
      refine lv_iload_n hx hb dX8_bestRule_29 rfl (lv_at hl 3 rfl) ?_
      obtain ⟨r_22, mdP_23, ndP_24, mdS_25, mdB_26, mdO_27, mdR_28, mdA_29, ndA_30, hc_31, hE⟩ := bd9_el hE
      refine ki (X := []) (Y := []) (ws1 := (W_All cy aI aT adP adS adB adO adR adA aP aS aB aO aR aA aH ah imT mdP_23 ndP_24 mdS_25 mdB_26 mdO_27 mdR_28 mdA_29 ndA_30 imP inP imS imB imO imR imA inA imH ihs)) (rV (X := []) (Y := []) (As := [.int x1, .int (0 : Int32), .int x2]) (rest := []) hC (c_X8_meltedWith l D cy aI aT adP adS adB adO adR adA aP aS aB aO aR aA aH ah x1 (0 : Int32) x2 imT imdP indP imdS imdB imdO imdR imdA indA imP inP imS imB imO imR imA inA imH ihs r_22 mdP_23 ndP_24 mdS_25 mdB_26 mdO_27 mdR_28 mdA_29 ndA_30 hc_31) (cwV 3 hts gX8_bestRule_X8_meltedWith rfl rfl rfl (by decide +kernel) ⟨Nat.le_of_ble_eq_true rfl, Nat.le_of_ble_eq_true rfl⟩) hK hN hP hD hS hA rfl 0 8 rfl rfl rfl hl.1 rfl (lv_room (Nat.le_of_ble_eq_true rfl)) dX8_bestRule_30 ⟨Nat.le_of_ble_eq_true rfl, Nat.le_of_ble_eq_true rfl⟩) hP hD hS hA rfl rfl rfl (fun H locs hP hD hS => ?_)
      refine lv_istore (lv' := [(4, .int r_22), (3, .int (0 : Int32)), (0, .ref (aI 0)), (1, .int x1), (2, .int x2)]) hx hb dX8_bestRule_33 hl (by decide) rfl (fun ls hl => ?_)
      refine lv_iconst (v := 1) hx hb dX8_bestRule_35 (by decide) ?_
      refine lv_istore (lv' := [(5, .int (1 : Int32)), (4, .int r_22), (3, .int (0 : Int32)), (0, .ref (aI 0)), (1, .int x1), (2, .int x2)]) hx hb dX8_bestRule_36 hl (by decide) rfl (fun ls hl => ?_)
      refine W.widen (k := 2) (n := 12) (Nat.le_of_ble_eq_true rfl) (Nat.le_of_ble_eq_true rfl) ?_
      exact h38 x1 x2 fuel (0 : Int32) r_22 (1 : Int32) mdP_23 ndP_24 mdS_25 mdB_26 mdO_27 mdR_28 mdA_29 ndA_30 _ _ _ hE hP hD hS (lv_sub hl [3, 4, 5, 2, 1, 0] rfl)
abbrev rm_X8_quote : Room := { frames := 8, cells := 3, slots := 18, locals := 122 }
set_option maxHeartbeats 40000000 in
set_option maxRecDepth 100000 in
theorem c_X8_quote (l : Launch) (hst : l.stackTraces = false) (D : va_G) (cy : Nat → Nat) (aI aT adP adS adB adO adR adA aP aS aB aO aR aA aH : Nat → Nat) (ah : Nat → Nat → Nat → Nat) (x1 : Int32) (x2 : Int32) (x3 : Int32) (imT : Mem) (imdP : Mem) (indP : MemL) (imdS : Mem) (imdB : Mem) (imdO : Mem) (imdR : Mem) (imdA : Mem) (indA : MemL) (imP : Mem) (inP : MemL) (imS : Mem) (imB : Mem) (imO : Mem) (imR : Mem) (imA : Mem) (inA : MemL) (imH : Mem) (ihs : (Nat → PSt)) (k' : Nat) (r' : Int32) (hE : f_X8_quote x1 x2 x3 imT imdP indP imdS imdB imdO imdR imdA indA imP inP imS imB imO imR imA inA imH ihs = some (k', r')) : CXI l yX8_quote wsX8_quote rm_X8_quote D cy [.ref (aI 0), .int x1, .int x2, .int x3] (W_All cy aI aT adP adS adB adO adR adA aP aS aB aO aR aA aH ah imT imdP indP imdS imdB imdO imdR imdA indA imP inP imS imB imO imR imA inA imH ihs) 3 18 k' r' (W_All cy aI aT adP adS adB adO adR adA aP aS aB aO aR aA aH ah imT imdP indP imdS imdB imdO imdR imdA indA imP inP imS imB imO imR imA inA imH ihs) := by
  refine CX_of (cc := cX8_quote) (maxL := 4) (ret := (some .int)) (by decide) rfl (Nat.le_of_ble_eq_true rfl) (fun p e s m args below meth c A ls hx hb hr hml hlocks hnm hown hts hA htab hK hN hP hD hS hl => ?_)
  have hown : s.vm.findClass RX8 = some m.cls := hown
  have hl : lv_has ls 4 [(0, .ref (aI 0)), (1, .int x1), (2, .int x2), (3, .int x3)] := hl
  have hC : CallFix p m c cX8_quote 4 s args wsX8_quote RX8 := ⟨hx, hb, hml, hown, hts⟩
  have f10 : (Cond.fieldLink RX8 10 "IcePlant" "now" "LIcePlant$Plant;").before args s = true := hts _ (by decide +kernel)
  have f115 : (Cond.fieldLink RX8 115 "IcePlant$Plant" "boats" "LIcePlant$Boats;").before args s = true := hts _ (by decide +kernel)
  have iX4 : ∀ w ∈ wsX40, w ∈ wsX8_quote := by decide +kernel
  have iX8 : ∀ w ∈ wsX80, w ∈ wsX8_quote := by decide +kernel
  unfold f_X8_quote at hE
  refine lv_aload_n hx hb dX8_quote_0 rfl (lv_at hl 0 rfl) ?_
  refine va_get (D := D) (ci := 8) (v := .ref (aP 0)) (C := RX8) (T := TX8) (N := 4) hx hb hts iX8 hown hK hP 0 rfl rfl 0 (by decide) f10 (fun _ h9 => h9) rfl dX8_quote_1 ?_
  refine va_get (D := D) (ci := 4) (v := .ref (aB 0)) (C := RX4) (T := TX4) (N := 13) hx hb hts iX4 hown hK hP 40 rfl rfl 3 (by decide) f115 (fun _ h9 => h9) rfl dX8_quote_4 ?_
  refine lv_iload_n hx hb dX8_quote_7 rfl (lv_at hl 1 rfl) ?_
  obtain ⟨r_1, hc_2, hE⟩ := bd1_el hE
  refine ki (X := ((W_I aI aP adP aH aT) ++ ((W_T cy aT imT) ++ ((W_P cy adP adS adB adO adR adA imdP indP) ++ ((W_S cy adS imdS) ++ ((W_B cy adB imdB) ++ ((W_O cy adO imdO) ++ ((W_R cy adR imdR) ++ ((W_A cy adA imdA indA) ++ ((W_P cy aP aS aB aO aR aA imP inP) ++ (W_S cy aS imS))))))))))) (Y := ((W_O cy aO imO) ++ ((W_R cy aR imR) ++ ((W_A cy aA imA inA) ++ ((W_H cy aH ah imH) ++ (W_HS cy ah ihs)))))) (ws1 := (W_All cy aI aT adP adS adB adO adR adA aP aS aB aO aR aA aH ah imT imdP indP imdS imdB imdO imdR imdA indA imP inP imS imB imO imR imA inA imH ihs)) (rV (X := ((W_I aI aP adP aH aT) ++ ((W_T cy aT imT) ++ ((W_P cy adP adS adB adO adR adA imdP indP) ++ ((W_S cy adS imdS) ++ ((W_B cy adB imdB) ++ ((W_O cy adO imdO) ++ ((W_R cy adR imdR) ++ ((W_A cy adA imdA indA) ++ ((W_P cy aP aS aB aO aR aA imP inP) ++ (W_S cy aS imS))))))))))) (Y := ((W_O cy aO imO) ++ ((W_R cy aR imR) ++ ((W_A cy aA imA inA) ++ ((W_H cy aH ah imH) ++ (W_HS cy ah ihs)))))) (As := [.int x1]) (rest := []) hC (c_X1_has l D cy aB x1 imB r_1 hc_2) (cwV 1 hts gX8_quote_X1_has rfl rfl rfl (by decide +kernel) ⟨Nat.le_of_ble_eq_true rfl, Nat.le_of_ble_eq_true rfl⟩) hK hN hP hD hS hA rfl 0 1 rfl rfl rfl hl.1 rfl (lv_room (Nat.le_of_ble_eq_true rfl)) dX8_quote_8 ⟨Nat.le_of_ble_eq_true rfl, Nat.le_of_ble_eq_true rfl⟩) hP hD hS hA rfl rfl rfl (fun H locs hP hD hS => ?_)
  obtain ⟨k_4, hc_3, hE⟩ := bd1_el hE
  refine kxv (X := []) (Y := (W_All cy aI aT adP adS adB adO adR adA aP aS aB aO aR aA aH ah imT imdP indP imdS imdB imdO imdR imdA indA imP inP imS imB imO imR imA inA imH ihs)) (ws1 := (W_All cy aI aT adP adS adB adO adR adA aP aS aB aO aR aA aH ah imT imdP indP imdS imdB imdO imdR imdA indA imP inP imS imB imO imR imA inA imH ihs)) (xS (X := []) (Y := (W_All cy aI aT adP adS adB adO adR adA aP aS aB aO aR aA aH ah imT imdP indP imdS imdB imdO imdR imdA indA imP inP imS imB imO imR imA inA imH ihs)) (As := [.int r_1]) (rest := []) hC (c_X8_needItem l hst D cy r_1 k_4 hc_3) (cwS 1 hts gX8_quote_X8_needItem rfl rfl rfl (by decide +kernel) ⟨Nat.le_of_ble_eq_true rfl, Nat.le_of_ble_eq_true rfl⟩) hK hN hP hD hS hA rfl rfl hl.1 rfl (lv_room (Nat.le_of_ble_eq_true rfl)) dX8_quote_11 ⟨Nat.le_of_ble_eq_true rfl, Nat.le_of_ble_eq_true rfl⟩) hP hD hS hA rfl rfl rfl (fun hk0 H locs ce q9 hP hD hS hce hcv hcl => ?_) (fun hk0 H locs hP hD hS => ?_)
  · replace hE := it_f hE hk0
    have hE := Option.some.inj hE
    obtain ⟨q0, q1⟩ := Prod.mk.inj hE
    exact exx htab hlocks hK hP hD hS hce hcv hcl hk0 q0 rfl (Nat.le_of_ble_eq_true rfl) (Nat.le_of_ble_eq_true rfl)
  · replace hE := it_t hE hk0
    refine lv_iload_n hx hb dX8_quote_14 rfl (lv_at hl 2 rfl) ?_
    refine lv_iconst (v := 0) hx hb dX8_quote_15 (by decide) ?_
    refine lv_sipush (v := 9999) hx hb dX8_quote_16 (by decide) ?_
    obtain ⟨r_5, hc_6, hE⟩ := bd1_el hE
    refine ki (X := []) (Y := (W_All cy aI aT adP adS adB adO adR adA aP aS aB aO aR aA aH ah imT imdP indP imdS imdB imdO imdR imdA indA imP inP imS imB imO imR imA inA imH ihs)) (ws1 := (W_All cy aI aT adP adS adB adO adR adA aP aS aB aO aR aA aH ah imT imdP indP imdS imdB imdO imdR imdA indA imP inP imS imB imO imR imA inA imH ihs)) (rS (X := []) (Y := (W_All cy aI aT adP adS adB adO adR adA aP aS aB aO aR aA aH ah imT imdP indP imdS imdB imdO imdR imdA indA imP inP imS imB imO imR imA inA imH ihs)) (As := [.int x2, .int (0 : Int32), .int (9999 : Int32)]) (rest := []) hC (c_X8_isWithin l D cy x2 (0 : Int32) (9999 : Int32) r_5 hc_6) (cwS 3 hts gX8_quote_X8_isWithin rfl rfl rfl (by decide +kernel) ⟨Nat.le_of_ble_eq_true rfl, Nat.le_of_ble_eq_true rfl⟩) hK hN hP hD hS hA rfl rfl hl.1 rfl (lv_room (Nat.le_of_ble_eq_true rfl)) dX8_quote_19 ⟨Nat.le_of_ble_eq_true rfl, Nat.le_of_ble_eq_true rfl⟩) hP hD hS hA rfl rfl rfl (fun H locs hP hD hS => ?_)
    obtain ⟨k_8, hc_7, hE⟩ := bd1_el hE
    refine kxv (X := []) (Y := (W_All cy aI aT adP adS adB adO adR adA aP aS aB aO aR aA aH ah imT imdP indP imdS imdB imdO imdR imdA indA imP inP imS imB imO imR imA inA imH ihs)) (ws1 := (W_All cy aI aT adP adS adB adO adR adA aP aS aB aO aR aA aH ah imT imdP indP imdS imdB imdO imdR imdA indA imP inP imS imB imO imR imA inA imH ihs)) (xS (X := []) (Y := (W_All cy aI aT adP adS adB adO adR adA aP aS aB aO aR aA aH ah imT imdP indP imdS imdB imdO imdR imdA indA imP inP imS imB imO imR imA inA imH ihs)) (As := [.int r_5]) (rest := []) hC (c_X8_needArgument l hst D cy r_5 k_8 hc_7) (cwS 1 hts gX8_quote_X8_needArgument rfl rfl rfl (by decide +kernel) ⟨Nat.le_of_ble_eq_true rfl, Nat.le_of_ble_eq_true rfl⟩) hK hN hP hD hS hA rfl rfl hl.1 rfl (lv_room (Nat.le_of_ble_eq_true rfl)) dX8_quote_22 ⟨Nat.le_of_ble_eq_true rfl, Nat.le_of_ble_eq_true rfl⟩) hP hD hS hA rfl rfl rfl (fun hk0 H locs ce q9 hP hD hS hce hcv hcl => ?_) (fun hk0 H locs hP hD hS => ?_)
    · replace hE := it_f hE hk0
      have hE := Option.some.inj hE
      obtain ⟨q0, q1⟩ := Prod.mk.inj hE
      exact exx htab hlocks hK hP hD hS hce hcv hcl hk0 q0 rfl (Nat.le_of_ble_eq_true rfl) (Nat.le_of_ble_eq_true rfl)
    · replace hE := it_t hE hk0
      refine lv_iload_n hx hb dX8_quote_25 rfl (lv_at hl 3 rfl) ?_
      refine lv_iconst (v := 0) hx hb dX8_quote_26 (by decide) ?_
      refine lv_iconst (v := 1) hx hb dX8_quote_27 (by decide) ?_
      obtain ⟨r_9, hc_10, hE⟩ := bd1_el hE
      refine ki (X := []) (Y := (W_All cy aI aT adP adS adB adO adR adA aP aS aB aO aR aA aH ah imT imdP indP imdS imdB imdO imdR imdA indA imP inP imS imB imO imR imA inA imH ihs)) (ws1 := (W_All cy aI aT adP adS adB adO adR adA aP aS aB aO aR aA aH ah imT imdP indP imdS imdB imdO imdR imdA indA imP inP imS imB imO imR imA inA imH ihs)) (rS (X := []) (Y := (W_All cy aI aT adP adS adB adO adR adA aP aS aB aO aR aA aH ah imT imdP indP imdS imdB imdO imdR imdA indA imP inP imS imB imO imR imA inA imH ihs)) (As := [.int x3, .int (0 : Int32), .int (1 : Int32)]) (rest := []) hC (c_X8_isWithin l D cy x3 (0 : Int32) (1 : Int32) r_9 hc_10) (cwS 3 hts gX8_quote_X8_isWithin rfl rfl rfl (by decide +kernel) ⟨Nat.le_of_ble_eq_true rfl, Nat.le_of_ble_eq_true rfl⟩) hK hN hP hD hS hA rfl rfl hl.1 rfl (lv_room (Nat.le_of_ble_eq_true rfl)) dX8_quote_28 ⟨Nat.le_of_ble_eq_true rfl, Nat.le_of_ble_eq_true rfl⟩) hP hD hS hA rfl rfl rfl (fun H locs hP hD hS => ?_)
      obtain ⟨k_12, hc_11, hE⟩ := bd1_el hE
      refine kxv (X := []) (Y := (W_All cy aI aT adP adS adB adO adR adA aP aS aB aO aR aA aH ah imT imdP indP imdS imdB imdO imdR imdA indA imP inP imS imB imO imR imA inA imH ihs)) (ws1 := (W_All cy aI aT adP adS adB adO adR adA aP aS aB aO aR aA aH ah imT imdP indP imdS imdB imdO imdR imdA indA imP inP imS imB imO imR imA inA imH ihs)) (xS (X := []) (Y := (W_All cy aI aT adP adS adB adO adR adA aP aS aB aO aR aA aH ah imT imdP indP imdS imdB imdO imdR imdA indA imP inP imS imB imO imR imA inA imH ihs)) (As := [.int r_9]) (rest := []) hC (c_X8_needArgument l hst D cy r_9 k_12 hc_11) (cwS 1 hts gX8_quote_X8_needArgument rfl rfl rfl (by decide +kernel) ⟨Nat.le_of_ble_eq_true rfl, Nat.le_of_ble_eq_true rfl⟩) hK hN hP hD hS hA rfl rfl hl.1 rfl (lv_room (Nat.le_of_ble_eq_true rfl)) dX8_quote_31 ⟨Nat.le_of_ble_eq_true rfl, Nat.le_of_ble_eq_true rfl⟩) hP hD hS hA rfl rfl rfl (fun hk0 H locs ce q9 hP hD hS hce hcv hcl => ?_) (fun hk0 H locs hP hD hS => ?_)
      · replace hE := it_f hE hk0
        have hE := Option.some.inj hE
        obtain ⟨q0, q1⟩ := Prod.mk.inj hE
        exact exx htab hlocks hK hP hD hS hce hcv hcl hk0 q0 rfl (Nat.le_of_ble_eq_true rfl) (Nat.le_of_ble_eq_true rfl)
      · replace hE := it_t hE hk0
        refine lv_aload_n hx hb dX8_quote_34 rfl (lv_at hl 0 rfl) ?_
        refine va_get (D := D) (ci := 8) (v := .ref (aP 0)) (C := RX8) (T := TX8) (N := 4) hx hb hts iX8 hown hK hP 0 rfl rfl 0 (by decide) f10 (fun _ h9 => h9) rfl dX8_quote_35 ?_
        refine lv_iload_n hx hb dX8_quote_38 rfl (lv_at hl 1 rfl) ?_
        refine lv_iload_n hx hb dX8_quote_39 rfl (lv_at hl 2 rfl) ?_
        refine lv_iload_n hx hb dX8_quote_40 rfl (lv_at hl 3 rfl) ?_
        obtain ⟨r_13, hc_14, hE⟩ := bd1_el hE
        refine ki (X := ((W_I aI aP adP aH aT) ++ ((W_T cy aT imT) ++ ((W_P cy adP adS adB adO adR adA imdP indP) ++ ((W_S cy adS imdS) ++ ((W_B cy adB imdB) ++ ((W_O cy adO imdO) ++ ((W_R cy adR imdR) ++ (W_A cy adA imdA indA))))))))) (Y := ((W_H cy aH ah imH) ++ (W_HS cy ah ihs))) (ws1 := (W_All cy aI aT adP adS adB adO adR adA aP aS aB aO aR aA aH ah imT imdP indP imdS imdB imdO imdR imdA indA imP inP imS imB imO imR imA inA imH ihs)) (rV (X := ((W_I aI aP adP aH aT) ++ ((W_T cy aT imT) ++ ((W_P cy adP adS adB adO adR adA imdP indP) ++ ((W_S cy adS imdS) ++ ((W_B cy adB imdB) ++ ((W_O cy adO imdO) ++ ((W_R cy adR imdR) ++ (W_A cy adA imdA indA))))))))) (Y := ((W_H cy aH ah imH) ++ (W_HS cy ah ihs))) (As := [.int x1, .int x2, .int x3]) (rest := []) hC (c_X4_priceOf l D cy aP aS aB aO aR aA x1 x2 x3 imP inP imS imB imO imR imA inA r_13 hc_14) (cwV 3 hts gX8_quote_X4_priceOf rfl rfl rfl (by decide +kernel) ⟨Nat.le_of_ble_eq_true rfl, Nat.le_of_ble_eq_true rfl⟩) hK hN hP hD hS hA rfl 0 4 rfl rfl rfl hl.1 rfl (lv_room (Nat.le_of_ble_eq_true rfl)) dX8_quote_41 ⟨Nat.le_of_ble_eq_true rfl, Nat.le_of_ble_eq_true rfl⟩) hP hD hS hA rfl rfl rfl (fun H locs hP hD hS => ?_)
        have hE := Option.some.inj hE
        obtain ⟨q0, q1⟩ := Prod.mk.inj hE
        exact exi hx hb hr hlocks hK hP hD hS q0 q1 rfl (Nat.le_of_ble_eq_true rfl) (Nat.le_of_ble_eq_true rfl) dX8_quote_44
abbrev rm_X8_append : Room := { frames := 8, cells := 2, slots := 12, locals := 122 }
set_option maxHeartbeats 40000000 in
set_option maxRecDepth 100000 in
theorem c_X8_append (l : Launch) (hst : l.stackTraces = false) (D : va_G) (cy : Nat → Nat) (aI aT adP adS adB adO adR adA aP aS aB aO aR aA aH : Nat → Nat) (ah : Nat → Nat → Nat → Nat) (x1 : Int32) (imT : Mem) (imdP : Mem) (indP : MemL) (imdS : Mem) (imdB : Mem) (imdO : Mem) (imdR : Mem) (imdA : Mem) (indA : MemL) (imP : Mem) (inP : MemL) (imS : Mem) (imB : Mem) (imO : Mem) (imR : Mem) (imA : Mem) (inA : MemL) (imH : Mem) (ihs : (Nat → PSt)) (k' : Nat) (r' : Int32) (mT' : Mem) (hE : f_X8_append x1 imT imdP indP imdS imdB imdO imdR imdA indA imP inP imS imB imO imR imA inA imH ihs = some (k', r', mT')) : CXI l yX8_append wsX8_append rm_X8_append D cy [.ref (aI 0), .int x1] (W_All cy aI aT adP adS adB adO adR adA aP aS aB aO aR aA aH ah imT imdP indP imdS imdB imdO imdR imdA indA imP inP imS imB imO imR imA inA imH ihs) 2 12 k' r' (W_All cy aI aT adP adS adB adO adR adA aP aS aB aO aR aA aH ah mT' imdP indP imdS imdB imdO imdR imdA indA imP inP imS imB imO imR imA inA imH ihs) := by
  refine CX_of (cc := cX8_append) (maxL := 2) (ret := (some .int)) (by decide) rfl (Nat.le_of_ble_eq_true rfl) (fun p e s m args below meth c A ls hx hb hr hml hlocks hnm hown hts hA htab hK hN hP hD hS hl => ?_)
  have hown : s.vm.findClass RX8 = some m.cls := hown
  have hl : lv_has ls 2 [(0, .ref (aI 0)), (1, .int x1)] := hl
  have hC : CallFix p m c cX8_append 2 s args wsX8_append RX8 := ⟨hx, hb, hml, hown, hts⟩
  have f29 : (Cond.fieldLink RX8 29 "IcePlant" "text" "LIcePlant$Text;").before args s = true := hts _ (by decide +kernel)
  have f237 : (Cond.fieldLink RX8 237 "IcePlant$Text" "length" "I").before args s = true := hts _ (by decide +kernel)
  have iX7 : ∀ w ∈ wsX70, w ∈ wsX8_append := by decide +kernel
  have iX8 : ∀ w ∈ wsX80, w ∈ wsX8_append := by decide +kernel
  have h28 : ∀ (x1 : Int32) (t0 : Int32) (mT : Mem), ∀  (H : Heap) (locs : List Loc) (ls : Array Slot), f_X8_append_b28 x1 t0 mT imdP indP imdS imdB imdO imdR imdA indA imP inP imS imB imO imR imA inA imH ihs = some (k', r', mT') → va_P D vwCl (W_All cy aI aT adP adS adB adO adR adA aP aS aB aO aR aA aH ah mT imdP indP imdS imdB imdO imdR imdA indA imP inP imS imB imO imR imA inA imH ihs) H → va_D A (W_All cy aI aT adP adS adB adO adR adA aP aS aB aO aR aA aH ah mT imdP indP imdS imdB imdO imdR imdA indA imP inP imS imB imO imR imA inA imH ihs) → va_S A s.heap H locs → lv_has ls 2 [(0, .ref (aI 0)), (1, .int x1)] → W p l e rm_X8_append s m args below meth c H locs 2 12 (vx_MQ below (QXI D cy k' r' (W_All cy aI aT adP adS adB adO adR adA aP aS aB aO aR aA aH ah mT' imdP indP imdS imdB imdO imdR imdA indA imP inP imS imB imO imR imA inA imH ihs) A) (XX D cy k' (W_All cy aI aT adP adS adB adO adR adA aP aS aB aO aR aA aH ah mT' imdP indP imdS imdB imdO imdR imdA indA imP inP imS imB imO imR imA inA imH ihs) A) args s 2 12 A) (F0 m 28 ls [.int t0]) := by
    intro x1 t0 mT H locs ls hE hP hD hS hl
    replace hE : (bd1 (f_X8_needState t0) fun k_2 => (if k_2 = 0 then bd2 (f_X7_addSign ((x1.toUInt32 % 65536).toInt32) mT) fun r_3 mT_4 => some (0, r_3, mT_4) else some (k_2, (0 : Int32), mT))) = some (k', r', mT') := hE
    obtain ⟨k_2, hc_1, hE⟩ := bd1_el hE
    refine kxv (X := []) (Y := (W_All cy aI aT adP adS adB adO adR adA aP aS aB aO aR aA aH ah mT imdP indP imdS imdB imdO imdR imdA indA imP inP imS imB imO imR imA inA imH ihs)) (ws1 := (W_All cy aI aT adP adS adB adO adR adA aP aS aB aO aR aA aH ah mT imdP indP imdS imdB imdO imdR imdA indA imP inP imS imB imO imR imA inA imH ihs)) (xS (X := []) (Y := (W_All cy aI aT adP adS adB adO adR adA aP aS aB aO aR aA aH ah mT imdP indP imdS imdB imdO imdR imdA indA imP inP imS imB imO imR imA inA imH ihs)) (As := [.int t0]) (rest := []) hC (c_X8_needState l hst D cy t0 k_2 hc_1) (cwS 1 hts gX8_append_X8_needState rfl rfl rfl (by decide +kernel) ⟨Nat.le_of_ble_eq_true rfl, Nat.le_of_ble_eq_true rfl⟩) hK hN hP hD hS hA rfl rfl hl.1 rfl (lv_room (Nat.le_of_ble_eq_true rfl)) dX8_append_28 ⟨Nat.le_of_ble_eq_true rfl, Nat.le_of_ble_eq_true rfl⟩) hP hD hS hA rfl rfl rfl (fun hk0 H locs ce q9 hP hD hS hce hcv hcl => ?_) (fun hk0 H locs hP hD hS => ?_)
    · replace hE := it_f hE hk0
      have hE := Option.some.inj hE
      obtain ⟨q0, hE⟩ := Prod.mk.inj hE
      obtain ⟨q1, q2⟩ := Prod.mk.inj hE
      exact exx htab hlocks hK hP hD hS hce hcv hcl hk0 q0 (by rw [q2]) (Nat.le_of_ble_eq_true rfl) (Nat.le_of_ble_eq_true rfl)
    · replace hE := it_t hE hk0
      refine lv_aload_n hx hb dX8_append_31 rfl (lv_at hl 0 rfl) ?_
      refine va_get (D := D) (ci := 8) (v := .ref (aT 0)) (C := RX8) (T := TX8) (N := 4) hx hb hts iX8 hown hK hP 0 rfl rfl 3 (by decide) f29 (fun _ h9 => h9) rfl dX8_append_32 ?_
      refine lv_iload_n hx hb dX8_append_35 rfl (lv_at hl 1 rfl) ?_
      refine lv_i2c hx hb dX8_append_36 rfl ?_
      obtain ⟨r_3, mT_4, hc_5, hE⟩ := bd2_el hE
      refine ki (X := (W_I aI aP adP aH aT)) (Y := ((W_P cy adP adS adB adO adR adA imdP indP) ++ ((W_S cy adS imdS) ++ ((W_B cy adB imdB) ++ ((W_O cy adO imdO) ++ ((W_R cy adR imdR) ++ ((W_A cy adA imdA indA) ++ ((W_P cy aP aS aB aO aR aA imP inP) ++ ((W_S cy aS imS) ++ ((W_B cy aB imB) ++ ((W_O cy aO imO) ++ ((W_R cy aR imR) ++ ((W_A cy aA imA inA) ++ ((W_H cy aH ah imH) ++ (W_HS cy ah ihs))))))))))))))) (ws1 := (W_All cy aI aT adP adS adB adO adR adA aP aS aB aO aR aA aH ah mT_4 imdP indP imdS imdB imdO imdR imdA indA imP inP imS imB imO imR imA inA imH ihs)) (rV (X := (W_I aI aP adP aH aT)) (Y := ((W_P cy adP adS adB adO adR adA imdP indP) ++ ((W_S cy adS imdS) ++ ((W_B cy adB imdB) ++ ((W_O cy adO imdO) ++ ((W_R cy adR imdR) ++ ((W_A cy adA imdA indA) ++ ((W_P cy aP aS aB aO aR aA imP inP) ++ ((W_S cy aS imS) ++ ((W_B cy aB imB) ++ ((W_O cy aO imO) ++ ((W_R cy aR imR) ++ ((W_A cy aA imA inA) ++ ((W_H cy aH ah imH) ++ (W_HS cy ah ihs))))))))))))))) (As := [.int ((x1.toUInt32 % 65536).toInt32)]) (rest := []) hC (c_X7_addSign l D cy aT ((x1.toUInt32 % 65536).toInt32) mT r_3 mT_4 hc_5) (cwV 1 hts gX8_append_X7_addSign rfl rfl rfl (by decide +kernel) ⟨Nat.le_of_ble_eq_true rfl, Nat.le_of_ble_eq_true rfl⟩) hK hN hP hD hS hA rfl 0 7 rfl rfl rfl hl.1 rfl (lv_room (Nat.le_of_ble_eq_true rfl)) dX8_append_37 ⟨Nat.le_of_ble_eq_true rfl, Nat.le_of_ble_eq_true rfl⟩) hP hD hS hA rfl rfl rfl (fun H locs hP hD hS => ?_)
      have hE := Option.some.inj hE
      obtain ⟨q0, hE⟩ := Prod.mk.inj hE
      obtain ⟨q1, q2⟩ := Prod.mk.inj hE
      exact exi hx hb hr hlocks hK hP hD hS q0 q1 (by rw [q2]) (Nat.le_of_ble_eq_true rfl) (Nat.le_of_ble_eq_true rfl) dX8_append_40
  unfold f_X8_append at hE
  refine lv_iload_n hx hb dX8_append_0 rfl (lv_at hl 1 rfl) ?_
  refine lv_bipush (v := 32) hx hb dX8_append_1 (by decide) ?_
  refine lv_bipush (v := 126) hx hb dX8_append_3 (by decide) ?_
  obtain ⟨r_6, hc_7, hE⟩ := bd1_el hE
  refine ki (X := []) (Y := (W_All cy aI aT adP adS adB adO adR adA aP aS aB aO aR aA aH ah imT imdP indP imdS imdB imdO imdR imdA indA imP inP imS imB imO imR imA inA imH ihs)) (ws1 := (W_All cy aI aT adP adS adB adO adR adA aP aS aB aO aR aA aH ah imT imdP indP imdS imdB imdO imdR imdA indA imP inP imS imB imO imR imA inA imH ihs)) (rS (X := []) (Y := (W_All cy aI aT adP adS adB adO adR adA aP aS aB aO aR aA aH ah imT imdP indP imdS imdB imdO imdR imdA indA imP inP imS imB imO imR imA inA imH ihs)) (As := [.int x1, .int (32 : Int32), .int (126 : Int32)]) (rest := []) hC (c_X8_isWithin l D cy x1 (32 : Int32) (126 : Int32) r_6 hc_7) (cwS 3 hts gX8_append_X8_isWithin rfl rfl rfl (by decide +kernel) ⟨Nat.le_of_ble_eq_true rfl, Nat.le_of_ble_eq_true rfl⟩) hK hN hP hD hS hA rfl rfl hl.1 rfl (lv_room (Nat.le_of_ble_eq_true rfl)) dX8_append_5 ⟨Nat.le_of_ble_eq_true rfl, Nat.le_of_ble_eq_true rfl⟩) hP hD hS hA rfl rfl rfl (fun H locs hP hD hS => ?_)
  obtain ⟨k_9, hc_8, hE⟩ := bd1_el hE
  refine kxv (X := []) (Y := (W_All cy aI aT adP adS adB adO adR adA aP aS aB aO aR aA aH ah imT imdP indP imdS imdB imdO imdR imdA indA imP inP imS imB imO imR imA inA imH ihs)) (ws1 := (W_All cy aI aT adP adS adB adO adR adA aP aS aB aO aR aA aH ah imT imdP indP imdS imdB imdO imdR imdA indA imP inP imS imB imO imR imA inA imH ihs)) (xS (X := []) (Y := (W_All cy aI aT adP adS adB adO adR adA aP aS aB aO aR aA aH ah imT imdP indP imdS imdB imdO imdR imdA indA imP inP imS imB imO imR imA inA imH ihs)) (As := [.int r_6]) (rest := []) hC (c_X8_needArgument l hst D cy r_6 k_9 hc_8) (cwS 1 hts gX8_append_X8_needArgument rfl rfl rfl (by decide +kernel) ⟨Nat.le_of_ble_eq_true rfl, Nat.le_of_ble_eq_true rfl⟩) hK hN hP hD hS hA rfl rfl hl.1 rfl (lv_room (Nat.le_of_ble_eq_true rfl)) dX8_append_8 ⟨Nat.le_of_ble_eq_true rfl, Nat.le_of_ble_eq_true rfl⟩) hP hD hS hA rfl rfl rfl (fun hk0 H locs ce q9 hP hD hS hce hcv hcl => ?_) (fun hk0 H locs hP hD hS => ?_)
  · replace hE := it_f hE hk0
    have hE := Option.some.inj hE
    obtain ⟨q0, hE⟩ := Prod.mk.inj hE
    obtain ⟨q1, q2⟩ := Prod.mk.inj hE
    exact exx htab hlocks hK hP hD hS hce hcv hcl hk0 q0 (by rw [q2]) (Nat.le_of_ble_eq_true rfl) (Nat.le_of_ble_eq_true rfl)
  · replace hE := it_t hE hk0
    refine lv_aload_n hx hb dX8_append_11 rfl (lv_at hl 0 rfl) ?_
    refine va_get (D := D) (ci := 8) (v := .ref (aT 0)) (C := RX8) (T := TX8) (N := 4) hx hb hts iX8 hown hK hP 0 rfl rfl 3 (by decide) f29 (fun _ h9 => h9) rfl dX8_append_12 ?_
    refine va_get (D := D) (ci := 7) (v := .int (imT 0 0)) (C := RX7) (T := TX7) (N := 8) hx hb hts iX7 hown hK hP 1 rfl rfl 0 (by decide) f237 (fun _ h9 => h9) rfl dX8_append_15 ?_
    refine lv_bipush (v := 120) hx hb dX8_append_18 (by decide) ?_
    refine lv_icmp_ge (tgt := 27) hx hb dX8_append_20 (by decide) (fun c_10 => ?_) (fun c_10 => ?_)
    · replace hE := it_t hE c_10
      refine lv_iconst (v := 0) hx hb dX8_append_27 (by decide) ?_
      refine W.widen (k := 2) (n := 12) (Nat.le_of_ble_eq_true rfl) (Nat.le_of_ble_eq_true rfl) ?_
      exact h28 x1 (0 : Int32) imT _ _ _ hE hP hD hS (lv_sub hl [0, 1] rfl)
    · replace hE := it_f hE c_10
      refine lv_iconst (v := 1) hx hb dX8_append_23 (by decide) ?_
      refine lv_goto (tgt := 28) hx hb dX8_append_24 (by decide) ?_
      refine W.widen (k := 2) (n := 12) (Nat.le_of_ble_eq_true rfl) (Nat.le_of_ble_eq_true rfl) ?_
      exact h28 x1 (1 : Int32) imT _ _ _ hE hP hD hS (lv_sub hl [0, 1] rfl)
abbrev rm_X8_clear : Room := { frames := 1, cells := 0, slots := 0, locals := 21 }
set_option maxHeartbeats 40000000 in
set_option maxRecDepth 100000 in
theorem c_X8_clear (l : Launch) (D : va_G) (cy : Nat → Nat) (aI aT adP adS adB adO adR adA aP aS aB aO aR aA aH : Nat → Nat) (ah : Nat → Nat → Nat → Nat) (imT : Mem) (imdP : Mem) (indP : MemL) (imdS : Mem) (imdB : Mem) (imdO : Mem) (imdR : Mem) (imdA : Mem) (indA : MemL) (imP : Mem) (inP : MemL) (imS : Mem) (imB : Mem) (imO : Mem) (imR : Mem) (imA : Mem) (inA : MemL) (imH : Mem) (ihs : (Nat → PSt)) (r' : Int32) (mT' : Mem) (hE : f_X8_clear imT imdP indP imdS imdB imdO imdR imdA indA imP inP imS imB imO imR imA inA imH ihs = some (r', mT')) : CI l yX8_clear wsX8_clear rm_X8_clear D cy [.ref (aI 0)] (W_All cy aI aT adP adS adB adO adR adA aP aS aB aO aR aA aH ah imT imdP indP imdS imdB imdO imdR imdA indA imP inP imS imB imO imR imA inA imH ihs) 0 0 r' (W_All cy aI aT adP adS adB adO adR adA aP aS aB aO aR aA aH ah mT' imdP indP imdS imdB imdO imdR imdA indA imP inP imS imB imO imR imA inA imH ihs) := by
  refine CQ_of (cc := cX8_clear) (maxL := 1) (ret := (some .int)) (by decide) rfl (Nat.le_of_ble_eq_true rfl) (fun p e s m args below meth c A ls hx hb hr hml hlocks hnm hown hts hA hK hN hP hD hS hl => ?_)
  have hown : s.vm.findClass RX8 = some m.cls := hown
  have hl : lv_has ls 1 [(0, .ref (aI 0))] := hl
  have hC : CallFix p m c cX8_clear 1 s args wsX8_clear RX8 := ⟨hx, hb, hml, hown, hts⟩
  have f29 : (Cond.fieldLink RX8 29 "IcePlant" "text" "LIcePlant$Text;").before args s = true := hts _ (by decide +kernel)
  have iX8 : ∀ w ∈ wsX80, w ∈ wsX8_clear := by decide +kernel
  unfold f_X8_clear at hE
  refine lv_aload_n hx hb dX8_clear_0 rfl (lv_at hl 0 rfl) ?_
  refine va_get (D := D) (ci := 8) (v := .ref (aT 0)) (C := RX8) (T := TX8) (N := 4) hx hb hts iX8 hown hK hP 0 rfl rfl 3 (by decide) f29 (fun _ h9 => h9) rfl dX8_clear_1 ?_
  obtain ⟨r_1, mT_2, hc_3, hE⟩ := bd2_el hE
  refine ki (X := (W_I aI aP adP aH aT)) (Y := ((W_P cy adP adS adB adO adR adA imdP indP) ++ ((W_S cy adS imdS) ++ ((W_B cy adB imdB) ++ ((W_O cy adO imdO) ++ ((W_R cy adR imdR) ++ ((W_A cy adA imdA indA) ++ ((W_P cy aP aS aB aO aR aA imP inP) ++ ((W_S cy aS imS) ++ ((W_B cy aB imB) ++ ((W_O cy aO imO) ++ ((W_R cy aR imR) ++ ((W_A cy aA imA inA) ++ ((W_H cy aH ah imH) ++ (W_HS cy ah ihs))))))))))))))) (ws1 := (W_All cy aI aT adP adS adB adO adR adA aP aS aB aO aR aA aH ah mT_2 imdP indP imdS imdB imdO imdR imdA indA imP inP imS imB imO imR imA inA imH ihs)) (rV (X := (W_I aI aP adP aH aT)) (Y := ((W_P cy adP adS adB adO adR adA imdP indP) ++ ((W_S cy adS imdS) ++ ((W_B cy adB imdB) ++ ((W_O cy adO imdO) ++ ((W_R cy adR imdR) ++ ((W_A cy adA imdA indA) ++ ((W_P cy aP aS aB aO aR aA imP inP) ++ ((W_S cy aS imS) ++ ((W_B cy aB imB) ++ ((W_O cy aO imO) ++ ((W_R cy aR imR) ++ ((W_A cy aA imA inA) ++ ((W_H cy aH ah imH) ++ (W_HS cy ah ihs))))))))))))))) (As := []) (rest := []) hC (c_X7_empty l D cy aT imT r_1 mT_2 hc_3) (cwV 0 hts gX8_clear_X7_empty rfl rfl rfl (by decide +kernel) ⟨Nat.le_of_ble_eq_true rfl, Nat.le_of_ble_eq_true rfl⟩) hK hN hP hD hS hA rfl 0 7 rfl rfl rfl hl.1 rfl (lv_room (Nat.le_of_ble_eq_true rfl)) dX8_clear_4 ⟨Nat.le_of_ble_eq_true rfl, Nat.le_of_ble_eq_true rfl⟩) hP hD hS hA rfl rfl rfl (fun H locs hP hD hS => ?_)
  have hE := Option.some.inj hE
  obtain ⟨q0, q1⟩ := Prod.mk.inj hE
  exact ei hx hb hr hlocks hK hP hD hS q0 (by rw [q1]) dX8_clear_7
abbrev rm_X8_errorPosition : Room := { frames := 4, cells := 0, slots := 0, locals := 86 }
set_option maxHeartbeats 40000000 in
set_option maxRecDepth 100000 in
theorem c_X8_errorPosition (l : Launch) (D : va_G) (cy : Nat → Nat) (aI aT adP adS adB adO adR adA aP aS aB aO aR aA aH : Nat → Nat) (ah : Nat → Nat → Nat → Nat) (imT : Mem) (imdP : Mem) (indP : MemL) (imdS : Mem) (imdB : Mem) (imdO : Mem) (imdR : Mem) (imdA : Mem) (indA : MemL) (imP : Mem) (inP : MemL) (imS : Mem) (imB : Mem) (imO : Mem) (imR : Mem) (imA : Mem) (inA : MemL) (imH : Mem) (ihs : (Nat → PSt)) (r' : Int32) (mT' : Mem) (hE : f_X8_errorPosition imT imdP indP imdS imdB imdO imdR imdA indA imP inP imS imB imO imR imA inA imH ihs = some (r', mT')) : CI l yX8_errorPosition wsX8_errorPosition rm_X8_errorPosition D cy [.ref (aI 0)] (W_All cy aI aT adP adS adB adO adR adA aP aS aB aO aR aA aH ah imT imdP indP imdS imdB imdO imdR imdA indA imP inP imS imB imO imR imA inA imH ihs) 0 0 r' (W_All cy aI aT adP adS adB adO adR adA aP aS aB aO aR aA aH ah mT' imdP indP imdS imdB imdO imdR imdA indA imP inP imS imB imO imR imA inA imH ihs) := by
  refine CQ_of (cc := cX8_errorPosition) (maxL := 1) (ret := (some .int)) (by decide) rfl (Nat.le_of_ble_eq_true rfl) (fun p e s m args below meth c A ls hx hb hr hml hlocks hnm hown hts hA hK hN hP hD hS hl => ?_)
  have hown : s.vm.findClass RX8 = some m.cls := hown
  have hl : lv_has ls 1 [(0, .ref (aI 0))] := hl
  have hC : CallFix p m c cX8_errorPosition 1 s args wsX8_errorPosition RX8 := ⟨hx, hb, hml, hown, hts⟩
  have f29 : (Cond.fieldLink RX8 29 "IcePlant" "text" "LIcePlant$Text;").before args s = true := hts _ (by decide +kernel)
  have f250 : (Cond.fieldLink RX8 250 "IcePlant$Text" "error" "I").before args s = true := hts _ (by decide +kernel)
  have f253 : (Cond.fieldLink RX8 253 "IcePlant$Text" "at" "I").before args s = true := hts _ (by decide +kernel)
  have iX7 : ∀ w ∈ wsX70, w ∈ wsX8_errorPosition := by decide +kernel
  have iX8 : ∀ w ∈ wsX80, w ∈ wsX8_errorPosition := by decide +kernel
  unfold f_X8_errorPosition at hE
  refine lv_aload_n hx hb dX8_errorPosition_0 rfl (lv_at hl 0 rfl) ?_
  refine va_get (D := D) (ci := 8) (v := .ref (aT 0)) (C := RX8) (T := TX8) (N := 4) hx hb hts iX8 hown hK hP 0 rfl rfl 3 (by decide) f29 (fun _ h9 => h9) rfl dX8_errorPosition_1 ?_
  obtain ⟨mT_1, hc_2, hE⟩ := bd1_el hE
  refine kv (X := (W_I aI aP adP aH aT)) (Y := ((W_P cy adP adS adB adO adR adA imdP indP) ++ ((W_S cy adS imdS) ++ ((W_B cy adB imdB) ++ ((W_O cy adO imdO) ++ ((W_R cy adR imdR) ++ ((W_A cy adA imdA indA) ++ ((W_P cy aP aS aB aO aR aA imP inP) ++ ((W_S cy aS imS) ++ ((W_B cy aB imB) ++ ((W_O cy aO imO) ++ ((W_R cy aR imR) ++ ((W_A cy aA imA inA) ++ ((W_H cy aH ah imH) ++ (W_HS cy ah ihs))))))))))))))) (ws1 := (W_All cy aI aT adP adS adB adO adR adA aP aS aB aO aR aA aH ah mT_1 imdP indP imdS imdB imdO imdR imdA indA imP inP imS imB imO imR imA inA imH ihs)) (rV (X := (W_I aI aP adP aH aT)) (Y := ((W_P cy adP adS adB adO adR adA imdP indP) ++ ((W_S cy adS imdS) ++ ((W_B cy adB imdB) ++ ((W_O cy adO imdO) ++ ((W_R cy adR imdR) ++ ((W_A cy adA imdA indA) ++ ((W_P cy aP aS aB aO aR aA imP inP) ++ ((W_S cy aS imS) ++ ((W_B cy aB imB) ++ ((W_O cy aO imO) ++ ((W_R cy aR imR) ++ ((W_A cy aA imA inA) ++ ((W_H cy aH ah imH) ++ (W_HS cy ah ihs))))))))))))))) (As := []) (rest := []) hC (c_X7_readAll l D cy aT imT mT_1 hc_2) (cwV 0 hts gX8_errorPosition_X7_readAll rfl rfl rfl (by decide +kernel) ⟨Nat.le_of_ble_eq_true rfl, Nat.le_of_ble_eq_true rfl⟩) hK hN hP hD hS hA rfl 0 7 rfl rfl rfl hl.1 rfl (lv_room (Nat.le_of_ble_eq_true rfl)) dX8_errorPosition_4 ⟨Nat.le_of_ble_eq_true rfl, Nat.le_of_ble_eq_true rfl⟩) hP hD hS hA rfl rfl rfl (fun H locs hP hD hS => ?_)
  refine lv_aload_n hx hb dX8_errorPosition_7 rfl (lv_at hl 0 rfl) ?_
  refine va_get (D := D) (ci := 8) (v := .ref (aT 0)) (C := RX8) (T := TX8) (N := 4) hx hb hts iX8 hown hK hP 0 rfl rfl 3 (by decide) f29 (fun _ h9 => h9) rfl dX8_errorPosition_8 ?_
  refine va_get (D := D) (ci := 7) (v := .int (mT_1 2 0)) (C := RX7) (T := TX7) (N := 8) hx hb hts iX7 hown hK hP 1 rfl rfl 2 (by decide) f250 (fun _ h9 => h9) rfl dX8_errorPosition_11 ?_
  refine lv_if_ne (tgt := 21) hx hb dX8_errorPosition_14 (by decide) (fun c_3 => ?_) (fun c_3 => ?_)
  · replace hE := it_f hE c_3
    refine lv_aload_n hx hb dX8_errorPosition_21 rfl (lv_at hl 0 rfl) ?_
    refine va_get (D := D) (ci := 8) (v := .ref (aT 0)) (C := RX8) (T := TX8) (N := 4) hx hb hts iX8 hown hK hP 0 rfl rfl 3 (by decide) f29 (fun _ h9 => h9) rfl dX8_errorPosition_22 ?_
    refine va_get (D := D) (ci := 7) (v := .int (mT_1 1 0)) (C := RX7) (T := TX7) (N := 8) hx hb hts iX7 hown hK hP 1 rfl rfl 1 (by decide) f253 (fun _ h9 => h9) rfl dX8_errorPosition_25 ?_
    have hE := Option.some.inj hE
    obtain ⟨q0, q1⟩ := Prod.mk.inj hE
    exact ei hx hb hr hlocks hK hP hD hS q0 (by rw [q1]) dX8_errorPosition_28
  · replace hE := it_t hE c_3
    refine lv_iconst (v := (-1)) hx hb dX8_errorPosition_17 (by decide) ?_
    refine lv_goto (tgt := 28) hx hb dX8_errorPosition_18 (by decide) ?_
    have hE := Option.some.inj hE
    obtain ⟨q0, q1⟩ := Prod.mk.inj hE
    exact ei hx hb hr hlocks hK hP hD hS q0 (by rw [q1]) dX8_errorPosition_28
abbrev rm_X8_errorKind : Room := { frames := 4, cells := 0, slots := 0, locals := 86 }
set_option maxHeartbeats 40000000 in
set_option maxRecDepth 100000 in
theorem c_X8_errorKind (l : Launch) (D : va_G) (cy : Nat → Nat) (aI aT adP adS adB adO adR adA aP aS aB aO aR aA aH : Nat → Nat) (ah : Nat → Nat → Nat → Nat) (imT : Mem) (imdP : Mem) (indP : MemL) (imdS : Mem) (imdB : Mem) (imdO : Mem) (imdR : Mem) (imdA : Mem) (indA : MemL) (imP : Mem) (inP : MemL) (imS : Mem) (imB : Mem) (imO : Mem) (imR : Mem) (imA : Mem) (inA : MemL) (imH : Mem) (ihs : (Nat → PSt)) (r' : Int32) (mT' : Mem) (hE : f_X8_errorKind imT imdP indP imdS imdB imdO imdR imdA indA imP inP imS imB imO imR imA inA imH ihs = some (r', mT')) : CI l yX8_errorKind wsX8_errorKind rm_X8_errorKind D cy [.ref (aI 0)] (W_All cy aI aT adP adS adB adO adR adA aP aS aB aO aR aA aH ah imT imdP indP imdS imdB imdO imdR imdA indA imP inP imS imB imO imR imA inA imH ihs) 0 0 r' (W_All cy aI aT adP adS adB adO adR adA aP aS aB aO aR aA aH ah mT' imdP indP imdS imdB imdO imdR imdA indA imP inP imS imB imO imR imA inA imH ihs) := by
  refine CQ_of (cc := cX8_errorKind) (maxL := 1) (ret := (some .int)) (by decide) rfl (Nat.le_of_ble_eq_true rfl) (fun p e s m args below meth c A ls hx hb hr hml hlocks hnm hown hts hA hK hN hP hD hS hl => ?_)
  have hown : s.vm.findClass RX8 = some m.cls := hown
  have hl : lv_has ls 1 [(0, .ref (aI 0))] := hl
  have hC : CallFix p m c cX8_errorKind 1 s args wsX8_errorKind RX8 := ⟨hx, hb, hml, hown, hts⟩
  have f29 : (Cond.fieldLink RX8 29 "IcePlant" "text" "LIcePlant$Text;").before args s = true := hts _ (by decide +kernel)
  have f250 : (Cond.fieldLink RX8 250 "IcePlant$Text" "error" "I").before args s = true := hts _ (by decide +kernel)
  have iX7 : ∀ w ∈ wsX70, w ∈ wsX8_errorKind := by decide +kernel
  have iX8 : ∀ w ∈ wsX80, w ∈ wsX8_errorKind := by decide +kernel
  unfold f_X8_errorKind at hE
  refine lv_aload_n hx hb dX8_errorKind_0 rfl (lv_at hl 0 rfl) ?_
  refine va_get (D := D) (ci := 8) (v := .ref (aT 0)) (C := RX8) (T := TX8) (N := 4) hx hb hts iX8 hown hK hP 0 rfl rfl 3 (by decide) f29 (fun _ h9 => h9) rfl dX8_errorKind_1 ?_
  obtain ⟨mT_1, hc_2, hE⟩ := bd1_el hE
  refine kv (X := (W_I aI aP adP aH aT)) (Y := ((W_P cy adP adS adB adO adR adA imdP indP) ++ ((W_S cy adS imdS) ++ ((W_B cy adB imdB) ++ ((W_O cy adO imdO) ++ ((W_R cy adR imdR) ++ ((W_A cy adA imdA indA) ++ ((W_P cy aP aS aB aO aR aA imP inP) ++ ((W_S cy aS imS) ++ ((W_B cy aB imB) ++ ((W_O cy aO imO) ++ ((W_R cy aR imR) ++ ((W_A cy aA imA inA) ++ ((W_H cy aH ah imH) ++ (W_HS cy ah ihs))))))))))))))) (ws1 := (W_All cy aI aT adP adS adB adO adR adA aP aS aB aO aR aA aH ah mT_1 imdP indP imdS imdB imdO imdR imdA indA imP inP imS imB imO imR imA inA imH ihs)) (rV (X := (W_I aI aP adP aH aT)) (Y := ((W_P cy adP adS adB adO adR adA imdP indP) ++ ((W_S cy adS imdS) ++ ((W_B cy adB imdB) ++ ((W_O cy adO imdO) ++ ((W_R cy adR imdR) ++ ((W_A cy adA imdA indA) ++ ((W_P cy aP aS aB aO aR aA imP inP) ++ ((W_S cy aS imS) ++ ((W_B cy aB imB) ++ ((W_O cy aO imO) ++ ((W_R cy aR imR) ++ ((W_A cy aA imA inA) ++ ((W_H cy aH ah imH) ++ (W_HS cy ah ihs))))))))))))))) (As := []) (rest := []) hC (c_X7_readAll l D cy aT imT mT_1 hc_2) (cwV 0 hts gX8_errorKind_X7_readAll rfl rfl rfl (by decide +kernel) ⟨Nat.le_of_ble_eq_true rfl, Nat.le_of_ble_eq_true rfl⟩) hK hN hP hD hS hA rfl 0 7 rfl rfl rfl hl.1 rfl (lv_room (Nat.le_of_ble_eq_true rfl)) dX8_errorKind_4 ⟨Nat.le_of_ble_eq_true rfl, Nat.le_of_ble_eq_true rfl⟩) hP hD hS hA rfl rfl rfl (fun H locs hP hD hS => ?_)
  refine lv_aload_n hx hb dX8_errorKind_7 rfl (lv_at hl 0 rfl) ?_
  refine va_get (D := D) (ci := 8) (v := .ref (aT 0)) (C := RX8) (T := TX8) (N := 4) hx hb hts iX8 hown hK hP 0 rfl rfl 3 (by decide) f29 (fun _ h9 => h9) rfl dX8_errorKind_8 ?_
  refine va_get (D := D) (ci := 7) (v := .int (mT_1 2 0)) (C := RX7) (T := TX7) (N := 8) hx hb hts iX7 hown hK hP 1 rfl rfl 2 (by decide) f250 (fun _ h9 => h9) rfl dX8_errorKind_11 ?_
  have hE := Option.some.inj hE
  obtain ⟨q0, q1⟩ := Prod.mk.inj hE
  exact ei hx hb hr hlocks hK hP hD hS q0 (by rw [q1]) dX8_errorKind_14
abbrev rm_X8_commandFault : Room := { frames := 3, cells := 0, slots := 0, locals := 64 }
set_option maxHeartbeats 40000000 in
set_option maxRecDepth 100000 in
theorem c_X8_commandFault (l : Launch) (D : va_G) (cy : Nat → Nat) (aI aT adP adS adB adO adR adA aP aS aB aO aR aA aH : Nat → Nat) (ah : Nat → Nat → Nat → Nat) (imT : Mem) (imdP : Mem) (indP : MemL) (imdS : Mem) (imdB : Mem) (imdO : Mem) (imdR : Mem) (imdA : Mem) (indA : MemL) (imP : Mem) (inP : MemL) (imS : Mem) (imB : Mem) (imO : Mem) (imR : Mem) (imA : Mem) (inA : MemL) (imH : Mem) (ihs : (Nat → PSt)) (r' : Int32) (hE : f_X8_commandFault imT imdP indP imdS imdB imdO imdR imdA indA imP inP imS imB imO imR imA inA imH ihs = some r') : CI l yX8_commandFault wsX8_commandFault rm_X8_commandFault D cy [.ref (aI 0)] (W_All cy aI aT adP adS adB adO adR adA aP aS aB aO aR aA aH ah imT imdP indP imdS imdB imdO imdR imdA indA imP inP imS imB imO imR imA inA imH ihs) 0 0 r' (W_All cy aI aT adP adS adB adO adR adA aP aS aB aO aR aA aH ah imT imdP indP imdS imdB imdO imdR imdA indA imP inP imS imB imO imR imA inA imH ihs) := by
  refine CQ_of (cc := cX8_commandFault) (maxL := 3) (ret := (some .int)) (by decide) rfl (Nat.le_of_ble_eq_true rfl) (fun p e s m args below meth c A ls hx hb hr hml hlocks hnm hown hts hA hK hN hP hD hS hl => ?_)
  have hown : s.vm.findClass RX8 = some m.cls := hown
  have hl : lv_has ls 3 [(0, .ref (aI 0))] := hl
  have hC : CallFix p m c cX8_commandFault 3 s args wsX8_commandFault RX8 := ⟨hx, hb, hml, hown, hts⟩
  have f29 : (Cond.fieldLink RX8 29 "IcePlant" "text" "LIcePlant$Text;").before args s = true := hts _ (by decide +kernel)
  have f323 : (Cond.fieldLink RX8 323 "IcePlant$Text" "numbers" "[I").before args s = true := hts _ (by decide +kernel)
  have f326 : (Cond.fieldLink RX8 326 "IcePlant$Text" "letter" "C").before args s = true := hts _ (by decide +kernel)
  have iX7 : ∀ w ∈ wsX70, w ∈ wsX8_commandFault := by decide +kernel
  have iX8 : ∀ w ∈ wsX80, w ∈ wsX8_commandFault := by decide +kernel
  unfold f_X8_commandFault at hE
  refine lv_aload_n hx hb dX8_commandFault_0 rfl (lv_at hl 0 rfl) ?_
  refine va_get (D := D) (ci := 8) (v := .ref (aT 0)) (C := RX8) (T := TX8) (N := 4) hx hb hts iX8 hown hK hP 0 rfl rfl 3 (by decide) f29 (fun _ h9 => h9) rfl dX8_commandFault_1 ?_
  refine va_get (D := D) (ci := 7) (v := .ref (aT 6)) (C := RX7) (T := TX7) (N := 8) hx hb hts iX7 hown hK hP 1 rfl rfl 5 (by decide) f323 (fun _ h9 => h9) rfl dX8_commandFault_4 ?_
  refine lv_iconst (v := 0) hx hb dX8_commandFault_7 (by decide) ?_
  refine va_iald hx hb hK hP 2 0 rfl rfl (show ¬ ((0 : Int32) < 0 ∨ 3 ≤ (0 : Int32).toNatClampNeg) by decide) dX8_commandFault_8 ?_
  obtain ⟨x1_1, e_x1_1, hE⟩ := lt_el hE
  refine s_nm e_x1_1 ?_
  refine lv_istore_n (lv' := [(1, .int x1_1), (0, .ref (aI 0))]) hx hb dX8_commandFault_9 rfl hl (by decide) rfl (fun ls hl => ?_)
  refine lv_aload_n hx hb dX8_commandFault_10 rfl (lv_at hl 1 rfl) ?_
  refine va_get (D := D) (ci := 8) (v := .ref (aT 0)) (C := RX8) (T := TX8) (N := 4) hx hb hts iX8 hown hK hP 0 rfl rfl 3 (by decide) f29 (fun _ h9 => h9) rfl dX8_commandFault_11 ?_
  refine va_get (D := D) (ci := 7) (v := .ref (aT 6)) (C := RX7) (T := TX7) (N := 8) hx hb hts iX7 hown hK hP 1 rfl rfl 5 (by decide) f323 (fun _ h9 => h9) rfl dX8_commandFault_14 ?_
  refine lv_iconst (v := 1) hx hb dX8_commandFault_17 (by decide) ?_
  refine va_iald hx hb hK hP 2 0 rfl rfl (show ¬ ((1 : Int32) < 0 ∨ 3 ≤ (1 : Int32).toNatClampNeg) by decide) dX8_commandFault_18 ?_
  obtain ⟨x2_2, e_x2_2, hE⟩ := lt_el hE
  refine s_nm e_x2_2 ?_
  refine lv_istore_n (lv' := [(2, .int x2_2), (1, .int x1_1), (0, .ref (aI 0))]) hx hb dX8_commandFault_19 rfl hl (by decide) rfl (fun ls hl => ?_)
  refine lv_aload_n hx hb dX8_commandFault_20 rfl (lv_at hl 2 rfl) ?_
  refine va_get (D := D) (ci := 8) (v := .ref (aT 0)) (C := RX8) (T := TX8) (N := 4) hx hb hts iX8 hown hK hP 0 rfl rfl 3 (by decide) f29 (fun _ h9 => h9) rfl dX8_commandFault_21 ?_
  refine va_get (D := D) (ci := 7) (v := .int (imT 3 0)) (C := RX7) (T := TX7) (N := 8) hx hb hts iX7 hown hK hP 1 rfl rfl 3 (by decide) f326 (fun _ h9 => h9) rfl dX8_commandFault_24 ?_
  by_cases c_5_99 : (imT 3 0) = 99
  · replace hE := it_t hE c_5_99
    refine lv_lookup (tgt := 90) (off := 63) hx hb dX8_commandFault_27 (by decide) (by rw [c_5_99]; decide) (by decide) ?_
    refine lv_aload_n hx hb dX8_commandFault_90 rfl (lv_at hl 2 rfl) ?_
    refine lv_iload_n hx hb dX8_commandFault_91 rfl (lv_at hl 1 rfl) ?_
    refine lv_iload_n hx hb dX8_commandFault_92 rfl (lv_at hl 0 rfl) ?_
    obtain ⟨r_12, hc_13, hE⟩ := bd1_el hE
    refine ki (X := []) (Y := []) (ws1 := (W_All cy aI aT adP adS adB adO adR adA aP aS aB aO aR aA aH ah imT imdP indP imdS imdB imdO imdR imdA indA imP inP imS imB imO imR imA inA imH ihs)) (rV (X := []) (Y := []) (As := [.int x1_1, .int x2_2]) (rest := []) hC (c_X8_catchFault l D cy aI aT adP adS adB adO adR adA aP aS aB aO aR aA aH ah x1_1 x2_2 imT imdP indP imdS imdB imdO imdR imdA indA imP inP imS imB imO imR imA inA imH ihs r_12 hc_13) (cwV 2 hts gX8_commandFault_X8_catchFault rfl rfl rfl (by decide +kernel) ⟨Nat.le_of_ble_eq_true rfl, Nat.le_of_ble_eq_true rfl⟩) hK hN hP hD hS hA rfl 0 8 rfl rfl rfl hl.1 rfl (lv_room (Nat.le_of_ble_eq_true rfl)) dX8_commandFault_93 ⟨Nat.le_of_ble_eq_true rfl, Nat.le_of_ble_eq_true rfl⟩) hP hD hS hA rfl rfl rfl (fun H locs hP hD hS => ?_)
    have hE := Option.some.inj hE
    exact ei hx hb hr hlocks hK hP hD hS hE rfl dX8_commandFault_96
  · replace hE := it_f hE c_5_99
    by_cases c_5_104 : (imT 3 0) = 104
    · replace hE := it_t hE c_5_104
      refine lv_lookup (tgt := 68) (off := 41) hx hb dX8_commandFault_27 (by decide) (by rw [c_5_104]; decide) (by decide) ?_
      refine lv_aload_n hx hb dX8_commandFault_68 rfl (lv_at hl 2 rfl) ?_
      refine lv_iload_n hx hb dX8_commandFault_69 rfl (lv_at hl 1 rfl) ?_
      obtain ⟨r_10, hc_11, hE⟩ := bd1_el hE
      refine ki (X := []) (Y := []) (ws1 := (W_All cy aI aT adP adS adB adO adR adA aP aS aB aO aR aA aH ah imT imdP indP imdS imdB imdO imdR imdA indA imP inP imS imB imO imR imA inA imH ihs)) (rV (X := []) (Y := []) (As := [.int x1_1]) (rest := []) hC (c_X8_passFault l D cy aI aT adP adS adB adO adR adA aP aS aB aO aR aA aH ah x1_1 imT imdP indP imdS imdB imdO imdR imdA indA imP inP imS imB imO imR imA inA imH ihs r_10 hc_11) (cwV 1 hts gX8_commandFault_X8_passFault rfl rfl rfl (by decide +kernel) ⟨Nat.le_of_ble_eq_true rfl, Nat.le_of_ble_eq_true rfl⟩) hK hN hP hD hS hA rfl 0 8 rfl rfl rfl hl.1 rfl (lv_room (Nat.le_of_ble_eq_true rfl)) dX8_commandFault_70 ⟨Nat.le_of_ble_eq_true rfl, Nat.le_of_ble_eq_true rfl⟩) hP hD hS hA rfl rfl rfl (fun H locs hP hD hS => ?_)
      have hE := Option.some.inj hE
      exact ei hx hb hr hlocks hK hP hD hS hE rfl dX8_commandFault_73
    · replace hE := it_f hE c_5_104
      by_cases c_5_111 : (imT 3 0) = 111
      · replace hE := it_t hE c_5_111
        refine lv_lookup (tgt := 74) (off := 47) hx hb dX8_commandFault_27 (by decide) (by rw [c_5_111]; decide) (by decide) ?_
        refine lv_aload_n hx hb dX8_commandFault_74 rfl (lv_at hl 2 rfl) ?_
        refine lv_iload_n hx hb dX8_commandFault_75 rfl (lv_at hl 1 rfl) ?_
        refine lv_iload_n hx hb dX8_commandFault_76 rfl (lv_at hl 0 rfl) ?_
        refine lv_aload_n hx hb dX8_commandFault_77 rfl (lv_at hl 2 rfl) ?_
        refine va_get (D := D) (ci := 8) (v := .ref (aT 0)) (C := RX8) (T := TX8) (N := 4) hx hb hts iX8 hown hK hP 0 rfl rfl 3 (by decide) f29 (fun _ h9 => h9) rfl dX8_commandFault_78 ?_
        refine va_get (D := D) (ci := 7) (v := .ref (aT 6)) (C := RX7) (T := TX7) (N := 8) hx hb hts iX7 hown hK hP 1 rfl rfl 5 (by decide) f323 (fun _ h9 => h9) rfl dX8_commandFault_81 ?_
        refine lv_iconst (v := 2) hx hb dX8_commandFault_84 (by decide) ?_
        refine va_iald hx hb hK hP 2 0 rfl rfl (show ¬ ((2 : Int32) < 0 ∨ 3 ≤ (2 : Int32).toNatClampNeg) by decide) dX8_commandFault_85 ?_
        obtain ⟨r_8, hc_9, hE⟩ := bd1_el hE
        refine ki (X := []) (Y := []) (ws1 := (W_All cy aI aT adP adS adB adO adR adA aP aS aB aO aR aA aH ah imT imdP indP imdS imdB imdO imdR imdA indA imP inP imS imB imO imR imA inA imH ihs)) (rV (X := []) (Y := []) (As := [.int x1_1, .int x2_2, .int (imT 5 (2 : Int32).toNatClampNeg)]) (rest := []) hC (c_X8_orderFault l D cy aI aT adP adS adB adO adR adA aP aS aB aO aR aA aH ah x1_1 x2_2 (imT 5 (2 : Int32).toNatClampNeg) imT imdP indP imdS imdB imdO imdR imdA indA imP inP imS imB imO imR imA inA imH ihs r_8 hc_9) (cwV 3 hts gX8_commandFault_X8_orderFault rfl rfl rfl (by decide +kernel) ⟨Nat.le_of_ble_eq_true rfl, Nat.le_of_ble_eq_true rfl⟩) hK hN hP hD hS hA rfl 0 8 rfl rfl rfl hl.1 rfl (lv_room (Nat.le_of_ble_eq_true rfl)) dX8_commandFault_86 ⟨Nat.le_of_ble_eq_true rfl, Nat.le_of_ble_eq_true rfl⟩) hP hD hS hA rfl rfl rfl (fun H locs hP hD hS => ?_)
        have hE := Option.some.inj hE
        exact ei hx hb hr hlocks hK hP hD hS hE rfl dX8_commandFault_89
      · replace hE := it_f hE c_5_111
        by_cases c_5_112 : (imT 3 0) = 112
        · replace hE := it_t hE c_5_112
          refine lv_lookup (tgt := 97) (off := 70) hx hb dX8_commandFault_27 (by decide) (by rw [c_5_112]; decide) (by decide) ?_
          refine lv_aload_n hx hb dX8_commandFault_97 rfl (lv_at hl 2 rfl) ?_
          refine lv_iload_n hx hb dX8_commandFault_98 rfl (lv_at hl 1 rfl) ?_
          refine lv_iload_n hx hb dX8_commandFault_99 rfl (lv_at hl 0 rfl) ?_
          obtain ⟨r_6, hc_7, hE⟩ := bd1_el hE
          refine ki (X := []) (Y := []) (ws1 := (W_All cy aI aT adP adS adB adO adR adA aP aS aB aO aR aA aH ah imT imdP indP imdS imdB imdO imdR imdA indA imP inP imS imB imO imR imA inA imH ihs)) (rV (X := []) (Y := []) (As := [.int x1_1, .int x2_2]) (rest := []) hC (c_X8_payFault l D cy aI aT adP adS adB adO adR adA aP aS aB aO aR aA aH ah x1_1 x2_2 imT imdP indP imdS imdB imdO imdR imdA indA imP inP imS imB imO imR imA inA imH ihs r_6 hc_7) (cwV 2 hts gX8_commandFault_X8_payFault rfl rfl rfl (by decide +kernel) ⟨Nat.le_of_ble_eq_true rfl, Nat.le_of_ble_eq_true rfl⟩) hK hN hP hD hS hA rfl 0 8 rfl rfl rfl hl.1 rfl (lv_room (Nat.le_of_ble_eq_true rfl)) dX8_commandFault_100 ⟨Nat.le_of_ble_eq_true rfl, Nat.le_of_ble_eq_true rfl⟩) hP hD hS hA rfl rfl rfl (fun H locs hP hD hS => ?_)
          have hE := Option.some.inj hE
          exact ei hx hb hr hlocks hK hP hD hS hE rfl dX8_commandFault_103
        · replace hE := it_f hE c_5_112
          refine lv_lookup (tgt := 104) (off := 77) hx hb dX8_commandFault_27 (by decide) (lk_out _ (fun q h9 => ?_)) (by decide) ?_
          · have h9 : q ∈ [((99 : Int), (63 : Int)), ((104 : Int), (41 : Int)), ((111 : Int), (47 : Int)), ((112 : Int), (70 : Int))] := h9
            simp only [List.mem_cons, List.not_mem_nil, or_false] at h9
            rcases h9 with rfl | rfl | rfl | rfl
            · exact fun q9 => c_5_99 (q9.trans (by decide))
            · exact fun q9 => c_5_104 (q9.trans (by decide))
            · exact fun q9 => c_5_111 (q9.trans (by decide))
            · exact fun q9 => c_5_112 (q9.trans (by decide))
          · refine lv_aload_n hx hb dX8_commandFault_104 rfl (lv_at hl 2 rfl) ?_
            refine lv_iload_n hx hb dX8_commandFault_105 rfl (lv_at hl 1 rfl) ?_
            refine lv_iload_n hx hb dX8_commandFault_106 rfl (lv_at hl 0 rfl) ?_
            obtain ⟨r_3, hc_4, hE⟩ := bd1_el hE
            refine ki (X := []) (Y := []) (ws1 := (W_All cy aI aT adP adS adB adO adR adA aP aS aB aO aR aA aH ah imT imdP indP imdS imdB imdO imdR imdA indA imP inP imS imB imO imR imA inA imH ihs)) (rV (X := []) (Y := []) (As := [.int x1_1, .int x2_2]) (rest := []) hC (c_X8_moveFault l D cy aI aT adP adS adB adO adR adA aP aS aB aO aR aA aH ah x1_1 x2_2 imT imdP indP imdS imdB imdO imdR imdA indA imP inP imS imB imO imR imA inA imH ihs r_3 hc_4) (cwV 2 hts gX8_commandFault_X8_moveFault rfl rfl rfl (by decide +kernel) ⟨Nat.le_of_ble_eq_true rfl, Nat.le_of_ble_eq_true rfl⟩) hK hN hP hD hS hA rfl 0 8 rfl rfl rfl hl.1 rfl (lv_room (Nat.le_of_ble_eq_true rfl)) dX8_commandFault_107 ⟨Nat.le_of_ble_eq_true rfl, Nat.le_of_ble_eq_true rfl⟩) hP hD hS hA rfl rfl rfl (fun H locs hP hD hS => ?_)
            have hE := Option.some.inj hE
            exact ei hx hb hr hlocks hK hP hD hS hE rfl dX8_commandFault_110
abbrev rm_X8_runCommand : Room := { frames := 6, cells := 0, slots := 0, locals := 145 }
set_option maxHeartbeats 40000000 in
set_option maxRecDepth 100000 in
theorem c_X8_runCommand (l : Launch) (D : va_G) (cy : Nat → Nat) (aI aT adP adS adB adO adR adA aP aS aB aO aR aA aH : Nat → Nat) (ah : Nat → Nat → Nat → Nat) (imT : Mem) (imdP : Mem) (indP : MemL) (imdS : Mem) (imdB : Mem) (imdO : Mem) (imdR : Mem) (imdA : Mem) (indA : MemL) (imP : Mem) (inP : MemL) (imS : Mem) (imB : Mem) (imO : Mem) (imR : Mem) (imA : Mem) (inA : MemL) (imH : Mem) (ihs : (Nat → PSt)) (mP' : Mem) (nP' : MemL) (mS' : Mem) (mB' : Mem) (mO' : Mem) (mR' : Mem) (mA' : Mem) (nA' : MemL) (hE : f_X8_runCommand imT imdP indP imdS imdB imdO imdR imdA indA imP inP imS imB imO imR imA inA imH ihs = some (mP', nP', mS', mB', mO', mR', mA', nA')) : CV l yX8_runCommand wsX8_runCommand rm_X8_runCommand D cy [.ref (aI 0)] (W_All cy aI aT adP adS adB adO adR adA aP aS aB aO aR aA aH ah imT imdP indP imdS imdB imdO imdR imdA indA imP inP imS imB imO imR imA inA imH ihs) 0 0 (W_All cy aI aT adP adS adB adO adR adA aP aS aB aO aR aA aH ah imT imdP indP imdS imdB imdO imdR imdA indA mP' nP' mS' mB' mO' mR' mA' nA' imH ihs) := by
  refine CQ_of (cc := cX8_runCommand) (maxL := 3) (ret := none) (by decide) rfl (Nat.le_of_ble_eq_true rfl) (fun p e s m args below meth c A ls hx hb hr hml hlocks hnm hown hts hA hK hN hP hD hS hl => ?_)
  have hown : s.vm.findClass RX8 = some m.cls := hown
  have hl : lv_has ls 3 [(0, .ref (aI 0))] := hl
  have hC : CallFix p m c cX8_runCommand 3 s args wsX8_runCommand RX8 := ⟨hx, hb, hml, hown, hts⟩
  have f10 : (Cond.fieldLink RX8 10 "IcePlant" "now" "LIcePlant$Plant;").before args s = true := hts _ (by decide +kernel)
  have f29 : (Cond.fieldLink RX8 29 "IcePlant" "text" "LIcePlant$Text;").before args s = true := hts _ (by decide +kernel)
  have f43 : (Cond.fieldLink RX8 43 "IcePlant$Plant" "store" "LIcePlant$Store;").before args s = true := hts _ (by decide +kernel)
  have f115 : (Cond.fieldLink RX8 115 "IcePlant$Plant" "boats" "LIcePlant$Boats;").before args s = true := hts _ (by decide +kernel)
  have f129 : (Cond.fieldLink RX8 129 "IcePlant$Boats" "catches" "[I").before args s = true := hts _ (by decide +kernel)
  have f135 : (Cond.fieldLink RX8 135 "IcePlant$Plant" "orders" "LIcePlant$Orders;").before args s = true := hts _ (by decide +kernel)
  have f323 : (Cond.fieldLink RX8 323 "IcePlant$Text" "numbers" "[I").before args s = true := hts _ (by decide +kernel)
  have f326 : (Cond.fieldLink RX8 326 "IcePlant$Text" "letter" "C").before args s = true := hts _ (by decide +kernel)
  have f330 : (Cond.fieldLink RX8 330 "IcePlant$Text" "marked" "Z").before args s = true := hts _ (by decide +kernel)
  have iX1 : ∀ w ∈ wsX10, w ∈ wsX8_runCommand := by decide +kernel
  have iX4 : ∀ w ∈ wsX40, w ∈ wsX8_runCommand := by decide +kernel
  have iX7 : ∀ w ∈ wsX70, w ∈ wsX8_runCommand := by decide +kernel
  have iX8 : ∀ w ∈ wsX80, w ∈ wsX8_runCommand := by decide +kernel
  unfold f_X8_runCommand at hE
  refine lv_aload_n hx hb dX8_runCommand_0 rfl (lv_at hl 0 rfl) ?_
  refine va_get (D := D) (ci := 8) (v := .ref (aT 0)) (C := RX8) (T := TX8) (N := 4) hx hb hts iX8 hown hK hP 0 rfl rfl 3 (by decide) f29 (fun _ h9 => h9) rfl dX8_runCommand_1 ?_
  refine va_get (D := D) (ci := 7) (v := .ref (aT 6)) (C := RX7) (T := TX7) (N := 8) hx hb hts iX7 hown hK hP 1 rfl rfl 5 (by decide) f323 (fun _ h9 => h9) rfl dX8_runCommand_4 ?_
  refine lv_iconst (v := 0) hx hb dX8_runCommand_7 (by decide) ?_
  refine va_iald hx hb hK hP 2 0 rfl rfl (show ¬ ((0 : Int32) < 0 ∨ 3 ≤ (0 : Int32).toNatClampNeg) by decide) dX8_runCommand_8 ?_
  obtain ⟨x1_1, e_x1_1, hE⟩ := lt_el hE
  refine s_nm e_x1_1 ?_
  refine lv_istore_n (lv' := [(1, .int x1_1), (0, .ref (aI 0))]) hx hb dX8_runCommand_9 rfl hl (by decide) rfl (fun ls hl => ?_)
  refine lv_aload_n hx hb dX8_runCommand_10 rfl (lv_at hl 1 rfl) ?_
  refine va_get (D := D) (ci := 8) (v := .ref (aT 0)) (C := RX8) (T := TX8) (N := 4) hx hb hts iX8 hown hK hP 0 rfl rfl 3 (by decide) f29 (fun _ h9 => h9) rfl dX8_runCommand_11 ?_
  refine va_get (D := D) (ci := 7) (v := .ref (aT 6)) (C := RX7) (T := TX7) (N := 8) hx hb hts iX7 hown hK hP 1 rfl rfl 5 (by decide) f323 (fun _ h9 => h9) rfl dX8_runCommand_14 ?_
  refine lv_iconst (v := 1) hx hb dX8_runCommand_17 (by decide) ?_
  refine va_iald hx hb hK hP 2 0 rfl rfl (show ¬ ((1 : Int32) < 0 ∨ 3 ≤ (1 : Int32).toNatClampNeg) by decide) dX8_runCommand_18 ?_
  obtain ⟨x2_2, e_x2_2, hE⟩ := lt_el hE
  refine s_nm e_x2_2 ?_
  refine lv_istore_n (lv' := [(2, .int x2_2), (1, .int x1_1), (0, .ref (aI 0))]) hx hb dX8_runCommand_19 rfl hl (by decide) rfl (fun ls hl => ?_)
  refine lv_aload_n hx hb dX8_runCommand_20 rfl (lv_at hl 2 rfl) ?_
  refine va_get (D := D) (ci := 8) (v := .ref (aT 0)) (C := RX8) (T := TX8) (N := 4) hx hb hts iX8 hown hK hP 0 rfl rfl 3 (by decide) f29 (fun _ h9 => h9) rfl dX8_runCommand_21 ?_
  refine va_get (D := D) (ci := 7) (v := .int (imT 3 0)) (C := RX7) (T := TX7) (N := 8) hx hb hts iX7 hown hK hP 1 rfl rfl 3 (by decide) f326 (fun _ h9 => h9) rfl dX8_runCommand_24 ?_
  by_cases c_6_99 : (imT 3 0) = 99
  · replace hE := it_t hE c_6_99
    refine lv_lookup (tgt := 112) (off := 85) hx hb dX8_runCommand_27 (by decide) (by rw [c_6_99]; decide) (by decide) ?_
    refine lv_aload_n hx hb dX8_runCommand_112 rfl (lv_at hl 2 rfl) ?_
    refine va_get (D := D) (ci := 8) (v := .ref (aP 0)) (C := RX8) (T := TX8) (N := 4) hx hb hts iX8 hown hK hP 0 rfl rfl 0 (by decide) f10 (fun _ h9 => h9) rfl dX8_runCommand_113 ?_
    refine va_get (D := D) (ci := 4) (v := .ref (aB 0)) (C := RX4) (T := TX4) (N := 13) hx hb hts iX4 hown hK hP 40 rfl rfl 3 (by decide) f115 (fun _ h9 => h9) rfl dX8_runCommand_116 ?_
    refine va_get (D := D) (ci := 1) (v := .ref (aB 2)) (C := RX1) (T := TX1) (N := 4) hx hb hts iX1 hown hK hP 52 rfl rfl 1 (by decide) f129 (fun _ h9 => h9) rfl dX8_runCommand_119 ?_
    refine lv_iload_n hx hb dX8_runCommand_122 rfl (lv_at hl 1 rfl) ?_
    refine lv_iload_n hx hb dX8_runCommand_123 rfl (lv_at hl 0 rfl) ?_
    obtain ⟨r_24, g_25, hc_27, hE⟩ := bd2_el hE
    obtain ⟨mB_26, e_mB_26, hE⟩ := lt_el hE
    refine ki (X := (List.take 53 (W_All cy aI aT adP adS adB adO adR adA aP aS aB aO aR aA aH ah imT imdP indP imdS imdB imdO imdR imdA indA imP inP imS imB imO imR imA inA imH ihs))) (Y := (List.drop 54 (W_All cy aI aT adP adS adB adO adR adA aP aS aB aO aR aA aH ah imT imdP indP imdS imdB imdO imdR imdA indA imP inP imS imB imO imR imA inA imH ihs))) (ws1 := (W_All cy aI aT adP adS adB adO adR adA aP aS aB aO aR aA aH ah imT imdP indP imdS imdB imdO imdR imdA indA imP inP imS mB_26 imO imR imA inA imH ihs)) (rS (X := (List.take 53 (W_All cy aI aT adP adS adB adO adR adA aP aS aB aO aR aA aH ah imT imdP indP imdS imdB imdO imdR imdA indA imP inP imS imB imO imR imA inA imH ihs))) (Y := (List.drop 54 (W_All cy aI aT adP adS adB adO adR adA aP aS aB aO aR aA aH ah imT imdP indP imdS imdB imdO imdR imdA indA imP inP imS imB imO imR imA inA imH ihs))) (As := [.ref (aB 2), .int x1_1, .int x2_2]) (rest := []) hC (c_X8_replace l D cy (aB 2) x1_1 x2_2 (8) (imB 1) r_24 g_25 hc_27) (cwS 3 hts gX8_runCommand_X8_replace rfl rfl rfl (by decide +kernel) ⟨Nat.le_of_ble_eq_true rfl, Nat.le_of_ble_eq_true rfl⟩) hK hN hP hD hS hA rfl rfl hl.1 rfl (lv_room (Nat.le_of_ble_eq_true rfl)) dX8_runCommand_124 ⟨Nat.le_of_ble_eq_true rfl, Nat.le_of_ble_eq_true rfl⟩) hP hD hS hA rfl rfl (by rw [e_mB_26]; rfl) (fun H locs hP hD hS => ?_)
    refine lv_pop hx hb dX8_runCommand_127 rfl ?_
    refine lv_goto (tgt := 157) hx hb dX8_runCommand_128 (by decide) ?_
    have hE := Option.some.inj hE
    obtain ⟨q0, hE⟩ := Prod.mk.inj hE
    obtain ⟨q1, hE⟩ := Prod.mk.inj hE
    obtain ⟨q2, hE⟩ := Prod.mk.inj hE
    obtain ⟨q3, hE⟩ := Prod.mk.inj hE
    obtain ⟨q4, hE⟩ := Prod.mk.inj hE
    obtain ⟨q5, hE⟩ := Prod.mk.inj hE
    obtain ⟨q6, q7⟩ := Prod.mk.inj hE
    exact ev hx hb hr hlocks hK hP hD hS (by rw [q0, q1, q2, q3, q4, q5, q6, q7]) dX8_runCommand_157
  · replace hE := it_f hE c_6_99
    by_cases c_6_104 : (imT 3 0) = 104
    · replace hE := it_t hE c_6_104
      refine lv_lookup (tgt := 68) (off := 41) hx hb dX8_runCommand_27 (by decide) (by rw [c_6_104]; decide) (by decide) ?_
      refine lv_aload_n hx hb dX8_runCommand_68 rfl (lv_at hl 2 rfl) ?_
      refine va_get (D := D) (ci := 8) (v := .ref (aP 0)) (C := RX8) (T := TX8) (N := 4) hx hb hts iX8 hown hK hP 0 rfl rfl 0 (by decide) f10 (fun _ h9 => h9) rfl dX8_runCommand_69 ?_
      refine lv_iload_n hx hb dX8_runCommand_72 rfl (lv_at hl 1 rfl) ?_
      obtain ⟨r_14, mP_15, nP_16, mS_17, mB_18, mO_19, mR_20, mA_21, nA_22, hc_23, hE⟩ := bd9_el hE
      refine ki (X := ((W_I aI aP adP aH aT) ++ ((W_T cy aT imT) ++ ((W_P cy adP adS adB adO adR adA imdP indP) ++ ((W_S cy adS imdS) ++ ((W_B cy adB imdB) ++ ((W_O cy adO imdO) ++ ((W_R cy adR imdR) ++ (W_A cy adA imdA indA))))))))) (Y := ((W_H cy aH ah imH) ++ (W_HS cy ah ihs))) (ws1 := (W_All cy aI aT adP adS adB adO adR adA aP aS aB aO aR aA aH ah imT imdP indP imdS imdB imdO imdR imdA indA mP_15 nP_16 mS_17 mB_18 mO_19 mR_20 mA_21 nA_22 imH ihs)) (rV (X := ((W_I aI aP adP aH aT) ++ ((W_T cy aT imT) ++ ((W_P cy adP adS adB adO adR adA imdP indP) ++ ((W_S cy adS imdS) ++ ((W_B cy adB imdB) ++ ((W_O cy adO imdO) ++ ((W_R cy adR imdR) ++ (W_A cy adA imdA indA))))))))) (Y := ((W_H cy aH ah imH) ++ (W_HS cy ah ihs))) (As := [.int x1_1]) (rest := []) hC (c_X4_letPass l D cy aP aS aB aO aR aA x1_1 imP inP imS imB imO imR imA inA r_14 mP_15 nP_16 mS_17 mB_18 mO_19 mR_20 mA_21 nA_22 hc_23) (cwV 1 hts gX8_runCommand_X4_letPass rfl rfl rfl (by decide +kernel) ⟨Nat.le_of_ble_eq_true rfl, Nat.le_of_ble_eq_true rfl⟩) hK hN hP hD hS hA rfl 0 4 rfl rfl rfl hl.1 rfl (lv_room (Nat.le_of_ble_eq_true rfl)) dX8_runCommand_73 ⟨Nat.le_of_ble_eq_true rfl, Nat.le_of_ble_eq_true rfl⟩) hP hD hS hA rfl rfl rfl (fun H locs hP hD hS => ?_)
      refine lv_pop hx hb dX8_runCommand_76 rfl ?_
      refine lv_goto (tgt := 157) hx hb dX8_runCommand_77 (by decide) ?_
      have hE := Option.some.inj hE
      obtain ⟨q0, hE⟩ := Prod.mk.inj hE
      obtain ⟨q1, hE⟩ := Prod.mk.inj hE
      obtain ⟨q2, hE⟩ := Prod.mk.inj hE
      obtain ⟨q3, hE⟩ := Prod.mk.inj hE
      obtain ⟨q4, hE⟩ := Prod.mk.inj hE
      obtain ⟨q5, hE⟩ := Prod.mk.inj hE
      obtain ⟨q6, q7⟩ := Prod.mk.inj hE
      exact ev hx hb hr hlocks hK hP hD hS (by rw [q0, q1, q2, q3, q4, q5, q6, q7]) dX8_runCommand_157
    · replace hE := it_f hE c_6_104
      by_cases c_6_111 : (imT 3 0) = 111
      · replace hE := it_t hE c_6_111
        refine lv_lookup (tgt := 80) (off := 53) hx hb dX8_runCommand_27 (by decide) (by rw [c_6_111]; decide) (by decide) ?_
        refine lv_aload_n hx hb dX8_runCommand_80 rfl (lv_at hl 2 rfl) ?_
        refine va_get (D := D) (ci := 8) (v := .ref (aP 0)) (C := RX8) (T := TX8) (N := 4) hx hb hts iX8 hown hK hP 0 rfl rfl 0 (by decide) f10 (fun _ h9 => h9) rfl dX8_runCommand_81 ?_
        refine va_get (D := D) (ci := 4) (v := .ref (aO 0)) (C := RX4) (T := TX4) (N := 13) hx hb hts iX4 hown hK hP 40 rfl rfl 4 (by decide) f135 (fun _ h9 => h9) rfl dX8_runCommand_84 ?_
        refine lv_iload_n hx hb dX8_runCommand_87 rfl (lv_at hl 1 rfl) ?_
        refine lv_iload_n hx hb dX8_runCommand_88 rfl (lv_at hl 0 rfl) ?_
        refine lv_aload_n hx hb dX8_runCommand_89 rfl (lv_at hl 2 rfl) ?_
        refine va_get (D := D) (ci := 8) (v := .ref (aT 0)) (C := RX8) (T := TX8) (N := 4) hx hb hts iX8 hown hK hP 0 rfl rfl 3 (by decide) f29 (fun _ h9 => h9) rfl dX8_runCommand_90 ?_
        refine va_get (D := D) (ci := 7) (v := .ref (aT 6)) (C := RX7) (T := TX7) (N := 8) hx hb hts iX7 hown hK hP 1 rfl rfl 5 (by decide) f323 (fun _ h9 => h9) rfl dX8_runCommand_93 ?_
        refine lv_iconst (v := 2) hx hb dX8_runCommand_96 (by decide) ?_
        refine va_iald hx hb hK hP 2 0 rfl rfl (show ¬ ((2 : Int32) < 0 ∨ 3 ≤ (2 : Int32).toNatClampNeg) by decide) dX8_runCommand_97 ?_
        refine lv_aload_n hx hb dX8_runCommand_98 rfl (lv_at hl 2 rfl) ?_
        refine va_get (D := D) (ci := 8) (v := .ref (aT 0)) (C := RX8) (T := TX8) (N := 4) hx hb hts iX8 hown hK hP 0 rfl rfl 3 (by decide) f29 (fun _ h9 => h9) rfl dX8_runCommand_99 ?_
        refine va_get (D := D) (ci := 7) (v := .int (imT 4 0)) (C := RX7) (T := TX7) (N := 8) hx hb hts iX7 hown hK hP 1 rfl rfl 4 (by decide) f330 (fun _ h9 => h9) rfl dX8_runCommand_102 ?_
        obtain ⟨r_11, mO_12, hc_13, hE⟩ := bd2_el hE
        refine ki (X := ((W_I aI aP adP aH aT) ++ ((W_T cy aT imT) ++ ((W_P cy adP adS adB adO adR adA imdP indP) ++ ((W_S cy adS imdS) ++ ((W_B cy adB imdB) ++ ((W_O cy adO imdO) ++ ((W_R cy adR imdR) ++ ((W_A cy adA imdA indA) ++ ((W_P cy aP aS aB aO aR aA imP inP) ++ ((W_S cy aS imS) ++ (W_B cy aB imB)))))))))))) (Y := ((W_R cy aR imR) ++ ((W_A cy aA imA inA) ++ ((W_H cy aH ah imH) ++ (W_HS cy ah ihs))))) (ws1 := (W_All cy aI aT adP adS adB adO adR adA aP aS aB aO aR aA aH ah imT imdP indP imdS imdB imdO imdR imdA indA imP inP imS imB mO_12 imR imA inA imH ihs)) (rV (X := ((W_I aI aP adP aH aT) ++ ((W_T cy aT imT) ++ ((W_P cy adP adS adB adO adR adA imdP indP) ++ ((W_S cy adS imdS) ++ ((W_B cy adB imdB) ++ ((W_O cy adO imdO) ++ ((W_R cy adR imdR) ++ ((W_A cy adA imdA indA) ++ ((W_P cy aP aS aB aO aR aA imP inP) ++ ((W_S cy aS imS) ++ (W_B cy aB imB)))))))))))) (Y := ((W_R cy aR imR) ++ ((W_A cy aA imA inA) ++ ((W_H cy aH ah imH) ++ (W_HS cy ah ihs))))) (As := [.int x1_1, .int x2_2, .int (imT 5 (2 : Int32).toNatClampNeg), .int (imT 4 0)]) (rest := []) hC (c_X3_place l D cy aO x1_1 x2_2 (imT 5 (2 : Int32).toNatClampNeg) (imT 4 0) imO r_11 mO_12 hc_13) (cwV 4 hts gX8_runCommand_X3_place rfl rfl rfl (by decide +kernel) ⟨Nat.le_of_ble_eq_true rfl, Nat.le_of_ble_eq_true rfl⟩) hK hN hP hD hS hA rfl 0 3 rfl rfl rfl hl.1 rfl (lv_room (Nat.le_of_ble_eq_true rfl)) dX8_runCommand_105 ⟨Nat.le_of_ble_eq_true rfl, Nat.le_of_ble_eq_true rfl⟩) hP hD hS hA rfl rfl rfl (fun H locs hP hD hS => ?_)
        refine lv_pop hx hb dX8_runCommand_108 rfl ?_
        refine lv_goto (tgt := 157) hx hb dX8_runCommand_109 (by decide) ?_
        have hE := Option.some.inj hE
        obtain ⟨q0, hE⟩ := Prod.mk.inj hE
        obtain ⟨q1, hE⟩ := Prod.mk.inj hE
        obtain ⟨q2, hE⟩ := Prod.mk.inj hE
        obtain ⟨q3, hE⟩ := Prod.mk.inj hE
        obtain ⟨q4, hE⟩ := Prod.mk.inj hE
        obtain ⟨q5, hE⟩ := Prod.mk.inj hE
        obtain ⟨q6, q7⟩ := Prod.mk.inj hE
        exact ev hx hb hr hlocks hK hP hD hS (by rw [q0, q1, q2, q3, q4, q5, q6, q7]) dX8_runCommand_157
      · replace hE := it_f hE c_6_111
        by_cases c_6_112 : (imT 3 0) = 112
        · replace hE := it_t hE c_6_112
          refine lv_lookup (tgt := 131) (off := 104) hx hb dX8_runCommand_27 (by decide) (by rw [c_6_112]; decide) (by decide) ?_
          refine lv_aload_n hx hb dX8_runCommand_131 rfl (lv_at hl 2 rfl) ?_
          refine va_get (D := D) (ci := 8) (v := .ref (aP 0)) (C := RX8) (T := TX8) (N := 4) hx hb hts iX8 hown hK hP 0 rfl rfl 0 (by decide) f10 (fun _ h9 => h9) rfl dX8_runCommand_132 ?_
          refine lv_iload_n hx hb dX8_runCommand_135 rfl (lv_at hl 1 rfl) ?_
          refine lv_iload_n hx hb dX8_runCommand_136 rfl (lv_at hl 0 rfl) ?_
          obtain ⟨r_7, nP_8, mB_9, hc_10, hE⟩ := bd3_el hE
          refine ki (X := ((W_I aI aP adP aH aT) ++ ((W_T cy aT imT) ++ ((W_P cy adP adS adB adO adR adA imdP indP) ++ ((W_S cy adS imdS) ++ ((W_B cy adB imdB) ++ ((W_O cy adO imdO) ++ ((W_R cy adR imdR) ++ (W_A cy adA imdA indA))))))))) (Y := ((W_H cy aH ah imH) ++ (W_HS cy ah ihs))) (ws1 := (W_All cy aI aT adP adS adB adO adR adA aP aS aB aO aR aA aH ah imT imdP indP imdS imdB imdO imdR imdA indA imP nP_8 imS mB_9 imO imR imA inA imH ihs)) (rV (X := ((W_I aI aP adP aH aT) ++ ((W_T cy aT imT) ++ ((W_P cy adP adS adB adO adR adA imdP indP) ++ ((W_S cy adS imdS) ++ ((W_B cy adB imdB) ++ ((W_O cy adO imdO) ++ ((W_R cy adR imdR) ++ (W_A cy adA imdA indA))))))))) (Y := ((W_H cy aH ah imH) ++ (W_HS cy ah ihs))) (As := [.int x1_1, .int x2_2]) (rest := []) hC (c_X4_takePayment l D cy aP aS aB aO aR aA x1_1 x2_2 imP inP imS imB imO imR imA inA r_7 nP_8 mB_9 hc_10) (cwV 2 hts gX8_runCommand_X4_takePayment rfl rfl rfl (by decide +kernel) ⟨Nat.le_of_ble_eq_true rfl, Nat.le_of_ble_eq_true rfl⟩) hK hN hP hD hS hA rfl 0 4 rfl rfl rfl hl.1 rfl (lv_room (Nat.le_of_ble_eq_true rfl)) dX8_runCommand_137 ⟨Nat.le_of_ble_eq_true rfl, Nat.le_of_ble_eq_true rfl⟩) hP hD hS hA rfl rfl rfl (fun H locs hP hD hS => ?_)
          refine lv_pop hx hb dX8_runCommand_140 rfl ?_
          refine lv_goto (tgt := 157) hx hb dX8_runCommand_141 (by decide) ?_
          have hE := Option.some.inj hE
          obtain ⟨q0, hE⟩ := Prod.mk.inj hE
          obtain ⟨q1, hE⟩ := Prod.mk.inj hE
          obtain ⟨q2, hE⟩ := Prod.mk.inj hE
          obtain ⟨q3, hE⟩ := Prod.mk.inj hE
          obtain ⟨q4, hE⟩ := Prod.mk.inj hE
          obtain ⟨q5, hE⟩ := Prod.mk.inj hE
          obtain ⟨q6, q7⟩ := Prod.mk.inj hE
          exact ev hx hb hr hlocks hK hP hD hS (by rw [q0, q1, q2, q3, q4, q5, q6, q7]) dX8_runCommand_157
        · replace hE := it_f hE c_6_112
          refine lv_lookup (tgt := 144) (off := 117) hx hb dX8_runCommand_27 (by decide) (lk_out _ (fun q h9 => ?_)) (by decide) ?_
          · have h9 : q ∈ [((99 : Int), (85 : Int)), ((104 : Int), (41 : Int)), ((111 : Int), (53 : Int)), ((112 : Int), (104 : Int))] := h9
            simp only [List.mem_cons, List.not_mem_nil, or_false] at h9
            rcases h9 with rfl | rfl | rfl | rfl
            · exact fun q9 => c_6_99 (q9.trans (by decide))
            · exact fun q9 => c_6_104 (q9.trans (by decide))
            · exact fun q9 => c_6_111 (q9.trans (by decide))
            · exact fun q9 => c_6_112 (q9.trans (by decide))
          · refine lv_aload_n hx hb dX8_runCommand_144 rfl (lv_at hl 2 rfl) ?_
            refine va_get (D := D) (ci := 8) (v := .ref (aP 0)) (C := RX8) (T := TX8) (N := 4) hx hb hts iX8 hown hK hP 0 rfl rfl 0 (by decide) f10 (fun _ h9 => h9) rfl dX8_runCommand_145 ?_
            refine va_get (D := D) (ci := 4) (v := .ref (aS 0)) (C := RX4) (T := TX4) (N := 13) hx hb hts iX4 hown hK hP 40 rfl rfl 2 (by decide) f43 (fun _ h9 => h9) rfl dX8_runCommand_148 ?_
            refine lv_iload_n hx hb dX8_runCommand_151 rfl (lv_at hl 1 rfl) ?_
            refine lv_iload_n hx hb dX8_runCommand_152 rfl (lv_at hl 0 rfl) ?_
            obtain ⟨r_3, mS_4, hc_5, hE⟩ := bd2_el hE
            refine ki (X := ((W_I aI aP adP aH aT) ++ ((W_T cy aT imT) ++ ((W_P cy adP adS adB adO adR adA imdP indP) ++ ((W_S cy adS imdS) ++ ((W_B cy adB imdB) ++ ((W_O cy adO imdO) ++ ((W_R cy adR imdR) ++ ((W_A cy adA imdA indA) ++ (W_P cy aP aS aB aO aR aA imP inP)))))))))) (Y := ((W_B cy aB imB) ++ ((W_O cy aO imO) ++ ((W_R cy aR imR) ++ ((W_A cy aA imA inA) ++ ((W_H cy aH ah imH) ++ (W_HS cy ah ihs))))))) (ws1 := (W_All cy aI aT adP adS adB adO adR adA aP aS aB aO aR aA aH ah imT imdP indP imdS imdB imdO imdR imdA indA imP inP mS_4 imB imO imR imA inA imH ihs)) (rV (X := ((W_I aI aP adP aH aT) ++ ((W_T cy aT imT) ++ ((W_P cy adP adS adB adO adR adA imdP indP) ++ ((W_S cy adS imdS) ++ ((W_B cy adB imdB) ++ ((W_O cy adO imdO) ++ ((W_R cy adR imdR) ++ ((W_A cy adA imdA indA) ++ (W_P cy aP aS aB aO aR aA imP inP)))))))))) (Y := ((W_B cy aB imB) ++ ((W_O cy aO imO) ++ ((W_R cy aR imR) ++ ((W_A cy aA imA inA) ++ ((W_H cy aH ah imH) ++ (W_HS cy ah ihs))))))) (As := [.int x1_1, .int x2_2]) (rest := []) hC (c_X6_moveTop l D cy aS x1_1 x2_2 imS r_3 mS_4 hc_5) (cwV 2 hts gX8_runCommand_X6_moveTop rfl rfl rfl (by decide +kernel) ⟨Nat.le_of_ble_eq_true rfl, Nat.le_of_ble_eq_true rfl⟩) hK hN hP hD hS hA rfl 0 6 rfl rfl rfl hl.1 rfl (lv_room (Nat.le_of_ble_eq_true rfl)) dX8_runCommand_153 ⟨Nat.le_of_ble_eq_true rfl, Nat.le_of_ble_eq_true rfl⟩) hP hD hS hA rfl rfl rfl (fun H locs hP hD hS => ?_)
            refine lv_pop hx hb dX8_runCommand_156 rfl ?_
            have hE := Option.some.inj hE
            obtain ⟨q0, hE⟩ := Prod.mk.inj hE
            obtain ⟨q1, hE⟩ := Prod.mk.inj hE
            obtain ⟨q2, hE⟩ := Prod.mk.inj hE
            obtain ⟨q3, hE⟩ := Prod.mk.inj hE
            obtain ⟨q4, hE⟩ := Prod.mk.inj hE
            obtain ⟨q5, hE⟩ := Prod.mk.inj hE
            obtain ⟨q6, q7⟩ := Prod.mk.inj hE
            exact ev hx hb hr hlocks hK hP hD hS (by rw [q0, q1, q2, q3, q4, q5, q6, q7]) dX8_runCommand_157
abbrev rm_X8_execute : Room := { frames := 8, cells := 1, slots := 6, locals := 167 }
set_option maxHeartbeats 40000000 in
set_option maxRecDepth 100000 in
theorem c_X8_execute (l : Launch) (hst : l.stackTraces = false) (D : va_G) (cy : Nat → Nat) (aI aT adP adS adB adO adR adA aP aS aB aO aR aA aH : Nat → Nat) (ah : Nat → Nat → Nat → Nat) (imT : Mem) (imdP : Mem) (indP : MemL) (imdS : Mem) (imdB : Mem) (imdO : Mem) (imdR : Mem) (imdA : Mem) (indA : MemL) (imP : Mem) (inP : MemL) (imS : Mem) (imB : Mem) (imO : Mem) (imR : Mem) (imA : Mem) (inA : MemL) (imH : Mem) (ihs : (Nat → PSt)) (k' : Nat) (r' : Int32) (mT' : Mem) (mP' : Mem) (nP' : MemL) (mS' : Mem) (mB' : Mem) (mO' : Mem) (mR' : Mem) (mA' : Mem) (nA' : MemL) (mH' : Mem) (hs' : (Nat → PSt)) (hE : f_X8_execute imT imdP indP imdS imdB imdO imdR imdA indA imP inP imS imB imO imR imA inA imH ihs = some (k', r', mT', mP', nP', mS', mB', mO', mR', mA', nA', mH', hs')) : CXI l yX8_execute wsX8_execute rm_X8_execute D cy [.ref (aI 0)] (W_All cy aI aT adP adS adB adO adR adA aP aS aB aO aR aA aH ah imT imdP indP imdS imdB imdO imdR imdA indA imP inP imS imB imO imR imA inA imH ihs) 1 6 k' r' (W_All cy aI aT adP adS adB adO adR adA aP aS aB aO aR aA aH ah mT' imdP indP imdS imdB imdO imdR imdA indA mP' nP' mS' mB' mO' mR' mA' nA' mH' hs') := by
  refine CX_of (cc := cX8_execute) (maxL := 2) (ret := (some .int)) (by decide) rfl (Nat.le_of_ble_eq_true rfl) (fun p e s m args below meth c A ls hx hb hr hml hlocks hnm hown hts hA htab hK hN hP hD hS hl => ?_)
  have hown : s.vm.findClass RX8 = some m.cls := hown
  have hl : lv_has ls 2 [(0, .ref (aI 0))] := hl
  have hC : CallFix p m c cX8_execute 2 s args wsX8_execute RX8 := ⟨hx, hb, hml, hown, hts⟩
  have f10 : (Cond.fieldLink RX8 10 "IcePlant" "now" "LIcePlant$Plant;").before args s = true := hts _ (by decide +kernel)
  have f22 : (Cond.fieldLink RX8 22 "IcePlant" "history" "LIcePlant$History;").before args s = true := hts _ (by decide +kernel)
  have f29 : (Cond.fieldLink RX8 29 "IcePlant" "text" "LIcePlant$Text;").before args s = true := hts _ (by decide +kernel)
  have f250 : (Cond.fieldLink RX8 250 "IcePlant$Text" "error" "I").before args s = true := hts _ (by decide +kernel)
  have iX7 : ∀ w ∈ wsX70, w ∈ wsX8_execute := by decide +kernel
  have iX8 : ∀ w ∈ wsX80, w ∈ wsX8_execute := by decide +kernel
  have h88 : ∀ (x1 : Int32) (mT : Mem) (mP : Mem) (nP : MemL) (mS : Mem) (mB : Mem) (mO : Mem) (mR : Mem) (mA : Mem) (nA : MemL) (mH : Mem) (hs : (Nat → PSt)), ∀  (H : Heap) (locs : List Loc) (ls : Array Slot), f_X8_execute_b88 x1 mT imdP indP imdS imdB imdO imdR imdA indA mP nP mS mB mO mR mA nA mH hs = some (k', r', mT', mP', nP', mS', mB', mO', mR', mA', nA', mH', hs') → va_P D vwCl (W_All cy aI aT adP adS adB adO adR adA aP aS aB aO aR aA aH ah mT imdP indP imdS imdB imdO imdR imdA indA mP nP mS mB mO mR mA nA mH hs) H → va_D A (W_All cy aI aT adP adS adB adO adR adA aP aS aB aO aR aA aH ah mT imdP indP imdS imdB imdO imdR imdA indA mP nP mS mB mO mR mA nA mH hs) → va_S A s.heap H locs → lv_has ls 2 [(0, .ref (aI 0)), (1, .int x1)] → W p l e rm_X8_execute s m args below meth c H locs 1 6 (vx_MQ below (QXI D cy k' r' (W_All cy aI aT adP adS adB adO adR adA aP aS aB aO aR aA aH ah mT' imdP indP imdS imdB imdO imdR imdA indA mP' nP' mS' mB' mO' mR' mA' nA' mH' hs') A) (XX D cy k' (W_All cy aI aT adP adS adB adO adR adA aP aS aB aO aR aA aH ah mT' imdP indP imdS imdB imdO imdR imdA indA mP' nP' mS' mB' mO' mR' mA' nA' mH' hs') A) args s 1 6 A) (F0 m 88 ls []) := by
    intro x1 mT mP nP mS mB mO mR mA nA mH hs H locs ls hE hP hD hS hl
    replace hE : (bd2 (f_X7_empty mT) fun r_1 mT_2 => some (0, x1, mT_2, mP, nP, mS, mB, mO, mR, mA, nA, mH, hs)) = some (k', r', mT', mP', nP', mS', mB', mO', mR', mA', nA', mH', hs') := hE
    refine lv_aload_n hx hb dX8_execute_88 rfl (lv_at hl 0 rfl) ?_
    refine va_get (D := D) (ci := 8) (v := .ref (aT 0)) (C := RX8) (T := TX8) (N := 4) hx hb hts iX8 hown hK hP 0 rfl rfl 3 (by decide) f29 (fun _ h9 => h9) rfl dX8_execute_89 ?_
    obtain ⟨r_1, mT_2, hc_3, hE⟩ := bd2_el hE
    refine ki (X := (W_I aI aP adP aH aT)) (Y := ((W_P cy adP adS adB adO adR adA imdP indP) ++ ((W_S cy adS imdS) ++ ((W_B cy adB imdB) ++ ((W_O cy adO imdO) ++ ((W_R cy adR imdR) ++ ((W_A cy adA imdA indA) ++ ((W_P cy aP aS aB aO aR aA mP nP) ++ ((W_S cy aS mS) ++ ((W_B cy aB mB) ++ ((W_O cy aO mO) ++ ((W_R cy aR mR) ++ ((W_A cy aA mA nA) ++ ((W_H cy aH ah mH) ++ (W_HS cy ah hs))))))))))))))) (ws1 := (W_All cy aI aT adP adS adB adO adR adA aP aS aB aO aR aA aH ah mT_2 imdP indP imdS imdB imdO imdR imdA indA mP nP mS mB mO mR mA nA mH hs)) (rV (X := (W_I aI aP adP aH aT)) (Y := ((W_P cy adP adS adB adO adR adA imdP indP) ++ ((W_S cy adS imdS) ++ ((W_B cy adB imdB) ++ ((W_O cy adO imdO) ++ ((W_R cy adR imdR) ++ ((W_A cy adA imdA indA) ++ ((W_P cy aP aS aB aO aR aA mP nP) ++ ((W_S cy aS mS) ++ ((W_B cy aB mB) ++ ((W_O cy aO mO) ++ ((W_R cy aR mR) ++ ((W_A cy aA mA nA) ++ ((W_H cy aH ah mH) ++ (W_HS cy ah hs))))))))))))))) (As := []) (rest := []) hC (c_X7_empty l D cy aT mT r_1 mT_2 hc_3) (cwV 0 hts gX8_execute_X7_empty rfl rfl rfl (by decide +kernel) ⟨Nat.le_of_ble_eq_true rfl, Nat.le_of_ble_eq_true rfl⟩) hK hN hP hD hS hA rfl 0 7 rfl rfl rfl hl.1 rfl (lv_room (Nat.le_of_ble_eq_true rfl)) dX8_execute_92 ⟨Nat.le_of_ble_eq_true rfl, Nat.le_of_ble_eq_true rfl⟩) hP hD hS hA rfl rfl rfl (fun H locs hP hD hS => ?_)
    refine lv_pop hx hb dX8_execute_95 rfl ?_
    refine lv_iload_n hx hb dX8_execute_96 rfl (lv_at hl 1 rfl) ?_
    have hE := Option.some.inj hE
    obtain ⟨q0, hE⟩ := Prod.mk.inj hE
    obtain ⟨q1, hE⟩ := Prod.mk.inj hE
    obtain ⟨q2, hE⟩ := Prod.mk.inj hE
    obtain ⟨q3, hE⟩ := Prod.mk.inj hE
    obtain ⟨q4, hE⟩ := Prod.mk.inj hE
    obtain ⟨q5, hE⟩ := Prod.mk.inj hE
    obtain ⟨q6, hE⟩ := Prod.mk.inj hE
    obtain ⟨q7, hE⟩ := Prod.mk.inj hE
    obtain ⟨q8, hE⟩ := Prod.mk.inj hE
    obtain ⟨q9, hE⟩ := Prod.mk.inj hE
    obtain ⟨q10, hE⟩ := Prod.mk.inj hE
    obtain ⟨q11, q12⟩ := Prod.mk.inj hE
    exact exi hx hb hr hlocks hK hP hD hS q0 q1 (by rw [q2, q3, q4, q5, q6, q7, q8, q9, q10, q11, q12]) (Nat.le_of_ble_eq_true rfl) (Nat.le_of_ble_eq_true rfl) dX8_execute_97
  have h45 : ∀ (mH : Mem) (hs : (Nat → PSt)), ∀ (n : Nat), ∀ (x1 : Int32) (mT : Mem) (mP : Mem) (nP : MemL) (mS : Mem) (mB : Mem) (mO : Mem) (mR : Mem) (mA : Mem) (nA : MemL) (H : Heap) (locs : List Loc) (ls : Array Slot), f_X8_execute_L45 imdP indP imdS imdB imdO imdR imdA indA mH hs n x1 mT mP nP mS mB mO mR mA nA = some (k', r', mT', mP', nP', mS', mB', mO', mR', mA', nA', mH', hs') → va_P D vwCl (W_All cy aI aT adP adS adB adO adR adA aP aS aB aO aR aA aH ah mT imdP indP imdS imdB imdO imdR imdA indA mP nP mS mB mO mR mA nA mH hs) H → va_D A (W_All cy aI aT adP adS adB adO adR adA aP aS aB aO aR aA aH ah mT imdP indP imdS imdB imdO imdR imdA indA mP nP mS mB mO mR mA nA mH hs) → va_S A s.heap H locs → lv_has ls 2 [(0, .ref (aI 0)), (1, .int x1)] → W p l e rm_X8_execute s m args below meth c H locs 1 6 (vx_MQ below (QXI D cy k' r' (W_All cy aI aT adP adS adB adO adR adA aP aS aB aO aR aA aH ah mT' imdP indP imdS imdB imdO imdR imdA indA mP' nP' mS' mB' mO' mR' mA' nA' mH' hs') A) (XX D cy k' (W_All cy aI aT adP adS adB adO adR adA aP aS aB aO aR aA aH ah mT' imdP indP imdS imdB imdO imdR imdA indA mP' nP' mS' mB' mO' mR' mA' nA' mH' hs') A) args s 1 6 A) (F0 m 45 ls []) := by
    intro mH hs n
    induction n with
    | zero => intro x1 mT mP nP mS mB mO mR mA nA H locs ls hE; exact absurd hE (fun h9 => nomatch h9)
    | succ n ih =>
      intro x1 mT mP nP mS mB mO mR mA nA H locs ls hE hP hD hS hl
      replace hE : ((if (120 : Int32) ≤ x1 then f_X8_execute_b88 x1 mT imdP indP imdS imdB imdO imdR imdA indA mP nP mS mB mO mR mA nA mH hs else bd1 (f_X7_hasCommand mT) fun r_5 => (if r_5 = 0 then f_X8_execute_b88 x1 mT imdP indP imdS imdB imdO imdR imdA indA mP nP mS mB mO mR mA nA mH hs else bd1 (f_X7_readCommand mT) fun mT_8 => bd1 (f_X8_commandFault mT_8 imdP indP imdS imdB imdO imdR imdA indA mP nP mS mB mO mR mA nA mH hs) fun r_10 => (if r_10 = 0 then bd8 (f_X8_runCommand mT_8 imdP indP imdS imdB imdO imdR imdA indA mP nP mS mB mO mR mA nA mH hs) fun mP_13 nP_14 mS_15 mB_16 mO_17 mR_18 mA_19 nA_20 => lt' (x1 + (1 : Int32)) fun x1_22 => (f_X8_execute_L45 imdP indP imdS imdB imdO imdR imdA indA mH hs n) x1_22 mT_8 mP_13 nP_14 mS_15 mB_16 mO_17 mR_18 mA_19 nA_20 else f_X8_execute_b88 x1 mT_8 imdP indP imdS imdB imdO imdR imdA indA mP nP mS mB mO mR mA nA mH hs)))) = some (k', r', mT', mP', nP', mS', mB', mO', mR', mA', nA', mH', hs') := hE
      refine lv_iload_n hx hb dX8_execute_45 rfl (lv_at hl 1 rfl) ?_
      refine lv_bipush (v := 120) hx hb dX8_execute_46 (by decide) ?_
      refine lv_icmp_ge (tgt := 88) hx hb dX8_execute_48 (by decide) (fun c_4 => ?_) (fun c_4 => ?_)
      · replace hE := it_t hE c_4
        refine W.widen (k := 1) (n := 6) (Nat.le_of_ble_eq_true rfl) (Nat.le_of_ble_eq_true rfl) ?_
        exact h88 x1 mT mP nP mS mB mO mR mA nA mH hs _ _ _ hE hP hD hS (lv_sub hl [0, 1] rfl)
      · replace hE := it_f hE c_4
        refine lv_aload_n hx hb dX8_execute_51 rfl (lv_at hl 0 rfl) ?_
        refine va_get (D := D) (ci := 8) (v := .ref (aT 0)) (C := RX8) (T := TX8) (N := 4) hx hb hts iX8 hown hK hP 0 rfl rfl 3 (by decide) f29 (fun _ h9 => h9) rfl dX8_execute_52 ?_
        obtain ⟨r_5, hc_6, hE⟩ := bd1_el hE
        refine ki (X := (W_I aI aP adP aH aT)) (Y := ((W_P cy adP adS adB adO adR adA imdP indP) ++ ((W_S cy adS imdS) ++ ((W_B cy adB imdB) ++ ((W_O cy adO imdO) ++ ((W_R cy adR imdR) ++ ((W_A cy adA imdA indA) ++ ((W_P cy aP aS aB aO aR aA mP nP) ++ ((W_S cy aS mS) ++ ((W_B cy aB mB) ++ ((W_O cy aO mO) ++ ((W_R cy aR mR) ++ ((W_A cy aA mA nA) ++ ((W_H cy aH ah mH) ++ (W_HS cy ah hs))))))))))))))) (ws1 := (W_All cy aI aT adP adS adB adO adR adA aP aS aB aO aR aA aH ah mT imdP indP imdS imdB imdO imdR imdA indA mP nP mS mB mO mR mA nA mH hs)) (rV (X := (W_I aI aP adP aH aT)) (Y := ((W_P cy adP adS adB adO adR adA imdP indP) ++ ((W_S cy adS imdS) ++ ((W_B cy adB imdB) ++ ((W_O cy adO imdO) ++ ((W_R cy adR imdR) ++ ((W_A cy adA imdA indA) ++ ((W_P cy aP aS aB aO aR aA mP nP) ++ ((W_S cy aS mS) ++ ((W_B cy aB mB) ++ ((W_O cy aO mO) ++ ((W_R cy aR mR) ++ ((W_A cy aA mA nA) ++ ((W_H cy aH ah mH) ++ (W_HS cy ah hs))))))))))))))) (As := []) (rest := []) hC (c_X7_hasCommand l D cy aT mT r_5 hc_6) (cwV 0 hts gX8_execute_X7_hasCommand rfl rfl rfl (by decide +kernel) ⟨Nat.le_of_ble_eq_true rfl, Nat.le_of_ble_eq_true rfl⟩) hK hN hP hD hS hA rfl 0 7 rfl rfl rfl hl.1 rfl (lv_room (Nat.le_of_ble_eq_true rfl)) dX8_execute_55 ⟨Nat.le_of_ble_eq_true rfl, Nat.le_of_ble_eq_true rfl⟩) hP hD hS hA rfl rfl rfl (fun H locs hP hD hS => ?_)
        refine lv_if_eq (tgt := 88) hx hb dX8_execute_58 (by decide) (fun c_7 => ?_) (fun c_7 => ?_)
        · replace hE := it_t hE c_7
          refine W.widen (k := 1) (n := 6) (Nat.le_of_ble_eq_true rfl) (Nat.le_of_ble_eq_true rfl) ?_
          exact h88 x1 mT mP nP mS mB mO mR mA nA mH hs _ _ _ hE hP hD hS (lv_sub hl [0, 1] rfl)
        · replace hE := it_f hE c_7
          refine lv_aload_n hx hb dX8_execute_61 rfl (lv_at hl 0 rfl) ?_
          refine va_get (D := D) (ci := 8) (v := .ref (aT 0)) (C := RX8) (T := TX8) (N := 4) hx hb hts iX8 hown hK hP 0 rfl rfl 3 (by decide) f29 (fun _ h9 => h9) rfl dX8_execute_62 ?_
          obtain ⟨mT_8, hc_9, hE⟩ := bd1_el hE
          refine kv (X := (W_I aI aP adP aH aT)) (Y := ((W_P cy adP adS adB adO adR adA imdP indP) ++ ((W_S cy adS imdS) ++ ((W_B cy adB imdB) ++ ((W_O cy adO imdO) ++ ((W_R cy adR imdR) ++ ((W_A cy adA imdA indA) ++ ((W_P cy aP aS aB aO aR aA mP nP) ++ ((W_S cy aS mS) ++ ((W_B cy aB mB) ++ ((W_O cy aO mO) ++ ((W_R cy aR mR) ++ ((W_A cy aA mA nA) ++ ((W_H cy aH ah mH) ++ (W_HS cy ah hs))))))))))))))) (ws1 := (W_All cy aI aT adP adS adB adO adR adA aP aS aB aO aR aA aH ah mT_8 imdP indP imdS imdB imdO imdR imdA indA mP nP mS mB mO mR mA nA mH hs)) (rV (X := (W_I aI aP adP aH aT)) (Y := ((W_P cy adP adS adB adO adR adA imdP indP) ++ ((W_S cy adS imdS) ++ ((W_B cy adB imdB) ++ ((W_O cy adO imdO) ++ ((W_R cy adR imdR) ++ ((W_A cy adA imdA indA) ++ ((W_P cy aP aS aB aO aR aA mP nP) ++ ((W_S cy aS mS) ++ ((W_B cy aB mB) ++ ((W_O cy aO mO) ++ ((W_R cy aR mR) ++ ((W_A cy aA mA nA) ++ ((W_H cy aH ah mH) ++ (W_HS cy ah hs))))))))))))))) (As := []) (rest := []) hC (c_X7_readCommand l D cy aT mT mT_8 hc_9) (cwV 0 hts gX8_execute_X7_readCommand rfl rfl rfl (by decide +kernel) ⟨Nat.le_of_ble_eq_true rfl, Nat.le_of_ble_eq_true rfl⟩) hK hN hP hD hS hA rfl 0 7 rfl rfl rfl hl.1 rfl (lv_room (Nat.le_of_ble_eq_true rfl)) dX8_execute_65 ⟨Nat.le_of_ble_eq_true rfl, Nat.le_of_ble_eq_true rfl⟩) hP hD hS hA rfl rfl rfl (fun H locs hP hD hS => ?_)
          refine lv_aload_n hx hb dX8_execute_68 rfl (lv_at hl 0 rfl) ?_
          obtain ⟨r_10, hc_11, hE⟩ := bd1_el hE
          refine ki (X := []) (Y := []) (ws1 := (W_All cy aI aT adP adS adB adO adR adA aP aS aB aO aR aA aH ah mT_8 imdP indP imdS imdB imdO imdR imdA indA mP nP mS mB mO mR mA nA mH hs)) (rV (X := []) (Y := []) (As := []) (rest := []) hC (c_X8_commandFault l D cy aI aT adP adS adB adO adR adA aP aS aB aO aR aA aH ah mT_8 imdP indP imdS imdB imdO imdR imdA indA mP nP mS mB mO mR mA nA mH hs r_10 hc_11) (cwV 0 hts gX8_execute_X8_commandFault rfl rfl rfl (by decide +kernel) ⟨Nat.le_of_ble_eq_true rfl, Nat.le_of_ble_eq_true rfl⟩) hK hN hP hD hS hA rfl 0 8 rfl rfl rfl hl.1 rfl (lv_room (Nat.le_of_ble_eq_true rfl)) dX8_execute_69 ⟨Nat.le_of_ble_eq_true rfl, Nat.le_of_ble_eq_true rfl⟩) hP hD hS hA rfl rfl rfl (fun H locs hP hD hS => ?_)
          refine lv_if_eq (tgt := 78) hx hb dX8_execute_72 (by decide) (fun c_12 => ?_) (fun c_12 => ?_)
          · replace hE := it_t hE c_12
            refine lv_aload_n hx hb dX8_execute_78 rfl (lv_at hl 0 rfl) ?_
            obtain ⟨mP_13, nP_14, mS_15, mB_16, mO_17, mR_18, mA_19, nA_20, hc_21, hE⟩ := bd8_el hE
            refine kv (X := []) (Y := []) (ws1 := (W_All cy aI aT adP adS adB adO adR adA aP aS aB aO aR aA aH ah mT_8 imdP indP imdS imdB imdO imdR imdA indA mP_13 nP_14 mS_15 mB_16 mO_17 mR_18 mA_19 nA_20 mH hs)) (rV (X := []) (Y := []) (As := []) (rest := []) hC (c_X8_runCommand l D cy aI aT adP adS adB adO adR adA aP aS aB aO aR aA aH ah mT_8 imdP indP imdS imdB imdO imdR imdA indA mP nP mS mB mO mR mA nA mH hs mP_13 nP_14 mS_15 mB_16 mO_17 mR_18 mA_19 nA_20 hc_21) (cwV 0 hts gX8_execute_X8_runCommand rfl rfl rfl (by decide +kernel) ⟨Nat.le_of_ble_eq_true rfl, Nat.le_of_ble_eq_true rfl⟩) hK hN hP hD hS hA rfl 0 8 rfl rfl rfl hl.1 rfl (lv_room (Nat.le_of_ble_eq_true rfl)) dX8_execute_79 ⟨Nat.le_of_ble_eq_true rfl, Nat.le_of_ble_eq_true rfl⟩) hP hD hS hA rfl rfl rfl (fun H locs hP hD hS => ?_)
            obtain ⟨x1_22, e_x1_22, hE⟩ := lt_el hE
            refine lv_iinc (v := x1_22) (lv' := [(1, .int x1_22), (0, .ref (aI 0))]) hx hb dX8_execute_82 hl (k := 1) rfl (by rw [e_x1_22]; rfl) (by decide) rfl (fun ls hl => ?_)
            refine lv_goto (tgt := 45) hx hb dX8_execute_85 (by decide) ?_
            refine W.widen (k := 1) (n := 6) (Nat.le_of_ble_eq_true rfl) (Nat.le_of_ble_eq_true rfl) ?_
            exact ih x1_22 mT_8 mP_13 nP_14 mS_15 mB_16 mO_17 mR_18 mA_19 nA_20 _ _ _ hE hP hD hS (lv_sub hl [1, 0] rfl)
          · replace hE := it_f hE c_12
            refine lv_goto (tgt := 88) hx hb dX8_execute_75 (by decide) ?_
            refine W.widen (k := 1) (n := 6) (Nat.le_of_ble_eq_true rfl) (Nat.le_of_ble_eq_true rfl) ?_
            exact h88 x1 mT_8 mP nP mS mB mO mR mA nA mH hs _ _ _ hE hP hD hS (lv_sub hl [0, 1] rfl)
  have h22 : ∀ (t0 : Int32) (mT : Mem) (mP : Mem) (nP : MemL) (mS : Mem) (mB : Mem) (mO : Mem) (mR : Mem) (mA : Mem) (nA : MemL) (mH : Mem) (hs : (Nat → PSt)), ∀  (H : Heap) (locs : List Loc) (ls : Array Slot), f_X8_execute_b22 t0 mT imdP indP imdS imdB imdO imdR imdA indA mP nP mS mB mO mR mA nA mH hs = some (k', r', mT', mP', nP', mS', mB', mO', mR', mA', nA', mH', hs') → va_P D vwCl (W_All cy aI aT adP adS adB adO adR adA aP aS aB aO aR aA aH ah mT imdP indP imdS imdB imdO imdR imdA indA mP nP mS mB mO mR mA nA mH hs) H → va_D A (W_All cy aI aT adP adS adB adO adR adA aP aS aB aO aR aA aH ah mT imdP indP imdS imdB imdO imdR imdA indA mP nP mS mB mO mR mA nA mH hs) → va_S A s.heap H locs → lv_has ls 2 [(0, .ref (aI 0))] → W p l e rm_X8_execute s m args below meth c H locs 1 6 (vx_MQ below (QXI D cy k' r' (W_All cy aI aT adP adS adB adO adR adA aP aS aB aO aR aA aH ah mT' imdP indP imdS imdB imdO imdR imdA indA mP' nP' mS' mB' mO' mR' mA' nA' mH' hs') A) (XX D cy k' (W_All cy aI aT adP adS adB adO adR adA aP aS aB aO aR aA aH ah mT' imdP indP imdS imdB imdO imdR imdA indA mP' nP' mS' mB' mO' mR' mA' nA' mH' hs') A) args s 1 6 A) (F0 m 22 ls [.int t0]) := by
    intro t0 mT mP nP mS mB mO mR mA nA mH hs H locs ls hE hP hD hS hl
    replace hE : (bd1 (f_X8_needState t0) fun k_24 => (if k_24 = 0 then bd2 (f_X2_save mP nP mS mB mO mR mA nA mH hs) fun mH_25 hs_26 => bd1 (f_X7_start mT) fun mT_28 => f_X8_execute_L45 imdP indP imdS imdB imdO imdR imdA indA mH_25 hs_26 fuel (0 : Int32) mT_28 mP nP mS mB mO mR mA nA else some (k_24, (0 : Int32), mT, mP, nP, mS, mB, mO, mR, mA, nA, mH, hs))) = some (k', r', mT', mP', nP', mS', mB', mO', mR', mA', nA', mH', hs') := hE
    obtain ⟨k_24, hc_23, hE⟩ := bd1_el hE
    refine kxv (X := []) (Y := (W_All cy aI aT adP adS adB adO adR adA aP aS aB aO aR aA aH ah mT imdP indP imdS imdB imdO imdR imdA indA mP nP mS mB mO mR mA nA mH hs)) (ws1 := (W_All cy aI aT adP adS adB adO adR adA aP aS aB aO aR aA aH ah mT imdP indP imdS imdB imdO imdR imdA indA mP nP mS mB mO mR mA nA mH hs)) (xS (X := []) (Y := (W_All cy aI aT adP adS adB adO adR adA aP aS aB aO aR aA aH ah mT imdP indP imdS imdB imdO imdR imdA indA mP nP mS mB mO mR mA nA mH hs)) (As := [.int t0]) (rest := []) hC (c_X8_needState l hst D cy t0 k_24 hc_23) (cwS 1 hts gX8_execute_X8_needState rfl rfl rfl (by decide +kernel) ⟨Nat.le_of_ble_eq_true rfl, Nat.le_of_ble_eq_true rfl⟩) hK hN hP hD hS hA rfl rfl hl.1 rfl (lv_room (Nat.le_of_ble_eq_true rfl)) dX8_execute_22 ⟨Nat.le_of_ble_eq_true rfl, Nat.le_of_ble_eq_true rfl⟩) hP hD hS hA rfl rfl rfl (fun hk0 H locs ce q9 hP hD hS hce hcv hcl => ?_) (fun hk0 H locs hP hD hS => ?_)
    · replace hE := it_f hE hk0
      have hE := Option.some.inj hE
      obtain ⟨q0, hE⟩ := Prod.mk.inj hE
      obtain ⟨q1, hE⟩ := Prod.mk.inj hE
      obtain ⟨q2, hE⟩ := Prod.mk.inj hE
      obtain ⟨q3, hE⟩ := Prod.mk.inj hE
      obtain ⟨q4, hE⟩ := Prod.mk.inj hE
      obtain ⟨q5, hE⟩ := Prod.mk.inj hE
      obtain ⟨q6, hE⟩ := Prod.mk.inj hE
      obtain ⟨q7, hE⟩ := Prod.mk.inj hE
      obtain ⟨q8, hE⟩ := Prod.mk.inj hE
      obtain ⟨q9, hE⟩ := Prod.mk.inj hE
      obtain ⟨q10, hE⟩ := Prod.mk.inj hE
      obtain ⟨q11, q12⟩ := Prod.mk.inj hE
      exact exx htab hlocks hK hP hD hS hce hcv hcl hk0 q0 (by rw [q2, q3, q4, q5, q6, q7, q8, q9, q10, q11, q12]) (Nat.le_of_ble_eq_true rfl) (Nat.le_of_ble_eq_true rfl)
    · replace hE := it_t hE hk0
      refine lv_aload_n hx hb dX8_execute_25 rfl (lv_at hl 0 rfl) ?_
      refine va_get (D := D) (ci := 8) (v := .ref (aH 0)) (C := RX8) (T := TX8) (N := 4) hx hb hts iX8 hown hK hP 0 rfl rfl 2 (by decide) f22 (fun _ h9 => h9) rfl dX8_execute_26 ?_
      refine lv_aload_n hx hb dX8_execute_29 rfl (lv_at hl 0 rfl) ?_
      refine va_get (D := D) (ci := 8) (v := .ref (aP 0)) (C := RX8) (T := TX8) (N := 4) hx hb hts iX8 hown hK hP 0 rfl rfl 0 (by decide) f10 (fun _ h9 => h9) rfl dX8_execute_30 ?_
      obtain ⟨mH_25, hs_26, hc_27, hE⟩ := bd2_el hE
      refine kv (X := ((W_I aI aP adP aH aT) ++ ((W_T cy aT mT) ++ ((W_P cy adP adS adB adO adR adA imdP indP) ++ ((W_S cy adS imdS) ++ ((W_B cy adB imdB) ++ ((W_O cy adO imdO) ++ ((W_R cy adR imdR) ++ (W_A cy adA imdA indA))))))))) (Y := []) (ws1 := (W_All cy aI aT adP adS adB adO adR adA aP aS aB aO aR aA aH ah mT imdP indP imdS imdB imdO imdR imdA indA mP nP mS mB mO mR mA nA mH_25 hs_26)) (rV (X := ((W_I aI aP adP aH aT) ++ ((W_T cy aT mT) ++ ((W_P cy adP adS adB adO adR adA imdP indP) ++ ((W_S cy adS imdS) ++ ((W_B cy adB imdB) ++ ((W_O cy adO imdO) ++ ((W_R cy adR imdR) ++ (W_A cy adA imdA indA))))))))) (Y := []) (As := [.ref (aP 0)]) (rest := []) hC (c_X2_save l D cy aP aS aB aO aR aA aH ah mP nP mS mB mO mR mA nA mH hs mH_25 hs_26 hc_27) (cwV 1 hts gX8_execute_X2_save rfl rfl rfl (by decide +kernel) ⟨Nat.le_of_ble_eq_true rfl, Nat.le_of_ble_eq_true rfl⟩) hK hN hP hD hS hA rfl 36 2 rfl rfl rfl hl.1 rfl (lv_room (Nat.le_of_ble_eq_true rfl)) dX8_execute_33 ⟨Nat.le_of_ble_eq_true rfl, Nat.le_of_ble_eq_true rfl⟩) hP hD hS hA rfl rfl rfl (fun H locs hP hD hS => ?_)
      refine lv_aload_n hx hb dX8_execute_36 rfl (lv_at hl 0 rfl) ?_
      refine va_get (D := D) (ci := 8) (v := .ref (aT 0)) (C := RX8) (T := TX8) (N := 4) hx hb hts iX8 hown hK hP 0 rfl rfl 3 (by decide) f29 (fun _ h9 => h9) rfl dX8_execute_37 ?_
      obtain ⟨mT_28, hc_29, hE⟩ := bd1_el hE
      refine kv (X := (W_I aI aP adP aH aT)) (Y := ((W_P cy adP adS adB adO adR adA imdP indP) ++ ((W_S cy adS imdS) ++ ((W_B cy adB imdB) ++ ((W_O cy adO imdO) ++ ((W_R cy adR imdR) ++ ((W_A cy adA imdA indA) ++ ((W_P cy aP aS aB aO aR aA mP nP) ++ ((W_S cy aS mS) ++ ((W_B cy aB mB) ++ ((W_O cy aO mO) ++ ((W_R cy aR mR) ++ ((W_A cy aA mA nA) ++ ((W_H cy aH ah mH_25) ++ (W_HS cy ah hs_26))))))))))))))) (ws1 := (W_All cy aI aT adP adS adB adO adR adA aP aS aB aO aR aA aH ah mT_28 imdP indP imdS imdB imdO imdR imdA indA mP nP mS mB mO mR mA nA mH_25 hs_26)) (rV (X := (W_I aI aP adP aH aT)) (Y := ((W_P cy adP adS adB adO adR adA imdP indP) ++ ((W_S cy adS imdS) ++ ((W_B cy adB imdB) ++ ((W_O cy adO imdO) ++ ((W_R cy adR imdR) ++ ((W_A cy adA imdA indA) ++ ((W_P cy aP aS aB aO aR aA mP nP) ++ ((W_S cy aS mS) ++ ((W_B cy aB mB) ++ ((W_O cy aO mO) ++ ((W_R cy aR mR) ++ ((W_A cy aA mA nA) ++ ((W_H cy aH ah mH_25) ++ (W_HS cy ah hs_26))))))))))))))) (As := []) (rest := []) hC (c_X7_start l D cy aT mT mT_28 hc_29) (cwV 0 hts gX8_execute_X7_start rfl rfl rfl (by decide +kernel) ⟨Nat.le_of_ble_eq_true rfl, Nat.le_of_ble_eq_true rfl⟩) hK hN hP hD hS hA rfl 0 7 rfl rfl rfl hl.1 rfl (lv_room (Nat.le_of_ble_eq_true rfl)) dX8_execute_40 ⟨Nat.le_of_ble_eq_true rfl, Nat.le_of_ble_eq_true rfl⟩) hP hD hS hA rfl rfl rfl (fun H locs hP hD hS => ?_)
      refine lv_iconst (v := 0) hx hb dX8_execute_43 (by decide) ?_
      refine lv_istore_n (lv' := [(1, .int (0 : Int32)), (0, .ref (aI 0))]) hx hb dX8_execute_44 rfl hl (by decide) rfl (fun ls hl => ?_)
      refine W.widen (k := 1) (n := 6) (Nat.le_of_ble_eq_true rfl) (Nat.le_of_ble_eq_true rfl) ?_
      exact h45 mH_25 hs_26 fuel (0 : Int32) mT_28 mP nP mS mB mO mR mA nA _ _ _ hE hP hD hS (lv_sub hl [1, 0] rfl)
  unfold f_X8_execute at hE
  refine lv_aload_n hx hb dX8_execute_0 rfl (lv_at hl 0 rfl) ?_
  refine va_get (D := D) (ci := 8) (v := .ref (aT 0)) (C := RX8) (T := TX8) (N := 4) hx hb hts iX8 hown hK hP 0 rfl rfl 3 (by decide) f29 (fun _ h9 => h9) rfl dX8_execute_1 ?_
  obtain ⟨mT_30, hc_31, hE⟩ := bd1_el hE
  refine kv (X := (W_I aI aP adP aH aT)) (Y := ((W_P cy adP adS adB adO adR adA imdP indP) ++ ((W_S cy adS imdS) ++ ((W_B cy adB imdB) ++ ((W_O cy adO imdO) ++ ((W_R cy adR imdR) ++ ((W_A cy adA imdA indA) ++ ((W_P cy aP aS aB aO aR aA imP inP) ++ ((W_S cy aS imS) ++ ((W_B cy aB imB) ++ ((W_O cy aO imO) ++ ((W_R cy aR imR) ++ ((W_A cy aA imA inA) ++ ((W_H cy aH ah imH) ++ (W_HS cy ah ihs))))))))))))))) (ws1 := (W_All cy aI aT adP adS adB adO adR adA aP aS aB aO aR aA aH ah mT_30 imdP indP imdS imdB imdO imdR imdA indA imP inP imS imB imO imR imA inA imH ihs)) (rV (X := (W_I aI aP adP aH aT)) (Y := ((W_P cy adP adS adB adO adR adA imdP indP) ++ ((W_S cy adS imdS) ++ ((W_B cy adB imdB) ++ ((W_O cy adO imdO) ++ ((W_R cy adR imdR) ++ ((W_A cy adA imdA indA) ++ ((W_P cy aP aS aB aO aR aA imP inP) ++ ((W_S cy aS imS) ++ ((W_B cy aB imB) ++ ((W_O cy aO imO) ++ ((W_R cy aR imR) ++ ((W_A cy aA imA inA) ++ ((W_H cy aH ah imH) ++ (W_HS cy ah ihs))))))))))))))) (As := []) (rest := []) hC (c_X7_readAll l D cy aT imT mT_30 hc_31) (cwV 0 hts gX8_execute_X7_readAll rfl rfl rfl (by decide +kernel) ⟨Nat.le_of_ble_eq_true rfl, Nat.le_of_ble_eq_true rfl⟩) hK hN hP hD hS hA rfl 0 7 rfl rfl rfl hl.1 rfl (lv_room (Nat.le_of_ble_eq_true rfl)) dX8_execute_4 ⟨Nat.le_of_ble_eq_true rfl, Nat.le_of_ble_eq_true rfl⟩) hP hD hS hA rfl rfl rfl (fun H locs hP hD hS => ?_)
  refine lv_aload_n hx hb dX8_execute_7 rfl (lv_at hl 0 rfl) ?_
  refine va_get (D := D) (ci := 8) (v := .ref (aT 0)) (C := RX8) (T := TX8) (N := 4) hx hb hts iX8 hown hK hP 0 rfl rfl 3 (by decide) f29 (fun _ h9 => h9) rfl dX8_execute_8 ?_
  refine va_get (D := D) (ci := 7) (v := .int (mT_30 2 0)) (C := RX7) (T := TX7) (N := 8) hx hb hts iX7 hown hK hP 1 rfl rfl 2 (by decide) f250 (fun _ h9 => h9) rfl dX8_execute_11 ?_
  refine lv_if_ne (tgt := 21) hx hb dX8_execute_14 (by decide) (fun c_32 => ?_) (fun c_32 => ?_)
  · replace hE := it_f hE c_32
    refine lv_iconst (v := 0) hx hb dX8_execute_21 (by decide) ?_
    refine W.widen (k := 1) (n := 6) (Nat.le_of_ble_eq_true rfl) (Nat.le_of_ble_eq_true rfl) ?_
    exact h22 (0 : Int32) mT_30 imP inP imS imB imO imR imA inA imH ihs _ _ _ hE hP hD hS (lv_sub hl [0] rfl)
  · replace hE := it_t hE c_32
    refine lv_iconst (v := 1) hx hb dX8_execute_17 (by decide) ?_
    refine lv_goto (tgt := 22) hx hb dX8_execute_18 (by decide) ?_
    refine W.widen (k := 1) (n := 6) (Nat.le_of_ble_eq_true rfl) (Nat.le_of_ble_eq_true rfl) ?_
    exact h22 (1 : Int32) mT_30 imP inP imS imB imO imR imA inA imH ihs _ _ _ hE hP hD hS (lv_sub hl [0] rfl)
abbrev rm_X8_undo : Room := { frames := 8, cells := 1, slots := 6, locals := 122 }
set_option maxHeartbeats 40000000 in
set_option maxRecDepth 100000 in
theorem c_X8_undo (l : Launch) (hst : l.stackTraces = false) (D : va_G) (cy : Nat → Nat) (aI aT adP adS adB adO adR adA aP aS aB aO aR aA aH : Nat → Nat) (ah : Nat → Nat → Nat → Nat) (imT : Mem) (imdP : Mem) (indP : MemL) (imdS : Mem) (imdB : Mem) (imdO : Mem) (imdR : Mem) (imdA : Mem) (indA : MemL) (imP : Mem) (inP : MemL) (imS : Mem) (imB : Mem) (imO : Mem) (imR : Mem) (imA : Mem) (inA : MemL) (imH : Mem) (ihs : (Nat → PSt)) (k' : Nat) (r' : Int32) (mP' : Mem) (nP' : MemL) (mS' : Mem) (mB' : Mem) (mO' : Mem) (mR' : Mem) (mA' : Mem) (nA' : MemL) (mH' : Mem) (hE : f_X8_undo imT imdP indP imdS imdB imdO imdR imdA indA imP inP imS imB imO imR imA inA imH ihs = some (k', r', mP', nP', mS', mB', mO', mR', mA', nA', mH')) : CXI l yX8_undo wsX8_undo rm_X8_undo D cy [.ref (aI 0)] (W_All cy aI aT adP adS adB adO adR adA aP aS aB aO aR aA aH ah imT imdP indP imdS imdB imdO imdR imdA indA imP inP imS imB imO imR imA inA imH ihs) 1 6 k' r' (W_All cy aI aT adP adS adB adO adR adA aP aS aB aO aR aA aH ah imT imdP indP imdS imdB imdO imdR imdA indA mP' nP' mS' mB' mO' mR' mA' nA' mH' ihs) := by
  refine CX_of (cc := cX8_undo) (maxL := 1) (ret := (some .int)) (by decide) rfl (Nat.le_of_ble_eq_true rfl) (fun p e s m args below meth c A ls hx hb hr hml hlocks hnm hown hts hA htab hK hN hP hD hS hl => ?_)
  have hown : s.vm.findClass RX8 = some m.cls := hown
  have hl : lv_has ls 1 [(0, .ref (aI 0))] := hl
  have hC : CallFix p m c cX8_undo 1 s args wsX8_undo RX8 := ⟨hx, hb, hml, hown, hts⟩
  have f10 : (Cond.fieldLink RX8 10 "IcePlant" "now" "LIcePlant$Plant;").before args s = true := hts _ (by decide +kernel)
  have f22 : (Cond.fieldLink RX8 22 "IcePlant" "history" "LIcePlant$History;").before args s = true := hts _ (by decide +kernel)
  have f208 : (Cond.fieldLink RX8 208 "IcePlant$History" "count" "I").before args s = true := hts _ (by decide +kernel)
  have iX2 : ∀ w ∈ wsX20, w ∈ wsX8_undo := by decide +kernel
  have iX8 : ∀ w ∈ wsX80, w ∈ wsX8_undo := by decide +kernel
  have h15 : ∀ (t0 : Int32) (mP : Mem) (nP : MemL) (mS : Mem) (mB : Mem) (mO : Mem) (mR : Mem) (mA : Mem) (nA : MemL) (mH : Mem), ∀  (H : Heap) (locs : List Loc) (ls : Array Slot), f_X8_undo_b15 t0 imT imdP indP imdS imdB imdO imdR imdA indA mP nP mS mB mO mR mA nA mH ihs = some (k', r', mP', nP', mS', mB', mO', mR', mA', nA', mH') → va_P D vwCl (W_All cy aI aT adP adS adB adO adR adA aP aS aB aO aR aA aH ah imT imdP indP imdS imdB imdO imdR imdA indA mP nP mS mB mO mR mA nA mH ihs) H → va_D A (W_All cy aI aT adP adS adB adO adR adA aP aS aB aO aR aA aH ah imT imdP indP imdS imdB imdO imdR imdA indA mP nP mS mB mO mR mA nA mH ihs) → va_S A s.heap H locs → lv_has ls 1 [(0, .ref (aI 0))] → W p l e rm_X8_undo s m args below meth c H locs 1 6 (vx_MQ below (QXI D cy k' r' (W_All cy aI aT adP adS adB adO adR adA aP aS aB aO aR aA aH ah imT imdP indP imdS imdB imdO imdR imdA indA mP' nP' mS' mB' mO' mR' mA' nA' mH' ihs) A) (XX D cy k' (W_All cy aI aT adP adS adB adO adR adA aP aS aB aO aR aA aH ah imT imdP indP imdS imdB imdO imdR imdA indA mP' nP' mS' mB' mO' mR' mA' nA' mH' ihs) A) args s 1 6 A) (F0 m 15 ls [.int t0]) := by
    intro t0 mP nP mS mB mO mR mA nA mH H locs ls hE hP hD hS hl
    replace hE : (bd1 (f_X8_needState t0) fun k_2 => (if k_2 = 0 then bd10 (f_X2_restore mP nP mS mB mO mR mA nA mH ihs) fun r_3 mP_4 nP_5 mS_6 mB_7 mO_8 mR_9 mA_10 nA_11 mH_12 => some (0, r_3, mP_4, nP_5, mS_6, mB_7, mO_8, mR_9, mA_10, nA_11, mH_12) else some (k_2, (0 : Int32), mP, nP, mS, mB, mO, mR, mA, nA, mH))) = some (k', r', mP', nP', mS', mB', mO', mR', mA', nA', mH') := hE
    obtain ⟨k_2, hc_1, hE⟩ := bd1_el hE
    refine kxv (X := []) (Y := (W_All cy aI aT adP adS adB adO adR adA aP aS aB aO aR aA aH ah imT imdP indP imdS imdB imdO imdR imdA indA mP nP mS mB mO mR mA nA mH ihs)) (ws1 := (W_All cy aI aT adP adS adB adO adR adA aP aS aB aO aR aA aH ah imT imdP indP imdS imdB imdO imdR imdA indA mP nP mS mB mO mR mA nA mH ihs)) (xS (X := []) (Y := (W_All cy aI aT adP adS adB adO adR adA aP aS aB aO aR aA aH ah imT imdP indP imdS imdB imdO imdR imdA indA mP nP mS mB mO mR mA nA mH ihs)) (As := [.int t0]) (rest := []) hC (c_X8_needState l hst D cy t0 k_2 hc_1) (cwS 1 hts gX8_undo_X8_needState rfl rfl rfl (by decide +kernel) ⟨Nat.le_of_ble_eq_true rfl, Nat.le_of_ble_eq_true rfl⟩) hK hN hP hD hS hA rfl rfl hl.1 rfl (lv_room (Nat.le_of_ble_eq_true rfl)) dX8_undo_15 ⟨Nat.le_of_ble_eq_true rfl, Nat.le_of_ble_eq_true rfl⟩) hP hD hS hA rfl rfl rfl (fun hk0 H locs ce q9 hP hD hS hce hcv hcl => ?_) (fun hk0 H locs hP hD hS => ?_)
    · replace hE := it_f hE hk0
      have hE := Option.some.inj hE
      obtain ⟨q0, hE⟩ := Prod.mk.inj hE
      obtain ⟨q1, hE⟩ := Prod.mk.inj hE
      obtain ⟨q2, hE⟩ := Prod.mk.inj hE
      obtain ⟨q3, hE⟩ := Prod.mk.inj hE
      obtain ⟨q4, hE⟩ := Prod.mk.inj hE
      obtain ⟨q5, hE⟩ := Prod.mk.inj hE
      obtain ⟨q6, hE⟩ := Prod.mk.inj hE
      obtain ⟨q7, hE⟩ := Prod.mk.inj hE
      obtain ⟨q8, hE⟩ := Prod.mk.inj hE
      obtain ⟨q9, q10⟩ := Prod.mk.inj hE
      exact exx htab hlocks hK hP hD hS hce hcv hcl hk0 q0 (by rw [q2, q3, q4, q5, q6, q7, q8, q9, q10]) (Nat.le_of_ble_eq_true rfl) (Nat.le_of_ble_eq_true rfl)
    · replace hE := it_t hE hk0
      refine lv_aload_n hx hb dX8_undo_18 rfl (lv_at hl 0 rfl) ?_
      refine va_get (D := D) (ci := 8) (v := .ref (aH 0)) (C := RX8) (T := TX8) (N := 4) hx hb hts iX8 hown hK hP 0 rfl rfl 2 (by decide) f22 (fun _ h9 => h9) rfl dX8_undo_19 ?_
      refine lv_aload_n hx hb dX8_undo_22 rfl (lv_at hl 0 rfl) ?_
      refine va_get (D := D) (ci := 8) (v := .ref (aP 0)) (C := RX8) (T := TX8) (N := 4) hx hb hts iX8 hown hK hP 0 rfl rfl 0 (by decide) f10 (fun _ h9 => h9) rfl dX8_undo_23 ?_
      obtain ⟨r_3, mP_4, nP_5, mS_6, mB_7, mO_8, mR_9, mA_10, nA_11, mH_12, hc_13, hE⟩ := bd10_el hE
      refine ki (X := ((W_I aI aP adP aH aT) ++ ((W_T cy aT imT) ++ ((W_P cy adP adS adB adO adR adA imdP indP) ++ ((W_S cy adS imdS) ++ ((W_B cy adB imdB) ++ ((W_O cy adO imdO) ++ ((W_R cy adR imdR) ++ (W_A cy adA imdA indA))))))))) (Y := []) (ws1 := (W_All cy aI aT adP adS adB adO adR adA aP aS aB aO aR aA aH ah imT imdP indP imdS imdB imdO imdR imdA indA mP_4 nP_5 mS_6 mB_7 mO_8 mR_9 mA_10 nA_11 mH_12 ihs)) (rV (X := ((W_I aI aP adP aH aT) ++ ((W_T cy aT imT) ++ ((W_P cy adP adS adB adO adR adA imdP indP) ++ ((W_S cy adS imdS) ++ ((W_B cy adB imdB) ++ ((W_O cy adO imdO) ++ ((W_R cy adR imdR) ++ (W_A cy adA imdA indA))))))))) (Y := []) (As := [.ref (aP 0)]) (rest := []) hC (c_X2_restore l D cy aP aS aB aO aR aA aH ah mP nP mS mB mO mR mA nA mH ihs r_3 mP_4 nP_5 mS_6 mB_7 mO_8 mR_9 mA_10 nA_11 mH_12 hc_13) (cwV 1 hts gX8_undo_X2_restore rfl rfl rfl (by decide +kernel) ⟨Nat.le_of_ble_eq_true rfl, Nat.le_of_ble_eq_true rfl⟩) hK hN hP hD hS hA rfl 36 2 rfl rfl rfl hl.1 rfl (lv_room (Nat.le_of_ble_eq_true rfl)) dX8_undo_26 ⟨Nat.le_of_ble_eq_true rfl, Nat.le_of_ble_eq_true rfl⟩) hP hD hS hA rfl rfl rfl (fun H locs hP hD hS => ?_)
      have hE := Option.some.inj hE
      obtain ⟨q0, hE⟩ := Prod.mk.inj hE
      obtain ⟨q1, hE⟩ := Prod.mk.inj hE
      obtain ⟨q2, hE⟩ := Prod.mk.inj hE
      obtain ⟨q3, hE⟩ := Prod.mk.inj hE
      obtain ⟨q4, hE⟩ := Prod.mk.inj hE
      obtain ⟨q5, hE⟩ := Prod.mk.inj hE
      obtain ⟨q6, hE⟩ := Prod.mk.inj hE
      obtain ⟨q7, hE⟩ := Prod.mk.inj hE
      obtain ⟨q8, hE⟩ := Prod.mk.inj hE
      obtain ⟨q9, q10⟩ := Prod.mk.inj hE
      exact exi hx hb hr hlocks hK hP hD hS q0 q1 (by rw [q2, q3, q4, q5, q6, q7, q8, q9, q10]) (Nat.le_of_ble_eq_true rfl) (Nat.le_of_ble_eq_true rfl) dX8_undo_29
  unfold f_X8_undo at hE
  refine lv_aload_n hx hb dX8_undo_0 rfl (lv_at hl 0 rfl) ?_
  refine va_get (D := D) (ci := 8) (v := .ref (aH 0)) (C := RX8) (T := TX8) (N := 4) hx hb hts iX8 hown hK hP 0 rfl rfl 2 (by decide) f22 (fun _ h9 => h9) rfl dX8_undo_1 ?_
  refine va_get (D := D) (ci := 2) (v := .int (imH 1 0)) (C := RX2) (T := TX2) (N := 3) hx hb hts iX2 hown hK hP 76 rfl rfl 1 (by decide) f208 (fun _ h9 => h9) rfl dX8_undo_4 ?_
  refine lv_if_le (tgt := 14) hx hb dX8_undo_7 (by decide) (fun c_14 => ?_) (fun c_14 => ?_)
  · replace hE := it_t hE c_14
    refine lv_iconst (v := 0) hx hb dX8_undo_14 (by decide) ?_
    refine W.widen (k := 1) (n := 6) (Nat.le_of_ble_eq_true rfl) (Nat.le_of_ble_eq_true rfl) ?_
    exact h15 (0 : Int32) imP inP imS imB imO imR imA inA imH _ _ _ hE hP hD hS (lv_sub hl [0] rfl)
  · replace hE := it_f hE c_14
    refine lv_iconst (v := 1) hx hb dX8_undo_10 (by decide) ?_
    refine lv_goto (tgt := 15) hx hb dX8_undo_11 (by decide) ?_
    refine W.widen (k := 1) (n := 6) (Nat.le_of_ble_eq_true rfl) (Nat.le_of_ble_eq_true rfl) ?_
    exact h15 (1 : Int32) imP inP imS imB imO imR imA inA imH _ _ _ hE hP hD hS (lv_sub hl [0] rfl)
