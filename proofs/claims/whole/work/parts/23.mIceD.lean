abbrev rm_X8_quote : Room := { frames := 8, cells := 3, slots := 18, locals := 122 }
set_option maxHeartbeats 40000000 in
set_option maxRecDepth 100000 in
theorem c_X8_quote (l : Launch) (hst : l.stackTraces = false) (D : va_G) (cy : Nat → Nat) (aI aT adP adS adB adO adR adA aP aS aB aO aR aA aH : Nat → Nat) (ah : Nat → Nat → Nat → Nat) (x1 : Int32) (x2 : Int32) (x3 : Int32) (imT : Mem) (imdP : Mem) (indP : MemL) (imdS : Mem) (imdB : Mem) (imdO : Mem) (imdR : Mem) (imdA : Mem) (indA : MemL) (imP : Mem) (inP : MemL) (imS : Mem) (imB : Mem) (imO : Mem) (imR : Mem) (imA : Mem) (inA : MemL) (imH : Mem) (ihs : (Nat → PSt)) (k' : Nat) (r' : Int32) (hE : f_X8_quote x1 x2 x3 imT imdP indP imdS imdB imdO imdR imdA indA imP inP imS imB imO imR imA inA imH ihs = some (k', r')) : CXI l yX8_quote wsX8_quote rm_X8_quote D cy [.ref (aI 0), .int x1, .int x2, .int x3] (W_All cy aI aT adP adS adB adO adR adA aP aS aB aO aR aA aH ah imT imdP indP imdS imdB imdO imdR imdA indA imP inP imS imB imO imR imA inA imH ihs) 3 18 k' r' (W_All cy aI aT adP adS adB adO adR adA aP aS aB aO aR aA aH ah imT imdP indP imdS imdB imdO imdR imdA indA imP inP imS imB imO imR imA inA imH ihs) := by
  refine CX_of (cc := cX8_quote) (maxL := 4) (ret := (some .int)) (by decide) rfl (Nat.le_of_ble_eq_true rfl) (fun p e s m args below meth c A ls hx hb hr hml hlocks hnm hown hts hA htab hK hN hP hD hS hl => ?_)
  have hown : s.vm.findClass RX8 = some m.cls := hown
  have hl : lv_has ls 4 [(0, .ref (aI 0)), (1, .int x1), (2, .int x2), (3, .int x3)] := hl
  have hC : CallFix p m c cX8_quote 4 s args wsX8_quote RX8 := ⟨hx, hb, hml, hown, hts⟩
  have f10 : (Cond.fieldLink RX8 10 "IcePlant" "now" "LIcePlant$Plant;").before args s = true := hts _ (mC qf_X8_10)
  have f115 : (Cond.fieldLink RX8 115 "IcePlant$Plant" "boats" "LIcePlant$Boats;").before args s = true := hts _ (mC qf_X8_115)
  have iX4 : ∀ w ∈ wsX40, w ∈ wsX8_quote := fun w h => mC (iA_X4 w h)
  have iX8 : ∀ w ∈ wsX80, w ∈ wsX8_quote := fun w h => mC (iA_X8 w h)
  unfold f_X8_quote at hE
  refine lv_aload_n hx hb dX8_quote_0 rfl (lv_at hl 0 rfl) ?_
  refine va_get (D := D) (ci := 8) (v := .ref (aP 0)) (C := RX8) (T := TX8) (N := 4) hx hb hts iX8 hown hK hP 0 rfl rfl 0 (by decide) f10 (fun _ h9 => h9) rfl dX8_quote_1 ?_
  refine va_get (D := D) (ci := 4) (v := .ref (aB 0)) (C := RX4) (T := TX4) (N := 13) hx hb hts iX4 hown hK hP 40 rfl rfl 3 (by decide) f115 (fun _ h9 => h9) rfl dX8_quote_4 ?_
  refine lv_iload_n hx hb dX8_quote_7 rfl (lv_at hl 1 rfl) ?_
  obtain ⟨r_1, hc_2, hE⟩ := bd1_el hE
  refine ki (X := ((W_I aI aP adP aH aT) ++ ((W_T cy aT imT) ++ ((W_P cy adP adS adB adO adR adA imdP indP) ++ ((W_S cy adS imdS) ++ ((W_B cy adB imdB) ++ ((W_O cy adO imdO) ++ ((W_R cy adR imdR) ++ ((W_A cy adA imdA indA) ++ ((W_P cy aP aS aB aO aR aA imP inP) ++ (W_S cy aS imS))))))))))) (Y := ((W_O cy aO imO) ++ ((W_R cy aR imR) ++ ((W_A cy aA imA inA) ++ ((W_H cy aH ah imH) ++ (W_HS cy ah ihs)))))) (ws1 := (W_All cy aI aT adP adS adB adO adR adA aP aS aB aO aR aA aH ah imT imdP indP imdS imdB imdO imdR imdA indA imP inP imS imB imO imR imA inA imH ihs)) (rV (X := ((W_I aI aP adP aH aT) ++ ((W_T cy aT imT) ++ ((W_P cy adP adS adB adO adR adA imdP indP) ++ ((W_S cy adS imdS) ++ ((W_B cy adB imdB) ++ ((W_O cy adO imdO) ++ ((W_R cy adR imdR) ++ ((W_A cy adA imdA indA) ++ ((W_P cy aP aS aB aO aR aA imP inP) ++ (W_S cy aS imS))))))))))) (Y := ((W_O cy aO imO) ++ ((W_R cy aR imR) ++ ((W_A cy aA imA inA) ++ ((W_H cy aH ah imH) ++ (W_HS cy ah ihs)))))) (As := [.int x1]) (rest := []) hC (c_X1_has l D cy aB x1 imB r_1 hc_2) (cwV 1 hts gX8_quote_X1_has rfl rfl rfl cd_X1_has ⟨Nat.le_of_ble_eq_true rfl, Nat.le_of_ble_eq_true rfl⟩) hK hN hP hD hS hA rfl 0 1 rfl rfl rfl hl.1 rfl (lv_room (Nat.le_of_ble_eq_true rfl)) dX8_quote_8 ⟨Nat.le_of_ble_eq_true rfl, Nat.le_of_ble_eq_true rfl⟩) hP hD hS hA rfl rfl rfl (fun H locs hP hD hS => ?_)
  obtain ⟨k_4, hc_3, hE⟩ := bd1_el hE
  refine kxv (X := []) (Y := (W_All cy aI aT adP adS adB adO adR adA aP aS aB aO aR aA aH ah imT imdP indP imdS imdB imdO imdR imdA indA imP inP imS imB imO imR imA inA imH ihs)) (ws1 := (W_All cy aI aT adP adS adB adO adR adA aP aS aB aO aR aA aH ah imT imdP indP imdS imdB imdO imdR imdA indA imP inP imS imB imO imR imA inA imH ihs)) (xS (X := []) (Y := (W_All cy aI aT adP adS adB adO adR adA aP aS aB aO aR aA aH ah imT imdP indP imdS imdB imdO imdR imdA indA imP inP imS imB imO imR imA inA imH ihs)) (As := [.int r_1]) (rest := []) hC (c_X8_needItem l hst D cy r_1 k_4 hc_3) (cwS 1 hts gX8_quote_X8_needItem rfl rfl rfl cd_X8_needItem ⟨Nat.le_of_ble_eq_true rfl, Nat.le_of_ble_eq_true rfl⟩) hK hN hP hD hS hA rfl rfl hl.1 rfl (lv_room (Nat.le_of_ble_eq_true rfl)) dX8_quote_11 ⟨Nat.le_of_ble_eq_true rfl, Nat.le_of_ble_eq_true rfl⟩) hP hD hS hA rfl rfl rfl (fun hk0 H locs ce q9 hP hD hS hce hcv hcl => ?_) (fun hk0 H locs hP hD hS => ?_)
  · replace hE := it_f hE hk0
    have hE := Option.some.inj hE
    obtain ⟨q0, q1⟩ := Prod.mk.inj hE
    exact exx htab hlocks hK hP hD hS hce hcv hcl hk0 q0 rfl (Nat.le_of_ble_eq_true rfl) (Nat.le_of_ble_eq_true rfl)
  · replace hE := it_t hE hk0
    refine lv_iload_n hx hb dX8_quote_14 rfl (lv_at hl 2 rfl) ?_
    refine lv_iconst (v := 0) hx hb dX8_quote_15 (by decide) ?_
    refine lv_sipush (v := 9999) hx hb dX8_quote_16 (by decide) ?_
    obtain ⟨r_5, hc_6, hE⟩ := bd1_el hE
    refine ki (X := []) (Y := (W_All cy aI aT adP adS adB adO adR adA aP aS aB aO aR aA aH ah imT imdP indP imdS imdB imdO imdR imdA indA imP inP imS imB imO imR imA inA imH ihs)) (ws1 := (W_All cy aI aT adP adS adB adO adR adA aP aS aB aO aR aA aH ah imT imdP indP imdS imdB imdO imdR imdA indA imP inP imS imB imO imR imA inA imH ihs)) (rS (X := []) (Y := (W_All cy aI aT adP adS adB adO adR adA aP aS aB aO aR aA aH ah imT imdP indP imdS imdB imdO imdR imdA indA imP inP imS imB imO imR imA inA imH ihs)) (As := [.int x2, .int (0 : Int32), .int (9999 : Int32)]) (rest := []) hC (c_X8_isWithin l D cy x2 (0 : Int32) (9999 : Int32) r_5 hc_6) (cwS 3 hts gX8_quote_X8_isWithin rfl rfl rfl cd_X8_isWithin ⟨Nat.le_of_ble_eq_true rfl, Nat.le_of_ble_eq_true rfl⟩) hK hN hP hD hS hA rfl rfl hl.1 rfl (lv_room (Nat.le_of_ble_eq_true rfl)) dX8_quote_19 ⟨Nat.le_of_ble_eq_true rfl, Nat.le_of_ble_eq_true rfl⟩) hP hD hS hA rfl rfl rfl (fun H locs hP hD hS => ?_)
    obtain ⟨k_8, hc_7, hE⟩ := bd1_el hE
    refine kxv (X := []) (Y := (W_All cy aI aT adP adS adB adO adR adA aP aS aB aO aR aA aH ah imT imdP indP imdS imdB imdO imdR imdA indA imP inP imS imB imO imR imA inA imH ihs)) (ws1 := (W_All cy aI aT adP adS adB adO adR adA aP aS aB aO aR aA aH ah imT imdP indP imdS imdB imdO imdR imdA indA imP inP imS imB imO imR imA inA imH ihs)) (xS (X := []) (Y := (W_All cy aI aT adP adS adB adO adR adA aP aS aB aO aR aA aH ah imT imdP indP imdS imdB imdO imdR imdA indA imP inP imS imB imO imR imA inA imH ihs)) (As := [.int r_5]) (rest := []) hC (c_X8_needArgument l hst D cy r_5 k_8 hc_7) (cwS 1 hts gX8_quote_X8_needArgument rfl rfl rfl cd_X8_needArgument ⟨Nat.le_of_ble_eq_true rfl, Nat.le_of_ble_eq_true rfl⟩) hK hN hP hD hS hA rfl rfl hl.1 rfl (lv_room (Nat.le_of_ble_eq_true rfl)) dX8_quote_22 ⟨Nat.le_of_ble_eq_true rfl, Nat.le_of_ble_eq_true rfl⟩) hP hD hS hA rfl rfl rfl (fun hk0 H locs ce q9 hP hD hS hce hcv hcl => ?_) (fun hk0 H locs hP hD hS => ?_)
    · replace hE := it_f hE hk0
      have hE := Option.some.inj hE
      obtain ⟨q0, q1⟩ := Prod.mk.inj hE
      exact exx htab hlocks hK hP hD hS hce hcv hcl hk0 q0 rfl (Nat.le_of_ble_eq_true rfl) (Nat.le_of_ble_eq_true rfl)
    · replace hE := it_t hE hk0
      refine lv_iload_n hx hb dX8_quote_25 rfl (lv_at hl 3 rfl) ?_
      refine lv_iconst (v := 0) hx hb dX8_quote_26 (by decide) ?_
      refine lv_iconst (v := 1) hx hb dX8_quote_27 (by decide) ?_
      obtain ⟨r_9, hc_10, hE⟩ := bd1_el hE
      refine ki (X := []) (Y := (W_All cy aI aT adP adS adB adO adR adA aP aS aB aO aR aA aH ah imT imdP indP imdS imdB imdO imdR imdA indA imP inP imS imB imO imR imA inA imH ihs)) (ws1 := (W_All cy aI aT adP adS adB adO adR adA aP aS aB aO aR aA aH ah imT imdP indP imdS imdB imdO imdR imdA indA imP inP imS imB imO imR imA inA imH ihs)) (rS (X := []) (Y := (W_All cy aI aT adP adS adB adO adR adA aP aS aB aO aR aA aH ah imT imdP indP imdS imdB imdO imdR imdA indA imP inP imS imB imO imR imA inA imH ihs)) (As := [.int x3, .int (0 : Int32), .int (1 : Int32)]) (rest := []) hC (c_X8_isWithin l D cy x3 (0 : Int32) (1 : Int32) r_9 hc_10) (cwS 3 hts gX8_quote_X8_isWithin rfl rfl rfl cd_X8_isWithin ⟨Nat.le_of_ble_eq_true rfl, Nat.le_of_ble_eq_true rfl⟩) hK hN hP hD hS hA rfl rfl hl.1 rfl (lv_room (Nat.le_of_ble_eq_true rfl)) dX8_quote_28 ⟨Nat.le_of_ble_eq_true rfl, Nat.le_of_ble_eq_true rfl⟩) hP hD hS hA rfl rfl rfl (fun H locs hP hD hS => ?_)
      obtain ⟨k_12, hc_11, hE⟩ := bd1_el hE
      refine kxv (X := []) (Y := (W_All cy aI aT adP adS adB adO adR adA aP aS aB aO aR aA aH ah imT imdP indP imdS imdB imdO imdR imdA indA imP inP imS imB imO imR imA inA imH ihs)) (ws1 := (W_All cy aI aT adP adS adB adO adR adA aP aS aB aO aR aA aH ah imT imdP indP imdS imdB imdO imdR imdA indA imP inP imS imB imO imR imA inA imH ihs)) (xS (X := []) (Y := (W_All cy aI aT adP adS adB adO adR adA aP aS aB aO aR aA aH ah imT imdP indP imdS imdB imdO imdR imdA indA imP inP imS imB imO imR imA inA imH ihs)) (As := [.int r_9]) (rest := []) hC (c_X8_needArgument l hst D cy r_9 k_12 hc_11) (cwS 1 hts gX8_quote_X8_needArgument rfl rfl rfl cd_X8_needArgument ⟨Nat.le_of_ble_eq_true rfl, Nat.le_of_ble_eq_true rfl⟩) hK hN hP hD hS hA rfl rfl hl.1 rfl (lv_room (Nat.le_of_ble_eq_true rfl)) dX8_quote_31 ⟨Nat.le_of_ble_eq_true rfl, Nat.le_of_ble_eq_true rfl⟩) hP hD hS hA rfl rfl rfl (fun hk0 H locs ce q9 hP hD hS hce hcv hcl => ?_) (fun hk0 H locs hP hD hS => ?_)
      · replace hE := it_f hE hk0
        have hE := Option.some.inj hE
        obtain ⟨q0, q1⟩ := Prod.mk.inj hE
        exact exx htab hlocks hK hP hD hS hce hcv hcl hk0 q0 rfl (Nat.le_of_ble_eq_true rfl) (Nat.le_of_ble_eq_true rfl)
      · replace hE := it_t hE hk0
        refine lv_aload_n hx hb dX8_quote_34 rfl (lv_at hl 0 rfl) ?_
        refine va_get (D := D) (ci := 8) (v := .ref (aP 0)) (C := RX8) (T := TX8) (N := 4) hx hb hts iX8 hown hK hP 0 rfl rfl 0 (by decide) f10 (fun _ h9 => h9) rfl dX8_quote_35 ?_
        refine lv_iload_n hx hb dX8_quote_38 rfl (lv_at hl 1 rfl) ?_
        refine lv_iload_n hx hb dX8_quote_39 rfl (lv_at hl 2 rfl) ?_
        refine lv_iload_n hx hb dX8_quote_40 rfl (lv_at hl 3 rfl) ?_
        obtain ⟨r_13, hc_14, hE⟩ := bd1_el hE
        refine ki (X := ((W_I aI aP adP aH aT) ++ ((W_T cy aT imT) ++ ((W_P cy adP adS adB adO adR adA imdP indP) ++ ((W_S cy adS imdS) ++ ((W_B cy adB imdB) ++ ((W_O cy adO imdO) ++ ((W_R cy adR imdR) ++ (W_A cy adA imdA indA))))))))) (Y := ((W_H cy aH ah imH) ++ (W_HS cy ah ihs))) (ws1 := (W_All cy aI aT adP adS adB adO adR adA aP aS aB aO aR aA aH ah imT imdP indP imdS imdB imdO imdR imdA indA imP inP imS imB imO imR imA inA imH ihs)) (rV (X := ((W_I aI aP adP aH aT) ++ ((W_T cy aT imT) ++ ((W_P cy adP adS adB adO adR adA imdP indP) ++ ((W_S cy adS imdS) ++ ((W_B cy adB imdB) ++ ((W_O cy adO imdO) ++ ((W_R cy adR imdR) ++ (W_A cy adA imdA indA))))))))) (Y := ((W_H cy aH ah imH) ++ (W_HS cy ah ihs))) (As := [.int x1, .int x2, .int x3]) (rest := []) hC (c_X4_priceOf l D cy aP aS aB aO aR aA x1 x2 x3 imP inP imS imB imO imR imA inA r_13 hc_14) (cwV 3 hts gX8_quote_X4_priceOf rfl rfl rfl cd_X4_priceOf ⟨Nat.le_of_ble_eq_true rfl, Nat.le_of_ble_eq_true rfl⟩) hK hN hP hD hS hA rfl 0 4 rfl rfl rfl hl.1 rfl (lv_room (Nat.le_of_ble_eq_true rfl)) dX8_quote_41 ⟨Nat.le_of_ble_eq_true rfl, Nat.le_of_ble_eq_true rfl⟩) hP hD hS hA rfl rfl rfl (fun H locs hP hD hS => ?_)
        have hE := Option.some.inj hE
        obtain ⟨q0, q1⟩ := Prod.mk.inj hE
        exact exi hx hb hr hlocks hK hP hD hS q0 q1 rfl (Nat.le_of_ble_eq_true rfl) (Nat.le_of_ble_eq_true rfl) dX8_quote_44
abbrev rm_X8_append : Room := { frames := 8, cells := 2, slots := 12, locals := 122 }
set_option maxHeartbeats 40000000 in
set_option maxRecDepth 100000 in
theorem c_X8_append (l : Launch) (hst : l.stackTraces = false) (D : va_G) (cy : Nat → Nat) (aI aT adP adS adB adO adR adA aP aS aB aO aR aA aH : Nat → Nat) (ah : Nat → Nat → Nat → Nat) (x1 : Int32) (imT : Mem) (imdP : Mem) (indP : MemL) (imdS : Mem) (imdB : Mem) (imdO : Mem) (imdR : Mem) (imdA : Mem) (indA : MemL) (imP : Mem) (inP : MemL) (imS : Mem) (imB : Mem) (imO : Mem) (imR : Mem) (imA : Mem) (inA : MemL) (imH : Mem) (ihs : (Nat → PSt)) (k' : Nat) (r' : Int32) (mT' : Mem) (hE : f_X8_append x1 imT imdP indP imdS imdB imdO imdR imdA indA imP inP imS imB imO imR imA inA imH ihs = some (k', r', mT')) : CXI l yX8_append wsX8_append rm_X8_append D cy [.ref (aI 0), .int x1] (W_All cy aI aT adP adS adB adO adR adA aP aS aB aO aR aA aH ah imT imdP indP imdS imdB imdO imdR imdA indA imP inP imS imB imO imR imA inA imH ihs) 2 12 k' r' (W_All cy aI aT adP adS adB adO adR adA aP aS aB aO aR aA aH ah mT' imdP indP imdS imdB imdO imdR imdA indA imP inP imS imB imO imR imA inA imH ihs) := by
  refine CX_of (cc := cX8_append) (maxL := 2) (ret := (some .int)) (by decide) rfl (Nat.le_of_ble_eq_true rfl) (fun p e s m args below meth c A ls hx hb hr hml hlocks hnm hown hts hA htab hK hN hP hD hS hl => ?_)
  have hown : s.vm.findClass RX8 = some m.cls := hown
  have hl : lv_has ls 2 [(0, .ref (aI 0)), (1, .int x1)] := hl
  have hC : CallFix p m c cX8_append 2 s args wsX8_append RX8 := ⟨hx, hb, hml, hown, hts⟩
  have f29 : (Cond.fieldLink RX8 29 "IcePlant" "text" "LIcePlant$Text;").before args s = true := hts _ (mC qf_X8_29)
  have f237 : (Cond.fieldLink RX8 237 "IcePlant$Text" "length" "I").before args s = true := hts _ (mC qf_X8_237)
  have iX7 : ∀ w ∈ wsX70, w ∈ wsX8_append := fun w h => mC (iA_X7 w h)
  have iX8 : ∀ w ∈ wsX80, w ∈ wsX8_append := fun w h => mC (iA_X8 w h)
  have h28 : ∀ (x1 : Int32) (t0 : Int32) (mT : Mem), ∀  (H : Heap) (locs : List Loc) (ls : Array Slot), f_X8_append_b28 x1 t0 mT imdP indP imdS imdB imdO imdR imdA indA imP inP imS imB imO imR imA inA imH ihs = some (k', r', mT') → va_P D vwCl (W_All cy aI aT adP adS adB adO adR adA aP aS aB aO aR aA aH ah mT imdP indP imdS imdB imdO imdR imdA indA imP inP imS imB imO imR imA inA imH ihs) H → va_D A (W_All cy aI aT adP adS adB adO adR adA aP aS aB aO aR aA aH ah mT imdP indP imdS imdB imdO imdR imdA indA imP inP imS imB imO imR imA inA imH ihs) → va_S A s.heap H locs → lv_has ls 2 [(0, .ref (aI 0)), (1, .int x1)] → W p l e rm_X8_append s m args below meth c H locs 1 6 (vx_MQ below (QXI D cy k' r' (W_All cy aI aT adP adS adB adO adR adA aP aS aB aO aR aA aH ah mT' imdP indP imdS imdB imdO imdR imdA indA imP inP imS imB imO imR imA inA imH ihs) A) (XX D cy k' (W_All cy aI aT adP adS adB adO adR adA aP aS aB aO aR aA aH ah mT' imdP indP imdS imdB imdO imdR imdA indA imP inP imS imB imO imR imA inA imH ihs) A) args s 2 12 A) (F0 m 28 ls [.int t0]) := by
    intro x1 t0 mT H locs ls hE hP hD hS hl
    replace hE : (bd1 (f_X8_needState t0) fun k_2 => (if k_2 = 0 then bd2 (f_X7_addSign ((x1.toUInt32 % 65536).toInt32) mT) fun r_3 mT_4 => some (0, r_3, mT_4) else some (k_2, (0 : Int32), mT))) = some (k', r', mT') := hE
    obtain ⟨k_2, hc_1, hE⟩ := bd1_el hE
    refine kxv (X := []) (Y := (W_All cy aI aT adP adS adB adO adR adA aP aS aB aO aR aA aH ah mT imdP indP imdS imdB imdO imdR imdA indA imP inP imS imB imO imR imA inA imH ihs)) (ws1 := (W_All cy aI aT adP adS adB adO adR adA aP aS aB aO aR aA aH ah mT imdP indP imdS imdB imdO imdR imdA indA imP inP imS imB imO imR imA inA imH ihs)) (xS (X := []) (Y := (W_All cy aI aT adP adS adB adO adR adA aP aS aB aO aR aA aH ah mT imdP indP imdS imdB imdO imdR imdA indA imP inP imS imB imO imR imA inA imH ihs)) (As := [.int t0]) (rest := []) hC (c_X8_needState l hst D cy t0 k_2 hc_1) (cwS 1 hts gX8_append_X8_needState rfl rfl rfl cd_X8_needState ⟨Nat.le_of_ble_eq_true rfl, Nat.le_of_ble_eq_true rfl⟩) hK hN hP hD hS hA rfl rfl hl.1 rfl (lv_room (Nat.le_of_ble_eq_true rfl)) dX8_append_28 ⟨Nat.le_of_ble_eq_true rfl, Nat.le_of_ble_eq_true rfl⟩) hP hD hS hA rfl rfl rfl (fun hk0 H locs ce q9 hP hD hS hce hcv hcl => ?_) (fun hk0 H locs hP hD hS => ?_)
    · replace hE := it_f hE hk0
      have hE := Option.some.inj hE
      obtain ⟨q0, hE⟩ := Prod.mk.inj hE
      obtain ⟨q1, q2⟩ := Prod.mk.inj hE
      exact exx htab hlocks hK hP hD hS hce hcv hcl hk0 q0 (by rw [q2]) (Nat.le_of_ble_eq_true rfl) (Nat.le_of_ble_eq_true rfl)
    · replace hE := it_t hE hk0
      refine lv_aload_n hx hb dX8_append_31 rfl (lv_at hl 0 rfl) ?_
      refine va_get (D := D) (ci := 8) (v := .ref (aT 0)) (C := RX8) (T := TX8) (N := 4) hx hb hts iX8 hown hK hP 0 rfl rfl 3 (by decide) f29 (fun _ h9 => h9) rfl dX8_append_32 ?_
      refine lv_iload_n hx hb dX8_append_35 rfl (lv_at hl 1 rfl) ?_
      refine lv_i2c hx hb dX8_append_36 rfl ?_
      obtain ⟨r_3, mT_4, hc_5, hE⟩ := bd2_el hE
      refine ki (X := (W_I aI aP adP aH aT)) (Y := ((W_P cy adP adS adB adO adR adA imdP indP) ++ ((W_S cy adS imdS) ++ ((W_B cy adB imdB) ++ ((W_O cy adO imdO) ++ ((W_R cy adR imdR) ++ ((W_A cy adA imdA indA) ++ ((W_P cy aP aS aB aO aR aA imP inP) ++ ((W_S cy aS imS) ++ ((W_B cy aB imB) ++ ((W_O cy aO imO) ++ ((W_R cy aR imR) ++ ((W_A cy aA imA inA) ++ ((W_H cy aH ah imH) ++ (W_HS cy ah ihs))))))))))))))) (ws1 := (W_All cy aI aT adP adS adB adO adR adA aP aS aB aO aR aA aH ah mT_4 imdP indP imdS imdB imdO imdR imdA indA imP inP imS imB imO imR imA inA imH ihs)) (rV (X := (W_I aI aP adP aH aT)) (Y := ((W_P cy adP adS adB adO adR adA imdP indP) ++ ((W_S cy adS imdS) ++ ((W_B cy adB imdB) ++ ((W_O cy adO imdO) ++ ((W_R cy adR imdR) ++ ((W_A cy adA imdA indA) ++ ((W_P cy aP aS aB aO aR aA imP inP) ++ ((W_S cy aS imS) ++ ((W_B cy aB imB) ++ ((W_O cy aO imO) ++ ((W_R cy aR imR) ++ ((W_A cy aA imA inA) ++ ((W_H cy aH ah imH) ++ (W_HS cy ah ihs))))))))))))))) (As := [.int ((x1.toUInt32 % 65536).toInt32)]) (rest := []) hC (c_X7_addSign l D cy aT ((x1.toUInt32 % 65536).toInt32) mT r_3 mT_4 hc_5) (cwV 1 hts gX8_append_X7_addSign rfl rfl rfl cd_X7_addSign ⟨Nat.le_of_ble_eq_true rfl, Nat.le_of_ble_eq_true rfl⟩) hK hN hP hD hS hA rfl 0 7 rfl rfl rfl hl.1 rfl (lv_room (Nat.le_of_ble_eq_true rfl)) dX8_append_37 ⟨Nat.le_of_ble_eq_true rfl, Nat.le_of_ble_eq_true rfl⟩) hP hD hS hA rfl rfl rfl (fun H locs hP hD hS => ?_)
      have hE := Option.some.inj hE
      obtain ⟨q0, hE⟩ := Prod.mk.inj hE
      obtain ⟨q1, q2⟩ := Prod.mk.inj hE
      exact exi hx hb hr hlocks hK hP hD hS q0 q1 (by rw [q2]) (Nat.le_of_ble_eq_true rfl) (Nat.le_of_ble_eq_true rfl) dX8_append_40
  unfold f_X8_append at hE
  refine lv_iload_n hx hb dX8_append_0 rfl (lv_at hl 1 rfl) ?_
  refine lv_bipush (v := 32) hx hb dX8_append_1 (by decide) ?_
  refine lv_bipush (v := 126) hx hb dX8_append_3 (by decide) ?_
  obtain ⟨r_6, hc_7, hE⟩ := bd1_el hE
  refine ki (X := []) (Y := (W_All cy aI aT adP adS adB adO adR adA aP aS aB aO aR aA aH ah imT imdP indP imdS imdB imdO imdR imdA indA imP inP imS imB imO imR imA inA imH ihs)) (ws1 := (W_All cy aI aT adP adS adB adO adR adA aP aS aB aO aR aA aH ah imT imdP indP imdS imdB imdO imdR imdA indA imP inP imS imB imO imR imA inA imH ihs)) (rS (X := []) (Y := (W_All cy aI aT adP adS adB adO adR adA aP aS aB aO aR aA aH ah imT imdP indP imdS imdB imdO imdR imdA indA imP inP imS imB imO imR imA inA imH ihs)) (As := [.int x1, .int (32 : Int32), .int (126 : Int32)]) (rest := []) hC (c_X8_isWithin l D cy x1 (32 : Int32) (126 : Int32) r_6 hc_7) (cwS 3 hts gX8_append_X8_isWithin rfl rfl rfl cd_X8_isWithin ⟨Nat.le_of_ble_eq_true rfl, Nat.le_of_ble_eq_true rfl⟩) hK hN hP hD hS hA rfl rfl hl.1 rfl (lv_room (Nat.le_of_ble_eq_true rfl)) dX8_append_5 ⟨Nat.le_of_ble_eq_true rfl, Nat.le_of_ble_eq_true rfl⟩) hP hD hS hA rfl rfl rfl (fun H locs hP hD hS => ?_)
  obtain ⟨k_9, hc_8, hE⟩ := bd1_el hE
  refine kxv (X := []) (Y := (W_All cy aI aT adP adS adB adO adR adA aP aS aB aO aR aA aH ah imT imdP indP imdS imdB imdO imdR imdA indA imP inP imS imB imO imR imA inA imH ihs)) (ws1 := (W_All cy aI aT adP adS adB adO adR adA aP aS aB aO aR aA aH ah imT imdP indP imdS imdB imdO imdR imdA indA imP inP imS imB imO imR imA inA imH ihs)) (xS (X := []) (Y := (W_All cy aI aT adP adS adB adO adR adA aP aS aB aO aR aA aH ah imT imdP indP imdS imdB imdO imdR imdA indA imP inP imS imB imO imR imA inA imH ihs)) (As := [.int r_6]) (rest := []) hC (c_X8_needArgument l hst D cy r_6 k_9 hc_8) (cwS 1 hts gX8_append_X8_needArgument rfl rfl rfl cd_X8_needArgument ⟨Nat.le_of_ble_eq_true rfl, Nat.le_of_ble_eq_true rfl⟩) hK hN hP hD hS hA rfl rfl hl.1 rfl (lv_room (Nat.le_of_ble_eq_true rfl)) dX8_append_8 ⟨Nat.le_of_ble_eq_true rfl, Nat.le_of_ble_eq_true rfl⟩) hP hD hS hA rfl rfl rfl (fun hk0 H locs ce q9 hP hD hS hce hcv hcl => ?_) (fun hk0 H locs hP hD hS => ?_)
  · replace hE := it_f hE hk0
    have hE := Option.some.inj hE
    obtain ⟨q0, hE⟩ := Prod.mk.inj hE
    obtain ⟨q1, q2⟩ := Prod.mk.inj hE
    exact exx htab hlocks hK hP hD hS hce hcv hcl hk0 q0 (by rw [q2]) (Nat.le_of_ble_eq_true rfl) (Nat.le_of_ble_eq_true rfl)
  · replace hE := it_t hE hk0
    refine lv_aload_n hx hb dX8_append_11 rfl (lv_at hl 0 rfl) ?_
    refine va_get (D := D) (ci := 8) (v := .ref (aT 0)) (C := RX8) (T := TX8) (N := 4) hx hb hts iX8 hown hK hP 0 rfl rfl 3 (by decide) f29 (fun _ h9 => h9) rfl dX8_append_12 ?_
    refine va_get (D := D) (ci := 7) (v := .int (imT 0 0)) (C := RX7) (T := TX7) (N := 8) hx hb hts iX7 hown hK hP 1 rfl rfl 0 (by decide) f237 (fun _ h9 => h9) rfl dX8_append_15 ?_
    refine lv_bipush (v := 120) hx hb dX8_append_18 (by decide) ?_
    refine lv_icmp_ge (tgt := 27) hx hb dX8_append_20 (by decide) (fun c_10 => ?_) (fun c_10 => ?_)
    · replace hE := it_t hE c_10
      refine lv_iconst (v := 0) hx hb dX8_append_27 (by decide) ?_
      refine W.widen (k := 1) (n := 6) (Nat.le_of_ble_eq_true rfl) (Nat.le_of_ble_eq_true rfl) ?_
      exact h28 x1 (0 : Int32) imT _ _ _ hE hP hD hS (lv_sub hl [0, 1] rfl)
    · replace hE := it_f hE c_10
      refine lv_iconst (v := 1) hx hb dX8_append_23 (by decide) ?_
      refine lv_goto (tgt := 28) hx hb dX8_append_24 (by decide) ?_
      refine W.widen (k := 1) (n := 6) (Nat.le_of_ble_eq_true rfl) (Nat.le_of_ble_eq_true rfl) ?_
      exact h28 x1 (1 : Int32) imT _ _ _ hE hP hD hS (lv_sub hl [0, 1] rfl)
abbrev rm_X8_clear : Room := { frames := 1, cells := 0, slots := 0, locals := 21 }
set_option maxHeartbeats 40000000 in
set_option maxRecDepth 100000 in
theorem c_X8_clear (l : Launch) (D : va_G) (cy : Nat → Nat) (aI aT adP adS adB adO adR adA aP aS aB aO aR aA aH : Nat → Nat) (ah : Nat → Nat → Nat → Nat) (imT : Mem) (imdP : Mem) (indP : MemL) (imdS : Mem) (imdB : Mem) (imdO : Mem) (imdR : Mem) (imdA : Mem) (indA : MemL) (imP : Mem) (inP : MemL) (imS : Mem) (imB : Mem) (imO : Mem) (imR : Mem) (imA : Mem) (inA : MemL) (imH : Mem) (ihs : (Nat → PSt)) (r' : Int32) (mT' : Mem) (hE : f_X8_clear imT imdP indP imdS imdB imdO imdR imdA indA imP inP imS imB imO imR imA inA imH ihs = some (r', mT')) : CI l yX8_clear wsX8_clear rm_X8_clear D cy [.ref (aI 0)] (W_All cy aI aT adP adS adB adO adR adA aP aS aB aO aR aA aH ah imT imdP indP imdS imdB imdO imdR imdA indA imP inP imS imB imO imR imA inA imH ihs) 0 0 r' (W_All cy aI aT adP adS adB adO adR adA aP aS aB aO aR aA aH ah mT' imdP indP imdS imdB imdO imdR imdA indA imP inP imS imB imO imR imA inA imH ihs) := by
  refine CQ_of (cc := cX8_clear) (maxL := 1) (ret := (some .int)) (by decide) rfl (Nat.le_of_ble_eq_true rfl) (fun p e s m args below meth c A ls hx hb hr hml hlocks hnm hown hts hA hK hN hP hD hS hl => ?_)
  have hown : s.vm.findClass RX8 = some m.cls := hown
  have hl : lv_has ls 1 [(0, .ref (aI 0))] := hl
  have hC : CallFix p m c cX8_clear 1 s args wsX8_clear RX8 := ⟨hx, hb, hml, hown, hts⟩
  have f29 : (Cond.fieldLink RX8 29 "IcePlant" "text" "LIcePlant$Text;").before args s = true := hts _ (mC qf_X8_29)
  have iX8 : ∀ w ∈ wsX80, w ∈ wsX8_clear := fun w h => mC (iA_X8 w h)
  unfold f_X8_clear at hE
  refine lv_aload_n hx hb dX8_clear_0 rfl (lv_at hl 0 rfl) ?_
  refine va_get (D := D) (ci := 8) (v := .ref (aT 0)) (C := RX8) (T := TX8) (N := 4) hx hb hts iX8 hown hK hP 0 rfl rfl 3 (by decide) f29 (fun _ h9 => h9) rfl dX8_clear_1 ?_
  obtain ⟨r_1, mT_2, hc_3, hE⟩ := bd2_el hE
  refine ki (X := (W_I aI aP adP aH aT)) (Y := ((W_P cy adP adS adB adO adR adA imdP indP) ++ ((W_S cy adS imdS) ++ ((W_B cy adB imdB) ++ ((W_O cy adO imdO) ++ ((W_R cy adR imdR) ++ ((W_A cy adA imdA indA) ++ ((W_P cy aP aS aB aO aR aA imP inP) ++ ((W_S cy aS imS) ++ ((W_B cy aB imB) ++ ((W_O cy aO imO) ++ ((W_R cy aR imR) ++ ((W_A cy aA imA inA) ++ ((W_H cy aH ah imH) ++ (W_HS cy ah ihs))))))))))))))) (ws1 := (W_All cy aI aT adP adS adB adO adR adA aP aS aB aO aR aA aH ah mT_2 imdP indP imdS imdB imdO imdR imdA indA imP inP imS imB imO imR imA inA imH ihs)) (rV (X := (W_I aI aP adP aH aT)) (Y := ((W_P cy adP adS adB adO adR adA imdP indP) ++ ((W_S cy adS imdS) ++ ((W_B cy adB imdB) ++ ((W_O cy adO imdO) ++ ((W_R cy adR imdR) ++ ((W_A cy adA imdA indA) ++ ((W_P cy aP aS aB aO aR aA imP inP) ++ ((W_S cy aS imS) ++ ((W_B cy aB imB) ++ ((W_O cy aO imO) ++ ((W_R cy aR imR) ++ ((W_A cy aA imA inA) ++ ((W_H cy aH ah imH) ++ (W_HS cy ah ihs))))))))))))))) (As := []) (rest := []) hC (c_X7_empty l D cy aT imT r_1 mT_2 hc_3) (cwV 0 hts gX8_clear_X7_empty rfl rfl rfl cd_X7_empty ⟨Nat.le_of_ble_eq_true rfl, Nat.le_of_ble_eq_true rfl⟩) hK hN hP hD hS hA rfl 0 7 rfl rfl rfl hl.1 rfl (lv_room (Nat.le_of_ble_eq_true rfl)) dX8_clear_4 ⟨Nat.le_of_ble_eq_true rfl, Nat.le_of_ble_eq_true rfl⟩) hP hD hS hA rfl rfl rfl (fun H locs hP hD hS => ?_)
  have hE := Option.some.inj hE
  obtain ⟨q0, q1⟩ := Prod.mk.inj hE
  exact ei hx hb hr hlocks hK hP hD hS q0 (by rw [q1]) dX8_clear_7
abbrev rm_X8_errorPosition : Room := { frames := 4, cells := 0, slots := 0, locals := 86 }
set_option maxHeartbeats 40000000 in
set_option maxRecDepth 100000 in
theorem c_X8_errorPosition (l : Launch) (D : va_G) (cy : Nat → Nat) (aI aT adP adS adB adO adR adA aP aS aB aO aR aA aH : Nat → Nat) (ah : Nat → Nat → Nat → Nat) (imT : Mem) (imdP : Mem) (indP : MemL) (imdS : Mem) (imdB : Mem) (imdO : Mem) (imdR : Mem) (imdA : Mem) (indA : MemL) (imP : Mem) (inP : MemL) (imS : Mem) (imB : Mem) (imO : Mem) (imR : Mem) (imA : Mem) (inA : MemL) (imH : Mem) (ihs : (Nat → PSt)) (r' : Int32) (mT' : Mem) (hE : f_X8_errorPosition imT imdP indP imdS imdB imdO imdR imdA indA imP inP imS imB imO imR imA inA imH ihs = some (r', mT')) : CI l yX8_errorPosition wsX8_errorPosition rm_X8_errorPosition D cy [.ref (aI 0)] (W_All cy aI aT adP adS adB adO adR adA aP aS aB aO aR aA aH ah imT imdP indP imdS imdB imdO imdR imdA indA imP inP imS imB imO imR imA inA imH ihs) 0 0 r' (W_All cy aI aT adP adS adB adO adR adA aP aS aB aO aR aA aH ah mT' imdP indP imdS imdB imdO imdR imdA indA imP inP imS imB imO imR imA inA imH ihs) := by
  refine CQ_of (cc := cX8_errorPosition) (maxL := 1) (ret := (some .int)) (by decide) rfl (Nat.le_of_ble_eq_true rfl) (fun p e s m args below meth c A ls hx hb hr hml hlocks hnm hown hts hA hK hN hP hD hS hl => ?_)
  have hown : s.vm.findClass RX8 = some m.cls := hown
  have hl : lv_has ls 1 [(0, .ref (aI 0))] := hl
  have hC : CallFix p m c cX8_errorPosition 1 s args wsX8_errorPosition RX8 := ⟨hx, hb, hml, hown, hts⟩
  have f29 : (Cond.fieldLink RX8 29 "IcePlant" "text" "LIcePlant$Text;").before args s = true := hts _ (mC qf_X8_29)
  have f250 : (Cond.fieldLink RX8 250 "IcePlant$Text" "error" "I").before args s = true := hts _ (mC qf_X8_250)
  have f253 : (Cond.fieldLink RX8 253 "IcePlant$Text" "at" "I").before args s = true := hts _ (mC qf_X8_253)
  have iX7 : ∀ w ∈ wsX70, w ∈ wsX8_errorPosition := fun w h => mC (iA_X7 w h)
  have iX8 : ∀ w ∈ wsX80, w ∈ wsX8_errorPosition := fun w h => mC (iA_X8 w h)
  unfold f_X8_errorPosition at hE
  refine lv_aload_n hx hb dX8_errorPosition_0 rfl (lv_at hl 0 rfl) ?_
  refine va_get (D := D) (ci := 8) (v := .ref (aT 0)) (C := RX8) (T := TX8) (N := 4) hx hb hts iX8 hown hK hP 0 rfl rfl 3 (by decide) f29 (fun _ h9 => h9) rfl dX8_errorPosition_1 ?_
  obtain ⟨mT_1, hc_2, hE⟩ := bd1_el hE
  refine kv (X := (W_I aI aP adP aH aT)) (Y := ((W_P cy adP adS adB adO adR adA imdP indP) ++ ((W_S cy adS imdS) ++ ((W_B cy adB imdB) ++ ((W_O cy adO imdO) ++ ((W_R cy adR imdR) ++ ((W_A cy adA imdA indA) ++ ((W_P cy aP aS aB aO aR aA imP inP) ++ ((W_S cy aS imS) ++ ((W_B cy aB imB) ++ ((W_O cy aO imO) ++ ((W_R cy aR imR) ++ ((W_A cy aA imA inA) ++ ((W_H cy aH ah imH) ++ (W_HS cy ah ihs))))))))))))))) (ws1 := (W_All cy aI aT adP adS adB adO adR adA aP aS aB aO aR aA aH ah mT_1 imdP indP imdS imdB imdO imdR imdA indA imP inP imS imB imO imR imA inA imH ihs)) (rV (X := (W_I aI aP adP aH aT)) (Y := ((W_P cy adP adS adB adO adR adA imdP indP) ++ ((W_S cy adS imdS) ++ ((W_B cy adB imdB) ++ ((W_O cy adO imdO) ++ ((W_R cy adR imdR) ++ ((W_A cy adA imdA indA) ++ ((W_P cy aP aS aB aO aR aA imP inP) ++ ((W_S cy aS imS) ++ ((W_B cy aB imB) ++ ((W_O cy aO imO) ++ ((W_R cy aR imR) ++ ((W_A cy aA imA inA) ++ ((W_H cy aH ah imH) ++ (W_HS cy ah ihs))))))))))))))) (As := []) (rest := []) hC (c_X7_readAll l D cy aT imT mT_1 hc_2) (cwV 0 hts gX8_errorPosition_X7_readAll rfl rfl rfl cd_X7_readAll ⟨Nat.le_of_ble_eq_true rfl, Nat.le_of_ble_eq_true rfl⟩) hK hN hP hD hS hA rfl 0 7 rfl rfl rfl hl.1 rfl (lv_room (Nat.le_of_ble_eq_true rfl)) dX8_errorPosition_4 ⟨Nat.le_of_ble_eq_true rfl, Nat.le_of_ble_eq_true rfl⟩) hP hD hS hA rfl rfl rfl (fun H locs hP hD hS => ?_)
  refine lv_aload_n hx hb dX8_errorPosition_7 rfl (lv_at hl 0 rfl) ?_
  refine va_get (D := D) (ci := 8) (v := .ref (aT 0)) (C := RX8) (T := TX8) (N := 4) hx hb hts iX8 hown hK hP 0 rfl rfl 3 (by decide) f29 (fun _ h9 => h9) rfl dX8_errorPosition_8 ?_
  refine va_get (D := D) (ci := 7) (v := .int (mT_1 2 0)) (C := RX7) (T := TX7) (N := 8) hx hb hts iX7 hown hK hP 1 rfl rfl 2 (by decide) f250 (fun _ h9 => h9) rfl dX8_errorPosition_11 ?_
  refine lv_if_ne (tgt := 21) hx hb dX8_errorPosition_14 (by decide) (fun c_3 => ?_) (fun c_3 => ?_)
  · replace hE := it_f hE c_3
    refine lv_aload_n hx hb dX8_errorPosition_21 rfl (lv_at hl 0 rfl) ?_
    refine va_get (D := D) (ci := 8) (v := .ref (aT 0)) (C := RX8) (T := TX8) (N := 4) hx hb hts iX8 hown hK hP 0 rfl rfl 3 (by decide) f29 (fun _ h9 => h9) rfl dX8_errorPosition_22 ?_
    refine va_get (D := D) (ci := 7) (v := .int (mT_1 1 0)) (C := RX7) (T := TX7) (N := 8) hx hb hts iX7 hown hK hP 1 rfl rfl 1 (by decide) f253 (fun _ h9 => h9) rfl dX8_errorPosition_25 ?_
    have hE := Option.some.inj hE
    obtain ⟨q0, q1⟩ := Prod.mk.inj hE
    exact ei hx hb hr hlocks hK hP hD hS q0 (by rw [q1]) dX8_errorPosition_28
  · replace hE := it_t hE c_3
    refine lv_iconst (v := (-1)) hx hb dX8_errorPosition_17 (by decide) ?_
    refine lv_goto (tgt := 28) hx hb dX8_errorPosition_18 (by decide) ?_
    have hE := Option.some.inj hE
    obtain ⟨q0, q1⟩ := Prod.mk.inj hE
    exact ei hx hb hr hlocks hK hP hD hS q0 (by rw [q1]) dX8_errorPosition_28
abbrev rm_X8_errorKind : Room := { frames := 4, cells := 0, slots := 0, locals := 86 }
set_option maxHeartbeats 40000000 in
set_option maxRecDepth 100000 in
theorem c_X8_errorKind (l : Launch) (D : va_G) (cy : Nat → Nat) (aI aT adP adS adB adO adR adA aP aS aB aO aR aA aH : Nat → Nat) (ah : Nat → Nat → Nat → Nat) (imT : Mem) (imdP : Mem) (indP : MemL) (imdS : Mem) (imdB : Mem) (imdO : Mem) (imdR : Mem) (imdA : Mem) (indA : MemL) (imP : Mem) (inP : MemL) (imS : Mem) (imB : Mem) (imO : Mem) (imR : Mem) (imA : Mem) (inA : MemL) (imH : Mem) (ihs : (Nat → PSt)) (r' : Int32) (mT' : Mem) (hE : f_X8_errorKind imT imdP indP imdS imdB imdO imdR imdA indA imP inP imS imB imO imR imA inA imH ihs = some (r', mT')) : CI l yX8_errorKind wsX8_errorKind rm_X8_errorKind D cy [.ref (aI 0)] (W_All cy aI aT adP adS adB adO adR adA aP aS aB aO aR aA aH ah imT imdP indP imdS imdB imdO imdR imdA indA imP inP imS imB imO imR imA inA imH ihs) 0 0 r' (W_All cy aI aT adP adS adB adO adR adA aP aS aB aO aR aA aH ah mT' imdP indP imdS imdB imdO imdR imdA indA imP inP imS imB imO imR imA inA imH ihs) := by
  refine CQ_of (cc := cX8_errorKind) (maxL := 1) (ret := (some .int)) (by decide) rfl (Nat.le_of_ble_eq_true rfl) (fun p e s m args below meth c A ls hx hb hr hml hlocks hnm hown hts hA hK hN hP hD hS hl => ?_)
  have hown : s.vm.findClass RX8 = some m.cls := hown
  have hl : lv_has ls 1 [(0, .ref (aI 0))] := hl
  have hC : CallFix p m c cX8_errorKind 1 s args wsX8_errorKind RX8 := ⟨hx, hb, hml, hown, hts⟩
  have f29 : (Cond.fieldLink RX8 29 "IcePlant" "text" "LIcePlant$Text;").before args s = true := hts _ (mC qf_X8_29)
  have f250 : (Cond.fieldLink RX8 250 "IcePlant$Text" "error" "I").before args s = true := hts _ (mC qf_X8_250)
  have iX7 : ∀ w ∈ wsX70, w ∈ wsX8_errorKind := fun w h => mC (iA_X7 w h)
  have iX8 : ∀ w ∈ wsX80, w ∈ wsX8_errorKind := fun w h => mC (iA_X8 w h)
  unfold f_X8_errorKind at hE
  refine lv_aload_n hx hb dX8_errorKind_0 rfl (lv_at hl 0 rfl) ?_
  refine va_get (D := D) (ci := 8) (v := .ref (aT 0)) (C := RX8) (T := TX8) (N := 4) hx hb hts iX8 hown hK hP 0 rfl rfl 3 (by decide) f29 (fun _ h9 => h9) rfl dX8_errorKind_1 ?_
  obtain ⟨mT_1, hc_2, hE⟩ := bd1_el hE
  refine kv (X := (W_I aI aP adP aH aT)) (Y := ((W_P cy adP adS adB adO adR adA imdP indP) ++ ((W_S cy adS imdS) ++ ((W_B cy adB imdB) ++ ((W_O cy adO imdO) ++ ((W_R cy adR imdR) ++ ((W_A cy adA imdA indA) ++ ((W_P cy aP aS aB aO aR aA imP inP) ++ ((W_S cy aS imS) ++ ((W_B cy aB imB) ++ ((W_O cy aO imO) ++ ((W_R cy aR imR) ++ ((W_A cy aA imA inA) ++ ((W_H cy aH ah imH) ++ (W_HS cy ah ihs))))))))))))))) (ws1 := (W_All cy aI aT adP adS adB adO adR adA aP aS aB aO aR aA aH ah mT_1 imdP indP imdS imdB imdO imdR imdA indA imP inP imS imB imO imR imA inA imH ihs)) (rV (X := (W_I aI aP adP aH aT)) (Y := ((W_P cy adP adS adB adO adR adA imdP indP) ++ ((W_S cy adS imdS) ++ ((W_B cy adB imdB) ++ ((W_O cy adO imdO) ++ ((W_R cy adR imdR) ++ ((W_A cy adA imdA indA) ++ ((W_P cy aP aS aB aO aR aA imP inP) ++ ((W_S cy aS imS) ++ ((W_B cy aB imB) ++ ((W_O cy aO imO) ++ ((W_R cy aR imR) ++ ((W_A cy aA imA inA) ++ ((W_H cy aH ah imH) ++ (W_HS cy ah ihs))))))))))))))) (As := []) (rest := []) hC (c_X7_readAll l D cy aT imT mT_1 hc_2) (cwV 0 hts gX8_errorKind_X7_readAll rfl rfl rfl cd_X7_readAll ⟨Nat.le_of_ble_eq_true rfl, Nat.le_of_ble_eq_true rfl⟩) hK hN hP hD hS hA rfl 0 7 rfl rfl rfl hl.1 rfl (lv_room (Nat.le_of_ble_eq_true rfl)) dX8_errorKind_4 ⟨Nat.le_of_ble_eq_true rfl, Nat.le_of_ble_eq_true rfl⟩) hP hD hS hA rfl rfl rfl (fun H locs hP hD hS => ?_)
  refine lv_aload_n hx hb dX8_errorKind_7 rfl (lv_at hl 0 rfl) ?_
  refine va_get (D := D) (ci := 8) (v := .ref (aT 0)) (C := RX8) (T := TX8) (N := 4) hx hb hts iX8 hown hK hP 0 rfl rfl 3 (by decide) f29 (fun _ h9 => h9) rfl dX8_errorKind_8 ?_
  refine va_get (D := D) (ci := 7) (v := .int (mT_1 2 0)) (C := RX7) (T := TX7) (N := 8) hx hb hts iX7 hown hK hP 1 rfl rfl 2 (by decide) f250 (fun _ h9 => h9) rfl dX8_errorKind_11 ?_
  have hE := Option.some.inj hE
  obtain ⟨q0, q1⟩ := Prod.mk.inj hE
  exact ei hx hb hr hlocks hK hP hD hS q0 (by rw [q1]) dX8_errorKind_14
abbrev rm_X8_commandFault : Room := { frames := 3, cells := 0, slots := 0, locals := 64 }
set_option maxHeartbeats 40000000 in
set_option maxRecDepth 100000 in
theorem c_X8_commandFault (l : Launch) (D : va_G) (cy : Nat → Nat) (aI aT adP adS adB adO adR adA aP aS aB aO aR aA aH : Nat → Nat) (ah : Nat → Nat → Nat → Nat) (imT : Mem) (imdP : Mem) (indP : MemL) (imdS : Mem) (imdB : Mem) (imdO : Mem) (imdR : Mem) (imdA : Mem) (indA : MemL) (imP : Mem) (inP : MemL) (imS : Mem) (imB : Mem) (imO : Mem) (imR : Mem) (imA : Mem) (inA : MemL) (imH : Mem) (ihs : (Nat → PSt)) (r' : Int32) (hE : f_X8_commandFault imT imdP indP imdS imdB imdO imdR imdA indA imP inP imS imB imO imR imA inA imH ihs = some r') : CI l yX8_commandFault wsX8_commandFault rm_X8_commandFault D cy [.ref (aI 0)] (W_All cy aI aT adP adS adB adO adR adA aP aS aB aO aR aA aH ah imT imdP indP imdS imdB imdO imdR imdA indA imP inP imS imB imO imR imA inA imH ihs) 0 0 r' (W_All cy aI aT adP adS adB adO adR adA aP aS aB aO aR aA aH ah imT imdP indP imdS imdB imdO imdR imdA indA imP inP imS imB imO imR imA inA imH ihs) := by
  refine CQ_of (cc := cX8_commandFault) (maxL := 3) (ret := (some .int)) (by decide) rfl (Nat.le_of_ble_eq_true rfl) (fun p e s m args below meth c A ls hx hb hr hml hlocks hnm hown hts hA hK hN hP hD hS hl => ?_)
  have hown : s.vm.findClass RX8 = some m.cls := hown
  have hl : lv_has ls 3 [(0, .ref (aI 0))] := hl
  have hC : CallFix p m c cX8_commandFault 3 s args wsX8_commandFault RX8 := ⟨hx, hb, hml, hown, hts⟩
  have f29 : (Cond.fieldLink RX8 29 "IcePlant" "text" "LIcePlant$Text;").before args s = true := hts _ (mC qf_X8_29)
  have f323 : (Cond.fieldLink RX8 323 "IcePlant$Text" "numbers" "[I").before args s = true := hts _ (mC qf_X8_323)
  have f326 : (Cond.fieldLink RX8 326 "IcePlant$Text" "letter" "C").before args s = true := hts _ (mC qf_X8_326)
  have iX7 : ∀ w ∈ wsX70, w ∈ wsX8_commandFault := fun w h => mC (iA_X7 w h)
  have iX8 : ∀ w ∈ wsX80, w ∈ wsX8_commandFault := fun w h => mC (iA_X8 w h)
  unfold f_X8_commandFault at hE
  refine lv_aload_n hx hb dX8_commandFault_0 rfl (lv_at hl 0 rfl) ?_
  refine va_get (D := D) (ci := 8) (v := .ref (aT 0)) (C := RX8) (T := TX8) (N := 4) hx hb hts iX8 hown hK hP 0 rfl rfl 3 (by decide) f29 (fun _ h9 => h9) rfl dX8_commandFault_1 ?_
  refine va_get (D := D) (ci := 7) (v := .ref (aT 6)) (C := RX7) (T := TX7) (N := 8) hx hb hts iX7 hown hK hP 1 rfl rfl 5 (by decide) f323 (fun _ h9 => h9) rfl dX8_commandFault_4 ?_
  refine lv_iconst (v := 0) hx hb dX8_commandFault_7 (by decide) ?_
  refine va_iald hx hb hK hP 2 0 rfl rfl (show ¬ ((0 : Int32) < 0 ∨ 3 ≤ (0 : Int32).toNatClampNeg) by decide) dX8_commandFault_8 ?_
  obtain ⟨x1_1, e_x1_1, hE⟩ := lt_el hE
  refine s_nm e_x1_1 ?_
  refine lv_istore_n (lv' := [(1, .int x1_1), (0, .ref (aI 0))]) hx hb dX8_commandFault_9 rfl hl (by decide) rfl (fun ls hl => ?_)
  refine lv_aload_n hx hb dX8_commandFault_10 rfl (lv_at hl 1 rfl) ?_
  refine va_get (D := D) (ci := 8) (v := .ref (aT 0)) (C := RX8) (T := TX8) (N := 4) hx hb hts iX8 hown hK hP 0 rfl rfl 3 (by decide) f29 (fun _ h9 => h9) rfl dX8_commandFault_11 ?_
  refine va_get (D := D) (ci := 7) (v := .ref (aT 6)) (C := RX7) (T := TX7) (N := 8) hx hb hts iX7 hown hK hP 1 rfl rfl 5 (by decide) f323 (fun _ h9 => h9) rfl dX8_commandFault_14 ?_
  refine lv_iconst (v := 1) hx hb dX8_commandFault_17 (by decide) ?_
  refine va_iald hx hb hK hP 2 0 rfl rfl (show ¬ ((1 : Int32) < 0 ∨ 3 ≤ (1 : Int32).toNatClampNeg) by decide) dX8_commandFault_18 ?_
  obtain ⟨x2_2, e_x2_2, hE⟩ := lt_el hE
  refine s_nm e_x2_2 ?_
  refine lv_istore_n (lv' := [(2, .int x2_2), (1, .int x1_1), (0, .ref (aI 0))]) hx hb dX8_commandFault_19 rfl hl (by decide) rfl (fun ls hl => ?_)
  refine lv_aload_n hx hb dX8_commandFault_20 rfl (lv_at hl 2 rfl) ?_
  refine va_get (D := D) (ci := 8) (v := .ref (aT 0)) (C := RX8) (T := TX8) (N := 4) hx hb hts iX8 hown hK hP 0 rfl rfl 3 (by decide) f29 (fun _ h9 => h9) rfl dX8_commandFault_21 ?_
  refine va_get (D := D) (ci := 7) (v := .int (imT 3 0)) (C := RX7) (T := TX7) (N := 8) hx hb hts iX7 hown hK hP 1 rfl rfl 3 (by decide) f326 (fun _ h9 => h9) rfl dX8_commandFault_24 ?_
  by_cases c_5_99 : (imT 3 0) = 99
  · replace hE := it_t hE c_5_99
    refine lv_lookup (tgt := 90) (off := 63) hx hb dX8_commandFault_27 (by decide) (by rw [c_5_99]; decide) (by decide) ?_
    refine lv_aload_n hx hb dX8_commandFault_90 rfl (lv_at hl 2 rfl) ?_
    refine lv_iload_n hx hb dX8_commandFault_91 rfl (lv_at hl 1 rfl) ?_
    refine lv_iload_n hx hb dX8_commandFault_92 rfl (lv_at hl 0 rfl) ?_
    obtain ⟨r_12, hc_13, hE⟩ := bd1_el hE
    refine ki (X := []) (Y := []) (ws1 := (W_All cy aI aT adP adS adB adO adR adA aP aS aB aO aR aA aH ah imT imdP indP imdS imdB imdO imdR imdA indA imP inP imS imB imO imR imA inA imH ihs)) (rV (X := []) (Y := []) (As := [.int x1_1, .int x2_2]) (rest := []) hC (c_X8_catchFault l D cy aI aT adP adS adB adO adR adA aP aS aB aO aR aA aH ah x1_1 x2_2 imT imdP indP imdS imdB imdO imdR imdA indA imP inP imS imB imO imR imA inA imH ihs r_12 hc_13) (cwV 2 hts gX8_commandFault_X8_catchFault rfl rfl rfl cd_X8_catchFault ⟨Nat.le_of_ble_eq_true rfl, Nat.le_of_ble_eq_true rfl⟩) hK hN hP hD hS hA rfl 0 8 rfl rfl rfl hl.1 rfl (lv_room (Nat.le_of_ble_eq_true rfl)) dX8_commandFault_93 ⟨Nat.le_of_ble_eq_true rfl, Nat.le_of_ble_eq_true rfl⟩) hP hD hS hA rfl rfl rfl (fun H locs hP hD hS => ?_)
    have hE := Option.some.inj hE
    exact ei hx hb hr hlocks hK hP hD hS hE rfl dX8_commandFault_96
  · replace hE := it_f hE c_5_99
    by_cases c_5_104 : (imT 3 0) = 104
    · replace hE := it_t hE c_5_104
      refine lv_lookup (tgt := 68) (off := 41) hx hb dX8_commandFault_27 (by decide) (by rw [c_5_104]; decide) (by decide) ?_
      refine lv_aload_n hx hb dX8_commandFault_68 rfl (lv_at hl 2 rfl) ?_
      refine lv_iload_n hx hb dX8_commandFault_69 rfl (lv_at hl 1 rfl) ?_
      obtain ⟨r_10, hc_11, hE⟩ := bd1_el hE
      refine ki (X := []) (Y := []) (ws1 := (W_All cy aI aT adP adS adB adO adR adA aP aS aB aO aR aA aH ah imT imdP indP imdS imdB imdO imdR imdA indA imP inP imS imB imO imR imA inA imH ihs)) (rV (X := []) (Y := []) (As := [.int x1_1]) (rest := []) hC (c_X8_passFault l D cy aI aT adP adS adB adO adR adA aP aS aB aO aR aA aH ah x1_1 imT imdP indP imdS imdB imdO imdR imdA indA imP inP imS imB imO imR imA inA imH ihs r_10 hc_11) (cwV 1 hts gX8_commandFault_X8_passFault rfl rfl rfl cd_X8_passFault ⟨Nat.le_of_ble_eq_true rfl, Nat.le_of_ble_eq_true rfl⟩) hK hN hP hD hS hA rfl 0 8 rfl rfl rfl hl.1 rfl (lv_room (Nat.le_of_ble_eq_true rfl)) dX8_commandFault_70 ⟨Nat.le_of_ble_eq_true rfl, Nat.le_of_ble_eq_true rfl⟩) hP hD hS hA rfl rfl rfl (fun H locs hP hD hS => ?_)
      have hE := Option.some.inj hE
      exact ei hx hb hr hlocks hK hP hD hS hE rfl dX8_commandFault_73
    · replace hE := it_f hE c_5_104
      by_cases c_5_111 : (imT 3 0) = 111
      · replace hE := it_t hE c_5_111
        refine lv_lookup (tgt := 74) (off := 47) hx hb dX8_commandFault_27 (by decide) (by rw [c_5_111]; decide) (by decide) ?_
        refine lv_aload_n hx hb dX8_commandFault_74 rfl (lv_at hl 2 rfl) ?_
        refine lv_iload_n hx hb dX8_commandFault_75 rfl (lv_at hl 1 rfl) ?_
        refine lv_iload_n hx hb dX8_commandFault_76 rfl (lv_at hl 0 rfl) ?_
        refine lv_aload_n hx hb dX8_commandFault_77 rfl (lv_at hl 2 rfl) ?_
        refine va_get (D := D) (ci := 8) (v := .ref (aT 0)) (C := RX8) (T := TX8) (N := 4) hx hb hts iX8 hown hK hP 0 rfl rfl 3 (by decide) f29 (fun _ h9 => h9) rfl dX8_commandFault_78 ?_
        refine va_get (D := D) (ci := 7) (v := .ref (aT 6)) (C := RX7) (T := TX7) (N := 8) hx hb hts iX7 hown hK hP 1 rfl rfl 5 (by decide) f323 (fun _ h9 => h9) rfl dX8_commandFault_81 ?_
        refine lv_iconst (v := 2) hx hb dX8_commandFault_84 (by decide) ?_
        refine va_iald hx hb hK hP 2 0 rfl rfl (show ¬ ((2 : Int32) < 0 ∨ 3 ≤ (2 : Int32).toNatClampNeg) by decide) dX8_commandFault_85 ?_
        obtain ⟨r_8, hc_9, hE⟩ := bd1_el hE
        refine ki (X := []) (Y := []) (ws1 := (W_All cy aI aT adP adS adB adO adR adA aP aS aB aO aR aA aH ah imT imdP indP imdS imdB imdO imdR imdA indA imP inP imS imB imO imR imA inA imH ihs)) (rV (X := []) (Y := []) (As := [.int x1_1, .int x2_2, .int (imT 5 (2 : Int32).toNatClampNeg)]) (rest := []) hC (c_X8_orderFault l D cy aI aT adP adS adB adO adR adA aP aS aB aO aR aA aH ah x1_1 x2_2 (imT 5 (2 : Int32).toNatClampNeg) imT imdP indP imdS imdB imdO imdR imdA indA imP inP imS imB imO imR imA inA imH ihs r_8 hc_9) (cwV 3 hts gX8_commandFault_X8_orderFault rfl rfl rfl cd_X8_orderFault ⟨Nat.le_of_ble_eq_true rfl, Nat.le_of_ble_eq_true rfl⟩) hK hN hP hD hS hA rfl 0 8 rfl rfl rfl hl.1 rfl (lv_room (Nat.le_of_ble_eq_true rfl)) dX8_commandFault_86 ⟨Nat.le_of_ble_eq_true rfl, Nat.le_of_ble_eq_true rfl⟩) hP hD hS hA rfl rfl rfl (fun H locs hP hD hS => ?_)
        have hE := Option.some.inj hE
        exact ei hx hb hr hlocks hK hP hD hS hE rfl dX8_commandFault_89
      · replace hE := it_f hE c_5_111
        by_cases c_5_112 : (imT 3 0) = 112
        · replace hE := it_t hE c_5_112
          refine lv_lookup (tgt := 97) (off := 70) hx hb dX8_commandFault_27 (by decide) (by rw [c_5_112]; decide) (by decide) ?_
          refine lv_aload_n hx hb dX8_commandFault_97 rfl (lv_at hl 2 rfl) ?_
          refine lv_iload_n hx hb dX8_commandFault_98 rfl (lv_at hl 1 rfl) ?_
          refine lv_iload_n hx hb dX8_commandFault_99 rfl (lv_at hl 0 rfl) ?_
          obtain ⟨r_6, hc_7, hE⟩ := bd1_el hE
          refine ki (X := []) (Y := []) (ws1 := (W_All cy aI aT adP adS adB adO adR adA aP aS aB aO aR aA aH ah imT imdP indP imdS imdB imdO imdR imdA indA imP inP imS imB imO imR imA inA imH ihs)) (rV (X := []) (Y := []) (As := [.int x1_1, .int x2_2]) (rest := []) hC (c_X8_payFault l D cy aI aT adP adS adB adO adR adA aP aS aB aO aR aA aH ah x1_1 x2_2 imT imdP indP imdS imdB imdO imdR imdA indA imP inP imS imB imO imR imA inA imH ihs r_6 hc_7) (cwV 2 hts gX8_commandFault_X8_payFault rfl rfl rfl cd_X8_payFault ⟨Nat.le_of_ble_eq_true rfl, Nat.le_of_ble_eq_true rfl⟩) hK hN hP hD hS hA rfl 0 8 rfl rfl rfl hl.1 rfl (lv_room (Nat.le_of_ble_eq_true rfl)) dX8_commandFault_100 ⟨Nat.le_of_ble_eq_true rfl, Nat.le_of_ble_eq_true rfl⟩) hP hD hS hA rfl rfl rfl (fun H locs hP hD hS => ?_)
          have hE := Option.some.inj hE
          exact ei hx hb hr hlocks hK hP hD hS hE rfl dX8_commandFault_103
        · replace hE := it_f hE c_5_112
          refine lv_lookup (tgt := 104) (off := 77) hx hb dX8_commandFault_27 (by decide) (lk_out _ (fun q h9 => ?_)) (by decide) ?_
          · have h9 : q ∈ [((99 : Int), (63 : Int)), ((104 : Int), (41 : Int)), ((111 : Int), (47 : Int)), ((112 : Int), (70 : Int))] := h9
            simp only [List.mem_cons, List.not_mem_nil, or_false] at h9
            rcases h9 with rfl | rfl | rfl | rfl
            · exact fun q9 => c_5_99 (q9.trans (by decide))
            · exact fun q9 => c_5_104 (q9.trans (by decide))
            · exact fun q9 => c_5_111 (q9.trans (by decide))
            · exact fun q9 => c_5_112 (q9.trans (by decide))
          · refine lv_aload_n hx hb dX8_commandFault_104 rfl (lv_at hl 2 rfl) ?_
            refine lv_iload_n hx hb dX8_commandFault_105 rfl (lv_at hl 1 rfl) ?_
            refine lv_iload_n hx hb dX8_commandFault_106 rfl (lv_at hl 0 rfl) ?_
            obtain ⟨r_3, hc_4, hE⟩ := bd1_el hE
            refine ki (X := []) (Y := []) (ws1 := (W_All cy aI aT adP adS adB adO adR adA aP aS aB aO aR aA aH ah imT imdP indP imdS imdB imdO imdR imdA indA imP inP imS imB imO imR imA inA imH ihs)) (rV (X := []) (Y := []) (As := [.int x1_1, .int x2_2]) (rest := []) hC (c_X8_moveFault l D cy aI aT adP adS adB adO adR adA aP aS aB aO aR aA aH ah x1_1 x2_2 imT imdP indP imdS imdB imdO imdR imdA indA imP inP imS imB imO imR imA inA imH ihs r_3 hc_4) (cwV 2 hts gX8_commandFault_X8_moveFault rfl rfl rfl cd_X8_moveFault ⟨Nat.le_of_ble_eq_true rfl, Nat.le_of_ble_eq_true rfl⟩) hK hN hP hD hS hA rfl 0 8 rfl rfl rfl hl.1 rfl (lv_room (Nat.le_of_ble_eq_true rfl)) dX8_commandFault_107 ⟨Nat.le_of_ble_eq_true rfl, Nat.le_of_ble_eq_true rfl⟩) hP hD hS hA rfl rfl rfl (fun H locs hP hD hS => ?_)
            have hE := Option.some.inj hE
            exact ei hx hb hr hlocks hK hP hD hS hE rfl dX8_commandFault_110
abbrev rm_X8_runCommand : Room := { frames := 6, cells := 0, slots := 0, locals := 145 }
set_option maxHeartbeats 40000000 in
set_option maxRecDepth 100000 in
theorem c_X8_runCommand (l : Launch) (D : va_G) (cy : Nat → Nat) (aI aT adP adS adB adO adR adA aP aS aB aO aR aA aH : Nat → Nat) (ah : Nat → Nat → Nat → Nat) (imT : Mem) (imdP : Mem) (indP : MemL) (imdS : Mem) (imdB : Mem) (imdO : Mem) (imdR : Mem) (imdA : Mem) (indA : MemL) (imP : Mem) (inP : MemL) (imS : Mem) (imB : Mem) (imO : Mem) (imR : Mem) (imA : Mem) (inA : MemL) (imH : Mem) (ihs : (Nat → PSt)) (mP' : Mem) (nP' : MemL) (mS' : Mem) (mB' : Mem) (mO' : Mem) (mR' : Mem) (mA' : Mem) (nA' : MemL) (hE : f_X8_runCommand imT imdP indP imdS imdB imdO imdR imdA indA imP inP imS imB imO imR imA inA imH ihs = some (mP', nP', mS', mB', mO', mR', mA', nA')) : CV l yX8_runCommand wsX8_runCommand rm_X8_runCommand D cy [.ref (aI 0)] (W_All cy aI aT adP adS adB adO adR adA aP aS aB aO aR aA aH ah imT imdP indP imdS imdB imdO imdR imdA indA imP inP imS imB imO imR imA inA imH ihs) 0 0 (W_All cy aI aT adP adS adB adO adR adA aP aS aB aO aR aA aH ah imT imdP indP imdS imdB imdO imdR imdA indA mP' nP' mS' mB' mO' mR' mA' nA' imH ihs) := by
  refine CQ_of (cc := cX8_runCommand) (maxL := 3) (ret := none) (by decide) rfl (Nat.le_of_ble_eq_true rfl) (fun p e s m args below meth c A ls hx hb hr hml hlocks hnm hown hts hA hK hN hP hD hS hl => ?_)
  have hown : s.vm.findClass RX8 = some m.cls := hown
  have hl : lv_has ls 3 [(0, .ref (aI 0))] := hl
  have hC : CallFix p m c cX8_runCommand 3 s args wsX8_runCommand RX8 := ⟨hx, hb, hml, hown, hts⟩
  have f10 : (Cond.fieldLink RX8 10 "IcePlant" "now" "LIcePlant$Plant;").before args s = true := hts _ (mC qf_X8_10)
  have f29 : (Cond.fieldLink RX8 29 "IcePlant" "text" "LIcePlant$Text;").before args s = true := hts _ (mC qf_X8_29)
  have f43 : (Cond.fieldLink RX8 43 "IcePlant$Plant" "store" "LIcePlant$Store;").before args s = true := hts _ (mC qf_X8_43)
  have f115 : (Cond.fieldLink RX8 115 "IcePlant$Plant" "boats" "LIcePlant$Boats;").before args s = true := hts _ (mC qf_X8_115)
  have f129 : (Cond.fieldLink RX8 129 "IcePlant$Boats" "catches" "[I").before args s = true := hts _ (mC qf_X8_129)
  have f135 : (Cond.fieldLink RX8 135 "IcePlant$Plant" "orders" "LIcePlant$Orders;").before args s = true := hts _ (mC qf_X8_135)
  have f323 : (Cond.fieldLink RX8 323 "IcePlant$Text" "numbers" "[I").before args s = true := hts _ (mC qf_X8_323)
  have f326 : (Cond.fieldLink RX8 326 "IcePlant$Text" "letter" "C").before args s = true := hts _ (mC qf_X8_326)
  have f330 : (Cond.fieldLink RX8 330 "IcePlant$Text" "marked" "Z").before args s = true := hts _ (mC qf_X8_330)
  have iX1 : ∀ w ∈ wsX10, w ∈ wsX8_runCommand := fun w h => mC (iA_X1 w h)
  have iX4 : ∀ w ∈ wsX40, w ∈ wsX8_runCommand := fun w h => mC (iA_X4 w h)
  have iX7 : ∀ w ∈ wsX70, w ∈ wsX8_runCommand := fun w h => mC (iA_X7 w h)
  have iX8 : ∀ w ∈ wsX80, w ∈ wsX8_runCommand := fun w h => mC (iA_X8 w h)
  unfold f_X8_runCommand at hE
  refine lv_aload_n hx hb dX8_runCommand_0 rfl (lv_at hl 0 rfl) ?_
  refine va_get (D := D) (ci := 8) (v := .ref (aT 0)) (C := RX8) (T := TX8) (N := 4) hx hb hts iX8 hown hK hP 0 rfl rfl 3 (by decide) f29 (fun _ h9 => h9) rfl dX8_runCommand_1 ?_
  refine va_get (D := D) (ci := 7) (v := .ref (aT 6)) (C := RX7) (T := TX7) (N := 8) hx hb hts iX7 hown hK hP 1 rfl rfl 5 (by decide) f323 (fun _ h9 => h9) rfl dX8_runCommand_4 ?_
  refine lv_iconst (v := 0) hx hb dX8_runCommand_7 (by decide) ?_
  refine va_iald hx hb hK hP 2 0 rfl rfl (show ¬ ((0 : Int32) < 0 ∨ 3 ≤ (0 : Int32).toNatClampNeg) by decide) dX8_runCommand_8 ?_
  obtain ⟨x1_1, e_x1_1, hE⟩ := lt_el hE
  refine s_nm e_x1_1 ?_
  refine lv_istore_n (lv' := [(1, .int x1_1), (0, .ref (aI 0))]) hx hb dX8_runCommand_9 rfl hl (by decide) rfl (fun ls hl => ?_)
  refine lv_aload_n hx hb dX8_runCommand_10 rfl (lv_at hl 1 rfl) ?_
  refine va_get (D := D) (ci := 8) (v := .ref (aT 0)) (C := RX8) (T := TX8) (N := 4) hx hb hts iX8 hown hK hP 0 rfl rfl 3 (by decide) f29 (fun _ h9 => h9) rfl dX8_runCommand_11 ?_
  refine va_get (D := D) (ci := 7) (v := .ref (aT 6)) (C := RX7) (T := TX7) (N := 8) hx hb hts iX7 hown hK hP 1 rfl rfl 5 (by decide) f323 (fun _ h9 => h9) rfl dX8_runCommand_14 ?_
  refine lv_iconst (v := 1) hx hb dX8_runCommand_17 (by decide) ?_
  refine va_iald hx hb hK hP 2 0 rfl rfl (show ¬ ((1 : Int32) < 0 ∨ 3 ≤ (1 : Int32).toNatClampNeg) by decide) dX8_runCommand_18 ?_
  obtain ⟨x2_2, e_x2_2, hE⟩ := lt_el hE
  refine s_nm e_x2_2 ?_
  refine lv_istore_n (lv' := [(2, .int x2_2), (1, .int x1_1), (0, .ref (aI 0))]) hx hb dX8_runCommand_19 rfl hl (by decide) rfl (fun ls hl => ?_)
  refine lv_aload_n hx hb dX8_runCommand_20 rfl (lv_at hl 2 rfl) ?_
  refine va_get (D := D) (ci := 8) (v := .ref (aT 0)) (C := RX8) (T := TX8) (N := 4) hx hb hts iX8 hown hK hP 0 rfl rfl 3 (by decide) f29 (fun _ h9 => h9) rfl dX8_runCommand_21 ?_
  refine va_get (D := D) (ci := 7) (v := .int (imT 3 0)) (C := RX7) (T := TX7) (N := 8) hx hb hts iX7 hown hK hP 1 rfl rfl 3 (by decide) f326 (fun _ h9 => h9) rfl dX8_runCommand_24 ?_
  by_cases c_6_99 : (imT 3 0) = 99
  · replace hE := it_t hE c_6_99
    refine lv_lookup (tgt := 112) (off := 85) hx hb dX8_runCommand_27 (by decide) (by rw [c_6_99]; decide) (by decide) ?_
    refine lv_aload_n hx hb dX8_runCommand_112 rfl (lv_at hl 2 rfl) ?_
    refine va_get (D := D) (ci := 8) (v := .ref (aP 0)) (C := RX8) (T := TX8) (N := 4) hx hb hts iX8 hown hK hP 0 rfl rfl 0 (by decide) f10 (fun _ h9 => h9) rfl dX8_runCommand_113 ?_
    refine va_get (D := D) (ci := 4) (v := .ref (aB 0)) (C := RX4) (T := TX4) (N := 13) hx hb hts iX4 hown hK hP 40 rfl rfl 3 (by decide) f115 (fun _ h9 => h9) rfl dX8_runCommand_116 ?_
    refine va_get (D := D) (ci := 1) (v := .ref (aB 2)) (C := RX1) (T := TX1) (N := 4) hx hb hts iX1 hown hK hP 52 rfl rfl 1 (by decide) f129 (fun _ h9 => h9) rfl dX8_runCommand_119 ?_
    refine lv_iload_n hx hb dX8_runCommand_122 rfl (lv_at hl 1 rfl) ?_
    refine lv_iload_n hx hb dX8_runCommand_123 rfl (lv_at hl 0 rfl) ?_
    obtain ⟨r_24, g_25, hc_27, hE⟩ := bd2_el hE
    obtain ⟨mB_26, e_mB_26, hE⟩ := lt_el hE
    refine ki (X := (List.take 53 (W_All cy aI aT adP adS adB adO adR adA aP aS aB aO aR aA aH ah imT imdP indP imdS imdB imdO imdR imdA indA imP inP imS imB imO imR imA inA imH ihs))) (Y := (List.drop 54 (W_All cy aI aT adP adS adB adO adR adA aP aS aB aO aR aA aH ah imT imdP indP imdS imdB imdO imdR imdA indA imP inP imS imB imO imR imA inA imH ihs))) (ws1 := (W_All cy aI aT adP adS adB adO adR adA aP aS aB aO aR aA aH ah imT imdP indP imdS imdB imdO imdR imdA indA imP inP imS mB_26 imO imR imA inA imH ihs)) (rS (X := (List.take 53 (W_All cy aI aT adP adS adB adO adR adA aP aS aB aO aR aA aH ah imT imdP indP imdS imdB imdO imdR imdA indA imP inP imS imB imO imR imA inA imH ihs))) (Y := (List.drop 54 (W_All cy aI aT adP adS adB adO adR adA aP aS aB aO aR aA aH ah imT imdP indP imdS imdB imdO imdR imdA indA imP inP imS imB imO imR imA inA imH ihs))) (As := [.ref (aB 2), .int x1_1, .int x2_2]) (rest := []) hC (c_X8_replace l D cy (aB 2) x1_1 x2_2 (8) (imB 1) r_24 g_25 hc_27) (cwS 3 hts gX8_runCommand_X8_replace rfl rfl rfl cd_X8_replace ⟨Nat.le_of_ble_eq_true rfl, Nat.le_of_ble_eq_true rfl⟩) hK hN hP hD hS hA rfl rfl hl.1 rfl (lv_room (Nat.le_of_ble_eq_true rfl)) dX8_runCommand_124 ⟨Nat.le_of_ble_eq_true rfl, Nat.le_of_ble_eq_true rfl⟩) hP hD hS hA rfl rfl (by rw [e_mB_26]; rfl) (fun H locs hP hD hS => ?_)
    refine lv_pop hx hb dX8_runCommand_127 rfl ?_
    refine lv_goto (tgt := 157) hx hb dX8_runCommand_128 (by decide) ?_
    have hE := Option.some.inj hE
    obtain ⟨q0, hE⟩ := Prod.mk.inj hE
    obtain ⟨q1, hE⟩ := Prod.mk.inj hE
    obtain ⟨q2, hE⟩ := Prod.mk.inj hE
    obtain ⟨q3, hE⟩ := Prod.mk.inj hE
    obtain ⟨q4, hE⟩ := Prod.mk.inj hE
    obtain ⟨q5, hE⟩ := Prod.mk.inj hE
    obtain ⟨q6, q7⟩ := Prod.mk.inj hE
    exact ev hx hb hr hlocks hK hP hD hS (by rw [q0, q1, q2, q3, q4, q5, q6, q7]) dX8_runCommand_157
  · replace hE := it_f hE c_6_99
    by_cases c_6_104 : (imT 3 0) = 104
    · replace hE := it_t hE c_6_104
      refine lv_lookup (tgt := 68) (off := 41) hx hb dX8_runCommand_27 (by decide) (by rw [c_6_104]; decide) (by decide) ?_
      refine lv_aload_n hx hb dX8_runCommand_68 rfl (lv_at hl 2 rfl) ?_
      refine va_get (D := D) (ci := 8) (v := .ref (aP 0)) (C := RX8) (T := TX8) (N := 4) hx hb hts iX8 hown hK hP 0 rfl rfl 0 (by decide) f10 (fun _ h9 => h9) rfl dX8_runCommand_69 ?_
      refine lv_iload_n hx hb dX8_runCommand_72 rfl (lv_at hl 1 rfl) ?_
      obtain ⟨r_14, mP_15, nP_16, mS_17, mB_18, mO_19, mR_20, mA_21, nA_22, hc_23, hE⟩ := bd9_el hE
      refine ki (X := ((W_I aI aP adP aH aT) ++ ((W_T cy aT imT) ++ ((W_P cy adP adS adB adO adR adA imdP indP) ++ ((W_S cy adS imdS) ++ ((W_B cy adB imdB) ++ ((W_O cy adO imdO) ++ ((W_R cy adR imdR) ++ (W_A cy adA imdA indA))))))))) (Y := ((W_H cy aH ah imH) ++ (W_HS cy ah ihs))) (ws1 := (W_All cy aI aT adP adS adB adO adR adA aP aS aB aO aR aA aH ah imT imdP indP imdS imdB imdO imdR imdA indA mP_15 nP_16 mS_17 mB_18 mO_19 mR_20 mA_21 nA_22 imH ihs)) (rV (X := ((W_I aI aP adP aH aT) ++ ((W_T cy aT imT) ++ ((W_P cy adP adS adB adO adR adA imdP indP) ++ ((W_S cy adS imdS) ++ ((W_B cy adB imdB) ++ ((W_O cy adO imdO) ++ ((W_R cy adR imdR) ++ (W_A cy adA imdA indA))))))))) (Y := ((W_H cy aH ah imH) ++ (W_HS cy ah ihs))) (As := [.int x1_1]) (rest := []) hC (c_X4_letPass l D cy aP aS aB aO aR aA x1_1 imP inP imS imB imO imR imA inA r_14 mP_15 nP_16 mS_17 mB_18 mO_19 mR_20 mA_21 nA_22 hc_23) (cwV 1 hts gX8_runCommand_X4_letPass rfl rfl rfl cd_X4_letPass ⟨Nat.le_of_ble_eq_true rfl, Nat.le_of_ble_eq_true rfl⟩) hK hN hP hD hS hA rfl 0 4 rfl rfl rfl hl.1 rfl (lv_room (Nat.le_of_ble_eq_true rfl)) dX8_runCommand_73 ⟨Nat.le_of_ble_eq_true rfl, Nat.le_of_ble_eq_true rfl⟩) hP hD hS hA rfl rfl rfl (fun H locs hP hD hS => ?_)
      refine lv_pop hx hb dX8_runCommand_76 rfl ?_
      refine lv_goto (tgt := 157) hx hb dX8_runCommand_77 (by decide) ?_
      have hE := Option.some.inj hE
      obtain ⟨q0, hE⟩ := Prod.mk.inj hE
      obtain ⟨q1, hE⟩ := Prod.mk.inj hE
      obtain ⟨q2, hE⟩ := Prod.mk.inj hE
      obtain ⟨q3, hE⟩ := Prod.mk.inj hE
      obtain ⟨q4, hE⟩ := Prod.mk.inj hE
      obtain ⟨q5, hE⟩ := Prod.mk.inj hE
      obtain ⟨q6, q7⟩ := Prod.mk.inj hE
      exact ev hx hb hr hlocks hK hP hD hS (by rw [q0, q1, q2, q3, q4, q5, q6, q7]) dX8_runCommand_157
    · replace hE := it_f hE c_6_104
      by_cases c_6_111 : (imT 3 0) = 111
      · replace hE := it_t hE c_6_111
        refine lv_lookup (tgt := 80) (off := 53) hx hb dX8_runCommand_27 (by decide) (by rw [c_6_111]; decide) (by decide) ?_
        refine lv_aload_n hx hb dX8_runCommand_80 rfl (lv_at hl 2 rfl) ?_
        refine va_get (D := D) (ci := 8) (v := .ref (aP 0)) (C := RX8) (T := TX8) (N := 4) hx hb hts iX8 hown hK hP 0 rfl rfl 0 (by decide) f10 (fun _ h9 => h9) rfl dX8_runCommand_81 ?_
        refine va_get (D := D) (ci := 4) (v := .ref (aO 0)) (C := RX4) (T := TX4) (N := 13) hx hb hts iX4 hown hK hP 40 rfl rfl 4 (by decide) f135 (fun _ h9 => h9) rfl dX8_runCommand_84 ?_
        refine lv_iload_n hx hb dX8_runCommand_87 rfl (lv_at hl 1 rfl) ?_
        refine lv_iload_n hx hb dX8_runCommand_88 rfl (lv_at hl 0 rfl) ?_
        refine lv_aload_n hx hb dX8_runCommand_89 rfl (lv_at hl 2 rfl) ?_
        refine va_get (D := D) (ci := 8) (v := .ref (aT 0)) (C := RX8) (T := TX8) (N := 4) hx hb hts iX8 hown hK hP 0 rfl rfl 3 (by decide) f29 (fun _ h9 => h9) rfl dX8_runCommand_90 ?_
        refine va_get (D := D) (ci := 7) (v := .ref (aT 6)) (C := RX7) (T := TX7) (N := 8) hx hb hts iX7 hown hK hP 1 rfl rfl 5 (by decide) f323 (fun _ h9 => h9) rfl dX8_runCommand_93 ?_
        refine lv_iconst (v := 2) hx hb dX8_runCommand_96 (by decide) ?_
        refine va_iald hx hb hK hP 2 0 rfl rfl (show ¬ ((2 : Int32) < 0 ∨ 3 ≤ (2 : Int32).toNatClampNeg) by decide) dX8_runCommand_97 ?_
        refine lv_aload_n hx hb dX8_runCommand_98 rfl (lv_at hl 2 rfl) ?_
        refine va_get (D := D) (ci := 8) (v := .ref (aT 0)) (C := RX8) (T := TX8) (N := 4) hx hb hts iX8 hown hK hP 0 rfl rfl 3 (by decide) f29 (fun _ h9 => h9) rfl dX8_runCommand_99 ?_
        refine va_get (D := D) (ci := 7) (v := .int (imT 4 0)) (C := RX7) (T := TX7) (N := 8) hx hb hts iX7 hown hK hP 1 rfl rfl 4 (by decide) f330 (fun _ h9 => h9) rfl dX8_runCommand_102 ?_
        obtain ⟨r_11, mO_12, hc_13, hE⟩ := bd2_el hE
        refine ki (X := ((W_I aI aP adP aH aT) ++ ((W_T cy aT imT) ++ ((W_P cy adP adS adB adO adR adA imdP indP) ++ ((W_S cy adS imdS) ++ ((W_B cy adB imdB) ++ ((W_O cy adO imdO) ++ ((W_R cy adR imdR) ++ ((W_A cy adA imdA indA) ++ ((W_P cy aP aS aB aO aR aA imP inP) ++ ((W_S cy aS imS) ++ (W_B cy aB imB)))))))))))) (Y := ((W_R cy aR imR) ++ ((W_A cy aA imA inA) ++ ((W_H cy aH ah imH) ++ (W_HS cy ah ihs))))) (ws1 := (W_All cy aI aT adP adS adB adO adR adA aP aS aB aO aR aA aH ah imT imdP indP imdS imdB imdO imdR imdA indA imP inP imS imB mO_12 imR imA inA imH ihs)) (rV (X := ((W_I aI aP adP aH aT) ++ ((W_T cy aT imT) ++ ((W_P cy adP adS adB adO adR adA imdP indP) ++ ((W_S cy adS imdS) ++ ((W_B cy adB imdB) ++ ((W_O cy adO imdO) ++ ((W_R cy adR imdR) ++ ((W_A cy adA imdA indA) ++ ((W_P cy aP aS aB aO aR aA imP inP) ++ ((W_S cy aS imS) ++ (W_B cy aB imB)))))))))))) (Y := ((W_R cy aR imR) ++ ((W_A cy aA imA inA) ++ ((W_H cy aH ah imH) ++ (W_HS cy ah ihs))))) (As := [.int x1_1, .int x2_2, .int (imT 5 (2 : Int32).toNatClampNeg), .int (imT 4 0)]) (rest := []) hC (c_X3_place l D cy aO x1_1 x2_2 (imT 5 (2 : Int32).toNatClampNeg) (imT 4 0) imO r_11 mO_12 hc_13) (cwV 4 hts gX8_runCommand_X3_place rfl rfl rfl cd_X3_place ⟨Nat.le_of_ble_eq_true rfl, Nat.le_of_ble_eq_true rfl⟩) hK hN hP hD hS hA rfl 0 3 rfl rfl rfl hl.1 rfl (lv_room (Nat.le_of_ble_eq_true rfl)) dX8_runCommand_105 ⟨Nat.le_of_ble_eq_true rfl, Nat.le_of_ble_eq_true rfl⟩) hP hD hS hA rfl rfl rfl (fun H locs hP hD hS => ?_)
        refine lv_pop hx hb dX8_runCommand_108 rfl ?_
        refine lv_goto (tgt := 157) hx hb dX8_runCommand_109 (by decide) ?_
        have hE := Option.some.inj hE
        obtain ⟨q0, hE⟩ := Prod.mk.inj hE
        obtain ⟨q1, hE⟩ := Prod.mk.inj hE
        obtain ⟨q2, hE⟩ := Prod.mk.inj hE
        obtain ⟨q3, hE⟩ := Prod.mk.inj hE
        obtain ⟨q4, hE⟩ := Prod.mk.inj hE
        obtain ⟨q5, hE⟩ := Prod.mk.inj hE
        obtain ⟨q6, q7⟩ := Prod.mk.inj hE
        exact ev hx hb hr hlocks hK hP hD hS (by rw [q0, q1, q2, q3, q4, q5, q6, q7]) dX8_runCommand_157
      · replace hE := it_f hE c_6_111
        by_cases c_6_112 : (imT 3 0) = 112
        · replace hE := it_t hE c_6_112
          refine lv_lookup (tgt := 131) (off := 104) hx hb dX8_runCommand_27 (by decide) (by rw [c_6_112]; decide) (by decide) ?_
          refine lv_aload_n hx hb dX8_runCommand_131 rfl (lv_at hl 2 rfl) ?_
          refine va_get (D := D) (ci := 8) (v := .ref (aP 0)) (C := RX8) (T := TX8) (N := 4) hx hb hts iX8 hown hK hP 0 rfl rfl 0 (by decide) f10 (fun _ h9 => h9) rfl dX8_runCommand_132 ?_
          refine lv_iload_n hx hb dX8_runCommand_135 rfl (lv_at hl 1 rfl) ?_
          refine lv_iload_n hx hb dX8_runCommand_136 rfl (lv_at hl 0 rfl) ?_
          obtain ⟨r_7, nP_8, mB_9, hc_10, hE⟩ := bd3_el hE
          refine ki (X := ((W_I aI aP adP aH aT) ++ ((W_T cy aT imT) ++ ((W_P cy adP adS adB adO adR adA imdP indP) ++ ((W_S cy adS imdS) ++ ((W_B cy adB imdB) ++ ((W_O cy adO imdO) ++ ((W_R cy adR imdR) ++ (W_A cy adA imdA indA))))))))) (Y := ((W_H cy aH ah imH) ++ (W_HS cy ah ihs))) (ws1 := (W_All cy aI aT adP adS adB adO adR adA aP aS aB aO aR aA aH ah imT imdP indP imdS imdB imdO imdR imdA indA imP nP_8 imS mB_9 imO imR imA inA imH ihs)) (rV (X := ((W_I aI aP adP aH aT) ++ ((W_T cy aT imT) ++ ((W_P cy adP adS adB adO adR adA imdP indP) ++ ((W_S cy adS imdS) ++ ((W_B cy adB imdB) ++ ((W_O cy adO imdO) ++ ((W_R cy adR imdR) ++ (W_A cy adA imdA indA))))))))) (Y := ((W_H cy aH ah imH) ++ (W_HS cy ah ihs))) (As := [.int x1_1, .int x2_2]) (rest := []) hC (c_X4_takePayment l D cy aP aS aB aO aR aA x1_1 x2_2 imP inP imS imB imO imR imA inA r_7 nP_8 mB_9 hc_10) (cwV 2 hts gX8_runCommand_X4_takePayment rfl rfl rfl cd_X4_takePayment ⟨Nat.le_of_ble_eq_true rfl, Nat.le_of_ble_eq_true rfl⟩) hK hN hP hD hS hA rfl 0 4 rfl rfl rfl hl.1 rfl (lv_room (Nat.le_of_ble_eq_true rfl)) dX8_runCommand_137 ⟨Nat.le_of_ble_eq_true rfl, Nat.le_of_ble_eq_true rfl⟩) hP hD hS hA rfl rfl rfl (fun H locs hP hD hS => ?_)
          refine lv_pop hx hb dX8_runCommand_140 rfl ?_
          refine lv_goto (tgt := 157) hx hb dX8_runCommand_141 (by decide) ?_
          have hE := Option.some.inj hE
          obtain ⟨q0, hE⟩ := Prod.mk.inj hE
          obtain ⟨q1, hE⟩ := Prod.mk.inj hE
          obtain ⟨q2, hE⟩ := Prod.mk.inj hE
          obtain ⟨q3, hE⟩ := Prod.mk.inj hE
          obtain ⟨q4, hE⟩ := Prod.mk.inj hE
          obtain ⟨q5, hE⟩ := Prod.mk.inj hE
          obtain ⟨q6, q7⟩ := Prod.mk.inj hE
          exact ev hx hb hr hlocks hK hP hD hS (by rw [q0, q1, q2, q3, q4, q5, q6, q7]) dX8_runCommand_157
        · replace hE := it_f hE c_6_112
          refine lv_lookup (tgt := 144) (off := 117) hx hb dX8_runCommand_27 (by decide) (lk_out _ (fun q h9 => ?_)) (by decide) ?_
          · have h9 : q ∈ [((99 : Int), (85 : Int)), ((104 : Int), (41 : Int)), ((111 : Int), (53 : Int)), ((112 : Int), (104 : Int))] := h9
            simp only [List.mem_cons, List.not_mem_nil, or_false] at h9
            rcases h9 with rfl | rfl | rfl | rfl
            · exact fun q9 => c_6_99 (q9.trans (by decide))
            · exact fun q9 => c_6_104 (q9.trans (by decide))
            · exact fun q9 => c_6_111 (q9.trans (by decide))
            · exact fun q9 => c_6_112 (q9.trans (by decide))
          · refine lv_aload_n hx hb dX8_runCommand_144 rfl (lv_at hl 2 rfl) ?_
            refine va_get (D := D) (ci := 8) (v := .ref (aP 0)) (C := RX8) (T := TX8) (N := 4) hx hb hts iX8 hown hK hP 0 rfl rfl 0 (by decide) f10 (fun _ h9 => h9) rfl dX8_runCommand_145 ?_
            refine va_get (D := D) (ci := 4) (v := .ref (aS 0)) (C := RX4) (T := TX4) (N := 13) hx hb hts iX4 hown hK hP 40 rfl rfl 2 (by decide) f43 (fun _ h9 => h9) rfl dX8_runCommand_148 ?_
            refine lv_iload_n hx hb dX8_runCommand_151 rfl (lv_at hl 1 rfl) ?_
            refine lv_iload_n hx hb dX8_runCommand_152 rfl (lv_at hl 0 rfl) ?_
            obtain ⟨r_3, mS_4, hc_5, hE⟩ := bd2_el hE
            refine ki (X := ((W_I aI aP adP aH aT) ++ ((W_T cy aT imT) ++ ((W_P cy adP adS adB adO adR adA imdP indP) ++ ((W_S cy adS imdS) ++ ((W_B cy adB imdB) ++ ((W_O cy adO imdO) ++ ((W_R cy adR imdR) ++ ((W_A cy adA imdA indA) ++ (W_P cy aP aS aB aO aR aA imP inP)))))))))) (Y := ((W_B cy aB imB) ++ ((W_O cy aO imO) ++ ((W_R cy aR imR) ++ ((W_A cy aA imA inA) ++ ((W_H cy aH ah imH) ++ (W_HS cy ah ihs))))))) (ws1 := (W_All cy aI aT adP adS adB adO adR adA aP aS aB aO aR aA aH ah imT imdP indP imdS imdB imdO imdR imdA indA imP inP mS_4 imB imO imR imA inA imH ihs)) (rV (X := ((W_I aI aP adP aH aT) ++ ((W_T cy aT imT) ++ ((W_P cy adP adS adB adO adR adA imdP indP) ++ ((W_S cy adS imdS) ++ ((W_B cy adB imdB) ++ ((W_O cy adO imdO) ++ ((W_R cy adR imdR) ++ ((W_A cy adA imdA indA) ++ (W_P cy aP aS aB aO aR aA imP inP)))))))))) (Y := ((W_B cy aB imB) ++ ((W_O cy aO imO) ++ ((W_R cy aR imR) ++ ((W_A cy aA imA inA) ++ ((W_H cy aH ah imH) ++ (W_HS cy ah ihs))))))) (As := [.int x1_1, .int x2_2]) (rest := []) hC (c_X6_moveTop l D cy aS x1_1 x2_2 imS r_3 mS_4 hc_5) (cwV 2 hts gX8_runCommand_X6_moveTop rfl rfl rfl cd_X6_moveTop ⟨Nat.le_of_ble_eq_true rfl, Nat.le_of_ble_eq_true rfl⟩) hK hN hP hD hS hA rfl 0 6 rfl rfl rfl hl.1 rfl (lv_room (Nat.le_of_ble_eq_true rfl)) dX8_runCommand_153 ⟨Nat.le_of_ble_eq_true rfl, Nat.le_of_ble_eq_true rfl⟩) hP hD hS hA rfl rfl rfl (fun H locs hP hD hS => ?_)
            refine lv_pop hx hb dX8_runCommand_156 rfl ?_
            have hE := Option.some.inj hE
            obtain ⟨q0, hE⟩ := Prod.mk.inj hE
            obtain ⟨q1, hE⟩ := Prod.mk.inj hE
            obtain ⟨q2, hE⟩ := Prod.mk.inj hE
            obtain ⟨q3, hE⟩ := Prod.mk.inj hE
            obtain ⟨q4, hE⟩ := Prod.mk.inj hE
            obtain ⟨q5, hE⟩ := Prod.mk.inj hE
            obtain ⟨q6, q7⟩ := Prod.mk.inj hE
            exact ev hx hb hr hlocks hK hP hD hS (by rw [q0, q1, q2, q3, q4, q5, q6, q7]) dX8_runCommand_157
abbrev rm_X8_execute : Room := { frames := 8, cells := 1, slots := 6, locals := 167 }
set_option maxHeartbeats 40000000 in
set_option maxRecDepth 100000 in
theorem c_X8_execute (l : Launch) (hst : l.stackTraces = false) (D : va_G) (cy : Nat → Nat) (aI aT adP adS adB adO adR adA aP aS aB aO aR aA aH : Nat → Nat) (ah : Nat → Nat → Nat → Nat) (imT : Mem) (imdP : Mem) (indP : MemL) (imdS : Mem) (imdB : Mem) (imdO : Mem) (imdR : Mem) (imdA : Mem) (indA : MemL) (imP : Mem) (inP : MemL) (imS : Mem) (imB : Mem) (imO : Mem) (imR : Mem) (imA : Mem) (inA : MemL) (imH : Mem) (ihs : (Nat → PSt)) (k' : Nat) (r' : Int32) (mT' : Mem) (mP' : Mem) (nP' : MemL) (mS' : Mem) (mB' : Mem) (mO' : Mem) (mR' : Mem) (mA' : Mem) (nA' : MemL) (mH' : Mem) (hs' : (Nat → PSt)) (hE : f_X8_execute imT imdP indP imdS imdB imdO imdR imdA indA imP inP imS imB imO imR imA inA imH ihs = some (k', r', mT', mP', nP', mS', mB', mO', mR', mA', nA', mH', hs')) : CXI l yX8_execute wsX8_execute rm_X8_execute D cy [.ref (aI 0)] (W_All cy aI aT adP adS adB adO adR adA aP aS aB aO aR aA aH ah imT imdP indP imdS imdB imdO imdR imdA indA imP inP imS imB imO imR imA inA imH ihs) 1 6 k' r' (W_All cy aI aT adP adS adB adO adR adA aP aS aB aO aR aA aH ah mT' imdP indP imdS imdB imdO imdR imdA indA mP' nP' mS' mB' mO' mR' mA' nA' mH' hs') := by
  refine CX_of (cc := cX8_execute) (maxL := 2) (ret := (some .int)) (by decide) rfl (Nat.le_of_ble_eq_true rfl) (fun p e s m args below meth c A ls hx hb hr hml hlocks hnm hown hts hA htab hK hN hP hD hS hl => ?_)
  have hown : s.vm.findClass RX8 = some m.cls := hown
  have hl : lv_has ls 2 [(0, .ref (aI 0))] := hl
  have hC : CallFix p m c cX8_execute 2 s args wsX8_execute RX8 := ⟨hx, hb, hml, hown, hts⟩
  have f10 : (Cond.fieldLink RX8 10 "IcePlant" "now" "LIcePlant$Plant;").before args s = true := hts _ (mC qf_X8_10)
  have f22 : (Cond.fieldLink RX8 22 "IcePlant" "history" "LIcePlant$History;").before args s = true := hts _ (mC qf_X8_22)
  have f29 : (Cond.fieldLink RX8 29 "IcePlant" "text" "LIcePlant$Text;").before args s = true := hts _ (mC qf_X8_29)
  have f250 : (Cond.fieldLink RX8 250 "IcePlant$Text" "error" "I").before args s = true := hts _ (mC qf_X8_250)
  have iX7 : ∀ w ∈ wsX70, w ∈ wsX8_execute := fun w h => mC (iA_X7 w h)
  have iX8 : ∀ w ∈ wsX80, w ∈ wsX8_execute := fun w h => mC (iA_X8 w h)
  have h88 : ∀ (x1 : Int32) (mT : Mem) (mP : Mem) (nP : MemL) (mS : Mem) (mB : Mem) (mO : Mem) (mR : Mem) (mA : Mem) (nA : MemL) (mH : Mem) (hs : (Nat → PSt)), ∀  (H : Heap) (locs : List Loc) (ls : Array Slot), f_X8_execute_b88 x1 mT imdP indP imdS imdB imdO imdR imdA indA mP nP mS mB mO mR mA nA mH hs = some (k', r', mT', mP', nP', mS', mB', mO', mR', mA', nA', mH', hs') → va_P D vwCl (W_All cy aI aT adP adS adB adO adR adA aP aS aB aO aR aA aH ah mT imdP indP imdS imdB imdO imdR imdA indA mP nP mS mB mO mR mA nA mH hs) H → va_D A (W_All cy aI aT adP adS adB adO adR adA aP aS aB aO aR aA aH ah mT imdP indP imdS imdB imdO imdR imdA indA mP nP mS mB mO mR mA nA mH hs) → va_S A s.heap H locs → lv_has ls 2 [(0, .ref (aI 0)), (1, .int x1)] → W p l e rm_X8_execute s m args below meth c H locs 1 6 (vx_MQ below (QXI D cy k' r' (W_All cy aI aT adP adS adB adO adR adA aP aS aB aO aR aA aH ah mT' imdP indP imdS imdB imdO imdR imdA indA mP' nP' mS' mB' mO' mR' mA' nA' mH' hs') A) (XX D cy k' (W_All cy aI aT adP adS adB adO adR adA aP aS aB aO aR aA aH ah mT' imdP indP imdS imdB imdO imdR imdA indA mP' nP' mS' mB' mO' mR' mA' nA' mH' hs') A) args s 1 6 A) (F0 m 88 ls []) := by
    intro x1 mT mP nP mS mB mO mR mA nA mH hs H locs ls hE hP hD hS hl
    replace hE : (bd2 (f_X7_empty mT) fun r_1 mT_2 => some (0, x1, mT_2, mP, nP, mS, mB, mO, mR, mA, nA, mH, hs)) = some (k', r', mT', mP', nP', mS', mB', mO', mR', mA', nA', mH', hs') := hE
    refine lv_aload_n hx hb dX8_execute_88 rfl (lv_at hl 0 rfl) ?_
    refine va_get (D := D) (ci := 8) (v := .ref (aT 0)) (C := RX8) (T := TX8) (N := 4) hx hb hts iX8 hown hK hP 0 rfl rfl 3 (by decide) f29 (fun _ h9 => h9) rfl dX8_execute_89 ?_
    obtain ⟨r_1, mT_2, hc_3, hE⟩ := bd2_el hE
    refine ki (X := (W_I aI aP adP aH aT)) (Y := ((W_P cy adP adS adB adO adR adA imdP indP) ++ ((W_S cy adS imdS) ++ ((W_B cy adB imdB) ++ ((W_O cy adO imdO) ++ ((W_R cy adR imdR) ++ ((W_A cy adA imdA indA) ++ ((W_P cy aP aS aB aO aR aA mP nP) ++ ((W_S cy aS mS) ++ ((W_B cy aB mB) ++ ((W_O cy aO mO) ++ ((W_R cy aR mR) ++ ((W_A cy aA mA nA) ++ ((W_H cy aH ah mH) ++ (W_HS cy ah hs))))))))))))))) (ws1 := (W_All cy aI aT adP adS adB adO adR adA aP aS aB aO aR aA aH ah mT_2 imdP indP imdS imdB imdO imdR imdA indA mP nP mS mB mO mR mA nA mH hs)) (rV (X := (W_I aI aP adP aH aT)) (Y := ((W_P cy adP adS adB adO adR adA imdP indP) ++ ((W_S cy adS imdS) ++ ((W_B cy adB imdB) ++ ((W_O cy adO imdO) ++ ((W_R cy adR imdR) ++ ((W_A cy adA imdA indA) ++ ((W_P cy aP aS aB aO aR aA mP nP) ++ ((W_S cy aS mS) ++ ((W_B cy aB mB) ++ ((W_O cy aO mO) ++ ((W_R cy aR mR) ++ ((W_A cy aA mA nA) ++ ((W_H cy aH ah mH) ++ (W_HS cy ah hs))))))))))))))) (As := []) (rest := []) hC (c_X7_empty l D cy aT mT r_1 mT_2 hc_3) (cwV 0 hts gX8_execute_X7_empty rfl rfl rfl cd_X7_empty ⟨Nat.le_of_ble_eq_true rfl, Nat.le_of_ble_eq_true rfl⟩) hK hN hP hD hS hA rfl 0 7 rfl rfl rfl hl.1 rfl (lv_room (Nat.le_of_ble_eq_true rfl)) dX8_execute_92 ⟨Nat.le_of_ble_eq_true rfl, Nat.le_of_ble_eq_true rfl⟩) hP hD hS hA rfl rfl rfl (fun H locs hP hD hS => ?_)
    refine lv_pop hx hb dX8_execute_95 rfl ?_
    refine lv_iload_n hx hb dX8_execute_96 rfl (lv_at hl 1 rfl) ?_
    have hE := Option.some.inj hE
    obtain ⟨q0, hE⟩ := Prod.mk.inj hE
    obtain ⟨q1, hE⟩ := Prod.mk.inj hE
    obtain ⟨q2, hE⟩ := Prod.mk.inj hE
    obtain ⟨q3, hE⟩ := Prod.mk.inj hE
    obtain ⟨q4, hE⟩ := Prod.mk.inj hE
    obtain ⟨q5, hE⟩ := Prod.mk.inj hE
    obtain ⟨q6, hE⟩ := Prod.mk.inj hE
    obtain ⟨q7, hE⟩ := Prod.mk.inj hE
    obtain ⟨q8, hE⟩ := Prod.mk.inj hE
    obtain ⟨q9, hE⟩ := Prod.mk.inj hE
    obtain ⟨q10, hE⟩ := Prod.mk.inj hE
    obtain ⟨q11, q12⟩ := Prod.mk.inj hE
    exact exi hx hb hr hlocks hK hP hD hS q0 q1 (by rw [q2, q3, q4, q5, q6, q7, q8, q9, q10, q11, q12]) (Nat.le_of_ble_eq_true rfl) (Nat.le_of_ble_eq_true rfl) dX8_execute_97
  have h45 : ∀ (mH : Mem) (hs : (Nat → PSt)), ∀ (n : Nat), ∀ (x1 : Int32) (mT : Mem) (mP : Mem) (nP : MemL) (mS : Mem) (mB : Mem) (mO : Mem) (mR : Mem) (mA : Mem) (nA : MemL) (H : Heap) (locs : List Loc) (ls : Array Slot), f_X8_execute_L45 imdP indP imdS imdB imdO imdR imdA indA mH hs n x1 mT mP nP mS mB mO mR mA nA = some (k', r', mT', mP', nP', mS', mB', mO', mR', mA', nA', mH', hs') → va_P D vwCl (W_All cy aI aT adP adS adB adO adR adA aP aS aB aO aR aA aH ah mT imdP indP imdS imdB imdO imdR imdA indA mP nP mS mB mO mR mA nA mH hs) H → va_D A (W_All cy aI aT adP adS adB adO adR adA aP aS aB aO aR aA aH ah mT imdP indP imdS imdB imdO imdR imdA indA mP nP mS mB mO mR mA nA mH hs) → va_S A s.heap H locs → lv_has ls 2 [(0, .ref (aI 0)), (1, .int x1)] → W p l e rm_X8_execute s m args below meth c H locs 1 6 (vx_MQ below (QXI D cy k' r' (W_All cy aI aT adP adS adB adO adR adA aP aS aB aO aR aA aH ah mT' imdP indP imdS imdB imdO imdR imdA indA mP' nP' mS' mB' mO' mR' mA' nA' mH' hs') A) (XX D cy k' (W_All cy aI aT adP adS adB adO adR adA aP aS aB aO aR aA aH ah mT' imdP indP imdS imdB imdO imdR imdA indA mP' nP' mS' mB' mO' mR' mA' nA' mH' hs') A) args s 1 6 A) (F0 m 45 ls []) := by
    intro mH hs n
    induction n with
    | zero => intro x1 mT mP nP mS mB mO mR mA nA H locs ls hE; exact absurd hE (fun h9 => nomatch h9)
    | succ n ih =>
      intro x1 mT mP nP mS mB mO mR mA nA H locs ls hE hP hD hS hl
      replace hE : ((if (120 : Int32) ≤ x1 then f_X8_execute_b88 x1 mT imdP indP imdS imdB imdO imdR imdA indA mP nP mS mB mO mR mA nA mH hs else bd1 (f_X7_hasCommand mT) fun r_5 => (if r_5 = 0 then f_X8_execute_b88 x1 mT imdP indP imdS imdB imdO imdR imdA indA mP nP mS mB mO mR mA nA mH hs else bd1 (f_X7_readCommand mT) fun mT_8 => bd1 (f_X8_commandFault mT_8 imdP indP imdS imdB imdO imdR imdA indA mP nP mS mB mO mR mA nA mH hs) fun r_10 => (if r_10 = 0 then bd8 (f_X8_runCommand mT_8 imdP indP imdS imdB imdO imdR imdA indA mP nP mS mB mO mR mA nA mH hs) fun mP_13 nP_14 mS_15 mB_16 mO_17 mR_18 mA_19 nA_20 => lt' (x1 + (1 : Int32)) fun x1_22 => (f_X8_execute_L45 imdP indP imdS imdB imdO imdR imdA indA mH hs n) x1_22 mT_8 mP_13 nP_14 mS_15 mB_16 mO_17 mR_18 mA_19 nA_20 else f_X8_execute_b88 x1 mT_8 imdP indP imdS imdB imdO imdR imdA indA mP nP mS mB mO mR mA nA mH hs)))) = some (k', r', mT', mP', nP', mS', mB', mO', mR', mA', nA', mH', hs') := hE
      refine lv_iload_n hx hb dX8_execute_45 rfl (lv_at hl 1 rfl) ?_
      refine lv_bipush (v := 120) hx hb dX8_execute_46 (by decide) ?_
      refine lv_icmp_ge (tgt := 88) hx hb dX8_execute_48 (by decide) (fun c_4 => ?_) (fun c_4 => ?_)
      · replace hE := it_t hE c_4
        refine W.widen (k := 1) (n := 6) (Nat.le_of_ble_eq_true rfl) (Nat.le_of_ble_eq_true rfl) ?_
        exact h88 x1 mT mP nP mS mB mO mR mA nA mH hs _ _ _ hE hP hD hS (lv_sub hl [0, 1] rfl)
      · replace hE := it_f hE c_4
        refine lv_aload_n hx hb dX8_execute_51 rfl (lv_at hl 0 rfl) ?_
        refine va_get (D := D) (ci := 8) (v := .ref (aT 0)) (C := RX8) (T := TX8) (N := 4) hx hb hts iX8 hown hK hP 0 rfl rfl 3 (by decide) f29 (fun _ h9 => h9) rfl dX8_execute_52 ?_
        obtain ⟨r_5, hc_6, hE⟩ := bd1_el hE
        refine ki (X := (W_I aI aP adP aH aT)) (Y := ((W_P cy adP adS adB adO adR adA imdP indP) ++ ((W_S cy adS imdS) ++ ((W_B cy adB imdB) ++ ((W_O cy adO imdO) ++ ((W_R cy adR imdR) ++ ((W_A cy adA imdA indA) ++ ((W_P cy aP aS aB aO aR aA mP nP) ++ ((W_S cy aS mS) ++ ((W_B cy aB mB) ++ ((W_O cy aO mO) ++ ((W_R cy aR mR) ++ ((W_A cy aA mA nA) ++ ((W_H cy aH ah mH) ++ (W_HS cy ah hs))))))))))))))) (ws1 := (W_All cy aI aT adP adS adB adO adR adA aP aS aB aO aR aA aH ah mT imdP indP imdS imdB imdO imdR imdA indA mP nP mS mB mO mR mA nA mH hs)) (rV (X := (W_I aI aP adP aH aT)) (Y := ((W_P cy adP adS adB adO adR adA imdP indP) ++ ((W_S cy adS imdS) ++ ((W_B cy adB imdB) ++ ((W_O cy adO imdO) ++ ((W_R cy adR imdR) ++ ((W_A cy adA imdA indA) ++ ((W_P cy aP aS aB aO aR aA mP nP) ++ ((W_S cy aS mS) ++ ((W_B cy aB mB) ++ ((W_O cy aO mO) ++ ((W_R cy aR mR) ++ ((W_A cy aA mA nA) ++ ((W_H cy aH ah mH) ++ (W_HS cy ah hs))))))))))))))) (As := []) (rest := []) hC (c_X7_hasCommand l D cy aT mT r_5 hc_6) (cwV 0 hts gX8_execute_X7_hasCommand rfl rfl rfl cd_X7_hasCommand ⟨Nat.le_of_ble_eq_true rfl, Nat.le_of_ble_eq_true rfl⟩) hK hN hP hD hS hA rfl 0 7 rfl rfl rfl hl.1 rfl (lv_room (Nat.le_of_ble_eq_true rfl)) dX8_execute_55 ⟨Nat.le_of_ble_eq_true rfl, Nat.le_of_ble_eq_true rfl⟩) hP hD hS hA rfl rfl rfl (fun H locs hP hD hS => ?_)
        refine lv_if_eq (tgt := 88) hx hb dX8_execute_58 (by decide) (fun c_7 => ?_) (fun c_7 => ?_)
        · replace hE := it_t hE c_7
          refine W.widen (k := 1) (n := 6) (Nat.le_of_ble_eq_true rfl) (Nat.le_of_ble_eq_true rfl) ?_
          exact h88 x1 mT mP nP mS mB mO mR mA nA mH hs _ _ _ hE hP hD hS (lv_sub hl [0, 1] rfl)
        · replace hE := it_f hE c_7
          refine lv_aload_n hx hb dX8_execute_61 rfl (lv_at hl 0 rfl) ?_
          refine va_get (D := D) (ci := 8) (v := .ref (aT 0)) (C := RX8) (T := TX8) (N := 4) hx hb hts iX8 hown hK hP 0 rfl rfl 3 (by decide) f29 (fun _ h9 => h9) rfl dX8_execute_62 ?_
          obtain ⟨mT_8, hc_9, hE⟩ := bd1_el hE
          refine kv (X := (W_I aI aP adP aH aT)) (Y := ((W_P cy adP adS adB adO adR adA imdP indP) ++ ((W_S cy adS imdS) ++ ((W_B cy adB imdB) ++ ((W_O cy adO imdO) ++ ((W_R cy adR imdR) ++ ((W_A cy adA imdA indA) ++ ((W_P cy aP aS aB aO aR aA mP nP) ++ ((W_S cy aS mS) ++ ((W_B cy aB mB) ++ ((W_O cy aO mO) ++ ((W_R cy aR mR) ++ ((W_A cy aA mA nA) ++ ((W_H cy aH ah mH) ++ (W_HS cy ah hs))))))))))))))) (ws1 := (W_All cy aI aT adP adS adB adO adR adA aP aS aB aO aR aA aH ah mT_8 imdP indP imdS imdB imdO imdR imdA indA mP nP mS mB mO mR mA nA mH hs)) (rV (X := (W_I aI aP adP aH aT)) (Y := ((W_P cy adP adS adB adO adR adA imdP indP) ++ ((W_S cy adS imdS) ++ ((W_B cy adB imdB) ++ ((W_O cy adO imdO) ++ ((W_R cy adR imdR) ++ ((W_A cy adA imdA indA) ++ ((W_P cy aP aS aB aO aR aA mP nP) ++ ((W_S cy aS mS) ++ ((W_B cy aB mB) ++ ((W_O cy aO mO) ++ ((W_R cy aR mR) ++ ((W_A cy aA mA nA) ++ ((W_H cy aH ah mH) ++ (W_HS cy ah hs))))))))))))))) (As := []) (rest := []) hC (c_X7_readCommand l D cy aT mT mT_8 hc_9) (cwV 0 hts gX8_execute_X7_readCommand rfl rfl rfl cd_X7_readCommand ⟨Nat.le_of_ble_eq_true rfl, Nat.le_of_ble_eq_true rfl⟩) hK hN hP hD hS hA rfl 0 7 rfl rfl rfl hl.1 rfl (lv_room (Nat.le_of_ble_eq_true rfl)) dX8_execute_65 ⟨Nat.le_of_ble_eq_true rfl, Nat.le_of_ble_eq_true rfl⟩) hP hD hS hA rfl rfl rfl (fun H locs hP hD hS => ?_)
          refine lv_aload_n hx hb dX8_execute_68 rfl (lv_at hl 0 rfl) ?_
          obtain ⟨r_10, hc_11, hE⟩ := bd1_el hE
          refine ki (X := []) (Y := []) (ws1 := (W_All cy aI aT adP adS adB adO adR adA aP aS aB aO aR aA aH ah mT_8 imdP indP imdS imdB imdO imdR imdA indA mP nP mS mB mO mR mA nA mH hs)) (rV (X := []) (Y := []) (As := []) (rest := []) hC (c_X8_commandFault l D cy aI aT adP adS adB adO adR adA aP aS aB aO aR aA aH ah mT_8 imdP indP imdS imdB imdO imdR imdA indA mP nP mS mB mO mR mA nA mH hs r_10 hc_11) (cwV 0 hts gX8_execute_X8_commandFault rfl rfl rfl cd_X8_commandFault ⟨Nat.le_of_ble_eq_true rfl, Nat.le_of_ble_eq_true rfl⟩) hK hN hP hD hS hA rfl 0 8 rfl rfl rfl hl.1 rfl (lv_room (Nat.le_of_ble_eq_true rfl)) dX8_execute_69 ⟨Nat.le_of_ble_eq_true rfl, Nat.le_of_ble_eq_true rfl⟩) hP hD hS hA rfl rfl rfl (fun H locs hP hD hS => ?_)
          refine lv_if_eq (tgt := 78) hx hb dX8_execute_72 (by decide) (fun c_12 => ?_) (fun c_12 => ?_)
          · replace hE := it_t hE c_12
            refine lv_aload_n hx hb dX8_execute_78 rfl (lv_at hl 0 rfl) ?_
            obtain ⟨mP_13, nP_14, mS_15, mB_16, mO_17, mR_18, mA_19, nA_20, hc_21, hE⟩ := bd8_el hE
            refine kv (X := []) (Y := []) (ws1 := (W_All cy aI aT adP adS adB adO adR adA aP aS aB aO aR aA aH ah mT_8 imdP indP imdS imdB imdO imdR imdA indA mP_13 nP_14 mS_15 mB_16 mO_17 mR_18 mA_19 nA_20 mH hs)) (rV (X := []) (Y := []) (As := []) (rest := []) hC (c_X8_runCommand l D cy aI aT adP adS adB adO adR adA aP aS aB aO aR aA aH ah mT_8 imdP indP imdS imdB imdO imdR imdA indA mP nP mS mB mO mR mA nA mH hs mP_13 nP_14 mS_15 mB_16 mO_17 mR_18 mA_19 nA_20 hc_21) (cwV 0 hts gX8_execute_X8_runCommand rfl rfl rfl cd_X8_runCommand ⟨Nat.le_of_ble_eq_true rfl, Nat.le_of_ble_eq_true rfl⟩) hK hN hP hD hS hA rfl 0 8 rfl rfl rfl hl.1 rfl (lv_room (Nat.le_of_ble_eq_true rfl)) dX8_execute_79 ⟨Nat.le_of_ble_eq_true rfl, Nat.le_of_ble_eq_true rfl⟩) hP hD hS hA rfl rfl rfl (fun H locs hP hD hS => ?_)
            obtain ⟨x1_22, e_x1_22, hE⟩ := lt_el hE
            refine lv_iinc (v := x1_22) (lv' := [(1, .int x1_22), (0, .ref (aI 0))]) hx hb dX8_execute_82 hl (k := 1) rfl (by rw [e_x1_22]; rfl) (by decide) rfl (fun ls hl => ?_)
            refine lv_goto (tgt := 45) hx hb dX8_execute_85 (by decide) ?_
            refine W.widen (k := 1) (n := 6) (Nat.le_of_ble_eq_true rfl) (Nat.le_of_ble_eq_true rfl) ?_
            exact ih x1_22 mT_8 mP_13 nP_14 mS_15 mB_16 mO_17 mR_18 mA_19 nA_20 _ _ _ hE hP hD hS (lv_sub hl [1, 0] rfl)
          · replace hE := it_f hE c_12
            refine lv_goto (tgt := 88) hx hb dX8_execute_75 (by decide) ?_
            refine W.widen (k := 1) (n := 6) (Nat.le_of_ble_eq_true rfl) (Nat.le_of_ble_eq_true rfl) ?_
            exact h88 x1 mT_8 mP nP mS mB mO mR mA nA mH hs _ _ _ hE hP hD hS (lv_sub hl [0, 1] rfl)
  have h22 : ∀ (t0 : Int32) (mT : Mem) (mP : Mem) (nP : MemL) (mS : Mem) (mB : Mem) (mO : Mem) (mR : Mem) (mA : Mem) (nA : MemL) (mH : Mem) (hs : (Nat → PSt)), ∀  (H : Heap) (locs : List Loc) (ls : Array Slot), f_X8_execute_b22 t0 mT imdP indP imdS imdB imdO imdR imdA indA mP nP mS mB mO mR mA nA mH hs = some (k', r', mT', mP', nP', mS', mB', mO', mR', mA', nA', mH', hs') → va_P D vwCl (W_All cy aI aT adP adS adB adO adR adA aP aS aB aO aR aA aH ah mT imdP indP imdS imdB imdO imdR imdA indA mP nP mS mB mO mR mA nA mH hs) H → va_D A (W_All cy aI aT adP adS adB adO adR adA aP aS aB aO aR aA aH ah mT imdP indP imdS imdB imdO imdR imdA indA mP nP mS mB mO mR mA nA mH hs) → va_S A s.heap H locs → lv_has ls 2 [(0, .ref (aI 0))] → W p l e rm_X8_execute s m args below meth c H locs 0 0 (vx_MQ below (QXI D cy k' r' (W_All cy aI aT adP adS adB adO adR adA aP aS aB aO aR aA aH ah mT' imdP indP imdS imdB imdO imdR imdA indA mP' nP' mS' mB' mO' mR' mA' nA' mH' hs') A) (XX D cy k' (W_All cy aI aT adP adS adB adO adR adA aP aS aB aO aR aA aH ah mT' imdP indP imdS imdB imdO imdR imdA indA mP' nP' mS' mB' mO' mR' mA' nA' mH' hs') A) args s 1 6 A) (F0 m 22 ls [.int t0]) := by
    intro t0 mT mP nP mS mB mO mR mA nA mH hs H locs ls hE hP hD hS hl
    replace hE : (bd1 (f_X8_needState t0) fun k_24 => (if k_24 = 0 then bd2 (f_X2_save mP nP mS mB mO mR mA nA mH hs) fun mH_25 hs_26 => bd1 (f_X7_start mT) fun mT_28 => f_X8_execute_L45 imdP indP imdS imdB imdO imdR imdA indA mH_25 hs_26 fuel (0 : Int32) mT_28 mP nP mS mB mO mR mA nA else some (k_24, (0 : Int32), mT, mP, nP, mS, mB, mO, mR, mA, nA, mH, hs))) = some (k', r', mT', mP', nP', mS', mB', mO', mR', mA', nA', mH', hs') := hE
    obtain ⟨k_24, hc_23, hE⟩ := bd1_el hE
    refine kxv (X := []) (Y := (W_All cy aI aT adP adS adB adO adR adA aP aS aB aO aR aA aH ah mT imdP indP imdS imdB imdO imdR imdA indA mP nP mS mB mO mR mA nA mH hs)) (ws1 := (W_All cy aI aT adP adS adB adO adR adA aP aS aB aO aR aA aH ah mT imdP indP imdS imdB imdO imdR imdA indA mP nP mS mB mO mR mA nA mH hs)) (xS (X := []) (Y := (W_All cy aI aT adP adS adB adO adR adA aP aS aB aO aR aA aH ah mT imdP indP imdS imdB imdO imdR imdA indA mP nP mS mB mO mR mA nA mH hs)) (As := [.int t0]) (rest := []) hC (c_X8_needState l hst D cy t0 k_24 hc_23) (cwS 1 hts gX8_execute_X8_needState rfl rfl rfl cd_X8_needState ⟨Nat.le_of_ble_eq_true rfl, Nat.le_of_ble_eq_true rfl⟩) hK hN hP hD hS hA rfl rfl hl.1 rfl (lv_room (Nat.le_of_ble_eq_true rfl)) dX8_execute_22 ⟨Nat.le_of_ble_eq_true rfl, Nat.le_of_ble_eq_true rfl⟩) hP hD hS hA rfl rfl rfl (fun hk0 H locs ce q9 hP hD hS hce hcv hcl => ?_) (fun hk0 H locs hP hD hS => ?_)
    · replace hE := it_f hE hk0
      have hE := Option.some.inj hE
      obtain ⟨q0, hE⟩ := Prod.mk.inj hE
      obtain ⟨q1, hE⟩ := Prod.mk.inj hE
      obtain ⟨q2, hE⟩ := Prod.mk.inj hE
      obtain ⟨q3, hE⟩ := Prod.mk.inj hE
      obtain ⟨q4, hE⟩ := Prod.mk.inj hE
      obtain ⟨q5, hE⟩ := Prod.mk.inj hE
      obtain ⟨q6, hE⟩ := Prod.mk.inj hE
      obtain ⟨q7, hE⟩ := Prod.mk.inj hE
      obtain ⟨q8, hE⟩ := Prod.mk.inj hE
      obtain ⟨q9, hE⟩ := Prod.mk.inj hE
      obtain ⟨q10, hE⟩ := Prod.mk.inj hE
      obtain ⟨q11, q12⟩ := Prod.mk.inj hE
      exact exx htab hlocks hK hP hD hS hce hcv hcl hk0 q0 (by rw [q2, q3, q4, q5, q6, q7, q8, q9, q10, q11, q12]) (Nat.le_of_ble_eq_true rfl) (Nat.le_of_ble_eq_true rfl)
    · replace hE := it_t hE hk0
      refine lv_aload_n hx hb dX8_execute_25 rfl (lv_at hl 0 rfl) ?_
      refine va_get (D := D) (ci := 8) (v := .ref (aH 0)) (C := RX8) (T := TX8) (N := 4) hx hb hts iX8 hown hK hP 0 rfl rfl 2 (by decide) f22 (fun _ h9 => h9) rfl dX8_execute_26 ?_
      refine lv_aload_n hx hb dX8_execute_29 rfl (lv_at hl 0 rfl) ?_
      refine va_get (D := D) (ci := 8) (v := .ref (aP 0)) (C := RX8) (T := TX8) (N := 4) hx hb hts iX8 hown hK hP 0 rfl rfl 0 (by decide) f10 (fun _ h9 => h9) rfl dX8_execute_30 ?_
      obtain ⟨mH_25, hs_26, hc_27, hE⟩ := bd2_el hE
      refine kv (X := ((W_I aI aP adP aH aT) ++ ((W_T cy aT mT) ++ ((W_P cy adP adS adB adO adR adA imdP indP) ++ ((W_S cy adS imdS) ++ ((W_B cy adB imdB) ++ ((W_O cy adO imdO) ++ ((W_R cy adR imdR) ++ (W_A cy adA imdA indA))))))))) (Y := []) (ws1 := (W_All cy aI aT adP adS adB adO adR adA aP aS aB aO aR aA aH ah mT imdP indP imdS imdB imdO imdR imdA indA mP nP mS mB mO mR mA nA mH_25 hs_26)) (rV (X := ((W_I aI aP adP aH aT) ++ ((W_T cy aT mT) ++ ((W_P cy adP adS adB adO adR adA imdP indP) ++ ((W_S cy adS imdS) ++ ((W_B cy adB imdB) ++ ((W_O cy adO imdO) ++ ((W_R cy adR imdR) ++ (W_A cy adA imdA indA))))))))) (Y := []) (As := [.ref (aP 0)]) (rest := []) hC (c_X2_save l D cy aP aS aB aO aR aA aH ah mP nP mS mB mO mR mA nA mH hs mH_25 hs_26 hc_27) (cwV 1 hts gX8_execute_X2_save rfl rfl rfl cd_X2_save ⟨Nat.le_of_ble_eq_true rfl, Nat.le_of_ble_eq_true rfl⟩) hK hN hP hD hS hA rfl 36 2 rfl rfl rfl hl.1 rfl (lv_room (Nat.le_of_ble_eq_true rfl)) dX8_execute_33 ⟨Nat.le_of_ble_eq_true rfl, Nat.le_of_ble_eq_true rfl⟩) hP hD hS hA rfl rfl rfl (fun H locs hP hD hS => ?_)
      refine lv_aload_n hx hb dX8_execute_36 rfl (lv_at hl 0 rfl) ?_
      refine va_get (D := D) (ci := 8) (v := .ref (aT 0)) (C := RX8) (T := TX8) (N := 4) hx hb hts iX8 hown hK hP 0 rfl rfl 3 (by decide) f29 (fun _ h9 => h9) rfl dX8_execute_37 ?_
      obtain ⟨mT_28, hc_29, hE⟩ := bd1_el hE
      refine kv (X := (W_I aI aP adP aH aT)) (Y := ((W_P cy adP adS adB adO adR adA imdP indP) ++ ((W_S cy adS imdS) ++ ((W_B cy adB imdB) ++ ((W_O cy adO imdO) ++ ((W_R cy adR imdR) ++ ((W_A cy adA imdA indA) ++ ((W_P cy aP aS aB aO aR aA mP nP) ++ ((W_S cy aS mS) ++ ((W_B cy aB mB) ++ ((W_O cy aO mO) ++ ((W_R cy aR mR) ++ ((W_A cy aA mA nA) ++ ((W_H cy aH ah mH_25) ++ (W_HS cy ah hs_26))))))))))))))) (ws1 := (W_All cy aI aT adP adS adB adO adR adA aP aS aB aO aR aA aH ah mT_28 imdP indP imdS imdB imdO imdR imdA indA mP nP mS mB mO mR mA nA mH_25 hs_26)) (rV (X := (W_I aI aP adP aH aT)) (Y := ((W_P cy adP adS adB adO adR adA imdP indP) ++ ((W_S cy adS imdS) ++ ((W_B cy adB imdB) ++ ((W_O cy adO imdO) ++ ((W_R cy adR imdR) ++ ((W_A cy adA imdA indA) ++ ((W_P cy aP aS aB aO aR aA mP nP) ++ ((W_S cy aS mS) ++ ((W_B cy aB mB) ++ ((W_O cy aO mO) ++ ((W_R cy aR mR) ++ ((W_A cy aA mA nA) ++ ((W_H cy aH ah mH_25) ++ (W_HS cy ah hs_26))))))))))))))) (As := []) (rest := []) hC (c_X7_start l D cy aT mT mT_28 hc_29) (cwV 0 hts gX8_execute_X7_start rfl rfl rfl cd_X7_start ⟨Nat.le_of_ble_eq_true rfl, Nat.le_of_ble_eq_true rfl⟩) hK hN hP hD hS hA rfl 0 7 rfl rfl rfl hl.1 rfl (lv_room (Nat.le_of_ble_eq_true rfl)) dX8_execute_40 ⟨Nat.le_of_ble_eq_true rfl, Nat.le_of_ble_eq_true rfl⟩) hP hD hS hA rfl rfl rfl (fun H locs hP hD hS => ?_)
      refine lv_iconst (v := 0) hx hb dX8_execute_43 (by decide) ?_
      refine lv_istore_n (lv' := [(1, .int (0 : Int32)), (0, .ref (aI 0))]) hx hb dX8_execute_44 rfl hl (by decide) rfl (fun ls hl => ?_)
      refine W.widen (k := 1) (n := 6) (Nat.le_of_ble_eq_true rfl) (Nat.le_of_ble_eq_true rfl) ?_
      exact h45 mH_25 hs_26 fuel (0 : Int32) mT_28 mP nP mS mB mO mR mA nA _ _ _ hE hP hD hS (lv_sub hl [1, 0] rfl)
  unfold f_X8_execute at hE
  refine lv_aload_n hx hb dX8_execute_0 rfl (lv_at hl 0 rfl) ?_
  refine va_get (D := D) (ci := 8) (v := .ref (aT 0)) (C := RX8) (T := TX8) (N := 4) hx hb hts iX8 hown hK hP 0 rfl rfl 3 (by decide) f29 (fun _ h9 => h9) rfl dX8_execute_1 ?_
  obtain ⟨mT_30, hc_31, hE⟩ := bd1_el hE
  refine kv (X := (W_I aI aP adP aH aT)) (Y := ((W_P cy adP adS adB adO adR adA imdP indP) ++ ((W_S cy adS imdS) ++ ((W_B cy adB imdB) ++ ((W_O cy adO imdO) ++ ((W_R cy adR imdR) ++ ((W_A cy adA imdA indA) ++ ((W_P cy aP aS aB aO aR aA imP inP) ++ ((W_S cy aS imS) ++ ((W_B cy aB imB) ++ ((W_O cy aO imO) ++ ((W_R cy aR imR) ++ ((W_A cy aA imA inA) ++ ((W_H cy aH ah imH) ++ (W_HS cy ah ihs))))))))))))))) (ws1 := (W_All cy aI aT adP adS adB adO adR adA aP aS aB aO aR aA aH ah mT_30 imdP indP imdS imdB imdO imdR imdA indA imP inP imS imB imO imR imA inA imH ihs)) (rV (X := (W_I aI aP adP aH aT)) (Y := ((W_P cy adP adS adB adO adR adA imdP indP) ++ ((W_S cy adS imdS) ++ ((W_B cy adB imdB) ++ ((W_O cy adO imdO) ++ ((W_R cy adR imdR) ++ ((W_A cy adA imdA indA) ++ ((W_P cy aP aS aB aO aR aA imP inP) ++ ((W_S cy aS imS) ++ ((W_B cy aB imB) ++ ((W_O cy aO imO) ++ ((W_R cy aR imR) ++ ((W_A cy aA imA inA) ++ ((W_H cy aH ah imH) ++ (W_HS cy ah ihs))))))))))))))) (As := []) (rest := []) hC (c_X7_readAll l D cy aT imT mT_30 hc_31) (cwV 0 hts gX8_execute_X7_readAll rfl rfl rfl cd_X7_readAll ⟨Nat.le_of_ble_eq_true rfl, Nat.le_of_ble_eq_true rfl⟩) hK hN hP hD hS hA rfl 0 7 rfl rfl rfl hl.1 rfl (lv_room (Nat.le_of_ble_eq_true rfl)) dX8_execute_4 ⟨Nat.le_of_ble_eq_true rfl, Nat.le_of_ble_eq_true rfl⟩) hP hD hS hA rfl rfl rfl (fun H locs hP hD hS => ?_)
  refine lv_aload_n hx hb dX8_execute_7 rfl (lv_at hl 0 rfl) ?_
  refine va_get (D := D) (ci := 8) (v := .ref (aT 0)) (C := RX8) (T := TX8) (N := 4) hx hb hts iX8 hown hK hP 0 rfl rfl 3 (by decide) f29 (fun _ h9 => h9) rfl dX8_execute_8 ?_
  refine va_get (D := D) (ci := 7) (v := .int (mT_30 2 0)) (C := RX7) (T := TX7) (N := 8) hx hb hts iX7 hown hK hP 1 rfl rfl 2 (by decide) f250 (fun _ h9 => h9) rfl dX8_execute_11 ?_
  refine lv_if_ne (tgt := 21) hx hb dX8_execute_14 (by decide) (fun c_32 => ?_) (fun c_32 => ?_)
  · replace hE := it_f hE c_32
    refine lv_iconst (v := 0) hx hb dX8_execute_21 (by decide) ?_
    refine W.widen (k := 0) (n := 0) (Nat.le_of_ble_eq_true rfl) (Nat.le_of_ble_eq_true rfl) ?_
    exact h22 (0 : Int32) mT_30 imP inP imS imB imO imR imA inA imH ihs _ _ _ hE hP hD hS (lv_sub hl [0] rfl)
  · replace hE := it_t hE c_32
    refine lv_iconst (v := 1) hx hb dX8_execute_17 (by decide) ?_
    refine lv_goto (tgt := 22) hx hb dX8_execute_18 (by decide) ?_
    refine W.widen (k := 0) (n := 0) (Nat.le_of_ble_eq_true rfl) (Nat.le_of_ble_eq_true rfl) ?_
    exact h22 (1 : Int32) mT_30 imP inP imS imB imO imR imA inA imH ihs _ _ _ hE hP hD hS (lv_sub hl [0] rfl)
abbrev rm_X8_undo : Room := { frames := 8, cells := 1, slots := 6, locals := 122 }
set_option maxHeartbeats 40000000 in
set_option maxRecDepth 100000 in
theorem c_X8_undo (l : Launch) (hst : l.stackTraces = false) (D : va_G) (cy : Nat → Nat) (aI aT adP adS adB adO adR adA aP aS aB aO aR aA aH : Nat → Nat) (ah : Nat → Nat → Nat → Nat) (imT : Mem) (imdP : Mem) (indP : MemL) (imdS : Mem) (imdB : Mem) (imdO : Mem) (imdR : Mem) (imdA : Mem) (indA : MemL) (imP : Mem) (inP : MemL) (imS : Mem) (imB : Mem) (imO : Mem) (imR : Mem) (imA : Mem) (inA : MemL) (imH : Mem) (ihs : (Nat → PSt)) (k' : Nat) (r' : Int32) (mP' : Mem) (nP' : MemL) (mS' : Mem) (mB' : Mem) (mO' : Mem) (mR' : Mem) (mA' : Mem) (nA' : MemL) (mH' : Mem) (hE : f_X8_undo imT imdP indP imdS imdB imdO imdR imdA indA imP inP imS imB imO imR imA inA imH ihs = some (k', r', mP', nP', mS', mB', mO', mR', mA', nA', mH')) : CXI l yX8_undo wsX8_undo rm_X8_undo D cy [.ref (aI 0)] (W_All cy aI aT adP adS adB adO adR adA aP aS aB aO aR aA aH ah imT imdP indP imdS imdB imdO imdR imdA indA imP inP imS imB imO imR imA inA imH ihs) 1 6 k' r' (W_All cy aI aT adP adS adB adO adR adA aP aS aB aO aR aA aH ah imT imdP indP imdS imdB imdO imdR imdA indA mP' nP' mS' mB' mO' mR' mA' nA' mH' ihs) := by
  refine CX_of (cc := cX8_undo) (maxL := 1) (ret := (some .int)) (by decide) rfl (Nat.le_of_ble_eq_true rfl) (fun p e s m args below meth c A ls hx hb hr hml hlocks hnm hown hts hA htab hK hN hP hD hS hl => ?_)
  have hown : s.vm.findClass RX8 = some m.cls := hown
  have hl : lv_has ls 1 [(0, .ref (aI 0))] := hl
  have hC : CallFix p m c cX8_undo 1 s args wsX8_undo RX8 := ⟨hx, hb, hml, hown, hts⟩
  have f10 : (Cond.fieldLink RX8 10 "IcePlant" "now" "LIcePlant$Plant;").before args s = true := hts _ (mC qf_X8_10)
  have f22 : (Cond.fieldLink RX8 22 "IcePlant" "history" "LIcePlant$History;").before args s = true := hts _ (mC qf_X8_22)
  have f208 : (Cond.fieldLink RX8 208 "IcePlant$History" "count" "I").before args s = true := hts _ (mC qf_X8_208)
  have iX2 : ∀ w ∈ wsX20, w ∈ wsX8_undo := fun w h => mC (iA_X2 w h)
  have iX8 : ∀ w ∈ wsX80, w ∈ wsX8_undo := fun w h => mC (iA_X8 w h)
  have h15 : ∀ (t0 : Int32) (mP : Mem) (nP : MemL) (mS : Mem) (mB : Mem) (mO : Mem) (mR : Mem) (mA : Mem) (nA : MemL) (mH : Mem), ∀  (H : Heap) (locs : List Loc) (ls : Array Slot), f_X8_undo_b15 t0 imT imdP indP imdS imdB imdO imdR imdA indA mP nP mS mB mO mR mA nA mH ihs = some (k', r', mP', nP', mS', mB', mO', mR', mA', nA', mH') → va_P D vwCl (W_All cy aI aT adP adS adB adO adR adA aP aS aB aO aR aA aH ah imT imdP indP imdS imdB imdO imdR imdA indA mP nP mS mB mO mR mA nA mH ihs) H → va_D A (W_All cy aI aT adP adS adB adO adR adA aP aS aB aO aR aA aH ah imT imdP indP imdS imdB imdO imdR imdA indA mP nP mS mB mO mR mA nA mH ihs) → va_S A s.heap H locs → lv_has ls 1 [(0, .ref (aI 0))] → W p l e rm_X8_undo s m args below meth c H locs 0 0 (vx_MQ below (QXI D cy k' r' (W_All cy aI aT adP adS adB adO adR adA aP aS aB aO aR aA aH ah imT imdP indP imdS imdB imdO imdR imdA indA mP' nP' mS' mB' mO' mR' mA' nA' mH' ihs) A) (XX D cy k' (W_All cy aI aT adP adS adB adO adR adA aP aS aB aO aR aA aH ah imT imdP indP imdS imdB imdO imdR imdA indA mP' nP' mS' mB' mO' mR' mA' nA' mH' ihs) A) args s 1 6 A) (F0 m 15 ls [.int t0]) := by
    intro t0 mP nP mS mB mO mR mA nA mH H locs ls hE hP hD hS hl
    replace hE : (bd1 (f_X8_needState t0) fun k_2 => (if k_2 = 0 then bd10 (f_X2_restore mP nP mS mB mO mR mA nA mH ihs) fun r_3 mP_4 nP_5 mS_6 mB_7 mO_8 mR_9 mA_10 nA_11 mH_12 => some (0, r_3, mP_4, nP_5, mS_6, mB_7, mO_8, mR_9, mA_10, nA_11, mH_12) else some (k_2, (0 : Int32), mP, nP, mS, mB, mO, mR, mA, nA, mH))) = some (k', r', mP', nP', mS', mB', mO', mR', mA', nA', mH') := hE
    obtain ⟨k_2, hc_1, hE⟩ := bd1_el hE
    refine kxv (X := []) (Y := (W_All cy aI aT adP adS adB adO adR adA aP aS aB aO aR aA aH ah imT imdP indP imdS imdB imdO imdR imdA indA mP nP mS mB mO mR mA nA mH ihs)) (ws1 := (W_All cy aI aT adP adS adB adO adR adA aP aS aB aO aR aA aH ah imT imdP indP imdS imdB imdO imdR imdA indA mP nP mS mB mO mR mA nA mH ihs)) (xS (X := []) (Y := (W_All cy aI aT adP adS adB adO adR adA aP aS aB aO aR aA aH ah imT imdP indP imdS imdB imdO imdR imdA indA mP nP mS mB mO mR mA nA mH ihs)) (As := [.int t0]) (rest := []) hC (c_X8_needState l hst D cy t0 k_2 hc_1) (cwS 1 hts gX8_undo_X8_needState rfl rfl rfl cd_X8_needState ⟨Nat.le_of_ble_eq_true rfl, Nat.le_of_ble_eq_true rfl⟩) hK hN hP hD hS hA rfl rfl hl.1 rfl (lv_room (Nat.le_of_ble_eq_true rfl)) dX8_undo_15 ⟨Nat.le_of_ble_eq_true rfl, Nat.le_of_ble_eq_true rfl⟩) hP hD hS hA rfl rfl rfl (fun hk0 H locs ce q9 hP hD hS hce hcv hcl => ?_) (fun hk0 H locs hP hD hS => ?_)
    · replace hE := it_f hE hk0
      have hE := Option.some.inj hE
      obtain ⟨q0, hE⟩ := Prod.mk.inj hE
      obtain ⟨q1, hE⟩ := Prod.mk.inj hE
      obtain ⟨q2, hE⟩ := Prod.mk.inj hE
      obtain ⟨q3, hE⟩ := Prod.mk.inj hE
      obtain ⟨q4, hE⟩ := Prod.mk.inj hE
      obtain ⟨q5, hE⟩ := Prod.mk.inj hE
      obtain ⟨q6, hE⟩ := Prod.mk.inj hE
      obtain ⟨q7, hE⟩ := Prod.mk.inj hE
      obtain ⟨q8, hE⟩ := Prod.mk.inj hE
      obtain ⟨q9, q10⟩ := Prod.mk.inj hE
      exact exx htab hlocks hK hP hD hS hce hcv hcl hk0 q0 (by rw [q2, q3, q4, q5, q6, q7, q8, q9, q10]) (Nat.le_of_ble_eq_true rfl) (Nat.le_of_ble_eq_true rfl)
    · replace hE := it_t hE hk0
      refine lv_aload_n hx hb dX8_undo_18 rfl (lv_at hl 0 rfl) ?_
      refine va_get (D := D) (ci := 8) (v := .ref (aH 0)) (C := RX8) (T := TX8) (N := 4) hx hb hts iX8 hown hK hP 0 rfl rfl 2 (by decide) f22 (fun _ h9 => h9) rfl dX8_undo_19 ?_
      refine lv_aload_n hx hb dX8_undo_22 rfl (lv_at hl 0 rfl) ?_
      refine va_get (D := D) (ci := 8) (v := .ref (aP 0)) (C := RX8) (T := TX8) (N := 4) hx hb hts iX8 hown hK hP 0 rfl rfl 0 (by decide) f10 (fun _ h9 => h9) rfl dX8_undo_23 ?_
      obtain ⟨r_3, mP_4, nP_5, mS_6, mB_7, mO_8, mR_9, mA_10, nA_11, mH_12, hc_13, hE⟩ := bd10_el hE
      refine ki (X := ((W_I aI aP adP aH aT) ++ ((W_T cy aT imT) ++ ((W_P cy adP adS adB adO adR adA imdP indP) ++ ((W_S cy adS imdS) ++ ((W_B cy adB imdB) ++ ((W_O cy adO imdO) ++ ((W_R cy adR imdR) ++ (W_A cy adA imdA indA))))))))) (Y := []) (ws1 := (W_All cy aI aT adP adS adB adO adR adA aP aS aB aO aR aA aH ah imT imdP indP imdS imdB imdO imdR imdA indA mP_4 nP_5 mS_6 mB_7 mO_8 mR_9 mA_10 nA_11 mH_12 ihs)) (rV (X := ((W_I aI aP adP aH aT) ++ ((W_T cy aT imT) ++ ((W_P cy adP adS adB adO adR adA imdP indP) ++ ((W_S cy adS imdS) ++ ((W_B cy adB imdB) ++ ((W_O cy adO imdO) ++ ((W_R cy adR imdR) ++ (W_A cy adA imdA indA))))))))) (Y := []) (As := [.ref (aP 0)]) (rest := []) hC (c_X2_restore l D cy aP aS aB aO aR aA aH ah mP nP mS mB mO mR mA nA mH ihs r_3 mP_4 nP_5 mS_6 mB_7 mO_8 mR_9 mA_10 nA_11 mH_12 hc_13) (cwV 1 hts gX8_undo_X2_restore rfl rfl rfl cd_X2_restore ⟨Nat.le_of_ble_eq_true rfl, Nat.le_of_ble_eq_true rfl⟩) hK hN hP hD hS hA rfl 36 2 rfl rfl rfl hl.1 rfl (lv_room (Nat.le_of_ble_eq_true rfl)) dX8_undo_26 ⟨Nat.le_of_ble_eq_true rfl, Nat.le_of_ble_eq_true rfl⟩) hP hD hS hA rfl rfl rfl (fun H locs hP hD hS => ?_)
      have hE := Option.some.inj hE
      obtain ⟨q0, hE⟩ := Prod.mk.inj hE
      obtain ⟨q1, hE⟩ := Prod.mk.inj hE
      obtain ⟨q2, hE⟩ := Prod.mk.inj hE
      obtain ⟨q3, hE⟩ := Prod.mk.inj hE
      obtain ⟨q4, hE⟩ := Prod.mk.inj hE
      obtain ⟨q5, hE⟩ := Prod.mk.inj hE
      obtain ⟨q6, hE⟩ := Prod.mk.inj hE
      obtain ⟨q7, hE⟩ := Prod.mk.inj hE
      obtain ⟨q8, hE⟩ := Prod.mk.inj hE
      obtain ⟨q9, q10⟩ := Prod.mk.inj hE
      exact exi hx hb hr hlocks hK hP hD hS q0 q1 (by rw [q2, q3, q4, q5, q6, q7, q8, q9, q10]) (Nat.le_of_ble_eq_true rfl) (Nat.le_of_ble_eq_true rfl) dX8_undo_29
  unfold f_X8_undo at hE
  refine lv_aload_n hx hb dX8_undo_0 rfl (lv_at hl 0 rfl) ?_
  refine va_get (D := D) (ci := 8) (v := .ref (aH 0)) (C := RX8) (T := TX8) (N := 4) hx hb hts iX8 hown hK hP 0 rfl rfl 2 (by decide) f22 (fun _ h9 => h9) rfl dX8_undo_1 ?_
  refine va_get (D := D) (ci := 2) (v := .int (imH 1 0)) (C := RX2) (T := TX2) (N := 3) hx hb hts iX2 hown hK hP 76 rfl rfl 1 (by decide) f208 (fun _ h9 => h9) rfl dX8_undo_4 ?_
  refine lv_if_le (tgt := 14) hx hb dX8_undo_7 (by decide) (fun c_14 => ?_) (fun c_14 => ?_)
  · replace hE := it_t hE c_14
    refine lv_iconst (v := 0) hx hb dX8_undo_14 (by decide) ?_
    refine W.widen (k := 0) (n := 0) (Nat.le_of_ble_eq_true rfl) (Nat.le_of_ble_eq_true rfl) ?_
    exact h15 (0 : Int32) imP inP imS imB imO imR imA inA imH _ _ _ hE hP hD hS (lv_sub hl [0] rfl)
  · replace hE := it_f hE c_14
    refine lv_iconst (v := 1) hx hb dX8_undo_10 (by decide) ?_
    refine lv_goto (tgt := 15) hx hb dX8_undo_11 (by decide) ?_
    refine W.widen (k := 0) (n := 0) (Nat.le_of_ble_eq_true rfl) (Nat.le_of_ble_eq_true rfl) ?_
    exact h15 (1 : Int32) imP inP imS imB imO imR imA inA imH _ _ _ hE hP hD hS (lv_sub hl [0] rfl)
