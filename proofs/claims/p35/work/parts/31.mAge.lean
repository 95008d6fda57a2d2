abbrev rm_X8_meanAge : Room := { frames := 2, cells := 0, slots := 0, locals := 47 }
set_option maxHeartbeats 40000000 in
set_option maxRecDepth 100000 in
theorem c_X8_meanAge (l : Launch) (D : va_G) (cy : Nat → Nat) (aI aT adP adS adB adO adR adA aP aS aB aO aR aA aH : Nat → Nat) (ah : Nat → Nat → Nat → Nat) (imT : Mem) (imdP : Mem) (indP : MemL) (imdS : Mem) (imdB : Mem) (imdO : Mem) (imdR : Mem) (imdA : Mem) (indA : MemL) (imP : Mem) (inP : MemL) (imS : Mem) (imB : Mem) (imO : Mem) (imR : Mem) (imA : Mem) (inA : MemL) (imH : Mem) (ihs : (Nat → PSt)) (r' : UInt64) (hE : f_X8_meanAge imT imdP indP imdS imdB imdO imdR imdA indA imP inP imS imB imO imR imA inA imH ihs = some r') : CD l yX8_meanAge wsX8_meanAge rm_X8_meanAge D cy [.ref (aI 0)] (W_All cy aI aT adP adS adB adO adR adA aP aS aB aO aR aA aH ah imT imdP indP imdS imdB imdO imdR imdA indA imP inP imS imB imO imR imA inA imH ihs) 0 0 r' (W_All cy aI aT adP adS adB adO adR adA aP aS aB aO aR aA aH ah imT imdP indP imdS imdB imdO imdR imdA indA imP inP imS imB imO imR imA inA imH ihs) := by
  refine CQ_of (cc := cX8_meanAge) (maxL := 2) (ret := (some .double)) (by decide) rfl (Nat.le_of_ble_eq_true rfl) (fun p e s m args below meth c A ls hx hb hr hml hlocks hnm hown hts hA hK hN hP hD hS hl => ?_)
  have hown : s.vm.findClass RX8 = some m.cls := hown
  have hl : lv_has ls 2 [(0, .ref (aI 0))] := hl
  have hC : CallFix p m c cX8_meanAge 2 s args wsX8_meanAge RX8 := ⟨hx, hb, hml, hown, hts⟩
  have f10 : (Cond.fieldLink RX8 10 "IcePlant" "now" "LIcePlant$Plant;").before args s = true := hts _ (mC qf_X8_10)
  have f43 : (Cond.fieldLink RX8 43 "IcePlant$Plant" "store" "LIcePlant$Store;").before args s = true := hts _ (mC qf_X8_43)
  have iX4 : ∀ w ∈ wsX40, w ∈ wsX8_meanAge := fun w h => mC (iA_X4 w h)
  have iX8 : ∀ w ∈ wsX80, w ∈ wsX8_meanAge := fun w h => mC (iA_X8 w h)
  have h33 : ∀ (t0 : UInt64), ∀  (H : Heap) (locs : List Loc) (ls : Array Slot), f_X8_meanAge_b33 t0 imT imdP indP imdS imdB imdO imdR imdA indA imP inP imS imB imO imR imA inA imH ihs = some r' → va_P D vwCl (W_All cy aI aT adP adS adB adO adR adA aP aS aB aO aR aA aH ah imT imdP indP imdS imdB imdO imdR imdA indA imP inP imS imB imO imR imA inA imH ihs) H → va_D A (W_All cy aI aT adP adS adB adO adR adA aP aS aB aO aR aA aH ah imT imdP indP imdS imdB imdO imdR imdA indA imP inP imS imB imO imR imA inA imH ihs) → va_S A s.heap H locs → lv_has ls 2 [] → W p l e rm_X8_meanAge s m args below meth c H locs 0 0 (MQ below (QD D cy r' (W_All cy aI aT adP adS adB adO adR adA aP aS aB aO aR aA aH ah imT imdP indP imdS imdB imdO imdR imdA indA imP inP imS imB imO imR imA inA imH ihs) A) args s 0 0 A) (F0 m 33 ls [.double t0]) := by
    intro t0 H locs ls hE hP hD hS hl
    replace hE : (some t0) = some r' := hE
    have hE := Option.some.inj hE
    exact ed hx hb hr hlocks hK hP hD hS hE rfl dX8_meanAge_33
  unfold f_X8_meanAge at hE
  refine lv_aload_n hx hb dX8_meanAge_0 rfl (lv_at hl 0 rfl) ?_
  refine va_get (D := D) (ci := 8) (v := .ref (aP 0)) (C := RX8) (T := TX8) (N := 4) hx hb hts iX8 hown hK hP 0 rfl rfl 0 (by decide) f10 (fun _ h9 => h9) rfl dX8_meanAge_1 ?_
  refine va_get (D := D) (ci := 4) (v := .ref (aS 0)) (C := RX4) (T := TX4) (N := 13) hx hb hts iX4 hown hK hP 40 rfl rfl 2 (by decide) f43 (fun _ h9 => h9) rfl dX8_meanAge_4 ?_
  obtain ⟨r_1, hc_2, hE⟩ := bd1_el hE
  refine ki (X := ((W_I aI aP adP aH aT) ++ ((W_T cy aT imT) ++ ((W_P cy adP adS adB adO adR adA imdP indP) ++ ((W_S cy adS imdS) ++ ((W_B cy adB imdB) ++ ((W_O cy adO imdO) ++ ((W_R cy adR imdR) ++ ((W_A cy adA imdA indA) ++ (W_P cy aP aS aB aO aR aA imP inP)))))))))) (Y := ((W_B cy aB imB) ++ ((W_O cy aO imO) ++ ((W_R cy aR imR) ++ ((W_A cy aA imA inA) ++ ((W_H cy aH ah imH) ++ (W_HS cy ah ihs))))))) (ws1 := (W_All cy aI aT adP adS adB adO adR adA aP aS aB aO aR aA aH ah imT imdP indP imdS imdB imdO imdR imdA indA imP inP imS imB imO imR imA inA imH ihs)) (rV (X := ((W_I aI aP adP aH aT) ++ ((W_T cy aT imT) ++ ((W_P cy adP adS adB adO adR adA imdP indP) ++ ((W_S cy adS imdS) ++ ((W_B cy adB imdB) ++ ((W_O cy adO imdO) ++ ((W_R cy adR imdR) ++ ((W_A cy adA imdA indA) ++ (W_P cy aP aS aB aO aR aA imP inP)))))))))) (Y := ((W_B cy aB imB) ++ ((W_O cy aO imO) ++ ((W_R cy aR imR) ++ ((W_A cy aA imA inA) ++ ((W_H cy aH ah imH) ++ (W_HS cy ah ihs))))))) (As := []) (rest := []) hC (c_X6_blocks l D cy aS imS r_1 hc_2) (cwV 0 hts gX8_meanAge_X6_blocks rfl rfl rfl cd_X6_blocks ⟨Nat.le_of_ble_eq_true rfl, Nat.le_of_ble_eq_true rfl⟩) hK hN hP hD hS hA rfl 0 6 rfl rfl rfl hl.1 rfl (lv_room (Nat.le_of_ble_eq_true rfl)) dX8_meanAge_7 ⟨Nat.le_of_ble_eq_true rfl, Nat.le_of_ble_eq_true rfl⟩) hP hD hS hA rfl rfl rfl (fun H locs hP hD hS => ?_)
  refine lv_istore_n (lv' := [(1, .int r_1), (0, .ref (aI 0))]) hx hb dX8_meanAge_10 rfl hl (by decide) rfl (fun ls hl => ?_)
  refine lv_iload_n hx hb dX8_meanAge_11 rfl (lv_at hl 0 rfl) ?_
  refine lv_if_le (tgt := 32) hx hb dX8_meanAge_12 (by decide) (fun c_3 => ?_) (fun c_3 => ?_)
  · replace hE := it_t hE c_3
    refine lv_dconst0 hx hb dX8_meanAge_32 ?_
    exact h33 (FP.dconst0) _ _ _ hE hP hD hS (lv_sub hl [] rfl)
  · replace hE := it_f hE c_3
    refine lv_aload_n hx hb dX8_meanAge_15 rfl (lv_at hl 1 rfl) ?_
    refine va_get (D := D) (ci := 8) (v := .ref (aP 0)) (C := RX8) (T := TX8) (N := 4) hx hb hts iX8 hown hK hP 0 rfl rfl 0 (by decide) f10 (fun _ h9 => h9) rfl dX8_meanAge_16 ?_
    refine va_get (D := D) (ci := 4) (v := .ref (aS 0)) (C := RX4) (T := TX4) (N := 13) hx hb hts iX4 hown hK hP 40 rfl rfl 2 (by decide) f43 (fun _ h9 => h9) rfl dX8_meanAge_19 ?_
    obtain ⟨r_4, hc_5, hE⟩ := bd1_el hE
    refine ki (X := ((W_I aI aP adP aH aT) ++ ((W_T cy aT imT) ++ ((W_P cy adP adS adB adO adR adA imdP indP) ++ ((W_S cy adS imdS) ++ ((W_B cy adB imdB) ++ ((W_O cy adO imdO) ++ ((W_R cy adR imdR) ++ ((W_A cy adA imdA indA) ++ (W_P cy aP aS aB aO aR aA imP inP)))))))))) (Y := ((W_B cy aB imB) ++ ((W_O cy aO imO) ++ ((W_R cy aR imR) ++ ((W_A cy aA imA inA) ++ ((W_H cy aH ah imH) ++ (W_HS cy ah ihs))))))) (ws1 := (W_All cy aI aT adP adS adB adO adR adA aP aS aB aO aR aA aH ah imT imdP indP imdS imdB imdO imdR imdA indA imP inP imS imB imO imR imA inA imH ihs)) (rV (X := ((W_I aI aP adP aH aT) ++ ((W_T cy aT imT) ++ ((W_P cy adP adS adB adO adR adA imdP indP) ++ ((W_S cy adS imdS) ++ ((W_B cy adB imdB) ++ ((W_O cy adO imdO) ++ ((W_R cy adR imdR) ++ ((W_A cy adA imdA indA) ++ (W_P cy aP aS aB aO aR aA imP inP)))))))))) (Y := ((W_B cy aB imB) ++ ((W_O cy aO imO) ++ ((W_R cy aR imR) ++ ((W_A cy aA imA inA) ++ ((W_H cy aH ah imH) ++ (W_HS cy ah ihs))))))) (As := []) (rest := []) hC (c_X6_sumOfAges l D cy aS imS r_4 hc_5) (cwV 0 hts gX8_meanAge_X6_sumOfAges rfl rfl rfl cd_X6_sumOfAges ⟨Nat.le_of_ble_eq_true rfl, Nat.le_of_ble_eq_true rfl⟩) hK hN hP hD hS hA rfl 0 6 rfl rfl rfl hl.1 rfl (lv_room (Nat.le_of_ble_eq_true rfl)) dX8_meanAge_22 ⟨Nat.le_of_ble_eq_true rfl, Nat.le_of_ble_eq_true rfl⟩) hP hD hS hA rfl rfl rfl (fun H locs hP hD hS => ?_)
    refine lv_i2d hx hb dX8_meanAge_25 ?_
    refine lv_iload_n hx hb dX8_meanAge_26 rfl (lv_at hl 0 rfl) ?_
    refine lv_i2d hx hb dX8_meanAge_27 ?_
    obtain ⟨g_6, hE⟩ := gn_el hE
    refine lv_ddiv hx hb dX8_meanAge_28 g_6 ?_
    refine lv_goto (tgt := 33) hx hb dX8_meanAge_29 (by decide) ?_
    exact h33 (FP.ddiv (FP.i2d r_4) (FP.i2d r_1)) _ _ _ hE hP hD hS (lv_sub hl [] rfl)
