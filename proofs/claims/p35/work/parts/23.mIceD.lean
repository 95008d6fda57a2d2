abbrev rm_X8_undo : Room := { frames := 8, cells := 1, slots := 6, locals := 122 }
set_option maxHeartbeats 40000000 in
set_option maxRecDepth 100000 in
theorem c_X8_undo (l : Launch) (hst : l.stackTraces = false) (D : va_G) (cy : Nat → Nat) (aI aT adP adS adB adO adR adA aP aS aB aO aR aA aH : Nat → Nat) (ah : Nat → Nat → Nat → Nat) (imT : Mem) (imdP : Mem) (indP : MemL) (imdS : Mem) (imdB : Mem) (imdO : Mem) (imdR : Mem) (imdA : Mem) (indA : MemL) (imP : Mem) (inP : MemL) (imS : Mem) (imB : Mem) (imO : Mem) (imR : Mem) (imA : Mem) (inA : MemL) (imH : Mem) (ihs : (Nat → PSt)) (k' : Nat) (r' : Int32) (mP' : Mem) (nP' : MemL) (mS' : Mem) (mB' : Mem) (mO' : Mem) (mR' : Mem) (mA' : Mem) (nA' : MemL) (mH' : Mem) (hE : f_X8_undo imT imdP indP imdS imdB imdO imdR imdA indA imP inP imS imB imO imR imA inA imH ihs = some (k', r', mP', nP', mS', mB', mO', mR', mA', nA', mH')) : CXI l yX8_undo wsX8_undo rm_X8_undo D cy [.ref (aI 0)] (W_All cy aI aT adP adS adB adO adR adA aP aS aB aO aR aA aH ah imT imdP indP imdS imdB imdO imdR imdA indA imP inP imS imB imO imR imA inA imH ihs) 1 6 k' r' (W_All cy aI aT adP adS adB adO adR adA aP aS aB aO aR aA aH ah imT imdP indP imdS imdB imdO imdR imdA indA mP' nP' mS' mB' mO' mR' mA' nA' mH' ihs) := by
  refine CX_of (cc := cX8_undo) (maxL := 1) (ret := (some .int)) (by decide) rfl (Nat.le_of_ble_eq_true rfl) (fun p e s m args below meth c A ls hx hb hr hml hlocks hnm hown hts hA htab hK hN hP hD hS hl => ?_)
  have hown : s.vm.findClass RX8 = some m.cls := hown
  have hl : lv_has ls 1 [(0, .ref (aI 0))] := hl
  have hC : CallFix p m c cX8_undo 1 s args wsX8_undo RX8 := ⟨hx, hb, hml, hown, hts⟩
  have f10 : (Cond.fieldLink RX8 10 "IcePlant" "now" "LIcePlant$Plant;").before args s = true := hts _ (mC qf_X8_10)
  have f22 : (Cond.fieldLink RX8 22 "IcePlant" "history" "LIcePlant$History;").before args s = true := hts _ (mC qf_X8_22)
  have f208 : (Cond.fieldLink RX8 208 "IcePlant$History" "count" "I").before args s = true := hts _ (mC qf_X8_208)
  have iX2 : ∀ w ∈ wsX20, w ∈ wsX8_undo := fun w h => mC (iA_X2 w h)
  have iX8 : ∀ w ∈ wsX80, w ∈ wsX8_undo := fun w h => mC (iA_X8 w h)
  have h15 : ∀ (t0 : Int32) (mP : Mem) (nP : MemL) (mS : Mem) (mB : Mem) (mO : Mem) (mR : Mem) (mA : Mem) (nA : MemL) (mH : Mem), ∀  (H : Heap) (locs : List Loc) (ls : Array Slot), f_X8_undo_b15 t0 imT imdP indP imdS imdB imdO imdR imdA indA mP nP mS mB mO mR mA nA mH ihs = some (k', r', mP', nP', mS', mB', mO', mR', mA', nA', mH') → va_P D vwCl (W_All cy aI aT adP adS adB adO adR adA aP aS aB aO aR aA aH ah imT imdP indP imdS imdB imdO imdR imdA indA mP nP mS mB mO mR mA nA mH ihs) H → va_D A (W_All cy aI aT adP adS adB adO adR adA aP aS aB aO aR aA aH ah imT imdP indP imdS imdB imdO imdR imdA indA mP nP mS mB mO mR mA nA mH ihs) → va_S A s.heap H locs → lv_has ls 1 [(0, .ref (aI 0))] → W p l e rm_X8_undo s m args below meth c H locs 0 0 (vx_MQ below (QXI D cy k' r' (W_All cy aI aT adP adS adB adO adR adA aP aS aB aO aR aA aH ah imT imdP indP imdS imdB imdO imdR imdA indA mP' nP' mS' mB' mO' mR' mA' nA' mH' ihs) A) (XX D cy k' (W_All cy aI aT adP adS adB adO adR adA aP aS aB aO aR aA aH ah imT imdP indP imdS imdB imdO imdR imdA indA mP' nP' mS' mB' mO' mR' mA' nA' mH' ihs) A) args s 1 6 A) (F0 m 15 ls [.int t0]) := by
    intro t0 mP nP mS mB mO mR mA nA mH H locs ls hE hP hD hS hl
    replace hE : (bd1 (f_X8_needState t0) fun k_2 => (if k_2 = 0 then bd10 (f_X2_restore mP nP mS mB mO mR mA nA mH ihs) fun r_3 mP_4 nP_5 mS_6 mB_7 mO_8 mR_9 mA_10 nA_11 mH_12 => some (0, r_3, mP_4, nP_5, mS_6, mB_7, mO_8, mR_9, mA_10, nA_11, mH_12) else some (k_2, (0 : Int32), mP, nP, mS, mB, mO, mR, mA, nA, mH))) = some (k', r', mP', nP', mS', mB', mO', mR', mA', nA', mH') := hE
    obtain ⟨k_2, hc_1, hE⟩ := bd1_el hE
    refine kxv (X := []) (Y := (W_All cy aI aT adP adS adB adO adR adA aP aS aB aO aR aA aH ah imT imdP indP imdS imdB imdO imdR imdA indA mP nP mS mB mO mR mA nA mH ihs)) (ws1 := (W_All cy aI aT adP adS adB adO adR adA aP aS aB aO aR aA aH ah imT imdP indP imdS imdB imdO imdR imdA indA mP nP mS mB mO mR mA nA mH ihs)) (xS (X := []) (Y := (W_All cy aI aT adP adS adB adO adR adA aP aS aB aO aR aA aH ah imT imdP indP imdS imdB imdO imdR imdA indA mP nP mS mB mO mR mA nA mH ihs)) (As := [.int t0]) (rest := []) hC (c_X8_needState l hst D cy t0 k_2 hc_1) (cwS 1 hts gX8_undo_X8_needState rfl rfl rfl cd_X8_needState ⟨Nat.le_of_ble_eq_true rfl, Nat.le_of_ble_eq_true rfl⟩) hK hN hP hD hS hA rfl rfl hl.1 rfl (lv_room (Nat.le_of_ble_eq_true rfl)) dX8_undo_15 ⟨Nat.le_of_ble_eq_true rfl, Nat.le_of_ble_eq_true rfl⟩) hP hD hS hA rfl rfl rfl (fun hk0 H locs ce q9 hP hD hS hce hcv hcl => ?_) (fun hk0 H locs hP hD hS => ?_)
    · replace hE := it_f hE hk0
      have hE := Option.some.inj hE
      obtain ⟨q0, hE⟩ := Prod.mk.inj hE
      obtain ⟨q1, hE⟩ := Prod.mk.inj hE
      obtain ⟨q2, hE⟩ := Prod.mk.inj hE
      obtain ⟨q3, hE⟩ := Prod.mk.inj hE
      obtain ⟨q4, hE⟩ := Prod.mk.inj hE
      obtain ⟨q5, hE⟩ := Prod.mk.inj hE
      obtain ⟨q6, hE⟩ := Prod.mk.inj hE
      obtain ⟨q7, hE⟩ := Prod.mk.inj hE
      obtain ⟨q8, hE⟩ := Prod.mk.inj hE
      obtain ⟨q9, q10⟩ := Prod.mk.inj hE
      exact exx htab hlocks hK hP hD hS hce hcv hcl hk0 q0 (by rw [q2, q3, q4, q5, q6, q7, q8, q9, q10]) (Nat.le_of_ble_eq_true rfl) (Nat.le_of_ble_eq_true rfl)
    · replace hE := it_t hE hk0
      refine lv_aload_n hx hb dX8_undo_18 rfl (lv_at hl 0 rfl) ?_
      refine va_get (D := D) (ci := 8) (v := .ref (aH 0)) (C := RX8) (T := TX8) (N := 4) hx hb hts iX8 hown hK hP 0 rfl rfl 2 (by decide) f22 (fun _ h9 => h9) rfl dX8_undo_19 ?_
      refine lv_aload_n hx hb dX8_undo_22 rfl (lv_at hl 0 rfl) ?_
      refine va_get (D := D) (ci := 8) (v := .ref (aP 0)) (C := RX8) (T := TX8) (N := 4) hx hb hts iX8 hown hK hP 0 rfl rfl 0 (by decide) f10 (fun _ h9 => h9) rfl dX8_undo_23 ?_
      obtain ⟨r_3, mP_4, nP_5, mS_6, mB_7, mO_8, mR_9, mA_10, nA_11, mH_12, hc_13, hE⟩ := bd10_el hE
      refine ki (X := ((W_I aI aP adP aH aT) ++ ((W_T cy aT imT) ++ ((W_P cy adP adS adB adO adR adA imdP indP) ++ ((W_S cy adS imdS) ++ ((W_B cy adB imdB) ++ ((W_O cy adO imdO) ++ ((W_R cy adR imdR) ++ (W_A cy adA imdA indA))))))))) (Y := []) (ws1 := (W_All cy aI aT adP adS adB adO adR adA aP aS aB aO aR aA aH ah imT imdP indP imdS imdB imdO imdR imdA indA mP_4 nP_5 mS_6 mB_7 mO_8 mR_9 mA_10 nA_11 mH_12 ihs)) (rV (X := ((W_I aI aP adP aH aT) ++ ((W_T cy aT imT) ++ ((W_P cy adP adS adB adO adR adA imdP indP) ++ ((W_S cy adS imdS) ++ ((W_B cy adB imdB) ++ ((W_O cy adO imdO) ++ ((W_R cy adR imdR) ++ (W_A cy adA imdA indA))))))))) (Y := []) (As := [.ref (aP 0)]) (rest := []) hC (c_X2_restore l D cy aP aS aB aO aR aA aH ah mP nP mS mB mO mR mA nA mH ihs r_3 mP_4 nP_5 mS_6 mB_7 mO_8 mR_9 mA_10 nA_11 mH_12 hc_13) (cwV 1 hts gX8_undo_X2_restore rfl rfl rfl cd_X2_restore ⟨Nat.le_of_ble_eq_true rfl, Nat.le_of_ble_eq_true rfl⟩) hK hN hP hD hS hA rfl 36 2 rfl rfl rfl hl.1 rfl (lv_room (Nat.le_of_ble_eq_true rfl)) dX8_undo_26 ⟨Nat.le_of_ble_eq_true rfl, Nat.le_of_ble_eq_true rfl⟩) hP hD hS hA rfl rfl rfl (fun H locs hP hD hS => ?_)
      have hE := Option.some.inj hE
      obtain ⟨q0, hE⟩ := Prod.mk.inj hE
      obtain ⟨q1, hE⟩ := Prod.mk.inj hE
      obtain ⟨q2, hE⟩ := Prod.mk.inj hE
      obtain ⟨q3, hE⟩ := Prod.mk.inj hE
      obtain ⟨q4, hE⟩ := Prod.mk.inj hE
      obtain ⟨q5, hE⟩ := Prod.mk.inj hE
      obtain ⟨q6, hE⟩ := Prod.mk.inj hE
      obtain ⟨q7, hE⟩ := Prod.mk.inj hE
      obtain ⟨q8, hE⟩ := Prod.mk.inj hE
      obtain ⟨q9, q10⟩ := Prod.mk.inj hE
      exact exi hx hb hr hlocks hK hP hD hS q0 q1 (by rw [q2, q3, q4, q5, q6, q7, q8, q9, q10]) (Nat.le_of_ble_eq_true rfl) (Nat.le_of_ble_eq_true rfl) dX8_undo_29
  unfold f_X8_undo at hE
  refine lv_aload_n hx hb dX8_undo_0 rfl (lv_at hl 0 rfl) ?_
  refine va_get (D := D) (ci := 8) (v := .ref (aH 0)) (C := RX8) (T := TX8) (N := 4) hx hb hts iX8 hown hK hP 0 rfl rfl 2 (by decide) f22 (fun _ h9 => h9) rfl dX8_undo_1 ?_
  refine va_get (D := D) (ci := 2) (v := .int (imH 1 0)) (C := RX2) (T := TX2) (N := 3) hx hb hts iX2 hown hK hP 76 rfl rfl 1 (by decide) f208 (fun _ h9 => h9) rfl dX8_undo_4 ?_
  refine lv_if_le (tgt := 14) hx hb dX8_undo_7 (by decide) (fun c_14 => ?_) (fun c_14 => ?_)
  · replace hE := it_t hE c_14
    refine lv_iconst (v := 0) hx hb dX8_undo_14 (by decide) ?_
    refine W.widen (k := 0) (n := 0) (Nat.le_of_ble_eq_true rfl) (Nat.le_of_ble_eq_true rfl) ?_
    exact h15 (0 : Int32) imP inP imS imB imO imR imA inA imH _ _ _ hE hP hD hS (lv_sub hl [0] rfl)
  · replace hE := it_f hE c_14
    refine lv_iconst (v := 1) hx hb dX8_undo_10 (by decide) ?_
    refine lv_goto (tgt := 15) hx hb dX8_undo_11 (by decide) ?_
    refine W.widen (k := 0) (n := 0) (Nat.le_of_ble_eq_true rfl) (Nat.le_of_ble_eq_true rfl) ?_
    exact h15 (1 : Int32) imP inP imS imB imO imR imA inA imH _ _ _ hE hP hD hS (lv_sub hl [0] rfl)
