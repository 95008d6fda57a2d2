abbrev rm_X8_needArgument : Room := { frames := 7, cells := 1, slots := 6, locals := 102 }
set_option maxHeartbeats 40000000 in
set_option maxRecDepth 100000 in
theorem c_X8_needArgument (l : Launch) (hst : l.stackTraces = false) (D : va_G) (cy : Nat → Nat)  (x0 : Int32) (k' : Nat) (hE : f_X8_needArgument x0 = some k') : CXV l yX8_needArgument wsX8_needArgument rm_X8_needArgument D cy [.int x0] ([] : va_W) 1 6 k' ([] : va_W) := by
  refine CX_of (cc := cX8_needArgument) (maxL := 1) (ret := none) (by decide) rfl (Nat.le_of_ble_eq_true rfl) (fun p e s m args below meth c A ls hx hb hr hml hlocks hnm hown hts hA htab hK hN hP hD hS hl => ?_)
  have hown : s.vm.findClass RX8 = some m.cls := hown
  have hl : lv_has ls 1 [(0, .int x0)] := hl
  have hC : CallFix p m c cX8_needArgument 1 s args wsX8_needArgument RX8 := ⟨hx, hb, hml, hown, hts⟩
  have h9 : ∀ (t0 : Int32), ∀  (H : Heap) (locs : List Loc) (ls : Array Slot), f_X8_needArgument_b9 t0 = some k' → va_P D vwCl ([] : va_W) H → va_D A ([] : va_W) → va_S A s.heap H locs → lv_has ls 1 [] → W p l e rm_X8_needArgument s m args below meth c H locs 0 0 (vx_MQ below (QXV D cy k' ([] : va_W) A) (XX D cy k' ([] : va_W) A) args s 1 6 A) (F0 m 9 ls [.int t0]) := by
    intro t0 H locs ls hE hP hD hS hl
    replace hE : (bd1 (f_X8_refuse t0) fun k_2 => (if k_2 = 0 then some (0) else some k_2)) = some k' := hE
    obtain ⟨k_2, hc_1, hE⟩ := bd1_el hE
    refine kxv (X := []) (Y := []) (ws1 := ([] : va_W)) (xS (X := []) (Y := []) (As := [.int t0]) (rest := []) hC (c_X8_refuse l hst D cy t0 k_2 hc_1) (cwS 1 hts gX8_needArgument_X8_refuse rfl rfl rfl cd_X8_refuse ⟨Nat.le_of_ble_eq_true rfl, Nat.le_of_ble_eq_true rfl⟩) hK hN hP hD hS hA rfl rfl hl.1 rfl (lv_room (Nat.le_of_ble_eq_true rfl)) dX8_needArgument_9 ⟨Nat.le_of_ble_eq_true rfl, Nat.le_of_ble_eq_true rfl⟩) hP hD hS hA rfl rfl rfl (fun hk0 H locs ce q9 hP hD hS hce hcv hcl => ?_) (fun hk0 H locs hP hD hS => ?_)
    · replace hE := it_f hE hk0
      have hE := Option.some.inj hE
      exact exx htab hlocks hK hP hD hS hce hcv hcl hk0 hE rfl (Nat.le_of_ble_eq_true rfl) (Nat.le_of_ble_eq_true rfl)
    · replace hE := it_t hE hk0
      have hE := Option.some.inj hE
      exact exv hx hb hr hlocks hK hP hD hS hE rfl (Nat.le_of_ble_eq_true rfl) (Nat.le_of_ble_eq_true rfl) dX8_needArgument_12
  unfold f_X8_needArgument at hE
  refine lv_iload_n hx hb dX8_needArgument_0 rfl (lv_at hl 0 rfl) ?_
  refine lv_if_eq (tgt := 8) hx hb dX8_needArgument_1 (by decide) (fun c_3 => ?_) (fun c_3 => ?_)
  · replace hE := it_t hE c_3
    refine lv_iconst (v := 2) hx hb dX8_needArgument_8 (by decide) ?_
    refine W.widen (k := 0) (n := 0) (Nat.le_of_ble_eq_true rfl) (Nat.le_of_ble_eq_true rfl) ?_
    exact h9 (2 : Int32) _ _ _ hE hP hD hS (lv_sub hl [] rfl)
  · replace hE := it_f hE c_3
    refine lv_iconst (v := 0) hx hb dX8_needArgument_4 (by decide) ?_
    refine lv_goto (tgt := 9) hx hb dX8_needArgument_5 (by decide) ?_
    refine W.widen (k := 0) (n := 0) (Nat.le_of_ble_eq_true rfl) (Nat.le_of_ble_eq_true rfl) ?_
    exact h9 (0 : Int32) _ _ _ hE hP hD hS (lv_sub hl [] rfl)
abbrev rm_X8_needState : Room := { frames := 7, cells := 1, slots := 6, locals := 102 }
set_option maxHeartbeats 40000000 in
set_option maxRecDepth 100000 in
theorem c_X8_needState (l : Launch) (hst : l.stackTraces = false) (D : va_G) (cy : Nat → Nat)  (x0 : Int32) (k' : Nat) (hE : f_X8_needState x0 = some k') : CXV l yX8_needState wsX8_needState rm_X8_needState D cy [.int x0] ([] : va_W) 1 6 k' ([] : va_W) := by
  refine CX_of (cc := cX8_needState) (maxL := 1) (ret := none) (by decide) rfl (Nat.le_of_ble_eq_true rfl) (fun p e s m args below meth c A ls hx hb hr hml hlocks hnm hown hts hA htab hK hN hP hD hS hl => ?_)
  have hown : s.vm.findClass RX8 = some m.cls := hown
  have hl : lv_has ls 1 [(0, .int x0)] := hl
  have hC : CallFix p m c cX8_needState 1 s args wsX8_needState RX8 := ⟨hx, hb, hml, hown, hts⟩
  have h9 : ∀ (t0 : Int32), ∀  (H : Heap) (locs : List Loc) (ls : Array Slot), f_X8_needState_b9 t0 = some k' → va_P D vwCl ([] : va_W) H → va_D A ([] : va_W) → va_S A s.heap H locs → lv_has ls 1 [] → W p l e rm_X8_needState s m args below meth c H locs 0 0 (vx_MQ below (QXV D cy k' ([] : va_W) A) (XX D cy k' ([] : va_W) A) args s 1 6 A) (F0 m 9 ls [.int t0]) := by
    intro t0 H locs ls hE hP hD hS hl
    replace hE : (bd1 (f_X8_refuse t0) fun k_2 => (if k_2 = 0 then some (0) else some k_2)) = some k' := hE
    obtain ⟨k_2, hc_1, hE⟩ := bd1_el hE
    refine kxv (X := []) (Y := []) (ws1 := ([] : va_W)) (xS (X := []) (Y := []) (As := [.int t0]) (rest := []) hC (c_X8_refuse l hst D cy t0 k_2 hc_1) (cwS 1 hts gX8_needState_X8_refuse rfl rfl rfl cd_X8_refuse ⟨Nat.le_of_ble_eq_true rfl, Nat.le_of_ble_eq_true rfl⟩) hK hN hP hD hS hA rfl rfl hl.1 rfl (lv_room (Nat.le_of_ble_eq_true rfl)) dX8_needState_9 ⟨Nat.le_of_ble_eq_true rfl, Nat.le_of_ble_eq_true rfl⟩) hP hD hS hA rfl rfl rfl (fun hk0 H locs ce q9 hP hD hS hce hcv hcl => ?_) (fun hk0 H locs hP hD hS => ?_)
    · replace hE := it_f hE hk0
      have hE := Option.some.inj hE
      exact exx htab hlocks hK hP hD hS hce hcv hcl hk0 hE rfl (Nat.le_of_ble_eq_true rfl) (Nat.le_of_ble_eq_true rfl)
    · replace hE := it_t hE hk0
      have hE := Option.some.inj hE
      exact exv hx hb hr hlocks hK hP hD hS hE rfl (Nat.le_of_ble_eq_true rfl) (Nat.le_of_ble_eq_true rfl) dX8_needState_12
  unfold f_X8_needState at hE
  refine lv_iload_n hx hb dX8_needState_0 rfl (lv_at hl 0 rfl) ?_
  refine lv_if_eq (tgt := 8) hx hb dX8_needState_1 (by decide) (fun c_3 => ?_) (fun c_3 => ?_)
  · replace hE := it_t hE c_3
    refine lv_iconst (v := 3) hx hb dX8_needState_8 (by decide) ?_
    refine W.widen (k := 0) (n := 0) (Nat.le_of_ble_eq_true rfl) (Nat.le_of_ble_eq_true rfl) ?_
    exact h9 (3 : Int32) _ _ _ hE hP hD hS (lv_sub hl [] rfl)
  · replace hE := it_f hE c_3
    refine lv_iconst (v := 0) hx hb dX8_needState_4 (by decide) ?_
    refine lv_goto (tgt := 9) hx hb dX8_needState_5 (by decide) ?_
    refine W.widen (k := 0) (n := 0) (Nat.le_of_ble_eq_true rfl) (Nat.le_of_ble_eq_true rfl) ?_
    exact h9 (0 : Int32) _ _ _ hE hP hD hS (lv_sub hl [] rfl)
abbrev rm_X8_addSilo : Room := { frames := 8, cells := 4, slots := 24, locals := 122 }
set_option maxHeartbeats 40000000 in
set_option maxRecDepth 100000 in
theorem c_X8_addSilo (l : Launch) (hst : l.stackTraces = false) (D : va_G) (cy : Nat → Nat) (aI aT adP adS adB adO adR adA aP aS aB aO aR aA aH : Nat → Nat) (ah : Nat → Nat → Nat → Nat) (x1 : Int32) (x2 : Int32) (x3 : Int32) (imT : Mem) (imdP : Mem) (indP : MemL) (imdS : Mem) (imdB : Mem) (imdO : Mem) (imdR : Mem) (imdA : Mem) (indA : MemL) (imP : Mem) (inP : MemL) (imS : Mem) (imB : Mem) (imO : Mem) (imR : Mem) (imA : Mem) (inA : MemL) (imH : Mem) (ihs : (Nat → PSt)) (k' : Nat) (r' : Int32) (mS' : Mem) (mH' : Mem) (hs' : (Nat → PSt)) (hE : f_X8_addSilo x1 x2 x3 imT imdP indP imdS imdB imdO imdR imdA indA imP inP imS imB imO imR imA inA imH ihs = some (k', r', mS', mH', hs')) : CXI l yX8_addSilo wsX8_addSilo rm_X8_addSilo D cy [.ref (aI 0), .int x1, .int x2, .int x3] (W_All cy aI aT adP adS adB adO adR adA aP aS aB aO aR aA aH ah imT imdP indP imdS imdB imdO imdR imdA indA imP inP imS imB imO imR imA inA imH ihs) 4 24 k' r' (W_All cy aI aT adP adS adB adO adR adA aP aS aB aO aR aA aH ah imT imdP indP imdS imdB imdO imdR imdA indA imP inP mS' imB imO imR imA inA mH' hs') := by
  refine CX_of (cc := cX8_addSilo) (maxL := 4) (ret := (some .int)) (by decide) rfl (Nat.le_of_ble_eq_true rfl) (fun p e s m args below meth c A ls hx hb hr hml hlocks hnm hown hts hA htab hK hN hP hD hS hl => ?_)
  have hown : s.vm.findClass RX8 = some m.cls := hown
  have hl : lv_has ls 4 [(0, .ref (aI 0)), (1, .int x1), (2, .int x2), (3, .int x3)] := hl
  have hC : CallFix p m c cX8_addSilo 4 s args wsX8_addSilo RX8 := ⟨hx, hb, hml, hown, hts⟩
  have f10 : (Cond.fieldLink RX8 10 "IcePlant" "now" "LIcePlant$Plant;").before args s = true := hts _ (mC qf_X8_10)
  have f22 : (Cond.fieldLink RX8 22 "IcePlant" "history" "LIcePlant$History;").before args s = true := hts _ (mC qf_X8_22)
  have f43 : (Cond.fieldLink RX8 43 "IcePlant$Plant" "store" "LIcePlant$Store;").before args s = true := hts _ (mC qf_X8_43)
  have f47 : (Cond.fieldLink RX8 47 "IcePlant$Store" "silos" "I").before args s = true := hts _ (mC qf_X8_47)
  have iX4 : ∀ w ∈ wsX40, w ∈ wsX8_addSilo := fun w h => mC (iA_X4 w h)
  have iX6 : ∀ w ∈ wsX60, w ∈ wsX8_addSilo := fun w h => mC (iA_X6 w h)
  have iX8 : ∀ w ∈ wsX80, w ∈ wsX8_addSilo := fun w h => mC (iA_X8 w h)
  have h48 : ∀ (x1 : Int32) (x2 : Int32) (x3 : Int32) (t0 : Int32) (mS : Mem) (mH : Mem) (hs : (Nat → PSt)), ∀  (H : Heap) (locs : List Loc) (ls : Array Slot), f_X8_addSilo_b48 x1 x2 x3 t0 imT imdP indP imdS imdB imdO imdR imdA indA imP inP mS imB imO imR imA inA mH hs = some (k', r', mS', mH', hs') → va_P D vwCl (W_All cy aI aT adP adS adB adO adR adA aP aS aB aO aR aA aH ah imT imdP indP imdS imdB imdO imdR imdA indA imP inP mS imB imO imR imA inA mH hs) H → va_D A (W_All cy aI aT adP adS adB adO adR adA aP aS aB aO aR aA aH ah imT imdP indP imdS imdB imdO imdR imdA indA imP inP mS imB imO imR imA inA mH hs) → va_S A s.heap H locs → lv_has ls 4 [(0, .ref (aI 0)), (1, .int x1), (2, .int x2), (3, .int x3)] → W p l e rm_X8_addSilo s m args below meth c H locs 3 18 (vx_MQ below (QXI D cy k' r' (W_All cy aI aT adP adS adB adO adR adA aP aS aB aO aR aA aH ah imT imdP indP imdS imdB imdO imdR imdA indA imP inP mS' imB imO imR imA inA mH' hs') A) (XX D cy k' (W_All cy aI aT adP adS adB adO adR adA aP aS aB aO aR aA aH ah imT imdP indP imdS imdB imdO imdR imdA indA imP inP mS' imB imO imR imA inA mH' hs') A) args s 4 24 A) (F0 m 48 ls [.int t0]) := by
    intro x1 x2 x3 t0 mS mH hs H locs ls hE hP hD hS hl
    replace hE : (bd1 (f_X8_needState t0) fun k_2 => (if k_2 = 0 then bd2 (f_X2_save imP inP mS imB imO imR imA inA mH hs) fun mH_3 hs_4 => bd2 (f_X6_addOne x1 x2 x3 mS) fun r_6 mS_7 => some (0, r_6, mS_7, mH_3, hs_4) else some (k_2, (0 : Int32), mS, mH, hs))) = some (k', r', mS', mH', hs') := hE
    obtain ⟨k_2, hc_1, hE⟩ := bd1_el hE
    refine kxv (X := []) (Y := (W_All cy aI aT adP adS adB adO adR adA aP aS aB aO aR aA aH ah imT imdP indP imdS imdB imdO imdR imdA indA imP inP mS imB imO imR imA inA mH hs)) (ws1 := (W_All cy aI aT adP adS adB adO adR adA aP aS aB aO aR aA aH ah imT imdP indP imdS imdB imdO imdR imdA indA imP inP mS imB imO imR imA inA mH hs)) (xS (X := []) (Y := (W_All cy aI aT adP adS adB adO adR adA aP aS aB aO aR aA aH ah imT imdP indP imdS imdB imdO imdR imdA indA imP inP mS imB imO imR imA inA mH hs)) (As := [.int t0]) (rest := []) hC (c_X8_needState l hst D cy t0 k_2 hc_1) (cwS 1 hts gX8_addSilo_X8_needState rfl rfl rfl cd_X8_needState ⟨Nat.le_of_ble_eq_true rfl, Nat.le_of_ble_eq_true rfl⟩) hK hN hP hD hS hA rfl rfl hl.1 rfl (lv_room (Nat.le_of_ble_eq_true rfl)) dX8_addSilo_48 ⟨Nat.le_of_ble_eq_true rfl, Nat.le_of_ble_eq_true rfl⟩) hP hD hS hA rfl rfl rfl (fun hk0 H locs ce q9 hP hD hS hce hcv hcl => ?_) (fun hk0 H locs hP hD hS => ?_)
    · replace hE := it_f hE hk0
      have hE := Option.some.inj hE
      obtain ⟨q0, hE⟩ := Prod.mk.inj hE
      obtain ⟨q1, hE⟩ := Prod.mk.inj hE
      obtain ⟨q2, hE⟩ := Prod.mk.inj hE
      obtain ⟨q3, q4⟩ := Prod.mk.inj hE
      exact exx htab hlocks hK hP hD hS hce hcv hcl hk0 q0 (by rw [q2, q3, q4]) (Nat.le_of_ble_eq_true rfl) (Nat.le_of_ble_eq_true rfl)
    · replace hE := it_t hE hk0
      refine lv_aload_n hx hb dX8_addSilo_51 rfl (lv_at hl 0 rfl) ?_
      refine va_get (D := D) (ci := 8) (v := .ref (aH 0)) (C := RX8) (T := TX8) (N := 4) hx hb hts iX8 hown hK hP 0 rfl rfl 2 (by decide) f22 (fun _ h9 => h9) rfl dX8_addSilo_52 ?_
      refine lv_aload_n hx hb dX8_addSilo_55 rfl (lv_at hl 0 rfl) ?_
      refine va_get (D := D) (ci := 8) (v := .ref (aP 0)) (C := RX8) (T := TX8) (N := 4) hx hb hts iX8 hown hK hP 0 rfl rfl 0 (by decide) f10 (fun _ h9 => h9) rfl dX8_addSilo_56 ?_
      obtain ⟨mH_3, hs_4, hc_5, hE⟩ := bd2_el hE
      refine kv (X := ((W_I aI aP adP aH aT) ++ ((W_T cy aT imT) ++ ((W_P cy adP adS adB adO adR adA imdP indP) ++ ((W_S cy adS imdS) ++ ((W_B cy adB imdB) ++ ((W_O cy adO imdO) ++ ((W_R cy adR imdR) ++ (W_A cy adA imdA indA))))))))) (Y := []) (ws1 := (W_All cy aI aT adP adS adB adO adR adA aP aS aB aO aR aA aH ah imT imdP indP imdS imdB imdO imdR imdA indA imP inP mS imB imO imR imA inA mH_3 hs_4)) (rV (X := ((W_I aI aP adP aH aT) ++ ((W_T cy aT imT) ++ ((W_P cy adP adS adB adO adR adA imdP indP) ++ ((W_S cy adS imdS) ++ ((W_B cy adB imdB) ++ ((W_O cy adO imdO) ++ ((W_R cy adR imdR) ++ (W_A cy adA imdA indA))))))))) (Y := []) (As := [.ref (aP 0)]) (rest := []) hC (c_X2_save l D cy aP aS aB aO aR aA aH ah imP inP mS imB imO imR imA inA mH hs mH_3 hs_4 hc_5) (cwV 1 hts gX8_addSilo_X2_save rfl rfl rfl cd_X2_save ⟨Nat.le_of_ble_eq_true rfl, Nat.le_of_ble_eq_true rfl⟩) hK hN hP hD hS hA rfl 36 2 rfl rfl rfl hl.1 rfl (lv_room (Nat.le_of_ble_eq_true rfl)) dX8_addSilo_59 ⟨Nat.le_of_ble_eq_true rfl, Nat.le_of_ble_eq_true rfl⟩) hP hD hS hA rfl rfl rfl (fun H locs hP hD hS => ?_)
      refine lv_aload_n hx hb dX8_addSilo_62 rfl (lv_at hl 0 rfl) ?_
      refine va_get (D := D) (ci := 8) (v := .ref (aP 0)) (C := RX8) (T := TX8) (N := 4) hx hb hts iX8 hown hK hP 0 rfl rfl 0 (by decide) f10 (fun _ h9 => h9) rfl dX8_addSilo_63 ?_
      refine va_get (D := D) (ci := 4) (v := .ref (aS 0)) (C := RX4) (T := TX4) (N := 13) hx hb hts iX4 hown hK hP 40 rfl rfl 2 (by decide) f43 (fun _ h9 => h9) rfl dX8_addSilo_66 ?_
      refine lv_iload_n hx hb dX8_addSilo_69 rfl (lv_at hl 1 rfl) ?_
      refine lv_iload_n hx hb dX8_addSilo_70 rfl (lv_at hl 2 rfl) ?_
      refine lv_iload_n hx hb dX8_addSilo_71 rfl (lv_at hl 3 rfl) ?_
      obtain ⟨r_6, mS_7, hc_8, hE⟩ := bd2_el hE
      refine ki (X := ((W_I aI aP adP aH aT) ++ ((W_T cy aT imT) ++ ((W_P cy adP adS adB adO adR adA imdP indP) ++ ((W_S cy adS imdS) ++ ((W_B cy adB imdB) ++ ((W_O cy adO imdO) ++ ((W_R cy adR imdR) ++ ((W_A cy adA imdA indA) ++ (W_P cy aP aS aB aO aR aA imP inP)))))))))) (Y := ((W_B cy aB imB) ++ ((W_O cy aO imO) ++ ((W_R cy aR imR) ++ ((W_A cy aA imA inA) ++ ((W_H cy aH ah mH_3) ++ (W_HS cy ah hs_4))))))) (ws1 := (W_All cy aI aT adP adS adB adO adR adA aP aS aB aO aR aA aH ah imT imdP indP imdS imdB imdO imdR imdA indA imP inP mS_7 imB imO imR imA inA mH_3 hs_4)) (rV (X := ((W_I aI aP adP aH aT) ++ ((W_T cy aT imT) ++ ((W_P cy adP adS adB adO adR adA imdP indP) ++ ((W_S cy adS imdS) ++ ((W_B cy adB imdB) ++ ((W_O cy adO imdO) ++ ((W_R cy adR imdR) ++ ((W_A cy adA imdA indA) ++ (W_P cy aP aS aB aO aR aA imP inP)))))))))) (Y := ((W_B cy aB imB) ++ ((W_O cy aO imO) ++ ((W_R cy aR imR) ++ ((W_A cy aA imA inA) ++ ((W_H cy aH ah mH_3) ++ (W_HS cy ah hs_4))))))) (As := [.int x1, .int x2, .int x3]) (rest := []) hC (c_X6_addOne l D cy aS x1 x2 x3 mS r_6 mS_7 hc_8) (cwV 3 hts gX8_addSilo_X6_addOne rfl rfl rfl cd_X6_addOne ⟨Nat.le_of_ble_eq_true rfl, Nat.le_of_ble_eq_true rfl⟩) hK hN hP hD hS hA rfl 0 6 rfl rfl rfl hl.1 rfl (lv_room (Nat.le_of_ble_eq_true rfl)) dX8_addSilo_72 ⟨Nat.le_of_ble_eq_true rfl, Nat.le_of_ble_eq_true rfl⟩) hP hD hS hA rfl rfl rfl (fun H locs hP hD hS => ?_)
      have hE := Option.some.inj hE
      obtain ⟨q0, hE⟩ := Prod.mk.inj hE
      obtain ⟨q1, hE⟩ := Prod.mk.inj hE
      obtain ⟨q2, hE⟩ := Prod.mk.inj hE
      obtain ⟨q3, q4⟩ := Prod.mk.inj hE
      exact exi hx hb hr hlocks hK hP hD hS q0 q1 (by rw [q2, q3, q4]) (Nat.le_of_ble_eq_true rfl) (Nat.le_of_ble_eq_true rfl) dX8_addSilo_75
  unfold f_X8_addSilo at hE
  refine lv_iload_n hx hb dX8_addSilo_0 rfl (lv_at hl 1 rfl) ?_
  refine lv_iconst (v := 1) hx hb dX8_addSilo_1 (by decide) ?_
  refine lv_bipush (v := 30) hx hb dX8_addSilo_2 (by decide) ?_
  obtain ⟨r_9, hc_10, hE⟩ := bd1_el hE
  refine ki (X := []) (Y := (W_All cy aI aT adP adS adB adO adR adA aP aS aB aO aR aA aH ah imT imdP indP imdS imdB imdO imdR imdA indA imP inP imS imB imO imR imA inA imH ihs)) (ws1 := (W_All cy aI aT adP adS adB adO adR adA aP aS aB aO aR aA aH ah imT imdP indP imdS imdB imdO imdR imdA indA imP inP imS imB imO imR imA inA imH ihs)) (rS (X := []) (Y := (W_All cy aI aT adP adS adB adO adR adA aP aS aB aO aR aA aH ah imT imdP indP imdS imdB imdO imdR imdA indA imP inP imS imB imO imR imA inA imH ihs)) (As := [.int x1, .int (1 : Int32), .int (30 : Int32)]) (rest := []) hC (c_X8_isWithin l D cy x1 (1 : Int32) (30 : Int32) r_9 hc_10) (cwS 3 hts gX8_addSilo_X8_isWithin rfl rfl rfl cd_X8_isWithin ⟨Nat.le_of_ble_eq_true rfl, Nat.le_of_ble_eq_true rfl⟩) hK hN hP hD hS hA rfl rfl hl.1 rfl (lv_room (Nat.le_of_ble_eq_true rfl)) dX8_addSilo_4 ⟨Nat.le_of_ble_eq_true rfl, Nat.le_of_ble_eq_true rfl⟩) hP hD hS hA rfl rfl rfl (fun H locs hP hD hS => ?_)
  obtain ⟨k_12, hc_11, hE⟩ := bd1_el hE
  refine kxv (X := []) (Y := (W_All cy aI aT adP adS adB adO adR adA aP aS aB aO aR aA aH ah imT imdP indP imdS imdB imdO imdR imdA indA imP inP imS imB imO imR imA inA imH ihs)) (ws1 := (W_All cy aI aT adP adS adB adO adR adA aP aS aB aO aR aA aH ah imT imdP indP imdS imdB imdO imdR imdA indA imP inP imS imB imO imR imA inA imH ihs)) (xS (X := []) (Y := (W_All cy aI aT adP adS adB adO adR adA aP aS aB aO aR aA aH ah imT imdP indP imdS imdB imdO imdR imdA indA imP inP imS imB imO imR imA inA imH ihs)) (As := [.int r_9]) (rest := []) hC (c_X8_needArgument l hst D cy r_9 k_12 hc_11) (cwS 1 hts gX8_addSilo_X8_needArgument rfl rfl rfl cd_X8_needArgument ⟨Nat.le_of_ble_eq_true rfl, Nat.le_of_ble_eq_true rfl⟩) hK hN hP hD hS hA rfl rfl hl.1 rfl (lv_room (Nat.le_of_ble_eq_true rfl)) dX8_addSilo_7 ⟨Nat.le_of_ble_eq_true rfl, Nat.le_of_ble_eq_true rfl⟩) hP hD hS hA rfl rfl rfl (fun hk0 H locs ce q9 hP hD hS hce hcv hcl => ?_) (fun hk0 H locs hP hD hS => ?_)
  · replace hE := it_f hE hk0
    have hE := Option.some.inj hE
    obtain ⟨q0, hE⟩ := Prod.mk.inj hE
    obtain ⟨q1, hE⟩ := Prod.mk.inj hE
    obtain ⟨q2, hE⟩ := Prod.mk.inj hE
    obtain ⟨q3, q4⟩ := Prod.mk.inj hE
    exact exx htab hlocks hK hP hD hS hce hcv hcl hk0 q0 (by rw [q2, q3, q4]) (Nat.le_of_ble_eq_true rfl) (Nat.le_of_ble_eq_true rfl)
  · replace hE := it_t hE hk0
    refine lv_iload_n hx hb dX8_addSilo_10 rfl (lv_at hl 2 rfl) ?_
    refine lv_iconst (v := 0) hx hb dX8_addSilo_11 (by decide) ?_
    refine lv_iconst (v := 3) hx hb dX8_addSilo_12 (by decide) ?_
    obtain ⟨r_13, hc_14, hE⟩ := bd1_el hE
    refine ki (X := []) (Y := (W_All cy aI aT adP adS adB adO adR adA aP aS aB aO aR aA aH ah imT imdP indP imdS imdB imdO imdR imdA indA imP inP imS imB imO imR imA inA imH ihs)) (ws1 := (W_All cy aI aT adP adS adB adO adR adA aP aS aB aO aR aA aH ah imT imdP indP imdS imdB imdO imdR imdA indA imP inP imS imB imO imR imA inA imH ihs)) (rS (X := []) (Y := (W_All cy aI aT adP adS adB adO adR adA aP aS aB aO aR aA aH ah imT imdP indP imdS imdB imdO imdR imdA indA imP inP imS imB imO imR imA inA imH ihs)) (As := [.int x2, .int (0 : Int32), .int (3 : Int32)]) (rest := []) hC (c_X8_isWithin l D cy x2 (0 : Int32) (3 : Int32) r_13 hc_14) (cwS 3 hts gX8_addSilo_X8_isWithin rfl rfl rfl cd_X8_isWithin ⟨Nat.le_of_ble_eq_true rfl, Nat.le_of_ble_eq_true rfl⟩) hK hN hP hD hS hA rfl rfl hl.1 rfl (lv_room (Nat.le_of_ble_eq_true rfl)) dX8_addSilo_13 ⟨Nat.le_of_ble_eq_true rfl, Nat.le_of_ble_eq_true rfl⟩) hP hD hS hA rfl rfl rfl (fun H locs hP hD hS => ?_)
    obtain ⟨k_16, hc_15, hE⟩ := bd1_el hE
    refine kxv (X := []) (Y := (W_All cy aI aT adP adS adB adO adR adA aP aS aB aO aR aA aH ah imT imdP indP imdS imdB imdO imdR imdA indA imP inP imS imB imO imR imA inA imH ihs)) (ws1 := (W_All cy aI aT adP adS adB adO adR adA aP aS aB aO aR aA aH ah imT imdP indP imdS imdB imdO imdR imdA indA imP inP imS imB imO imR imA inA imH ihs)) (xS (X := []) (Y := (W_All cy aI aT adP adS adB adO adR adA aP aS aB aO aR aA aH ah imT imdP indP imdS imdB imdO imdR imdA indA imP inP imS imB imO imR imA inA imH ihs)) (As := [.int r_13]) (rest := []) hC (c_X8_needArgument l hst D cy r_13 k_16 hc_15) (cwS 1 hts gX8_addSilo_X8_needArgument rfl rfl rfl cd_X8_needArgument ⟨Nat.le_of_ble_eq_true rfl, Nat.le_of_ble_eq_true rfl⟩) hK hN hP hD hS hA rfl rfl hl.1 rfl (lv_room (Nat.le_of_ble_eq_true rfl)) dX8_addSilo_16 ⟨Nat.le_of_ble_eq_true rfl, Nat.le_of_ble_eq_true rfl⟩) hP hD hS hA rfl rfl rfl (fun hk0 H locs ce q9 hP hD hS hce hcv hcl => ?_) (fun hk0 H locs hP hD hS => ?_)
    · replace hE := it_f hE hk0
      have hE := Option.some.inj hE
      obtain ⟨q0, hE⟩ := Prod.mk.inj hE
      obtain ⟨q1, hE⟩ := Prod.mk.inj hE
      obtain ⟨q2, hE⟩ := Prod.mk.inj hE
      obtain ⟨q3, q4⟩ := Prod.mk.inj hE
      exact exx htab hlocks hK hP hD hS hce hcv hcl hk0 q0 (by rw [q2, q3, q4]) (Nat.le_of_ble_eq_true rfl) (Nat.le_of_ble_eq_true rfl)
    · replace hE := it_t hE hk0
      refine lv_iload_n hx hb dX8_addSilo_19 rfl (lv_at hl 3 rfl) ?_
      refine lv_iconst (v := 0) hx hb dX8_addSilo_20 (by decide) ?_
      refine lv_bipush (v := 100) hx hb dX8_addSilo_21 (by decide) ?_
      obtain ⟨r_17, hc_18, hE⟩ := bd1_el hE
      refine ki (X := []) (Y := (W_All cy aI aT adP adS adB adO adR adA aP aS aB aO aR aA aH ah imT imdP indP imdS imdB imdO imdR imdA indA imP inP imS imB imO imR imA inA imH ihs)) (ws1 := (W_All cy aI aT adP adS adB adO adR adA aP aS aB aO aR aA aH ah imT imdP indP imdS imdB imdO imdR imdA indA imP inP imS imB imO imR imA inA imH ihs)) (rS (X := []) (Y := (W_All cy aI aT adP adS adB adO adR adA aP aS aB aO aR aA aH ah imT imdP indP imdS imdB imdO imdR imdA indA imP inP imS imB imO imR imA inA imH ihs)) (As := [.int x3, .int (0 : Int32), .int (100 : Int32)]) (rest := []) hC (c_X8_isWithin l D cy x3 (0 : Int32) (100 : Int32) r_17 hc_18) (cwS 3 hts gX8_addSilo_X8_isWithin rfl rfl rfl cd_X8_isWithin ⟨Nat.le_of_ble_eq_true rfl, Nat.le_of_ble_eq_true rfl⟩) hK hN hP hD hS hA rfl rfl hl.1 rfl (lv_room (Nat.le_of_ble_eq_true rfl)) dX8_addSilo_23 ⟨Nat.le_of_ble_eq_true rfl, Nat.le_of_ble_eq_true rfl⟩) hP hD hS hA rfl rfl rfl (fun H locs hP hD hS => ?_)
      obtain ⟨k_20, hc_19, hE⟩ := bd1_el hE
      refine kxv (X := []) (Y := (W_All cy aI aT adP adS adB adO adR adA aP aS aB aO aR aA aH ah imT imdP indP imdS imdB imdO imdR imdA indA imP inP imS imB imO imR imA inA imH ihs)) (ws1 := (W_All cy aI aT adP adS adB adO adR adA aP aS aB aO aR aA aH ah imT imdP indP imdS imdB imdO imdR imdA indA imP inP imS imB imO imR imA inA imH ihs)) (xS (X := []) (Y := (W_All cy aI aT adP adS adB adO adR adA aP aS aB aO aR aA aH ah imT imdP indP imdS imdB imdO imdR imdA indA imP inP imS imB imO imR imA inA imH ihs)) (As := [.int r_17]) (rest := []) hC (c_X8_needArgument l hst D cy r_17 k_20 hc_19) (cwS 1 hts gX8_addSilo_X8_needArgument rfl rfl rfl cd_X8_needArgument ⟨Nat.le_of_ble_eq_true rfl, Nat.le_of_ble_eq_true rfl⟩) hK hN hP hD hS hA rfl rfl hl.1 rfl (lv_room (Nat.le_of_ble_eq_true rfl)) dX8_addSilo_26 ⟨Nat.le_of_ble_eq_true rfl, Nat.le_of_ble_eq_true rfl⟩) hP hD hS hA rfl rfl rfl (fun hk0 H locs ce q9 hP hD hS hce hcv hcl => ?_) (fun hk0 H locs hP hD hS => ?_)
      · replace hE := it_f hE hk0
        have hE := Option.some.inj hE
        obtain ⟨q0, hE⟩ := Prod.mk.inj hE
        obtain ⟨q1, hE⟩ := Prod.mk.inj hE
        obtain ⟨q2, hE⟩ := Prod.mk.inj hE
        obtain ⟨q3, q4⟩ := Prod.mk.inj hE
        exact exx htab hlocks hK hP hD hS hce hcv hcl hk0 q0 (by rw [q2, q3, q4]) (Nat.le_of_ble_eq_true rfl) (Nat.le_of_ble_eq_true rfl)
      · replace hE := it_t hE hk0
        refine lv_aload_n hx hb dX8_addSilo_29 rfl (lv_at hl 0 rfl) ?_
        refine va_get (D := D) (ci := 8) (v := .ref (aP 0)) (C := RX8) (T := TX8) (N := 4) hx hb hts iX8 hown hK hP 0 rfl rfl 0 (by decide) f10 (fun _ h9 => h9) rfl dX8_addSilo_30 ?_
        refine va_get (D := D) (ci := 4) (v := .ref (aS 0)) (C := RX4) (T := TX4) (N := 13) hx hb hts iX4 hown hK hP 40 rfl rfl 2 (by decide) f43 (fun _ h9 => h9) rfl dX8_addSilo_33 ?_
        refine va_get (D := D) (ci := 6) (v := .int (imS 0 0)) (C := RX6) (T := TX6) (N := 10) hx hb hts iX6 hown hK hP 43 rfl rfl 0 (by decide) f47 (fun _ h9 => h9) rfl dX8_addSilo_36 ?_
        refine lv_iconst (v := 5) hx hb dX8_addSilo_39 (by decide) ?_
        refine lv_icmp_ge (tgt := 47) hx hb dX8_addSilo_40 (by decide) (fun c_21 => ?_) (fun c_21 => ?_)
        · replace hE := it_t hE c_21
          refine lv_iconst (v := 0) hx hb dX8_addSilo_47 (by decide) ?_
          refine W.widen (k := 3) (n := 18) (Nat.le_of_ble_eq_true rfl) (Nat.le_of_ble_eq_true rfl) ?_
          exact h48 x1 x2 x3 (0 : Int32) imS imH ihs _ _ _ hE hP hD hS (lv_sub hl [0, 1, 2, 3] rfl)
        · replace hE := it_f hE c_21
          refine lv_iconst (v := 1) hx hb dX8_addSilo_43 (by decide) ?_
          refine lv_goto (tgt := 48) hx hb dX8_addSilo_44 (by decide) ?_
          refine W.widen (k := 3) (n := 18) (Nat.le_of_ble_eq_true rfl) (Nat.le_of_ble_eq_true rfl) ?_
          exact h48 x1 x2 x3 (1 : Int32) imS imH ihs _ _ _ hE hP hD hS (lv_sub hl [0, 1, 2, 3] rfl)
abbrev rm_X8_needItem : Room := { frames := 7, cells := 1, slots := 6, locals := 102 }
set_option maxHeartbeats 40000000 in
set_option maxRecDepth 100000 in
theorem c_X8_needItem (l : Launch) (hst : l.stackTraces = false) (D : va_G) (cy : Nat → Nat)  (x0 : Int32) (k' : Nat) (hE : f_X8_needItem x0 = some k') : CXV l yX8_needItem wsX8_needItem rm_X8_needItem D cy [.int x0] ([] : va_W) 1 6 k' ([] : va_W) := by
  refine CX_of (cc := cX8_needItem) (maxL := 1) (ret := none) (by decide) rfl (Nat.le_of_ble_eq_true rfl) (fun p e s m args below meth c A ls hx hb hr hml hlocks hnm hown hts hA htab hK hN hP hD hS hl => ?_)
  have hown : s.vm.findClass RX8 = some m.cls := hown
  have hl : lv_has ls 1 [(0, .int x0)] := hl
  have hC : CallFix p m c cX8_needItem 1 s args wsX8_needItem RX8 := ⟨hx, hb, hml, hown, hts⟩
  have h9 : ∀ (t0 : Int32), ∀  (H : Heap) (locs : List Loc) (ls : Array Slot), f_X8_needItem_b9 t0 = some k' → va_P D vwCl ([] : va_W) H → va_D A ([] : va_W) → va_S A s.heap H locs → lv_has ls 1 [] → W p l e rm_X8_needItem s m args below meth c H locs 0 0 (vx_MQ below (QXV D cy k' ([] : va_W) A) (XX D cy k' ([] : va_W) A) args s 1 6 A) (F0 m 9 ls [.int t0]) := by
    intro t0 H locs ls hE hP hD hS hl
    replace hE : (bd1 (f_X8_refuse t0) fun k_2 => (if k_2 = 0 then some (0) else some k_2)) = some k' := hE
    obtain ⟨k_2, hc_1, hE⟩ := bd1_el hE
    refine kxv (X := []) (Y := []) (ws1 := ([] : va_W)) (xS (X := []) (Y := []) (As := [.int t0]) (rest := []) hC (c_X8_refuse l hst D cy t0 k_2 hc_1) (cwS 1 hts gX8_needItem_X8_refuse rfl rfl rfl cd_X8_refuse ⟨Nat.le_of_ble_eq_true rfl, Nat.le_of_ble_eq_true rfl⟩) hK hN hP hD hS hA rfl rfl hl.1 rfl (lv_room (Nat.le_of_ble_eq_true rfl)) dX8_needItem_9 ⟨Nat.le_of_ble_eq_true rfl, Nat.le_of_ble_eq_true rfl⟩) hP hD hS hA rfl rfl rfl (fun hk0 H locs ce q9 hP hD hS hce hcv hcl => ?_) (fun hk0 H locs hP hD hS => ?_)
    · replace hE := it_f hE hk0
      have hE := Option.some.inj hE
      exact exx htab hlocks hK hP hD hS hce hcv hcl hk0 hE rfl (Nat.le_of_ble_eq_true rfl) (Nat.le_of_ble_eq_true rfl)
    · replace hE := it_t hE hk0
      have hE := Option.some.inj hE
      exact exv hx hb hr hlocks hK hP hD hS hE rfl (Nat.le_of_ble_eq_true rfl) (Nat.le_of_ble_eq_true rfl) dX8_needItem_12
  unfold f_X8_needItem at hE
  refine lv_iload_n hx hb dX8_needItem_0 rfl (lv_at hl 0 rfl) ?_
  refine lv_if_eq (tgt := 8) hx hb dX8_needItem_1 (by decide) (fun c_3 => ?_) (fun c_3 => ?_)
  · replace hE := it_t hE c_3
    refine lv_iconst (v := 1) hx hb dX8_needItem_8 (by decide) ?_
    refine W.widen (k := 0) (n := 0) (Nat.le_of_ble_eq_true rfl) (Nat.le_of_ble_eq_true rfl) ?_
    exact h9 (1 : Int32) _ _ _ hE hP hD hS (lv_sub hl [] rfl)
  · replace hE := it_f hE c_3
    refine lv_iconst (v := 0) hx hb dX8_needItem_4 (by decide) ?_
    refine lv_goto (tgt := 9) hx hb dX8_needItem_5 (by decide) ?_
    refine W.widen (k := 0) (n := 0) (Nat.le_of_ble_eq_true rfl) (Nat.le_of_ble_eq_true rfl) ?_
    exact h9 (0 : Int32) _ _ _ hE hP hD hS (lv_sub hl [] rfl)
abbrev rm_X8_setRule : Room := { frames := 8, cells := 2, slots := 12, locals := 122 }
set_option maxHeartbeats 40000000 in
set_option maxRecDepth 100000 in
theorem c_X8_setRule (l : Launch) (hst : l.stackTraces = false) (D : va_G) (cy : Nat → Nat) (aI aT adP adS adB adO adR adA aP aS aB aO aR aA aH : Nat → Nat) (ah : Nat → Nat → Nat → Nat) (x1 : Int32) (x2 : Int32) (imT : Mem) (imdP : Mem) (indP : MemL) (imdS : Mem) (imdB : Mem) (imdO : Mem) (imdR : Mem) (imdA : Mem) (indA : MemL) (imP : Mem) (inP : MemL) (imS : Mem) (imB : Mem) (imO : Mem) (imR : Mem) (imA : Mem) (inA : MemL) (imH : Mem) (ihs : (Nat → PSt)) (k' : Nat) (r' : Int32) (mS' : Mem) (mH' : Mem) (hs' : (Nat → PSt)) (hE : f_X8_setRule x1 x2 imT imdP indP imdS imdB imdO imdR imdA indA imP inP imS imB imO imR imA inA imH ihs = some (k', r', mS', mH', hs')) : CXI l yX8_setRule wsX8_setRule rm_X8_setRule D cy [.ref (aI 0), .int x1, .int x2] (W_All cy aI aT adP adS adB adO adR adA aP aS aB aO aR aA aH ah imT imdP indP imdS imdB imdO imdR imdA indA imP inP imS imB imO imR imA inA imH ihs) 2 12 k' r' (W_All cy aI aT adP adS adB adO adR adA aP aS aB aO aR aA aH ah imT imdP indP imdS imdB imdO imdR imdA indA imP inP mS' imB imO imR imA inA mH' hs') := by
  refine CX_of (cc := cX8_setRule) (maxL := 3) (ret := (some .int)) (by decide) rfl (Nat.le_of_ble_eq_true rfl) (fun p e s m args below meth c A ls hx hb hr hml hlocks hnm hown hts hA htab hK hN hP hD hS hl => ?_)
  have hown : s.vm.findClass RX8 = some m.cls := hown
  have hl : lv_has ls 3 [(0, .ref (aI 0)), (1, .int x1), (2, .int x2)] := hl
  have hC : CallFix p m c cX8_setRule 3 s args wsX8_setRule RX8 := ⟨hx, hb, hml, hown, hts⟩
  have f10 : (Cond.fieldLink RX8 10 "IcePlant" "now" "LIcePlant$Plant;").before args s = true := hts _ (mC qf_X8_10)
  have f22 : (Cond.fieldLink RX8 22 "IcePlant" "history" "LIcePlant$History;").before args s = true := hts _ (mC qf_X8_22)
  have f43 : (Cond.fieldLink RX8 43 "IcePlant$Plant" "store" "LIcePlant$Store;").before args s = true := hts _ (mC qf_X8_43)
  have f69 : (Cond.fieldLink RX8 69 "IcePlant$Store" "rules" "[I").before args s = true := hts _ (mC qf_X8_69)
  have iX4 : ∀ w ∈ wsX40, w ∈ wsX8_setRule := fun w h => mC (iA_X4 w h)
  have iX6 : ∀ w ∈ wsX60, w ∈ wsX8_setRule := fun w h => mC (iA_X6 w h)
  have iX8 : ∀ w ∈ wsX80, w ∈ wsX8_setRule := fun w h => mC (iA_X8 w h)
  unfold f_X8_setRule at hE
  refine lv_aload_n hx hb dX8_setRule_0 rfl (lv_at hl 0 rfl) ?_
  refine va_get (D := D) (ci := 8) (v := .ref (aP 0)) (C := RX8) (T := TX8) (N := 4) hx hb hts iX8 hown hK hP 0 rfl rfl 0 (by decide) f10 (fun _ h9 => h9) rfl dX8_setRule_1 ?_
  refine va_get (D := D) (ci := 4) (v := .ref (aS 0)) (C := RX4) (T := TX4) (N := 13) hx hb hts iX4 hown hK hP 40 rfl rfl 2 (by decide) f43 (fun _ h9 => h9) rfl dX8_setRule_4 ?_
  refine lv_iload_n hx hb dX8_setRule_7 rfl (lv_at hl 1 rfl) ?_
  obtain ⟨r_1, hc_2, hE⟩ := bd1_el hE
  refine ki (X := ((W_I aI aP adP aH aT) ++ ((W_T cy aT imT) ++ ((W_P cy adP adS adB adO adR adA imdP indP) ++ ((W_S cy adS imdS) ++ ((W_B cy adB imdB) ++ ((W_O cy adO imdO) ++ ((W_R cy adR imdR) ++ ((W_A cy adA imdA indA) ++ (W_P cy aP aS aB aO aR aA imP inP)))))))))) (Y := ((W_B cy aB imB) ++ ((W_O cy aO imO) ++ ((W_R cy aR imR) ++ ((W_A cy aA imA inA) ++ ((W_H cy aH ah imH) ++ (W_HS cy ah ihs))))))) (ws1 := (W_All cy aI aT adP adS adB adO adR adA aP aS aB aO aR aA aH ah imT imdP indP imdS imdB imdO imdR imdA indA imP inP imS imB imO imR imA inA imH ihs)) (rV (X := ((W_I aI aP adP aH aT) ++ ((W_T cy aT imT) ++ ((W_P cy adP adS adB adO adR adA imdP indP) ++ ((W_S cy adS imdS) ++ ((W_B cy adB imdB) ++ ((W_O cy adO imdO) ++ ((W_R cy adR imdR) ++ ((W_A cy adA imdA indA) ++ (W_P cy aP aS aB aO aR aA imP inP)))))))))) (Y := ((W_B cy aB imB) ++ ((W_O cy aO imO) ++ ((W_R cy aR imR) ++ ((W_A cy aA imA inA) ++ ((W_H cy aH ah imH) ++ (W_HS cy ah ihs))))))) (As := [.int x1]) (rest := []) hC (c_X6_hasSilo l D cy aS x1 imS r_1 hc_2) (cwV 1 hts gX8_setRule_X6_hasSilo rfl rfl rfl cd_X6_hasSilo ⟨Nat.le_of_ble_eq_true rfl, Nat.le_of_ble_eq_true rfl⟩) hK hN hP hD hS hA rfl 0 6 rfl rfl rfl hl.1 rfl (lv_room (Nat.le_of_ble_eq_true rfl)) dX8_setRule_8 ⟨Nat.le_of_ble_eq_true rfl, Nat.le_of_ble_eq_true rfl⟩) hP hD hS hA rfl rfl rfl (fun H locs hP hD hS => ?_)
  obtain ⟨k_4, hc_3, hE⟩ := bd1_el hE
  refine kxv (X := []) (Y := (W_All cy aI aT adP adS adB adO adR adA aP aS aB aO aR aA aH ah imT imdP indP imdS imdB imdO imdR imdA indA imP inP imS imB imO imR imA inA imH ihs)) (ws1 := (W_All cy aI aT adP adS adB adO adR adA aP aS aB aO aR aA aH ah imT imdP indP imdS imdB imdO imdR imdA indA imP inP imS imB imO imR imA inA imH ihs)) (xS (X := []) (Y := (W_All cy aI aT adP adS adB adO adR adA aP aS aB aO aR aA aH ah imT imdP indP imdS imdB imdO imdR imdA indA imP inP imS imB imO imR imA inA imH ihs)) (As := [.int r_1]) (rest := []) hC (c_X8_needItem l hst D cy r_1 k_4 hc_3) (cwS 1 hts gX8_setRule_X8_needItem rfl rfl rfl cd_X8_needItem ⟨Nat.le_of_ble_eq_true rfl, Nat.le_of_ble_eq_true rfl⟩) hK hN hP hD hS hA rfl rfl hl.1 rfl (lv_room (Nat.le_of_ble_eq_true rfl)) dX8_setRule_11 ⟨Nat.le_of_ble_eq_true rfl, Nat.le_of_ble_eq_true rfl⟩) hP hD hS hA rfl rfl rfl (fun hk0 H locs ce q9 hP hD hS hce hcv hcl => ?_) (fun hk0 H locs hP hD hS => ?_)
  · replace hE := it_f hE hk0
    have hE := Option.some.inj hE
    obtain ⟨q0, hE⟩ := Prod.mk.inj hE
    obtain ⟨q1, hE⟩ := Prod.mk.inj hE
    obtain ⟨q2, hE⟩ := Prod.mk.inj hE
    obtain ⟨q3, q4⟩ := Prod.mk.inj hE
    exact exx htab hlocks hK hP hD hS hce hcv hcl hk0 q0 (by rw [q2, q3, q4]) (Nat.le_of_ble_eq_true rfl) (Nat.le_of_ble_eq_true rfl)
  · replace hE := it_t hE hk0
    refine lv_iload_n hx hb dX8_setRule_14 rfl (lv_at hl 2 rfl) ?_
    refine lv_iconst (v := 0) hx hb dX8_setRule_15 (by decide) ?_
    refine lv_iconst (v := 3) hx hb dX8_setRule_16 (by decide) ?_
    obtain ⟨r_5, hc_6, hE⟩ := bd1_el hE
    refine ki (X := []) (Y := (W_All cy aI aT adP adS adB adO adR adA aP aS aB aO aR aA aH ah imT imdP indP imdS imdB imdO imdR imdA indA imP inP imS imB imO imR imA inA imH ihs)) (ws1 := (W_All cy aI aT adP adS adB adO adR adA aP aS aB aO aR aA aH ah imT imdP indP imdS imdB imdO imdR imdA indA imP inP imS imB imO imR imA inA imH ihs)) (rS (X := []) (Y := (W_All cy aI aT adP adS adB adO adR adA aP aS aB aO aR aA aH ah imT imdP indP imdS imdB imdO imdR imdA indA imP inP imS imB imO imR imA inA imH ihs)) (As := [.int x2, .int (0 : Int32), .int (3 : Int32)]) (rest := []) hC (c_X8_isWithin l D cy x2 (0 : Int32) (3 : Int32) r_5 hc_6) (cwS 3 hts gX8_setRule_X8_isWithin rfl rfl rfl cd_X8_isWithin ⟨Nat.le_of_ble_eq_true rfl, Nat.le_of_ble_eq_true rfl⟩) hK hN hP hD hS hA rfl rfl hl.1 rfl (lv_room (Nat.le_of_ble_eq_true rfl)) dX8_setRule_17 ⟨Nat.le_of_ble_eq_true rfl, Nat.le_of_ble_eq_true rfl⟩) hP hD hS hA rfl rfl rfl (fun H locs hP hD hS => ?_)
    obtain ⟨k_8, hc_7, hE⟩ := bd1_el hE
    refine kxv (X := []) (Y := (W_All cy aI aT adP adS adB adO adR adA aP aS aB aO aR aA aH ah imT imdP indP imdS imdB imdO imdR imdA indA imP inP imS imB imO imR imA inA imH ihs)) (ws1 := (W_All cy aI aT adP adS adB adO adR adA aP aS aB aO aR aA aH ah imT imdP indP imdS imdB imdO imdR imdA indA imP inP imS imB imO imR imA inA imH ihs)) (xS (X := []) (Y := (W_All cy aI aT adP adS adB adO adR adA aP aS aB aO aR aA aH ah imT imdP indP imdS imdB imdO imdR imdA indA imP inP imS imB imO imR imA inA imH ihs)) (As := [.int r_5]) (rest := []) hC (c_X8_needArgument l hst D cy r_5 k_8 hc_7) (cwS 1 hts gX8_setRule_X8_needArgument rfl rfl rfl cd_X8_needArgument ⟨Nat.le_of_ble_eq_true rfl, Nat.le_of_ble_eq_true rfl⟩) hK hN hP hD hS hA rfl rfl hl.1 rfl (lv_room (Nat.le_of_ble_eq_true rfl)) dX8_setRule_20 ⟨Nat.le_of_ble_eq_true rfl, Nat.le_of_ble_eq_true rfl⟩) hP hD hS hA rfl rfl rfl (fun hk0 H locs ce q9 hP hD hS hce hcv hcl => ?_) (fun hk0 H locs hP hD hS => ?_)
    · replace hE := it_f hE hk0
      have hE := Option.some.inj hE
      obtain ⟨q0, hE⟩ := Prod.mk.inj hE
      obtain ⟨q1, hE⟩ := Prod.mk.inj hE
      obtain ⟨q2, hE⟩ := Prod.mk.inj hE
      obtain ⟨q3, q4⟩ := Prod.mk.inj hE
      exact exx htab hlocks hK hP hD hS hce hcv hcl hk0 q0 (by rw [q2, q3, q4]) (Nat.le_of_ble_eq_true rfl) (Nat.le_of_ble_eq_true rfl)
    · replace hE := it_t hE hk0
      refine lv_aload_n hx hb dX8_setRule_23 rfl (lv_at hl 0 rfl) ?_
      refine va_get (D := D) (ci := 8) (v := .ref (aH 0)) (C := RX8) (T := TX8) (N := 4) hx hb hts iX8 hown hK hP 0 rfl rfl 2 (by decide) f22 (fun _ h9 => h9) rfl dX8_setRule_24 ?_
      refine lv_aload_n hx hb dX8_setRule_27 rfl (lv_at hl 0 rfl) ?_
      refine va_get (D := D) (ci := 8) (v := .ref (aP 0)) (C := RX8) (T := TX8) (N := 4) hx hb hts iX8 hown hK hP 0 rfl rfl 0 (by decide) f10 (fun _ h9 => h9) rfl dX8_setRule_28 ?_
      obtain ⟨mH_9, hs_10, hc_11, hE⟩ := bd2_el hE
      refine kv (X := ((W_I aI aP adP aH aT) ++ ((W_T cy aT imT) ++ ((W_P cy adP adS adB adO adR adA imdP indP) ++ ((W_S cy adS imdS) ++ ((W_B cy adB imdB) ++ ((W_O cy adO imdO) ++ ((W_R cy adR imdR) ++ (W_A cy adA imdA indA))))))))) (Y := []) (ws1 := (W_All cy aI aT adP adS adB adO adR adA aP aS aB aO aR aA aH ah imT imdP indP imdS imdB imdO imdR imdA indA imP inP imS imB imO imR imA inA mH_9 hs_10)) (rV (X := ((W_I aI aP adP aH aT) ++ ((W_T cy aT imT) ++ ((W_P cy adP adS adB adO adR adA imdP indP) ++ ((W_S cy adS imdS) ++ ((W_B cy adB imdB) ++ ((W_O cy adO imdO) ++ ((W_R cy adR imdR) ++ (W_A cy adA imdA indA))))))))) (Y := []) (As := [.ref (aP 0)]) (rest := []) hC (c_X2_save l D cy aP aS aB aO aR aA aH ah imP inP imS imB imO imR imA inA imH ihs mH_9 hs_10 hc_11) (cwV 1 hts gX8_setRule_X2_save rfl rfl rfl cd_X2_save ⟨Nat.le_of_ble_eq_true rfl, Nat.le_of_ble_eq_true rfl⟩) hK hN hP hD hS hA rfl 36 2 rfl rfl rfl hl.1 rfl (lv_room (Nat.le_of_ble_eq_true rfl)) dX8_setRule_31 ⟨Nat.le_of_ble_eq_true rfl, Nat.le_of_ble_eq_true rfl⟩) hP hD hS hA rfl rfl rfl (fun H locs hP hD hS => ?_)
      refine lv_aload_n hx hb dX8_setRule_34 rfl (lv_at hl 0 rfl) ?_
      refine va_get (D := D) (ci := 8) (v := .ref (aP 0)) (C := RX8) (T := TX8) (N := 4) hx hb hts iX8 hown hK hP 0 rfl rfl 0 (by decide) f10 (fun _ h9 => h9) rfl dX8_setRule_35 ?_
      refine va_get (D := D) (ci := 4) (v := .ref (aS 0)) (C := RX4) (T := TX4) (N := 13) hx hb hts iX4 hown hK hP 40 rfl rfl 2 (by decide) f43 (fun _ h9 => h9) rfl dX8_setRule_38 ?_
      refine va_get (D := D) (ci := 6) (v := .ref (aS 4)) (C := RX6) (T := TX6) (N := 10) hx hb hts iX6 hown hK hP 43 rfl rfl 3 (by decide) f69 (fun _ h9 => h9) rfl dX8_setRule_41 ?_
      refine lv_iload_n hx hb dX8_setRule_44 rfl (lv_at hl 1 rfl) ?_
      refine lv_iload_n hx hb dX8_setRule_45 rfl (lv_at hl 2 rfl) ?_
      obtain ⟨r_12, g_13, hc_15, hE⟩ := bd2_el hE
      obtain ⟨mS_14, e_mS_14, hE⟩ := lt_el hE
      refine ki (X := (List.take 45 (W_All cy aI aT adP adS adB adO adR adA aP aS aB aO aR aA aH ah imT imdP indP imdS imdB imdO imdR imdA indA imP inP imS imB imO imR imA inA mH_9 hs_10))) (Y := (List.drop 46 (W_All cy aI aT adP adS adB adO adR adA aP aS aB aO aR aA aH ah imT imdP indP imdS imdB imdO imdR imdA indA imP inP imS imB imO imR imA inA mH_9 hs_10))) (ws1 := (W_All cy aI aT adP adS adB adO adR adA aP aS aB aO aR aA aH ah imT imdP indP imdS imdB imdO imdR imdA indA imP inP mS_14 imB imO imR imA inA mH_9 hs_10)) (rS (X := (List.take 45 (W_All cy aI aT adP adS adB adO adR adA aP aS aB aO aR aA aH ah imT imdP indP imdS imdB imdO imdR imdA indA imP inP imS imB imO imR imA inA mH_9 hs_10))) (Y := (List.drop 46 (W_All cy aI aT adP adS adB adO adR adA aP aS aB aO aR aA aH ah imT imdP indP imdS imdB imdO imdR imdA indA imP inP imS imB imO imR imA inA mH_9 hs_10))) (As := [.ref (aS 4), .int x1, .int x2]) (rest := []) hC (c_X8_replace l D cy (aS 4) x1 x2 (5) (imS 3) r_12 g_13 hc_15) (cwS 3 hts gX8_setRule_X8_replace rfl rfl rfl cd_X8_replace ⟨Nat.le_of_ble_eq_true rfl, Nat.le_of_ble_eq_true rfl⟩) hK hN hP hD hS hA rfl rfl hl.1 rfl (lv_room (Nat.le_of_ble_eq_true rfl)) dX8_setRule_46 ⟨Nat.le_of_ble_eq_true rfl, Nat.le_of_ble_eq_true rfl⟩) hP hD hS hA rfl rfl (by rw [e_mS_14]; rfl) (fun H locs hP hD hS => ?_)
      have hE := Option.some.inj hE
      obtain ⟨q0, hE⟩ := Prod.mk.inj hE
      obtain ⟨q1, hE⟩ := Prod.mk.inj hE
      obtain ⟨q2, hE⟩ := Prod.mk.inj hE
      obtain ⟨q3, q4⟩ := Prod.mk.inj hE
      exact exi hx hb hr hlocks hK hP hD hS q0 q1 (by rw [q2, q3, q4]) (Nat.le_of_ble_eq_true rfl) (Nat.le_of_ble_eq_true rfl) dX8_setRule_49
abbrev rm_X8_setStrength : Room := { frames := 8, cells := 2, slots := 12, locals := 122 }
set_option maxHeartbeats 40000000 in
set_option maxRecDepth 100000 in
theorem c_X8_setStrength (l : Launch) (hst : l.stackTraces = false) (D : va_G) (cy : Nat → Nat) (aI aT adP adS adB adO adR adA aP aS aB aO aR aA aH : Nat → Nat) (ah : Nat → Nat → Nat → Nat) (x1 : Int32) (x2 : Int32) (imT : Mem) (imdP : Mem) (indP : MemL) (imdS : Mem) (imdB : Mem) (imdO : Mem) (imdR : Mem) (imdA : Mem) (indA : MemL) (imP : Mem) (inP : MemL) (imS : Mem) (imB : Mem) (imO : Mem) (imR : Mem) (imA : Mem) (inA : MemL) (imH : Mem) (ihs : (Nat → PSt)) (k' : Nat) (r' : Int32) (mS' : Mem) (mH' : Mem) (hs' : (Nat → PSt)) (hE : f_X8_setStrength x1 x2 imT imdP indP imdS imdB imdO imdR imdA indA imP inP imS imB imO imR imA inA imH ihs = some (k', r', mS', mH', hs')) : CXI l yX8_setStrength wsX8_setStrength rm_X8_setStrength D cy [.ref (aI 0), .int x1, .int x2] (W_All cy aI aT adP adS adB adO adR adA aP aS aB aO aR aA aH ah imT imdP indP imdS imdB imdO imdR imdA indA imP inP imS imB imO imR imA inA imH ihs) 2 12 k' r' (W_All cy aI aT adP adS adB adO adR adA aP aS aB aO aR aA aH ah imT imdP indP imdS imdB imdO imdR imdA indA imP inP mS' imB imO imR imA inA mH' hs') := by
  refine CX_of (cc := cX8_setStrength) (maxL := 3) (ret := (some .int)) (by decide) rfl (Nat.le_of_ble_eq_true rfl) (fun p e s m args below meth c A ls hx hb hr hml hlocks hnm hown hts hA htab hK hN hP hD hS hl => ?_)
  have hown : s.vm.findClass RX8 = some m.cls := hown
  have hl : lv_has ls 3 [(0, .ref (aI 0)), (1, .int x1), (2, .int x2)] := hl
  have hC : CallFix p m c cX8_setStrength 3 s args wsX8_setStrength RX8 := ⟨hx, hb, hml, hown, hts⟩
  have f10 : (Cond.fieldLink RX8 10 "IcePlant" "now" "LIcePlant$Plant;").before args s = true := hts _ (mC qf_X8_10)
  have f22 : (Cond.fieldLink RX8 22 "IcePlant" "history" "LIcePlant$History;").before args s = true := hts _ (mC qf_X8_22)
  have f43 : (Cond.fieldLink RX8 43 "IcePlant$Plant" "store" "LIcePlant$Store;").before args s = true := hts _ (mC qf_X8_43)
  have f77 : (Cond.fieldLink RX8 77 "IcePlant$Store" "strengths" "[I").before args s = true := hts _ (mC qf_X8_77)
  have iX4 : ∀ w ∈ wsX40, w ∈ wsX8_setStrength := fun w h => mC (iA_X4 w h)
  have iX6 : ∀ w ∈ wsX60, w ∈ wsX8_setStrength := fun w h => mC (iA_X6 w h)
  have iX8 : ∀ w ∈ wsX80, w ∈ wsX8_setStrength := fun w h => mC (iA_X8 w h)
  unfold f_X8_setStrength at hE
  refine lv_aload_n hx hb dX8_setStrength_0 rfl (lv_at hl 0 rfl) ?_
  refine va_get (D := D) (ci := 8) (v := .ref (aP 0)) (C := RX8) (T := TX8) (N := 4) hx hb hts iX8 hown hK hP 0 rfl rfl 0 (by decide) f10 (fun _ h9 => h9) rfl dX8_setStrength_1 ?_
  refine va_get (D := D) (ci := 4) (v := .ref (aS 0)) (C := RX4) (T := TX4) (N := 13) hx hb hts iX4 hown hK hP 40 rfl rfl 2 (by decide) f43 (fun _ h9 => h9) rfl dX8_setStrength_4 ?_
  refine lv_iload_n hx hb dX8_setStrength_7 rfl (lv_at hl 1 rfl) ?_
  obtain ⟨r_1, hc_2, hE⟩ := bd1_el hE
  refine ki (X := ((W_I aI aP adP aH aT) ++ ((W_T cy aT imT) ++ ((W_P cy adP adS adB adO adR adA imdP indP) ++ ((W_S cy adS imdS) ++ ((W_B cy adB imdB) ++ ((W_O cy adO imdO) ++ ((W_R cy adR imdR) ++ ((W_A cy adA imdA indA) ++ (W_P cy aP aS aB aO aR aA imP inP)))))))))) (Y := ((W_B cy aB imB) ++ ((W_O cy aO imO) ++ ((W_R cy aR imR) ++ ((W_A cy aA imA inA) ++ ((W_H cy aH ah imH) ++ (W_HS cy ah ihs))))))) (ws1 := (W_All cy aI aT adP adS adB adO adR adA aP aS aB aO aR aA aH ah imT imdP indP imdS imdB imdO imdR imdA indA imP inP imS imB imO imR imA inA imH ihs)) (rV (X := ((W_I aI aP adP aH aT) ++ ((W_T cy aT imT) ++ ((W_P cy adP adS adB adO adR adA imdP indP) ++ ((W_S cy adS imdS) ++ ((W_B cy adB imdB) ++ ((W_O cy adO imdO) ++ ((W_R cy adR imdR) ++ ((W_A cy adA imdA indA) ++ (W_P cy aP aS aB aO aR aA imP inP)))))))))) (Y := ((W_B cy aB imB) ++ ((W_O cy aO imO) ++ ((W_R cy aR imR) ++ ((W_A cy aA imA inA) ++ ((W_H cy aH ah imH) ++ (W_HS cy ah ihs))))))) (As := [.int x1]) (rest := []) hC (c_X6_hasSilo l D cy aS x1 imS r_1 hc_2) (cwV 1 hts gX8_setStrength_X6_hasSilo rfl rfl rfl cd_X6_hasSilo ⟨Nat.le_of_ble_eq_true rfl, Nat.le_of_ble_eq_true rfl⟩) hK hN hP hD hS hA rfl 0 6 rfl rfl rfl hl.1 rfl (lv_room (Nat.le_of_ble_eq_true rfl)) dX8_setStrength_8 ⟨Nat.le_of_ble_eq_true rfl, Nat.le_of_ble_eq_true rfl⟩) hP hD hS hA rfl rfl rfl (fun H locs hP hD hS => ?_)
  obtain ⟨k_4, hc_3, hE⟩ := bd1_el hE
  refine kxv (X := []) (Y := (W_All cy aI aT adP adS adB adO adR adA aP aS aB aO aR aA aH ah imT imdP indP imdS imdB imdO imdR imdA indA imP inP imS imB imO imR imA inA imH ihs)) (ws1 := (W_All cy aI aT adP adS adB adO adR adA aP aS aB aO aR aA aH ah imT imdP indP imdS imdB imdO imdR imdA indA imP inP imS imB imO imR imA inA imH ihs)) (xS (X := []) (Y := (W_All cy aI aT adP adS adB adO adR adA aP aS aB aO aR aA aH ah imT imdP indP imdS imdB imdO imdR imdA indA imP inP imS imB imO imR imA inA imH ihs)) (As := [.int r_1]) (rest := []) hC (c_X8_needItem l hst D cy r_1 k_4 hc_3) (cwS 1 hts gX8_setStrength_X8_needItem rfl rfl rfl cd_X8_needItem ⟨Nat.le_of_ble_eq_true rfl, Nat.le_of_ble_eq_true rfl⟩) hK hN hP hD hS hA rfl rfl hl.1 rfl (lv_room (Nat.le_of_ble_eq_true rfl)) dX8_setStrength_11 ⟨Nat.le_of_ble_eq_true rfl, Nat.le_of_ble_eq_true rfl⟩) hP hD hS hA rfl rfl rfl (fun hk0 H locs ce q9 hP hD hS hce hcv hcl => ?_) (fun hk0 H locs hP hD hS => ?_)
  · replace hE := it_f hE hk0
    have hE := Option.some.inj hE
    obtain ⟨q0, hE⟩ := Prod.mk.inj hE
    obtain ⟨q1, hE⟩ := Prod.mk.inj hE
    obtain ⟨q2, hE⟩ := Prod.mk.inj hE
    obtain ⟨q3, q4⟩ := Prod.mk.inj hE
    exact exx htab hlocks hK hP hD hS hce hcv hcl hk0 q0 (by rw [q2, q3, q4]) (Nat.le_of_ble_eq_true rfl) (Nat.le_of_ble_eq_true rfl)
  · replace hE := it_t hE hk0
    refine lv_iload_n hx hb dX8_setStrength_14 rfl (lv_at hl 2 rfl) ?_
    refine lv_iconst (v := 0) hx hb dX8_setStrength_15 (by decide) ?_
    refine lv_bipush (v := 100) hx hb dX8_setStrength_16 (by decide) ?_
    obtain ⟨r_5, hc_6, hE⟩ := bd1_el hE
    refine ki (X := []) (Y := (W_All cy aI aT adP adS adB adO adR adA aP aS aB aO aR aA aH ah imT imdP indP imdS imdB imdO imdR imdA indA imP inP imS imB imO imR imA inA imH ihs)) (ws1 := (W_All cy aI aT adP adS adB adO adR adA aP aS aB aO aR aA aH ah imT imdP indP imdS imdB imdO imdR imdA indA imP inP imS imB imO imR imA inA imH ihs)) (rS (X := []) (Y := (W_All cy aI aT adP adS adB adO adR adA aP aS aB aO aR aA aH ah imT imdP indP imdS imdB imdO imdR imdA indA imP inP imS imB imO imR imA inA imH ihs)) (As := [.int x2, .int (0 : Int32), .int (100 : Int32)]) (rest := []) hC (c_X8_isWithin l D cy x2 (0 : Int32) (100 : Int32) r_5 hc_6) (cwS 3 hts gX8_setStrength_X8_isWithin rfl rfl rfl cd_X8_isWithin ⟨Nat.le_of_ble_eq_true rfl, Nat.le_of_ble_eq_true rfl⟩) hK hN hP hD hS hA rfl rfl hl.1 rfl (lv_room (Nat.le_of_ble_eq_true rfl)) dX8_setStrength_18 ⟨Nat.le_of_ble_eq_true rfl, Nat.le_of_ble_eq_true rfl⟩) hP hD hS hA rfl rfl rfl (fun H locs hP hD hS => ?_)
    obtain ⟨k_8, hc_7, hE⟩ := bd1_el hE
    refine kxv (X := []) (Y := (W_All cy aI aT adP adS adB adO adR adA aP aS aB aO aR aA aH ah imT imdP indP imdS imdB imdO imdR imdA indA imP inP imS imB imO imR imA inA imH ihs)) (ws1 := (W_All cy aI aT adP adS adB adO adR adA aP aS aB aO aR aA aH ah imT imdP indP imdS imdB imdO imdR imdA indA imP inP imS imB imO imR imA inA imH ihs)) (xS (X := []) (Y := (W_All cy aI aT adP adS adB adO adR adA aP aS aB aO aR aA aH ah imT imdP indP imdS imdB imdO imdR imdA indA imP inP imS imB imO imR imA inA imH ihs)) (As := [.int r_5]) (rest := []) hC (c_X8_needArgument l hst D cy r_5 k_8 hc_7) (cwS 1 hts gX8_setStrength_X8_needArgument rfl rfl rfl cd_X8_needArgument ⟨Nat.le_of_ble_eq_true rfl, Nat.le_of_ble_eq_true rfl⟩) hK hN hP hD hS hA rfl rfl hl.1 rfl (lv_room (Nat.le_of_ble_eq_true rfl)) dX8_setStrength_21 ⟨Nat.le_of_ble_eq_true rfl, Nat.le_of_ble_eq_true rfl⟩) hP hD hS hA rfl rfl rfl (fun hk0 H locs ce q9 hP hD hS hce hcv hcl => ?_) (fun hk0 H locs hP hD hS => ?_)
    · replace hE := it_f hE hk0
      have hE := Option.some.inj hE
      obtain ⟨q0, hE⟩ := Prod.mk.inj hE
      obtain ⟨q1, hE⟩ := Prod.mk.inj hE
      obtain ⟨q2, hE⟩ := Prod.mk.inj hE
      obtain ⟨q3, q4⟩ := Prod.mk.inj hE
      exact exx htab hlocks hK hP hD hS hce hcv hcl hk0 q0 (by rw [q2, q3, q4]) (Nat.le_of_ble_eq_true rfl) (Nat.le_of_ble_eq_true rfl)
    · replace hE := it_t hE hk0
      refine lv_aload_n hx hb dX8_setStrength_24 rfl (lv_at hl 0 rfl) ?_
      refine va_get (D := D) (ci := 8) (v := .ref (aH 0)) (C := RX8) (T := TX8) (N := 4) hx hb hts iX8 hown hK hP 0 rfl rfl 2 (by decide) f22 (fun _ h9 => h9) rfl dX8_setStrength_25 ?_
      refine lv_aload_n hx hb dX8_setStrength_28 rfl (lv_at hl 0 rfl) ?_
      refine va_get (D := D) (ci := 8) (v := .ref (aP 0)) (C := RX8) (T := TX8) (N := 4) hx hb hts iX8 hown hK hP 0 rfl rfl 0 (by decide) f10 (fun _ h9 => h9) rfl dX8_setStrength_29 ?_
      obtain ⟨mH_9, hs_10, hc_11, hE⟩ := bd2_el hE
      refine kv (X := ((W_I aI aP adP aH aT) ++ ((W_T cy aT imT) ++ ((W_P cy adP adS adB adO adR adA imdP indP) ++ ((W_S cy adS imdS) ++ ((W_B cy adB imdB) ++ ((W_O cy adO imdO) ++ ((W_R cy adR imdR) ++ (W_A cy adA imdA indA))))))))) (Y := []) (ws1 := (W_All cy aI aT adP adS adB adO adR adA aP aS aB aO aR aA aH ah imT imdP indP imdS imdB imdO imdR imdA indA imP inP imS imB imO imR imA inA mH_9 hs_10)) (rV (X := ((W_I aI aP adP aH aT) ++ ((W_T cy aT imT) ++ ((W_P cy adP adS adB adO adR adA imdP indP) ++ ((W_S cy adS imdS) ++ ((W_B cy adB imdB) ++ ((W_O cy adO imdO) ++ ((W_R cy adR imdR) ++ (W_A cy adA imdA indA))))))))) (Y := []) (As := [.ref (aP 0)]) (rest := []) hC (c_X2_save l D cy aP aS aB aO aR aA aH ah imP inP imS imB imO imR imA inA imH ihs mH_9 hs_10 hc_11) (cwV 1 hts gX8_setStrength_X2_save rfl rfl rfl cd_X2_save ⟨Nat.le_of_ble_eq_true rfl, Nat.le_of_ble_eq_true rfl⟩) hK hN hP hD hS hA rfl 36 2 rfl rfl rfl hl.1 rfl (lv_room (Nat.le_of_ble_eq_true rfl)) dX8_setStrength_32 ⟨Nat.le_of_ble_eq_true rfl, Nat.le_of_ble_eq_true rfl⟩) hP hD hS hA rfl rfl rfl (fun H locs hP hD hS => ?_)
      refine lv_aload_n hx hb dX8_setStrength_35 rfl (lv_at hl 0 rfl) ?_
      refine va_get (D := D) (ci := 8) (v := .ref (aP 0)) (C := RX8) (T := TX8) (N := 4) hx hb hts iX8 hown hK hP 0 rfl rfl 0 (by decide) f10 (fun _ h9 => h9) rfl dX8_setStrength_36 ?_
      refine va_get (D := D) (ci := 4) (v := .ref (aS 0)) (C := RX4) (T := TX4) (N := 13) hx hb hts iX4 hown hK hP 40 rfl rfl 2 (by decide) f43 (fun _ h9 => h9) rfl dX8_setStrength_39 ?_
      refine va_get (D := D) (ci := 6) (v := .ref (aS 5)) (C := RX6) (T := TX6) (N := 10) hx hb hts iX6 hown hK hP 43 rfl rfl 4 (by decide) f77 (fun _ h9 => h9) rfl dX8_setStrength_42 ?_
      refine lv_iload_n hx hb dX8_setStrength_45 rfl (lv_at hl 1 rfl) ?_
      refine lv_iload_n hx hb dX8_setStrength_46 rfl (lv_at hl 2 rfl) ?_
      obtain ⟨r_12, g_13, hc_15, hE⟩ := bd2_el hE
      obtain ⟨mS_14, e_mS_14, hE⟩ := lt_el hE
      refine ki (X := (List.take 46 (W_All cy aI aT adP adS adB adO adR adA aP aS aB aO aR aA aH ah imT imdP indP imdS imdB imdO imdR imdA indA imP inP imS imB imO imR imA inA mH_9 hs_10))) (Y := (List.drop 47 (W_All cy aI aT adP adS adB adO adR adA aP aS aB aO aR aA aH ah imT imdP indP imdS imdB imdO imdR imdA indA imP inP imS imB imO imR imA inA mH_9 hs_10))) (ws1 := (W_All cy aI aT adP adS adB adO adR adA aP aS aB aO aR aA aH ah imT imdP indP imdS imdB imdO imdR imdA indA imP inP mS_14 imB imO imR imA inA mH_9 hs_10)) (rS (X := (List.take 46 (W_All cy aI aT adP adS adB adO adR adA aP aS aB aO aR aA aH ah imT imdP indP imdS imdB imdO imdR imdA indA imP inP imS imB imO imR imA inA mH_9 hs_10))) (Y := (List.drop 47 (W_All cy aI aT adP adS adB adO adR adA aP aS aB aO aR aA aH ah imT imdP indP imdS imdB imdO imdR imdA indA imP inP imS imB imO imR imA inA mH_9 hs_10))) (As := [.ref (aS 5), .int x1, .int x2]) (rest := []) hC (c_X8_replace l D cy (aS 5) x1 x2 (5) (imS 4) r_12 g_13 hc_15) (cwS 3 hts gX8_setStrength_X8_replace rfl rfl rfl cd_X8_replace ⟨Nat.le_of_ble_eq_true rfl, Nat.le_of_ble_eq_true rfl⟩) hK hN hP hD hS hA rfl rfl hl.1 rfl (lv_room (Nat.le_of_ble_eq_true rfl)) dX8_setStrength_47 ⟨Nat.le_of_ble_eq_true rfl, Nat.le_of_ble_eq_true rfl⟩) hP hD hS hA rfl rfl (by rw [e_mS_14]; rfl) (fun H locs hP hD hS => ?_)
      have hE := Option.some.inj hE
      obtain ⟨q0, hE⟩ := Prod.mk.inj hE
      obtain ⟨q1, hE⟩ := Prod.mk.inj hE
      obtain ⟨q2, hE⟩ := Prod.mk.inj hE
      obtain ⟨q3, q4⟩ := Prod.mk.inj hE
      exact exi hx hb hr hlocks hK hP hD hS q0 q1 (by rw [q2, q3, q4]) (Nat.le_of_ble_eq_true rfl) (Nat.le_of_ble_eq_true rfl) dX8_setStrength_50
abbrev rm_X8_setTemperature : Room := { frames := 8, cells := 2, slots := 12, locals := 122 }
set_option maxHeartbeats 40000000 in
set_option maxRecDepth 100000 in
theorem c_X8_setTemperature (l : Launch) (hst : l.stackTraces = false) (D : va_G) (cy : Nat → Nat) (aI aT adP adS adB adO adR adA aP aS aB aO aR aA aH : Nat → Nat) (ah : Nat → Nat → Nat → Nat) (x1 : Int32) (x2 : Int32) (imT : Mem) (imdP : Mem) (indP : MemL) (imdS : Mem) (imdB : Mem) (imdO : Mem) (imdR : Mem) (imdA : Mem) (indA : MemL) (imP : Mem) (inP : MemL) (imS : Mem) (imB : Mem) (imO : Mem) (imR : Mem) (imA : Mem) (inA : MemL) (imH : Mem) (ihs : (Nat → PSt)) (k' : Nat) (r' : Int32) (mP' : Mem) (mH' : Mem) (hs' : (Nat → PSt)) (hE : f_X8_setTemperature x1 x2 imT imdP indP imdS imdB imdO imdR imdA indA imP inP imS imB imO imR imA inA imH ihs = some (k', r', mP', mH', hs')) : CXI l yX8_setTemperature wsX8_setTemperature rm_X8_setTemperature D cy [.ref (aI 0), .int x1, .int x2] (W_All cy aI aT adP adS adB adO adR adA aP aS aB aO aR aA aH ah imT imdP indP imdS imdB imdO imdR imdA indA imP inP imS imB imO imR imA inA imH ihs) 2 12 k' r' (W_All cy aI aT adP adS adB adO adR adA aP aS aB aO aR aA aH ah imT imdP indP imdS imdB imdO imdR imdA indA mP' inP imS imB imO imR imA inA mH' hs') := by
  refine CX_of (cc := cX8_setTemperature) (maxL := 3) (ret := (some .int)) (by decide) rfl (Nat.le_of_ble_eq_true rfl) (fun p e s m args below meth c A ls hx hb hr hml hlocks hnm hown hts hA htab hK hN hP hD hS hl => ?_)
  have hown : s.vm.findClass RX8 = some m.cls := hown
  have hl : lv_has ls 3 [(0, .ref (aI 0)), (1, .int x1), (2, .int x2)] := hl
  have hC : CallFix p m c cX8_setTemperature 3 s args wsX8_setTemperature RX8 := ⟨hx, hb, hml, hown, hts⟩
  have f10 : (Cond.fieldLink RX8 10 "IcePlant" "now" "LIcePlant$Plant;").before args s = true := hts _ (mC qf_X8_10)
  have f22 : (Cond.fieldLink RX8 22 "IcePlant" "history" "LIcePlant$History;").before args s = true := hts _ (mC qf_X8_22)
  have f80 : (Cond.fieldLink RX8 80 "IcePlant$Plant" "temperatures" "[I").before args s = true := hts _ (mC qf_X8_80)
  have iX4 : ∀ w ∈ wsX40, w ∈ wsX8_setTemperature := fun w h => mC (iA_X4 w h)
  have iX8 : ∀ w ∈ wsX80, w ∈ wsX8_setTemperature := fun w h => mC (iA_X8 w h)
  unfold f_X8_setTemperature at hE
  refine lv_iload_n hx hb dX8_setTemperature_0 rfl (lv_at hl 1 rfl) ?_
  refine lv_iconst (v := 0) hx hb dX8_setTemperature_1 (by decide) ?_
  refine lv_bipush (v := 23) hx hb dX8_setTemperature_2 (by decide) ?_
  obtain ⟨r_1, hc_2, hE⟩ := bd1_el hE
  refine ki (X := []) (Y := (W_All cy aI aT adP adS adB adO adR adA aP aS aB aO aR aA aH ah imT imdP indP imdS imdB imdO imdR imdA indA imP inP imS imB imO imR imA inA imH ihs)) (ws1 := (W_All cy aI aT adP adS adB adO adR adA aP aS aB aO aR aA aH ah imT imdP indP imdS imdB imdO imdR imdA indA imP inP imS imB imO imR imA inA imH ihs)) (rS (X := []) (Y := (W_All cy aI aT adP adS adB adO adR adA aP aS aB aO aR aA aH ah imT imdP indP imdS imdB imdO imdR imdA indA imP inP imS imB imO imR imA inA imH ihs)) (As := [.int x1, .int (0 : Int32), .int (23 : Int32)]) (rest := []) hC (c_X8_isWithin l D cy x1 (0 : Int32) (23 : Int32) r_1 hc_2) (cwS 3 hts gX8_setTemperature_X8_isWithin rfl rfl rfl cd_X8_isWithin ⟨Nat.le_of_ble_eq_true rfl, Nat.le_of_ble_eq_true rfl⟩) hK hN hP hD hS hA rfl rfl hl.1 rfl (lv_room (Nat.le_of_ble_eq_true rfl)) dX8_setTemperature_4 ⟨Nat.le_of_ble_eq_true rfl, Nat.le_of_ble_eq_true rfl⟩) hP hD hS hA rfl rfl rfl (fun H locs hP hD hS => ?_)
  obtain ⟨k_4, hc_3, hE⟩ := bd1_el hE
  refine kxv (X := []) (Y := (W_All cy aI aT adP adS adB adO adR adA aP aS aB aO aR aA aH ah imT imdP indP imdS imdB imdO imdR imdA indA imP inP imS imB imO imR imA inA imH ihs)) (ws1 := (W_All cy aI aT adP adS adB adO adR adA aP aS aB aO aR aA aH ah imT imdP indP imdS imdB imdO imdR imdA indA imP inP imS imB imO imR imA inA imH ihs)) (xS (X := []) (Y := (W_All cy aI aT adP adS adB adO adR adA aP aS aB aO aR aA aH ah imT imdP indP imdS imdB imdO imdR imdA indA imP inP imS imB imO imR imA inA imH ihs)) (As := [.int r_1]) (rest := []) hC (c_X8_needItem l hst D cy r_1 k_4 hc_3) (cwS 1 hts gX8_setTemperature_X8_needItem rfl rfl rfl cd_X8_needItem ⟨Nat.le_of_ble_eq_true rfl, Nat.le_of_ble_eq_true rfl⟩) hK hN hP hD hS hA rfl rfl hl.1 rfl (lv_room (Nat.le_of_ble_eq_true rfl)) dX8_setTemperature_7 ⟨Nat.le_of_ble_eq_true rfl, Nat.le_of_ble_eq_true rfl⟩) hP hD hS hA rfl rfl rfl (fun hk0 H locs ce q9 hP hD hS hce hcv hcl => ?_) (fun hk0 H locs hP hD hS => ?_)
  · replace hE := it_f hE hk0
    have hE := Option.some.inj hE
    obtain ⟨q0, hE⟩ := Prod.mk.inj hE
    obtain ⟨q1, hE⟩ := Prod.mk.inj hE
    obtain ⟨q2, hE⟩ := Prod.mk.inj hE
    obtain ⟨q3, q4⟩ := Prod.mk.inj hE
    exact exx htab hlocks hK hP hD hS hce hcv hcl hk0 q0 (by rw [q2, q3, q4]) (Nat.le_of_ble_eq_true rfl) (Nat.le_of_ble_eq_true rfl)
  · replace hE := it_t hE hk0
    refine lv_iload_n hx hb dX8_setTemperature_10 rfl (lv_at hl 2 rfl) ?_
    refine lv_bipush (v := (-20)) hx hb dX8_setTemperature_11 (by decide) ?_
    refine lv_bipush (v := 45) hx hb dX8_setTemperature_13 (by decide) ?_
    obtain ⟨r_5, hc_6, hE⟩ := bd1_el hE
    refine ki (X := []) (Y := (W_All cy aI aT adP adS adB adO adR adA aP aS aB aO aR aA aH ah imT imdP indP imdS imdB imdO imdR imdA indA imP inP imS imB imO imR imA inA imH ihs)) (ws1 := (W_All cy aI aT adP adS adB adO adR adA aP aS aB aO aR aA aH ah imT imdP indP imdS imdB imdO imdR imdA indA imP inP imS imB imO imR imA inA imH ihs)) (rS (X := []) (Y := (W_All cy aI aT adP adS adB adO adR adA aP aS aB aO aR aA aH ah imT imdP indP imdS imdB imdO imdR imdA indA imP inP imS imB imO imR imA inA imH ihs)) (As := [.int x2, .int (-20 : Int32), .int (45 : Int32)]) (rest := []) hC (c_X8_isWithin l D cy x2 (-20 : Int32) (45 : Int32) r_5 hc_6) (cwS 3 hts gX8_setTemperature_X8_isWithin rfl rfl rfl cd_X8_isWithin ⟨Nat.le_of_ble_eq_true rfl, Nat.le_of_ble_eq_true rfl⟩) hK hN hP hD hS hA rfl rfl hl.1 rfl (lv_room (Nat.le_of_ble_eq_true rfl)) dX8_setTemperature_15 ⟨Nat.le_of_ble_eq_true rfl, Nat.le_of_ble_eq_true rfl⟩) hP hD hS hA rfl rfl rfl (fun H locs hP hD hS => ?_)
    obtain ⟨k_8, hc_7, hE⟩ := bd1_el hE
    refine kxv (X := []) (Y := (W_All cy aI aT adP adS adB adO adR adA aP aS aB aO aR aA aH ah imT imdP indP imdS imdB imdO imdR imdA indA imP inP imS imB imO imR imA inA imH ihs)) (ws1 := (W_All cy aI aT adP adS adB adO adR adA aP aS aB aO aR aA aH ah imT imdP indP imdS imdB imdO imdR imdA indA imP inP imS imB imO imR imA inA imH ihs)) (xS (X := []) (Y := (W_All cy aI aT adP adS adB adO adR adA aP aS aB aO aR aA aH ah imT imdP indP imdS imdB imdO imdR imdA indA imP inP imS imB imO imR imA inA imH ihs)) (As := [.int r_5]) (rest := []) hC (c_X8_needArgument l hst D cy r_5 k_8 hc_7) (cwS 1 hts gX8_setTemperature_X8_needArgument rfl rfl rfl cd_X8_needArgument ⟨Nat.le_of_ble_eq_true rfl, Nat.le_of_ble_eq_true rfl⟩) hK hN hP hD hS hA rfl rfl hl.1 rfl (lv_room (Nat.le_of_ble_eq_true rfl)) dX8_setTemperature_18 ⟨Nat.le_of_ble_eq_true rfl, Nat.le_of_ble_eq_true rfl⟩) hP hD hS hA rfl rfl rfl (fun hk0 H locs ce q9 hP hD hS hce hcv hcl => ?_) (fun hk0 H locs hP hD hS => ?_)
    · replace hE := it_f hE hk0
      have hE := Option.some.inj hE
      obtain ⟨q0, hE⟩ := Prod.mk.inj hE
      obtain ⟨q1, hE⟩ := Prod.mk.inj hE
      obtain ⟨q2, hE⟩ := Prod.mk.inj hE
      obtain ⟨q3, q4⟩ := Prod.mk.inj hE
      exact exx htab hlocks hK hP hD hS hce hcv hcl hk0 q0 (by rw [q2, q3, q4]) (Nat.le_of_ble_eq_true rfl) (Nat.le_of_ble_eq_true rfl)
    · replace hE := it_t hE hk0
      refine lv_aload_n hx hb dX8_setTemperature_21 rfl (lv_at hl 0 rfl) ?_
      refine va_get (D := D) (ci := 8) (v := .ref (aH 0)) (C := RX8) (T := TX8) (N := 4) hx hb hts iX8 hown hK hP 0 rfl rfl 2 (by decide) f22 (fun _ h9 => h9) rfl dX8_setTemperature_22 ?_
      refine lv_aload_n hx hb dX8_setTemperature_25 rfl (lv_at hl 0 rfl) ?_
      refine va_get (D := D) (ci := 8) (v := .ref (aP 0)) (C := RX8) (T := TX8) (N := 4) hx hb hts iX8 hown hK hP 0 rfl rfl 0 (by decide) f10 (fun _ h9 => h9) rfl dX8_setTemperature_26 ?_
      obtain ⟨mH_9, hs_10, hc_11, hE⟩ := bd2_el hE
      refine kv (X := ((W_I aI aP adP aH aT) ++ ((W_T cy aT imT) ++ ((W_P cy adP adS adB adO adR adA imdP indP) ++ ((W_S cy adS imdS) ++ ((W_B cy adB imdB) ++ ((W_O cy adO imdO) ++ ((W_R cy adR imdR) ++ (W_A cy adA imdA indA))))))))) (Y := []) (ws1 := (W_All cy aI aT adP adS adB adO adR adA aP aS aB aO aR aA aH ah imT imdP indP imdS imdB imdO imdR imdA indA imP inP imS imB imO imR imA inA mH_9 hs_10)) (rV (X := ((W_I aI aP adP aH aT) ++ ((W_T cy aT imT) ++ ((W_P cy adP adS adB adO adR adA imdP indP) ++ ((W_S cy adS imdS) ++ ((W_B cy adB imdB) ++ ((W_O cy adO imdO) ++ ((W_R cy adR imdR) ++ (W_A cy adA imdA indA))))))))) (Y := []) (As := [.ref (aP 0)]) (rest := []) hC (c_X2_save l D cy aP aS aB aO aR aA aH ah imP inP imS imB imO imR imA inA imH ihs mH_9 hs_10 hc_11) (cwV 1 hts gX8_setTemperature_X2_save rfl rfl rfl cd_X2_save ⟨Nat.le_of_ble_eq_true rfl, Nat.le_of_ble_eq_true rfl⟩) hK hN hP hD hS hA rfl 36 2 rfl rfl rfl hl.1 rfl (lv_room (Nat.le_of_ble_eq_true rfl)) dX8_setTemperature_29 ⟨Nat.le_of_ble_eq_true rfl, Nat.le_of_ble_eq_true rfl⟩) hP hD hS hA rfl rfl rfl (fun H locs hP hD hS => ?_)
      refine lv_aload_n hx hb dX8_setTemperature_32 rfl (lv_at hl 0 rfl) ?_
      refine va_get (D := D) (ci := 8) (v := .ref (aP 0)) (C := RX8) (T := TX8) (N := 4) hx hb hts iX8 hown hK hP 0 rfl rfl 0 (by decide) f10 (fun _ h9 => h9) rfl dX8_setTemperature_33 ?_
      refine va_get (D := D) (ci := 4) (v := .ref (aP 2)) (C := RX4) (T := TX4) (N := 13) hx hb hts iX4 hown hK hP 40 rfl rfl 1 (by decide) f80 (fun _ h9 => h9) rfl dX8_setTemperature_36 ?_
      refine lv_iload_n hx hb dX8_setTemperature_39 rfl (lv_at hl 1 rfl) ?_
      refine lv_iload_n hx hb dX8_setTemperature_40 rfl (lv_at hl 2 rfl) ?_
      obtain ⟨r_12, g_13, hc_15, hE⟩ := bd2_el hE
      obtain ⟨mP_14, e_mP_14, hE⟩ := lt_el hE
      refine ki (X := (List.take 42 (W_All cy aI aT adP adS adB adO adR adA aP aS aB aO aR aA aH ah imT imdP indP imdS imdB imdO imdR imdA indA imP inP imS imB imO imR imA inA mH_9 hs_10))) (Y := (List.drop 43 (W_All cy aI aT adP adS adB adO adR adA aP aS aB aO aR aA aH ah imT imdP indP imdS imdB imdO imdR imdA indA imP inP imS imB imO imR imA inA mH_9 hs_10))) (ws1 := (W_All cy aI aT adP adS adB adO adR adA aP aS aB aO aR aA aH ah imT imdP indP imdS imdB imdO imdR imdA indA mP_14 inP imS imB imO imR imA inA mH_9 hs_10)) (rS (X := (List.take 42 (W_All cy aI aT adP adS adB adO adR adA aP aS aB aO aR aA aH ah imT imdP indP imdS imdB imdO imdR imdA indA imP inP imS imB imO imR imA inA mH_9 hs_10))) (Y := (List.drop 43 (W_All cy aI aT adP adS adB adO adR adA aP aS aB aO aR aA aH ah imT imdP indP imdS imdB imdO imdR imdA indA imP inP imS imB imO imR imA inA mH_9 hs_10))) (As := [.ref (aP 2), .int x1, .int x2]) (rest := []) hC (c_X8_replace l D cy (aP 2) x1 x2 (24) (imP 1) r_12 g_13 hc_15) (cwS 3 hts gX8_setTemperature_X8_replace rfl rfl rfl cd_X8_replace ⟨Nat.le_of_ble_eq_true rfl, Nat.le_of_ble_eq_true rfl⟩) hK hN hP hD hS hA rfl rfl hl.1 rfl (lv_room (Nat.le_of_ble_eq_true rfl)) dX8_setTemperature_41 ⟨Nat.le_of_ble_eq_true rfl, Nat.le_of_ble_eq_true rfl⟩) hP hD hS hA rfl rfl (by rw [e_mP_14]; rfl) (fun H locs hP hD hS => ?_)
      have hE := Option.some.inj hE
      obtain ⟨q0, hE⟩ := Prod.mk.inj hE
      obtain ⟨q1, hE⟩ := Prod.mk.inj hE
      obtain ⟨q2, hE⟩ := Prod.mk.inj hE
      obtain ⟨q3, q4⟩ := Prod.mk.inj hE
      exact exi hx hb hr hlocks hK hP hD hS q0 q1 (by rw [q2, q3, q4]) (Nat.le_of_ble_eq_true rfl) (Nat.le_of_ble_eq_true rfl) dX8_setTemperature_44
abbrev rm_X8_set : Room := { frames := 8, cells := 2, slots := 12, locals := 122 }
set_option maxHeartbeats 40000000 in
set_option maxRecDepth 100000 in
theorem c_X8_set (l : Launch) (hst : l.stackTraces = false) (D : va_G) (cy : Nat → Nat) (aI aT adP adS adB adO adR adA aP aS aB aO aR aA aH : Nat → Nat) (ah : Nat → Nat → Nat → Nat) (x1 : Int32) (x2 : Int32) (imT : Mem) (imdP : Mem) (indP : MemL) (imdS : Mem) (imdB : Mem) (imdO : Mem) (imdR : Mem) (imdA : Mem) (indA : MemL) (imP : Mem) (inP : MemL) (imS : Mem) (imB : Mem) (imO : Mem) (imR : Mem) (imA : Mem) (inA : MemL) (imH : Mem) (ihs : (Nat → PSt)) (k' : Nat) (r' : Int32) (mP' : Mem) (mH' : Mem) (hs' : (Nat → PSt)) (hE : f_X8_set x1 x2 imT imdP indP imdS imdB imdO imdR imdA indA imP inP imS imB imO imR imA inA imH ihs = some (k', r', mP', mH', hs')) : CXI l yX8_set wsX8_set rm_X8_set D cy [.ref (aI 0), .int x1, .int x2] (W_All cy aI aT adP adS adB adO adR adA aP aS aB aO aR aA aH ah imT imdP indP imdS imdB imdO imdR imdA indA imP inP imS imB imO imR imA inA imH ihs) 2 12 k' r' (W_All cy aI aT adP adS adB adO adR adA aP aS aB aO aR aA aH ah imT imdP indP imdS imdB imdO imdR imdA indA mP' inP imS imB imO imR imA inA mH' hs') := by
  refine CX_of (cc := cX8_set) (maxL := 3) (ret := (some .int)) (by decide) rfl (Nat.le_of_ble_eq_true rfl) (fun p e s m args below meth c A ls hx hb hr hml hlocks hnm hown hts hA htab hK hN hP hD hS hl => ?_)
  have hown : s.vm.findClass RX8 = some m.cls := hown
  have hl : lv_has ls 3 [(0, .ref (aI 0)), (1, .int x1), (2, .int x2)] := hl
  have hC : CallFix p m c cX8_set 3 s args wsX8_set RX8 := ⟨hx, hb, hml, hown, hts⟩
  have f10 : (Cond.fieldLink RX8 10 "IcePlant" "now" "LIcePlant$Plant;").before args s = true := hts _ (mC qf_X8_10)
  have f22 : (Cond.fieldLink RX8 22 "IcePlant" "history" "LIcePlant$History;").before args s = true := hts _ (mC qf_X8_22)
  have f83 : (Cond.fieldLink RX8 83 "IcePlant" "LOWEST_SETTINGS" "[I").before args s = true := hts _ (mC qf_X8_83)
  have f90 : (Cond.fieldLink RX8 90 "IcePlant" "HIGHEST_SETTINGS" "[I").before args s = true := hts _ (mC qf_X8_90)
  have f93 : (Cond.fieldLink RX8 93 "IcePlant$Plant" "settings" "[I").before args s = true := hts _ (mC qf_X8_93)
  have iX4 : ∀ w ∈ wsX40, w ∈ wsX8_set := fun w h => mC (iA_X4 w h)
  have iX8 : ∀ w ∈ wsX80, w ∈ wsX8_set := fun w h => mC (iA_X8 w h)
  unfold f_X8_set at hE
  refine lv_iload_n hx hb dX8_set_0 rfl (lv_at hl 1 rfl) ?_
  refine lv_iconst (v := 0) hx hb dX8_set_1 (by decide) ?_
  refine lv_bipush (v := 7) hx hb dX8_set_2 (by decide) ?_
  obtain ⟨r_1, hc_2, hE⟩ := bd1_el hE
  refine ki (X := []) (Y := (W_All cy aI aT adP adS adB adO adR adA aP aS aB aO aR aA aH ah imT imdP indP imdS imdB imdO imdR imdA indA imP inP imS imB imO imR imA inA imH ihs)) (ws1 := (W_All cy aI aT adP adS adB adO adR adA aP aS aB aO aR aA aH ah imT imdP indP imdS imdB imdO imdR imdA indA imP inP imS imB imO imR imA inA imH ihs)) (rS (X := []) (Y := (W_All cy aI aT adP adS adB adO adR adA aP aS aB aO aR aA aH ah imT imdP indP imdS imdB imdO imdR imdA indA imP inP imS imB imO imR imA inA imH ihs)) (As := [.int x1, .int (0 : Int32), .int (7 : Int32)]) (rest := []) hC (c_X8_isWithin l D cy x1 (0 : Int32) (7 : Int32) r_1 hc_2) (cwS 3 hts gX8_set_X8_isWithin rfl rfl rfl cd_X8_isWithin ⟨Nat.le_of_ble_eq_true rfl, Nat.le_of_ble_eq_true rfl⟩) hK hN hP hD hS hA rfl rfl hl.1 rfl (lv_room (Nat.le_of_ble_eq_true rfl)) dX8_set_4 ⟨Nat.le_of_ble_eq_true rfl, Nat.le_of_ble_eq_true rfl⟩) hP hD hS hA rfl rfl rfl (fun H locs hP hD hS => ?_)
  obtain ⟨k_4, hc_3, hE⟩ := bd1_el hE
  refine kxv (X := []) (Y := (W_All cy aI aT adP adS adB adO adR adA aP aS aB aO aR aA aH ah imT imdP indP imdS imdB imdO imdR imdA indA imP inP imS imB imO imR imA inA imH ihs)) (ws1 := (W_All cy aI aT adP adS adB adO adR adA aP aS aB aO aR aA aH ah imT imdP indP imdS imdB imdO imdR imdA indA imP inP imS imB imO imR imA inA imH ihs)) (xS (X := []) (Y := (W_All cy aI aT adP adS adB adO adR adA aP aS aB aO aR aA aH ah imT imdP indP imdS imdB imdO imdR imdA indA imP inP imS imB imO imR imA inA imH ihs)) (As := [.int r_1]) (rest := []) hC (c_X8_needItem l hst D cy r_1 k_4 hc_3) (cwS 1 hts gX8_set_X8_needItem rfl rfl rfl cd_X8_needItem ⟨Nat.le_of_ble_eq_true rfl, Nat.le_of_ble_eq_true rfl⟩) hK hN hP hD hS hA rfl rfl hl.1 rfl (lv_room (Nat.le_of_ble_eq_true rfl)) dX8_set_7 ⟨Nat.le_of_ble_eq_true rfl, Nat.le_of_ble_eq_true rfl⟩) hP hD hS hA rfl rfl rfl (fun hk0 H locs ce q9 hP hD hS hce hcv hcl => ?_) (fun hk0 H locs hP hD hS => ?_)
  · replace hE := it_f hE hk0
    have hE := Option.some.inj hE
    obtain ⟨q0, hE⟩ := Prod.mk.inj hE
    obtain ⟨q1, hE⟩ := Prod.mk.inj hE
    obtain ⟨q2, hE⟩ := Prod.mk.inj hE
    obtain ⟨q3, q4⟩ := Prod.mk.inj hE
    exact exx htab hlocks hK hP hD hS hce hcv hcl hk0 q0 (by rw [q2, q3, q4]) (Nat.le_of_ble_eq_true rfl) (Nat.le_of_ble_eq_true rfl)
  · replace hE := it_t hE hk0
    refine lv_iload_n hx hb dX8_set_10 rfl (lv_at hl 2 rfl) ?_
    refine va_gets (C := RX8) hx hb (hN.2.2.1 1 (by decide)).1 hS hown f83 (fun _ h9 => h9) dX8_set_11 ?_
    refine lv_iload_n hx hb dX8_set_14 rfl (lv_at hl 1 rfl) ?_
    obtain ⟨r_5, hc_6, hE⟩ := bd1_el hE
    refine ki (X := []) (Y := (W_All cy aI aT adP adS adB adO adR adA aP aS aB aO aR aA aH ah imT imdP indP imdS imdB imdO imdR imdA indA imP inP imS imB imO imR imA inA imH ihs)) (ws1 := (W_All cy aI aT adP adS adB adO adR adA aP aS aB aO aR aA aH ah imT imdP indP imdS imdB imdO imdR imdA indA imP inP imS imB imO imR imA inA imH ihs)) (rS (X := []) (Y := (W_All cy aI aT adP adS adB adO adR adA aP aS aB aO aR aA aH ah imT imdP indP imdS imdB imdO imdR imdA indA imP inP imS imB imO imR imA inA imH ihs)) (As := [.ref (cy 11), .int x1]) (rest := [.int x2]) hC (c_X8_valueAt_st l D cy 1 (by decide) x1 r_5 hc_6) (cwS 2 hts gX8_set_X8_valueAt rfl rfl rfl cd_X8_valueAt ⟨Nat.le_of_ble_eq_true rfl, Nat.le_of_ble_eq_true rfl⟩) hK hN hP hD hS hA rfl rfl hl.1 rfl (lv_room (Nat.le_of_ble_eq_true rfl)) dX8_set_15 ⟨Nat.le_of_ble_eq_true rfl, Nat.le_of_ble_eq_true rfl⟩) hP hD hS hA rfl rfl rfl (fun H locs hP hD hS => ?_)
    refine va_gets (C := RX8) hx hb (hN.2.2.1 2 (by decide)).1 hS hown f90 (fun _ h9 => h9) dX8_set_18 ?_
    refine lv_iload_n hx hb dX8_set_21 rfl (lv_at hl 1 rfl) ?_
    obtain ⟨r_7, hc_8, hE⟩ := bd1_el hE
    refine ki (X := []) (Y := (W_All cy aI aT adP adS adB adO adR adA aP aS aB aO aR aA aH ah imT imdP indP imdS imdB imdO imdR imdA indA imP inP imS imB imO imR imA inA imH ihs)) (ws1 := (W_All cy aI aT adP adS adB adO adR adA aP aS aB aO aR aA aH ah imT imdP indP imdS imdB imdO imdR imdA indA imP inP imS imB imO imR imA inA imH ihs)) (rS (X := []) (Y := (W_All cy aI aT adP adS adB adO adR adA aP aS aB aO aR aA aH ah imT imdP indP imdS imdB imdO imdR imdA indA imP inP imS imB imO imR imA inA imH ihs)) (As := [.ref (cy 12), .int x1]) (rest := [.int r_5, .int x2]) hC (c_X8_valueAt_st l D cy 2 (by decide) x1 r_7 hc_8) (cwS 2 hts gX8_set_X8_valueAt rfl rfl rfl cd_X8_valueAt ⟨Nat.le_of_ble_eq_true rfl, Nat.le_of_ble_eq_true rfl⟩) hK hN hP hD hS hA rfl rfl hl.1 rfl (lv_room (Nat.le_of_ble_eq_true rfl)) dX8_set_22 ⟨Nat.le_of_ble_eq_true rfl, Nat.le_of_ble_eq_true rfl⟩) hP hD hS hA rfl rfl rfl (fun H locs hP hD hS => ?_)
    obtain ⟨r_9, hc_10, hE⟩ := bd1_el hE
    refine ki (X := []) (Y := (W_All cy aI aT adP adS adB adO adR adA aP aS aB aO aR aA aH ah imT imdP indP imdS imdB imdO imdR imdA indA imP inP imS imB imO imR imA inA imH ihs)) (ws1 := (W_All cy aI aT adP adS adB adO adR adA aP aS aB aO aR aA aH ah imT imdP indP imdS imdB imdO imdR imdA indA imP inP imS imB imO imR imA inA imH ihs)) (rS (X := []) (Y := (W_All cy aI aT adP adS adB adO adR adA aP aS aB aO aR aA aH ah imT imdP indP imdS imdB imdO imdR imdA indA imP inP imS imB imO imR imA inA imH ihs)) (As := [.int x2, .int r_5, .int r_7]) (rest := []) hC (c_X8_isWithin l D cy x2 r_5 r_7 r_9 hc_10) (cwS 3 hts gX8_set_X8_isWithin rfl rfl rfl cd_X8_isWithin ⟨Nat.le_of_ble_eq_true rfl, Nat.le_of_ble_eq_true rfl⟩) hK hN hP hD hS hA rfl rfl hl.1 rfl (lv_room (Nat.le_of_ble_eq_true rfl)) dX8_set_25 ⟨Nat.le_of_ble_eq_true rfl, Nat.le_of_ble_eq_true rfl⟩) hP hD hS hA rfl rfl rfl (fun H locs hP hD hS => ?_)
    obtain ⟨k_12, hc_11, hE⟩ := bd1_el hE
    refine kxv (X := []) (Y := (W_All cy aI aT adP adS adB adO adR adA aP aS aB aO aR aA aH ah imT imdP indP imdS imdB imdO imdR imdA indA imP inP imS imB imO imR imA inA imH ihs)) (ws1 := (W_All cy aI aT adP adS adB adO adR adA aP aS aB aO aR aA aH ah imT imdP indP imdS imdB imdO imdR imdA indA imP inP imS imB imO imR imA inA imH ihs)) (xS (X := []) (Y := (W_All cy aI aT adP adS adB adO adR adA aP aS aB aO aR aA aH ah imT imdP indP imdS imdB imdO imdR imdA indA imP inP imS imB imO imR imA inA imH ihs)) (As := [.int r_9]) (rest := []) hC (c_X8_needArgument l hst D cy r_9 k_12 hc_11) (cwS 1 hts gX8_set_X8_needArgument rfl rfl rfl cd_X8_needArgument ⟨Nat.le_of_ble_eq_true rfl, Nat.le_of_ble_eq_true rfl⟩) hK hN hP hD hS hA rfl rfl hl.1 rfl (lv_room (Nat.le_of_ble_eq_true rfl)) dX8_set_28 ⟨Nat.le_of_ble_eq_true rfl, Nat.le_of_ble_eq_true rfl⟩) hP hD hS hA rfl rfl rfl (fun hk0 H locs ce q9 hP hD hS hce hcv hcl => ?_) (fun hk0 H locs hP hD hS => ?_)
    · replace hE := it_f hE hk0
      have hE := Option.some.inj hE
      obtain ⟨q0, hE⟩ := Prod.mk.inj hE
      obtain ⟨q1, hE⟩ := Prod.mk.inj hE
      obtain ⟨q2, hE⟩ := Prod.mk.inj hE
      obtain ⟨q3, q4⟩ := Prod.mk.inj hE
      exact exx htab hlocks hK hP hD hS hce hcv hcl hk0 q0 (by rw [q2, q3, q4]) (Nat.le_of_ble_eq_true rfl) (Nat.le_of_ble_eq_true rfl)
    · replace hE := it_t hE hk0
      refine lv_aload_n hx hb dX8_set_31 rfl (lv_at hl 0 rfl) ?_
      refine va_get (D := D) (ci := 8) (v := .ref (aH 0)) (C := RX8) (T := TX8) (N := 4) hx hb hts iX8 hown hK hP 0 rfl rfl 2 (by decide) f22 (fun _ h9 => h9) rfl dX8_set_32 ?_
      refine lv_aload_n hx hb dX8_set_35 rfl (lv_at hl 0 rfl) ?_
      refine va_get (D := D) (ci := 8) (v := .ref (aP 0)) (C := RX8) (T := TX8) (N := 4) hx hb hts iX8 hown hK hP 0 rfl rfl 0 (by decide) f10 (fun _ h9 => h9) rfl dX8_set_36 ?_
      obtain ⟨mH_13, hs_14, hc_15, hE⟩ := bd2_el hE
      refine kv (X := ((W_I aI aP adP aH aT) ++ ((W_T cy aT imT) ++ ((W_P cy adP adS adB adO adR adA imdP indP) ++ ((W_S cy adS imdS) ++ ((W_B cy adB imdB) ++ ((W_O cy adO imdO) ++ ((W_R cy adR imdR) ++ (W_A cy adA imdA indA))))))))) (Y := []) (ws1 := (W_All cy aI aT adP adS adB adO adR adA aP aS aB aO aR aA aH ah imT imdP indP imdS imdB imdO imdR imdA indA imP inP imS imB imO imR imA inA mH_13 hs_14)) (rV (X := ((W_I aI aP adP aH aT) ++ ((W_T cy aT imT) ++ ((W_P cy adP adS adB adO adR adA imdP indP) ++ ((W_S cy adS imdS) ++ ((W_B cy adB imdB) ++ ((W_O cy adO imdO) ++ ((W_R cy adR imdR) ++ (W_A cy adA imdA indA))))))))) (Y := []) (As := [.ref (aP 0)]) (rest := []) hC (c_X2_save l D cy aP aS aB aO aR aA aH ah imP inP imS imB imO imR imA inA imH ihs mH_13 hs_14 hc_15) (cwV 1 hts gX8_set_X2_save rfl rfl rfl cd_X2_save ⟨Nat.le_of_ble_eq_true rfl, Nat.le_of_ble_eq_true rfl⟩) hK hN hP hD hS hA rfl 36 2 rfl rfl rfl hl.1 rfl (lv_room (Nat.le_of_ble_eq_true rfl)) dX8_set_39 ⟨Nat.le_of_ble_eq_true rfl, Nat.le_of_ble_eq_true rfl⟩) hP hD hS hA rfl rfl rfl (fun H locs hP hD hS => ?_)
      refine lv_aload_n hx hb dX8_set_42 rfl (lv_at hl 0 rfl) ?_
      refine va_get (D := D) (ci := 8) (v := .ref (aP 0)) (C := RX8) (T := TX8) (N := 4) hx hb hts iX8 hown hK hP 0 rfl rfl 0 (by decide) f10 (fun _ h9 => h9) rfl dX8_set_43 ?_
      refine va_get (D := D) (ci := 4) (v := .ref (aP 1)) (C := RX4) (T := TX4) (N := 13) hx hb hts iX4 hown hK hP 40 rfl rfl 0 (by decide) f93 (fun _ h9 => h9) rfl dX8_set_46 ?_
      refine lv_iload_n hx hb dX8_set_49 rfl (lv_at hl 1 rfl) ?_
      refine lv_iload_n hx hb dX8_set_50 rfl (lv_at hl 2 rfl) ?_
      obtain ⟨r_16, g_17, hc_19, hE⟩ := bd2_el hE
      obtain ⟨mP_18, e_mP_18, hE⟩ := lt_el hE
      refine ki (X := (List.take 41 (W_All cy aI aT adP adS adB adO adR adA aP aS aB aO aR aA aH ah imT imdP indP imdS imdB imdO imdR imdA indA imP inP imS imB imO imR imA inA mH_13 hs_14))) (Y := (List.drop 42 (W_All cy aI aT adP adS adB adO adR adA aP aS aB aO aR aA aH ah imT imdP indP imdS imdB imdO imdR imdA indA imP inP imS imB imO imR imA inA mH_13 hs_14))) (ws1 := (W_All cy aI aT adP adS adB adO adR adA aP aS aB aO aR aA aH ah imT imdP indP imdS imdB imdO imdR imdA indA mP_18 inP imS imB imO imR imA inA mH_13 hs_14)) (rS (X := (List.take 41 (W_All cy aI aT adP adS adB adO adR adA aP aS aB aO aR aA aH ah imT imdP indP imdS imdB imdO imdR imdA indA imP inP imS imB imO imR imA inA mH_13 hs_14))) (Y := (List.drop 42 (W_All cy aI aT adP adS adB adO adR adA aP aS aB aO aR aA aH ah imT imdP indP imdS imdB imdO imdR imdA indA imP inP imS imB imO imR imA inA mH_13 hs_14))) (As := [.ref (aP 1), .int x1, .int x2]) (rest := []) hC (c_X8_replace l D cy (aP 1) x1 x2 (8) (imP 0) r_16 g_17 hc_19) (cwS 3 hts gX8_set_X8_replace rfl rfl rfl cd_X8_replace ⟨Nat.le_of_ble_eq_true rfl, Nat.le_of_ble_eq_true rfl⟩) hK hN hP hD hS hA rfl rfl hl.1 rfl (lv_room (Nat.le_of_ble_eq_true rfl)) dX8_set_51 ⟨Nat.le_of_ble_eq_true rfl, Nat.le_of_ble_eq_true rfl⟩) hP hD hS hA rfl rfl (by rw [e_mP_18]; rfl) (fun H locs hP hD hS => ?_)
      have hE := Option.some.inj hE
      obtain ⟨q0, hE⟩ := Prod.mk.inj hE
      obtain ⟨q1, hE⟩ := Prod.mk.inj hE
      obtain ⟨q2, hE⟩ := Prod.mk.inj hE
      obtain ⟨q3, q4⟩ := Prod.mk.inj hE
      exact exi hx hb hr hlocks hK hP hD hS q0 q1 (by rw [q2, q3, q4]) (Nat.le_of_ble_eq_true rfl) (Nat.le_of_ble_eq_true rfl) dX8_set_54
abbrev rm_X8_moveFault : Room := { frames := 2, cells := 0, slots := 0, locals := 42 }
set_option maxHeartbeats 40000000 in
set_option maxRecDepth 100000 in
theorem c_X8_moveFault (l : Launch) (D : va_G) (cy : Nat → Nat) (aI aT adP adS adB adO adR adA aP aS aB aO aR aA aH : Nat → Nat) (ah : Nat → Nat → Nat → Nat) (x1 : Int32) (x2 : Int32) (imT : Mem) (imdP : Mem) (indP : MemL) (imdS : Mem) (imdB : Mem) (imdO : Mem) (imdR : Mem) (imdA : Mem) (indA : MemL) (imP : Mem) (inP : MemL) (imS : Mem) (imB : Mem) (imO : Mem) (imR : Mem) (imA : Mem) (inA : MemL) (imH : Mem) (ihs : (Nat → PSt)) (r' : Int32) (hE : f_X8_moveFault x1 x2 imT imdP indP imdS imdB imdO imdR imdA indA imP inP imS imB imO imR imA inA imH ihs = some r') : CI l yX8_moveFault wsX8_moveFault rm_X8_moveFault D cy [.ref (aI 0), .int x1, .int x2] (W_All cy aI aT adP adS adB adO adR adA aP aS aB aO aR aA aH ah imT imdP indP imdS imdB imdO imdR imdA indA imP inP imS imB imO imR imA inA imH ihs) 0 0 r' (W_All cy aI aT adP adS adB adO adR adA aP aS aB aO aR aA aH ah imT imdP indP imdS imdB imdO imdR imdA indA imP inP imS imB imO imR imA inA imH ihs) := by
  refine CQ_of (cc := cX8_moveFault) (maxL := 3) (ret := (some .int)) (by decide) rfl (Nat.le_of_ble_eq_true rfl) (fun p e s m args below meth c A ls hx hb hr hml hlocks hnm hown hts hA hK hN hP hD hS hl => ?_)
  have hown : s.vm.findClass RX8 = some m.cls := hown
  have hl : lv_has ls 3 [(0, .ref (aI 0)), (1, .int x1), (2, .int x2)] := hl
  have hC : CallFix p m c cX8_moveFault 3 s args wsX8_moveFault RX8 := ⟨hx, hb, hml, hown, hts⟩
  have f10 : (Cond.fieldLink RX8 10 "IcePlant" "now" "LIcePlant$Plant;").before args s = true := hts _ (mC qf_X8_10)
  have f43 : (Cond.fieldLink RX8 43 "IcePlant$Plant" "store" "LIcePlant$Store;").before args s = true := hts _ (mC qf_X8_43)
  have iX4 : ∀ w ∈ wsX40, w ∈ wsX8_moveFault := fun w h => mC (iA_X4 w h)
  have iX8 : ∀ w ∈ wsX80, w ∈ wsX8_moveFault := fun w h => mC (iA_X8 w h)
  have h65 : ∀  (H : Heap) (locs : List Loc) (ls : Array Slot), f_X8_moveFault_b65 imT imdP indP imdS imdB imdO imdR imdA indA imP inP imS imB imO imR imA inA imH ihs = some r' → va_P D vwCl (W_All cy aI aT adP adS adB adO adR adA aP aS aB aO aR aA aH ah imT imdP indP imdS imdB imdO imdR imdA indA imP inP imS imB imO imR imA inA imH ihs) H → va_D A (W_All cy aI aT adP adS adB adO adR adA aP aS aB aO aR aA aH ah imT imdP indP imdS imdB imdO imdR imdA indA imP inP imS imB imO imR imA inA imH ihs) → va_S A s.heap H locs → lv_has ls 3 [] → W p l e rm_X8_moveFault s m args below meth c H locs 0 0 (MQ below (QI D cy r' (W_All cy aI aT adP adS adB adO adR adA aP aS aB aO aR aA aH ah imT imdP indP imdS imdB imdO imdR imdA indA imP inP imS imB imO imR imA inA imH ihs) A) args s 0 0 A) (F0 m 65 ls []) := by
    intro  H locs ls hE hP hD hS hl
    replace hE : (some (3 : Int32)) = some r' := hE
    refine lv_iconst (v := 3) hx hb dX8_moveFault_65 (by decide) ?_
    refine lv_goto (tgt := 70) hx hb dX8_moveFault_66 (by decide) ?_
    have hE := Option.some.inj hE
    exact ei hx hb hr hlocks hK hP hD hS hE rfl dX8_moveFault_70
  unfold f_X8_moveFault at hE
  refine lv_aload_n hx hb dX8_moveFault_0 rfl (lv_at hl 0 rfl) ?_
  refine va_get (D := D) (ci := 8) (v := .ref (aP 0)) (C := RX8) (T := TX8) (N := 4) hx hb hts iX8 hown hK hP 0 rfl rfl 0 (by decide) f10 (fun _ h9 => h9) rfl dX8_moveFault_1 ?_
  refine va_get (D := D) (ci := 4) (v := .ref (aS 0)) (C := RX4) (T := TX4) (N := 13) hx hb hts iX4 hown hK hP 40 rfl rfl 2 (by decide) f43 (fun _ h9 => h9) rfl dX8_moveFault_4 ?_
  refine lv_iload_n hx hb dX8_moveFault_7 rfl (lv_at hl 1 rfl) ?_
  obtain ⟨r_1, hc_2, hE⟩ := bd1_el hE
  refine ki (X := ((W_I aI aP adP aH aT) ++ ((W_T cy aT imT) ++ ((W_P cy adP adS adB adO adR adA imdP indP) ++ ((W_S cy adS imdS) ++ ((W_B cy adB imdB) ++ ((W_O cy adO imdO) ++ ((W_R cy adR imdR) ++ ((W_A cy adA imdA indA) ++ (W_P cy aP aS aB aO aR aA imP inP)))))))))) (Y := ((W_B cy aB imB) ++ ((W_O cy aO imO) ++ ((W_R cy aR imR) ++ ((W_A cy aA imA inA) ++ ((W_H cy aH ah imH) ++ (W_HS cy ah ihs))))))) (ws1 := (W_All cy aI aT adP adS adB adO adR adA aP aS aB aO aR aA aH ah imT imdP indP imdS imdB imdO imdR imdA indA imP inP imS imB imO imR imA inA imH ihs)) (rV (X := ((W_I aI aP adP aH aT) ++ ((W_T cy aT imT) ++ ((W_P cy adP adS adB adO adR adA imdP indP) ++ ((W_S cy adS imdS) ++ ((W_B cy adB imdB) ++ ((W_O cy adO imdO) ++ ((W_R cy adR imdR) ++ ((W_A cy adA imdA indA) ++ (W_P cy aP aS aB aO aR aA imP inP)))))))))) (Y := ((W_B cy aB imB) ++ ((W_O cy aO imO) ++ ((W_R cy aR imR) ++ ((W_A cy aA imA inA) ++ ((W_H cy aH ah imH) ++ (W_HS cy ah ihs))))))) (As := [.int x1]) (rest := []) hC (c_X6_hasSilo l D cy aS x1 imS r_1 hc_2) (cwV 1 hts gX8_moveFault_X6_hasSilo rfl rfl rfl cd_X6_hasSilo ⟨Nat.le_of_ble_eq_true rfl, Nat.le_of_ble_eq_true rfl⟩) hK hN hP hD hS hA rfl 0 6 rfl rfl rfl hl.1 rfl (lv_room (Nat.le_of_ble_eq_true rfl)) dX8_moveFault_8 ⟨Nat.le_of_ble_eq_true rfl, Nat.le_of_ble_eq_true rfl⟩) hP hD hS hA rfl rfl rfl (fun H locs hP hD hS => ?_)
  refine lv_if_eq (tgt := 28) hx hb dX8_moveFault_11 (by decide) (fun c_3 => ?_) (fun c_3 => ?_)
  · replace hE := it_t hE c_3
    refine lv_iconst (v := 1) hx hb dX8_moveFault_28 (by decide) ?_
    have hE := Option.some.inj hE
    exact ei hx hb hr hlocks hK hP hD hS hE rfl dX8_moveFault_29
  · replace hE := it_f hE c_3
    refine lv_aload_n hx hb dX8_moveFault_14 rfl (lv_at hl 0 rfl) ?_
    refine va_get (D := D) (ci := 8) (v := .ref (aP 0)) (C := RX8) (T := TX8) (N := 4) hx hb hts iX8 hown hK hP 0 rfl rfl 0 (by decide) f10 (fun _ h9 => h9) rfl dX8_moveFault_15 ?_
    refine va_get (D := D) (ci := 4) (v := .ref (aS 0)) (C := RX4) (T := TX4) (N := 13) hx hb hts iX4 hown hK hP 40 rfl rfl 2 (by decide) f43 (fun _ h9 => h9) rfl dX8_moveFault_18 ?_
    refine lv_iload_n hx hb dX8_moveFault_21 rfl (lv_at hl 2 rfl) ?_
    obtain ⟨r_4, hc_5, hE⟩ := bd1_el hE
    refine ki (X := ((W_I aI aP adP aH aT) ++ ((W_T cy aT imT) ++ ((W_P cy adP adS adB adO adR adA imdP indP) ++ ((W_S cy adS imdS) ++ ((W_B cy adB imdB) ++ ((W_O cy adO imdO) ++ ((W_R cy adR imdR) ++ ((W_A cy adA imdA indA) ++ (W_P cy aP aS aB aO aR aA imP inP)))))))))) (Y := ((W_B cy aB imB) ++ ((W_O cy aO imO) ++ ((W_R cy aR imR) ++ ((W_A cy aA imA inA) ++ ((W_H cy aH ah imH) ++ (W_HS cy ah ihs))))))) (ws1 := (W_All cy aI aT adP adS adB adO adR adA aP aS aB aO aR aA aH ah imT imdP indP imdS imdB imdO imdR imdA indA imP inP imS imB imO imR imA inA imH ihs)) (rV (X := ((W_I aI aP adP aH aT) ++ ((W_T cy aT imT) ++ ((W_P cy adP adS adB adO adR adA imdP indP) ++ ((W_S cy adS imdS) ++ ((W_B cy adB imdB) ++ ((W_O cy adO imdO) ++ ((W_R cy adR imdR) ++ ((W_A cy adA imdA indA) ++ (W_P cy aP aS aB aO aR aA imP inP)))))))))) (Y := ((W_B cy aB imB) ++ ((W_O cy aO imO) ++ ((W_R cy aR imR) ++ ((W_A cy aA imA inA) ++ ((W_H cy aH ah imH) ++ (W_HS cy ah ihs))))))) (As := [.int x2]) (rest := []) hC (c_X6_hasSilo l D cy aS x2 imS r_4 hc_5) (cwV 1 hts gX8_moveFault_X6_hasSilo rfl rfl rfl cd_X6_hasSilo ⟨Nat.le_of_ble_eq_true rfl, Nat.le_of_ble_eq_true rfl⟩) hK hN hP hD hS hA rfl 0 6 rfl rfl rfl hl.1 rfl (lv_room (Nat.le_of_ble_eq_true rfl)) dX8_moveFault_22 ⟨Nat.le_of_ble_eq_true rfl, Nat.le_of_ble_eq_true rfl⟩) hP hD hS hA rfl rfl rfl (fun H locs hP hD hS => ?_)
    refine lv_if_ne (tgt := 30) hx hb dX8_moveFault_25 (by decide) (fun c_6 => ?_) (fun c_6 => ?_)
    · replace hE := it_f hE c_6
      refine lv_iload_n hx hb dX8_moveFault_30 rfl (lv_at hl 1 rfl) ?_
      refine lv_iload_n hx hb dX8_moveFault_31 rfl (lv_at hl 2 rfl) ?_
      refine lv_icmp_ne (tgt := 37) hx hb dX8_moveFault_32 (by decide) (fun c_7 => ?_) (fun c_7 => ?_)
      · replace hE := it_f hE c_7
        refine lv_aload_n hx hb dX8_moveFault_37 rfl (lv_at hl 0 rfl) ?_
        refine va_get (D := D) (ci := 8) (v := .ref (aP 0)) (C := RX8) (T := TX8) (N := 4) hx hb hts iX8 hown hK hP 0 rfl rfl 0 (by decide) f10 (fun _ h9 => h9) rfl dX8_moveFault_38 ?_
        refine va_get (D := D) (ci := 4) (v := .ref (aS 0)) (C := RX4) (T := TX4) (N := 13) hx hb hts iX4 hown hK hP 40 rfl rfl 2 (by decide) f43 (fun _ h9 => h9) rfl dX8_moveFault_41 ?_
        refine lv_iload_n hx hb dX8_moveFault_44 rfl (lv_at hl 1 rfl) ?_
        obtain ⟨r_8, hc_9, hE⟩ := bd1_el hE
        refine ki (X := ((W_I aI aP adP aH aT) ++ ((W_T cy aT imT) ++ ((W_P cy adP adS adB adO adR adA imdP indP) ++ ((W_S cy adS imdS) ++ ((W_B cy adB imdB) ++ ((W_O cy adO imdO) ++ ((W_R cy adR imdR) ++ ((W_A cy adA imdA indA) ++ (W_P cy aP aS aB aO aR aA imP inP)))))))))) (Y := ((W_B cy aB imB) ++ ((W_O cy aO imO) ++ ((W_R cy aR imR) ++ ((W_A cy aA imA inA) ++ ((W_H cy aH ah imH) ++ (W_HS cy ah ihs))))))) (ws1 := (W_All cy aI aT adP adS adB adO adR adA aP aS aB aO aR aA aH ah imT imdP indP imdS imdB imdO imdR imdA indA imP inP imS imB imO imR imA inA imH ihs)) (rV (X := ((W_I aI aP adP aH aT) ++ ((W_T cy aT imT) ++ ((W_P cy adP adS adB adO adR adA imdP indP) ++ ((W_S cy adS imdS) ++ ((W_B cy adB imdB) ++ ((W_O cy adO imdO) ++ ((W_R cy adR imdR) ++ ((W_A cy adA imdA indA) ++ (W_P cy aP aS aB aO aR aA imP inP)))))))))) (Y := ((W_B cy aB imB) ++ ((W_O cy aO imO) ++ ((W_R cy aR imR) ++ ((W_A cy aA imA inA) ++ ((W_H cy aH ah imH) ++ (W_HS cy ah ihs))))))) (As := [.int x1]) (rest := []) hC (c_X6_isEmpty l D cy aS x1 imS r_8 hc_9) (cwV 1 hts gX8_moveFault_X6_isEmpty rfl rfl rfl cd_X6_isEmpty ⟨Nat.le_of_ble_eq_true rfl, Nat.le_of_ble_eq_true rfl⟩) hK hN hP hD hS hA rfl 0 6 rfl rfl rfl hl.1 rfl (lv_room (Nat.le_of_ble_eq_true rfl)) dX8_moveFault_45 ⟨Nat.le_of_ble_eq_true rfl, Nat.le_of_ble_eq_true rfl⟩) hP hD hS hA rfl rfl rfl (fun H locs hP hD hS => ?_)
        refine lv_if_ne (tgt := 65) hx hb dX8_moveFault_48 (by decide) (fun c_10 => ?_) (fun c_10 => ?_)
        · replace hE := it_f hE c_10
          exact h65  _ _ _ hE hP hD hS (lv_sub hl [] rfl)
        · replace hE := it_t hE c_10
          refine lv_aload_n hx hb dX8_moveFault_51 rfl (lv_at hl 0 rfl) ?_
          refine va_get (D := D) (ci := 8) (v := .ref (aP 0)) (C := RX8) (T := TX8) (N := 4) hx hb hts iX8 hown hK hP 0 rfl rfl 0 (by decide) f10 (fun _ h9 => h9) rfl dX8_moveFault_52 ?_
          refine va_get (D := D) (ci := 4) (v := .ref (aS 0)) (C := RX4) (T := TX4) (N := 13) hx hb hts iX4 hown hK hP 40 rfl rfl 2 (by decide) f43 (fun _ h9 => h9) rfl dX8_moveFault_55 ?_
          refine lv_iload_n hx hb dX8_moveFault_58 rfl (lv_at hl 2 rfl) ?_
          obtain ⟨r_11, hc_12, hE⟩ := bd1_el hE
          refine ki (X := ((W_I aI aP adP aH aT) ++ ((W_T cy aT imT) ++ ((W_P cy adP adS adB adO adR adA imdP indP) ++ ((W_S cy adS imdS) ++ ((W_B cy adB imdB) ++ ((W_O cy adO imdO) ++ ((W_R cy adR imdR) ++ ((W_A cy adA imdA indA) ++ (W_P cy aP aS aB aO aR aA imP inP)))))))))) (Y := ((W_B cy aB imB) ++ ((W_O cy aO imO) ++ ((W_R cy aR imR) ++ ((W_A cy aA imA inA) ++ ((W_H cy aH ah imH) ++ (W_HS cy ah ihs))))))) (ws1 := (W_All cy aI aT adP adS adB adO adR adA aP aS aB aO aR aA aH ah imT imdP indP imdS imdB imdO imdR imdA indA imP inP imS imB imO imR imA inA imH ihs)) (rV (X := ((W_I aI aP adP aH aT) ++ ((W_T cy aT imT) ++ ((W_P cy adP adS adB adO adR adA imdP indP) ++ ((W_S cy adS imdS) ++ ((W_B cy adB imdB) ++ ((W_O cy adO imdO) ++ ((W_R cy adR imdR) ++ ((W_A cy adA imdA indA) ++ (W_P cy aP aS aB aO aR aA imP inP)))))))))) (Y := ((W_B cy aB imB) ++ ((W_O cy aO imO) ++ ((W_R cy aR imR) ++ ((W_A cy aA imA inA) ++ ((W_H cy aH ah imH) ++ (W_HS cy ah ihs))))))) (As := [.int x2]) (rest := []) hC (c_X6_hasRoom l D cy aS x2 imS r_11 hc_12) (cwV 1 hts gX8_moveFault_X6_hasRoom rfl rfl rfl cd_X6_hasRoom ⟨Nat.le_of_ble_eq_true rfl, Nat.le_of_ble_eq_true rfl⟩) hK hN hP hD hS hA rfl 0 6 rfl rfl rfl hl.1 rfl (lv_room (Nat.le_of_ble_eq_true rfl)) dX8_moveFault_59 ⟨Nat.le_of_ble_eq_true rfl, Nat.le_of_ble_eq_true rfl⟩) hP hD hS hA rfl rfl rfl (fun H locs hP hD hS => ?_)
          refine lv_if_ne (tgt := 69) hx hb dX8_moveFault_62 (by decide) (fun c_13 => ?_) (fun c_13 => ?_)
          · replace hE := it_f hE c_13
            refine lv_iconst (v := 0) hx hb dX8_moveFault_69 (by decide) ?_
            have hE := Option.some.inj hE
            exact ei hx hb hr hlocks hK hP hD hS hE rfl dX8_moveFault_70
          · replace hE := it_t hE c_13
            exact h65  _ _ _ hE hP hD hS (lv_sub hl [] rfl)
      · replace hE := it_t hE c_7
        refine lv_iconst (v := 2) hx hb dX8_moveFault_35 (by decide) ?_
        have hE := Option.some.inj hE
        exact ei hx hb hr hlocks hK hP hD hS hE rfl dX8_moveFault_36
    · replace hE := it_t hE c_6
      refine lv_iconst (v := 1) hx hb dX8_moveFault_28 (by decide) ?_
      have hE := Option.some.inj hE
      exact ei hx hb hr hlocks hK hP hD hS hE rfl dX8_moveFault_29
abbrev rm_X8_move : Room := { frames := 7, cells := 1, slots := 6, locals := 103 }
set_option maxHeartbeats 40000000 in
set_option maxRecDepth 100000 in
theorem c_X8_move (l : Launch) (hst : l.stackTraces = false) (D : va_G) (cy : Nat → Nat) (aI aT adP adS adB adO adR adA aP aS aB aO aR aA aH : Nat → Nat) (ah : Nat → Nat → Nat → Nat) (x1 : Int32) (x2 : Int32) (imT : Mem) (imdP : Mem) (indP : MemL) (imdS : Mem) (imdB : Mem) (imdO : Mem) (imdR : Mem) (imdA : Mem) (indA : MemL) (imP : Mem) (inP : MemL) (imS : Mem) (imB : Mem) (imO : Mem) (imR : Mem) (imA : Mem) (inA : MemL) (imH : Mem) (ihs : (Nat → PSt)) (k' : Nat) (r' : Int32) (mS' : Mem) (mH' : Mem) (hs' : (Nat → PSt)) (hE : f_X8_move x1 x2 imT imdP indP imdS imdB imdO imdR imdA indA imP inP imS imB imO imR imA inA imH ihs = some (k', r', mS', mH', hs')) : CXI l yX8_move wsX8_move rm_X8_move D cy [.ref (aI 0), .int x1, .int x2] (W_All cy aI aT adP adS adB adO adR adA aP aS aB aO aR aA aH ah imT imdP indP imdS imdB imdO imdR imdA indA imP inP imS imB imO imR imA inA imH ihs) 1 6 k' r' (W_All cy aI aT adP adS adB adO adR adA aP aS aB aO aR aA aH ah imT imdP indP imdS imdB imdO imdR imdA indA imP inP mS' imB imO imR imA inA mH' hs') := by
  refine CX_of (cc := cX8_move) (maxL := 3) (ret := (some .int)) (by decide) rfl (Nat.le_of_ble_eq_true rfl) (fun p e s m args below meth c A ls hx hb hr hml hlocks hnm hown hts hA htab hK hN hP hD hS hl => ?_)
  have hown : s.vm.findClass RX8 = some m.cls := hown
  have hl : lv_has ls 3 [(0, .ref (aI 0)), (1, .int x1), (2, .int x2)] := hl
  have hC : CallFix p m c cX8_move 3 s args wsX8_move RX8 := ⟨hx, hb, hml, hown, hts⟩
  have f10 : (Cond.fieldLink RX8 10 "IcePlant" "now" "LIcePlant$Plant;").before args s = true := hts _ (mC qf_X8_10)
  have f22 : (Cond.fieldLink RX8 22 "IcePlant" "history" "LIcePlant$History;").before args s = true := hts _ (mC qf_X8_22)
  have f43 : (Cond.fieldLink RX8 43 "IcePlant$Plant" "store" "LIcePlant$Store;").before args s = true := hts _ (mC qf_X8_43)
  have iX4 : ∀ w ∈ wsX40, w ∈ wsX8_move := fun w h => mC (iA_X4 w h)
  have iX8 : ∀ w ∈ wsX80, w ∈ wsX8_move := fun w h => mC (iA_X8 w h)
  unfold f_X8_move at hE
  refine lv_aload_n hx hb dX8_move_0 rfl (lv_at hl 0 rfl) ?_
  refine lv_iload_n hx hb dX8_move_1 rfl (lv_at hl 1 rfl) ?_
  refine lv_iload_n hx hb dX8_move_2 rfl (lv_at hl 2 rfl) ?_
  obtain ⟨r_1, hc_2, hE⟩ := bd1_el hE
  refine ki (X := []) (Y := []) (ws1 := (W_All cy aI aT adP adS adB adO adR adA aP aS aB aO aR aA aH ah imT imdP indP imdS imdB imdO imdR imdA indA imP inP imS imB imO imR imA inA imH ihs)) (rV (X := []) (Y := []) (As := [.int x1, .int x2]) (rest := []) hC (c_X8_moveFault l D cy aI aT adP adS adB adO adR adA aP aS aB aO aR aA aH ah x1 x2 imT imdP indP imdS imdB imdO imdR imdA indA imP inP imS imB imO imR imA inA imH ihs r_1 hc_2) (cwV 2 hts gX8_move_X8_moveFault rfl rfl rfl cd_X8_moveFault ⟨Nat.le_of_ble_eq_true rfl, Nat.le_of_ble_eq_true rfl⟩) hK hN hP hD hS hA rfl 0 8 rfl rfl rfl hl.1 rfl (lv_room (Nat.le_of_ble_eq_true rfl)) dX8_move_3 ⟨Nat.le_of_ble_eq_true rfl, Nat.le_of_ble_eq_true rfl⟩) hP hD hS hA rfl rfl rfl (fun H locs hP hD hS => ?_)
  obtain ⟨k_4, hc_3, hE⟩ := bd1_el hE
  refine kxv (X := []) (Y := (W_All cy aI aT adP adS adB adO adR adA aP aS aB aO aR aA aH ah imT imdP indP imdS imdB imdO imdR imdA indA imP inP imS imB imO imR imA inA imH ihs)) (ws1 := (W_All cy aI aT adP adS adB adO adR adA aP aS aB aO aR aA aH ah imT imdP indP imdS imdB imdO imdR imdA indA imP inP imS imB imO imR imA inA imH ihs)) (xS (X := []) (Y := (W_All cy aI aT adP adS adB adO adR adA aP aS aB aO aR aA aH ah imT imdP indP imdS imdB imdO imdR imdA indA imP inP imS imB imO imR imA inA imH ihs)) (As := [.int r_1]) (rest := []) hC (c_X8_refuse l hst D cy r_1 k_4 hc_3) (cwS 1 hts gX8_move_X8_refuse rfl rfl rfl cd_X8_refuse ⟨Nat.le_of_ble_eq_true rfl, Nat.le_of_ble_eq_true rfl⟩) hK hN hP hD hS hA rfl rfl hl.1 rfl (lv_room (Nat.le_of_ble_eq_true rfl)) dX8_move_6 ⟨Nat.le_of_ble_eq_true rfl, Nat.le_of_ble_eq_true rfl⟩) hP hD hS hA rfl rfl rfl (fun hk0 H locs ce q9 hP hD hS hce hcv hcl => ?_) (fun hk0 H locs hP hD hS => ?_)
  · replace hE := it_f hE hk0
    have hE := Option.some.inj hE
    obtain ⟨q0, hE⟩ := Prod.mk.inj hE
    obtain ⟨q1, hE⟩ := Prod.mk.inj hE
    obtain ⟨q2, hE⟩ := Prod.mk.inj hE
    obtain ⟨q3, q4⟩ := Prod.mk.inj hE
    exact exx htab hlocks hK hP hD hS hce hcv hcl hk0 q0 (by rw [q2, q3, q4]) (Nat.le_of_ble_eq_true rfl) (Nat.le_of_ble_eq_true rfl)
  · replace hE := it_t hE hk0
    refine lv_aload_n hx hb dX8_move_9 rfl (lv_at hl 0 rfl) ?_
    refine va_get (D := D) (ci := 8) (v := .ref (aH 0)) (C := RX8) (T := TX8) (N := 4) hx hb hts iX8 hown hK hP 0 rfl rfl 2 (by decide) f22 (fun _ h9 => h9) rfl dX8_move_10 ?_
    refine lv_aload_n hx hb dX8_move_13 rfl (lv_at hl 0 rfl) ?_
    refine va_get (D := D) (ci := 8) (v := .ref (aP 0)) (C := RX8) (T := TX8) (N := 4) hx hb hts iX8 hown hK hP 0 rfl rfl 0 (by decide) f10 (fun _ h9 => h9) rfl dX8_move_14 ?_
    obtain ⟨mH_5, hs_6, hc_7, hE⟩ := bd2_el hE
    refine kv (X := ((W_I aI aP adP aH aT) ++ ((W_T cy aT imT) ++ ((W_P cy adP adS adB adO adR adA imdP indP) ++ ((W_S cy adS imdS) ++ ((W_B cy adB imdB) ++ ((W_O cy adO imdO) ++ ((W_R cy adR imdR) ++ (W_A cy adA imdA indA))))))))) (Y := []) (ws1 := (W_All cy aI aT adP adS adB adO adR adA aP aS aB aO aR aA aH ah imT imdP indP imdS imdB imdO imdR imdA indA imP inP imS imB imO imR imA inA mH_5 hs_6)) (rV (X := ((W_I aI aP adP aH aT) ++ ((W_T cy aT imT) ++ ((W_P cy adP adS adB adO adR adA imdP indP) ++ ((W_S cy adS imdS) ++ ((W_B cy adB imdB) ++ ((W_O cy adO imdO) ++ ((W_R cy adR imdR) ++ (W_A cy adA imdA indA))))))))) (Y := []) (As := [.ref (aP 0)]) (rest := []) hC (c_X2_save l D cy aP aS aB aO aR aA aH ah imP inP imS imB imO imR imA inA imH ihs mH_5 hs_6 hc_7) (cwV 1 hts gX8_move_X2_save rfl rfl rfl cd_X2_save ⟨Nat.le_of_ble_eq_true rfl, Nat.le_of_ble_eq_true rfl⟩) hK hN hP hD hS hA rfl 36 2 rfl rfl rfl hl.1 rfl (lv_room (Nat.le_of_ble_eq_true rfl)) dX8_move_17 ⟨Nat.le_of_ble_eq_true rfl, Nat.le_of_ble_eq_true rfl⟩) hP hD hS hA rfl rfl rfl (fun H locs hP hD hS => ?_)
    refine lv_aload_n hx hb dX8_move_20 rfl (lv_at hl 0 rfl) ?_
    refine va_get (D := D) (ci := 8) (v := .ref (aP 0)) (C := RX8) (T := TX8) (N := 4) hx hb hts iX8 hown hK hP 0 rfl rfl 0 (by decide) f10 (fun _ h9 => h9) rfl dX8_move_21 ?_
    refine va_get (D := D) (ci := 4) (v := .ref (aS 0)) (C := RX4) (T := TX4) (N := 13) hx hb hts iX4 hown hK hP 40 rfl rfl 2 (by decide) f43 (fun _ h9 => h9) rfl dX8_move_24 ?_
    refine lv_iload_n hx hb dX8_move_27 rfl (lv_at hl 1 rfl) ?_
    refine lv_iload_n hx hb dX8_move_28 rfl (lv_at hl 2 rfl) ?_
    obtain ⟨r_8, mS_9, hc_10, hE⟩ := bd2_el hE
    refine ki (X := ((W_I aI aP adP aH aT) ++ ((W_T cy aT imT) ++ ((W_P cy adP adS adB adO adR adA imdP indP) ++ ((W_S cy adS imdS) ++ ((W_B cy adB imdB) ++ ((W_O cy adO imdO) ++ ((W_R cy adR imdR) ++ ((W_A cy adA imdA indA) ++ (W_P cy aP aS aB aO aR aA imP inP)))))))))) (Y := ((W_B cy aB imB) ++ ((W_O cy aO imO) ++ ((W_R cy aR imR) ++ ((W_A cy aA imA inA) ++ ((W_H cy aH ah mH_5) ++ (W_HS cy ah hs_6))))))) (ws1 := (W_All cy aI aT adP adS adB adO adR adA aP aS aB aO aR aA aH ah imT imdP indP imdS imdB imdO imdR imdA indA imP inP mS_9 imB imO imR imA inA mH_5 hs_6)) (rV (X := ((W_I aI aP adP aH aT) ++ ((W_T cy aT imT) ++ ((W_P cy adP adS adB adO adR adA imdP indP) ++ ((W_S cy adS imdS) ++ ((W_B cy adB imdB) ++ ((W_O cy adO imdO) ++ ((W_R cy adR imdR) ++ ((W_A cy adA imdA indA) ++ (W_P cy aP aS aB aO aR aA imP inP)))))))))) (Y := ((W_B cy aB imB) ++ ((W_O cy aO imO) ++ ((W_R cy aR imR) ++ ((W_A cy aA imA inA) ++ ((W_H cy aH ah mH_5) ++ (W_HS cy ah hs_6))))))) (As := [.int x1, .int x2]) (rest := []) hC (c_X6_moveTop l D cy aS x1 x2 imS r_8 mS_9 hc_10) (cwV 2 hts gX8_move_X6_moveTop rfl rfl rfl cd_X6_moveTop ⟨Nat.le_of_ble_eq_true rfl, Nat.le_of_ble_eq_true rfl⟩) hK hN hP hD hS hA rfl 0 6 rfl rfl rfl hl.1 rfl (lv_room (Nat.le_of_ble_eq_true rfl)) dX8_move_29 ⟨Nat.le_of_ble_eq_true rfl, Nat.le_of_ble_eq_true rfl⟩) hP hD hS hA rfl rfl rfl (fun H locs hP hD hS => ?_)
    have hE := Option.some.inj hE
    obtain ⟨q0, hE⟩ := Prod.mk.inj hE
    obtain ⟨q1, hE⟩ := Prod.mk.inj hE
    obtain ⟨q2, hE⟩ := Prod.mk.inj hE
    obtain ⟨q3, q4⟩ := Prod.mk.inj hE
    exact exi hx hb hr hlocks hK hP hD hS q0 q1 (by rw [q2, q3, q4]) (Nat.le_of_ble_eq_true rfl) (Nat.le_of_ble_eq_true rfl) dX8_move_32
abbrev rm_X8_passFault : Room := { frames := 1, cells := 0, slots := 0, locals := 22 }
set_option maxHeartbeats 40000000 in
set_option maxRecDepth 100000 in
theorem c_X8_passFault (l : Launch) (D : va_G) (cy : Nat → Nat) (aI aT adP adS adB adO adR adA aP aS aB aO aR aA aH : Nat → Nat) (ah : Nat → Nat → Nat → Nat) (x1 : Int32) (imT : Mem) (imdP : Mem) (indP : MemL) (imdS : Mem) (imdB : Mem) (imdO : Mem) (imdR : Mem) (imdA : Mem) (indA : MemL) (imP : Mem) (inP : MemL) (imS : Mem) (imB : Mem) (imO : Mem) (imR : Mem) (imA : Mem) (inA : MemL) (imH : Mem) (ihs : (Nat → PSt)) (r' : Int32) (hE : f_X8_passFault x1 imT imdP indP imdS imdB imdO imdR imdA indA imP inP imS imB imO imR imA inA imH ihs = some r') : CI l yX8_passFault wsX8_passFault rm_X8_passFault D cy [.ref (aI 0), .int x1] (W_All cy aI aT adP adS adB adO adR adA aP aS aB aO aR aA aH ah imT imdP indP imdS imdB imdO imdR imdA indA imP inP imS imB imO imR imA inA imH ihs) 0 0 r' (W_All cy aI aT adP adS adB adO adR adA aP aS aB aO aR aA aH ah imT imdP indP imdS imdB imdO imdR imdA indA imP inP imS imB imO imR imA inA imH ihs) := by
  refine CQ_of (cc := cX8_passFault) (maxL := 2) (ret := (some .int)) (by decide) rfl (Nat.le_of_ble_eq_true rfl) (fun p e s m args below meth c A ls hx hb hr hml hlocks hnm hown hts hA hK hN hP hD hS hl => ?_)
  have hown : s.vm.findClass RX8 = some m.cls := hown
  have hl : lv_has ls 2 [(0, .ref (aI 0)), (1, .int x1)] := hl
  have hC : CallFix p m c cX8_passFault 2 s args wsX8_passFault RX8 := ⟨hx, hb, hml, hown, hts⟩
  have f10 : (Cond.fieldLink RX8 10 "IcePlant" "now" "LIcePlant$Plant;").before args s = true := hts _ (mC qf_X8_10)
  have f304 : (Cond.fieldLink RX8 304 "IcePlant$Plant" "time" "I").before args s = true := hts _ (mC qf_X8_304)
  have iX4 : ∀ w ∈ wsX40, w ∈ wsX8_passFault := fun w h => mC (iA_X4 w h)
  have iX8 : ∀ w ∈ wsX80, w ∈ wsX8_passFault := fun w h => mC (iA_X8 w h)
  unfold f_X8_passFault at hE
  refine lv_iload_n hx hb dX8_passFault_0 rfl (lv_at hl 1 rfl) ?_
  refine lv_iconst (v := 1) hx hb dX8_passFault_1 (by decide) ?_
  refine lv_bipush (v := 48) hx hb dX8_passFault_2 (by decide) ?_
  obtain ⟨r_1, hc_2, hE⟩ := bd1_el hE
  refine ki (X := []) (Y := (W_All cy aI aT adP adS adB adO adR adA aP aS aB aO aR aA aH ah imT imdP indP imdS imdB imdO imdR imdA indA imP inP imS imB imO imR imA inA imH ihs)) (ws1 := (W_All cy aI aT adP adS adB adO adR adA aP aS aB aO aR aA aH ah imT imdP indP imdS imdB imdO imdR imdA indA imP inP imS imB imO imR imA inA imH ihs)) (rS (X := []) (Y := (W_All cy aI aT adP adS adB adO adR adA aP aS aB aO aR aA aH ah imT imdP indP imdS imdB imdO imdR imdA indA imP inP imS imB imO imR imA inA imH ihs)) (As := [.int x1, .int (1 : Int32), .int (48 : Int32)]) (rest := []) hC (c_X8_isWithin l D cy x1 (1 : Int32) (48 : Int32) r_1 hc_2) (cwS 3 hts gX8_passFault_X8_isWithin rfl rfl rfl cd_X8_isWithin ⟨Nat.le_of_ble_eq_true rfl, Nat.le_of_ble_eq_true rfl⟩) hK hN hP hD hS hA rfl rfl hl.1 rfl (lv_room (Nat.le_of_ble_eq_true rfl)) dX8_passFault_4 ⟨Nat.le_of_ble_eq_true rfl, Nat.le_of_ble_eq_true rfl⟩) hP hD hS hA rfl rfl rfl (fun H locs hP hD hS => ?_)
  refine lv_if_ne (tgt := 12) hx hb dX8_passFault_7 (by decide) (fun c_3 => ?_) (fun c_3 => ?_)
  · replace hE := it_f hE c_3
    refine lv_aload_n hx hb dX8_passFault_12 rfl (lv_at hl 0 rfl) ?_
    refine va_get (D := D) (ci := 8) (v := .ref (aP 0)) (C := RX8) (T := TX8) (N := 4) hx hb hts iX8 hown hK hP 0 rfl rfl 0 (by decide) f10 (fun _ h9 => h9) rfl dX8_passFault_13 ?_
    refine va_get (D := D) (ci := 4) (v := .int (imP 7 0)) (C := RX4) (T := TX4) (N := 13) hx hb hts iX4 hown hK hP 40 rfl rfl 7 (by decide) f304 (fun _ h9 => h9) rfl dX8_passFault_16 ?_
    refine lv_iload_n hx hb dX8_passFault_19 rfl (lv_at hl 1 rfl) ?_
    refine lv_iadd hx hb dX8_passFault_20 ?_
    refine lv_sipush (v := 10000) hx hb dX8_passFault_21 (by decide) ?_
    refine lv_icmp_le (tgt := 31) hx hb dX8_passFault_24 (by decide) (fun c_4 => ?_) (fun c_4 => ?_)
    · replace hE := it_t hE c_4
      refine lv_iconst (v := 0) hx hb dX8_passFault_31 (by decide) ?_
      have hE := Option.some.inj hE
      exact ei hx hb hr hlocks hK hP hD hS hE rfl dX8_passFault_32
    · replace hE := it_f hE c_4
      refine lv_iconst (v := 3) hx hb dX8_passFault_27 (by decide) ?_
      refine lv_goto (tgt := 32) hx hb dX8_passFault_28 (by decide) ?_
      have hE := Option.some.inj hE
      exact ei hx hb hr hlocks hK hP hD hS hE rfl dX8_passFault_32
  · replace hE := it_t hE c_3
    refine lv_iconst (v := 2) hx hb dX8_passFault_10 (by decide) ?_
    have hE := Option.some.inj hE
    exact ei hx hb hr hlocks hK hP hD hS hE rfl dX8_passFault_11
abbrev rm_X8_pass : Room := { frames := 7, cells := 1, slots := 6, locals := 145 }
set_option maxHeartbeats 40000000 in
set_option maxRecDepth 100000 in
theorem c_X8_pass (l : Launch) (hst : l.stackTraces = false) (D : va_G) (cy : Nat → Nat) (aI aT adP adS adB adO adR adA aP aS aB aO aR aA aH : Nat → Nat) (ah : Nat → Nat → Nat → Nat) (x1 : Int32) (imT : Mem) (imdP : Mem) (indP : MemL) (imdS : Mem) (imdB : Mem) (imdO : Mem) (imdR : Mem) (imdA : Mem) (indA : MemL) (imP : Mem) (inP : MemL) (imS : Mem) (imB : Mem) (imO : Mem) (imR : Mem) (imA : Mem) (inA : MemL) (imH : Mem) (ihs : (Nat → PSt)) (k' : Nat) (r' : Int32) (mP' : Mem) (nP' : MemL) (mS' : Mem) (mB' : Mem) (mO' : Mem) (mR' : Mem) (mA' : Mem) (nA' : MemL) (mH' : Mem) (hs' : (Nat → PSt)) (hE : f_X8_pass x1 imT imdP indP imdS imdB imdO imdR imdA indA imP inP imS imB imO imR imA inA imH ihs = some (k', r', mP', nP', mS', mB', mO', mR', mA', nA', mH', hs')) : CXI l yX8_pass wsX8_pass rm_X8_pass D cy [.ref (aI 0), .int x1] (W_All cy aI aT adP adS adB adO adR adA aP aS aB aO aR aA aH ah imT imdP indP imdS imdB imdO imdR imdA indA imP inP imS imB imO imR imA inA imH ihs) 1 6 k' r' (W_All cy aI aT adP adS adB adO adR adA aP aS aB aO aR aA aH ah imT imdP indP imdS imdB imdO imdR imdA indA mP' nP' mS' mB' mO' mR' mA' nA' mH' hs') := by
  refine CX_of (cc := cX8_pass) (maxL := 2) (ret := (some .int)) (by decide) rfl (Nat.le_of_ble_eq_true rfl) (fun p e s m args below meth c A ls hx hb hr hml hlocks hnm hown hts hA htab hK hN hP hD hS hl => ?_)
  have hown : s.vm.findClass RX8 = some m.cls := hown
  have hl : lv_has ls 2 [(0, .ref (aI 0)), (1, .int x1)] := hl
  have hC : CallFix p m c cX8_pass 2 s args wsX8_pass RX8 := ⟨hx, hb, hml, hown, hts⟩
  have f10 : (Cond.fieldLink RX8 10 "IcePlant" "now" "LIcePlant$Plant;").before args s = true := hts _ (mC qf_X8_10)
  have f22 : (Cond.fieldLink RX8 22 "IcePlant" "history" "LIcePlant$History;").before args s = true := hts _ (mC qf_X8_22)
  have iX8 : ∀ w ∈ wsX80, w ∈ wsX8_pass := fun w h => mC (iA_X8 w h)
  unfold f_X8_pass at hE
  refine lv_aload_n hx hb dX8_pass_0 rfl (lv_at hl 0 rfl) ?_
  refine lv_iload_n hx hb dX8_pass_1 rfl (lv_at hl 1 rfl) ?_
  obtain ⟨r_1, hc_2, hE⟩ := bd1_el hE
  refine ki (X := []) (Y := []) (ws1 := (W_All cy aI aT adP adS adB adO adR adA aP aS aB aO aR aA aH ah imT imdP indP imdS imdB imdO imdR imdA indA imP inP imS imB imO imR imA inA imH ihs)) (rV (X := []) (Y := []) (As := [.int x1]) (rest := []) hC (c_X8_passFault l D cy aI aT adP adS adB adO adR adA aP aS aB aO aR aA aH ah x1 imT imdP indP imdS imdB imdO imdR imdA indA imP inP imS imB imO imR imA inA imH ihs r_1 hc_2) (cwV 1 hts gX8_pass_X8_passFault rfl rfl rfl cd_X8_passFault ⟨Nat.le_of_ble_eq_true rfl, Nat.le_of_ble_eq_true rfl⟩) hK hN hP hD hS hA rfl 0 8 rfl rfl rfl hl.1 rfl (lv_room (Nat.le_of_ble_eq_true rfl)) dX8_pass_2 ⟨Nat.le_of_ble_eq_true rfl, Nat.le_of_ble_eq_true rfl⟩) hP hD hS hA rfl rfl rfl (fun H locs hP hD hS => ?_)
  obtain ⟨k_4, hc_3, hE⟩ := bd1_el hE
  refine kxv (X := []) (Y := (W_All cy aI aT adP adS adB adO adR adA aP aS aB aO aR aA aH ah imT imdP indP imdS imdB imdO imdR imdA indA imP inP imS imB imO imR imA inA imH ihs)) (ws1 := (W_All cy aI aT adP adS adB adO adR adA aP aS aB aO aR aA aH ah imT imdP indP imdS imdB imdO imdR imdA indA imP inP imS imB imO imR imA inA imH ihs)) (xS (X := []) (Y := (W_All cy aI aT adP adS adB adO adR adA aP aS aB aO aR aA aH ah imT imdP indP imdS imdB imdO imdR imdA indA imP inP imS imB imO imR imA inA imH ihs)) (As := [.int r_1]) (rest := []) hC (c_X8_refuse l hst D cy r_1 k_4 hc_3) (cwS 1 hts gX8_pass_X8_refuse rfl rfl rfl cd_X8_refuse ⟨Nat.le_of_ble_eq_true rfl, Nat.le_of_ble_eq_true rfl⟩) hK hN hP hD hS hA rfl rfl hl.1 rfl (lv_room (Nat.le_of_ble_eq_true rfl)) dX8_pass_5 ⟨Nat.le_of_ble_eq_true rfl, Nat.le_of_ble_eq_true rfl⟩) hP hD hS hA rfl rfl rfl (fun hk0 H locs ce q9 hP hD hS hce hcv hcl => ?_) (fun hk0 H locs hP hD hS => ?_)
  · replace hE := it_f hE hk0
    have hE := Option.some.inj hE
    obtain ⟨q0, hE⟩ := Prod.mk.inj hE
    obtain ⟨q1, hE⟩ := Prod.mk.inj hE
    obtain ⟨q2, hE⟩ := Prod.mk.inj hE
    obtain ⟨q3, hE⟩ := Prod.mk.inj hE
    obtain ⟨q4, hE⟩ := Prod.mk.inj hE
    obtain ⟨q5, hE⟩ := Prod.mk.inj hE
    obtain ⟨q6, hE⟩ := Prod.mk.inj hE
    obtain ⟨q7, hE⟩ := Prod.mk.inj hE
    obtain ⟨q8, hE⟩ := Prod.mk.inj hE
    obtain ⟨q9, hE⟩ := Prod.mk.inj hE
    obtain ⟨q10, q11⟩ := Prod.mk.inj hE
    exact exx htab hlocks hK hP hD hS hce hcv hcl hk0 q0 (by rw [q2, q3, q4, q5, q6, q7, q8, q9, q10, q11]) (Nat.le_of_ble_eq_true rfl) (Nat.le_of_ble_eq_true rfl)
  · replace hE := it_t hE hk0
    refine lv_aload_n hx hb dX8_pass_8 rfl (lv_at hl 0 rfl) ?_
    refine va_get (D := D) (ci := 8) (v := .ref (aH 0)) (C := RX8) (T := TX8) (N := 4) hx hb hts iX8 hown hK hP 0 rfl rfl 2 (by decide) f22 (fun _ h9 => h9) rfl dX8_pass_9 ?_
    refine lv_aload_n hx hb dX8_pass_12 rfl (lv_at hl 0 rfl) ?_
    refine va_get (D := D) (ci := 8) (v := .ref (aP 0)) (C := RX8) (T := TX8) (N := 4) hx hb hts iX8 hown hK hP 0 rfl rfl 0 (by decide) f10 (fun _ h9 => h9) rfl dX8_pass_13 ?_
    obtain ⟨mH_5, hs_6, hc_7, hE⟩ := bd2_el hE
    refine kv (X := ((W_I aI aP adP aH aT) ++ ((W_T cy aT imT) ++ ((W_P cy adP adS adB adO adR adA imdP indP) ++ ((W_S cy adS imdS) ++ ((W_B cy adB imdB) ++ ((W_O cy adO imdO) ++ ((W_R cy adR imdR) ++ (W_A cy adA imdA indA))))))))) (Y := []) (ws1 := (W_All cy aI aT adP adS adB adO adR adA aP aS aB aO aR aA aH ah imT imdP indP imdS imdB imdO imdR imdA indA imP inP imS imB imO imR imA inA mH_5 hs_6)) (rV (X := ((W_I aI aP adP aH aT) ++ ((W_T cy aT imT) ++ ((W_P cy adP adS adB adO adR adA imdP indP) ++ ((W_S cy adS imdS) ++ ((W_B cy adB imdB) ++ ((W_O cy adO imdO) ++ ((W_R cy adR imdR) ++ (W_A cy adA imdA indA))))))))) (Y := []) (As := [.ref (aP 0)]) (rest := []) hC (c_X2_save l D cy aP aS aB aO aR aA aH ah imP inP imS imB imO imR imA inA imH ihs mH_5 hs_6 hc_7) (cwV 1 hts gX8_pass_X2_save rfl rfl rfl cd_X2_save ⟨Nat.le_of_ble_eq_true rfl, Nat.le_of_ble_eq_true rfl⟩) hK hN hP hD hS hA rfl 36 2 rfl rfl rfl hl.1 rfl (lv_room (Nat.le_of_ble_eq_true rfl)) dX8_pass_16 ⟨Nat.le_of_ble_eq_true rfl, Nat.le_of_ble_eq_true rfl⟩) hP hD hS hA rfl rfl rfl (fun H locs hP hD hS => ?_)
    refine lv_aload_n hx hb dX8_pass_19 rfl (lv_at hl 0 rfl) ?_
    refine va_get (D := D) (ci := 8) (v := .ref (aP 0)) (C := RX8) (T := TX8) (N := 4) hx hb hts iX8 hown hK hP 0 rfl rfl 0 (by decide) f10 (fun _ h9 => h9) rfl dX8_pass_20 ?_
    refine lv_iload_n hx hb dX8_pass_23 rfl (lv_at hl 1 rfl) ?_
    obtain ⟨r_8, mP_9, nP_10, mS_11, mB_12, mO_13, mR_14, mA_15, nA_16, hc_17, hE⟩ := bd9_el hE
    refine ki (X := ((W_I aI aP adP aH aT) ++ ((W_T cy aT imT) ++ ((W_P cy adP adS adB adO adR adA imdP indP) ++ ((W_S cy adS imdS) ++ ((W_B cy adB imdB) ++ ((W_O cy adO imdO) ++ ((W_R cy adR imdR) ++ (W_A cy adA imdA indA))))))))) (Y := ((W_H cy aH ah mH_5) ++ (W_HS cy ah hs_6))) (ws1 := (W_All cy aI aT adP adS adB adO adR adA aP aS aB aO aR aA aH ah imT imdP indP imdS imdB imdO imdR imdA indA mP_9 nP_10 mS_11 mB_12 mO_13 mR_14 mA_15 nA_16 mH_5 hs_6)) (rV (X := ((W_I aI aP adP aH aT) ++ ((W_T cy aT imT) ++ ((W_P cy adP adS adB adO adR adA imdP indP) ++ ((W_S cy adS imdS) ++ ((W_B cy adB imdB) ++ ((W_O cy adO imdO) ++ ((W_R cy adR imdR) ++ (W_A cy adA imdA indA))))))))) (Y := ((W_H cy aH ah mH_5) ++ (W_HS cy ah hs_6))) (As := [.int x1]) (rest := []) hC (c_X4_letPass l D cy aP aS aB aO aR aA x1 imP inP imS imB imO imR imA inA r_8 mP_9 nP_10 mS_11 mB_12 mO_13 mR_14 mA_15 nA_16 hc_17) (cwV 1 hts gX8_pass_X4_letPass rfl rfl rfl cd_X4_letPass ⟨Nat.le_of_ble_eq_true rfl, Nat.le_of_ble_eq_true rfl⟩) hK hN hP hD hS hA rfl 0 4 rfl rfl rfl hl.1 rfl (lv_room (Nat.le_of_ble_eq_true rfl)) dX8_pass_24 ⟨Nat.le_of_ble_eq_true rfl, Nat.le_of_ble_eq_true rfl⟩) hP hD hS hA rfl rfl rfl (fun H locs hP hD hS => ?_)
    have hE := Option.some.inj hE
    obtain ⟨q0, hE⟩ := Prod.mk.inj hE
    obtain ⟨q1, hE⟩ := Prod.mk.inj hE
    obtain ⟨q2, hE⟩ := Prod.mk.inj hE
    obtain ⟨q3, hE⟩ := Prod.mk.inj hE
    obtain ⟨q4, hE⟩ := Prod.mk.inj hE
    obtain ⟨q5, hE⟩ := Prod.mk.inj hE
    obtain ⟨q6, hE⟩ := Prod.mk.inj hE
    obtain ⟨q7, hE⟩ := Prod.mk.inj hE
    obtain ⟨q8, hE⟩ := Prod.mk.inj hE
    obtain ⟨q9, hE⟩ := Prod.mk.inj hE
    obtain ⟨q10, q11⟩ := Prod.mk.inj hE
    exact exi hx hb hr hlocks hK hP hD hS q0 q1 (by rw [q2, q3, q4, q5, q6, q7, q8, q9, q10, q11]) (Nat.le_of_ble_eq_true rfl) (Nat.le_of_ble_eq_true rfl) dX8_pass_27
