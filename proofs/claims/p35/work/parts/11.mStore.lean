abbrev rm_X6_hasSilo : Room := { frames := 0, cells := 0, slots := 0, locals := 0 }
set_option maxHeartbeats 40000000 in
set_option maxRecDepth 100000 in
theorem c_X6_hasSilo (l : Launch) (D : va_G) (cy : Nat → Nat) (aS : Nat → Nat) (x1 : Int32) (imS : Mem) (r' : Int32) (hE : f_X6_hasSilo x1 imS = some r') : CI l yX6_hasSilo wsX6_hasSilo rm_X6_hasSilo D cy [.ref (aS 0), .int x1] (W_S cy aS imS) 0 0 r' (W_S cy aS imS) := by
  refine CQ_of (cc := cX6_hasSilo) (maxL := 2) (ret := (some .boolean)) (by decide) rfl (Nat.le_of_ble_eq_true rfl) (fun p e s m args below meth c A ls hx hb hr hml hlocks hnm hown hts hA hK hN hP hD hS hl => ?_)
  have hown : s.vm.findClass RX6 = some m.cls := hown
  have hl : lv_has ls 2 [(0, .ref (aS 0)), (1, .int x1)] := hl
  have f36 : (Cond.fieldLink RX6 36 "IcePlant$Store" "silos" "I").before args s = true := hts _ (mC qf_X6_36)
  have iX6 : ∀ w ∈ wsX60, w ∈ wsX6_hasSilo := fun w h => mC (iA_X6 w h)
  unfold f_X6_hasSilo at hE
  refine lv_iload_n hx hb dX6_hasSilo_0 rfl (lv_at hl 1 rfl) ?_
  refine lv_if_lt (tgt := 16) hx hb dX6_hasSilo_1 (by decide) (fun c_1 => ?_) (fun c_1 => ?_)
  · replace hE := it_t hE c_1
    refine lv_iconst (v := 0) hx hb dX6_hasSilo_16 (by decide) ?_
    have hE := Option.some.inj hE
    exact ez hx hb hr (by decide) hlocks hK hP hD hS hE rfl dX6_hasSilo_17
  · replace hE := it_f hE c_1
    refine lv_iload_n hx hb dX6_hasSilo_4 rfl (lv_at hl 1 rfl) ?_
    refine lv_aload_n hx hb dX6_hasSilo_5 rfl (lv_at hl 0 rfl) ?_
    refine va_get (D := D) (ci := 6) (v := .int (imS 0 0)) (C := RX6) (T := TX6) (N := 10) hx hb hts iX6 hown hK hP 0 rfl rfl 0 (by decide) f36 (fun _ h9 => h9) rfl dX6_hasSilo_6 ?_
    refine lv_icmp_ge (tgt := 16) hx hb dX6_hasSilo_9 (by decide) (fun c_2 => ?_) (fun c_2 => ?_)
    · replace hE := it_t hE c_2
      refine lv_iconst (v := 0) hx hb dX6_hasSilo_16 (by decide) ?_
      have hE := Option.some.inj hE
      exact ez hx hb hr (by decide) hlocks hK hP hD hS hE rfl dX6_hasSilo_17
    · replace hE := it_f hE c_2
      refine lv_iconst (v := 1) hx hb dX6_hasSilo_12 (by decide) ?_
      refine lv_goto (tgt := 17) hx hb dX6_hasSilo_13 (by decide) ?_
      have hE := Option.some.inj hE
      exact ez hx hb hr (by decide) hlocks hK hP hD hS hE rfl dX6_hasSilo_17
abbrev rm_X6_isEmpty : Room := { frames := 1, cells := 0, slots := 0, locals := 21 }
set_option maxHeartbeats 40000000 in
set_option maxRecDepth 100000 in
theorem c_X6_isEmpty (l : Launch) (D : va_G) (cy : Nat → Nat) (aS : Nat → Nat) (x1 : Int32) (imS : Mem) (r' : Int32) (hE : f_X6_isEmpty x1 imS = some r') : CI l yX6_isEmpty wsX6_isEmpty rm_X6_isEmpty D cy [.ref (aS 0), .int x1] (W_S cy aS imS) 0 0 r' (W_S cy aS imS) := by
  refine CQ_of (cc := cX6_isEmpty) (maxL := 2) (ret := (some .boolean)) (by decide) rfl (Nat.le_of_ble_eq_true rfl) (fun p e s m args below meth c A ls hx hb hr hml hlocks hnm hown hts hA hK hN hP hD hS hl => ?_)
  have hown : s.vm.findClass RX6 = some m.cls := hown
  have hl : lv_has ls 2 [(0, .ref (aS 0)), (1, .int x1)] := hl
  have hC : CallFix p m c cX6_isEmpty 2 s args wsX6_isEmpty RX6 := ⟨hx, hb, hml, hown, hts⟩
  have f21 : (Cond.fieldLink RX6 21 "IcePlant$Store" "sizes" "[I").before args s = true := hts _ (mC qf_X6_21)
  have iX6 : ∀ w ∈ wsX60, w ∈ wsX6_isEmpty := fun w h => mC (iA_X6 w h)
  have in_X8 : (Cond.initialized RX8).before args s = true := hts _ (mC qn_X8)
  have st_X8_valueAt : (Cond.static yX8_valueAt).before args s = true := hts _ (mC qs_X8_valueAt)
  unfold f_X6_isEmpty at hE
  refine lv_aload_n hx hb dX6_isEmpty_0 rfl (lv_at hl 0 rfl) ?_
  refine va_get (D := D) (ci := 6) (v := .ref (aS 6)) (C := RX6) (T := TX6) (N := 10) hx hb hts iX6 hown hK hP 0 rfl rfl 5 (by decide) f21 (fun _ h9 => h9) rfl dX6_isEmpty_1 ?_
  refine lv_iload_n hx hb dX6_isEmpty_4 rfl (lv_at hl 1 rfl) ?_
  obtain ⟨r_1, hc_2, hE⟩ := bd1_el hE
  refine ki (X := (List.take 4 (W_S cy aS imS))) (Y := (List.drop 5 (W_S cy aS imS))) (ws1 := (W_S cy aS imS)) (rSN (X := (List.take 4 (W_S cy aS imS))) (Y := (List.drop 5 (W_S cy aS imS))) (As := [.ref (aS 6), .int x1]) (rest := []) hC (c_X8_valueAt l D cy (aS 6) x1 (5) (imS 5) r_1 hc_2) (va_cnB 2 hts gX6_isEmpty_X8_valueAt_n47 rfl rfl rfl (hN.1 11 _ rfl) in_X8 cd_X8_valueAt.2 ⟨Nat.le_of_ble_eq_true rfl, Nat.le_of_ble_eq_true rfl⟩) st_X8_valueAt hK hN hP hD hS hA rfl rfl hl.1 rfl (lv_room (Nat.le_of_ble_eq_true rfl)) dX6_isEmpty_5 ⟨Nat.le_of_ble_eq_true rfl, Nat.le_of_ble_eq_true rfl⟩) hP hD hS hA rfl rfl rfl (fun H locs hP hD hS => ?_)
  refine lv_if_ne (tgt := 15) hx hb dX6_isEmpty_8 (by decide) (fun c_3 => ?_) (fun c_3 => ?_)
  · replace hE := it_f hE c_3
    refine lv_iconst (v := 0) hx hb dX6_isEmpty_15 (by decide) ?_
    have hE := Option.some.inj hE
    exact ez hx hb hr (by decide) hlocks hK hP hD hS hE rfl dX6_isEmpty_16
  · replace hE := it_t hE c_3
    refine lv_iconst (v := 1) hx hb dX6_isEmpty_11 (by decide) ?_
    refine lv_goto (tgt := 16) hx hb dX6_isEmpty_12 (by decide) ?_
    have hE := Option.some.inj hE
    exact ez hx hb hr (by decide) hlocks hK hP hD hS hE rfl dX6_isEmpty_16
abbrev rm_X6_hasRoom : Room := { frames := 1, cells := 0, slots := 0, locals := 21 }
set_option maxHeartbeats 40000000 in
set_option maxRecDepth 100000 in
theorem c_X6_hasRoom (l : Launch) (D : va_G) (cy : Nat → Nat) (aS : Nat → Nat) (x1 : Int32) (imS : Mem) (r' : Int32) (hE : f_X6_hasRoom x1 imS = some r') : CI l yX6_hasRoom wsX6_hasRoom rm_X6_hasRoom D cy [.ref (aS 0), .int x1] (W_S cy aS imS) 0 0 r' (W_S cy aS imS) := by
  refine CQ_of (cc := cX6_hasRoom) (maxL := 2) (ret := (some .boolean)) (by decide) rfl (Nat.le_of_ble_eq_true rfl) (fun p e s m args below meth c A ls hx hb hr hml hlocks hnm hown hts hA hK hN hP hD hS hl => ?_)
  have hown : s.vm.findClass RX6 = some m.cls := hown
  have hl : lv_has ls 2 [(0, .ref (aS 0)), (1, .int x1)] := hl
  have hC : CallFix p m c cX6_hasRoom 2 s args wsX6_hasRoom RX6 := ⟨hx, hb, hml, hown, hts⟩
  have f11 : (Cond.fieldLink RX6 11 "IcePlant$Store" "capacities" "[I").before args s = true := hts _ (mC qf_X6_11)
  have f21 : (Cond.fieldLink RX6 21 "IcePlant$Store" "sizes" "[I").before args s = true := hts _ (mC qf_X6_21)
  have iX6 : ∀ w ∈ wsX60, w ∈ wsX6_hasRoom := fun w h => mC (iA_X6 w h)
  have in_X8 : (Cond.initialized RX8).before args s = true := hts _ (mC qn_X8)
  have st_X8_valueAt : (Cond.static yX8_valueAt).before args s = true := hts _ (mC qs_X8_valueAt)
  unfold f_X6_hasRoom at hE
  refine lv_aload_n hx hb dX6_hasRoom_0 rfl (lv_at hl 0 rfl) ?_
  refine va_get (D := D) (ci := 6) (v := .ref (aS 6)) (C := RX6) (T := TX6) (N := 10) hx hb hts iX6 hown hK hP 0 rfl rfl 5 (by decide) f21 (fun _ h9 => h9) rfl dX6_hasRoom_1 ?_
  refine lv_iload_n hx hb dX6_hasRoom_4 rfl (lv_at hl 1 rfl) ?_
  obtain ⟨r_1, hc_2, hE⟩ := bd1_el hE
  refine ki (X := (List.take 4 (W_S cy aS imS))) (Y := (List.drop 5 (W_S cy aS imS))) (ws1 := (W_S cy aS imS)) (rSN (X := (List.take 4 (W_S cy aS imS))) (Y := (List.drop 5 (W_S cy aS imS))) (As := [.ref (aS 6), .int x1]) (rest := []) hC (c_X8_valueAt l D cy (aS 6) x1 (5) (imS 5) r_1 hc_2) (va_cnB 2 hts gX6_hasRoom_X8_valueAt_n47 rfl rfl rfl (hN.1 11 _ rfl) in_X8 cd_X8_valueAt.2 ⟨Nat.le_of_ble_eq_true rfl, Nat.le_of_ble_eq_true rfl⟩) st_X8_valueAt hK hN hP hD hS hA rfl rfl hl.1 rfl (lv_room (Nat.le_of_ble_eq_true rfl)) dX6_hasRoom_5 ⟨Nat.le_of_ble_eq_true rfl, Nat.le_of_ble_eq_true rfl⟩) hP hD hS hA rfl rfl rfl (fun H locs hP hD hS => ?_)
  refine lv_aload_n hx hb dX6_hasRoom_8 rfl (lv_at hl 0 rfl) ?_
  refine va_get (D := D) (ci := 6) (v := .ref (aS 3)) (C := RX6) (T := TX6) (N := 10) hx hb hts iX6 hown hK hP 0 rfl rfl 2 (by decide) f11 (fun _ h9 => h9) rfl dX6_hasRoom_9 ?_
  refine lv_iload_n hx hb dX6_hasRoom_12 rfl (lv_at hl 1 rfl) ?_
  obtain ⟨r_3, hc_4, hE⟩ := bd1_el hE
  refine ki (X := (List.take 1 (W_S cy aS imS))) (Y := (List.drop 2 (W_S cy aS imS))) (ws1 := (W_S cy aS imS)) (rSN (X := (List.take 1 (W_S cy aS imS))) (Y := (List.drop 2 (W_S cy aS imS))) (As := [.ref (aS 3), .int x1]) (rest := [.int r_1]) hC (c_X8_valueAt l D cy (aS 3) x1 (5) (imS 2) r_3 hc_4) (va_cnB 2 hts gX6_hasRoom_X8_valueAt_n47 rfl rfl rfl (hN.1 11 _ rfl) in_X8 cd_X8_valueAt.2 ⟨Nat.le_of_ble_eq_true rfl, Nat.le_of_ble_eq_true rfl⟩) st_X8_valueAt hK hN hP hD hS hA rfl rfl hl.1 rfl (lv_room (Nat.le_of_ble_eq_true rfl)) dX6_hasRoom_13 ⟨Nat.le_of_ble_eq_true rfl, Nat.le_of_ble_eq_true rfl⟩) hP hD hS hA rfl rfl rfl (fun H locs hP hD hS => ?_)
  refine lv_icmp_ge (tgt := 23) hx hb dX6_hasRoom_16 (by decide) (fun c_5 => ?_) (fun c_5 => ?_)
  · replace hE := it_t hE c_5
    refine lv_iconst (v := 0) hx hb dX6_hasRoom_23 (by decide) ?_
    have hE := Option.some.inj hE
    exact ez hx hb hr (by decide) hlocks hK hP hD hS hE rfl dX6_hasRoom_24
  · replace hE := it_f hE c_5
    refine lv_iconst (v := 1) hx hb dX6_hasRoom_19 (by decide) ?_
    refine lv_goto (tgt := 24) hx hb dX6_hasRoom_20 (by decide) ?_
    have hE := Option.some.inj hE
    exact ez hx hb hr (by decide) hlocks hK hP hD hS hE rfl dX6_hasRoom_24
abbrev rm_X6_slotOf : Room := { frames := 1, cells := 0, slots := 0, locals := 21 }
set_option maxHeartbeats 40000000 in
set_option maxRecDepth 100000 in
theorem c_X6_slotOf (l : Launch) (D : va_G) (cy : Nat → Nat) (aS : Nat → Nat) (x1 : Int32) (x2 : Int32) (imS : Mem) (r' : Int32) (hE : f_X6_slotOf x1 x2 imS = some r') : CI l yX6_slotOf wsX6_slotOf rm_X6_slotOf D cy [.ref (aS 0), .int x1, .int x2] (W_S cy aS imS) 0 0 r' (W_S cy aS imS) := by
  refine CQ_of (cc := cX6_slotOf) (maxL := 3) (ret := (some .int)) (by decide) rfl (Nat.le_of_ble_eq_true rfl) (fun p e s m args below meth c A ls hx hb hr hml hlocks hnm hown hts hA hK hN hP hD hS hl => ?_)
  have hown : s.vm.findClass RX6 = some m.cls := hown
  have hl : lv_has ls 3 [(0, .ref (aS 0)), (1, .int x1), (2, .int x2)] := hl
  have hC : CallFix p m c cX6_slotOf 3 s args wsX6_slotOf RX6 := ⟨hx, hb, hml, hown, hts⟩
  have f21 : (Cond.fieldLink RX6 21 "IcePlant$Store" "sizes" "[I").before args s = true := hts _ (mC qf_X6_21)
  have iX6 : ∀ w ∈ wsX60, w ∈ wsX6_slotOf := fun w h => mC (iA_X6 w h)
  unfold f_X6_slotOf at hE
  refine lv_aload_n hx hb dX6_slotOf_0 rfl (lv_at hl 0 rfl) ?_
  refine lv_iload_n hx hb dX6_slotOf_1 rfl (lv_at hl 1 rfl) ?_
  obtain ⟨r_1, hc_2, hE⟩ := bd1_el hE
  refine ki (X := []) (Y := []) (ws1 := (W_S cy aS imS)) (rV (X := []) (Y := []) (As := [.int x1]) (rest := []) hC (c_X6_hasSilo l D cy aS x1 imS r_1 hc_2) (cwV 1 hts gX6_slotOf_X6_hasSilo rfl rfl rfl cd_X6_hasSilo ⟨Nat.le_of_ble_eq_true rfl, Nat.le_of_ble_eq_true rfl⟩) hK hN hP hD hS hA rfl 0 6 rfl rfl rfl hl.1 rfl (lv_room (Nat.le_of_ble_eq_true rfl)) dX6_slotOf_2 ⟨Nat.le_of_ble_eq_true rfl, Nat.le_of_ble_eq_true rfl⟩) hP hD hS hA rfl rfl rfl (fun H locs hP hD hS => ?_)
  refine lv_if_eq (tgt := 22) hx hb dX6_slotOf_5 (by decide) (fun c_3 => ?_) (fun c_3 => ?_)
  · replace hE := it_t hE c_3
    refine lv_iconst (v := (-1)) hx hb dX6_slotOf_22 (by decide) ?_
    have hE := Option.some.inj hE
    exact ei hx hb hr hlocks hK hP hD hS hE rfl dX6_slotOf_23
  · replace hE := it_f hE c_3
    refine lv_iload_n hx hb dX6_slotOf_8 rfl (lv_at hl 2 rfl) ?_
    refine lv_if_lt (tgt := 22) hx hb dX6_slotOf_9 (by decide) (fun c_4 => ?_) (fun c_4 => ?_)
    · replace hE := it_t hE c_4
      refine lv_iconst (v := (-1)) hx hb dX6_slotOf_22 (by decide) ?_
      have hE := Option.some.inj hE
      exact ei hx hb hr hlocks hK hP hD hS hE rfl dX6_slotOf_23
    · replace hE := it_f hE c_4
      refine lv_iload_n hx hb dX6_slotOf_12 rfl (lv_at hl 2 rfl) ?_
      refine lv_aload_n hx hb dX6_slotOf_13 rfl (lv_at hl 0 rfl) ?_
      refine va_get (D := D) (ci := 6) (v := .ref (aS 6)) (C := RX6) (T := TX6) (N := 10) hx hb hts iX6 hown hK hP 0 rfl rfl 5 (by decide) f21 (fun _ h9 => h9) rfl dX6_slotOf_14 ?_
      refine lv_iload_n hx hb dX6_slotOf_17 rfl (lv_at hl 1 rfl) ?_
      obtain ⟨g_5, hE⟩ := gi_el hE
      refine va_iald hx hb hK hP 4 0 rfl rfl g_5 dX6_slotOf_18 ?_
      refine lv_icmp_lt (tgt := 24) hx hb dX6_slotOf_19 (by decide) (fun c_6 => ?_) (fun c_6 => ?_)
      · replace hE := it_t hE c_6
        refine lv_iload_n hx hb dX6_slotOf_24 rfl (lv_at hl 1 rfl) ?_
        refine lv_bipush (v := 30) hx hb dX6_slotOf_25 (by decide) ?_
        refine lv_imul hx hb dX6_slotOf_27 ?_
        refine lv_iload_n hx hb dX6_slotOf_28 rfl (lv_at hl 2 rfl) ?_
        refine lv_iadd hx hb dX6_slotOf_29 ?_
        have hE := Option.some.inj hE
        exact ei hx hb hr hlocks hK hP hD hS hE rfl dX6_slotOf_30
      · replace hE := it_f hE c_6
        refine lv_iconst (v := (-1)) hx hb dX6_slotOf_22 (by decide) ?_
        have hE := Option.some.inj hE
        exact ei hx hb hr hlocks hK hP hD hS hE rfl dX6_slotOf_23
abbrev rm_X6_fillSlot : Room := { frames := 0, cells := 0, slots := 0, locals := 0 }
set_option maxHeartbeats 40000000 in
set_option maxRecDepth 100000 in
theorem c_X6_fillSlot (l : Launch) (D : va_G) (cy : Nat → Nat) (aS : Nat → Nat) (x1 : Int32) (x2 : Int32) (x3 : Int32) (x4 : Int32) (imS : Mem) (mS' : Mem) (hE : f_X6_fillSlot x1 x2 x3 x4 imS = some mS') : CV l yX6_fillSlot wsX6_fillSlot rm_X6_fillSlot D cy [.ref (aS 0), .int x1, .int x2, .int x3, .int x4] (W_S cy aS imS) 0 0 (W_S cy aS mS') := by
  refine CQ_of (cc := cX6_fillSlot) (maxL := 5) (ret := none) (by decide) rfl (Nat.le_of_ble_eq_true rfl) (fun p e s m args below meth c A ls hx hb hr hml hlocks hnm hown hts hA hK hN hP hD hS hl => ?_)
  have hown : s.vm.findClass RX6 = some m.cls := hown
  have hl : lv_has ls 5 [(0, .ref (aS 0)), (1, .int x1), (2, .int x2), (3, .int x3), (4, .int x4)] := hl
  have f27 : (Cond.fieldLink RX6 27 "IcePlant$Store" "serials" "[I").before args s = true := hts _ (mC qf_X6_27)
  have f30 : (Cond.fieldLink RX6 30 "IcePlant$Store" "masses" "[I").before args s = true := hts _ (mC qf_X6_30)
  have f33 : (Cond.fieldLink RX6 33 "IcePlant$Store" "ages" "[I").before args s = true := hts _ (mC qf_X6_33)
  have iX6 : ∀ w ∈ wsX60, w ∈ wsX6_fillSlot := fun w h => mC (iA_X6 w h)
  unfold f_X6_fillSlot at hE
  refine lv_aload_n hx hb dX6_fillSlot_0 rfl (lv_at hl 0 rfl) ?_
  refine va_get (D := D) (ci := 6) (v := .ref (aS 8)) (C := RX6) (T := TX6) (N := 10) hx hb hts iX6 hown hK hP 0 rfl rfl 7 (by decide) f27 (fun _ h9 => h9) rfl dX6_fillSlot_1 ?_
  refine lv_iload_n hx hb dX6_fillSlot_4 rfl (lv_at hl 1 rfl) ?_
  refine lv_iload_n hx hb dX6_fillSlot_5 rfl (lv_at hl 2 rfl) ?_
  obtain ⟨g_2, hE⟩ := gi_el hE
  obtain ⟨mS_1, e_mS_1, hE⟩ := lt_el hE
  refine s_ia (ws1 := (W_S cy aS mS_1)) hx hb hK hP hD hS 6 rfl g_2 (by rw [e_mS_1]; rfl) dX6_fillSlot_6 (fun H locs hP hD hS => ?_)
  refine lv_aload_n hx hb dX6_fillSlot_7 rfl (lv_at hl 0 rfl) ?_
  refine va_get (D := D) (ci := 6) (v := .ref (aS 9)) (C := RX6) (T := TX6) (N := 10) hx hb hts iX6 hown hK hP 0 rfl rfl 8 (by decide) f30 (fun _ h9 => h9) rfl dX6_fillSlot_8 ?_
  refine lv_iload_n hx hb dX6_fillSlot_11 rfl (lv_at hl 1 rfl) ?_
  refine lv_iload_n hx hb dX6_fillSlot_12 rfl (lv_at hl 3 rfl) ?_
  obtain ⟨g_4, hE⟩ := gi_el hE
  obtain ⟨mS_3, e_mS_3, hE⟩ := lt_el hE
  refine s_ia (ws1 := (W_S cy aS mS_3)) hx hb hK hP hD hS 7 rfl g_4 (by rw [e_mS_3]; rfl) dX6_fillSlot_13 (fun H locs hP hD hS => ?_)
  refine lv_aload_n hx hb dX6_fillSlot_14 rfl (lv_at hl 0 rfl) ?_
  refine va_get (D := D) (ci := 6) (v := .ref (aS 10)) (C := RX6) (T := TX6) (N := 10) hx hb hts iX6 hown hK hP 0 rfl rfl 9 (by decide) f33 (fun _ h9 => h9) rfl dX6_fillSlot_15 ?_
  refine lv_iload_n hx hb dX6_fillSlot_18 rfl (lv_at hl 1 rfl) ?_
  refine lv_iload hx hb dX6_fillSlot_19 (lv_at hl 4 rfl) ?_
  obtain ⟨g_6, hE⟩ := gi_el hE
  obtain ⟨mS_5, e_mS_5, hE⟩ := lt_el hE
  refine s_ia (ws1 := (W_S cy aS mS_5)) hx hb hK hP hD hS 8 rfl g_6 (by rw [e_mS_5]; rfl) dX6_fillSlot_21 (fun H locs hP hD hS => ?_)
  have hE := Option.some.inj hE
  exact ev hx hb hr hlocks hK hP hD hS (by rw [hE]) dX6_fillSlot_22
abbrev rm_X6_lossOf : Room := { frames := 0, cells := 0, slots := 0, locals := 0 }
set_option maxHeartbeats 40000000 in
set_option maxRecDepth 100000 in
theorem c_X6_lossOf (l : Launch) (D : va_G) (cy : Nat → Nat) (aS : Nat → Nat) (x1 : Int32) (x2 : Int32) (x3 : Int32) (x4 : Int32) (imS : Mem) (r' : Int32) (hE : f_X6_lossOf x1 x2 x3 x4 imS = some r') : CI l yX6_lossOf wsX6_lossOf rm_X6_lossOf D cy [.ref (aS 0), .int x1, .int x2, .int x3, .int x4] (W_S cy aS imS) 0 0 r' (W_S cy aS imS) := by
  refine CQ_of (cc := cX6_lossOf) (maxL := 6) (ret := (some .int)) (by decide) rfl (Nat.le_of_ble_eq_true rfl) (fun p e s m args below meth c A ls hx hb hr hml hlocks hnm hown hts hA hK hN hP hD hS hl => ?_)
  have hown : s.vm.findClass RX6 = some m.cls := hown
  have hl : lv_has ls 6 [(0, .ref (aS 0)), (1, .int x1), (2, .int x2), (3, .int x3), (4, .int x4)] := hl
  have f15 : (Cond.fieldLink RX6 15 "IcePlant$Store" "rules" "[I").before args s = true := hts _ (mC qf_X6_15)
  have f18 : (Cond.fieldLink RX6 18 "IcePlant$Store" "strengths" "[I").before args s = true := hts _ (mC qf_X6_18)
  have iX6 : ∀ w ∈ wsX60, w ∈ wsX6_lossOf := fun w h => mC (iA_X6 w h)
  unfold f_X6_lossOf at hE
  refine lv_aload_n hx hb dX6_lossOf_0 rfl (lv_at hl 0 rfl) ?_
  refine va_get (D := D) (ci := 6) (v := .ref (aS 5)) (C := RX6) (T := TX6) (N := 10) hx hb hts iX6 hown hK hP 0 rfl rfl 4 (by decide) f18 (fun _ h9 => h9) rfl dX6_lossOf_1 ?_
  refine lv_iload_n hx hb dX6_lossOf_4 rfl (lv_at hl 1 rfl) ?_
  obtain ⟨g_1, hE⟩ := gi_el hE
  refine va_iald hx hb hK hP 3 0 rfl rfl g_1 dX6_lossOf_5 ?_
  obtain ⟨x5_2, e_x5_2, hE⟩ := lt_el hE
  refine s_nm e_x5_2 ?_
  refine lv_istore (lv' := [(5, .int x5_2), (0, .ref (aS 0)), (1, .int x1), (2, .int x2), (3, .int x3), (4, .int x4)]) hx hb dX6_lossOf_6 hl (by decide) rfl (fun ls hl => ?_)
  refine lv_aload_n hx hb dX6_lossOf_8 rfl (lv_at hl 1 rfl) ?_
  refine va_get (D := D) (ci := 6) (v := .ref (aS 4)) (C := RX6) (T := TX6) (N := 10) hx hb hts iX6 hown hK hP 0 rfl rfl 3 (by decide) f15 (fun _ h9 => h9) rfl dX6_lossOf_9 ?_
  refine lv_iload_n hx hb dX6_lossOf_12 rfl (lv_at hl 2 rfl) ?_
  obtain ⟨g_3, hE⟩ := gi_el hE
  refine va_iald hx hb hK hP 2 0 rfl rfl g_3 dX6_lossOf_13 ?_
  by_cases c_5_0 : (imS 3 x1.toNatClampNeg) = 0
  · replace hE := it_t hE c_5_0
    refine lv_tableIn (tgt := 40) hx hb dX6_lossOf_14 (by rw [c_5_0]; decide) (by rw [c_5_0]; decide) (off := 26) (by rw [c_5_0]; decide) (by decide) ?_
    refine lv_iload hx hb dX6_lossOf_40 (lv_at hl 0 rfl) ?_
    have hE := Option.some.inj hE
    exact ei hx hb hr hlocks hK hP hD hS hE rfl dX6_lossOf_42
  · replace hE := it_f hE c_5_0
    by_cases c_5_1 : (imS 3 x1.toNatClampNeg) = 1
    · replace hE := it_t hE c_5_1
      refine lv_tableIn (tgt := 43) hx hb dX6_lossOf_14 (by rw [c_5_1]; decide) (by rw [c_5_1]; decide) (off := 29) (by rw [c_5_1]; decide) (by decide) ?_
      refine lv_iload_n hx hb dX6_lossOf_43 rfl (lv_at hl 3 rfl) ?_
      refine lv_iload hx hb dX6_lossOf_44 (lv_at hl 0 rfl) ?_
      refine lv_imul hx hb dX6_lossOf_46 ?_
      refine lv_bipush (v := 99) hx hb dX6_lossOf_47 (by decide) ?_
      refine lv_iadd hx hb dX6_lossOf_49 ?_
      refine lv_bipush (v := 100) hx hb dX6_lossOf_50 (by decide) ?_
      refine lv_idiv hx hb dX6_lossOf_52 (by decide) ?_
      have hE := Option.some.inj hE
      exact ei hx hb hr hlocks hK hP hD hS hE rfl dX6_lossOf_53
    · replace hE := it_f hE c_5_1
      by_cases c_5_2 : (imS 3 x1.toNatClampNeg) = 2
      · replace hE := it_t hE c_5_2
        refine lv_tableIn (tgt := 54) hx hb dX6_lossOf_14 (by rw [c_5_2]; decide) (by rw [c_5_2]; decide) (off := 40) (by rw [c_5_2]; decide) (by decide) ?_
        refine lv_iload hx hb dX6_lossOf_54 (lv_at hl 5 rfl) ?_
        refine lv_iload hx hb dX6_lossOf_56 (lv_at hl 0 rfl) ?_
        refine lv_imul hx hb dX6_lossOf_58 ?_
        refine lv_bipush (v := 20) hx hb dX6_lossOf_59 (by decide) ?_
        refine lv_idiv hx hb dX6_lossOf_61 (by decide) ?_
        have hE := Option.some.inj hE
        exact ei hx hb hr hlocks hK hP hD hS hE rfl dX6_lossOf_62
      · replace hE := it_f hE c_5_2
        refine lv_tableOut (tgt := 63) hx hb dX6_lossOf_14 (sw_out (lo := 0) (hi := 2) (fun z h1 h2 => ?_)) (by decide) ?_
        · rcases (show z = 0 ∨ z = 1 ∨ z = 2 by omega) with rfl | rfl | rfl
          · exact fun q9 => c_5_0 (q9.trans (by decide))
          · exact fun q9 => c_5_1 (q9.trans (by decide))
          · exact fun q9 => c_5_2 (q9.trans (by decide))
        · refine lv_iload_n hx hb dX6_lossOf_63 rfl (lv_at hl 4 rfl) ?_
          refine lv_if_eq (tgt := 72) hx hb dX6_lossOf_64 (by decide) (fun c_4 => ?_) (fun c_4 => ?_)
          · replace hE := it_t hE c_4
            refine lv_iconst (v := 0) hx hb dX6_lossOf_72 (by decide) ?_
            have hE := Option.some.inj hE
            exact ei hx hb hr hlocks hK hP hD hS hE rfl dX6_lossOf_73
          · replace hE := it_f hE c_4
            refine lv_iload hx hb dX6_lossOf_67 (lv_at hl 0 rfl) ?_
            refine lv_goto (tgt := 73) hx hb dX6_lossOf_69 (by decide) ?_
            have hE := Option.some.inj hE
            exact ei hx hb hr hlocks hK hP hD hS hE rfl dX6_lossOf_73
abbrev rm_X6_meltSilo : Room := { frames := 1, cells := 0, slots := 0, locals := 25 }
set_option maxHeartbeats 40000000 in
set_option maxRecDepth 100000 in
theorem c_X6_meltSilo (l : Launch) (D : va_G) (cy : Nat → Nat) (aS : Nat → Nat) (x1 : Int32) (x2 : Int32) (imS : Mem) (mS' : Mem) (hE : f_X6_meltSilo x1 x2 imS = some mS') : CV l yX6_meltSilo wsX6_meltSilo rm_X6_meltSilo D cy [.ref (aS 0), .int x1, .int x2] (W_S cy aS imS) 0 0 (W_S cy aS mS') := by
  refine CQ_of (cc := cX6_meltSilo) (maxL := 9) (ret := none) (by decide) rfl (Nat.le_of_ble_eq_true rfl) (fun p e s m args below meth c A ls hx hb hr hml hlocks hnm hown hts hA hK hN hP hD hS hl => ?_)
  have hown : s.vm.findClass RX6 = some m.cls := hown
  have hl : lv_has ls 9 [(0, .ref (aS 0)), (1, .int x1), (2, .int x2)] := hl
  have hC : CallFix p m c cX6_meltSilo 9 s args wsX6_meltSilo RX6 := ⟨hx, hb, hml, hown, hts⟩
  have f21 : (Cond.fieldLink RX6 21 "IcePlant$Store" "sizes" "[I").before args s = true := hts _ (mC qf_X6_21)
  have f24 : (Cond.fieldLink RX6 24 "IcePlant$Store" "melted" "[I").before args s = true := hts _ (mC qf_X6_24)
  have f27 : (Cond.fieldLink RX6 27 "IcePlant$Store" "serials" "[I").before args s = true := hts _ (mC qf_X6_27)
  have f30 : (Cond.fieldLink RX6 30 "IcePlant$Store" "masses" "[I").before args s = true := hts _ (mC qf_X6_30)
  have f33 : (Cond.fieldLink RX6 33 "IcePlant$Store" "ages" "[I").before args s = true := hts _ (mC qf_X6_33)
  have iX6 : ∀ w ∈ wsX60, w ∈ wsX6_meltSilo := fun w h => mC (iA_X6 w h)
  have h139 : ∀ (x1 : Int32) (x2 : Int32) (x3 : Int32) (x4 : Int32) (x5 : Int32) (x6 : Int32) (mS : Mem), ∀ (k23 : (Int32 → Int32 → Mem → Option (Mem))), (∀ (x5 : Int32) (x6 : Int32) (mS : Mem) (H : Heap) (locs : List Loc) (ls : Array Slot), k23 x5 x6 mS = some mS' → va_P D vwCl (W_S cy aS mS) H → va_D A (W_S cy aS mS) → va_S A s.heap H locs → lv_has ls 9 [(0, .ref (aS 0)), (1, .int x1), (2, .int x2), (3, .int x3), (4, .int x4), (5, .int x5), (6, .int x6)] → W p l e rm_X6_meltSilo s m args below meth c H locs 0 0 (MQ below (QV D cy (W_S cy aS mS') A) args s 0 0 A) (F0 m 23 ls [])) → ∀  (H : Heap) (locs : List Loc) (ls : Array Slot), f_X6_meltSilo_b139 k23 x1 x2 x3 x4 x5 x6 mS = some mS' → va_P D vwCl (W_S cy aS mS) H → va_D A (W_S cy aS mS) → va_S A s.heap H locs → lv_has ls 9 [(0, .ref (aS 0)), (1, .int x1), (2, .int x2), (3, .int x3), (4, .int x4), (5, .int x5), (6, .int x6)] → W p l e rm_X6_meltSilo s m args below meth c H locs 0 0 (MQ below (QV D cy (W_S cy aS mS') A) args s 0 0 A) (F0 m 139 ls []) := by
    intro x1 x2 x3 x4 x5 x6 mS k23 hk23 H locs ls hE hP hD hS hl
    replace hE : (lt' (x6 + (1 : Int32)) fun x6_1 => k23 x5 x6_1 mS) = some mS' := hE
    obtain ⟨x6_1, e_x6_1, hE⟩ := lt_el hE
    refine lv_iinc (v := x6_1) (lv' := [(6, .int x6_1), (0, .ref (aS 0)), (1, .int x1), (2, .int x2), (3, .int x3), (4, .int x4), (5, .int x5)]) hx hb dX6_meltSilo_139 hl (k := 6) rfl (by rw [e_x6_1]; rfl) (by decide) rfl (fun ls hl => ?_)
    refine lv_goto (tgt := 23) hx hb dX6_meltSilo_142 (by decide) ?_
    exact hk23 x5 x6_1 mS _ _ _ hE hP hD hS (lv_sub hl [1, 2, 3, 4, 5, 6, 0] rfl)
  have h81 : ∀ (x1 : Int32) (x2 : Int32) (x3 : Int32) (x4 : Int32) (x5 : Int32) (x6 : Int32) (t0 : Int32) (mS : Mem), ∀ (k23 : (Int32 → Int32 → Mem → Option (Mem))), (∀ (x5 : Int32) (x6 : Int32) (mS : Mem) (H : Heap) (locs : List Loc) (ls : Array Slot), k23 x5 x6 mS = some mS' → va_P D vwCl (W_S cy aS mS) H → va_D A (W_S cy aS mS) → va_S A s.heap H locs → lv_has ls 9 [(0, .ref (aS 0)), (1, .int x1), (2, .int x2), (3, .int x3), (4, .int x4), (5, .int x5), (6, .int x6)] → W p l e rm_X6_meltSilo s m args below meth c H locs 0 0 (MQ below (QV D cy (W_S cy aS mS') A) args s 0 0 A) (F0 m 23 ls [])) → ∀  (H : Heap) (locs : List Loc) (ls : Array Slot), f_X6_meltSilo_b81 k23 x1 x2 x3 x4 x5 x6 t0 mS = some mS' → va_P D vwCl (W_S cy aS mS) H → va_D A (W_S cy aS mS) → va_S A s.heap H locs → lv_has ls 9 [(0, .ref (aS 0)), (1, .int x1), (2, .int x2), (3, .int x3), (4, .int x4), (5, .int x5), (6, .int x6)] → W p l e rm_X6_meltSilo s m args below meth c H locs 0 0 (MQ below (QV D cy (W_S cy aS mS') A) args s 0 0 A) (F0 m 81 ls [.int t0]) := by
    intro x1 x2 x3 x4 x5 x6 t0 mS k23 hk23 H locs ls hE hP hD hS hl
    replace hE : (gi x1 5 (gi x1 5 (lt' (wrI mS 6 (upd (mS 6) x1.toNatClampNeg ((mS 6 x1.toNatClampNeg) + t0))) fun mS_3 => gi x6 150 ((if (mS_3 8 x6.toNatClampNeg) ≤ t0 then f_X6_meltSilo_b139 k23 x1 x2 x3 x4 x5 x6 mS_3 else gi x6 150 (gi x6 150 (gi x6 150 (bd1 (f_X6_fillSlot x5 (mS_3 7 x6.toNatClampNeg) ((mS_3 8 x6.toNatClampNeg) - t0) (mS_3 9 x6.toNatClampNeg) mS_3) fun mS_10 => lt' (x5 + (1 : Int32)) fun x5_12 => f_X6_meltSilo_b139 k23 x1 x2 x3 x4 x5_12 x6 mS_10)))))))) = some mS' := hE
    refine lv_istore (lv' := [(8, .int t0), (0, .ref (aS 0)), (1, .int x1), (2, .int x2), (3, .int x3), (4, .int x4), (5, .int x5), (6, .int x6)]) hx hb dX6_meltSilo_81 hl (by decide) rfl (fun ls hl => ?_)
    refine lv_aload_n hx hb dX6_meltSilo_83 rfl (lv_at hl 1 rfl) ?_
    refine va_get (D := D) (ci := 6) (v := .ref (aS 7)) (C := RX6) (T := TX6) (N := 10) hx hb hts iX6 hown hK hP 0 rfl rfl 6 (by decide) f24 (fun _ h9 => h9) rfl dX6_meltSilo_84 ?_
    refine lv_iload_n hx hb dX6_meltSilo_87 rfl (lv_at hl 2 rfl) ?_
    refine lv_dup2_11 hx hb dX6_meltSilo_88 rfl rfl ?_
    obtain ⟨g_2, hE⟩ := gi_el hE
    refine va_iald hx hb hK hP 5 0 rfl rfl g_2 dX6_meltSilo_89 ?_
    refine lv_iload hx hb dX6_meltSilo_90 (lv_at hl 0 rfl) ?_
    refine lv_iadd hx hb dX6_meltSilo_92 ?_
    obtain ⟨g_4, hE⟩ := gi_el hE
    obtain ⟨mS_3, e_mS_3, hE⟩ := lt_el hE
    refine s_ia (ws1 := (W_S cy aS mS_3)) hx hb hK hP hD hS 5 rfl g_4 (by rw [e_mS_3]; rfl) dX6_meltSilo_93 (fun H locs hP hD hS => ?_)
    refine lv_iload hx hb dX6_meltSilo_94 (lv_at hl 0 rfl) ?_
    refine lv_aload_n hx hb dX6_meltSilo_96 rfl (lv_at hl 1 rfl) ?_
    refine va_get (D := D) (ci := 6) (v := .ref (aS 9)) (C := RX6) (T := TX6) (N := 10) hx hb hts iX6 hown hK hP 0 rfl rfl 8 (by decide) f30 (fun _ h9 => h9) rfl dX6_meltSilo_97 ?_
    refine lv_iload hx hb dX6_meltSilo_100 (lv_at hl 7 rfl) ?_
    obtain ⟨g_5, hE⟩ := gi_el hE
    refine va_iald hx hb hK hP 7 0 rfl rfl g_5 dX6_meltSilo_102 ?_
    refine lv_icmp_ge (tgt := 139) hx hb dX6_meltSilo_103 (by decide) (fun c_6 => ?_) (fun c_6 => ?_)
    · replace hE := it_t hE c_6
      exact h139 x1 x2 x3 x4 x5 x6 mS_3 k23 hk23 _ _ _ hE hP hD hS (lv_sub hl [1, 2, 3, 4, 5, 6, 7] rfl)
    · replace hE := it_f hE c_6
      refine lv_aload_n hx hb dX6_meltSilo_106 rfl (lv_at hl 1 rfl) ?_
      refine lv_iload hx hb dX6_meltSilo_107 (lv_at hl 6 rfl) ?_
      refine lv_aload_n hx hb dX6_meltSilo_109 rfl (lv_at hl 1 rfl) ?_
      refine va_get (D := D) (ci := 6) (v := .ref (aS 8)) (C := RX6) (T := TX6) (N := 10) hx hb hts iX6 hown hK hP 0 rfl rfl 7 (by decide) f27 (fun _ h9 => h9) rfl dX6_meltSilo_110 ?_
      refine lv_iload hx hb dX6_meltSilo_113 (lv_at hl 7 rfl) ?_
      obtain ⟨g_7, hE⟩ := gi_el hE
      refine va_iald hx hb hK hP 6 0 rfl rfl g_7 dX6_meltSilo_115 ?_
      refine lv_aload_n hx hb dX6_meltSilo_116 rfl (lv_at hl 1 rfl) ?_
      refine va_get (D := D) (ci := 6) (v := .ref (aS 9)) (C := RX6) (T := TX6) (N := 10) hx hb hts iX6 hown hK hP 0 rfl rfl 8 (by decide) f30 (fun _ h9 => h9) rfl dX6_meltSilo_117 ?_
      refine lv_iload hx hb dX6_meltSilo_120 (lv_at hl 7 rfl) ?_
      obtain ⟨g_8, hE⟩ := gi_el hE
      refine va_iald hx hb hK hP 7 0 rfl rfl g_8 dX6_meltSilo_122 ?_
      refine lv_iload hx hb dX6_meltSilo_123 (lv_at hl 0 rfl) ?_
      refine lv_isub hx hb dX6_meltSilo_125 ?_
      refine lv_aload_n hx hb dX6_meltSilo_126 rfl (lv_at hl 1 rfl) ?_
      refine va_get (D := D) (ci := 6) (v := .ref (aS 10)) (C := RX6) (T := TX6) (N := 10) hx hb hts iX6 hown hK hP 0 rfl rfl 9 (by decide) f33 (fun _ h9 => h9) rfl dX6_meltSilo_127 ?_
      refine lv_iload hx hb dX6_meltSilo_130 (lv_at hl 7 rfl) ?_
      obtain ⟨g_9, hE⟩ := gi_el hE
      refine va_iald hx hb hK hP 8 0 rfl rfl g_9 dX6_meltSilo_132 ?_
      obtain ⟨mS_10, hc_11, hE⟩ := bd1_el hE
      refine kv (X := []) (Y := []) (ws1 := (W_S cy aS mS_10)) (rV (X := []) (Y := []) (As := [.int x5, .int (mS_3 7 x6.toNatClampNeg), .int ((mS_3 8 x6.toNatClampNeg) - t0), .int (mS_3 9 x6.toNatClampNeg)]) (rest := []) hC (c_X6_fillSlot l D cy aS x5 (mS_3 7 x6.toNatClampNeg) ((mS_3 8 x6.toNatClampNeg) - t0) (mS_3 9 x6.toNatClampNeg) mS_3 mS_10 hc_11) (cwV 4 hts gX6_meltSilo_X6_fillSlot rfl rfl rfl cd_X6_fillSlot ⟨Nat.le_of_ble_eq_true rfl, Nat.le_of_ble_eq_true rfl⟩) hK hN hP hD hS hA rfl 0 6 rfl rfl rfl hl.1 rfl (lv_room (Nat.le_of_ble_eq_true rfl)) dX6_meltSilo_133 ⟨Nat.le_of_ble_eq_true rfl, Nat.le_of_ble_eq_true rfl⟩) hP hD hS hA rfl rfl rfl (fun H locs hP hD hS => ?_)
      obtain ⟨x5_12, e_x5_12, hE⟩ := lt_el hE
      refine lv_iinc (v := x5_12) (lv' := [(5, .int x5_12), (8, .int t0), (0, .ref (aS 0)), (1, .int x1), (2, .int x2), (3, .int x3), (4, .int x4), (6, .int x6)]) hx hb dX6_meltSilo_136 hl (k := 6) rfl (by rw [e_x5_12]; rfl) (by decide) rfl (fun ls hl => ?_)
      exact h139 x1 x2 x3 x4 x5_12 x6 mS_10 k23 hk23 _ _ _ hE hP hD hS (lv_sub hl [2, 3, 4, 5, 6, 0, 7] rfl)
  have h51 : ∀ (x1 : Int32) (x2 : Int32) (x3 : Int32) (x4 : Int32) (x5 : Int32) (x6 : Int32) (t0 : Int32) (t1 : Int32) (t2 : Int32) (mS : Mem), ∀ (k23 : (Int32 → Int32 → Mem → Option (Mem))), (∀ (x5 : Int32) (x6 : Int32) (mS : Mem) (H : Heap) (locs : List Loc) (ls : Array Slot), k23 x5 x6 mS = some mS' → va_P D vwCl (W_S cy aS mS) H → va_D A (W_S cy aS mS) → va_S A s.heap H locs → lv_has ls 9 [(0, .ref (aS 0)), (1, .int x1), (2, .int x2), (3, .int x3), (4, .int x4), (5, .int x5), (6, .int x6)] → W p l e rm_X6_meltSilo s m args below meth c H locs 0 0 (MQ below (QV D cy (W_S cy aS mS') A) args s 0 0 A) (F0 m 23 ls [])) → ∀  (H : Heap) (locs : List Loc) (ls : Array Slot), f_X6_meltSilo_b51 k23 x1 x2 x3 x4 x5 x6 t0 t1 t2 mS = some mS' → va_P D vwCl (W_S cy aS mS) H → va_D A (W_S cy aS mS) → va_S A s.heap H locs → lv_has ls 9 [(0, .ref (aS 0)), (1, .int x1), (2, .int x2), (3, .int x3), (4, .int x4), (5, .int x5), (6, .int x6)] → W p l e rm_X6_meltSilo s m args below meth c H locs 0 0 (MQ below (QV D cy (W_S cy aS mS') A) args s 0 0 A) (F0 m 51 ls [.int t0, .int t1, .int t2, .ref (aS 0)]) := by
    intro x1 x2 x3 x4 x5 x6 t0 t1 t2 mS k23 hk23 H locs ls hE hP hD hS hl
    replace hE : (bd1 (f_X6_lossOf t2 t1 t0 x2 mS) fun r_13 => gi x6 150 ((if (mS 8 x6.toNatClampNeg) ≤ r_13 then gi x6 150 (f_X6_meltSilo_b81 k23 x1 x2 x3 x4 x5 x6 (mS 8 x6.toNatClampNeg) mS) else f_X6_meltSilo_b81 k23 x1 x2 x3 x4 x5 x6 r_13 mS))) = some mS' := hE
    refine lv_iload_n hx hb dX6_meltSilo_51 rfl (lv_at hl 2 rfl) ?_
    obtain ⟨r_13, hc_14, hE⟩ := bd1_el hE
    refine ki (X := []) (Y := []) (ws1 := (W_S cy aS mS)) (rV (X := []) (Y := []) (As := [.int t2, .int t1, .int t0, .int x2]) (rest := []) hC (c_X6_lossOf l D cy aS t2 t1 t0 x2 mS r_13 hc_14) (cwV 4 hts gX6_meltSilo_X6_lossOf rfl rfl rfl cd_X6_lossOf ⟨Nat.le_of_ble_eq_true rfl, Nat.le_of_ble_eq_true rfl⟩) hK hN hP hD hS hA rfl 0 6 rfl rfl rfl hl.1 rfl (lv_room (Nat.le_of_ble_eq_true rfl)) dX6_meltSilo_52 ⟨Nat.le_of_ble_eq_true rfl, Nat.le_of_ble_eq_true rfl⟩) hP hD hS hA rfl rfl rfl (fun H locs hP hD hS => ?_)
    refine lv_istore (lv' := [(7, .int r_13), (0, .ref (aS 0)), (1, .int x1), (2, .int x2), (3, .int x3), (4, .int x4), (5, .int x5), (6, .int x6)]) hx hb dX6_meltSilo_55 hl (by decide) rfl (fun ls hl => ?_)
    refine lv_iload hx hb dX6_meltSilo_57 (lv_at hl 0 rfl) ?_
    refine lv_aload_n hx hb dX6_meltSilo_59 rfl (lv_at hl 1 rfl) ?_
    refine va_get (D := D) (ci := 6) (v := .ref (aS 9)) (C := RX6) (T := TX6) (N := 10) hx hb hts iX6 hown hK hP 0 rfl rfl 8 (by decide) f30 (fun _ h9 => h9) rfl dX6_meltSilo_60 ?_
    refine lv_iload hx hb dX6_meltSilo_63 (lv_at hl 7 rfl) ?_
    obtain ⟨g_15, hE⟩ := gi_el hE
    refine va_iald hx hb hK hP 7 0 rfl rfl g_15 dX6_meltSilo_65 ?_
    refine lv_icmp_ge (tgt := 74) hx hb dX6_meltSilo_66 (by decide) (fun c_16 => ?_) (fun c_16 => ?_)
    · replace hE := it_t hE c_16
      refine lv_aload_n hx hb dX6_meltSilo_74 rfl (lv_at hl 1 rfl) ?_
      refine va_get (D := D) (ci := 6) (v := .ref (aS 9)) (C := RX6) (T := TX6) (N := 10) hx hb hts iX6 hown hK hP 0 rfl rfl 8 (by decide) f30 (fun _ h9 => h9) rfl dX6_meltSilo_75 ?_
      refine lv_iload hx hb dX6_meltSilo_78 (lv_at hl 7 rfl) ?_
      obtain ⟨g_17, hE⟩ := gi_el hE
      refine va_iald hx hb hK hP 7 0 rfl rfl g_17 dX6_meltSilo_80 ?_
      exact h81 x1 x2 x3 x4 x5 x6 (mS 8 x6.toNatClampNeg) mS k23 hk23 _ _ _ hE hP hD hS (lv_sub hl [1, 2, 3, 4, 5, 6, 7] rfl)
    · replace hE := it_f hE c_16
      refine lv_iload hx hb dX6_meltSilo_69 (lv_at hl 0 rfl) ?_
      refine lv_goto (tgt := 81) hx hb dX6_meltSilo_71 (by decide) ?_
      exact h81 x1 x2 x3 x4 x5 x6 r_13 mS k23 hk23 _ _ _ hE hP hD hS (lv_sub hl [1, 2, 3, 4, 5, 6, 7] rfl)
  have h23 : ∀ (x1 : Int32) (x2 : Int32) (x3 : Int32) (x4 : Int32), ∀ (n : Nat), ∀ (x5 : Int32) (x6 : Int32) (mS : Mem) (H : Heap) (locs : List Loc) (ls : Array Slot), f_X6_meltSilo_L23 x1 x2 x3 x4 n x5 x6 mS = some mS' → va_P D vwCl (W_S cy aS mS) H → va_D A (W_S cy aS mS) → va_S A s.heap H locs → lv_has ls 9 [(0, .ref (aS 0)), (1, .int x1), (2, .int x2), (3, .int x3), (4, .int x4), (5, .int x5), (6, .int x6)] → W p l e rm_X6_meltSilo s m args below meth c H locs 0 0 (MQ below (QV D cy (W_S cy aS mS') A) args s 0 0 A) (F0 m 23 ls []) := by
    intro x1 x2 x3 x4 n
    induction n with
    | zero => intro x5 x6 mS H locs ls hE; exact absurd hE (fun h9 => nomatch h9)
    | succ n ih =>
      intro x5 x6 mS H locs ls hE hP hD hS hl
      replace hE : ((if x4 < x6 then gi x1 5 (lt' (wrI mS 5 (upd (mS 5) x1.toNatClampNeg (x5 - x3))) fun mS_19 => some mS_19) else gi x6 150 ((if x6 = x4 then f_X6_meltSilo_b51 (f_X6_meltSilo_L23 x1 x2 x3 x4 n) x1 x2 x3 x4 x5 x6 (1 : Int32) (mS 8 x6.toNatClampNeg) x1 mS else f_X6_meltSilo_b51 (f_X6_meltSilo_L23 x1 x2 x3 x4 n) x1 x2 x3 x4 x5 x6 (0 : Int32) (mS 8 x6.toNatClampNeg) x1 mS)))) = some mS' := hE
      refine lv_iload hx hb dX6_meltSilo_23 (lv_at hl 6 rfl) ?_
      refine lv_iload hx hb dX6_meltSilo_25 (lv_at hl 4 rfl) ?_
      refine lv_icmp_gt (tgt := 145) hx hb dX6_meltSilo_27 (by decide) (fun c_18 => ?_) (fun c_18 => ?_)
      · replace hE := it_t hE c_18
        refine lv_aload_n hx hb dX6_meltSilo_145 rfl (lv_at hl 0 rfl) ?_
        refine va_get (D := D) (ci := 6) (v := .ref (aS 6)) (C := RX6) (T := TX6) (N := 10) hx hb hts iX6 hown hK hP 0 rfl rfl 5 (by decide) f21 (fun _ h9 => h9) rfl dX6_meltSilo_146 ?_
        refine lv_iload_n hx hb dX6_meltSilo_149 rfl (lv_at hl 1 rfl) ?_
        refine lv_iload hx hb dX6_meltSilo_150 (lv_at hl 5 rfl) ?_
        refine lv_iload_n hx hb dX6_meltSilo_152 rfl (lv_at hl 3 rfl) ?_
        refine lv_isub hx hb dX6_meltSilo_153 ?_
        obtain ⟨g_20, hE⟩ := gi_el hE
        obtain ⟨mS_19, e_mS_19, hE⟩ := lt_el hE
        refine s_ia (ws1 := (W_S cy aS mS_19)) hx hb hK hP hD hS 4 rfl g_20 (by rw [e_mS_19]; rfl) dX6_meltSilo_154 (fun H locs hP hD hS => ?_)
        have hE := Option.some.inj hE
        exact ev hx hb hr hlocks hK hP hD hS (by rw [hE]) dX6_meltSilo_155
      · replace hE := it_f hE c_18
        refine lv_aload_n hx hb dX6_meltSilo_30 rfl (lv_at hl 0 rfl) ?_
        refine lv_iload_n hx hb dX6_meltSilo_31 rfl (lv_at hl 1 rfl) ?_
        refine lv_aload_n hx hb dX6_meltSilo_32 rfl (lv_at hl 0 rfl) ?_
        refine va_get (D := D) (ci := 6) (v := .ref (aS 9)) (C := RX6) (T := TX6) (N := 10) hx hb hts iX6 hown hK hP 0 rfl rfl 8 (by decide) f30 (fun _ h9 => h9) rfl dX6_meltSilo_33 ?_
        refine lv_iload hx hb dX6_meltSilo_36 (lv_at hl 6 rfl) ?_
        obtain ⟨g_21, hE⟩ := gi_el hE
        refine va_iald hx hb hK hP 7 0 rfl rfl g_21 dX6_meltSilo_38 ?_
        refine lv_iload hx hb dX6_meltSilo_39 (lv_at hl 6 rfl) ?_
        refine lv_iload hx hb dX6_meltSilo_41 (lv_at hl 4 rfl) ?_
        refine lv_icmp_ne (tgt := 50) hx hb dX6_meltSilo_43 (by decide) (fun c_22 => ?_) (fun c_22 => ?_)
        · replace hE := it_f hE c_22
          refine lv_iconst (v := 0) hx hb dX6_meltSilo_50 (by decide) ?_
          exact h51 x1 x2 x3 x4 x5 x6 (0 : Int32) (mS 8 x6.toNatClampNeg) x1 mS (f_X6_meltSilo_L23 x1 x2 x3 x4 n) ih _ _ _ hE hP hD hS (lv_sub hl [0, 1, 2, 3, 4, 5, 6] rfl)
        · replace hE := it_t hE c_22
          refine lv_iconst (v := 1) hx hb dX6_meltSilo_46 (by decide) ?_
          refine lv_goto (tgt := 51) hx hb dX6_meltSilo_47 (by decide) ?_
          exact h51 x1 x2 x3 x4 x5 x6 (1 : Int32) (mS 8 x6.toNatClampNeg) x1 mS (f_X6_meltSilo_L23 x1 x2 x3 x4 n) ih _ _ _ hE hP hD hS (lv_sub hl [0, 1, 2, 3, 4, 5, 6] rfl)
  unfold f_X6_meltSilo at hE
  refine lv_iload_n hx hb dX6_meltSilo_0 rfl (lv_at hl 1 rfl) ?_
  refine lv_bipush (v := 30) hx hb dX6_meltSilo_1 (by decide) ?_
  refine lv_imul hx hb dX6_meltSilo_3 ?_
  obtain ⟨x3_23, e_x3_23, hE⟩ := lt_el hE
  refine s_nm e_x3_23 ?_
  refine lv_istore_n (lv' := [(3, .int x3_23), (0, .ref (aS 0)), (1, .int x1), (2, .int x2)]) hx hb dX6_meltSilo_4 rfl hl (by decide) rfl (fun ls hl => ?_)
  refine lv_iload_n hx hb dX6_meltSilo_5 rfl (lv_at hl 0 rfl) ?_
  refine lv_aload_n hx hb dX6_meltSilo_6 rfl (lv_at hl 1 rfl) ?_
  refine va_get (D := D) (ci := 6) (v := .ref (aS 6)) (C := RX6) (T := TX6) (N := 10) hx hb hts iX6 hown hK hP 0 rfl rfl 5 (by decide) f21 (fun _ h9 => h9) rfl dX6_meltSilo_7 ?_
  refine lv_iload_n hx hb dX6_meltSilo_10 rfl (lv_at hl 2 rfl) ?_
  obtain ⟨g_24, hE⟩ := gi_el hE
  refine va_iald hx hb hK hP 4 0 rfl rfl g_24 dX6_meltSilo_11 ?_
  refine lv_iadd hx hb dX6_meltSilo_12 ?_
  refine lv_iconst (v := 1) hx hb dX6_meltSilo_13 (by decide) ?_
  refine lv_isub hx hb dX6_meltSilo_14 ?_
  obtain ⟨x4_25, e_x4_25, hE⟩ := lt_el hE
  refine s_nm e_x4_25 ?_
  refine lv_istore (lv' := [(4, .int x4_25), (3, .int x3_23), (0, .ref (aS 0)), (1, .int x1), (2, .int x2)]) hx hb dX6_meltSilo_15 hl (by decide) rfl (fun ls hl => ?_)
  refine lv_iload_n hx hb dX6_meltSilo_17 rfl (lv_at hl 1 rfl) ?_
  refine lv_istore (lv' := [(5, .int x3_23), (4, .int x4_25), (3, .int x3_23), (0, .ref (aS 0)), (1, .int x1), (2, .int x2)]) hx hb dX6_meltSilo_18 hl (by decide) rfl (fun ls hl => ?_)
  refine lv_iload_n hx hb dX6_meltSilo_20 rfl (lv_at hl 2 rfl) ?_
  refine lv_istore (lv' := [(6, .int x3_23), (5, .int x3_23), (4, .int x4_25), (3, .int x3_23), (0, .ref (aS 0)), (1, .int x1), (2, .int x2)]) hx hb dX6_meltSilo_21 hl (by decide) rfl (fun ls hl => ?_)
  exact h23 x1 x2 x3_23 x4_25 fuel x3_23 x3_23 imS _ _ _ hE hP hD hS (lv_sub hl [4, 5, 6, 3, 2, 1, 0] rfl)
abbrev rm_X6_melt : Room := { frames := 2, cells := 0, slots := 0, locals := 53 }
set_option maxHeartbeats 40000000 in
set_option maxRecDepth 100000 in
theorem c_X6_melt (l : Launch) (D : va_G) (cy : Nat → Nat) (aS : Nat → Nat) (x1 : Int32) (imS : Mem) (mS' : Mem) (hE : f_X6_melt x1 imS = some mS') : CV l yX6_melt wsX6_melt rm_X6_melt D cy [.ref (aS 0), .int x1] (W_S cy aS imS) 0 0 (W_S cy aS mS') := by
  refine CQ_of (cc := cX6_melt) (maxL := 3) (ret := none) (by decide) rfl (Nat.le_of_ble_eq_true rfl) (fun p e s m args below meth c A ls hx hb hr hml hlocks hnm hown hts hA hK hN hP hD hS hl => ?_)
  have hown : s.vm.findClass RX6 = some m.cls := hown
  have hl : lv_has ls 3 [(0, .ref (aS 0)), (1, .int x1)] := hl
  have hC : CallFix p m c cX6_melt 3 s args wsX6_melt RX6 := ⟨hx, hb, hml, hown, hts⟩
  have f36 : (Cond.fieldLink RX6 36 "IcePlant$Store" "silos" "I").before args s = true := hts _ (mC qf_X6_36)
  have iX6 : ∀ w ∈ wsX60, w ∈ wsX6_melt := fun w h => mC (iA_X6 w h)
  have h2 : ∀ (x1 : Int32), ∀ (n : Nat), ∀ (x2 : Int32) (mS : Mem) (H : Heap) (locs : List Loc) (ls : Array Slot), f_X6_melt_L2 x1 n x2 mS = some mS' → va_P D vwCl (W_S cy aS mS) H → va_D A (W_S cy aS mS) → va_S A s.heap H locs → lv_has ls 3 [(0, .ref (aS 0)), (1, .int x1), (2, .int x2)] → W p l e rm_X6_melt s m args below meth c H locs 0 0 (MQ below (QV D cy (W_S cy aS mS') A) args s 0 0 A) (F0 m 2 ls []) := by
    intro x1 n
    induction n with
    | zero => intro x2 mS H locs ls hE; exact absurd hE (fun h9 => nomatch h9)
    | succ n ih =>
      intro x2 mS H locs ls hE hP hD hS hl
      replace hE : ((if (mS 0 0) ≤ x2 then some mS else bd1 (f_X6_meltSilo x2 x1 mS) fun mS_2 => lt' (x2 + (1 : Int32)) fun x2_4 => (f_X6_melt_L2 x1 n) x2_4 mS_2)) = some mS' := hE
      refine lv_iload_n hx hb dX6_melt_2 rfl (lv_at hl 2 rfl) ?_
      refine lv_aload_n hx hb dX6_melt_3 rfl (lv_at hl 0 rfl) ?_
      refine va_get (D := D) (ci := 6) (v := .int (mS 0 0)) (C := RX6) (T := TX6) (N := 10) hx hb hts iX6 hown hK hP 0 rfl rfl 0 (by decide) f36 (fun _ h9 => h9) rfl dX6_melt_4 ?_
      refine lv_icmp_ge (tgt := 22) hx hb dX6_melt_7 (by decide) (fun c_1 => ?_) (fun c_1 => ?_)
      · replace hE := it_t hE c_1
        have hE := Option.some.inj hE
        exact ev hx hb hr hlocks hK hP hD hS (by rw [hE]) dX6_melt_22
      · replace hE := it_f hE c_1
        refine lv_aload_n hx hb dX6_melt_10 rfl (lv_at hl 0 rfl) ?_
        refine lv_iload_n hx hb dX6_melt_11 rfl (lv_at hl 2 rfl) ?_
        refine lv_iload_n hx hb dX6_melt_12 rfl (lv_at hl 1 rfl) ?_
        obtain ⟨mS_2, hc_3, hE⟩ := bd1_el hE
        refine kv (X := []) (Y := []) (ws1 := (W_S cy aS mS_2)) (rV (X := []) (Y := []) (As := [.int x2, .int x1]) (rest := []) hC (c_X6_meltSilo l D cy aS x2 x1 mS mS_2 hc_3) (cwV 2 hts gX6_melt_X6_meltSilo rfl rfl rfl cd_X6_meltSilo ⟨Nat.le_of_ble_eq_true rfl, Nat.le_of_ble_eq_true rfl⟩) hK hN hP hD hS hA rfl 0 6 rfl rfl rfl hl.1 rfl (lv_room (Nat.le_of_ble_eq_true rfl)) dX6_melt_13 ⟨Nat.le_of_ble_eq_true rfl, Nat.le_of_ble_eq_true rfl⟩) hP hD hS hA rfl rfl rfl (fun H locs hP hD hS => ?_)
        obtain ⟨x2_4, e_x2_4, hE⟩ := lt_el hE
        refine lv_iinc (v := x2_4) (lv' := [(2, .int x2_4), (0, .ref (aS 0)), (1, .int x1)]) hx hb dX6_melt_16 hl (k := 2) rfl (by rw [e_x2_4]; rfl) (by decide) rfl (fun ls hl => ?_)
        refine lv_goto (tgt := 2) hx hb dX6_melt_19 (by decide) ?_
        exact ih x2_4 mS_2 _ _ _ hE hP hD hS (lv_sub hl [1, 2, 0] rfl)
  unfold f_X6_melt at hE
  refine lv_iconst (v := 0) hx hb dX6_melt_0 (by decide) ?_
  refine lv_istore_n (lv' := [(2, .int (0 : Int32)), (0, .ref (aS 0)), (1, .int x1)]) hx hb dX6_melt_1 rfl hl (by decide) rfl (fun ls hl => ?_)
  exact h2 x1 fuel (0 : Int32) imS _ _ _ hE hP hD hS (lv_sub hl [1, 2, 0] rfl)
abbrev rm_X6_makeBlock : Room := { frames := 1, cells := 0, slots := 0, locals := 24 }
set_option maxHeartbeats 40000000 in
set_option maxRecDepth 100000 in
theorem c_X6_makeBlock (l : Launch) (D : va_G) (cy : Nat → Nat) (aS : Nat → Nat) (x1 : Int32) (imS : Mem) (r' : Int32) (mS' : Mem) (hE : f_X6_makeBlock x1 imS = some (r', mS')) : CI l yX6_makeBlock wsX6_makeBlock rm_X6_makeBlock D cy [.ref (aS 0), .int x1] (W_S cy aS imS) 0 0 r' (W_S cy aS mS') := by
  refine CQ_of (cc := cX6_makeBlock) (maxL := 3) (ret := (some .boolean)) (by decide) rfl (Nat.le_of_ble_eq_true rfl) (fun p e s m args below meth c A ls hx hb hr hml hlocks hnm hown hts hA hK hN hP hD hS hl => ?_)
  have hown : s.vm.findClass RX6 = some m.cls := hown
  have hl : lv_has ls 3 [(0, .ref (aS 0)), (1, .int x1)] := hl
  have hC : CallFix p m c cX6_makeBlock 3 s args wsX6_makeBlock RX6 := ⟨hx, hb, hml, hown, hts⟩
  have f11 : (Cond.fieldLink RX6 11 "IcePlant$Store" "capacities" "[I").before args s = true := hts _ (mC qf_X6_11)
  have f21 : (Cond.fieldLink RX6 21 "IcePlant$Store" "sizes" "[I").before args s = true := hts _ (mC qf_X6_21)
  have f36 : (Cond.fieldLink RX6 36 "IcePlant$Store" "silos" "I").before args s = true := hts _ (mC qf_X6_36)
  have f40 : (Cond.fieldLink RX6 40 "IcePlant$Store" "nextSerial" "I").before args s = true := hts _ (mC qf_X6_40)
  have iX6 : ∀ w ∈ wsX60, w ∈ wsX6_makeBlock := fun w h => mC (iA_X6 w h)
  have h2 : ∀ (x1 : Int32) (mS : Mem), ∀ (n : Nat), ∀ (x2 : Int32) (H : Heap) (locs : List Loc) (ls : Array Slot), f_X6_makeBlock_L2 x1 mS n x2 = some (r', mS') → va_P D vwCl (W_S cy aS mS) H → va_D A (W_S cy aS mS) → va_S A s.heap H locs → lv_has ls 3 [(0, .ref (aS 0)), (1, .int x1), (2, .int x2)] → W p l e rm_X6_makeBlock s m args below meth c H locs 0 0 (MQ below (QI D cy r' (W_S cy aS mS') A) args s 0 0 A) (F0 m 2 ls []) := by
    intro x1 mS n
    induction n with
    | zero => intro x2 H locs ls hE; exact absurd hE (fun h9 => nomatch h9)
    | succ n ih =>
      intro x2 H locs ls hE hP hD hS hl
      replace hE : ((if (mS 0 0) ≤ x2 then some ((0 : Int32), mS) else gi x2 5 (gi x2 5 ((if (mS 2 x2.toNatClampNeg) ≤ (mS 5 x2.toNatClampNeg) then lt' (x2 + (1 : Int32)) fun x2_5 => (f_X6_makeBlock_L2 x1 mS n) x2_5 else gi x2 5 (bd1 (f_X6_fillSlot ((x2 * (30 : Int32)) + (mS 5 x2.toNatClampNeg)) (mS 1 0) x1 (0 : Int32) mS) fun mS_7 => gi x2 5 (gi x2 5 (lt' (wrI mS_7 5 (upd (mS_7 5) x2.toNatClampNeg ((mS_7 5 x2.toNatClampNeg) + (1 : Int32)))) fun mS_10 => lt' (wrI mS_10 1 (fun _ => ((mS_10 1 0) + (1 : Int32)))) fun mS_12 => some ((1 : Int32), mS_12))))))))) = some (r', mS') := hE
      refine lv_iload_n hx hb dX6_makeBlock_2 rfl (lv_at hl 2 rfl) ?_
      refine lv_aload_n hx hb dX6_makeBlock_3 rfl (lv_at hl 0 rfl) ?_
      refine va_get (D := D) (ci := 6) (v := .int (mS 0 0)) (C := RX6) (T := TX6) (N := 10) hx hb hts iX6 hown hK hP 0 rfl rfl 0 (by decide) f36 (fun _ h9 => h9) rfl dX6_makeBlock_4 ?_
      refine lv_icmp_ge (tgt := 74) hx hb dX6_makeBlock_7 (by decide) (fun c_1 => ?_) (fun c_1 => ?_)
      · replace hE := it_t hE c_1
        refine lv_iconst (v := 0) hx hb dX6_makeBlock_74 (by decide) ?_
        have hE := Option.some.inj hE
        obtain ⟨q0, q1⟩ := Prod.mk.inj hE
        exact ez hx hb hr (by decide) hlocks hK hP hD hS q0 (by rw [q1]) dX6_makeBlock_75
      · replace hE := it_f hE c_1
        refine lv_aload_n hx hb dX6_makeBlock_10 rfl (lv_at hl 0 rfl) ?_
        refine va_get (D := D) (ci := 6) (v := .ref (aS 6)) (C := RX6) (T := TX6) (N := 10) hx hb hts iX6 hown hK hP 0 rfl rfl 5 (by decide) f21 (fun _ h9 => h9) rfl dX6_makeBlock_11 ?_
        refine lv_iload_n hx hb dX6_makeBlock_14 rfl (lv_at hl 2 rfl) ?_
        obtain ⟨g_2, hE⟩ := gi_el hE
        refine va_iald hx hb hK hP 4 0 rfl rfl g_2 dX6_makeBlock_15 ?_
        refine lv_aload_n hx hb dX6_makeBlock_16 rfl (lv_at hl 0 rfl) ?_
        refine va_get (D := D) (ci := 6) (v := .ref (aS 3)) (C := RX6) (T := TX6) (N := 10) hx hb hts iX6 hown hK hP 0 rfl rfl 2 (by decide) f11 (fun _ h9 => h9) rfl dX6_makeBlock_17 ?_
        refine lv_iload_n hx hb dX6_makeBlock_20 rfl (lv_at hl 2 rfl) ?_
        obtain ⟨g_3, hE⟩ := gi_el hE
        refine va_iald hx hb hK hP 1 0 rfl rfl g_3 dX6_makeBlock_21 ?_
        refine lv_icmp_ge (tgt := 68) hx hb dX6_makeBlock_22 (by decide) (fun c_4 => ?_) (fun c_4 => ?_)
        · replace hE := it_t hE c_4
          obtain ⟨x2_5, e_x2_5, hE⟩ := lt_el hE
          refine lv_iinc (v := x2_5) (lv' := [(2, .int x2_5), (0, .ref (aS 0)), (1, .int x1)]) hx hb dX6_makeBlock_68 hl (k := 2) rfl (by rw [e_x2_5]; rfl) (by decide) rfl (fun ls hl => ?_)
          refine lv_goto (tgt := 2) hx hb dX6_makeBlock_71 (by decide) ?_
          exact ih x2_5 _ _ _ hE hP hD hS (lv_sub hl [1, 2, 0] rfl)
        · replace hE := it_f hE c_4
          refine lv_aload_n hx hb dX6_makeBlock_25 rfl (lv_at hl 0 rfl) ?_
          refine lv_iload_n hx hb dX6_makeBlock_26 rfl (lv_at hl 2 rfl) ?_
          refine lv_bipush (v := 30) hx hb dX6_makeBlock_27 (by decide) ?_
          refine lv_imul hx hb dX6_makeBlock_29 ?_
          refine lv_aload_n hx hb dX6_makeBlock_30 rfl (lv_at hl 0 rfl) ?_
          refine va_get (D := D) (ci := 6) (v := .ref (aS 6)) (C := RX6) (T := TX6) (N := 10) hx hb hts iX6 hown hK hP 0 rfl rfl 5 (by decide) f21 (fun _ h9 => h9) rfl dX6_makeBlock_31 ?_
          refine lv_iload_n hx hb dX6_makeBlock_34 rfl (lv_at hl 2 rfl) ?_
          obtain ⟨g_6, hE⟩ := gi_el hE
          refine va_iald hx hb hK hP 4 0 rfl rfl g_6 dX6_makeBlock_35 ?_
          refine lv_iadd hx hb dX6_makeBlock_36 ?_
          refine lv_aload_n hx hb dX6_makeBlock_37 rfl (lv_at hl 0 rfl) ?_
          refine va_get (D := D) (ci := 6) (v := .int (mS 1 0)) (C := RX6) (T := TX6) (N := 10) hx hb hts iX6 hown hK hP 0 rfl rfl 1 (by decide) f40 (fun _ h9 => h9) rfl dX6_makeBlock_38 ?_
          refine lv_iload_n hx hb dX6_makeBlock_41 rfl (lv_at hl 1 rfl) ?_
          refine lv_iconst (v := 0) hx hb dX6_makeBlock_42 (by decide) ?_
          obtain ⟨mS_7, hc_8, hE⟩ := bd1_el hE
          refine kv (X := []) (Y := []) (ws1 := (W_S cy aS mS_7)) (rV (X := []) (Y := []) (As := [.int ((x2 * (30 : Int32)) + (mS 5 x2.toNatClampNeg)), .int (mS 1 0), .int x1, .int (0 : Int32)]) (rest := []) hC (c_X6_fillSlot l D cy aS ((x2 * (30 : Int32)) + (mS 5 x2.toNatClampNeg)) (mS 1 0) x1 (0 : Int32) mS mS_7 hc_8) (cwV 4 hts gX6_makeBlock_X6_fillSlot rfl rfl rfl cd_X6_fillSlot ⟨Nat.le_of_ble_eq_true rfl, Nat.le_of_ble_eq_true rfl⟩) hK hN hP hD hS hA rfl 0 6 rfl rfl rfl hl.1 rfl (lv_room (Nat.le_of_ble_eq_true rfl)) dX6_makeBlock_43 ⟨Nat.le_of_ble_eq_true rfl, Nat.le_of_ble_eq_true rfl⟩) hP hD hS hA rfl rfl rfl (fun H locs hP hD hS => ?_)
          refine lv_aload_n hx hb dX6_makeBlock_46 rfl (lv_at hl 0 rfl) ?_
          refine va_get (D := D) (ci := 6) (v := .ref (aS 6)) (C := RX6) (T := TX6) (N := 10) hx hb hts iX6 hown hK hP 0 rfl rfl 5 (by decide) f21 (fun _ h9 => h9) rfl dX6_makeBlock_47 ?_
          refine lv_iload_n hx hb dX6_makeBlock_50 rfl (lv_at hl 2 rfl) ?_
          refine lv_dup2_11 hx hb dX6_makeBlock_51 rfl rfl ?_
          obtain ⟨g_9, hE⟩ := gi_el hE
          refine va_iald hx hb hK hP 4 0 rfl rfl g_9 dX6_makeBlock_52 ?_
          refine lv_iconst (v := 1) hx hb dX6_makeBlock_53 (by decide) ?_
          refine lv_iadd hx hb dX6_makeBlock_54 ?_
          obtain ⟨g_11, hE⟩ := gi_el hE
          obtain ⟨mS_10, e_mS_10, hE⟩ := lt_el hE
          refine s_ia (ws1 := (W_S cy aS mS_10)) hx hb hK hP hD hS 4 rfl g_11 (by rw [e_mS_10]; rfl) dX6_makeBlock_55 (fun H locs hP hD hS => ?_)
          refine lv_aload_n hx hb dX6_makeBlock_56 rfl (lv_at hl 0 rfl) ?_
          refine lv_dup hx hb dX6_makeBlock_57 rfl ?_
          refine va_get (D := D) (ci := 6) (v := .int (mS_10 1 0)) (C := RX6) (T := TX6) (N := 10) hx hb hts iX6 hown hK hP 0 rfl rfl 1 (by decide) f40 (fun _ h9 => h9) rfl dX6_makeBlock_58 ?_
          refine lv_iconst (v := 1) hx hb dX6_makeBlock_61 (by decide) ?_
          refine lv_iadd hx hb dX6_makeBlock_62 ?_
          obtain ⟨mS_12, e_mS_12, hE⟩ := lt_el hE
          refine s_pf (own := RX6) (C := RX6) (T := TX6) (N := 10) (ci := 6) (ws1 := (W_S cy aS mS_12)) hx hb hts iX6 tyX6 tyX6_ok nmX6 hown hK hP hD hS 0 rfl rfl 1 (by decide) f40 rfl rfl rfl rfl (Nat.le_of_ble_eq_true rfl) (by rw [e_mS_12]; rfl) dX6_makeBlock_63 (fun H locs hP hD hS => ?_)
          refine lv_iconst (v := 1) hx hb dX6_makeBlock_66 (by decide) ?_
          have hE := Option.some.inj hE
          obtain ⟨q0, q1⟩ := Prod.mk.inj hE
          exact ez hx hb hr (by decide) hlocks hK hP hD hS q0 (by rw [q1]) dX6_makeBlock_67
  unfold f_X6_makeBlock at hE
  refine lv_iconst (v := 0) hx hb dX6_makeBlock_0 (by decide) ?_
  refine lv_istore_n (lv' := [(2, .int (0 : Int32)), (0, .ref (aS 0)), (1, .int x1)]) hx hb dX6_makeBlock_1 rfl hl (by decide) rfl (fun ls hl => ?_)
  exact h2 x1 imS fuel (0 : Int32) _ _ _ hE hP hD hS (lv_sub hl [1, 2, 0] rfl)
abbrev rm_X6_moveTop : Room := { frames := 2, cells := 0, slots := 0, locals := 43 }
set_option maxHeartbeats 40000000 in
set_option maxRecDepth 100000 in
theorem c_X6_moveTop (l : Launch) (D : va_G) (cy : Nat → Nat) (aS : Nat → Nat) (x1 : Int32) (x2 : Int32) (imS : Mem) (r' : Int32) (mS' : Mem) (hE : f_X6_moveTop x1 x2 imS = some (r', mS')) : CI l yX6_moveTop wsX6_moveTop rm_X6_moveTop D cy [.ref (aS 0), .int x1, .int x2] (W_S cy aS imS) 0 0 r' (W_S cy aS mS') := by
  refine CQ_of (cc := cX6_moveTop) (maxL := 4) (ret := (some .int)) (by decide) rfl (Nat.le_of_ble_eq_true rfl) (fun p e s m args below meth c A ls hx hb hr hml hlocks hnm hown hts hA hK hN hP hD hS hl => ?_)
  have hown : s.vm.findClass RX6 = some m.cls := hown
  have hl : lv_has ls 4 [(0, .ref (aS 0)), (1, .int x1), (2, .int x2)] := hl
  have hC : CallFix p m c cX6_moveTop 4 s args wsX6_moveTop RX6 := ⟨hx, hb, hml, hown, hts⟩
  have f11 : (Cond.fieldLink RX6 11 "IcePlant$Store" "capacities" "[I").before args s = true := hts _ (mC qf_X6_11)
  have f21 : (Cond.fieldLink RX6 21 "IcePlant$Store" "sizes" "[I").before args s = true := hts _ (mC qf_X6_21)
  have f27 : (Cond.fieldLink RX6 27 "IcePlant$Store" "serials" "[I").before args s = true := hts _ (mC qf_X6_27)
  have f30 : (Cond.fieldLink RX6 30 "IcePlant$Store" "masses" "[I").before args s = true := hts _ (mC qf_X6_30)
  have f33 : (Cond.fieldLink RX6 33 "IcePlant$Store" "ages" "[I").before args s = true := hts _ (mC qf_X6_33)
  have iX6 : ∀ w ∈ wsX60, w ∈ wsX6_moveTop := fun w h => mC (iA_X6 w h)
  have in_X8 : (Cond.initialized RX8).before args s = true := hts _ (mC qn_X8)
  have st_X8_valueAt : (Cond.static yX8_valueAt).before args s = true := hts _ (mC qs_X8_valueAt)
  unfold f_X6_moveTop at hE
  refine lv_aload_n hx hb dX6_moveTop_0 rfl (lv_at hl 0 rfl) ?_
  refine lv_iload_n hx hb dX6_moveTop_1 rfl (lv_at hl 1 rfl) ?_
  refine lv_aload_n hx hb dX6_moveTop_2 rfl (lv_at hl 0 rfl) ?_
  refine va_get (D := D) (ci := 6) (v := .ref (aS 6)) (C := RX6) (T := TX6) (N := 10) hx hb hts iX6 hown hK hP 0 rfl rfl 5 (by decide) f21 (fun _ h9 => h9) rfl dX6_moveTop_3 ?_
  refine lv_iload_n hx hb dX6_moveTop_6 rfl (lv_at hl 1 rfl) ?_
  obtain ⟨r_1, hc_2, hE⟩ := bd1_el hE
  refine ki (X := (List.take 4 (W_S cy aS imS))) (Y := (List.drop 5 (W_S cy aS imS))) (ws1 := (W_S cy aS imS)) (rSN (X := (List.take 4 (W_S cy aS imS))) (Y := (List.drop 5 (W_S cy aS imS))) (As := [.ref (aS 6), .int x1]) (rest := [.int x1, .ref (aS 0)]) hC (c_X8_valueAt l D cy (aS 6) x1 (5) (imS 5) r_1 hc_2) (va_cnB 2 hts gX6_moveTop_X8_valueAt_n47 rfl rfl rfl (hN.1 11 _ rfl) in_X8 cd_X8_valueAt.2 ⟨Nat.le_of_ble_eq_true rfl, Nat.le_of_ble_eq_true rfl⟩) st_X8_valueAt hK hN hP hD hS hA rfl rfl hl.1 rfl (lv_room (Nat.le_of_ble_eq_true rfl)) dX6_moveTop_7 ⟨Nat.le_of_ble_eq_true rfl, Nat.le_of_ble_eq_true rfl⟩) hP hD hS hA rfl rfl rfl (fun H locs hP hD hS => ?_)
  refine lv_iconst (v := 1) hx hb dX6_moveTop_10 (by decide) ?_
  refine lv_isub hx hb dX6_moveTop_11 ?_
  obtain ⟨r_3, hc_4, hE⟩ := bd1_el hE
  refine ki (X := []) (Y := []) (ws1 := (W_S cy aS imS)) (rV (X := []) (Y := []) (As := [.int x1, .int (r_1 - (1 : Int32))]) (rest := []) hC (c_X6_slotOf l D cy aS x1 (r_1 - (1 : Int32)) imS r_3 hc_4) (cwV 2 hts gX6_moveTop_X6_slotOf rfl rfl rfl cd_X6_slotOf ⟨Nat.le_of_ble_eq_true rfl, Nat.le_of_ble_eq_true rfl⟩) hK hN hP hD hS hA rfl 0 6 rfl rfl rfl hl.1 rfl (lv_room (Nat.le_of_ble_eq_true rfl)) dX6_moveTop_12 ⟨Nat.le_of_ble_eq_true rfl, Nat.le_of_ble_eq_true rfl⟩) hP hD hS hA rfl rfl rfl (fun H locs hP hD hS => ?_)
  refine lv_istore_n (lv' := [(3, .int r_3), (0, .ref (aS 0)), (1, .int x1), (2, .int x2)]) hx hb dX6_moveTop_15 rfl hl (by decide) rfl (fun ls hl => ?_)
  refine lv_iload_n hx hb dX6_moveTop_16 rfl (lv_at hl 0 rfl) ?_
  refine lv_iconst (v := (-1)) hx hb dX6_moveTop_17 (by decide) ?_
  refine lv_icmp_eq (tgt := 44) hx hb dX6_moveTop_18 (by decide) (fun c_5 => ?_) (fun c_5 => ?_)
  · replace hE := it_t hE c_5
    refine lv_iconst (v := (-1)) hx hb dX6_moveTop_44 (by decide) ?_
    have hE := Option.some.inj hE
    obtain ⟨q0, q1⟩ := Prod.mk.inj hE
    exact ei hx hb hr hlocks hK hP hD hS q0 (by rw [q1]) dX6_moveTop_45
  · replace hE := it_f hE c_5
    refine lv_aload_n hx hb dX6_moveTop_21 rfl (lv_at hl 1 rfl) ?_
    refine lv_iload_n hx hb dX6_moveTop_22 rfl (lv_at hl 3 rfl) ?_
    obtain ⟨r_6, hc_7, hE⟩ := bd1_el hE
    refine ki (X := []) (Y := []) (ws1 := (W_S cy aS imS)) (rV (X := []) (Y := []) (As := [.int x2]) (rest := []) hC (c_X6_hasSilo l D cy aS x2 imS r_6 hc_7) (cwV 1 hts gX6_moveTop_X6_hasSilo rfl rfl rfl cd_X6_hasSilo ⟨Nat.le_of_ble_eq_true rfl, Nat.le_of_ble_eq_true rfl⟩) hK hN hP hD hS hA rfl 0 6 rfl rfl rfl hl.1 rfl (lv_room (Nat.le_of_ble_eq_true rfl)) dX6_moveTop_23 ⟨Nat.le_of_ble_eq_true rfl, Nat.le_of_ble_eq_true rfl⟩) hP hD hS hA rfl rfl rfl (fun H locs hP hD hS => ?_)
    refine lv_if_eq (tgt := 44) hx hb dX6_moveTop_26 (by decide) (fun c_8 => ?_) (fun c_8 => ?_)
    · replace hE := it_t hE c_8
      refine lv_iconst (v := (-1)) hx hb dX6_moveTop_44 (by decide) ?_
      have hE := Option.some.inj hE
      obtain ⟨q0, q1⟩ := Prod.mk.inj hE
      exact ei hx hb hr hlocks hK hP hD hS q0 (by rw [q1]) dX6_moveTop_45
    · replace hE := it_f hE c_8
      refine lv_aload_n hx hb dX6_moveTop_29 rfl (lv_at hl 1 rfl) ?_
      refine va_get (D := D) (ci := 6) (v := .ref (aS 6)) (C := RX6) (T := TX6) (N := 10) hx hb hts iX6 hown hK hP 0 rfl rfl 5 (by decide) f21 (fun _ h9 => h9) rfl dX6_moveTop_30 ?_
      refine lv_iload_n hx hb dX6_moveTop_33 rfl (lv_at hl 3 rfl) ?_
      obtain ⟨g_9, hE⟩ := gi_el hE
      refine va_iald hx hb hK hP 4 0 rfl rfl g_9 dX6_moveTop_34 ?_
      refine lv_aload_n hx hb dX6_moveTop_35 rfl (lv_at hl 1 rfl) ?_
      refine va_get (D := D) (ci := 6) (v := .ref (aS 3)) (C := RX6) (T := TX6) (N := 10) hx hb hts iX6 hown hK hP 0 rfl rfl 2 (by decide) f11 (fun _ h9 => h9) rfl dX6_moveTop_36 ?_
      refine lv_iload_n hx hb dX6_moveTop_39 rfl (lv_at hl 3 rfl) ?_
      obtain ⟨g_10, hE⟩ := gi_el hE
      refine va_iald hx hb hK hP 1 0 rfl rfl g_10 dX6_moveTop_40 ?_
      refine lv_icmp_lt (tgt := 46) hx hb dX6_moveTop_41 (by decide) (fun c_11 => ?_) (fun c_11 => ?_)
      · replace hE := it_t hE c_11
        refine lv_aload_n hx hb dX6_moveTop_46 rfl (lv_at hl 1 rfl) ?_
        refine lv_iload_n hx hb dX6_moveTop_47 rfl (lv_at hl 3 rfl) ?_
        refine lv_bipush (v := 30) hx hb dX6_moveTop_48 (by decide) ?_
        refine lv_imul hx hb dX6_moveTop_50 ?_
        refine lv_aload_n hx hb dX6_moveTop_51 rfl (lv_at hl 1 rfl) ?_
        refine va_get (D := D) (ci := 6) (v := .ref (aS 6)) (C := RX6) (T := TX6) (N := 10) hx hb hts iX6 hown hK hP 0 rfl rfl 5 (by decide) f21 (fun _ h9 => h9) rfl dX6_moveTop_52 ?_
        refine lv_iload_n hx hb dX6_moveTop_55 rfl (lv_at hl 3 rfl) ?_
        obtain ⟨g_12, hE⟩ := gi_el hE
        refine va_iald hx hb hK hP 4 0 rfl rfl g_12 dX6_moveTop_56 ?_
        refine lv_iadd hx hb dX6_moveTop_57 ?_
        refine lv_aload_n hx hb dX6_moveTop_58 rfl (lv_at hl 1 rfl) ?_
        refine va_get (D := D) (ci := 6) (v := .ref (aS 8)) (C := RX6) (T := TX6) (N := 10) hx hb hts iX6 hown hK hP 0 rfl rfl 7 (by decide) f27 (fun _ h9 => h9) rfl dX6_moveTop_59 ?_
        refine lv_iload_n hx hb dX6_moveTop_62 rfl (lv_at hl 0 rfl) ?_
        obtain ⟨g_13, hE⟩ := gi_el hE
        refine va_iald hx hb hK hP 6 0 rfl rfl g_13 dX6_moveTop_63 ?_
        refine lv_aload_n hx hb dX6_moveTop_64 rfl (lv_at hl 1 rfl) ?_
        refine va_get (D := D) (ci := 6) (v := .ref (aS 9)) (C := RX6) (T := TX6) (N := 10) hx hb hts iX6 hown hK hP 0 rfl rfl 8 (by decide) f30 (fun _ h9 => h9) rfl dX6_moveTop_65 ?_
        refine lv_iload_n hx hb dX6_moveTop_68 rfl (lv_at hl 0 rfl) ?_
        obtain ⟨g_14, hE⟩ := gi_el hE
        refine va_iald hx hb hK hP 7 0 rfl rfl g_14 dX6_moveTop_69 ?_
        refine lv_aload_n hx hb dX6_moveTop_70 rfl (lv_at hl 1 rfl) ?_
        refine va_get (D := D) (ci := 6) (v := .ref (aS 10)) (C := RX6) (T := TX6) (N := 10) hx hb hts iX6 hown hK hP 0 rfl rfl 9 (by decide) f33 (fun _ h9 => h9) rfl dX6_moveTop_71 ?_
        refine lv_iload_n hx hb dX6_moveTop_74 rfl (lv_at hl 0 rfl) ?_
        obtain ⟨g_15, hE⟩ := gi_el hE
        refine va_iald hx hb hK hP 8 0 rfl rfl g_15 dX6_moveTop_75 ?_
        obtain ⟨mS_16, hc_17, hE⟩ := bd1_el hE
        refine kv (X := []) (Y := []) (ws1 := (W_S cy aS mS_16)) (rV (X := []) (Y := []) (As := [.int ((x2 * (30 : Int32)) + (imS 5 x2.toNatClampNeg)), .int (imS 7 r_3.toNatClampNeg), .int (imS 8 r_3.toNatClampNeg), .int (imS 9 r_3.toNatClampNeg)]) (rest := []) hC (c_X6_fillSlot l D cy aS ((x2 * (30 : Int32)) + (imS 5 x2.toNatClampNeg)) (imS 7 r_3.toNatClampNeg) (imS 8 r_3.toNatClampNeg) (imS 9 r_3.toNatClampNeg) imS mS_16 hc_17) (cwV 4 hts gX6_moveTop_X6_fillSlot rfl rfl rfl cd_X6_fillSlot ⟨Nat.le_of_ble_eq_true rfl, Nat.le_of_ble_eq_true rfl⟩) hK hN hP hD hS hA rfl 0 6 rfl rfl rfl hl.1 rfl (lv_room (Nat.le_of_ble_eq_true rfl)) dX6_moveTop_76 ⟨Nat.le_of_ble_eq_true rfl, Nat.le_of_ble_eq_true rfl⟩) hP hD hS hA rfl rfl rfl (fun H locs hP hD hS => ?_)
        refine lv_aload_n hx hb dX6_moveTop_79 rfl (lv_at hl 1 rfl) ?_
        refine va_get (D := D) (ci := 6) (v := .ref (aS 6)) (C := RX6) (T := TX6) (N := 10) hx hb hts iX6 hown hK hP 0 rfl rfl 5 (by decide) f21 (fun _ h9 => h9) rfl dX6_moveTop_80 ?_
        refine lv_iload_n hx hb dX6_moveTop_83 rfl (lv_at hl 3 rfl) ?_
        refine lv_dup2_11 hx hb dX6_moveTop_84 rfl rfl ?_
        obtain ⟨g_18, hE⟩ := gi_el hE
        refine va_iald hx hb hK hP 4 0 rfl rfl g_18 dX6_moveTop_85 ?_
        refine lv_iconst (v := 1) hx hb dX6_moveTop_86 (by decide) ?_
        refine lv_iadd hx hb dX6_moveTop_87 ?_
        obtain ⟨g_20, hE⟩ := gi_el hE
        obtain ⟨mS_19, e_mS_19, hE⟩ := lt_el hE
        refine s_ia (ws1 := (W_S cy aS mS_19)) hx hb hK hP hD hS 4 rfl g_20 (by rw [e_mS_19]; rfl) dX6_moveTop_88 (fun H locs hP hD hS => ?_)
        refine lv_aload_n hx hb dX6_moveTop_89 rfl (lv_at hl 1 rfl) ?_
        refine va_get (D := D) (ci := 6) (v := .ref (aS 6)) (C := RX6) (T := TX6) (N := 10) hx hb hts iX6 hown hK hP 0 rfl rfl 5 (by decide) f21 (fun _ h9 => h9) rfl dX6_moveTop_90 ?_
        refine lv_iload_n hx hb dX6_moveTop_93 rfl (lv_at hl 2 rfl) ?_
        refine lv_dup2_11 hx hb dX6_moveTop_94 rfl rfl ?_
        obtain ⟨g_21, hE⟩ := gi_el hE
        refine va_iald hx hb hK hP 4 0 rfl rfl g_21 dX6_moveTop_95 ?_
        refine lv_iconst (v := 1) hx hb dX6_moveTop_96 (by decide) ?_
        refine lv_isub hx hb dX6_moveTop_97 ?_
        obtain ⟨g_23, hE⟩ := gi_el hE
        obtain ⟨mS_22, e_mS_22, hE⟩ := lt_el hE
        refine s_ia (ws1 := (W_S cy aS mS_22)) hx hb hK hP hD hS 4 rfl g_23 (by rw [e_mS_22]; rfl) dX6_moveTop_98 (fun H locs hP hD hS => ?_)
        refine lv_aload_n hx hb dX6_moveTop_99 rfl (lv_at hl 1 rfl) ?_
        refine va_get (D := D) (ci := 6) (v := .ref (aS 8)) (C := RX6) (T := TX6) (N := 10) hx hb hts iX6 hown hK hP 0 rfl rfl 7 (by decide) f27 (fun _ h9 => h9) rfl dX6_moveTop_100 ?_
        refine lv_iload_n hx hb dX6_moveTop_103 rfl (lv_at hl 0 rfl) ?_
        obtain ⟨g_24, hE⟩ := gi_el hE
        refine va_iald hx hb hK hP 6 0 rfl rfl g_24 dX6_moveTop_104 ?_
        have hE := Option.some.inj hE
        obtain ⟨q0, q1⟩ := Prod.mk.inj hE
        exact ei hx hb hr hlocks hK hP hD hS q0 (by rw [q1]) dX6_moveTop_105
      · replace hE := it_f hE c_11
        refine lv_iconst (v := (-1)) hx hb dX6_moveTop_44 (by decide) ?_
        have hE := Option.some.inj hE
        obtain ⟨q0, q1⟩ := Prod.mk.inj hE
        exact ei hx hb hr hlocks hK hP hD hS q0 (by rw [q1]) dX6_moveTop_45
abbrev rm_X6_oldestSlot : Room := { frames := 0, cells := 0, slots := 0, locals := 0 }
set_option maxHeartbeats 40000000 in
set_option maxRecDepth 100000 in
theorem c_X6_oldestSlot (l : Launch) (D : va_G) (cy : Nat → Nat) (aS : Nat → Nat) (imS : Mem) (r' : Int32) (hE : f_X6_oldestSlot imS = some r') : CI l yX6_oldestSlot wsX6_oldestSlot rm_X6_oldestSlot D cy [.ref (aS 0)] (W_S cy aS imS) 0 0 r' (W_S cy aS imS) := by
  refine CQ_of (cc := cX6_oldestSlot) (maxL := 5) (ret := (some .int)) (by decide) rfl (Nat.le_of_ble_eq_true rfl) (fun p e s m args below meth c A ls hx hb hr hml hlocks hnm hown hts hA hK hN hP hD hS hl => ?_)
  have hown : s.vm.findClass RX6 = some m.cls := hown
  have hl : lv_has ls 5 [(0, .ref (aS 0))] := hl
  have f21 : (Cond.fieldLink RX6 21 "IcePlant$Store" "sizes" "[I").before args s = true := hts _ (mC qf_X6_21)
  have f27 : (Cond.fieldLink RX6 27 "IcePlant$Store" "serials" "[I").before args s = true := hts _ (mC qf_X6_27)
  have f36 : (Cond.fieldLink RX6 36 "IcePlant$Store" "silos" "I").before args s = true := hts _ (mC qf_X6_36)
  have iX6 : ∀ w ∈ wsX60, w ∈ wsX6_oldestSlot := fun w h => mC (iA_X6 w h)
  have h60 : ∀ (x1 : Int32) (x2 : Int32) (x3 : Int32) (x4 : Int32), ∀ (k4 : (Int32 → Int32 → Option (Int32))), (∀ (x1 : Int32) (x2 : Int32) (H : Heap) (locs : List Loc) (ls : Array Slot), k4 x1 x2 = some r' → va_P D vwCl (W_S cy aS imS) H → va_D A (W_S cy aS imS) → va_S A s.heap H locs → lv_has ls 5 [(0, .ref (aS 0)), (1, .int x1), (2, .int x2)] → W p l e rm_X6_oldestSlot s m args below meth c H locs 0 0 (MQ below (QI D cy r' (W_S cy aS imS) A) args s 0 0 A) (F0 m 4 ls [])) → ∀ (k30 : (Int32 → Int32 → Option (Int32))), (∀ (x1 : Int32) (x4 : Int32) (H : Heap) (locs : List Loc) (ls : Array Slot), k30 x1 x4 = some r' → va_P D vwCl (W_S cy aS imS) H → va_D A (W_S cy aS imS) → va_S A s.heap H locs → lv_has ls 5 [(0, .ref (aS 0)), (1, .int x1), (2, .int x2), (3, .int x3), (4, .int x4)] → W p l e rm_X6_oldestSlot s m args below meth c H locs 0 0 (MQ below (QI D cy r' (W_S cy aS imS) A) args s 0 0 A) (F0 m 30 ls [])) → ∀  (H : Heap) (locs : List Loc) (ls : Array Slot), f_X6_oldestSlot_b60 k4 k30 x1 x2 x3 x4 imS = some r' → va_P D vwCl (W_S cy aS imS) H → va_D A (W_S cy aS imS) → va_S A s.heap H locs → lv_has ls 5 [(0, .ref (aS 0)), (1, .int x1), (2, .int x2), (3, .int x3), (4, .int x4)] → W p l e rm_X6_oldestSlot s m args below meth c H locs 0 0 (MQ below (QI D cy r' (W_S cy aS imS) A) args s 0 0 A) (F0 m 60 ls []) := by
    intro x1 x2 x3 x4 k4 hk4 k30 hk30 H locs ls hE hP hD hS hl
    replace hE : (lt' (x4 + (1 : Int32)) fun x4_1 => k30 x1 x4_1) = some r' := hE
    obtain ⟨x4_1, e_x4_1, hE⟩ := lt_el hE
    refine lv_iinc (v := x4_1) (lv' := [(4, .int x4_1), (0, .ref (aS 0)), (1, .int x1), (2, .int x2), (3, .int x3)]) hx hb dX6_oldestSlot_60 hl (k := 4) rfl (by rw [e_x4_1]; rfl) (by decide) rfl (fun ls hl => ?_)
    refine lv_goto (tgt := 30) hx hb dX6_oldestSlot_63 (by decide) ?_
    exact hk30 x1 x4_1 _ _ _ hE hP hD hS (lv_sub hl [1, 2, 3, 4, 0] rfl)
  have h57 : ∀ (x2 : Int32) (x3 : Int32) (x4 : Int32), ∀ (k4 : (Int32 → Int32 → Option (Int32))), (∀ (x1 : Int32) (x2 : Int32) (H : Heap) (locs : List Loc) (ls : Array Slot), k4 x1 x2 = some r' → va_P D vwCl (W_S cy aS imS) H → va_D A (W_S cy aS imS) → va_S A s.heap H locs → lv_has ls 5 [(0, .ref (aS 0)), (1, .int x1), (2, .int x2)] → W p l e rm_X6_oldestSlot s m args below meth c H locs 0 0 (MQ below (QI D cy r' (W_S cy aS imS) A) args s 0 0 A) (F0 m 4 ls [])) → ∀ (k30 : (Int32 → Int32 → Option (Int32))), (∀ (x1 : Int32) (x4 : Int32) (H : Heap) (locs : List Loc) (ls : Array Slot), k30 x1 x4 = some r' → va_P D vwCl (W_S cy aS imS) H → va_D A (W_S cy aS imS) → va_S A s.heap H locs → lv_has ls 5 [(0, .ref (aS 0)), (1, .int x1), (2, .int x2), (3, .int x3), (4, .int x4)] → W p l e rm_X6_oldestSlot s m args below meth c H locs 0 0 (MQ below (QI D cy r' (W_S cy aS imS) A) args s 0 0 A) (F0 m 30 ls [])) → ∀  (H : Heap) (locs : List Loc) (ls : Array Slot), f_X6_oldestSlot_b57 k4 k30 x2 x3 x4 imS = some r' → va_P D vwCl (W_S cy aS imS) H → va_D A (W_S cy aS imS) → va_S A s.heap H locs → lv_has ls 5 [(0, .ref (aS 0)), (2, .int x2), (3, .int x3), (4, .int x4)] → W p l e rm_X6_oldestSlot s m args below meth c H locs 0 0 (MQ below (QI D cy r' (W_S cy aS imS) A) args s 0 0 A) (F0 m 57 ls []) := by
    intro x2 x3 x4 k4 hk4 k30 hk30 H locs ls hE hP hD hS hl
    replace hE : (f_X6_oldestSlot_b60 k4 k30 x4 x2 x3 x4 imS) = some r' := hE
    refine lv_iload hx hb dX6_oldestSlot_57 (lv_at hl 3 rfl) ?_
    refine lv_istore_n (lv' := [(1, .int x4), (0, .ref (aS 0)), (2, .int x2), (3, .int x3), (4, .int x4)]) hx hb dX6_oldestSlot_59 rfl hl (by decide) rfl (fun ls hl => ?_)
    exact h60 x4 x2 x3 x4 k4 hk4 k30 hk30 _ _ _ hE hP hD hS (lv_sub hl [1, 0, 2, 3, 4] rfl)
  have h30 : ∀ (x2 : Int32) (x3 : Int32), ∀ (k4 : (Int32 → Int32 → Option (Int32))), (∀ (x1 : Int32) (x2 : Int32) (H : Heap) (locs : List Loc) (ls : Array Slot), k4 x1 x2 = some r' → va_P D vwCl (W_S cy aS imS) H → va_D A (W_S cy aS imS) → va_S A s.heap H locs → lv_has ls 5 [(0, .ref (aS 0)), (1, .int x1), (2, .int x2)] → W p l e rm_X6_oldestSlot s m args below meth c H locs 0 0 (MQ below (QI D cy r' (W_S cy aS imS) A) args s 0 0 A) (F0 m 4 ls [])) → ∀ (n : Nat), ∀ (x1 : Int32) (x4 : Int32) (H : Heap) (locs : List Loc) (ls : Array Slot), f_X6_oldestSlot_L30 k4 x2 x3 imS n x1 x4 = some r' → va_P D vwCl (W_S cy aS imS) H → va_D A (W_S cy aS imS) → va_S A s.heap H locs → lv_has ls 5 [(0, .ref (aS 0)), (1, .int x1), (2, .int x2), (3, .int x3), (4, .int x4)] → W p l e rm_X6_oldestSlot s m args below meth c H locs 0 0 (MQ below (QI D cy r' (W_S cy aS imS) A) args s 0 0 A) (F0 m 30 ls []) := by
    intro x2 x3 k4 hk4 n
    induction n with
    | zero => intro x1 x4 H locs ls hE; exact absurd hE (fun h9 => nomatch h9)
    | succ n ih =>
      intro x1 x4 H locs ls hE hP hD hS hl
      replace hE : ((if x3 ≤ x4 then lt' (x2 + (1 : Int32)) fun x2_3 => k4 x1 x2_3 else (if x1 = (-1 : Int32) then f_X6_oldestSlot_b57 k4 (f_X6_oldestSlot_L30 k4 x2 x3 imS n) x2 x3 x4 imS else gi x4 150 (gi x1 150 ((if (imS 7 x1.toNatClampNeg) ≤ (imS 7 x4.toNatClampNeg) then f_X6_oldestSlot_b60 k4 (f_X6_oldestSlot_L30 k4 x2 x3 imS n) x1 x2 x3 x4 imS else f_X6_oldestSlot_b57 k4 (f_X6_oldestSlot_L30 k4 x2 x3 imS n) x2 x3 x4 imS)))))) = some r' := hE
      refine lv_iload hx hb dX6_oldestSlot_30 (lv_at hl 4 rfl) ?_
      refine lv_iload_n hx hb dX6_oldestSlot_32 rfl (lv_at hl 3 rfl) ?_
      refine lv_icmp_ge (tgt := 66) hx hb dX6_oldestSlot_33 (by decide) (fun c_2 => ?_) (fun c_2 => ?_)
      · replace hE := it_t hE c_2
        obtain ⟨x2_3, e_x2_3, hE⟩ := lt_el hE
        refine lv_iinc (v := x2_3) (lv' := [(2, .int x2_3), (0, .ref (aS 0)), (1, .int x1), (3, .int x3), (4, .int x4)]) hx hb dX6_oldestSlot_66 hl (k := 2) rfl (by rw [e_x2_3]; rfl) (by decide) rfl (fun ls hl => ?_)
        refine lv_goto (tgt := 4) hx hb dX6_oldestSlot_69 (by decide) ?_
        exact hk4 x1 x2_3 _ _ _ hE hP hD hS (lv_sub hl [1, 2, 0] rfl)
      · replace hE := it_f hE c_2
        refine lv_iload_n hx hb dX6_oldestSlot_36 rfl (lv_at hl 1 rfl) ?_
        refine lv_iconst (v := (-1)) hx hb dX6_oldestSlot_37 (by decide) ?_
        refine lv_icmp_eq (tgt := 57) hx hb dX6_oldestSlot_38 (by decide) (fun c_4 => ?_) (fun c_4 => ?_)
        · replace hE := it_t hE c_4
          exact h57 x2 x3 x4 k4 hk4 (f_X6_oldestSlot_L30 k4 x2 x3 imS n) ih _ _ _ hE hP hD hS (lv_sub hl [0, 2, 3, 4] rfl)
        · replace hE := it_f hE c_4
          refine lv_aload_n hx hb dX6_oldestSlot_41 rfl (lv_at hl 0 rfl) ?_
          refine va_get (D := D) (ci := 6) (v := .ref (aS 8)) (C := RX6) (T := TX6) (N := 10) hx hb hts iX6 hown hK hP 0 rfl rfl 7 (by decide) f27 (fun _ h9 => h9) rfl dX6_oldestSlot_42 ?_
          refine lv_iload hx hb dX6_oldestSlot_45 (lv_at hl 4 rfl) ?_
          obtain ⟨g_5, hE⟩ := gi_el hE
          refine va_iald hx hb hK hP 6 0 rfl rfl g_5 dX6_oldestSlot_47 ?_
          refine lv_aload_n hx hb dX6_oldestSlot_48 rfl (lv_at hl 0 rfl) ?_
          refine va_get (D := D) (ci := 6) (v := .ref (aS 8)) (C := RX6) (T := TX6) (N := 10) hx hb hts iX6 hown hK hP 0 rfl rfl 7 (by decide) f27 (fun _ h9 => h9) rfl dX6_oldestSlot_49 ?_
          refine lv_iload_n hx hb dX6_oldestSlot_52 rfl (lv_at hl 1 rfl) ?_
          obtain ⟨g_6, hE⟩ := gi_el hE
          refine va_iald hx hb hK hP 6 0 rfl rfl g_6 dX6_oldestSlot_53 ?_
          refine lv_icmp_ge (tgt := 60) hx hb dX6_oldestSlot_54 (by decide) (fun c_7 => ?_) (fun c_7 => ?_)
          · replace hE := it_t hE c_7
            exact h60 x1 x2 x3 x4 k4 hk4 (f_X6_oldestSlot_L30 k4 x2 x3 imS n) ih _ _ _ hE hP hD hS (lv_sub hl [0, 1, 2, 3, 4] rfl)
          · replace hE := it_f hE c_7
            exact h57 x2 x3 x4 k4 hk4 (f_X6_oldestSlot_L30 k4 x2 x3 imS n) ih _ _ _ hE hP hD hS (lv_sub hl [0, 2, 3, 4] rfl)
  have h4 : ∀ (n : Nat), ∀ (x1 : Int32) (x2 : Int32) (H : Heap) (locs : List Loc) (ls : Array Slot), f_X6_oldestSlot_L4 imS n x1 x2 = some r' → va_P D vwCl (W_S cy aS imS) H → va_D A (W_S cy aS imS) → va_S A s.heap H locs → lv_has ls 5 [(0, .ref (aS 0)), (1, .int x1), (2, .int x2)] → W p l e rm_X6_oldestSlot s m args below meth c H locs 0 0 (MQ below (QI D cy r' (W_S cy aS imS) A) args s 0 0 A) (F0 m 4 ls []) := by
    intro n
    induction n with
    | zero => intro x1 x2 H locs ls hE; exact absurd hE (fun h9 => nomatch h9)
    | succ n ih =>
      intro x1 x2 H locs ls hE hP hD hS hl
      replace hE : ((if (imS 0 0) ≤ x2 then some x1 else gi x2 5 (lt' ((x2 * (30 : Int32)) + (imS 5 x2.toNatClampNeg)) fun x3_10 => lt' (x2 * (30 : Int32)) fun x4_11 => f_X6_oldestSlot_L30 (f_X6_oldestSlot_L4 imS n) x2 x3_10 imS fuel x1 x4_11))) = some r' := hE
      refine lv_iload_n hx hb dX6_oldestSlot_4 rfl (lv_at hl 2 rfl) ?_
      refine lv_aload_n hx hb dX6_oldestSlot_5 rfl (lv_at hl 0 rfl) ?_
      refine va_get (D := D) (ci := 6) (v := .int (imS 0 0)) (C := RX6) (T := TX6) (N := 10) hx hb hts iX6 hown hK hP 0 rfl rfl 0 (by decide) f36 (fun _ h9 => h9) rfl dX6_oldestSlot_6 ?_
      refine lv_icmp_ge (tgt := 72) hx hb dX6_oldestSlot_9 (by decide) (fun c_8 => ?_) (fun c_8 => ?_)
      · replace hE := it_t hE c_8
        refine lv_iload_n hx hb dX6_oldestSlot_72 rfl (lv_at hl 1 rfl) ?_
        have hE := Option.some.inj hE
        exact ei hx hb hr hlocks hK hP hD hS hE rfl dX6_oldestSlot_73
      · replace hE := it_f hE c_8
        refine lv_iload_n hx hb dX6_oldestSlot_12 rfl (lv_at hl 2 rfl) ?_
        refine lv_bipush (v := 30) hx hb dX6_oldestSlot_13 (by decide) ?_
        refine lv_imul hx hb dX6_oldestSlot_15 ?_
        refine lv_aload_n hx hb dX6_oldestSlot_16 rfl (lv_at hl 0 rfl) ?_
        refine va_get (D := D) (ci := 6) (v := .ref (aS 6)) (C := RX6) (T := TX6) (N := 10) hx hb hts iX6 hown hK hP 0 rfl rfl 5 (by decide) f21 (fun _ h9 => h9) rfl dX6_oldestSlot_17 ?_
        refine lv_iload_n hx hb dX6_oldestSlot_20 rfl (lv_at hl 2 rfl) ?_
        obtain ⟨g_9, hE⟩ := gi_el hE
        refine va_iald hx hb hK hP 4 0 rfl rfl g_9 dX6_oldestSlot_21 ?_
        refine lv_iadd hx hb dX6_oldestSlot_22 ?_
        obtain ⟨x3_10, e_x3_10, hE⟩ := lt_el hE
        refine s_nm e_x3_10 ?_
        refine lv_istore_n (lv' := [(3, .int x3_10), (0, .ref (aS 0)), (1, .int x1), (2, .int x2)]) hx hb dX6_oldestSlot_23 rfl hl (by decide) rfl (fun ls hl => ?_)
        refine lv_iload_n hx hb dX6_oldestSlot_24 rfl (lv_at hl 3 rfl) ?_
        refine lv_bipush (v := 30) hx hb dX6_oldestSlot_25 (by decide) ?_
        refine lv_imul hx hb dX6_oldestSlot_27 ?_
        obtain ⟨x4_11, e_x4_11, hE⟩ := lt_el hE
        refine s_nm e_x4_11 ?_
        refine lv_istore (lv' := [(4, .int x4_11), (3, .int x3_10), (0, .ref (aS 0)), (1, .int x1), (2, .int x2)]) hx hb dX6_oldestSlot_28 hl (by decide) rfl (fun ls hl => ?_)
        exact h30 x2 x3_10 (f_X6_oldestSlot_L4 imS n) ih fuel x1 x4_11 _ _ _ hE hP hD hS (lv_sub hl [2, 3, 4, 1, 0] rfl)
  unfold f_X6_oldestSlot at hE
  refine lv_iconst (v := (-1)) hx hb dX6_oldestSlot_0 (by decide) ?_
  refine lv_istore_n (lv' := [(1, .int (-1 : Int32)), (0, .ref (aS 0))]) hx hb dX6_oldestSlot_1 rfl hl (by decide) rfl (fun ls hl => ?_)
  refine lv_iconst (v := 0) hx hb dX6_oldestSlot_2 (by decide) ?_
  refine lv_istore_n (lv' := [(2, .int (0 : Int32)), (1, .int (-1 : Int32)), (0, .ref (aS 0))]) hx hb dX6_oldestSlot_3 rfl hl (by decide) rfl (fun ls hl => ?_)
  exact h4 fuel (-1 : Int32) (0 : Int32) _ _ _ hE hP hD hS (lv_sub hl [2, 1, 0] rfl)
abbrev rm_X6_removeBlock : Room := { frames := 1, cells := 0, slots := 0, locals := 24 }
set_option maxHeartbeats 40000000 in
set_option maxRecDepth 100000 in
theorem c_X6_removeBlock (l : Launch) (D : va_G) (cy : Nat → Nat) (aS : Nat → Nat) (x1 : Int32) (imS : Mem) (r' : Int32) (mS' : Mem) (hE : f_X6_removeBlock x1 imS = some (r', mS')) : CI l yX6_removeBlock wsX6_removeBlock rm_X6_removeBlock D cy [.ref (aS 0), .int x1] (W_S cy aS imS) 0 0 r' (W_S cy aS mS') := by
  refine CQ_of (cc := cX6_removeBlock) (maxL := 6) (ret := (some .int)) (by decide) rfl (Nat.le_of_ble_eq_true rfl) (fun p e s m args below meth c A ls hx hb hr hml hlocks hnm hown hts hA hK hN hP hD hS hl => ?_)
  have hown : s.vm.findClass RX6 = some m.cls := hown
  have hl : lv_has ls 6 [(0, .ref (aS 0)), (1, .int x1)] := hl
  have hC : CallFix p m c cX6_removeBlock 6 s args wsX6_removeBlock RX6 := ⟨hx, hb, hml, hown, hts⟩
  have f21 : (Cond.fieldLink RX6 21 "IcePlant$Store" "sizes" "[I").before args s = true := hts _ (mC qf_X6_21)
  have f27 : (Cond.fieldLink RX6 27 "IcePlant$Store" "serials" "[I").before args s = true := hts _ (mC qf_X6_27)
  have f30 : (Cond.fieldLink RX6 30 "IcePlant$Store" "masses" "[I").before args s = true := hts _ (mC qf_X6_30)
  have f33 : (Cond.fieldLink RX6 33 "IcePlant$Store" "ages" "[I").before args s = true := hts _ (mC qf_X6_33)
  have iX6 : ∀ w ∈ wsX60, w ∈ wsX6_removeBlock := fun w h => mC (iA_X6 w h)
  have h43 : ∀ (x2 : Int32) (x3 : Int32) (x4 : Int32), ∀ (n : Nat), ∀ (x5 : Int32) (mS : Mem) (H : Heap) (locs : List Loc) (ls : Array Slot), f_X6_removeBlock_L43 x2 x3 x4 n x5 mS = some (r', mS') → va_P D vwCl (W_S cy aS mS) H → va_D A (W_S cy aS mS) → va_S A s.heap H locs → lv_has ls 6 [(0, .ref (aS 0)), (2, .int x2), (3, .int x3), (4, .int x4), (5, .int x5)] → W p l e rm_X6_removeBlock s m args below meth c H locs 0 0 (MQ below (QI D cy r' (W_S cy aS mS') A) args s 0 0 A) (F0 m 43 ls []) := by
    intro x2 x3 x4 n
    induction n with
    | zero => intro x5 mS H locs ls hE; exact absurd hE (fun h9 => nomatch h9)
    | succ n ih =>
      intro x5 mS H locs ls hE hP hD hS hl
      replace hE : ((if x4 ≤ x5 then gi x3 5 (gi x3 5 (lt' (wrI mS 5 (upd (mS 5) x3.toNatClampNeg ((mS 5 x3.toNatClampNeg) - (1 : Int32)))) fun mS_3 => some (x2, mS_3))) else gi x5 150 (gi x5 150 (gi x5 150 (bd1 (f_X6_fillSlot (x5 - (1 : Int32)) (mS 7 x5.toNatClampNeg) (mS 8 x5.toNatClampNeg) (mS 9 x5.toNatClampNeg) mS) fun mS_8 => lt' (x5 + (1 : Int32)) fun x5_10 => (f_X6_removeBlock_L43 x2 x3 x4 n) x5_10 mS_8))))) = some (r', mS') := hE
      refine lv_iload hx hb dX6_removeBlock_43 (lv_at hl 4 rfl) ?_
      refine lv_iload hx hb dX6_removeBlock_45 (lv_at hl 3 rfl) ?_
      refine lv_icmp_ge (tgt := 85) hx hb dX6_removeBlock_47 (by decide) (fun c_1 => ?_) (fun c_1 => ?_)
      · replace hE := it_t hE c_1
        refine lv_aload_n hx hb dX6_removeBlock_85 rfl (lv_at hl 0 rfl) ?_
        refine va_get (D := D) (ci := 6) (v := .ref (aS 6)) (C := RX6) (T := TX6) (N := 10) hx hb hts iX6 hown hK hP 0 rfl rfl 5 (by decide) f21 (fun _ h9 => h9) rfl dX6_removeBlock_86 ?_
        refine lv_iload_n hx hb dX6_removeBlock_89 rfl (lv_at hl 2 rfl) ?_
        refine lv_dup2_11 hx hb dX6_removeBlock_90 rfl rfl ?_
        obtain ⟨g_2, hE⟩ := gi_el hE
        refine va_iald hx hb hK hP 4 0 rfl rfl g_2 dX6_removeBlock_91 ?_
        refine lv_iconst (v := 1) hx hb dX6_removeBlock_92 (by decide) ?_
        refine lv_isub hx hb dX6_removeBlock_93 ?_
        obtain ⟨g_4, hE⟩ := gi_el hE
        obtain ⟨mS_3, e_mS_3, hE⟩ := lt_el hE
        refine s_ia (ws1 := (W_S cy aS mS_3)) hx hb hK hP hD hS 4 rfl g_4 (by rw [e_mS_3]; rfl) dX6_removeBlock_94 (fun H locs hP hD hS => ?_)
        refine lv_iload_n hx hb dX6_removeBlock_95 rfl (lv_at hl 1 rfl) ?_
        have hE := Option.some.inj hE
        obtain ⟨q0, q1⟩ := Prod.mk.inj hE
        exact ei hx hb hr hlocks hK hP hD hS q0 (by rw [q1]) dX6_removeBlock_96
      · replace hE := it_f hE c_1
        refine lv_aload_n hx hb dX6_removeBlock_50 rfl (lv_at hl 0 rfl) ?_
        refine lv_iload hx hb dX6_removeBlock_51 (lv_at hl 4 rfl) ?_
        refine lv_iconst (v := 1) hx hb dX6_removeBlock_53 (by decide) ?_
        refine lv_isub hx hb dX6_removeBlock_54 ?_
        refine lv_aload_n hx hb dX6_removeBlock_55 rfl (lv_at hl 0 rfl) ?_
        refine va_get (D := D) (ci := 6) (v := .ref (aS 8)) (C := RX6) (T := TX6) (N := 10) hx hb hts iX6 hown hK hP 0 rfl rfl 7 (by decide) f27 (fun _ h9 => h9) rfl dX6_removeBlock_56 ?_
        refine lv_iload hx hb dX6_removeBlock_59 (lv_at hl 4 rfl) ?_
        obtain ⟨g_5, hE⟩ := gi_el hE
        refine va_iald hx hb hK hP 6 0 rfl rfl g_5 dX6_removeBlock_61 ?_
        refine lv_aload_n hx hb dX6_removeBlock_62 rfl (lv_at hl 0 rfl) ?_
        refine va_get (D := D) (ci := 6) (v := .ref (aS 9)) (C := RX6) (T := TX6) (N := 10) hx hb hts iX6 hown hK hP 0 rfl rfl 8 (by decide) f30 (fun _ h9 => h9) rfl dX6_removeBlock_63 ?_
        refine lv_iload hx hb dX6_removeBlock_66 (lv_at hl 4 rfl) ?_
        obtain ⟨g_6, hE⟩ := gi_el hE
        refine va_iald hx hb hK hP 7 0 rfl rfl g_6 dX6_removeBlock_68 ?_
        refine lv_aload_n hx hb dX6_removeBlock_69 rfl (lv_at hl 0 rfl) ?_
        refine va_get (D := D) (ci := 6) (v := .ref (aS 10)) (C := RX6) (T := TX6) (N := 10) hx hb hts iX6 hown hK hP 0 rfl rfl 9 (by decide) f33 (fun _ h9 => h9) rfl dX6_removeBlock_70 ?_
        refine lv_iload hx hb dX6_removeBlock_73 (lv_at hl 4 rfl) ?_
        obtain ⟨g_7, hE⟩ := gi_el hE
        refine va_iald hx hb hK hP 8 0 rfl rfl g_7 dX6_removeBlock_75 ?_
        obtain ⟨mS_8, hc_9, hE⟩ := bd1_el hE
        refine kv (X := []) (Y := []) (ws1 := (W_S cy aS mS_8)) (rV (X := []) (Y := []) (As := [.int (x5 - (1 : Int32)), .int (mS 7 x5.toNatClampNeg), .int (mS 8 x5.toNatClampNeg), .int (mS 9 x5.toNatClampNeg)]) (rest := []) hC (c_X6_fillSlot l D cy aS (x5 - (1 : Int32)) (mS 7 x5.toNatClampNeg) (mS 8 x5.toNatClampNeg) (mS 9 x5.toNatClampNeg) mS mS_8 hc_9) (cwV 4 hts gX6_removeBlock_X6_fillSlot rfl rfl rfl cd_X6_fillSlot ⟨Nat.le_of_ble_eq_true rfl, Nat.le_of_ble_eq_true rfl⟩) hK hN hP hD hS hA rfl 0 6 rfl rfl rfl hl.1 rfl (lv_room (Nat.le_of_ble_eq_true rfl)) dX6_removeBlock_76 ⟨Nat.le_of_ble_eq_true rfl, Nat.le_of_ble_eq_true rfl⟩) hP hD hS hA rfl rfl rfl (fun H locs hP hD hS => ?_)
        obtain ⟨x5_10, e_x5_10, hE⟩ := lt_el hE
        refine lv_iinc (v := x5_10) (lv' := [(5, .int x5_10), (0, .ref (aS 0)), (2, .int x2), (3, .int x3), (4, .int x4)]) hx hb dX6_removeBlock_79 hl (k := 4) rfl (by rw [e_x5_10]; rfl) (by decide) rfl (fun ls hl => ?_)
        refine lv_goto (tgt := 43) hx hb dX6_removeBlock_82 (by decide) ?_
        exact ih x5_10 mS_8 _ _ _ hE hP hD hS (lv_sub hl [1, 2, 3, 4, 0] rfl)
  unfold f_X6_removeBlock at hE
  refine lv_iload_n hx hb dX6_removeBlock_0 rfl (lv_at hl 1 rfl) ?_
  refine lv_if_lt (tgt := 11) hx hb dX6_removeBlock_1 (by decide) (fun c_11 => ?_) (fun c_11 => ?_)
  · replace hE := it_t hE c_11
    refine lv_iconst (v := 0) hx hb dX6_removeBlock_11 (by decide) ?_
    have hE := Option.some.inj hE
    obtain ⟨q0, q1⟩ := Prod.mk.inj hE
    exact ei hx hb hr hlocks hK hP hD hS q0 (by rw [q1]) dX6_removeBlock_12
  · replace hE := it_f hE c_11
    refine lv_iload_n hx hb dX6_removeBlock_4 rfl (lv_at hl 1 rfl) ?_
    refine lv_sipush (v := 150) hx hb dX6_removeBlock_5 (by decide) ?_
    refine lv_icmp_lt (tgt := 13) hx hb dX6_removeBlock_8 (by decide) (fun c_12 => ?_) (fun c_12 => ?_)
    · replace hE := it_t hE c_12
      refine lv_aload_n hx hb dX6_removeBlock_13 rfl (lv_at hl 0 rfl) ?_
      refine va_get (D := D) (ci := 6) (v := .ref (aS 9)) (C := RX6) (T := TX6) (N := 10) hx hb hts iX6 hown hK hP 0 rfl rfl 8 (by decide) f30 (fun _ h9 => h9) rfl dX6_removeBlock_14 ?_
      refine lv_iload_n hx hb dX6_removeBlock_17 rfl (lv_at hl 1 rfl) ?_
      obtain ⟨g_13, hE⟩ := gi_el hE
      refine va_iald hx hb hK hP 7 0 rfl rfl g_13 dX6_removeBlock_18 ?_
      obtain ⟨x2_14, e_x2_14, hE⟩ := lt_el hE
      refine s_nm e_x2_14 ?_
      refine lv_istore_n (lv' := [(2, .int x2_14), (0, .ref (aS 0)), (1, .int x1)]) hx hb dX6_removeBlock_19 rfl hl (by decide) rfl (fun ls hl => ?_)
      refine lv_iload_n hx hb dX6_removeBlock_20 rfl (lv_at hl 2 rfl) ?_
      refine lv_bipush (v := 30) hx hb dX6_removeBlock_21 (by decide) ?_
      refine lv_idiv hx hb dX6_removeBlock_23 (by decide) ?_
      obtain ⟨x3_15, e_x3_15, hE⟩ := lt_el hE
      refine s_nm e_x3_15 ?_
      refine lv_istore_n (lv' := [(3, .int x3_15), (2, .int x2_14), (0, .ref (aS 0)), (1, .int x1)]) hx hb dX6_removeBlock_24 rfl hl (by decide) rfl (fun ls hl => ?_)
      refine lv_iload_n hx hb dX6_removeBlock_25 rfl (lv_at hl 0 rfl) ?_
      refine lv_bipush (v := 30) hx hb dX6_removeBlock_26 (by decide) ?_
      refine lv_imul hx hb dX6_removeBlock_28 ?_
      refine lv_aload_n hx hb dX6_removeBlock_29 rfl (lv_at hl 2 rfl) ?_
      refine va_get (D := D) (ci := 6) (v := .ref (aS 6)) (C := RX6) (T := TX6) (N := 10) hx hb hts iX6 hown hK hP 0 rfl rfl 5 (by decide) f21 (fun _ h9 => h9) rfl dX6_removeBlock_30 ?_
      refine lv_iload_n hx hb dX6_removeBlock_33 rfl (lv_at hl 0 rfl) ?_
      obtain ⟨g_16, hE⟩ := gi_el hE
      refine va_iald hx hb hK hP 4 0 rfl rfl g_16 dX6_removeBlock_34 ?_
      refine lv_iadd hx hb dX6_removeBlock_35 ?_
      obtain ⟨x4_17, e_x4_17, hE⟩ := lt_el hE
      refine s_nm e_x4_17 ?_
      refine lv_istore (lv' := [(4, .int x4_17), (3, .int x3_15), (2, .int x2_14), (0, .ref (aS 0)), (1, .int x1)]) hx hb dX6_removeBlock_36 hl (by decide) rfl (fun ls hl => ?_)
      refine lv_iload_n hx hb dX6_removeBlock_38 rfl (lv_at hl 4 rfl) ?_
      refine lv_iconst (v := 1) hx hb dX6_removeBlock_39 (by decide) ?_
      refine lv_iadd hx hb dX6_removeBlock_40 ?_
      obtain ⟨x5_18, e_x5_18, hE⟩ := lt_el hE
      refine s_nm e_x5_18 ?_
      refine lv_istore (lv' := [(5, .int x5_18), (4, .int x4_17), (3, .int x3_15), (2, .int x2_14), (0, .ref (aS 0)), (1, .int x1)]) hx hb dX6_removeBlock_41 hl (by decide) rfl (fun ls hl => ?_)
      exact h43 x2_14 x3_15 x4_17 fuel x5_18 imS _ _ _ hE hP hD hS (lv_sub hl [4, 3, 2, 1, 0] rfl)
    · replace hE := it_f hE c_12
      refine lv_iconst (v := 0) hx hb dX6_removeBlock_11 (by decide) ?_
      have hE := Option.some.inj hE
      obtain ⟨q0, q1⟩ := Prod.mk.inj hE
      exact ei hx hb hr hlocks hK hP hD hS q0 (by rw [q1]) dX6_removeBlock_12
abbrev rm_X6_growOlder : Room := { frames := 0, cells := 0, slots := 0, locals := 0 }
set_option maxHeartbeats 40000000 in
set_option maxRecDepth 100000 in
theorem c_X6_growOlder (l : Launch) (D : va_G) (cy : Nat → Nat) (aS : Nat → Nat) (imS : Mem) (mS' : Mem) (hE : f_X6_growOlder imS = some mS') : CV l yX6_growOlder wsX6_growOlder rm_X6_growOlder D cy [.ref (aS 0)] (W_S cy aS imS) 0 0 (W_S cy aS mS') := by
  refine CQ_of (cc := cX6_growOlder) (maxL := 4) (ret := none) (by decide) rfl (Nat.le_of_ble_eq_true rfl) (fun p e s m args below meth c A ls hx hb hr hml hlocks hnm hown hts hA hK hN hP hD hS hl => ?_)
  have hown : s.vm.findClass RX6 = some m.cls := hown
  have hl : lv_has ls 4 [(0, .ref (aS 0))] := hl
  have f21 : (Cond.fieldLink RX6 21 "IcePlant$Store" "sizes" "[I").before args s = true := hts _ (mC qf_X6_21)
  have f33 : (Cond.fieldLink RX6 33 "IcePlant$Store" "ages" "[I").before args s = true := hts _ (mC qf_X6_33)
  have f36 : (Cond.fieldLink RX6 36 "IcePlant$Store" "silos" "I").before args s = true := hts _ (mC qf_X6_36)
  have iX6 : ∀ w ∈ wsX60, w ∈ wsX6_growOlder := fun w h => mC (iA_X6 w h)
  have h27 : ∀ (x1 : Int32) (x2 : Int32), ∀ (k2 : (Int32 → Mem → Option (Mem))), (∀ (x1 : Int32) (mS : Mem) (H : Heap) (locs : List Loc) (ls : Array Slot), k2 x1 mS = some mS' → va_P D vwCl (W_S cy aS mS) H → va_D A (W_S cy aS mS) → va_S A s.heap H locs → lv_has ls 4 [(0, .ref (aS 0)), (1, .int x1)] → W p l e rm_X6_growOlder s m args below meth c H locs 0 0 (MQ below (QV D cy (W_S cy aS mS') A) args s 0 0 A) (F0 m 2 ls [])) → ∀ (n : Nat), ∀ (x3 : Int32) (mS : Mem) (H : Heap) (locs : List Loc) (ls : Array Slot), f_X6_growOlder_L27 k2 x1 x2 n x3 mS = some mS' → va_P D vwCl (W_S cy aS mS) H → va_D A (W_S cy aS mS) → va_S A s.heap H locs → lv_has ls 4 [(0, .ref (aS 0)), (1, .int x1), (2, .int x2), (3, .int x3)] → W p l e rm_X6_growOlder s m args below meth c H locs 0 0 (MQ below (QV D cy (W_S cy aS mS') A) args s 0 0 A) (F0 m 27 ls []) := by
    intro x1 x2 k2 hk2 n
    induction n with
    | zero => intro x3 mS H locs ls hE; exact absurd hE (fun h9 => nomatch h9)
    | succ n ih =>
      intro x3 mS H locs ls hE hP hD hS hl
      replace hE : ((if x2 ≤ x3 then lt' (x1 + (1 : Int32)) fun x1_2 => k2 x1_2 mS else gi x3 150 (gi x3 150 (lt' (wrI mS 9 (upd (mS 9) x3.toNatClampNeg ((mS 9 x3.toNatClampNeg) + (1 : Int32)))) fun mS_4 => lt' (x3 + (1 : Int32)) fun x3_6 => (f_X6_growOlder_L27 k2 x1 x2 n) x3_6 mS_4)))) = some mS' := hE
      refine lv_iload_n hx hb dX6_growOlder_27 rfl (lv_at hl 3 rfl) ?_
      refine lv_iload_n hx hb dX6_growOlder_28 rfl (lv_at hl 2 rfl) ?_
      refine lv_icmp_ge (tgt := 48) hx hb dX6_growOlder_29 (by decide) (fun c_1 => ?_) (fun c_1 => ?_)
      · replace hE := it_t hE c_1
        obtain ⟨x1_2, e_x1_2, hE⟩ := lt_el hE
        refine lv_iinc (v := x1_2) (lv' := [(1, .int x1_2), (0, .ref (aS 0)), (2, .int x2), (3, .int x3)]) hx hb dX6_growOlder_48 hl (k := 1) rfl (by rw [e_x1_2]; rfl) (by decide) rfl (fun ls hl => ?_)
        refine lv_goto (tgt := 2) hx hb dX6_growOlder_51 (by decide) ?_
        exact hk2 x1_2 mS _ _ _ hE hP hD hS (lv_sub hl [1, 0] rfl)
      · replace hE := it_f hE c_1
        refine lv_aload_n hx hb dX6_growOlder_32 rfl (lv_at hl 0 rfl) ?_
        refine va_get (D := D) (ci := 6) (v := .ref (aS 10)) (C := RX6) (T := TX6) (N := 10) hx hb hts iX6 hown hK hP 0 rfl rfl 9 (by decide) f33 (fun _ h9 => h9) rfl dX6_growOlder_33 ?_
        refine lv_iload_n hx hb dX6_growOlder_36 rfl (lv_at hl 3 rfl) ?_
        refine lv_dup2_11 hx hb dX6_growOlder_37 rfl rfl ?_
        obtain ⟨g_3, hE⟩ := gi_el hE
        refine va_iald hx hb hK hP 8 0 rfl rfl g_3 dX6_growOlder_38 ?_
        refine lv_iconst (v := 1) hx hb dX6_growOlder_39 (by decide) ?_
        refine lv_iadd hx hb dX6_growOlder_40 ?_
        obtain ⟨g_5, hE⟩ := gi_el hE
        obtain ⟨mS_4, e_mS_4, hE⟩ := lt_el hE
        refine s_ia (ws1 := (W_S cy aS mS_4)) hx hb hK hP hD hS 8 rfl g_5 (by rw [e_mS_4]; rfl) dX6_growOlder_41 (fun H locs hP hD hS => ?_)
        obtain ⟨x3_6, e_x3_6, hE⟩ := lt_el hE
        refine lv_iinc (v := x3_6) (lv' := [(3, .int x3_6), (0, .ref (aS 0)), (1, .int x1), (2, .int x2)]) hx hb dX6_growOlder_42 hl (k := 3) rfl (by rw [e_x3_6]; rfl) (by decide) rfl (fun ls hl => ?_)
        refine lv_goto (tgt := 27) hx hb dX6_growOlder_45 (by decide) ?_
        exact ih x3_6 mS_4 _ _ _ hE hP hD hS (lv_sub hl [1, 2, 3, 0] rfl)
  have h2 : ∀ (n : Nat), ∀ (x1 : Int32) (mS : Mem) (H : Heap) (locs : List Loc) (ls : Array Slot), f_X6_growOlder_L2 n x1 mS = some mS' → va_P D vwCl (W_S cy aS mS) H → va_D A (W_S cy aS mS) → va_S A s.heap H locs → lv_has ls 4 [(0, .ref (aS 0)), (1, .int x1)] → W p l e rm_X6_growOlder s m args below meth c H locs 0 0 (MQ below (QV D cy (W_S cy aS mS') A) args s 0 0 A) (F0 m 2 ls []) := by
    intro n
    induction n with
    | zero => intro x1 mS H locs ls hE; exact absurd hE (fun h9 => nomatch h9)
    | succ n ih =>
      intro x1 mS H locs ls hE hP hD hS hl
      replace hE : ((if (mS 0 0) ≤ x1 then some mS else gi x1 5 (lt' ((x1 * (30 : Int32)) + (mS 5 x1.toNatClampNeg)) fun x2_9 => lt' (x1 * (30 : Int32)) fun x3_10 => f_X6_growOlder_L27 (f_X6_growOlder_L2 n) x1 x2_9 fuel x3_10 mS))) = some mS' := hE
      refine lv_iload_n hx hb dX6_growOlder_2 rfl (lv_at hl 1 rfl) ?_
      refine lv_aload_n hx hb dX6_growOlder_3 rfl (lv_at hl 0 rfl) ?_
      refine va_get (D := D) (ci := 6) (v := .int (mS 0 0)) (C := RX6) (T := TX6) (N := 10) hx hb hts iX6 hown hK hP 0 rfl rfl 0 (by decide) f36 (fun _ h9 => h9) rfl dX6_growOlder_4 ?_
      refine lv_icmp_ge (tgt := 54) hx hb dX6_growOlder_7 (by decide) (fun c_7 => ?_) (fun c_7 => ?_)
      · replace hE := it_t hE c_7
        have hE := Option.some.inj hE
        exact ev hx hb hr hlocks hK hP hD hS (by rw [hE]) dX6_growOlder_54
      · replace hE := it_f hE c_7
        refine lv_iload_n hx hb dX6_growOlder_10 rfl (lv_at hl 1 rfl) ?_
        refine lv_bipush (v := 30) hx hb dX6_growOlder_11 (by decide) ?_
        refine lv_imul hx hb dX6_growOlder_13 ?_
        refine lv_aload_n hx hb dX6_growOlder_14 rfl (lv_at hl 0 rfl) ?_
        refine va_get (D := D) (ci := 6) (v := .ref (aS 6)) (C := RX6) (T := TX6) (N := 10) hx hb hts iX6 hown hK hP 0 rfl rfl 5 (by decide) f21 (fun _ h9 => h9) rfl dX6_growOlder_15 ?_
        refine lv_iload_n hx hb dX6_growOlder_18 rfl (lv_at hl 1 rfl) ?_
        obtain ⟨g_8, hE⟩ := gi_el hE
        refine va_iald hx hb hK hP 4 0 rfl rfl g_8 dX6_growOlder_19 ?_
        refine lv_iadd hx hb dX6_growOlder_20 ?_
        obtain ⟨x2_9, e_x2_9, hE⟩ := lt_el hE
        refine s_nm e_x2_9 ?_
        refine lv_istore_n (lv' := [(2, .int x2_9), (0, .ref (aS 0)), (1, .int x1)]) hx hb dX6_growOlder_21 rfl hl (by decide) rfl (fun ls hl => ?_)
        refine lv_iload_n hx hb dX6_growOlder_22 rfl (lv_at hl 2 rfl) ?_
        refine lv_bipush (v := 30) hx hb dX6_growOlder_23 (by decide) ?_
        refine lv_imul hx hb dX6_growOlder_25 ?_
        obtain ⟨x3_10, e_x3_10, hE⟩ := lt_el hE
        refine s_nm e_x3_10 ?_
        refine lv_istore_n (lv' := [(3, .int x3_10), (2, .int x2_9), (0, .ref (aS 0)), (1, .int x1)]) hx hb dX6_growOlder_26 rfl hl (by decide) rfl (fun ls hl => ?_)
        exact h27 x1 x2_9 (f_X6_growOlder_L2 n) ih fuel x3_10 mS _ _ _ hE hP hD hS (lv_sub hl [2, 3, 1, 0] rfl)
  unfold f_X6_growOlder at hE
  refine lv_iconst (v := 0) hx hb dX6_growOlder_0 (by decide) ?_
  refine lv_istore_n (lv' := [(1, .int (0 : Int32)), (0, .ref (aS 0))]) hx hb dX6_growOlder_1 rfl hl (by decide) rfl (fun ls hl => ?_)
  exact h2 fuel (0 : Int32) imS _ _ _ hE hP hD hS (lv_sub hl [1, 0] rfl)
abbrev rm_X6_blocks : Room := { frames := 0, cells := 0, slots := 0, locals := 0 }
set_option maxHeartbeats 40000000 in
set_option maxRecDepth 100000 in
theorem c_X6_blocks (l : Launch) (D : va_G) (cy : Nat → Nat) (aS : Nat → Nat) (imS : Mem) (r' : Int32) (hE : f_X6_blocks imS = some r') : CI l yX6_blocks wsX6_blocks rm_X6_blocks D cy [.ref (aS 0)] (W_S cy aS imS) 0 0 r' (W_S cy aS imS) := by
  refine CQ_of (cc := cX6_blocks) (maxL := 3) (ret := (some .int)) (by decide) rfl (Nat.le_of_ble_eq_true rfl) (fun p e s m args below meth c A ls hx hb hr hml hlocks hnm hown hts hA hK hN hP hD hS hl => ?_)
  have hown : s.vm.findClass RX6 = some m.cls := hown
  have hl : lv_has ls 3 [(0, .ref (aS 0))] := hl
  have f21 : (Cond.fieldLink RX6 21 "IcePlant$Store" "sizes" "[I").before args s = true := hts _ (mC qf_X6_21)
  have f36 : (Cond.fieldLink RX6 36 "IcePlant$Store" "silos" "I").before args s = true := hts _ (mC qf_X6_36)
  have iX6 : ∀ w ∈ wsX60, w ∈ wsX6_blocks := fun w h => mC (iA_X6 w h)
  have h4 : ∀ (n : Nat), ∀ (x1 : Int32) (x2 : Int32) (H : Heap) (locs : List Loc) (ls : Array Slot), f_X6_blocks_L4 imS n x1 x2 = some r' → va_P D vwCl (W_S cy aS imS) H → va_D A (W_S cy aS imS) → va_S A s.heap H locs → lv_has ls 3 [(0, .ref (aS 0)), (1, .int x1), (2, .int x2)] → W p l e rm_X6_blocks s m args below meth c H locs 0 0 (MQ below (QI D cy r' (W_S cy aS imS) A) args s 0 0 A) (F0 m 4 ls []) := by
    intro n
    induction n with
    | zero => intro x1 x2 H locs ls hE; exact absurd hE (fun h9 => nomatch h9)
    | succ n ih =>
      intro x1 x2 H locs ls hE hP hD hS hl
      replace hE : ((if (imS 0 0) ≤ x2 then some x1 else gi x2 5 (lt' (x1 + (imS 5 x2.toNatClampNeg)) fun x1_3 => lt' (x2 + (1 : Int32)) fun x2_4 => (f_X6_blocks_L4 imS n) x1_3 x2_4))) = some r' := hE
      refine lv_iload_n hx hb dX6_blocks_4 rfl (lv_at hl 2 rfl) ?_
      refine lv_aload_n hx hb dX6_blocks_5 rfl (lv_at hl 0 rfl) ?_
      refine va_get (D := D) (ci := 6) (v := .int (imS 0 0)) (C := RX6) (T := TX6) (N := 10) hx hb hts iX6 hown hK hP 0 rfl rfl 0 (by decide) f36 (fun _ h9 => h9) rfl dX6_blocks_6 ?_
      refine lv_icmp_ge (tgt := 27) hx hb dX6_blocks_9 (by decide) (fun c_1 => ?_) (fun c_1 => ?_)
      · replace hE := it_t hE c_1
        refine lv_iload_n hx hb dX6_blocks_27 rfl (lv_at hl 1 rfl) ?_
        have hE := Option.some.inj hE
        exact ei hx hb hr hlocks hK hP hD hS hE rfl dX6_blocks_28
      · replace hE := it_f hE c_1
        refine lv_iload_n hx hb dX6_blocks_12 rfl (lv_at hl 1 rfl) ?_
        refine lv_aload_n hx hb dX6_blocks_13 rfl (lv_at hl 0 rfl) ?_
        refine va_get (D := D) (ci := 6) (v := .ref (aS 6)) (C := RX6) (T := TX6) (N := 10) hx hb hts iX6 hown hK hP 0 rfl rfl 5 (by decide) f21 (fun _ h9 => h9) rfl dX6_blocks_14 ?_
        refine lv_iload_n hx hb dX6_blocks_17 rfl (lv_at hl 2 rfl) ?_
        obtain ⟨g_2, hE⟩ := gi_el hE
        refine va_iald hx hb hK hP 4 0 rfl rfl g_2 dX6_blocks_18 ?_
        refine lv_iadd hx hb dX6_blocks_19 ?_
        obtain ⟨x1_3, e_x1_3, hE⟩ := lt_el hE
        refine s_nm e_x1_3 ?_
        refine lv_istore_n (lv' := [(1, .int x1_3), (0, .ref (aS 0)), (2, .int x2)]) hx hb dX6_blocks_20 rfl hl (by decide) rfl (fun ls hl => ?_)
        obtain ⟨x2_4, e_x2_4, hE⟩ := lt_el hE
        refine lv_iinc (v := x2_4) (lv' := [(2, .int x2_4), (1, .int x1_3), (0, .ref (aS 0))]) hx hb dX6_blocks_21 hl (k := 2) rfl (by rw [e_x2_4]; rfl) (by decide) rfl (fun ls hl => ?_)
        refine lv_goto (tgt := 4) hx hb dX6_blocks_24 (by decide) ?_
        exact ih x1_3 x2_4 _ _ _ hE hP hD hS (lv_sub hl [2, 1, 0] rfl)
  unfold f_X6_blocks at hE
  refine lv_iconst (v := 0) hx hb dX6_blocks_0 (by decide) ?_
  refine lv_istore_n (lv' := [(1, .int (0 : Int32)), (0, .ref (aS 0))]) hx hb dX6_blocks_1 rfl hl (by decide) rfl (fun ls hl => ?_)
  refine lv_iconst (v := 0) hx hb dX6_blocks_2 (by decide) ?_
  refine lv_istore_n (lv' := [(2, .int (0 : Int32)), (1, .int (0 : Int32)), (0, .ref (aS 0))]) hx hb dX6_blocks_3 rfl hl (by decide) rfl (fun ls hl => ?_)
  exact h4 fuel (0 : Int32) (0 : Int32) _ _ _ hE hP hD hS (lv_sub hl [2, 1, 0] rfl)
abbrev rm_X6_sumOf_S8 : Room := { frames := 0, cells := 0, slots := 0, locals := 0 }
set_option maxHeartbeats 40000000 in
set_option maxRecDepth 100000 in
theorem c_X6_sumOf_S8 (l : Launch) (D : va_G) (cy : Nat → Nat) (aS : Nat → Nat) (x2 : Int32) (x3 : Int32) (imS : Mem) (r' : Int32) (hE : f_X6_sumOf_S8 x2 x3 imS = some r') : CI l yX6_sumOf wsX6_sumOf rm_X6_sumOf_S8 D cy [.ref (aS 0), .ref (aS 9), .int x2, .int x3] (W_S cy aS imS) 0 0 r' (W_S cy aS imS) := by
  refine CQ_of (cc := cX6_sumOf) (maxL := 8) (ret := (some .int)) (by decide) rfl (Nat.le_of_ble_eq_true rfl) (fun p e s m args below meth c A ls hx hb hr hml hlocks hnm hown hts hA hK hN hP hD hS hl => ?_)
  have hown : s.vm.findClass RX6 = some m.cls := hown
  have hl : lv_has ls 8 [(0, .ref (aS 0)), (1, .ref (aS 9)), (2, .int x2), (3, .int x3)] := hl
  have f21 : (Cond.fieldLink RX6 21 "IcePlant$Store" "sizes" "[I").before args s = true := hts _ (mC qf_X6_21)
  have iX6 : ∀ w ∈ wsX60, w ∈ wsX6_sumOf := fun w h => mC (iA_X6 w h)
  have h34 : ∀ (x3 : Int32) (x5 : Int32) (x6 : Int32), ∀ (k6 : (Int32 → Int32 → Option (Int32))), (∀ (x4 : Int32) (x5 : Int32) (H : Heap) (locs : List Loc) (ls : Array Slot), k6 x4 x5 = some r' → va_P D vwCl (W_S cy aS imS) H → va_D A (W_S cy aS imS) → va_S A s.heap H locs → lv_has ls 8 [(0, .ref (aS 0)), (1, .ref (aS 9)), (3, .int x3), (4, .int x4), (5, .int x5)] → W p l e rm_X6_sumOf_S8 s m args below meth c H locs 0 0 (MQ below (QI D cy r' (W_S cy aS imS) A) args s 0 0 A) (F0 m 6 ls [])) → ∀ (n : Nat), ∀ (x4 : Int32) (x7 : Int32) (H : Heap) (locs : List Loc) (ls : Array Slot), f_X6_sumOf_S8_L34 k6 x3 x5 x6 imS n x4 x7 = some r' → va_P D vwCl (W_S cy aS imS) H → va_D A (W_S cy aS imS) → va_S A s.heap H locs → lv_has ls 8 [(0, .ref (aS 0)), (1, .ref (aS 9)), (3, .int x3), (4, .int x4), (5, .int x5), (6, .int x6), (7, .int x7)] → W p l e rm_X6_sumOf_S8 s m args below meth c H locs 0 0 (MQ below (QI D cy r' (W_S cy aS imS) A) args s 0 0 A) (F0 m 34 ls []) := by
    intro x3 x5 x6 k6 hk6 n
    induction n with
    | zero => intro x4 x7 H locs ls hE; exact absurd hE (fun h9 => nomatch h9)
    | succ n ih =>
      intro x4 x7 H locs ls hE hP hD hS hl
      replace hE : ((if x6 ≤ x7 then lt' (x5 + (1 : Int32)) fun x5_2 => k6 x4 x5_2 else gi x7 150 (lt' (x4 + (imS 8 x7.toNatClampNeg)) fun x4_4 => lt' (x7 + (1 : Int32)) fun x7_5 => (f_X6_sumOf_S8_L34 k6 x3 x5 x6 imS n) x4_4 x7_5))) = some r' := hE
      refine lv_iload hx hb dX6_sumOf_34 (lv_at hl 6 rfl) ?_
      refine lv_iload hx hb dX6_sumOf_36 (lv_at hl 5 rfl) ?_
      refine lv_icmp_ge (tgt := 56) hx hb dX6_sumOf_38 (by decide) (fun c_1 => ?_) (fun c_1 => ?_)
      · replace hE := it_t hE c_1
        obtain ⟨x5_2, e_x5_2, hE⟩ := lt_el hE
        refine lv_iinc (v := x5_2) (lv' := [(5, .int x5_2), (0, .ref (aS 0)), (1, .ref (aS 9)), (3, .int x3), (4, .int x4), (6, .int x6), (7, .int x7)]) hx hb dX6_sumOf_56 hl (k := 4) rfl (by rw [e_x5_2]; rfl) (by decide) rfl (fun ls hl => ?_)
        refine lv_goto (tgt := 6) hx hb dX6_sumOf_59 (by decide) ?_
        exact hk6 x4 x5_2 _ _ _ hE hP hD hS (lv_sub hl [1, 2, 3, 4, 0] rfl)
      · replace hE := it_f hE c_1
        refine lv_iload hx hb dX6_sumOf_41 (lv_at hl 3 rfl) ?_
        refine lv_aload_n hx hb dX6_sumOf_43 rfl (lv_at hl 1 rfl) ?_
        refine lv_iload hx hb dX6_sumOf_44 (lv_at hl 6 rfl) ?_
        obtain ⟨g_3, hE⟩ := gi_el hE
        refine va_iald hx hb hK hP 7 0 rfl rfl g_3 dX6_sumOf_46 ?_
        refine lv_iadd hx hb dX6_sumOf_47 ?_
        obtain ⟨x4_4, e_x4_4, hE⟩ := lt_el hE
        refine s_nm e_x4_4 ?_
        refine lv_istore (lv' := [(4, .int x4_4), (0, .ref (aS 0)), (1, .ref (aS 9)), (3, .int x3), (5, .int x5), (6, .int x6), (7, .int x7)]) hx hb dX6_sumOf_48 hl (by decide) rfl (fun ls hl => ?_)
        obtain ⟨x7_5, e_x7_5, hE⟩ := lt_el hE
        refine lv_iinc (v := x7_5) (lv' := [(7, .int x7_5), (4, .int x4_4), (0, .ref (aS 0)), (1, .ref (aS 9)), (3, .int x3), (5, .int x5), (6, .int x6)]) hx hb dX6_sumOf_50 hl (k := 6) rfl (by rw [e_x7_5]; rfl) (by decide) rfl (fun ls hl => ?_)
        refine lv_goto (tgt := 34) hx hb dX6_sumOf_53 (by decide) ?_
        exact ih x4_4 x7_5 _ _ _ hE hP hD hS (lv_sub hl [2, 3, 4, 1, 5, 6, 0] rfl)
  have h6 : ∀ (x3 : Int32), ∀ (n : Nat), ∀ (x4 : Int32) (x5 : Int32) (H : Heap) (locs : List Loc) (ls : Array Slot), f_X6_sumOf_S8_L6 x3 imS n x4 x5 = some r' → va_P D vwCl (W_S cy aS imS) H → va_D A (W_S cy aS imS) → va_S A s.heap H locs → lv_has ls 8 [(0, .ref (aS 0)), (1, .ref (aS 9)), (3, .int x3), (4, .int x4), (5, .int x5)] → W p l e rm_X6_sumOf_S8 s m args below meth c H locs 0 0 (MQ below (QI D cy r' (W_S cy aS imS) A) args s 0 0 A) (F0 m 6 ls []) := by
    intro x3 n
    induction n with
    | zero => intro x4 x5 H locs ls hE; exact absurd hE (fun h9 => nomatch h9)
    | succ n ih =>
      intro x4 x5 H locs ls hE hP hD hS hl
      replace hE : ((if x3 ≤ x5 then some x4 else gi x5 5 (lt' ((x5 * (30 : Int32)) + (imS 5 x5.toNatClampNeg)) fun x6_8 => lt' (x5 * (30 : Int32)) fun x7_9 => f_X6_sumOf_S8_L34 (f_X6_sumOf_S8_L6 x3 imS n) x3 x5 x6_8 imS fuel x4 x7_9))) = some r' := hE
      refine lv_iload hx hb dX6_sumOf_6 (lv_at hl 4 rfl) ?_
      refine lv_iload_n hx hb dX6_sumOf_8 rfl (lv_at hl 2 rfl) ?_
      refine lv_icmp_ge (tgt := 62) hx hb dX6_sumOf_9 (by decide) (fun c_6 => ?_) (fun c_6 => ?_)
      · replace hE := it_t hE c_6
        refine lv_iload hx hb dX6_sumOf_62 (lv_at hl 3 rfl) ?_
        have hE := Option.some.inj hE
        exact ei hx hb hr hlocks hK hP hD hS hE rfl dX6_sumOf_64
      · replace hE := it_f hE c_6
        refine lv_iload hx hb dX6_sumOf_12 (lv_at hl 4 rfl) ?_
        refine lv_bipush (v := 30) hx hb dX6_sumOf_14 (by decide) ?_
        refine lv_imul hx hb dX6_sumOf_16 ?_
        refine lv_aload_n hx hb dX6_sumOf_17 rfl (lv_at hl 0 rfl) ?_
        refine va_get (D := D) (ci := 6) (v := .ref (aS 6)) (C := RX6) (T := TX6) (N := 10) hx hb hts iX6 hown hK hP 0 rfl rfl 5 (by decide) f21 (fun _ h9 => h9) rfl dX6_sumOf_18 ?_
        refine lv_iload hx hb dX6_sumOf_21 (lv_at hl 4 rfl) ?_
        obtain ⟨g_7, hE⟩ := gi_el hE
        refine va_iald hx hb hK hP 4 0 rfl rfl g_7 dX6_sumOf_23 ?_
        refine lv_iadd hx hb dX6_sumOf_24 ?_
        obtain ⟨x6_8, e_x6_8, hE⟩ := lt_el hE
        refine s_nm e_x6_8 ?_
        refine lv_istore (lv' := [(6, .int x6_8), (0, .ref (aS 0)), (1, .ref (aS 9)), (3, .int x3), (4, .int x4), (5, .int x5)]) hx hb dX6_sumOf_25 hl (by decide) rfl (fun ls hl => ?_)
        refine lv_iload hx hb dX6_sumOf_27 (lv_at hl 5 rfl) ?_
        refine lv_bipush (v := 30) hx hb dX6_sumOf_29 (by decide) ?_
        refine lv_imul hx hb dX6_sumOf_31 ?_
        obtain ⟨x7_9, e_x7_9, hE⟩ := lt_el hE
        refine s_nm e_x7_9 ?_
        refine lv_istore (lv' := [(7, .int x7_9), (6, .int x6_8), (0, .ref (aS 0)), (1, .ref (aS 9)), (3, .int x3), (4, .int x4), (5, .int x5)]) hx hb dX6_sumOf_32 hl (by decide) rfl (fun ls hl => ?_)
        exact h34 x3 x5 x6_8 (f_X6_sumOf_S8_L6 x3 imS n) ih fuel x4 x7_9 _ _ _ hE hP hD hS (lv_sub hl [2, 3, 4, 5, 6, 1, 0] rfl)
  unfold f_X6_sumOf_S8 at hE
  refine lv_iconst (v := 0) hx hb dX6_sumOf_0 (by decide) ?_
  refine lv_istore (lv' := [(4, .int (0 : Int32)), (0, .ref (aS 0)), (1, .ref (aS 9)), (2, .int x2), (3, .int x3)]) hx hb dX6_sumOf_1 hl (by decide) rfl (fun ls hl => ?_)
  refine lv_iload_n hx hb dX6_sumOf_3 rfl (lv_at hl 3 rfl) ?_
  refine lv_istore (lv' := [(5, .int x2), (4, .int (0 : Int32)), (0, .ref (aS 0)), (1, .ref (aS 9)), (2, .int x2), (3, .int x3)]) hx hb dX6_sumOf_4 hl (by decide) rfl (fun ls hl => ?_)
  exact h6 x3 fuel (0 : Int32) x2 _ _ _ hE hP hD hS (lv_sub hl [2, 3, 5, 1, 0] rfl)
abbrev rm_X6_sumOf_S9 : Room := { frames := 0, cells := 0, slots := 0, locals := 0 }
set_option maxHeartbeats 40000000 in
set_option maxRecDepth 100000 in
theorem c_X6_sumOf_S9 (l : Launch) (D : va_G) (cy : Nat → Nat) (aS : Nat → Nat) (x2 : Int32) (x3 : Int32) (imS : Mem) (r' : Int32) (hE : f_X6_sumOf_S9 x2 x3 imS = some r') : CI l yX6_sumOf wsX6_sumOf rm_X6_sumOf_S9 D cy [.ref (aS 0), .ref (aS 10), .int x2, .int x3] (W_S cy aS imS) 0 0 r' (W_S cy aS imS) := by
  refine CQ_of (cc := cX6_sumOf) (maxL := 8) (ret := (some .int)) (by decide) rfl (Nat.le_of_ble_eq_true rfl) (fun p e s m args below meth c A ls hx hb hr hml hlocks hnm hown hts hA hK hN hP hD hS hl => ?_)
  have hown : s.vm.findClass RX6 = some m.cls := hown
  have hl : lv_has ls 8 [(0, .ref (aS 0)), (1, .ref (aS 10)), (2, .int x2), (3, .int x3)] := hl
  have f21 : (Cond.fieldLink RX6 21 "IcePlant$Store" "sizes" "[I").before args s = true := hts _ (mC qf_X6_21)
  have iX6 : ∀ w ∈ wsX60, w ∈ wsX6_sumOf := fun w h => mC (iA_X6 w h)
  have h34 : ∀ (x3 : Int32) (x5 : Int32) (x6 : Int32), ∀ (k6 : (Int32 → Int32 → Option (Int32))), (∀ (x4 : Int32) (x5 : Int32) (H : Heap) (locs : List Loc) (ls : Array Slot), k6 x4 x5 = some r' → va_P D vwCl (W_S cy aS imS) H → va_D A (W_S cy aS imS) → va_S A s.heap H locs → lv_has ls 8 [(0, .ref (aS 0)), (1, .ref (aS 10)), (3, .int x3), (4, .int x4), (5, .int x5)] → W p l e rm_X6_sumOf_S9 s m args below meth c H locs 0 0 (MQ below (QI D cy r' (W_S cy aS imS) A) args s 0 0 A) (F0 m 6 ls [])) → ∀ (n : Nat), ∀ (x4 : Int32) (x7 : Int32) (H : Heap) (locs : List Loc) (ls : Array Slot), f_X6_sumOf_S9_L34 k6 x3 x5 x6 imS n x4 x7 = some r' → va_P D vwCl (W_S cy aS imS) H → va_D A (W_S cy aS imS) → va_S A s.heap H locs → lv_has ls 8 [(0, .ref (aS 0)), (1, .ref (aS 10)), (3, .int x3), (4, .int x4), (5, .int x5), (6, .int x6), (7, .int x7)] → W p l e rm_X6_sumOf_S9 s m args below meth c H locs 0 0 (MQ below (QI D cy r' (W_S cy aS imS) A) args s 0 0 A) (F0 m 34 ls []) := by
    intro x3 x5 x6 k6 hk6 n
    induction n with
    | zero => intro x4 x7 H locs ls hE; exact absurd hE (fun h9 => nomatch h9)
    | succ n ih =>
      intro x4 x7 H locs ls hE hP hD hS hl
      replace hE : ((if x6 ≤ x7 then lt' (x5 + (1 : Int32)) fun x5_2 => k6 x4 x5_2 else gi x7 150 (lt' (x4 + (imS 9 x7.toNatClampNeg)) fun x4_4 => lt' (x7 + (1 : Int32)) fun x7_5 => (f_X6_sumOf_S9_L34 k6 x3 x5 x6 imS n) x4_4 x7_5))) = some r' := hE
      refine lv_iload hx hb dX6_sumOf_34 (lv_at hl 6 rfl) ?_
      refine lv_iload hx hb dX6_sumOf_36 (lv_at hl 5 rfl) ?_
      refine lv_icmp_ge (tgt := 56) hx hb dX6_sumOf_38 (by decide) (fun c_1 => ?_) (fun c_1 => ?_)
      · replace hE := it_t hE c_1
        obtain ⟨x5_2, e_x5_2, hE⟩ := lt_el hE
        refine lv_iinc (v := x5_2) (lv' := [(5, .int x5_2), (0, .ref (aS 0)), (1, .ref (aS 10)), (3, .int x3), (4, .int x4), (6, .int x6), (7, .int x7)]) hx hb dX6_sumOf_56 hl (k := 4) rfl (by rw [e_x5_2]; rfl) (by decide) rfl (fun ls hl => ?_)
        refine lv_goto (tgt := 6) hx hb dX6_sumOf_59 (by decide) ?_
        exact hk6 x4 x5_2 _ _ _ hE hP hD hS (lv_sub hl [1, 2, 3, 4, 0] rfl)
      · replace hE := it_f hE c_1
        refine lv_iload hx hb dX6_sumOf_41 (lv_at hl 3 rfl) ?_
        refine lv_aload_n hx hb dX6_sumOf_43 rfl (lv_at hl 1 rfl) ?_
        refine lv_iload hx hb dX6_sumOf_44 (lv_at hl 6 rfl) ?_
        obtain ⟨g_3, hE⟩ := gi_el hE
        refine va_iald hx hb hK hP 8 0 rfl rfl g_3 dX6_sumOf_46 ?_
        refine lv_iadd hx hb dX6_sumOf_47 ?_
        obtain ⟨x4_4, e_x4_4, hE⟩ := lt_el hE
        refine s_nm e_x4_4 ?_
        refine lv_istore (lv' := [(4, .int x4_4), (0, .ref (aS 0)), (1, .ref (aS 10)), (3, .int x3), (5, .int x5), (6, .int x6), (7, .int x7)]) hx hb dX6_sumOf_48 hl (by decide) rfl (fun ls hl => ?_)
        obtain ⟨x7_5, e_x7_5, hE⟩ := lt_el hE
        refine lv_iinc (v := x7_5) (lv' := [(7, .int x7_5), (4, .int x4_4), (0, .ref (aS 0)), (1, .ref (aS 10)), (3, .int x3), (5, .int x5), (6, .int x6)]) hx hb dX6_sumOf_50 hl (k := 6) rfl (by rw [e_x7_5]; rfl) (by decide) rfl (fun ls hl => ?_)
        refine lv_goto (tgt := 34) hx hb dX6_sumOf_53 (by decide) ?_
        exact ih x4_4 x7_5 _ _ _ hE hP hD hS (lv_sub hl [2, 3, 4, 1, 5, 6, 0] rfl)
  have h6 : ∀ (x3 : Int32), ∀ (n : Nat), ∀ (x4 : Int32) (x5 : Int32) (H : Heap) (locs : List Loc) (ls : Array Slot), f_X6_sumOf_S9_L6 x3 imS n x4 x5 = some r' → va_P D vwCl (W_S cy aS imS) H → va_D A (W_S cy aS imS) → va_S A s.heap H locs → lv_has ls 8 [(0, .ref (aS 0)), (1, .ref (aS 10)), (3, .int x3), (4, .int x4), (5, .int x5)] → W p l e rm_X6_sumOf_S9 s m args below meth c H locs 0 0 (MQ below (QI D cy r' (W_S cy aS imS) A) args s 0 0 A) (F0 m 6 ls []) := by
    intro x3 n
    induction n with
    | zero => intro x4 x5 H locs ls hE; exact absurd hE (fun h9 => nomatch h9)
    | succ n ih =>
      intro x4 x5 H locs ls hE hP hD hS hl
      replace hE : ((if x3 ≤ x5 then some x4 else gi x5 5 (lt' ((x5 * (30 : Int32)) + (imS 5 x5.toNatClampNeg)) fun x6_8 => lt' (x5 * (30 : Int32)) fun x7_9 => f_X6_sumOf_S9_L34 (f_X6_sumOf_S9_L6 x3 imS n) x3 x5 x6_8 imS fuel x4 x7_9))) = some r' := hE
      refine lv_iload hx hb dX6_sumOf_6 (lv_at hl 4 rfl) ?_
      refine lv_iload_n hx hb dX6_sumOf_8 rfl (lv_at hl 2 rfl) ?_
      refine lv_icmp_ge (tgt := 62) hx hb dX6_sumOf_9 (by decide) (fun c_6 => ?_) (fun c_6 => ?_)
      · replace hE := it_t hE c_6
        refine lv_iload hx hb dX6_sumOf_62 (lv_at hl 3 rfl) ?_
        have hE := Option.some.inj hE
        exact ei hx hb hr hlocks hK hP hD hS hE rfl dX6_sumOf_64
      · replace hE := it_f hE c_6
        refine lv_iload hx hb dX6_sumOf_12 (lv_at hl 4 rfl) ?_
        refine lv_bipush (v := 30) hx hb dX6_sumOf_14 (by decide) ?_
        refine lv_imul hx hb dX6_sumOf_16 ?_
        refine lv_aload_n hx hb dX6_sumOf_17 rfl (lv_at hl 0 rfl) ?_
        refine va_get (D := D) (ci := 6) (v := .ref (aS 6)) (C := RX6) (T := TX6) (N := 10) hx hb hts iX6 hown hK hP 0 rfl rfl 5 (by decide) f21 (fun _ h9 => h9) rfl dX6_sumOf_18 ?_
        refine lv_iload hx hb dX6_sumOf_21 (lv_at hl 4 rfl) ?_
        obtain ⟨g_7, hE⟩ := gi_el hE
        refine va_iald hx hb hK hP 4 0 rfl rfl g_7 dX6_sumOf_23 ?_
        refine lv_iadd hx hb dX6_sumOf_24 ?_
        obtain ⟨x6_8, e_x6_8, hE⟩ := lt_el hE
        refine s_nm e_x6_8 ?_
        refine lv_istore (lv' := [(6, .int x6_8), (0, .ref (aS 0)), (1, .ref (aS 10)), (3, .int x3), (4, .int x4), (5, .int x5)]) hx hb dX6_sumOf_25 hl (by decide) rfl (fun ls hl => ?_)
        refine lv_iload hx hb dX6_sumOf_27 (lv_at hl 5 rfl) ?_
        refine lv_bipush (v := 30) hx hb dX6_sumOf_29 (by decide) ?_
        refine lv_imul hx hb dX6_sumOf_31 ?_
        obtain ⟨x7_9, e_x7_9, hE⟩ := lt_el hE
        refine s_nm e_x7_9 ?_
        refine lv_istore (lv' := [(7, .int x7_9), (6, .int x6_8), (0, .ref (aS 0)), (1, .ref (aS 10)), (3, .int x3), (4, .int x4), (5, .int x5)]) hx hb dX6_sumOf_32 hl (by decide) rfl (fun ls hl => ?_)
        exact h34 x3 x5 x6_8 (f_X6_sumOf_S9_L6 x3 imS n) ih fuel x4 x7_9 _ _ _ hE hP hD hS (lv_sub hl [2, 3, 4, 5, 6, 1, 0] rfl)
  unfold f_X6_sumOf_S9 at hE
  refine lv_iconst (v := 0) hx hb dX6_sumOf_0 (by decide) ?_
  refine lv_istore (lv' := [(4, .int (0 : Int32)), (0, .ref (aS 0)), (1, .ref (aS 10)), (2, .int x2), (3, .int x3)]) hx hb dX6_sumOf_1 hl (by decide) rfl (fun ls hl => ?_)
  refine lv_iload_n hx hb dX6_sumOf_3 rfl (lv_at hl 3 rfl) ?_
  refine lv_istore (lv' := [(5, .int x2), (4, .int (0 : Int32)), (0, .ref (aS 0)), (1, .ref (aS 10)), (2, .int x2), (3, .int x3)]) hx hb dX6_sumOf_4 hl (by decide) rfl (fun ls hl => ?_)
  exact h6 x3 fuel (0 : Int32) x2 _ _ _ hE hP hD hS (lv_sub hl [2, 3, 5, 1, 0] rfl)
abbrev rm_X6_mass : Room := { frames := 1, cells := 0, slots := 0, locals := 27 }
set_option maxHeartbeats 40000000 in
set_option maxRecDepth 100000 in
theorem c_X6_mass (l : Launch) (D : va_G) (cy : Nat → Nat) (aS : Nat → Nat) (imS : Mem) (r' : Int32) (hE : f_X6_mass imS = some r') : CI l yX6_mass wsX6_mass rm_X6_mass D cy [.ref (aS 0)] (W_S cy aS imS) 0 0 r' (W_S cy aS imS) := by
  refine CQ_of (cc := cX6_mass) (maxL := 1) (ret := (some .int)) (by decide) rfl (Nat.le_of_ble_eq_true rfl) (fun p e s m args below meth c A ls hx hb hr hml hlocks hnm hown hts hA hK hN hP hD hS hl => ?_)
  have hown : s.vm.findClass RX6 = some m.cls := hown
  have hl : lv_has ls 1 [(0, .ref (aS 0))] := hl
  have hC : CallFix p m c cX6_mass 1 s args wsX6_mass RX6 := ⟨hx, hb, hml, hown, hts⟩
  have f30 : (Cond.fieldLink RX6 30 "IcePlant$Store" "masses" "[I").before args s = true := hts _ (mC qf_X6_30)
  have f36 : (Cond.fieldLink RX6 36 "IcePlant$Store" "silos" "I").before args s = true := hts _ (mC qf_X6_36)
  have iX6 : ∀ w ∈ wsX60, w ∈ wsX6_mass := fun w h => mC (iA_X6 w h)
  unfold f_X6_mass at hE
  refine lv_aload_n hx hb dX6_mass_0 rfl (lv_at hl 0 rfl) ?_
  refine lv_aload_n hx hb dX6_mass_1 rfl (lv_at hl 0 rfl) ?_
  refine va_get (D := D) (ci := 6) (v := .ref (aS 9)) (C := RX6) (T := TX6) (N := 10) hx hb hts iX6 hown hK hP 0 rfl rfl 8 (by decide) f30 (fun _ h9 => h9) rfl dX6_mass_2 ?_
  refine lv_iconst (v := 0) hx hb dX6_mass_5 (by decide) ?_
  refine lv_aload_n hx hb dX6_mass_6 rfl (lv_at hl 0 rfl) ?_
  refine va_get (D := D) (ci := 6) (v := .int (imS 0 0)) (C := RX6) (T := TX6) (N := 10) hx hb hts iX6 hown hK hP 0 rfl rfl 0 (by decide) f36 (fun _ h9 => h9) rfl dX6_mass_7 ?_
  obtain ⟨r_1, hc_2, hE⟩ := bd1_el hE
  refine ki (X := []) (Y := []) (ws1 := (W_S cy aS imS)) (rV (X := []) (Y := []) (As := [.ref (aS 9), .int (0 : Int32), .int (imS 0 0)]) (rest := []) hC (c_X6_sumOf_S8 l D cy aS (0 : Int32) (imS 0 0) imS r_1 hc_2) (cwV 3 hts gX6_mass_X6_sumOf rfl rfl rfl cd_X6_sumOf ⟨Nat.le_of_ble_eq_true rfl, Nat.le_of_ble_eq_true rfl⟩) hK hN hP hD hS hA rfl 0 6 rfl rfl rfl hl.1 rfl (lv_room (Nat.le_of_ble_eq_true rfl)) dX6_mass_10 ⟨Nat.le_of_ble_eq_true rfl, Nat.le_of_ble_eq_true rfl⟩) hP hD hS hA rfl rfl rfl (fun H locs hP hD hS => ?_)
  have hE := Option.some.inj hE
  exact ei hx hb hr hlocks hK hP hD hS hE rfl dX6_mass_13
abbrev rm_X6_sumOfAges : Room := { frames := 1, cells := 0, slots := 0, locals := 27 }
set_option maxHeartbeats 40000000 in
set_option maxRecDepth 100000 in
theorem c_X6_sumOfAges (l : Launch) (D : va_G) (cy : Nat → Nat) (aS : Nat → Nat) (imS : Mem) (r' : Int32) (hE : f_X6_sumOfAges imS = some r') : CI l yX6_sumOfAges wsX6_sumOfAges rm_X6_sumOfAges D cy [.ref (aS 0)] (W_S cy aS imS) 0 0 r' (W_S cy aS imS) := by
  refine CQ_of (cc := cX6_sumOfAges) (maxL := 1) (ret := (some .int)) (by decide) rfl (Nat.le_of_ble_eq_true rfl) (fun p e s m args below meth c A ls hx hb hr hml hlocks hnm hown hts hA hK hN hP hD hS hl => ?_)
  have hown : s.vm.findClass RX6 = some m.cls := hown
  have hl : lv_has ls 1 [(0, .ref (aS 0))] := hl
  have hC : CallFix p m c cX6_sumOfAges 1 s args wsX6_sumOfAges RX6 := ⟨hx, hb, hml, hown, hts⟩
  have f33 : (Cond.fieldLink RX6 33 "IcePlant$Store" "ages" "[I").before args s = true := hts _ (mC qf_X6_33)
  have f36 : (Cond.fieldLink RX6 36 "IcePlant$Store" "silos" "I").before args s = true := hts _ (mC qf_X6_36)
  have iX6 : ∀ w ∈ wsX60, w ∈ wsX6_sumOfAges := fun w h => mC (iA_X6 w h)
  unfold f_X6_sumOfAges at hE
  refine lv_aload_n hx hb dX6_sumOfAges_0 rfl (lv_at hl 0 rfl) ?_
  refine lv_aload_n hx hb dX6_sumOfAges_1 rfl (lv_at hl 0 rfl) ?_
  refine va_get (D := D) (ci := 6) (v := .ref (aS 10)) (C := RX6) (T := TX6) (N := 10) hx hb hts iX6 hown hK hP 0 rfl rfl 9 (by decide) f33 (fun _ h9 => h9) rfl dX6_sumOfAges_2 ?_
  refine lv_iconst (v := 0) hx hb dX6_sumOfAges_5 (by decide) ?_
  refine lv_aload_n hx hb dX6_sumOfAges_6 rfl (lv_at hl 0 rfl) ?_
  refine va_get (D := D) (ci := 6) (v := .int (imS 0 0)) (C := RX6) (T := TX6) (N := 10) hx hb hts iX6 hown hK hP 0 rfl rfl 0 (by decide) f36 (fun _ h9 => h9) rfl dX6_sumOfAges_7 ?_
  obtain ⟨r_1, hc_2, hE⟩ := bd1_el hE
  refine ki (X := []) (Y := []) (ws1 := (W_S cy aS imS)) (rV (X := []) (Y := []) (As := [.ref (aS 10), .int (0 : Int32), .int (imS 0 0)]) (rest := []) hC (c_X6_sumOf_S9 l D cy aS (0 : Int32) (imS 0 0) imS r_1 hc_2) (cwV 3 hts gX6_sumOfAges_X6_sumOf rfl rfl rfl cd_X6_sumOf ⟨Nat.le_of_ble_eq_true rfl, Nat.le_of_ble_eq_true rfl⟩) hK hN hP hD hS hA rfl 0 6 rfl rfl rfl hl.1 rfl (lv_room (Nat.le_of_ble_eq_true rfl)) dX6_sumOfAges_10 ⟨Nat.le_of_ble_eq_true rfl, Nat.le_of_ble_eq_true rfl⟩) hP hD hS hA rfl rfl rfl (fun H locs hP hD hS => ?_)
  have hE := Option.some.inj hE
  exact ei hx hb hr hlocks hK hP hD hS hE rfl dX6_sumOfAges_13
abbrev rm_X6_meltedMass : Room := { frames := 0, cells := 0, slots := 0, locals := 0 }
set_option maxHeartbeats 40000000 in
set_option maxRecDepth 100000 in
theorem c_X6_meltedMass (l : Launch) (D : va_G) (cy : Nat → Nat) (aS : Nat → Nat) (imS : Mem) (r' : Int32) (hE : f_X6_meltedMass imS = some r') : CI l yX6_meltedMass wsX6_meltedMass rm_X6_meltedMass D cy [.ref (aS 0)] (W_S cy aS imS) 0 0 r' (W_S cy aS imS) := by
  refine CQ_of (cc := cX6_meltedMass) (maxL := 3) (ret := (some .int)) (by decide) rfl (Nat.le_of_ble_eq_true rfl) (fun p e s m args below meth c A ls hx hb hr hml hlocks hnm hown hts hA hK hN hP hD hS hl => ?_)
  have hown : s.vm.findClass RX6 = some m.cls := hown
  have hl : lv_has ls 3 [(0, .ref (aS 0))] := hl
  have f24 : (Cond.fieldLink RX6 24 "IcePlant$Store" "melted" "[I").before args s = true := hts _ (mC qf_X6_24)
  have f36 : (Cond.fieldLink RX6 36 "IcePlant$Store" "silos" "I").before args s = true := hts _ (mC qf_X6_36)
  have iX6 : ∀ w ∈ wsX60, w ∈ wsX6_meltedMass := fun w h => mC (iA_X6 w h)
  have h4 : ∀ (n : Nat), ∀ (x1 : Int32) (x2 : Int32) (H : Heap) (locs : List Loc) (ls : Array Slot), f_X6_meltedMass_L4 imS n x1 x2 = some r' → va_P D vwCl (W_S cy aS imS) H → va_D A (W_S cy aS imS) → va_S A s.heap H locs → lv_has ls 3 [(0, .ref (aS 0)), (1, .int x1), (2, .int x2)] → W p l e rm_X6_meltedMass s m args below meth c H locs 0 0 (MQ below (QI D cy r' (W_S cy aS imS) A) args s 0 0 A) (F0 m 4 ls []) := by
    intro n
    induction n with
    | zero => intro x1 x2 H locs ls hE; exact absurd hE (fun h9 => nomatch h9)
    | succ n ih =>
      intro x1 x2 H locs ls hE hP hD hS hl
      replace hE : ((if (imS 0 0) ≤ x2 then some x1 else gi x2 5 (lt' (x1 + (imS 6 x2.toNatClampNeg)) fun x1_3 => lt' (x2 + (1 : Int32)) fun x2_4 => (f_X6_meltedMass_L4 imS n) x1_3 x2_4))) = some r' := hE
      refine lv_iload_n hx hb dX6_meltedMass_4 rfl (lv_at hl 2 rfl) ?_
      refine lv_aload_n hx hb dX6_meltedMass_5 rfl (lv_at hl 0 rfl) ?_
      refine va_get (D := D) (ci := 6) (v := .int (imS 0 0)) (C := RX6) (T := TX6) (N := 10) hx hb hts iX6 hown hK hP 0 rfl rfl 0 (by decide) f36 (fun _ h9 => h9) rfl dX6_meltedMass_6 ?_
      refine lv_icmp_ge (tgt := 27) hx hb dX6_meltedMass_9 (by decide) (fun c_1 => ?_) (fun c_1 => ?_)
      · replace hE := it_t hE c_1
        refine lv_iload_n hx hb dX6_meltedMass_27 rfl (lv_at hl 1 rfl) ?_
        have hE := Option.some.inj hE
        exact ei hx hb hr hlocks hK hP hD hS hE rfl dX6_meltedMass_28
      · replace hE := it_f hE c_1
        refine lv_iload_n hx hb dX6_meltedMass_12 rfl (lv_at hl 1 rfl) ?_
        refine lv_aload_n hx hb dX6_meltedMass_13 rfl (lv_at hl 0 rfl) ?_
        refine va_get (D := D) (ci := 6) (v := .ref (aS 7)) (C := RX6) (T := TX6) (N := 10) hx hb hts iX6 hown hK hP 0 rfl rfl 6 (by decide) f24 (fun _ h9 => h9) rfl dX6_meltedMass_14 ?_
        refine lv_iload_n hx hb dX6_meltedMass_17 rfl (lv_at hl 2 rfl) ?_
        obtain ⟨g_2, hE⟩ := gi_el hE
        refine va_iald hx hb hK hP 5 0 rfl rfl g_2 dX6_meltedMass_18 ?_
        refine lv_iadd hx hb dX6_meltedMass_19 ?_
        obtain ⟨x1_3, e_x1_3, hE⟩ := lt_el hE
        refine s_nm e_x1_3 ?_
        refine lv_istore_n (lv' := [(1, .int x1_3), (0, .ref (aS 0)), (2, .int x2)]) hx hb dX6_meltedMass_20 rfl hl (by decide) rfl (fun ls hl => ?_)
        obtain ⟨x2_4, e_x2_4, hE⟩ := lt_el hE
        refine lv_iinc (v := x2_4) (lv' := [(2, .int x2_4), (1, .int x1_3), (0, .ref (aS 0))]) hx hb dX6_meltedMass_21 hl (k := 2) rfl (by rw [e_x2_4]; rfl) (by decide) rfl (fun ls hl => ?_)
        refine lv_goto (tgt := 4) hx hb dX6_meltedMass_24 (by decide) ?_
        exact ih x1_3 x2_4 _ _ _ hE hP hD hS (lv_sub hl [2, 1, 0] rfl)
  unfold f_X6_meltedMass at hE
  refine lv_iconst (v := 0) hx hb dX6_meltedMass_0 (by decide) ?_
  refine lv_istore_n (lv' := [(1, .int (0 : Int32)), (0, .ref (aS 0))]) hx hb dX6_meltedMass_1 rfl hl (by decide) rfl (fun ls hl => ?_)
  refine lv_iconst (v := 0) hx hb dX6_meltedMass_2 (by decide) ?_
  refine lv_istore_n (lv' := [(2, .int (0 : Int32)), (1, .int (0 : Int32)), (0, .ref (aS 0))]) hx hb dX6_meltedMass_3 rfl hl (by decide) rfl (fun ls hl => ?_)
  exact h4 fuel (0 : Int32) (0 : Int32) _ _ _ hE hP hD hS (lv_sub hl [2, 1, 0] rfl)
abbrev rm_X6_siloProperty : Room := { frames := 1, cells := 0, slots := 0, locals := 27 }
set_option maxHeartbeats 40000000 in
set_option maxRecDepth 100000 in
theorem c_X6_siloProperty (l : Launch) (D : va_G) (cy : Nat → Nat) (aS : Nat → Nat) (x1 : Int32) (x2 : Int32) (imS : Mem) (r' : Int32) (hE : f_X6_siloProperty x1 x2 imS = some r') : CI l yX6_siloProperty wsX6_siloProperty rm_X6_siloProperty D cy [.ref (aS 0), .int x1, .int x2] (W_S cy aS imS) 0 0 r' (W_S cy aS imS) := by
  refine CQ_of (cc := cX6_siloProperty) (maxL := 3) (ret := (some .int)) (by decide) rfl (Nat.le_of_ble_eq_true rfl) (fun p e s m args below meth c A ls hx hb hr hml hlocks hnm hown hts hA hK hN hP hD hS hl => ?_)
  have hown : s.vm.findClass RX6 = some m.cls := hown
  have hl : lv_has ls 3 [(0, .ref (aS 0)), (1, .int x1), (2, .int x2)] := hl
  have hC : CallFix p m c cX6_siloProperty 3 s args wsX6_siloProperty RX6 := ⟨hx, hb, hml, hown, hts⟩
  have f11 : (Cond.fieldLink RX6 11 "IcePlant$Store" "capacities" "[I").before args s = true := hts _ (mC qf_X6_11)
  have f15 : (Cond.fieldLink RX6 15 "IcePlant$Store" "rules" "[I").before args s = true := hts _ (mC qf_X6_15)
  have f18 : (Cond.fieldLink RX6 18 "IcePlant$Store" "strengths" "[I").before args s = true := hts _ (mC qf_X6_18)
  have f21 : (Cond.fieldLink RX6 21 "IcePlant$Store" "sizes" "[I").before args s = true := hts _ (mC qf_X6_21)
  have f24 : (Cond.fieldLink RX6 24 "IcePlant$Store" "melted" "[I").before args s = true := hts _ (mC qf_X6_24)
  have f30 : (Cond.fieldLink RX6 30 "IcePlant$Store" "masses" "[I").before args s = true := hts _ (mC qf_X6_30)
  have iX6 : ∀ w ∈ wsX60, w ∈ wsX6_siloProperty := fun w h => mC (iA_X6 w h)
  have in_X8 : (Cond.initialized RX8).before args s = true := hts _ (mC qn_X8)
  have st_X8_valueAt : (Cond.static yX8_valueAt).before args s = true := hts _ (mC qs_X8_valueAt)
  unfold f_X6_siloProperty at hE
  refine lv_iload_n hx hb dX6_siloProperty_0 rfl (lv_at hl 2 rfl) ?_
  by_cases c_3_0 : x2 = 0
  · replace hE := it_t hE c_3_0
    refine lv_tableIn (tgt := 36) hx hb dX6_siloProperty_1 (by rw [c_3_0]; decide) (by rw [c_3_0]; decide) (off := 35) (by rw [c_3_0]; decide) (by decide) ?_
    refine lv_aload_n hx hb dX6_siloProperty_36 rfl (lv_at hl 0 rfl) ?_
    refine va_get (D := D) (ci := 6) (v := .ref (aS 3)) (C := RX6) (T := TX6) (N := 10) hx hb hts iX6 hown hK hP 0 rfl rfl 2 (by decide) f11 (fun _ h9 => h9) rfl dX6_siloProperty_37 ?_
    refine lv_iload_n hx hb dX6_siloProperty_40 rfl (lv_at hl 1 rfl) ?_
    obtain ⟨r_12, hc_13, hE⟩ := bd1_el hE
    refine ki (X := (List.take 1 (W_S cy aS imS))) (Y := (List.drop 2 (W_S cy aS imS))) (ws1 := (W_S cy aS imS)) (rSN (X := (List.take 1 (W_S cy aS imS))) (Y := (List.drop 2 (W_S cy aS imS))) (As := [.ref (aS 3), .int x1]) (rest := []) hC (c_X8_valueAt l D cy (aS 3) x1 (5) (imS 2) r_12 hc_13) (va_cnB 2 hts gX6_siloProperty_X8_valueAt_n47 rfl rfl rfl (hN.1 11 _ rfl) in_X8 cd_X8_valueAt.2 ⟨Nat.le_of_ble_eq_true rfl, Nat.le_of_ble_eq_true rfl⟩) st_X8_valueAt hK hN hP hD hS hA rfl rfl hl.1 rfl (lv_room (Nat.le_of_ble_eq_true rfl)) dX6_siloProperty_41 ⟨Nat.le_of_ble_eq_true rfl, Nat.le_of_ble_eq_true rfl⟩) hP hD hS hA rfl rfl rfl (fun H locs hP hD hS => ?_)
    have hE := Option.some.inj hE
    exact ei hx hb hr hlocks hK hP hD hS hE rfl dX6_siloProperty_44
  · replace hE := it_f hE c_3_0
    by_cases c_3_1 : x2 = 1
    · replace hE := it_t hE c_3_1
      refine lv_tableIn (tgt := 45) hx hb dX6_siloProperty_1 (by rw [c_3_1]; decide) (by rw [c_3_1]; decide) (off := 44) (by rw [c_3_1]; decide) (by decide) ?_
      refine lv_aload_n hx hb dX6_siloProperty_45 rfl (lv_at hl 0 rfl) ?_
      refine va_get (D := D) (ci := 6) (v := .ref (aS 4)) (C := RX6) (T := TX6) (N := 10) hx hb hts iX6 hown hK hP 0 rfl rfl 3 (by decide) f15 (fun _ h9 => h9) rfl dX6_siloProperty_46 ?_
      refine lv_iload_n hx hb dX6_siloProperty_49 rfl (lv_at hl 1 rfl) ?_
      obtain ⟨r_10, hc_11, hE⟩ := bd1_el hE
      refine ki (X := (List.take 2 (W_S cy aS imS))) (Y := (List.drop 3 (W_S cy aS imS))) (ws1 := (W_S cy aS imS)) (rSN (X := (List.take 2 (W_S cy aS imS))) (Y := (List.drop 3 (W_S cy aS imS))) (As := [.ref (aS 4), .int x1]) (rest := []) hC (c_X8_valueAt l D cy (aS 4) x1 (5) (imS 3) r_10 hc_11) (va_cnB 2 hts gX6_siloProperty_X8_valueAt_n47 rfl rfl rfl (hN.1 11 _ rfl) in_X8 cd_X8_valueAt.2 ⟨Nat.le_of_ble_eq_true rfl, Nat.le_of_ble_eq_true rfl⟩) st_X8_valueAt hK hN hP hD hS hA rfl rfl hl.1 rfl (lv_room (Nat.le_of_ble_eq_true rfl)) dX6_siloProperty_50 ⟨Nat.le_of_ble_eq_true rfl, Nat.le_of_ble_eq_true rfl⟩) hP hD hS hA rfl rfl rfl (fun H locs hP hD hS => ?_)
      have hE := Option.some.inj hE
      exact ei hx hb hr hlocks hK hP hD hS hE rfl dX6_siloProperty_53
    · replace hE := it_f hE c_3_1
      by_cases c_3_2 : x2 = 2
      · replace hE := it_t hE c_3_2
        refine lv_tableIn (tgt := 54) hx hb dX6_siloProperty_1 (by rw [c_3_2]; decide) (by rw [c_3_2]; decide) (off := 53) (by rw [c_3_2]; decide) (by decide) ?_
        refine lv_aload_n hx hb dX6_siloProperty_54 rfl (lv_at hl 0 rfl) ?_
        refine va_get (D := D) (ci := 6) (v := .ref (aS 5)) (C := RX6) (T := TX6) (N := 10) hx hb hts iX6 hown hK hP 0 rfl rfl 4 (by decide) f18 (fun _ h9 => h9) rfl dX6_siloProperty_55 ?_
        refine lv_iload_n hx hb dX6_siloProperty_58 rfl (lv_at hl 1 rfl) ?_
        obtain ⟨r_8, hc_9, hE⟩ := bd1_el hE
        refine ki (X := (List.take 3 (W_S cy aS imS))) (Y := (List.drop 4 (W_S cy aS imS))) (ws1 := (W_S cy aS imS)) (rSN (X := (List.take 3 (W_S cy aS imS))) (Y := (List.drop 4 (W_S cy aS imS))) (As := [.ref (aS 5), .int x1]) (rest := []) hC (c_X8_valueAt l D cy (aS 5) x1 (5) (imS 4) r_8 hc_9) (va_cnB 2 hts gX6_siloProperty_X8_valueAt_n47 rfl rfl rfl (hN.1 11 _ rfl) in_X8 cd_X8_valueAt.2 ⟨Nat.le_of_ble_eq_true rfl, Nat.le_of_ble_eq_true rfl⟩) st_X8_valueAt hK hN hP hD hS hA rfl rfl hl.1 rfl (lv_room (Nat.le_of_ble_eq_true rfl)) dX6_siloProperty_59 ⟨Nat.le_of_ble_eq_true rfl, Nat.le_of_ble_eq_true rfl⟩) hP hD hS hA rfl rfl rfl (fun H locs hP hD hS => ?_)
        have hE := Option.some.inj hE
        exact ei hx hb hr hlocks hK hP hD hS hE rfl dX6_siloProperty_62
      · replace hE := it_f hE c_3_2
        by_cases c_3_3 : x2 = 3
        · replace hE := it_t hE c_3_3
          refine lv_tableIn (tgt := 63) hx hb dX6_siloProperty_1 (by rw [c_3_3]; decide) (by rw [c_3_3]; decide) (off := 62) (by rw [c_3_3]; decide) (by decide) ?_
          refine lv_aload_n hx hb dX6_siloProperty_63 rfl (lv_at hl 0 rfl) ?_
          refine va_get (D := D) (ci := 6) (v := .ref (aS 6)) (C := RX6) (T := TX6) (N := 10) hx hb hts iX6 hown hK hP 0 rfl rfl 5 (by decide) f21 (fun _ h9 => h9) rfl dX6_siloProperty_64 ?_
          refine lv_iload_n hx hb dX6_siloProperty_67 rfl (lv_at hl 1 rfl) ?_
          obtain ⟨r_6, hc_7, hE⟩ := bd1_el hE
          refine ki (X := (List.take 4 (W_S cy aS imS))) (Y := (List.drop 5 (W_S cy aS imS))) (ws1 := (W_S cy aS imS)) (rSN (X := (List.take 4 (W_S cy aS imS))) (Y := (List.drop 5 (W_S cy aS imS))) (As := [.ref (aS 6), .int x1]) (rest := []) hC (c_X8_valueAt l D cy (aS 6) x1 (5) (imS 5) r_6 hc_7) (va_cnB 2 hts gX6_siloProperty_X8_valueAt_n47 rfl rfl rfl (hN.1 11 _ rfl) in_X8 cd_X8_valueAt.2 ⟨Nat.le_of_ble_eq_true rfl, Nat.le_of_ble_eq_true rfl⟩) st_X8_valueAt hK hN hP hD hS hA rfl rfl hl.1 rfl (lv_room (Nat.le_of_ble_eq_true rfl)) dX6_siloProperty_68 ⟨Nat.le_of_ble_eq_true rfl, Nat.le_of_ble_eq_true rfl⟩) hP hD hS hA rfl rfl rfl (fun H locs hP hD hS => ?_)
          have hE := Option.some.inj hE
          exact ei hx hb hr hlocks hK hP hD hS hE rfl dX6_siloProperty_71
        · replace hE := it_f hE c_3_3
          by_cases c_3_4 : x2 = 4
          · replace hE := it_t hE c_3_4
            refine lv_tableIn (tgt := 72) hx hb dX6_siloProperty_1 (by rw [c_3_4]; decide) (by rw [c_3_4]; decide) (off := 71) (by rw [c_3_4]; decide) (by decide) ?_
            refine lv_aload_n hx hb dX6_siloProperty_72 rfl (lv_at hl 0 rfl) ?_
            refine lv_aload_n hx hb dX6_siloProperty_73 rfl (lv_at hl 0 rfl) ?_
            refine va_get (D := D) (ci := 6) (v := .ref (aS 9)) (C := RX6) (T := TX6) (N := 10) hx hb hts iX6 hown hK hP 0 rfl rfl 8 (by decide) f30 (fun _ h9 => h9) rfl dX6_siloProperty_74 ?_
            refine lv_iload_n hx hb dX6_siloProperty_77 rfl (lv_at hl 1 rfl) ?_
            refine lv_iload_n hx hb dX6_siloProperty_78 rfl (lv_at hl 1 rfl) ?_
            refine lv_iconst (v := 1) hx hb dX6_siloProperty_79 (by decide) ?_
            refine lv_iadd hx hb dX6_siloProperty_80 ?_
            obtain ⟨r_4, hc_5, hE⟩ := bd1_el hE
            refine ki (X := []) (Y := []) (ws1 := (W_S cy aS imS)) (rV (X := []) (Y := []) (As := [.ref (aS 9), .int x1, .int (x1 + (1 : Int32))]) (rest := []) hC (c_X6_sumOf_S8 l D cy aS x1 (x1 + (1 : Int32)) imS r_4 hc_5) (cwV 3 hts gX6_siloProperty_X6_sumOf rfl rfl rfl cd_X6_sumOf ⟨Nat.le_of_ble_eq_true rfl, Nat.le_of_ble_eq_true rfl⟩) hK hN hP hD hS hA rfl 0 6 rfl rfl rfl hl.1 rfl (lv_room (Nat.le_of_ble_eq_true rfl)) dX6_siloProperty_81 ⟨Nat.le_of_ble_eq_true rfl, Nat.le_of_ble_eq_true rfl⟩) hP hD hS hA rfl rfl rfl (fun H locs hP hD hS => ?_)
            have hE := Option.some.inj hE
            exact ei hx hb hr hlocks hK hP hD hS hE rfl dX6_siloProperty_84
          · replace hE := it_f hE c_3_4
            refine lv_tableOut (tgt := 85) hx hb dX6_siloProperty_1 (sw_out (lo := 0) (hi := 4) (fun z h1 h2 => ?_)) (by decide) ?_
            · rcases (show z = 0 ∨ z = 1 ∨ z = 2 ∨ z = 3 ∨ z = 4 by omega) with rfl | rfl | rfl | rfl | rfl
              · exact fun q9 => c_3_0 (q9.trans (by decide))
              · exact fun q9 => c_3_1 (q9.trans (by decide))
              · exact fun q9 => c_3_2 (q9.trans (by decide))
              · exact fun q9 => c_3_3 (q9.trans (by decide))
              · exact fun q9 => c_3_4 (q9.trans (by decide))
            · refine lv_aload_n hx hb dX6_siloProperty_85 rfl (lv_at hl 0 rfl) ?_
              refine va_get (D := D) (ci := 6) (v := .ref (aS 7)) (C := RX6) (T := TX6) (N := 10) hx hb hts iX6 hown hK hP 0 rfl rfl 6 (by decide) f24 (fun _ h9 => h9) rfl dX6_siloProperty_86 ?_
              refine lv_iload_n hx hb dX6_siloProperty_89 rfl (lv_at hl 1 rfl) ?_
              obtain ⟨r_1, hc_2, hE⟩ := bd1_el hE
              refine ki (X := (List.take 5 (W_S cy aS imS))) (Y := (List.drop 6 (W_S cy aS imS))) (ws1 := (W_S cy aS imS)) (rSN (X := (List.take 5 (W_S cy aS imS))) (Y := (List.drop 6 (W_S cy aS imS))) (As := [.ref (aS 7), .int x1]) (rest := []) hC (c_X8_valueAt l D cy (aS 7) x1 (5) (imS 6) r_1 hc_2) (va_cnB 2 hts gX6_siloProperty_X8_valueAt_n47 rfl rfl rfl (hN.1 11 _ rfl) in_X8 cd_X8_valueAt.2 ⟨Nat.le_of_ble_eq_true rfl, Nat.le_of_ble_eq_true rfl⟩) st_X8_valueAt hK hN hP hD hS hA rfl rfl hl.1 rfl (lv_room (Nat.le_of_ble_eq_true rfl)) dX6_siloProperty_90 ⟨Nat.le_of_ble_eq_true rfl, Nat.le_of_ble_eq_true rfl⟩) hP hD hS hA rfl rfl rfl (fun H locs hP hD hS => ?_)
              have hE := Option.some.inj hE
              exact ei hx hb hr hlocks hK hP hD hS hE rfl dX6_siloProperty_93
abbrev rm_X6_addOne : Room := { frames := 0, cells := 0, slots := 0, locals := 0 }
set_option maxHeartbeats 40000000 in
set_option maxRecDepth 100000 in
theorem c_X6_addOne (l : Launch) (D : va_G) (cy : Nat → Nat) (aS : Nat → Nat) (x1 : Int32) (x2 : Int32) (x3 : Int32) (imS : Mem) (r' : Int32) (mS' : Mem) (hE : f_X6_addOne x1 x2 x3 imS = some (r', mS')) : CI l yX6_addOne wsX6_addOne rm_X6_addOne D cy [.ref (aS 0), .int x1, .int x2, .int x3] (W_S cy aS imS) 0 0 r' (W_S cy aS mS') := by
  refine CQ_of (cc := cX6_addOne) (maxL := 4) (ret := (some .int)) (by decide) rfl (Nat.le_of_ble_eq_true rfl) (fun p e s m args below meth c A ls hx hb hr hml hlocks hnm hown hts hA hK hN hP hD hS hl => ?_)
  have hown : s.vm.findClass RX6 = some m.cls := hown
  have hl : lv_has ls 4 [(0, .ref (aS 0)), (1, .int x1), (2, .int x2), (3, .int x3)] := hl
  have f11 : (Cond.fieldLink RX6 11 "IcePlant$Store" "capacities" "[I").before args s = true := hts _ (mC qf_X6_11)
  have f15 : (Cond.fieldLink RX6 15 "IcePlant$Store" "rules" "[I").before args s = true := hts _ (mC qf_X6_15)
  have f18 : (Cond.fieldLink RX6 18 "IcePlant$Store" "strengths" "[I").before args s = true := hts _ (mC qf_X6_18)
  have f21 : (Cond.fieldLink RX6 21 "IcePlant$Store" "sizes" "[I").before args s = true := hts _ (mC qf_X6_21)
  have f24 : (Cond.fieldLink RX6 24 "IcePlant$Store" "melted" "[I").before args s = true := hts _ (mC qf_X6_24)
  have f36 : (Cond.fieldLink RX6 36 "IcePlant$Store" "silos" "I").before args s = true := hts _ (mC qf_X6_36)
  have iX6 : ∀ w ∈ wsX60, w ∈ wsX6_addOne := fun w h => mC (iA_X6 w h)
  unfold f_X6_addOne at hE
  refine lv_aload_n hx hb dX6_addOne_0 rfl (lv_at hl 0 rfl) ?_
  refine va_get (D := D) (ci := 6) (v := .int (imS 0 0)) (C := RX6) (T := TX6) (N := 10) hx hb hts iX6 hown hK hP 0 rfl rfl 0 (by decide) f36 (fun _ h9 => h9) rfl dX6_addOne_1 ?_
  refine lv_iconst (v := 5) hx hb dX6_addOne_4 (by decide) ?_
  refine lv_icmp_lt (tgt := 10) hx hb dX6_addOne_5 (by decide) (fun c_1 => ?_) (fun c_1 => ?_)
  · replace hE := it_t hE c_1
    refine lv_aload_n hx hb dX6_addOne_10 rfl (lv_at hl 0 rfl) ?_
    refine va_get (D := D) (ci := 6) (v := .ref (aS 3)) (C := RX6) (T := TX6) (N := 10) hx hb hts iX6 hown hK hP 0 rfl rfl 2 (by decide) f11 (fun _ h9 => h9) rfl dX6_addOne_11 ?_
    refine lv_aload_n hx hb dX6_addOne_14 rfl (lv_at hl 0 rfl) ?_
    refine va_get (D := D) (ci := 6) (v := .int (imS 0 0)) (C := RX6) (T := TX6) (N := 10) hx hb hts iX6 hown hK hP 0 rfl rfl 0 (by decide) f36 (fun _ h9 => h9) rfl dX6_addOne_15 ?_
    refine lv_iload_n hx hb dX6_addOne_18 rfl (lv_at hl 1 rfl) ?_
    obtain ⟨g_3, hE⟩ := gi_el hE
    obtain ⟨mS_2, e_mS_2, hE⟩ := lt_el hE
    refine s_ia (ws1 := (W_S cy aS mS_2)) hx hb hK hP hD hS 1 rfl g_3 (by rw [e_mS_2]; rfl) dX6_addOne_19 (fun H locs hP hD hS => ?_)
    refine lv_aload_n hx hb dX6_addOne_20 rfl (lv_at hl 0 rfl) ?_
    refine va_get (D := D) (ci := 6) (v := .ref (aS 4)) (C := RX6) (T := TX6) (N := 10) hx hb hts iX6 hown hK hP 0 rfl rfl 3 (by decide) f15 (fun _ h9 => h9) rfl dX6_addOne_21 ?_
    refine lv_aload_n hx hb dX6_addOne_24 rfl (lv_at hl 0 rfl) ?_
    refine va_get (D := D) (ci := 6) (v := .int (mS_2 0 0)) (C := RX6) (T := TX6) (N := 10) hx hb hts iX6 hown hK hP 0 rfl rfl 0 (by decide) f36 (fun _ h9 => h9) rfl dX6_addOne_25 ?_
    refine lv_iload_n hx hb dX6_addOne_28 rfl (lv_at hl 2 rfl) ?_
    obtain ⟨g_5, hE⟩ := gi_el hE
    obtain ⟨mS_4, e_mS_4, hE⟩ := lt_el hE
    refine s_ia (ws1 := (W_S cy aS mS_4)) hx hb hK hP hD hS 2 rfl g_5 (by rw [e_mS_4]; rfl) dX6_addOne_29 (fun H locs hP hD hS => ?_)
    refine lv_aload_n hx hb dX6_addOne_30 rfl (lv_at hl 0 rfl) ?_
    refine va_get (D := D) (ci := 6) (v := .ref (aS 5)) (C := RX6) (T := TX6) (N := 10) hx hb hts iX6 hown hK hP 0 rfl rfl 4 (by decide) f18 (fun _ h9 => h9) rfl dX6_addOne_31 ?_
    refine lv_aload_n hx hb dX6_addOne_34 rfl (lv_at hl 0 rfl) ?_
    refine va_get (D := D) (ci := 6) (v := .int (mS_4 0 0)) (C := RX6) (T := TX6) (N := 10) hx hb hts iX6 hown hK hP 0 rfl rfl 0 (by decide) f36 (fun _ h9 => h9) rfl dX6_addOne_35 ?_
    refine lv_iload_n hx hb dX6_addOne_38 rfl (lv_at hl 3 rfl) ?_
    obtain ⟨g_7, hE⟩ := gi_el hE
    obtain ⟨mS_6, e_mS_6, hE⟩ := lt_el hE
    refine s_ia (ws1 := (W_S cy aS mS_6)) hx hb hK hP hD hS 3 rfl g_7 (by rw [e_mS_6]; rfl) dX6_addOne_39 (fun H locs hP hD hS => ?_)
    refine lv_aload_n hx hb dX6_addOne_40 rfl (lv_at hl 0 rfl) ?_
    refine va_get (D := D) (ci := 6) (v := .ref (aS 6)) (C := RX6) (T := TX6) (N := 10) hx hb hts iX6 hown hK hP 0 rfl rfl 5 (by decide) f21 (fun _ h9 => h9) rfl dX6_addOne_41 ?_
    refine lv_aload_n hx hb dX6_addOne_44 rfl (lv_at hl 0 rfl) ?_
    refine va_get (D := D) (ci := 6) (v := .int (mS_6 0 0)) (C := RX6) (T := TX6) (N := 10) hx hb hts iX6 hown hK hP 0 rfl rfl 0 (by decide) f36 (fun _ h9 => h9) rfl dX6_addOne_45 ?_
    refine lv_iconst (v := 0) hx hb dX6_addOne_48 (by decide) ?_
    obtain ⟨g_9, hE⟩ := gi_el hE
    obtain ⟨mS_8, e_mS_8, hE⟩ := lt_el hE
    refine s_ia (ws1 := (W_S cy aS mS_8)) hx hb hK hP hD hS 4 rfl g_9 (by rw [e_mS_8]; rfl) dX6_addOne_49 (fun H locs hP hD hS => ?_)
    refine lv_aload_n hx hb dX6_addOne_50 rfl (lv_at hl 0 rfl) ?_
    refine va_get (D := D) (ci := 6) (v := .ref (aS 7)) (C := RX6) (T := TX6) (N := 10) hx hb hts iX6 hown hK hP 0 rfl rfl 6 (by decide) f24 (fun _ h9 => h9) rfl dX6_addOne_51 ?_
    refine lv_aload_n hx hb dX6_addOne_54 rfl (lv_at hl 0 rfl) ?_
    refine va_get (D := D) (ci := 6) (v := .int (mS_8 0 0)) (C := RX6) (T := TX6) (N := 10) hx hb hts iX6 hown hK hP 0 rfl rfl 0 (by decide) f36 (fun _ h9 => h9) rfl dX6_addOne_55 ?_
    refine lv_iconst (v := 0) hx hb dX6_addOne_58 (by decide) ?_
    obtain ⟨g_11, hE⟩ := gi_el hE
    obtain ⟨mS_10, e_mS_10, hE⟩ := lt_el hE
    refine s_ia (ws1 := (W_S cy aS mS_10)) hx hb hK hP hD hS 5 rfl g_11 (by rw [e_mS_10]; rfl) dX6_addOne_59 (fun H locs hP hD hS => ?_)
    refine lv_aload_n hx hb dX6_addOne_60 rfl (lv_at hl 0 rfl) ?_
    refine lv_dup hx hb dX6_addOne_61 rfl ?_
    refine va_get (D := D) (ci := 6) (v := .int (mS_10 0 0)) (C := RX6) (T := TX6) (N := 10) hx hb hts iX6 hown hK hP 0 rfl rfl 0 (by decide) f36 (fun _ h9 => h9) rfl dX6_addOne_62 ?_
    refine lv_iconst (v := 1) hx hb dX6_addOne_65 (by decide) ?_
    refine lv_iadd hx hb dX6_addOne_66 ?_
    obtain ⟨mS_12, e_mS_12, hE⟩ := lt_el hE
    refine s_pf (own := RX6) (C := RX6) (T := TX6) (N := 10) (ci := 6) (ws1 := (W_S cy aS mS_12)) hx hb hts iX6 tyX6 tyX6_ok nmX6 hown hK hP hD hS 0 rfl rfl 0 (by decide) f36 rfl rfl rfl rfl (Nat.le_of_ble_eq_true rfl) (by rw [e_mS_12]; rfl) dX6_addOne_67 (fun H locs hP hD hS => ?_)
    refine lv_aload_n hx hb dX6_addOne_70 rfl (lv_at hl 0 rfl) ?_
    refine va_get (D := D) (ci := 6) (v := .int (mS_12 0 0)) (C := RX6) (T := TX6) (N := 10) hx hb hts iX6 hown hK hP 0 rfl rfl 0 (by decide) f36 (fun _ h9 => h9) rfl dX6_addOne_71 ?_
    refine lv_iconst (v := 1) hx hb dX6_addOne_74 (by decide) ?_
    refine lv_isub hx hb dX6_addOne_75 ?_
    have hE := Option.some.inj hE
    obtain ⟨q0, q1⟩ := Prod.mk.inj hE
    exact ei hx hb hr hlocks hK hP hD hS q0 (by rw [q1]) dX6_addOne_76
  · replace hE := it_f hE c_1
    refine lv_iconst (v := (-1)) hx hb dX6_addOne_8 (by decide) ?_
    have hE := Option.some.inj hE
    obtain ⟨q0, q1⟩ := Prod.mk.inj hE
    exact ei hx hb hr hlocks hK hP hD hS q0 (by rw [q1]) dX6_addOne_9
