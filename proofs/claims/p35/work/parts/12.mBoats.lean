abbrev rm_X1_has : Room := { frames := 0, cells := 0, slots := 0, locals := 0 }
set_option maxHeartbeats 40000000 in
set_option maxRecDepth 100000 in
theorem c_X1_has (l : Launch) (D : va_G) (cy : Nat → Nat) (aB : Nat → Nat) (x1 : Int32) (imB : Mem) (r' : Int32) (hE : f_X1_has x1 imB = some r') : CI l yX1_has wsX1_has rm_X1_has D cy [.ref (aB 0), .int x1] (W_B cy aB imB) 0 0 r' (W_B cy aB imB) := by
  refine CQ_of (cc := cX1_has) (maxL := 2) (ret := (some .boolean)) (by decide) rfl (Nat.le_of_ble_eq_true rfl) (fun p e s m args below meth c A ls hx hb hr hml hlocks hnm hown hts hA hK hN hP hD hS hl => ?_)
  have hown : s.vm.findClass RX1 = some m.cls := hown
  have hl : lv_has ls 2 [(0, .ref (aB 0)), (1, .int x1)] := hl
  have f21 : (Cond.fieldLink RX1 21 "IcePlant$Boats" "count" "I").before args s = true := hts _ (mC qf_X1_21)
  have iX1 : ∀ w ∈ wsX10, w ∈ wsX1_has := fun w h => mC (iA_X1 w h)
  unfold f_X1_has at hE
  refine lv_iload_n hx hb dX1_has_0 rfl (lv_at hl 1 rfl) ?_
  refine lv_if_lt (tgt := 16) hx hb dX1_has_1 (by decide) (fun c_1 => ?_) (fun c_1 => ?_)
  · replace hE := it_t hE c_1
    refine lv_iconst (v := 0) hx hb dX1_has_16 (by decide) ?_
    have hE := Option.some.inj hE
    exact ez hx hb hr (by decide) hlocks hK hP hD hS hE rfl dX1_has_17
  · replace hE := it_f hE c_1
    refine lv_iload_n hx hb dX1_has_4 rfl (lv_at hl 1 rfl) ?_
    refine lv_aload_n hx hb dX1_has_5 rfl (lv_at hl 0 rfl) ?_
    refine va_get (D := D) (ci := 1) (v := .int (imB 0 0)) (C := RX1) (T := TX1) (N := 4) hx hb hts iX1 hown hK hP 0 rfl rfl 0 (by decide) f21 (fun _ h9 => h9) rfl dX1_has_6 ?_
    refine lv_icmp_ge (tgt := 16) hx hb dX1_has_9 (by decide) (fun c_2 => ?_) (fun c_2 => ?_)
    · replace hE := it_t hE c_2
      refine lv_iconst (v := 0) hx hb dX1_has_16 (by decide) ?_
      have hE := Option.some.inj hE
      exact ez hx hb hr (by decide) hlocks hK hP hD hS hE rfl dX1_has_17
    · replace hE := it_f hE c_2
      refine lv_iconst (v := 1) hx hb dX1_has_12 (by decide) ?_
      refine lv_goto (tgt := 17) hx hb dX1_has_13 (by decide) ?_
      have hE := Option.some.inj hE
      exact ez hx hb hr (by decide) hlocks hK hP hD hS hE rfl dX1_has_17
abbrev rm_X1_addOne : Room := { frames := 0, cells := 0, slots := 0, locals := 0 }
set_option maxHeartbeats 40000000 in
set_option maxRecDepth 100000 in
theorem c_X1_addOne (l : Launch) (D : va_G) (cy : Nat → Nat) (aB : Nat → Nat) (x1 : Int32) (imB : Mem) (r' : Int32) (mB' : Mem) (hE : f_X1_addOne x1 imB = some (r', mB')) : CI l yX1_addOne wsX1_addOne rm_X1_addOne D cy [.ref (aB 0), .int x1] (W_B cy aB imB) 0 0 r' (W_B cy aB mB') := by
  refine CQ_of (cc := cX1_addOne) (maxL := 2) (ret := (some .int)) (by decide) rfl (Nat.le_of_ble_eq_true rfl) (fun p e s m args below meth c A ls hx hb hr hml hlocks hnm hown hts hA hK hN hP hD hS hl => ?_)
  have hown : s.vm.findClass RX1 = some m.cls := hown
  have hl : lv_has ls 2 [(0, .ref (aB 0)), (1, .int x1)] := hl
  have f11 : (Cond.fieldLink RX1 11 "IcePlant$Boats" "catches" "[I").before args s = true := hts _ (mC qf_X1_11)
  have f15 : (Cond.fieldLink RX1 15 "IcePlant$Boats" "debts" "[I").before args s = true := hts _ (mC qf_X1_15)
  have f18 : (Cond.fieldLink RX1 18 "IcePlant$Boats" "deliveredMasses" "[I").before args s = true := hts _ (mC qf_X1_18)
  have f21 : (Cond.fieldLink RX1 21 "IcePlant$Boats" "count" "I").before args s = true := hts _ (mC qf_X1_21)
  have iX1 : ∀ w ∈ wsX10, w ∈ wsX1_addOne := fun w h => mC (iA_X1 w h)
  unfold f_X1_addOne at hE
  refine lv_aload_n hx hb dX1_addOne_0 rfl (lv_at hl 0 rfl) ?_
  refine va_get (D := D) (ci := 1) (v := .int (imB 0 0)) (C := RX1) (T := TX1) (N := 4) hx hb hts iX1 hown hK hP 0 rfl rfl 0 (by decide) f21 (fun _ h9 => h9) rfl dX1_addOne_1 ?_
  refine lv_bipush (v := 8) hx hb dX1_addOne_4 (by decide) ?_
  refine lv_icmp_lt (tgt := 11) hx hb dX1_addOne_6 (by decide) (fun c_1 => ?_) (fun c_1 => ?_)
  · replace hE := it_t hE c_1
    refine lv_aload_n hx hb dX1_addOne_11 rfl (lv_at hl 0 rfl) ?_
    refine va_get (D := D) (ci := 1) (v := .ref (aB 2)) (C := RX1) (T := TX1) (N := 4) hx hb hts iX1 hown hK hP 0 rfl rfl 1 (by decide) f11 (fun _ h9 => h9) rfl dX1_addOne_12 ?_
    refine lv_aload_n hx hb dX1_addOne_15 rfl (lv_at hl 0 rfl) ?_
    refine va_get (D := D) (ci := 1) (v := .int (imB 0 0)) (C := RX1) (T := TX1) (N := 4) hx hb hts iX1 hown hK hP 0 rfl rfl 0 (by decide) f21 (fun _ h9 => h9) rfl dX1_addOne_16 ?_
    refine lv_iload_n hx hb dX1_addOne_19 rfl (lv_at hl 1 rfl) ?_
    obtain ⟨g_3, hE⟩ := gi_el hE
    obtain ⟨mB_2, e_mB_2, hE⟩ := lt_el hE
    refine s_ia (ws1 := (W_B cy aB mB_2)) hx hb hK hP hD hS 1 rfl g_3 (by rw [e_mB_2]; rfl) dX1_addOne_20 (fun H locs hP hD hS => ?_)
    refine lv_aload_n hx hb dX1_addOne_21 rfl (lv_at hl 0 rfl) ?_
    refine va_get (D := D) (ci := 1) (v := .ref (aB 3)) (C := RX1) (T := TX1) (N := 4) hx hb hts iX1 hown hK hP 0 rfl rfl 2 (by decide) f15 (fun _ h9 => h9) rfl dX1_addOne_22 ?_
    refine lv_aload_n hx hb dX1_addOne_25 rfl (lv_at hl 0 rfl) ?_
    refine va_get (D := D) (ci := 1) (v := .int (mB_2 0 0)) (C := RX1) (T := TX1) (N := 4) hx hb hts iX1 hown hK hP 0 rfl rfl 0 (by decide) f21 (fun _ h9 => h9) rfl dX1_addOne_26 ?_
    refine lv_iconst (v := 0) hx hb dX1_addOne_29 (by decide) ?_
    obtain ⟨g_5, hE⟩ := gi_el hE
    obtain ⟨mB_4, e_mB_4, hE⟩ := lt_el hE
    refine s_ia (ws1 := (W_B cy aB mB_4)) hx hb hK hP hD hS 2 rfl g_5 (by rw [e_mB_4]; rfl) dX1_addOne_30 (fun H locs hP hD hS => ?_)
    refine lv_aload_n hx hb dX1_addOne_31 rfl (lv_at hl 0 rfl) ?_
    refine va_get (D := D) (ci := 1) (v := .ref (aB 4)) (C := RX1) (T := TX1) (N := 4) hx hb hts iX1 hown hK hP 0 rfl rfl 3 (by decide) f18 (fun _ h9 => h9) rfl dX1_addOne_32 ?_
    refine lv_aload_n hx hb dX1_addOne_35 rfl (lv_at hl 0 rfl) ?_
    refine va_get (D := D) (ci := 1) (v := .int (mB_4 0 0)) (C := RX1) (T := TX1) (N := 4) hx hb hts iX1 hown hK hP 0 rfl rfl 0 (by decide) f21 (fun _ h9 => h9) rfl dX1_addOne_36 ?_
    refine lv_iconst (v := 0) hx hb dX1_addOne_39 (by decide) ?_
    obtain ⟨g_7, hE⟩ := gi_el hE
    obtain ⟨mB_6, e_mB_6, hE⟩ := lt_el hE
    refine s_ia (ws1 := (W_B cy aB mB_6)) hx hb hK hP hD hS 3 rfl g_7 (by rw [e_mB_6]; rfl) dX1_addOne_40 (fun H locs hP hD hS => ?_)
    refine lv_aload_n hx hb dX1_addOne_41 rfl (lv_at hl 0 rfl) ?_
    refine lv_dup hx hb dX1_addOne_42 rfl ?_
    refine va_get (D := D) (ci := 1) (v := .int (mB_6 0 0)) (C := RX1) (T := TX1) (N := 4) hx hb hts iX1 hown hK hP 0 rfl rfl 0 (by decide) f21 (fun _ h9 => h9) rfl dX1_addOne_43 ?_
    refine lv_iconst (v := 1) hx hb dX1_addOne_46 (by decide) ?_
    refine lv_iadd hx hb dX1_addOne_47 ?_
    obtain ⟨mB_8, e_mB_8, hE⟩ := lt_el hE
    refine s_pf (own := RX1) (C := RX1) (T := TX1) (N := 4) (ci := 1) (ws1 := (W_B cy aB mB_8)) hx hb hts iX1 tyX1 tyX1_ok nmX1 hown hK hP hD hS 0 rfl rfl 0 (by decide) f21 rfl rfl rfl rfl (Nat.le_of_ble_eq_true rfl) (by rw [e_mB_8]; rfl) dX1_addOne_48 (fun H locs hP hD hS => ?_)
    refine lv_aload_n hx hb dX1_addOne_51 rfl (lv_at hl 0 rfl) ?_
    refine va_get (D := D) (ci := 1) (v := .int (mB_8 0 0)) (C := RX1) (T := TX1) (N := 4) hx hb hts iX1 hown hK hP 0 rfl rfl 0 (by decide) f21 (fun _ h9 => h9) rfl dX1_addOne_52 ?_
    refine lv_iconst (v := 1) hx hb dX1_addOne_55 (by decide) ?_
    refine lv_isub hx hb dX1_addOne_56 ?_
    have hE := Option.some.inj hE
    obtain ⟨q0, q1⟩ := Prod.mk.inj hE
    exact ei hx hb hr hlocks hK hP hD hS q0 (by rw [q1]) dX1_addOne_57
  · replace hE := it_f hE c_1
    refine lv_iconst (v := (-1)) hx hb dX1_addOne_9 (by decide) ?_
    have hE := Option.some.inj hE
    obtain ⟨q0, q1⟩ := Prod.mk.inj hE
    exact ei hx hb hr hlocks hK hP hD hS q0 (by rw [q1]) dX1_addOne_10
abbrev rm_X1_charge : Room := { frames := 1, cells := 0, slots := 0, locals := 21 }
set_option maxHeartbeats 40000000 in
set_option maxRecDepth 100000 in
theorem c_X1_charge (l : Launch) (D : va_G) (cy : Nat → Nat) (aB : Nat → Nat) (x1 : Int32) (x2 : Int32) (x3 : Int32) (imB : Mem) (mB' : Mem) (hE : f_X1_charge x1 x2 x3 imB = some mB') : CV l yX1_charge wsX1_charge rm_X1_charge D cy [.ref (aB 0), .int x1, .int x2, .int x3] (W_B cy aB imB) 0 0 (W_B cy aB mB') := by
  refine CQ_of (cc := cX1_charge) (maxL := 4) (ret := none) (by decide) rfl (Nat.le_of_ble_eq_true rfl) (fun p e s m args below meth c A ls hx hb hr hml hlocks hnm hown hts hA hK hN hP hD hS hl => ?_)
  have hown : s.vm.findClass RX1 = some m.cls := hown
  have hl : lv_has ls 4 [(0, .ref (aB 0)), (1, .int x1), (2, .int x2), (3, .int x3)] := hl
  have hC : CallFix p m c cX1_charge 4 s args wsX1_charge RX1 := ⟨hx, hb, hml, hown, hts⟩
  have f15 : (Cond.fieldLink RX1 15 "IcePlant$Boats" "debts" "[I").before args s = true := hts _ (mC qf_X1_15)
  have f18 : (Cond.fieldLink RX1 18 "IcePlant$Boats" "deliveredMasses" "[I").before args s = true := hts _ (mC qf_X1_18)
  have iX1 : ∀ w ∈ wsX10, w ∈ wsX1_charge := fun w h => mC (iA_X1 w h)
  unfold f_X1_charge at hE
  refine lv_aload_n hx hb dX1_charge_0 rfl (lv_at hl 0 rfl) ?_
  refine lv_iload_n hx hb dX1_charge_1 rfl (lv_at hl 1 rfl) ?_
  obtain ⟨r_1, hc_2, hE⟩ := bd1_el hE
  refine ki (X := []) (Y := []) (ws1 := (W_B cy aB imB)) (rV (X := []) (Y := []) (As := [.int x1]) (rest := []) hC (c_X1_has l D cy aB x1 imB r_1 hc_2) (cwV 1 hts gX1_charge_X1_has rfl rfl rfl cd_X1_has ⟨Nat.le_of_ble_eq_true rfl, Nat.le_of_ble_eq_true rfl⟩) hK hN hP hD hS hA rfl 0 1 rfl rfl rfl hl.1 rfl (lv_room (Nat.le_of_ble_eq_true rfl)) dX1_charge_2 ⟨Nat.le_of_ble_eq_true rfl, Nat.le_of_ble_eq_true rfl⟩) hP hD hS hA rfl rfl rfl (fun H locs hP hD hS => ?_)
  refine lv_if_eq (tgt := 28) hx hb dX1_charge_5 (by decide) (fun c_3 => ?_) (fun c_3 => ?_)
  · replace hE := it_t hE c_3
    have hE := Option.some.inj hE
    exact ev hx hb hr hlocks hK hP hD hS (by rw [hE]) dX1_charge_28
  · replace hE := it_f hE c_3
    refine lv_aload_n hx hb dX1_charge_8 rfl (lv_at hl 0 rfl) ?_
    refine va_get (D := D) (ci := 1) (v := .ref (aB 4)) (C := RX1) (T := TX1) (N := 4) hx hb hts iX1 hown hK hP 0 rfl rfl 3 (by decide) f18 (fun _ h9 => h9) rfl dX1_charge_9 ?_
    refine lv_iload_n hx hb dX1_charge_12 rfl (lv_at hl 1 rfl) ?_
    refine lv_dup2_11 hx hb dX1_charge_13 rfl rfl ?_
    obtain ⟨g_4, hE⟩ := gi_el hE
    refine va_iald hx hb hK hP 3 0 rfl rfl g_4 dX1_charge_14 ?_
    refine lv_iload_n hx hb dX1_charge_15 rfl (lv_at hl 2 rfl) ?_
    refine lv_iadd hx hb dX1_charge_16 ?_
    obtain ⟨g_6, hE⟩ := gi_el hE
    obtain ⟨mB_5, e_mB_5, hE⟩ := lt_el hE
    refine s_ia (ws1 := (W_B cy aB mB_5)) hx hb hK hP hD hS 3 rfl g_6 (by rw [e_mB_5]; rfl) dX1_charge_17 (fun H locs hP hD hS => ?_)
    refine lv_aload_n hx hb dX1_charge_18 rfl (lv_at hl 0 rfl) ?_
    refine va_get (D := D) (ci := 1) (v := .ref (aB 3)) (C := RX1) (T := TX1) (N := 4) hx hb hts iX1 hown hK hP 0 rfl rfl 2 (by decide) f15 (fun _ h9 => h9) rfl dX1_charge_19 ?_
    refine lv_iload_n hx hb dX1_charge_22 rfl (lv_at hl 1 rfl) ?_
    refine lv_dup2_11 hx hb dX1_charge_23 rfl rfl ?_
    obtain ⟨g_7, hE⟩ := gi_el hE
    refine va_iald hx hb hK hP 2 0 rfl rfl g_7 dX1_charge_24 ?_
    refine lv_iload_n hx hb dX1_charge_25 rfl (lv_at hl 3 rfl) ?_
    refine lv_iadd hx hb dX1_charge_26 ?_
    obtain ⟨g_9, hE⟩ := gi_el hE
    obtain ⟨mB_8, e_mB_8, hE⟩ := lt_el hE
    refine s_ia (ws1 := (W_B cy aB mB_8)) hx hb hK hP hD hS 2 rfl g_9 (by rw [e_mB_8]; rfl) dX1_charge_27 (fun H locs hP hD hS => ?_)
    have hE := Option.some.inj hE
    exact ev hx hb hr hlocks hK hP hD hS (by rw [hE]) dX1_charge_28
abbrev rm_X1_reduceDebt : Room := { frames := 1, cells := 0, slots := 0, locals := 21 }
set_option maxHeartbeats 40000000 in
set_option maxRecDepth 100000 in
theorem c_X1_reduceDebt (l : Launch) (D : va_G) (cy : Nat → Nat) (aB : Nat → Nat) (x1 : Int32) (x2 : Int32) (imB : Mem) (r' : Int32) (mB' : Mem) (hE : f_X1_reduceDebt x1 x2 imB = some (r', mB')) : CI l yX1_reduceDebt wsX1_reduceDebt rm_X1_reduceDebt D cy [.ref (aB 0), .int x1, .int x2] (W_B cy aB imB) 0 0 r' (W_B cy aB mB') := by
  refine CQ_of (cc := cX1_reduceDebt) (maxL := 3) (ret := (some .int)) (by decide) rfl (Nat.le_of_ble_eq_true rfl) (fun p e s m args below meth c A ls hx hb hr hml hlocks hnm hown hts hA hK hN hP hD hS hl => ?_)
  have hown : s.vm.findClass RX1 = some m.cls := hown
  have hl : lv_has ls 3 [(0, .ref (aB 0)), (1, .int x1), (2, .int x2)] := hl
  have hC : CallFix p m c cX1_reduceDebt 3 s args wsX1_reduceDebt RX1 := ⟨hx, hb, hml, hown, hts⟩
  have f15 : (Cond.fieldLink RX1 15 "IcePlant$Boats" "debts" "[I").before args s = true := hts _ (mC qf_X1_15)
  have iX1 : ∀ w ∈ wsX10, w ∈ wsX1_reduceDebt := fun w h => mC (iA_X1 w h)
  unfold f_X1_reduceDebt at hE
  refine lv_aload_n hx hb dX1_reduceDebt_0 rfl (lv_at hl 0 rfl) ?_
  refine lv_iload_n hx hb dX1_reduceDebt_1 rfl (lv_at hl 1 rfl) ?_
  obtain ⟨r_1, hc_2, hE⟩ := bd1_el hE
  refine ki (X := []) (Y := []) (ws1 := (W_B cy aB imB)) (rV (X := []) (Y := []) (As := [.int x1]) (rest := []) hC (c_X1_has l D cy aB x1 imB r_1 hc_2) (cwV 1 hts gX1_reduceDebt_X1_has rfl rfl rfl cd_X1_has ⟨Nat.le_of_ble_eq_true rfl, Nat.le_of_ble_eq_true rfl⟩) hK hN hP hD hS hA rfl 0 1 rfl rfl rfl hl.1 rfl (lv_room (Nat.le_of_ble_eq_true rfl)) dX1_reduceDebt_2 ⟨Nat.le_of_ble_eq_true rfl, Nat.le_of_ble_eq_true rfl⟩) hP hD hS hA rfl rfl rfl (fun H locs hP hD hS => ?_)
  refine lv_if_ne (tgt := 10) hx hb dX1_reduceDebt_5 (by decide) (fun c_3 => ?_) (fun c_3 => ?_)
  · replace hE := it_f hE c_3
    refine lv_aload_n hx hb dX1_reduceDebt_10 rfl (lv_at hl 0 rfl) ?_
    refine va_get (D := D) (ci := 1) (v := .ref (aB 3)) (C := RX1) (T := TX1) (N := 4) hx hb hts iX1 hown hK hP 0 rfl rfl 2 (by decide) f15 (fun _ h9 => h9) rfl dX1_reduceDebt_11 ?_
    refine lv_iload_n hx hb dX1_reduceDebt_14 rfl (lv_at hl 1 rfl) ?_
    refine lv_dup2_11 hx hb dX1_reduceDebt_15 rfl rfl ?_
    obtain ⟨g_4, hE⟩ := gi_el hE
    refine va_iald hx hb hK hP 2 0 rfl rfl g_4 dX1_reduceDebt_16 ?_
    refine lv_iload_n hx hb dX1_reduceDebt_17 rfl (lv_at hl 2 rfl) ?_
    refine lv_isub hx hb dX1_reduceDebt_18 ?_
    obtain ⟨g_6, hE⟩ := gi_el hE
    obtain ⟨mB_5, e_mB_5, hE⟩ := lt_el hE
    refine s_ia (ws1 := (W_B cy aB mB_5)) hx hb hK hP hD hS 2 rfl g_6 (by rw [e_mB_5]; rfl) dX1_reduceDebt_19 (fun H locs hP hD hS => ?_)
    refine lv_aload_n hx hb dX1_reduceDebt_20 rfl (lv_at hl 0 rfl) ?_
    refine va_get (D := D) (ci := 1) (v := .ref (aB 3)) (C := RX1) (T := TX1) (N := 4) hx hb hts iX1 hown hK hP 0 rfl rfl 2 (by decide) f15 (fun _ h9 => h9) rfl dX1_reduceDebt_21 ?_
    refine lv_iload_n hx hb dX1_reduceDebt_24 rfl (lv_at hl 1 rfl) ?_
    obtain ⟨g_7, hE⟩ := gi_el hE
    refine va_iald hx hb hK hP 2 0 rfl rfl g_7 dX1_reduceDebt_25 ?_
    have hE := Option.some.inj hE
    obtain ⟨q0, q1⟩ := Prod.mk.inj hE
    exact ei hx hb hr hlocks hK hP hD hS q0 (by rw [q1]) dX1_reduceDebt_26
  · replace hE := it_t hE c_3
    refine lv_iconst (v := (-1)) hx hb dX1_reduceDebt_8 (by decide) ?_
    have hE := Option.some.inj hE
    obtain ⟨q0, q1⟩ := Prod.mk.inj hE
    exact ei hx hb hr hlocks hK hP hD hS q0 (by rw [q1]) dX1_reduceDebt_9
abbrev rm_X1_property : Room := { frames := 1, cells := 0, slots := 0, locals := 21 }
set_option maxHeartbeats 40000000 in
set_option maxRecDepth 100000 in
theorem c_X1_property (l : Launch) (D : va_G) (cy : Nat → Nat) (aB : Nat → Nat) (x1 : Int32) (x2 : Int32) (imB : Mem) (r' : Int32) (hE : f_X1_property x1 x2 imB = some r') : CI l yX1_property wsX1_property rm_X1_property D cy [.ref (aB 0), .int x1, .int x2] (W_B cy aB imB) 0 0 r' (W_B cy aB imB) := by
  refine CQ_of (cc := cX1_property) (maxL := 3) (ret := (some .int)) (by decide) rfl (Nat.le_of_ble_eq_true rfl) (fun p e s m args below meth c A ls hx hb hr hml hlocks hnm hown hts hA hK hN hP hD hS hl => ?_)
  have hown : s.vm.findClass RX1 = some m.cls := hown
  have hl : lv_has ls 3 [(0, .ref (aB 0)), (1, .int x1), (2, .int x2)] := hl
  have hC : CallFix p m c cX1_property 3 s args wsX1_property RX1 := ⟨hx, hb, hml, hown, hts⟩
  have f11 : (Cond.fieldLink RX1 11 "IcePlant$Boats" "catches" "[I").before args s = true := hts _ (mC qf_X1_11)
  have f15 : (Cond.fieldLink RX1 15 "IcePlant$Boats" "debts" "[I").before args s = true := hts _ (mC qf_X1_15)
  have f18 : (Cond.fieldLink RX1 18 "IcePlant$Boats" "deliveredMasses" "[I").before args s = true := hts _ (mC qf_X1_18)
  have iX1 : ∀ w ∈ wsX10, w ∈ wsX1_property := fun w h => mC (iA_X1 w h)
  have in_X8 : (Cond.initialized RX8).before args s = true := hts _ (mC qn_X8)
  have st_X8_valueAt : (Cond.static yX8_valueAt).before args s = true := hts _ (mC qs_X8_valueAt)
  unfold f_X1_property at hE
  refine lv_iload_n hx hb dX1_property_0 rfl (lv_at hl 2 rfl) ?_
  by_cases c_3_0 : x2 = 0
  · replace hE := it_t hE c_3_0
    refine lv_lookup (tgt := 28) (off := 27) hx hb dX1_property_1 (by decide) (by rw [c_3_0]; decide) (by decide) ?_
    refine lv_aload_n hx hb dX1_property_28 rfl (lv_at hl 0 rfl) ?_
    refine va_get (D := D) (ci := 1) (v := .ref (aB 2)) (C := RX1) (T := TX1) (N := 4) hx hb hts iX1 hown hK hP 0 rfl rfl 1 (by decide) f11 (fun _ h9 => h9) rfl dX1_property_29 ?_
    refine lv_iload_n hx hb dX1_property_32 rfl (lv_at hl 1 rfl) ?_
    obtain ⟨r_6, hc_7, hE⟩ := bd1_el hE
    refine ki (X := (List.take 1 (W_B cy aB imB))) (Y := (List.drop 2 (W_B cy aB imB))) (ws1 := (W_B cy aB imB)) (rSN (X := (List.take 1 (W_B cy aB imB))) (Y := (List.drop 2 (W_B cy aB imB))) (As := [.ref (aB 2), .int x1]) (rest := []) hC (c_X8_valueAt l D cy (aB 2) x1 (8) (imB 1) r_6 hc_7) (va_cnB 2 hts gX1_property_X8_valueAt_n33 rfl rfl rfl (hN.1 3 _ rfl) in_X8 cd_X8_valueAt.2 ⟨Nat.le_of_ble_eq_true rfl, Nat.le_of_ble_eq_true rfl⟩) st_X8_valueAt hK hN hP hD hS hA rfl rfl hl.1 rfl (lv_room (Nat.le_of_ble_eq_true rfl)) dX1_property_33 ⟨Nat.le_of_ble_eq_true rfl, Nat.le_of_ble_eq_true rfl⟩) hP hD hS hA rfl rfl rfl (fun H locs hP hD hS => ?_)
    have hE := Option.some.inj hE
    exact ei hx hb hr hlocks hK hP hD hS hE rfl dX1_property_36
  · replace hE := it_f hE c_3_0
    by_cases c_3_1 : x2 = 1
    · replace hE := it_t hE c_3_1
      refine lv_lookup (tgt := 37) (off := 36) hx hb dX1_property_1 (by decide) (by rw [c_3_1]; decide) (by decide) ?_
      refine lv_aload_n hx hb dX1_property_37 rfl (lv_at hl 0 rfl) ?_
      refine va_get (D := D) (ci := 1) (v := .ref (aB 3)) (C := RX1) (T := TX1) (N := 4) hx hb hts iX1 hown hK hP 0 rfl rfl 2 (by decide) f15 (fun _ h9 => h9) rfl dX1_property_38 ?_
      refine lv_iload_n hx hb dX1_property_41 rfl (lv_at hl 1 rfl) ?_
      obtain ⟨r_4, hc_5, hE⟩ := bd1_el hE
      refine ki (X := (List.take 2 (W_B cy aB imB))) (Y := (List.drop 3 (W_B cy aB imB))) (ws1 := (W_B cy aB imB)) (rSN (X := (List.take 2 (W_B cy aB imB))) (Y := (List.drop 3 (W_B cy aB imB))) (As := [.ref (aB 3), .int x1]) (rest := []) hC (c_X8_valueAt l D cy (aB 3) x1 (8) (imB 2) r_4 hc_5) (va_cnB 2 hts gX1_property_X8_valueAt_n33 rfl rfl rfl (hN.1 3 _ rfl) in_X8 cd_X8_valueAt.2 ⟨Nat.le_of_ble_eq_true rfl, Nat.le_of_ble_eq_true rfl⟩) st_X8_valueAt hK hN hP hD hS hA rfl rfl hl.1 rfl (lv_room (Nat.le_of_ble_eq_true rfl)) dX1_property_42 ⟨Nat.le_of_ble_eq_true rfl, Nat.le_of_ble_eq_true rfl⟩) hP hD hS hA rfl rfl rfl (fun H locs hP hD hS => ?_)
      have hE := Option.some.inj hE
      exact ei hx hb hr hlocks hK hP hD hS hE rfl dX1_property_45
    · replace hE := it_f hE c_3_1
      refine lv_lookup (tgt := 46) (off := 45) hx hb dX1_property_1 (by decide) (lk_out _ (fun q h9 => ?_)) (by decide) ?_
      · have h9 : q ∈ [((0 : Int), (27 : Int)), ((1 : Int), (36 : Int))] := h9
        simp only [List.mem_cons, List.not_mem_nil, or_false] at h9
        rcases h9 with rfl | rfl
        · exact fun q9 => c_3_0 (q9.trans (by decide))
        · exact fun q9 => c_3_1 (q9.trans (by decide))
      · refine lv_aload_n hx hb dX1_property_46 rfl (lv_at hl 0 rfl) ?_
        refine va_get (D := D) (ci := 1) (v := .ref (aB 4)) (C := RX1) (T := TX1) (N := 4) hx hb hts iX1 hown hK hP 0 rfl rfl 3 (by decide) f18 (fun _ h9 => h9) rfl dX1_property_47 ?_
        refine lv_iload_n hx hb dX1_property_50 rfl (lv_at hl 1 rfl) ?_
        obtain ⟨r_1, hc_2, hE⟩ := bd1_el hE
        refine ki (X := (List.take 3 (W_B cy aB imB))) (Y := (List.drop 4 (W_B cy aB imB))) (ws1 := (W_B cy aB imB)) (rSN (X := (List.take 3 (W_B cy aB imB))) (Y := (List.drop 4 (W_B cy aB imB))) (As := [.ref (aB 4), .int x1]) (rest := []) hC (c_X8_valueAt l D cy (aB 4) x1 (8) (imB 3) r_1 hc_2) (va_cnB 2 hts gX1_property_X8_valueAt_n33 rfl rfl rfl (hN.1 3 _ rfl) in_X8 cd_X8_valueAt.2 ⟨Nat.le_of_ble_eq_true rfl, Nat.le_of_ble_eq_true rfl⟩) st_X8_valueAt hK hN hP hD hS hA rfl rfl hl.1 rfl (lv_room (Nat.le_of_ble_eq_true rfl)) dX1_property_51 ⟨Nat.le_of_ble_eq_true rfl, Nat.le_of_ble_eq_true rfl⟩) hP hD hS hA rfl rfl rfl (fun H locs hP hD hS => ?_)
        have hE := Option.some.inj hE
        exact ei hx hb hr hlocks hK hP hD hS hE rfl dX1_property_54
abbrev rm_X0_find : Room := { frames := 0, cells := 0, slots := 0, locals := 0 }
set_option maxHeartbeats 40000000 in
set_option maxRecDepth 100000 in
theorem c_X0_find (l : Launch) (D : va_G) (cy : Nat → Nat) (aA : Nat → Nat) (x1 : Int32) (x2 : Int32) (imA : Mem) (inA : MemL) (r' : Int32) (hE : f_X0_find x1 x2 imA inA = some r') : CI l yX0_find wsX0_find rm_X0_find D cy [.ref (aA 0), .int x1, .int x2] (W_A cy aA imA inA) 0 0 r' (W_A cy aA imA inA) := by
  refine CQ_of (cc := cX0_find) (maxL := 4) (ret := (some .int)) (by decide) rfl (Nat.le_of_ble_eq_true rfl) (fun p e s m args below meth c A ls hx hb hr hml hlocks hnm hown hts hA hK hN hP hD hS hl => ?_)
  have hown : s.vm.findClass RX0 = some m.cls := hown
  have hl : lv_has ls 4 [(0, .ref (aA 0)), (1, .int x1), (2, .int x2)] := hl
  have f11 : (Cond.fieldLink RX0 11 "IcePlant$Accounts" "boats" "[I").before args s = true := hts _ (mC qf_X0_11)
  have f15 : (Cond.fieldLink RX0 15 "IcePlant$Accounts" "bands" "[I").before args s = true := hts _ (mC qf_X0_15)
  have f25 : (Cond.fieldLink RX0 25 "IcePlant$Accounts" "count" "I").before args s = true := hts _ (mC qf_X0_25)
  have iX0 : ∀ w ∈ wsX00, w ∈ wsX0_find := fun w h => mC (iA_X0 w h)
  have h32 : ∀ (x1 : Int32) (x2 : Int32) (x3 : Int32), ∀ (k2 : (Int32 → Option (Int32))), (∀ (x3 : Int32) (H : Heap) (locs : List Loc) (ls : Array Slot), k2 x3 = some r' → va_P D vwCl (W_A cy aA imA inA) H → va_D A (W_A cy aA imA inA) → va_S A s.heap H locs → lv_has ls 4 [(0, .ref (aA 0)), (1, .int x1), (2, .int x2), (3, .int x3)] → W p l e rm_X0_find s m args below meth c H locs 0 0 (MQ below (QI D cy r' (W_A cy aA imA inA) A) args s 0 0 A) (F0 m 2 ls [])) → ∀  (H : Heap) (locs : List Loc) (ls : Array Slot), f_X0_find_b32 k2 x1 x2 x3 imA inA = some r' → va_P D vwCl (W_A cy aA imA inA) H → va_D A (W_A cy aA imA inA) → va_S A s.heap H locs → lv_has ls 4 [(0, .ref (aA 0)), (1, .int x1), (2, .int x2), (3, .int x3)] → W p l e rm_X0_find s m args below meth c H locs 0 0 (MQ below (QI D cy r' (W_A cy aA imA inA) A) args s 0 0 A) (F0 m 32 ls []) := by
    intro x1 x2 x3 k2 hk2 H locs ls hE hP hD hS hl
    replace hE : (lt' (x3 + (1 : Int32)) fun x3_1 => k2 x3_1) = some r' := hE
    obtain ⟨x3_1, e_x3_1, hE⟩ := lt_el hE
    refine lv_iinc (v := x3_1) (lv' := [(3, .int x3_1), (0, .ref (aA 0)), (1, .int x1), (2, .int x2)]) hx hb dX0_find_32 hl (k := 3) rfl (by rw [e_x3_1]; rfl) (by decide) rfl (fun ls hl => ?_)
    refine lv_goto (tgt := 2) hx hb dX0_find_35 (by decide) ?_
    exact hk2 x3_1 _ _ _ hE hP hD hS (lv_sub hl [1, 2, 3, 0] rfl)
  have h2 : ∀ (x1 : Int32) (x2 : Int32), ∀ (n : Nat), ∀ (x3 : Int32) (H : Heap) (locs : List Loc) (ls : Array Slot), f_X0_find_L2 x1 x2 imA inA n x3 = some r' → va_P D vwCl (W_A cy aA imA inA) H → va_D A (W_A cy aA imA inA) → va_S A s.heap H locs → lv_has ls 4 [(0, .ref (aA 0)), (1, .int x1), (2, .int x2), (3, .int x3)] → W p l e rm_X0_find s m args below meth c H locs 0 0 (MQ below (QI D cy r' (W_A cy aA imA inA) A) args s 0 0 A) (F0 m 2 ls []) := by
    intro x1 x2 n
    induction n with
    | zero => intro x3 H locs ls hE; exact absurd hE (fun h9 => nomatch h9)
    | succ n ih =>
      intro x3 H locs ls hE hP hD hS hl
      replace hE : ((if (imA 0 0) ≤ x3 then some (-1 : Int32) else gi x3 16 ((if (imA 1 x3.toNatClampNeg) = x1 then gi x3 16 ((if (imA 2 x3.toNatClampNeg) = x2 then some x3 else f_X0_find_b32 (f_X0_find_L2 x1 x2 imA inA n) x1 x2 x3 imA inA)) else f_X0_find_b32 (f_X0_find_L2 x1 x2 imA inA n) x1 x2 x3 imA inA)))) = some r' := hE
      refine lv_iload_n hx hb dX0_find_2 rfl (lv_at hl 3 rfl) ?_
      refine lv_aload_n hx hb dX0_find_3 rfl (lv_at hl 0 rfl) ?_
      refine va_get (D := D) (ci := 0) (v := .int (imA 0 0)) (C := RX0) (T := TX0) (N := 5) hx hb hts iX0 hown hK hP 0 rfl rfl 0 (by decide) f25 (fun _ h9 => h9) rfl dX0_find_4 ?_
      refine lv_icmp_ge (tgt := 38) hx hb dX0_find_7 (by decide) (fun c_2 => ?_) (fun c_2 => ?_)
      · replace hE := it_t hE c_2
        refine lv_iconst (v := (-1)) hx hb dX0_find_38 (by decide) ?_
        have hE := Option.some.inj hE
        exact ei hx hb hr hlocks hK hP hD hS hE rfl dX0_find_39
      · replace hE := it_f hE c_2
        refine lv_aload_n hx hb dX0_find_10 rfl (lv_at hl 0 rfl) ?_
        refine va_get (D := D) (ci := 0) (v := .ref (aA 2)) (C := RX0) (T := TX0) (N := 5) hx hb hts iX0 hown hK hP 0 rfl rfl 1 (by decide) f11 (fun _ h9 => h9) rfl dX0_find_11 ?_
        refine lv_iload_n hx hb dX0_find_14 rfl (lv_at hl 3 rfl) ?_
        obtain ⟨g_3, hE⟩ := gi_el hE
        refine va_iald hx hb hK hP 1 0 rfl rfl g_3 dX0_find_15 ?_
        refine lv_iload_n hx hb dX0_find_16 rfl (lv_at hl 1 rfl) ?_
        refine lv_icmp_ne (tgt := 32) hx hb dX0_find_17 (by decide) (fun c_4 => ?_) (fun c_4 => ?_)
        · replace hE := it_f hE c_4
          exact h32 x1 x2 x3 (f_X0_find_L2 x1 x2 imA inA n) ih _ _ _ hE hP hD hS (lv_sub hl [0, 1, 2, 3] rfl)
        · replace hE := it_t hE c_4
          refine lv_aload_n hx hb dX0_find_20 rfl (lv_at hl 0 rfl) ?_
          refine va_get (D := D) (ci := 0) (v := .ref (aA 3)) (C := RX0) (T := TX0) (N := 5) hx hb hts iX0 hown hK hP 0 rfl rfl 2 (by decide) f15 (fun _ h9 => h9) rfl dX0_find_21 ?_
          refine lv_iload_n hx hb dX0_find_24 rfl (lv_at hl 3 rfl) ?_
          obtain ⟨g_5, hE⟩ := gi_el hE
          refine va_iald hx hb hK hP 2 0 rfl rfl g_5 dX0_find_25 ?_
          refine lv_iload_n hx hb dX0_find_26 rfl (lv_at hl 2 rfl) ?_
          refine lv_icmp_ne (tgt := 32) hx hb dX0_find_27 (by decide) (fun c_6 => ?_) (fun c_6 => ?_)
          · replace hE := it_f hE c_6
            exact h32 x1 x2 x3 (f_X0_find_L2 x1 x2 imA inA n) ih _ _ _ hE hP hD hS (lv_sub hl [0, 1, 2, 3] rfl)
          · replace hE := it_t hE c_6
            refine lv_iload_n hx hb dX0_find_30 rfl (lv_at hl 3 rfl) ?_
            have hE := Option.some.inj hE
            exact ei hx hb hr hlocks hK hP hD hS hE rfl dX0_find_31
  unfold f_X0_find at hE
  refine lv_iconst (v := 0) hx hb dX0_find_0 (by decide) ?_
  refine lv_istore_n (lv' := [(3, .int (0 : Int32)), (0, .ref (aA 0)), (1, .int x1), (2, .int x2)]) hx hb dX0_find_1 rfl hl (by decide) rfl (fun ls hl => ?_)
  exact h2 x1 x2 fuel (0 : Int32) _ _ _ hE hP hD hS (lv_sub hl [1, 2, 3, 0] rfl)
abbrev rm_X0_enter : Room := { frames := 1, cells := 0, slots := 0, locals := 23 }
set_option maxHeartbeats 40000000 in
set_option maxRecDepth 100000 in
theorem c_X0_enter (l : Launch) (D : va_G) (cy : Nat → Nat) (aA : Nat → Nat) (x1 : Int32) (x2 : Int32) (x3 : Int32) (x4 : Int32) (imA : Mem) (inA : MemL) (mA' : Mem) (nA' : MemL) (hE : f_X0_enter x1 x2 x3 x4 imA inA = some (mA', nA')) : CV l yX0_enter wsX0_enter rm_X0_enter D cy [.ref (aA 0), .int x1, .int x2, .int x3, .int x4] (W_A cy aA imA inA) 0 0 (W_A cy aA mA' nA') := by
  refine CQ_of (cc := cX0_enter) (maxL := 6) (ret := none) (by decide) rfl (Nat.le_of_ble_eq_true rfl) (fun p e s m args below meth c A ls hx hb hr hml hlocks hnm hown hts hA hK hN hP hD hS hl => ?_)
  have hown : s.vm.findClass RX0 = some m.cls := hown
  have hl : lv_has ls 6 [(0, .ref (aA 0)), (1, .int x1), (2, .int x2), (3, .int x3), (4, .int x4)] := hl
  have hC : CallFix p m c cX0_enter 6 s args wsX0_enter RX0 := ⟨hx, hb, hml, hown, hts⟩
  have f11 : (Cond.fieldLink RX0 11 "IcePlant$Accounts" "boats" "[I").before args s = true := hts _ (mC qf_X0_11)
  have f15 : (Cond.fieldLink RX0 15 "IcePlant$Accounts" "bands" "[I").before args s = true := hts _ (mC qf_X0_15)
  have f18 : (Cond.fieldLink RX0 18 "IcePlant$Accounts" "masses" "[J").before args s = true := hts _ (mC qf_X0_18)
  have f22 : (Cond.fieldLink RX0 22 "IcePlant$Accounts" "prices" "[J").before args s = true := hts _ (mC qf_X0_22)
  have f25 : (Cond.fieldLink RX0 25 "IcePlant$Accounts" "count" "I").before args s = true := hts _ (mC qf_X0_25)
  have iX0 : ∀ w ∈ wsX00, w ∈ wsX0_enter := fun w h => mC (iA_X0 w h)
  have h71 : ∀ (x3 : Int32) (x4 : Int32) (x5 : Int32) (mA : Mem) (nA : MemL), ∀  (H : Heap) (locs : List Loc) (ls : Array Slot), f_X0_enter_b71 x3 x4 x5 mA nA = some (mA', nA') → va_P D vwCl (W_A cy aA mA nA) H → va_D A (W_A cy aA mA nA) → va_S A s.heap H locs → lv_has ls 6 [(0, .ref (aA 0)), (3, .int x3), (4, .int x4), (5, .int x5)] → W p l e rm_X0_enter s m args below meth c H locs 0 0 (MQ below (QV D cy (W_A cy aA mA' nA') A) args s 0 0 A) (F0 m 71 ls []) := by
    intro x3 x4 x5 mA nA H locs ls hE hP hD hS hl
    replace hE : ((if x5 = (-1 : Int32) then some (mA, nA) else gi x5 16 (gi x5 16 (lt' (wrL nA 3 (vp_updL (nA 3) x5.toNatClampNeg ((nA 3 x5.toNatClampNeg) + (x3.toInt64)))) fun nA_3 => gi x5 16 (gi x5 16 (lt' (wrL nA_3 4 (vp_updL (nA_3 4) x5.toNatClampNeg ((nA_3 4 x5.toNatClampNeg) + (x4.toInt64)))) fun nA_6 => some (mA, nA_6))))))) = some (mA', nA') := hE
    refine lv_iload hx hb dX0_enter_71 (lv_at hl 3 rfl) ?_
    refine lv_iconst (v := (-1)) hx hb dX0_enter_73 (by decide) ?_
    refine lv_icmp_eq (tgt := 102) hx hb dX0_enter_74 (by decide) (fun c_1 => ?_) (fun c_1 => ?_)
    · replace hE := it_t hE c_1
      have hE := Option.some.inj hE
      obtain ⟨q0, q1⟩ := Prod.mk.inj hE
      exact ev hx hb hr hlocks hK hP hD hS (by rw [q0, q1]) dX0_enter_102
    · replace hE := it_f hE c_1
      refine lv_aload_n hx hb dX0_enter_77 rfl (lv_at hl 0 rfl) ?_
      refine va_get (D := D) (ci := 0) (v := .ref (aA 4)) (C := RX0) (T := TX0) (N := 5) hx hb hts iX0 hown hK hP 0 rfl rfl 3 (by decide) f18 (fun _ h9 => h9) rfl dX0_enter_78 ?_
      refine lv_iload hx hb dX0_enter_81 (lv_at hl 3 rfl) ?_
      refine lv_dup2_11 hx hb dX0_enter_83 rfl rfl ?_
      obtain ⟨g_2, hE⟩ := gi_el hE
      refine va_lald hx hb hK hP 3 1 rfl rfl g_2 dX0_enter_84 ?_
      refine lv_iload_n hx hb dX0_enter_85 rfl (lv_at hl 1 rfl) ?_
      refine lv_i2l hx hb dX0_enter_86 rfl ?_
      refine lv_ladd hx hb dX0_enter_87 ?_
      obtain ⟨g_4, hE⟩ := gi_el hE
      obtain ⟨nA_3, e_nA_3, hE⟩ := lt_el hE
      refine s_la (ws1 := (W_A cy aA mA nA_3)) hx hb hK hP hD hS 3 rfl g_4 (by rw [e_nA_3]; rfl) dX0_enter_88 (fun H locs hP hD hS => ?_)
      refine lv_aload_n hx hb dX0_enter_89 rfl (lv_at hl 0 rfl) ?_
      refine va_get (D := D) (ci := 0) (v := .ref (aA 5)) (C := RX0) (T := TX0) (N := 5) hx hb hts iX0 hown hK hP 0 rfl rfl 4 (by decide) f22 (fun _ h9 => h9) rfl dX0_enter_90 ?_
      refine lv_iload hx hb dX0_enter_93 (lv_at hl 3 rfl) ?_
      refine lv_dup2_11 hx hb dX0_enter_95 rfl rfl ?_
      obtain ⟨g_5, hE⟩ := gi_el hE
      refine va_lald hx hb hK hP 4 1 rfl rfl g_5 dX0_enter_96 ?_
      refine lv_iload hx hb dX0_enter_97 (lv_at hl 2 rfl) ?_
      refine lv_i2l hx hb dX0_enter_99 rfl ?_
      refine lv_ladd hx hb dX0_enter_100 ?_
      obtain ⟨g_7, hE⟩ := gi_el hE
      obtain ⟨nA_6, e_nA_6, hE⟩ := lt_el hE
      refine s_la (ws1 := (W_A cy aA mA nA_6)) hx hb hK hP hD hS 4 rfl g_7 (by rw [e_nA_6]; rfl) dX0_enter_101 (fun H locs hP hD hS => ?_)
      have hE := Option.some.inj hE
      obtain ⟨q0, q1⟩ := Prod.mk.inj hE
      exact ev hx hb hr hlocks hK hP hD hS (by rw [q0, q1]) dX0_enter_102
  unfold f_X0_enter at hE
  refine lv_aload_n hx hb dX0_enter_0 rfl (lv_at hl 0 rfl) ?_
  refine lv_iload_n hx hb dX0_enter_1 rfl (lv_at hl 1 rfl) ?_
  refine lv_iload_n hx hb dX0_enter_2 rfl (lv_at hl 2 rfl) ?_
  obtain ⟨r_8, hc_9, hE⟩ := bd1_el hE
  refine ki (X := []) (Y := []) (ws1 := (W_A cy aA imA inA)) (rV (X := []) (Y := []) (As := [.int x1, .int x2]) (rest := []) hC (c_X0_find l D cy aA x1 x2 imA inA r_8 hc_9) (cwV 2 hts gX0_enter_X0_find rfl rfl rfl cd_X0_find ⟨Nat.le_of_ble_eq_true rfl, Nat.le_of_ble_eq_true rfl⟩) hK hN hP hD hS hA rfl 0 0 rfl rfl rfl hl.1 rfl (lv_room (Nat.le_of_ble_eq_true rfl)) dX0_enter_3 ⟨Nat.le_of_ble_eq_true rfl, Nat.le_of_ble_eq_true rfl⟩) hP hD hS hA rfl rfl rfl (fun H locs hP hD hS => ?_)
  refine lv_istore (lv' := [(5, .int r_8), (0, .ref (aA 0)), (1, .int x1), (2, .int x2), (3, .int x3), (4, .int x4)]) hx hb dX0_enter_6 hl (by decide) rfl (fun ls hl => ?_)
  refine lv_iload hx hb dX0_enter_8 (lv_at hl 0 rfl) ?_
  refine lv_iconst (v := (-1)) hx hb dX0_enter_10 (by decide) ?_
  refine lv_icmp_ne (tgt := 71) hx hb dX0_enter_11 (by decide) (fun c_10 => ?_) (fun c_10 => ?_)
  · replace hE := it_f hE c_10
    exact h71 x3 x4 r_8 imA inA _ _ _ hE hP hD hS (lv_sub hl [1, 4, 5, 0] rfl)
  · replace hE := it_t hE c_10
    refine lv_aload_n hx hb dX0_enter_14 rfl (lv_at hl 1 rfl) ?_
    refine va_get (D := D) (ci := 0) (v := .int (imA 0 0)) (C := RX0) (T := TX0) (N := 5) hx hb hts iX0 hown hK hP 0 rfl rfl 0 (by decide) f25 (fun _ h9 => h9) rfl dX0_enter_15 ?_
    refine lv_bipush (v := 16) hx hb dX0_enter_18 (by decide) ?_
    refine lv_icmp_ge (tgt := 71) hx hb dX0_enter_20 (by decide) (fun c_11 => ?_) (fun c_11 => ?_)
    · replace hE := it_t hE c_11
      exact h71 x3 x4 r_8 imA inA _ _ _ hE hP hD hS (lv_sub hl [1, 4, 5, 0] rfl)
    · replace hE := it_f hE c_11
      refine lv_aload_n hx hb dX0_enter_23 rfl (lv_at hl 1 rfl) ?_
      refine va_get (D := D) (ci := 0) (v := .int (imA 0 0)) (C := RX0) (T := TX0) (N := 5) hx hb hts iX0 hown hK hP 0 rfl rfl 0 (by decide) f25 (fun _ h9 => h9) rfl dX0_enter_24 ?_
      obtain ⟨x5_12, e_x5_12, hE⟩ := lt_el hE
      refine s_nm e_x5_12 ?_
      refine lv_istore (lv' := [(5, .int x5_12), (0, .ref (aA 0)), (1, .int x1), (2, .int x2), (3, .int x3), (4, .int x4)]) hx hb dX0_enter_27 hl (by decide) rfl (fun ls hl => ?_)
      refine lv_aload_n hx hb dX0_enter_29 rfl (lv_at hl 1 rfl) ?_
      refine va_get (D := D) (ci := 0) (v := .ref (aA 2)) (C := RX0) (T := TX0) (N := 5) hx hb hts iX0 hown hK hP 0 rfl rfl 1 (by decide) f11 (fun _ h9 => h9) rfl dX0_enter_30 ?_
      refine lv_iload hx hb dX0_enter_33 (lv_at hl 0 rfl) ?_
      refine lv_iload_n hx hb dX0_enter_35 rfl (lv_at hl 2 rfl) ?_
      obtain ⟨g_14, hE⟩ := gi_el hE
      obtain ⟨mA_13, e_mA_13, hE⟩ := lt_el hE
      refine s_ia (ws1 := (W_A cy aA mA_13 inA)) hx hb hK hP hD hS 1 rfl g_14 (by rw [e_mA_13]; rfl) dX0_enter_36 (fun H locs hP hD hS => ?_)
      refine lv_aload_n hx hb dX0_enter_37 rfl (lv_at hl 1 rfl) ?_
      refine va_get (D := D) (ci := 0) (v := .ref (aA 3)) (C := RX0) (T := TX0) (N := 5) hx hb hts iX0 hown hK hP 0 rfl rfl 2 (by decide) f15 (fun _ h9 => h9) rfl dX0_enter_38 ?_
      refine lv_iload hx hb dX0_enter_41 (lv_at hl 0 rfl) ?_
      refine lv_iload_n hx hb dX0_enter_43 rfl (lv_at hl 3 rfl) ?_
      obtain ⟨g_16, hE⟩ := gi_el hE
      obtain ⟨mA_15, e_mA_15, hE⟩ := lt_el hE
      refine s_ia (ws1 := (W_A cy aA mA_15 inA)) hx hb hK hP hD hS 2 rfl g_16 (by rw [e_mA_15]; rfl) dX0_enter_44 (fun H locs hP hD hS => ?_)
      refine lv_aload_n hx hb dX0_enter_45 rfl (lv_at hl 1 rfl) ?_
      refine va_get (D := D) (ci := 0) (v := .ref (aA 4)) (C := RX0) (T := TX0) (N := 5) hx hb hts iX0 hown hK hP 0 rfl rfl 3 (by decide) f18 (fun _ h9 => h9) rfl dX0_enter_46 ?_
      refine lv_iload hx hb dX0_enter_49 (lv_at hl 0 rfl) ?_
      refine lv_lconst (v := 0) hx hb dX0_enter_51 (by decide) ?_
      obtain ⟨g_18, hE⟩ := gi_el hE
      obtain ⟨nA_17, e_nA_17, hE⟩ := lt_el hE
      refine s_la (ws1 := (W_A cy aA mA_15 nA_17)) hx hb hK hP hD hS 3 rfl g_18 (by rw [e_nA_17]; rfl) dX0_enter_52 (fun H locs hP hD hS => ?_)
      refine lv_aload_n hx hb dX0_enter_53 rfl (lv_at hl 1 rfl) ?_
      refine va_get (D := D) (ci := 0) (v := .ref (aA 5)) (C := RX0) (T := TX0) (N := 5) hx hb hts iX0 hown hK hP 0 rfl rfl 4 (by decide) f22 (fun _ h9 => h9) rfl dX0_enter_54 ?_
      refine lv_iload hx hb dX0_enter_57 (lv_at hl 0 rfl) ?_
      refine lv_lconst (v := 0) hx hb dX0_enter_59 (by decide) ?_
      obtain ⟨g_20, hE⟩ := gi_el hE
      obtain ⟨nA_19, e_nA_19, hE⟩ := lt_el hE
      refine s_la (ws1 := (W_A cy aA mA_15 nA_19)) hx hb hK hP hD hS 4 rfl g_20 (by rw [e_nA_19]; rfl) dX0_enter_60 (fun H locs hP hD hS => ?_)
      refine lv_aload_n hx hb dX0_enter_61 rfl (lv_at hl 1 rfl) ?_
      refine lv_dup hx hb dX0_enter_62 rfl ?_
      refine va_get (D := D) (ci := 0) (v := .int (mA_15 0 0)) (C := RX0) (T := TX0) (N := 5) hx hb hts iX0 hown hK hP 0 rfl rfl 0 (by decide) f25 (fun _ h9 => h9) rfl dX0_enter_63 ?_
      refine lv_iconst (v := 1) hx hb dX0_enter_66 (by decide) ?_
      refine lv_iadd hx hb dX0_enter_67 ?_
      obtain ⟨mA_21, e_mA_21, hE⟩ := lt_el hE
      refine s_pf (own := RX0) (C := RX0) (T := TX0) (N := 5) (ci := 0) (ws1 := (W_A cy aA mA_21 nA_19)) hx hb hts iX0 tyX0 tyX0_ok nmX0 hown hK hP hD hS 0 rfl rfl 0 (by decide) f25 rfl rfl rfl rfl (Nat.le_of_ble_eq_true rfl) (by rw [e_mA_21]; rfl) dX0_enter_68 (fun H locs hP hD hS => ?_)
      exact h71 x3 x4 x5_12 mA_21 nA_19 _ _ _ hE hP hD hS (lv_sub hl [1, 4, 5, 0] rfl)
abbrev rm_X0_property : Room := { frames := 0, cells := 0, slots := 0, locals := 0 }
set_option maxHeartbeats 40000000 in
set_option maxRecDepth 100000 in
theorem c_X0_property (l : Launch) (D : va_G) (cy : Nat → Nat) (aA : Nat → Nat) (x1 : Int32) (x2 : Int32) (imA : Mem) (inA : MemL) (r' : Int64) (hE : f_X0_property x1 x2 imA inA = some r') : CL l yX0_property wsX0_property rm_X0_property D cy [.ref (aA 0), .int x1, .int x2] (W_A cy aA imA inA) 0 0 r' (W_A cy aA imA inA) := by
  refine CQ_of (cc := cX0_property) (maxL := 3) (ret := (some .long)) (by decide) rfl (Nat.le_of_ble_eq_true rfl) (fun p e s m args below meth c A ls hx hb hr hml hlocks hnm hown hts hA hK hN hP hD hS hl => ?_)
  have hown : s.vm.findClass RX0 = some m.cls := hown
  have hl : lv_has ls 3 [(0, .ref (aA 0)), (1, .int x1), (2, .int x2)] := hl
  have f11 : (Cond.fieldLink RX0 11 "IcePlant$Accounts" "boats" "[I").before args s = true := hts _ (mC qf_X0_11)
  have f15 : (Cond.fieldLink RX0 15 "IcePlant$Accounts" "bands" "[I").before args s = true := hts _ (mC qf_X0_15)
  have f18 : (Cond.fieldLink RX0 18 "IcePlant$Accounts" "masses" "[J").before args s = true := hts _ (mC qf_X0_18)
  have f22 : (Cond.fieldLink RX0 22 "IcePlant$Accounts" "prices" "[J").before args s = true := hts _ (mC qf_X0_22)
  have f25 : (Cond.fieldLink RX0 25 "IcePlant$Accounts" "count" "I").before args s = true := hts _ (mC qf_X0_25)
  have iX0 : ∀ w ∈ wsX00, w ∈ wsX0_property := fun w h => mC (iA_X0 w h)
  have k41 : (Cond.constantLong RX0 41 (-1)).before args s = true := hts _ (mC qk_X0_41)
  unfold f_X0_property at hE
  refine lv_iload_n hx hb dX0_property_0 rfl (lv_at hl 1 rfl) ?_
  refine lv_if_lt (tgt := 12) hx hb dX0_property_1 (by decide) (fun c_1 => ?_) (fun c_1 => ?_)
  · replace hE := it_t hE c_1
    refine lv_ldc2 hx hb hown k41 dX0_property_12 ?_
    have hE := Option.some.inj hE
    exact el hx hb hr hlocks hK hP hD hS hE rfl dX0_property_15
  · replace hE := it_f hE c_1
    refine lv_iload_n hx hb dX0_property_4 rfl (lv_at hl 1 rfl) ?_
    refine lv_aload_n hx hb dX0_property_5 rfl (lv_at hl 0 rfl) ?_
    refine va_get (D := D) (ci := 0) (v := .int (imA 0 0)) (C := RX0) (T := TX0) (N := 5) hx hb hts iX0 hown hK hP 0 rfl rfl 0 (by decide) f25 (fun _ h9 => h9) rfl dX0_property_6 ?_
    refine lv_icmp_lt (tgt := 16) hx hb dX0_property_9 (by decide) (fun c_2 => ?_) (fun c_2 => ?_)
    · replace hE := it_t hE c_2
      refine lv_iload_n hx hb dX0_property_16 rfl (lv_at hl 2 rfl) ?_
      by_cases c_4_0 : x2 = 0
      · replace hE := it_t hE c_4_0
        refine lv_tableIn (tgt := 44) hx hb dX0_property_17 (by rw [c_4_0]; decide) (by rw [c_4_0]; decide) (off := 27) (by rw [c_4_0]; decide) (by decide) ?_
        refine lv_aload_n hx hb dX0_property_44 rfl (lv_at hl 0 rfl) ?_
        refine va_get (D := D) (ci := 0) (v := .ref (aA 2)) (C := RX0) (T := TX0) (N := 5) hx hb hts iX0 hown hK hP 0 rfl rfl 1 (by decide) f11 (fun _ h9 => h9) rfl dX0_property_45 ?_
        refine lv_iload_n hx hb dX0_property_48 rfl (lv_at hl 1 rfl) ?_
        obtain ⟨g_7, hE⟩ := gi_el hE
        refine va_iald hx hb hK hP 1 0 rfl rfl g_7 dX0_property_49 ?_
        refine lv_i2l hx hb dX0_property_50 rfl ?_
        have hE := Option.some.inj hE
        exact el hx hb hr hlocks hK hP hD hS hE rfl dX0_property_51
      · replace hE := it_f hE c_4_0
        by_cases c_4_1 : x2 = 1
        · replace hE := it_t hE c_4_1
          refine lv_tableIn (tgt := 52) hx hb dX0_property_17 (by rw [c_4_1]; decide) (by rw [c_4_1]; decide) (off := 35) (by rw [c_4_1]; decide) (by decide) ?_
          refine lv_aload_n hx hb dX0_property_52 rfl (lv_at hl 0 rfl) ?_
          refine va_get (D := D) (ci := 0) (v := .ref (aA 3)) (C := RX0) (T := TX0) (N := 5) hx hb hts iX0 hown hK hP 0 rfl rfl 2 (by decide) f15 (fun _ h9 => h9) rfl dX0_property_53 ?_
          refine lv_iload_n hx hb dX0_property_56 rfl (lv_at hl 1 rfl) ?_
          obtain ⟨g_6, hE⟩ := gi_el hE
          refine va_iald hx hb hK hP 2 0 rfl rfl g_6 dX0_property_57 ?_
          refine lv_i2l hx hb dX0_property_58 rfl ?_
          have hE := Option.some.inj hE
          exact el hx hb hr hlocks hK hP hD hS hE rfl dX0_property_59
        · replace hE := it_f hE c_4_1
          by_cases c_4_2 : x2 = 2
          · replace hE := it_t hE c_4_2
            refine lv_tableIn (tgt := 60) hx hb dX0_property_17 (by rw [c_4_2]; decide) (by rw [c_4_2]; decide) (off := 43) (by rw [c_4_2]; decide) (by decide) ?_
            refine lv_aload_n hx hb dX0_property_60 rfl (lv_at hl 0 rfl) ?_
            refine va_get (D := D) (ci := 0) (v := .ref (aA 4)) (C := RX0) (T := TX0) (N := 5) hx hb hts iX0 hown hK hP 0 rfl rfl 3 (by decide) f18 (fun _ h9 => h9) rfl dX0_property_61 ?_
            refine lv_iload_n hx hb dX0_property_64 rfl (lv_at hl 1 rfl) ?_
            obtain ⟨g_5, hE⟩ := gi_el hE
            refine va_lald hx hb hK hP 3 1 rfl rfl g_5 dX0_property_65 ?_
            have hE := Option.some.inj hE
            exact el hx hb hr hlocks hK hP hD hS hE rfl dX0_property_66
          · replace hE := it_f hE c_4_2
            refine lv_tableOut (tgt := 67) hx hb dX0_property_17 (sw_out (lo := 0) (hi := 2) (fun z h1 h2 => ?_)) (by decide) ?_
            · rcases (show z = 0 ∨ z = 1 ∨ z = 2 by omega) with rfl | rfl | rfl
              · exact fun q9 => c_4_0 (q9.trans (by decide))
              · exact fun q9 => c_4_1 (q9.trans (by decide))
              · exact fun q9 => c_4_2 (q9.trans (by decide))
            · refine lv_aload_n hx hb dX0_property_67 rfl (lv_at hl 0 rfl) ?_
              refine va_get (D := D) (ci := 0) (v := .ref (aA 5)) (C := RX0) (T := TX0) (N := 5) hx hb hts iX0 hown hK hP 0 rfl rfl 4 (by decide) f22 (fun _ h9 => h9) rfl dX0_property_68 ?_
              refine lv_iload_n hx hb dX0_property_71 rfl (lv_at hl 1 rfl) ?_
              obtain ⟨g_3, hE⟩ := gi_el hE
              refine va_lald hx hb hK hP 4 1 rfl rfl g_3 dX0_property_72 ?_
              have hE := Option.some.inj hE
              exact el hx hb hr hlocks hK hP hD hS hE rfl dX0_property_73
    · replace hE := it_f hE c_2
      refine lv_ldc2 hx hb hown k41 dX0_property_12 ?_
      have hE := Option.some.inj hE
      exact el hx hb hr hlocks hK hP hD hS hE rfl dX0_property_15
abbrev rm_X5_kept : Room := { frames := 0, cells := 0, slots := 0, locals := 0 }
set_option maxHeartbeats 40000000 in
set_option maxRecDepth 100000 in
theorem c_X5_kept (l : Launch) (D : va_G) (cy : Nat → Nat) (aR : Nat → Nat) (imR : Mem) (r' : Int32) (hE : f_X5_kept imR = some r') : CI l yX5_kept wsX5_kept rm_X5_kept D cy [.ref (aR 0)] (W_R cy aR imR) 0 0 r' (W_R cy aR imR) := by
  refine CQ_of (cc := cX5_kept) (maxL := 1) (ret := (some .int)) (by decide) rfl (Nat.le_of_ble_eq_true rfl) (fun p e s m args below meth c A ls hx hb hr hml hlocks hnm hown hts hA hK hN hP hD hS hl => ?_)
  have hown : s.vm.findClass RX5 = some m.cls := hown
  have hl : lv_has ls 1 [(0, .ref (aR 0))] := hl
  have f25 : (Cond.fieldLink RX5 25 "IcePlant$Receipts" "written" "I").before args s = true := hts _ (mC qf_X5_25)
  have iX5 : ∀ w ∈ wsX50, w ∈ wsX5_kept := fun w h => mC (iA_X5 w h)
  unfold f_X5_kept at hE
  refine lv_aload_n hx hb dX5_kept_0 rfl (lv_at hl 0 rfl) ?_
  refine va_get (D := D) (ci := 5) (v := .int (imR 0 0)) (C := RX5) (T := TX5) (N := 7) hx hb hts iX5 hown hK hP 0 rfl rfl 0 (by decide) f25 (fun _ h9 => h9) rfl dX5_kept_1 ?_
  refine lv_bipush (v := 16) hx hb dX5_kept_4 (by decide) ?_
  refine lv_icmp_ge (tgt := 16) hx hb dX5_kept_6 (by decide) (fun c_1 => ?_) (fun c_1 => ?_)
  · replace hE := it_t hE c_1
    refine lv_bipush (v := 16) hx hb dX5_kept_16 (by decide) ?_
    have hE := Option.some.inj hE
    exact ei hx hb hr hlocks hK hP hD hS hE rfl dX5_kept_18
  · replace hE := it_f hE c_1
    refine lv_aload_n hx hb dX5_kept_9 rfl (lv_at hl 0 rfl) ?_
    refine va_get (D := D) (ci := 5) (v := .int (imR 0 0)) (C := RX5) (T := TX5) (N := 7) hx hb hts iX5 hown hK hP 0 rfl rfl 0 (by decide) f25 (fun _ h9 => h9) rfl dX5_kept_10 ?_
    refine lv_goto (tgt := 18) hx hb dX5_kept_13 (by decide) ?_
    have hE := Option.some.inj hE
    exact ei hx hb hr hlocks hK hP hD hS hE rfl dX5_kept_18
abbrev rm_X5_write : Room := { frames := 0, cells := 0, slots := 0, locals := 0 }
set_option maxHeartbeats 40000000 in
set_option maxRecDepth 100000 in
theorem c_X5_write (l : Launch) (D : va_G) (cy : Nat → Nat) (aR : Nat → Nat) (x1 : Int32) (x2 : Int32) (x3 : Int32) (x4 : Int32) (imR : Mem) (mR' : Mem) (hE : f_X5_write x1 x2 x3 x4 imR = some mR') : CV l yX5_write wsX5_write rm_X5_write D cy [.ref (aR 0), .int x1, .int x2, .int x3, .int x4] (W_R cy aR imR) 0 0 (W_R cy aR mR') := by
  refine CQ_of (cc := cX5_write) (maxL := 6) (ret := none) (by decide) rfl (Nat.le_of_ble_eq_true rfl) (fun p e s m args below meth c A ls hx hb hr hml hlocks hnm hown hts hA hK hN hP hD hS hl => ?_)
  have hown : s.vm.findClass RX5 = some m.cls := hown
  have hl : lv_has ls 6 [(0, .ref (aR 0)), (1, .int x1), (2, .int x2), (3, .int x3), (4, .int x4)] := hl
  have f9 : (Cond.fieldLink RX5 9 "IcePlant$Receipts" "orders" "[I").before args s = true := hts _ (mC qf_X5_9)
  have f13 : (Cond.fieldLink RX5 13 "IcePlant$Receipts" "masses" "[I").before args s = true := hts _ (mC qf_X5_13)
  have f16 : (Cond.fieldLink RX5 16 "IcePlant$Receipts" "prices" "[I").before args s = true := hts _ (mC qf_X5_16)
  have f19 : (Cond.fieldLink RX5 19 "IcePlant$Receipts" "times" "[I").before args s = true := hts _ (mC qf_X5_19)
  have f22 : (Cond.fieldLink RX5 22 "IcePlant$Receipts" "codes" "[I").before args s = true := hts _ (mC qf_X5_22)
  have f25 : (Cond.fieldLink RX5 25 "IcePlant$Receipts" "written" "I").before args s = true := hts _ (mC qf_X5_25)
  have f29 : (Cond.fieldLink RX5 29 "IcePlant$Receipts" "latestCode" "I").before args s = true := hts _ (mC qf_X5_29)
  have iX5 : ∀ w ∈ wsX50, w ∈ wsX5_write := fun w h => mC (iA_X5 w h)
  have k38 : (Cond.constant RX5 38 (65537)).before args s = true := hts _ (mC qk_X5_38)
  unfold f_X5_write at hE
  refine lv_aload_n hx hb dX5_write_0 rfl (lv_at hl 0 rfl) ?_
  refine lv_aload_n hx hb dX5_write_1 rfl (lv_at hl 0 rfl) ?_
  refine va_get (D := D) (ci := 5) (v := .int (imR 1 0)) (C := RX5) (T := TX5) (N := 7) hx hb hts iX5 hown hK hP 0 rfl rfl 1 (by decide) f29 (fun _ h9 => h9) rfl dX5_write_2 ?_
  refine lv_iconst (v := 5) hx hb dX5_write_5 (by decide) ?_
  refine lv_ishl hx hb dX5_write_6 ?_
  refine lv_aload_n hx hb dX5_write_7 rfl (lv_at hl 0 rfl) ?_
  refine va_get (D := D) (ci := 5) (v := .int (imR 1 0)) (C := RX5) (T := TX5) (N := 7) hx hb hts iX5 hown hK hP 0 rfl rfl 1 (by decide) f29 (fun _ h9 => h9) rfl dX5_write_8 ?_
  refine lv_bipush (v := 27) hx hb dX5_write_11 (by decide) ?_
  refine lv_iushr hx hb dX5_write_13 rfl ?_
  refine lv_ior hx hb dX5_write_14 ?_
  refine lv_iload_n hx hb dX5_write_15 rfl (lv_at hl 1 rfl) ?_
  refine lv_ldc hx hb hown k38 dX5_write_16 ?_
  refine lv_imul hx hb dX5_write_18 ?_
  refine lv_iload_n hx hb dX5_write_19 rfl (lv_at hl 2 rfl) ?_
  refine lv_bipush (v := 31) hx hb dX5_write_20 (by decide) ?_
  refine lv_imul hx hb dX5_write_22 ?_
  refine lv_iadd hx hb dX5_write_23 ?_
  refine lv_iload_n hx hb dX5_write_24 rfl (lv_at hl 3 rfl) ?_
  refine lv_iadd hx hb dX5_write_25 ?_
  refine lv_ixor hx hb dX5_write_26 ?_
  obtain ⟨mR_1, e_mR_1, hE⟩ := lt_el hE
  refine s_pf (own := RX5) (C := RX5) (T := TX5) (N := 7) (ci := 5) (ws1 := (W_R cy aR mR_1)) hx hb hts iX5 tyX5 tyX5_ok nmX5 hown hK hP hD hS 0 rfl rfl 1 (by decide) f29 rfl rfl rfl rfl (Nat.le_of_ble_eq_true rfl) (by rw [e_mR_1]; rfl) dX5_write_27 (fun H locs hP hD hS => ?_)
  refine lv_aload_n hx hb dX5_write_30 rfl (lv_at hl 0 rfl) ?_
  refine va_get (D := D) (ci := 5) (v := .int (mR_1 0 0)) (C := RX5) (T := TX5) (N := 7) hx hb hts iX5 hown hK hP 0 rfl rfl 0 (by decide) f25 (fun _ h9 => h9) rfl dX5_write_31 ?_
  refine lv_bipush (v := 16) hx hb dX5_write_34 (by decide) ?_
  refine lv_irem hx hb dX5_write_36 (by decide) ?_
  obtain ⟨x5_2, e_x5_2, hE⟩ := lt_el hE
  refine s_nm e_x5_2 ?_
  refine lv_istore (lv' := [(5, .int x5_2), (0, .ref (aR 0)), (1, .int x1), (2, .int x2), (3, .int x3), (4, .int x4)]) hx hb dX5_write_37 hl (by decide) rfl (fun ls hl => ?_)
  refine lv_iload hx hb dX5_write_39 (lv_at hl 0 rfl) ?_
  refine lv_if_lt (tgt := 98) hx hb dX5_write_41 (by decide) (fun c_3 => ?_) (fun c_3 => ?_)
  · replace hE := it_t hE c_3
    have hE := Option.some.inj hE
    exact ev hx hb hr hlocks hK hP hD hS (by rw [hE]) dX5_write_98
  · replace hE := it_f hE c_3
    refine lv_aload_n hx hb dX5_write_44 rfl (lv_at hl 1 rfl) ?_
    refine va_get (D := D) (ci := 5) (v := .ref (aR 3)) (C := RX5) (T := TX5) (N := 7) hx hb hts iX5 hown hK hP 0 rfl rfl 2 (by decide) f9 (fun _ h9 => h9) rfl dX5_write_45 ?_
    refine lv_iload hx hb dX5_write_48 (lv_at hl 0 rfl) ?_
    refine lv_iload_n hx hb dX5_write_50 rfl (lv_at hl 2 rfl) ?_
    obtain ⟨g_5, hE⟩ := gi_el hE
    obtain ⟨mR_4, e_mR_4, hE⟩ := lt_el hE
    refine s_ia (ws1 := (W_R cy aR mR_4)) hx hb hK hP hD hS 1 rfl g_5 (by rw [e_mR_4]; rfl) dX5_write_51 (fun H locs hP hD hS => ?_)
    refine lv_aload_n hx hb dX5_write_52 rfl (lv_at hl 1 rfl) ?_
    refine va_get (D := D) (ci := 5) (v := .ref (aR 4)) (C := RX5) (T := TX5) (N := 7) hx hb hts iX5 hown hK hP 0 rfl rfl 3 (by decide) f13 (fun _ h9 => h9) rfl dX5_write_53 ?_
    refine lv_iload hx hb dX5_write_56 (lv_at hl 0 rfl) ?_
    refine lv_iload_n hx hb dX5_write_58 rfl (lv_at hl 3 rfl) ?_
    obtain ⟨g_7, hE⟩ := gi_el hE
    obtain ⟨mR_6, e_mR_6, hE⟩ := lt_el hE
    refine s_ia (ws1 := (W_R cy aR mR_6)) hx hb hK hP hD hS 2 rfl g_7 (by rw [e_mR_6]; rfl) dX5_write_59 (fun H locs hP hD hS => ?_)
    refine lv_aload_n hx hb dX5_write_60 rfl (lv_at hl 1 rfl) ?_
    refine va_get (D := D) (ci := 5) (v := .ref (aR 5)) (C := RX5) (T := TX5) (N := 7) hx hb hts iX5 hown hK hP 0 rfl rfl 4 (by decide) f16 (fun _ h9 => h9) rfl dX5_write_61 ?_
    refine lv_iload hx hb dX5_write_64 (lv_at hl 0 rfl) ?_
    refine lv_iload_n hx hb dX5_write_66 rfl (lv_at hl 4 rfl) ?_
    obtain ⟨g_9, hE⟩ := gi_el hE
    obtain ⟨mR_8, e_mR_8, hE⟩ := lt_el hE
    refine s_ia (ws1 := (W_R cy aR mR_8)) hx hb hK hP hD hS 3 rfl g_9 (by rw [e_mR_8]; rfl) dX5_write_67 (fun H locs hP hD hS => ?_)
    refine lv_aload_n hx hb dX5_write_68 rfl (lv_at hl 1 rfl) ?_
    refine va_get (D := D) (ci := 5) (v := .ref (aR 6)) (C := RX5) (T := TX5) (N := 7) hx hb hts iX5 hown hK hP 0 rfl rfl 5 (by decide) f19 (fun _ h9 => h9) rfl dX5_write_69 ?_
    refine lv_iload hx hb dX5_write_72 (lv_at hl 0 rfl) ?_
    refine lv_iload hx hb dX5_write_74 (lv_at hl 5 rfl) ?_
    obtain ⟨g_11, hE⟩ := gi_el hE
    obtain ⟨mR_10, e_mR_10, hE⟩ := lt_el hE
    refine s_ia (ws1 := (W_R cy aR mR_10)) hx hb hK hP hD hS 4 rfl g_11 (by rw [e_mR_10]; rfl) dX5_write_76 (fun H locs hP hD hS => ?_)
    refine lv_aload_n hx hb dX5_write_77 rfl (lv_at hl 1 rfl) ?_
    refine va_get (D := D) (ci := 5) (v := .ref (aR 7)) (C := RX5) (T := TX5) (N := 7) hx hb hts iX5 hown hK hP 0 rfl rfl 6 (by decide) f22 (fun _ h9 => h9) rfl dX5_write_78 ?_
    refine lv_iload hx hb dX5_write_81 (lv_at hl 0 rfl) ?_
    refine lv_aload_n hx hb dX5_write_83 rfl (lv_at hl 1 rfl) ?_
    refine va_get (D := D) (ci := 5) (v := .int (mR_10 1 0)) (C := RX5) (T := TX5) (N := 7) hx hb hts iX5 hown hK hP 0 rfl rfl 1 (by decide) f29 (fun _ h9 => h9) rfl dX5_write_84 ?_
    obtain ⟨g_13, hE⟩ := gi_el hE
    obtain ⟨mR_12, e_mR_12, hE⟩ := lt_el hE
    refine s_ia (ws1 := (W_R cy aR mR_12)) hx hb hK hP hD hS 5 rfl g_13 (by rw [e_mR_12]; rfl) dX5_write_87 (fun H locs hP hD hS => ?_)
    refine lv_aload_n hx hb dX5_write_88 rfl (lv_at hl 1 rfl) ?_
    refine lv_dup hx hb dX5_write_89 rfl ?_
    refine va_get (D := D) (ci := 5) (v := .int (mR_12 0 0)) (C := RX5) (T := TX5) (N := 7) hx hb hts iX5 hown hK hP 0 rfl rfl 0 (by decide) f25 (fun _ h9 => h9) rfl dX5_write_90 ?_
    refine lv_iconst (v := 1) hx hb dX5_write_93 (by decide) ?_
    refine lv_iadd hx hb dX5_write_94 ?_
    obtain ⟨mR_14, e_mR_14, hE⟩ := lt_el hE
    refine s_pf (own := RX5) (C := RX5) (T := TX5) (N := 7) (ci := 5) (ws1 := (W_R cy aR mR_14)) hx hb hts iX5 tyX5 tyX5_ok nmX5 hown hK hP hD hS 0 rfl rfl 0 (by decide) f25 rfl rfl rfl rfl (Nat.le_of_ble_eq_true rfl) (by rw [e_mR_14]; rfl) dX5_write_95 (fun H locs hP hD hS => ?_)
    have hE := Option.some.inj hE
    exact ev hx hb hr hlocks hK hP hD hS (by rw [hE]) dX5_write_98
abbrev rm_X5_property : Room := { frames := 1, cells := 0, slots := 0, locals := 21 }
set_option maxHeartbeats 40000000 in
set_option maxRecDepth 100000 in
theorem c_X5_property (l : Launch) (D : va_G) (cy : Nat → Nat) (aR : Nat → Nat) (x1 : Int32) (x2 : Int32) (imR : Mem) (r' : Int32) (hE : f_X5_property x1 x2 imR = some r') : CI l yX5_property wsX5_property rm_X5_property D cy [.ref (aR 0), .int x1, .int x2] (W_R cy aR imR) 0 0 r' (W_R cy aR imR) := by
  refine CQ_of (cc := cX5_property) (maxL := 4) (ret := (some .int)) (by decide) rfl (Nat.le_of_ble_eq_true rfl) (fun p e s m args below meth c A ls hx hb hr hml hlocks hnm hown hts hA hK hN hP hD hS hl => ?_)
  have hown : s.vm.findClass RX5 = some m.cls := hown
  have hl : lv_has ls 4 [(0, .ref (aR 0)), (1, .int x1), (2, .int x2)] := hl
  have hC : CallFix p m c cX5_property 4 s args wsX5_property RX5 := ⟨hx, hb, hml, hown, hts⟩
  have f9 : (Cond.fieldLink RX5 9 "IcePlant$Receipts" "orders" "[I").before args s = true := hts _ (mC qf_X5_9)
  have f13 : (Cond.fieldLink RX5 13 "IcePlant$Receipts" "masses" "[I").before args s = true := hts _ (mC qf_X5_13)
  have f16 : (Cond.fieldLink RX5 16 "IcePlant$Receipts" "prices" "[I").before args s = true := hts _ (mC qf_X5_16)
  have f19 : (Cond.fieldLink RX5 19 "IcePlant$Receipts" "times" "[I").before args s = true := hts _ (mC qf_X5_19)
  have f22 : (Cond.fieldLink RX5 22 "IcePlant$Receipts" "codes" "[I").before args s = true := hts _ (mC qf_X5_22)
  have f25 : (Cond.fieldLink RX5 25 "IcePlant$Receipts" "written" "I").before args s = true := hts _ (mC qf_X5_25)
  have iX5 : ∀ w ∈ wsX50, w ∈ wsX5_property := fun w h => mC (iA_X5 w h)
  have in_X8 : (Cond.initialized RX8).before args s = true := hts _ (mC qn_X8)
  have st_X8_valueAt : (Cond.static yX8_valueAt).before args s = true := hts _ (mC qs_X8_valueAt)
  unfold f_X5_property at hE
  refine lv_aload_n hx hb dX5_property_0 rfl (lv_at hl 0 rfl) ?_
  refine va_get (D := D) (ci := 5) (v := .int (imR 0 0)) (C := RX5) (T := TX5) (N := 7) hx hb hts iX5 hown hK hP 0 rfl rfl 0 (by decide) f25 (fun _ h9 => h9) rfl dX5_property_1 ?_
  refine lv_iconst (v := 1) hx hb dX5_property_4 (by decide) ?_
  refine lv_isub hx hb dX5_property_5 ?_
  refine lv_iload_n hx hb dX5_property_6 rfl (lv_at hl 1 rfl) ?_
  refine lv_isub hx hb dX5_property_7 ?_
  refine lv_bipush (v := 16) hx hb dX5_property_8 (by decide) ?_
  refine lv_irem hx hb dX5_property_10 (by decide) ?_
  obtain ⟨x3_1, e_x3_1, hE⟩ := lt_el hE
  refine s_nm e_x3_1 ?_
  refine lv_istore_n (lv' := [(3, .int x3_1), (0, .ref (aR 0)), (1, .int x1), (2, .int x2)]) hx hb dX5_property_11 rfl hl (by decide) rfl (fun ls hl => ?_)
  refine lv_iload_n hx hb dX5_property_12 rfl (lv_at hl 3 rfl) ?_
  by_cases c_4_0 : x2 = 0
  · replace hE := it_t hE c_4_0
    refine lv_tableIn (tgt := 44) hx hb dX5_property_13 (by rw [c_4_0]; decide) (by rw [c_4_0]; decide) (off := 31) (by rw [c_4_0]; decide) (by decide) ?_
    refine lv_aload_n hx hb dX5_property_44 rfl (lv_at hl 1 rfl) ?_
    refine va_get (D := D) (ci := 5) (v := .ref (aR 3)) (C := RX5) (T := TX5) (N := 7) hx hb hts iX5 hown hK hP 0 rfl rfl 2 (by decide) f9 (fun _ h9 => h9) rfl dX5_property_45 ?_
    refine lv_iload_n hx hb dX5_property_48 rfl (lv_at hl 0 rfl) ?_
    obtain ⟨r_11, hc_12, hE⟩ := bd1_el hE
    refine ki (X := (List.take 1 (W_R cy aR imR))) (Y := (List.drop 2 (W_R cy aR imR))) (ws1 := (W_R cy aR imR)) (rSN (X := (List.take 1 (W_R cy aR imR))) (Y := (List.drop 2 (W_R cy aR imR))) (As := [.ref (aR 3), .int x3_1]) (rest := []) hC (c_X8_valueAt l D cy (aR 3) x3_1 (16) (imR 2) r_11 hc_12) (va_cnB 2 hts gX5_property_X8_valueAt_n39 rfl rfl rfl (hN.1 9 _ rfl) in_X8 cd_X8_valueAt.2 ⟨Nat.le_of_ble_eq_true rfl, Nat.le_of_ble_eq_true rfl⟩) st_X8_valueAt hK hN hP hD hS hA rfl rfl hl.1 rfl (lv_room (Nat.le_of_ble_eq_true rfl)) dX5_property_49 ⟨Nat.le_of_ble_eq_true rfl, Nat.le_of_ble_eq_true rfl⟩) hP hD hS hA rfl rfl rfl (fun H locs hP hD hS => ?_)
    have hE := Option.some.inj hE
    exact ei hx hb hr hlocks hK hP hD hS hE rfl dX5_property_52
  · replace hE := it_f hE c_4_0
    by_cases c_4_1 : x2 = 1
    · replace hE := it_t hE c_4_1
      refine lv_tableIn (tgt := 53) hx hb dX5_property_13 (by rw [c_4_1]; decide) (by rw [c_4_1]; decide) (off := 40) (by rw [c_4_1]; decide) (by decide) ?_
      refine lv_aload_n hx hb dX5_property_53 rfl (lv_at hl 1 rfl) ?_
      refine va_get (D := D) (ci := 5) (v := .ref (aR 4)) (C := RX5) (T := TX5) (N := 7) hx hb hts iX5 hown hK hP 0 rfl rfl 3 (by decide) f13 (fun _ h9 => h9) rfl dX5_property_54 ?_
      refine lv_iload_n hx hb dX5_property_57 rfl (lv_at hl 0 rfl) ?_
      obtain ⟨r_9, hc_10, hE⟩ := bd1_el hE
      refine ki (X := (List.take 2 (W_R cy aR imR))) (Y := (List.drop 3 (W_R cy aR imR))) (ws1 := (W_R cy aR imR)) (rSN (X := (List.take 2 (W_R cy aR imR))) (Y := (List.drop 3 (W_R cy aR imR))) (As := [.ref (aR 4), .int x3_1]) (rest := []) hC (c_X8_valueAt l D cy (aR 4) x3_1 (16) (imR 3) r_9 hc_10) (va_cnB 2 hts gX5_property_X8_valueAt_n39 rfl rfl rfl (hN.1 9 _ rfl) in_X8 cd_X8_valueAt.2 ⟨Nat.le_of_ble_eq_true rfl, Nat.le_of_ble_eq_true rfl⟩) st_X8_valueAt hK hN hP hD hS hA rfl rfl hl.1 rfl (lv_room (Nat.le_of_ble_eq_true rfl)) dX5_property_58 ⟨Nat.le_of_ble_eq_true rfl, Nat.le_of_ble_eq_true rfl⟩) hP hD hS hA rfl rfl rfl (fun H locs hP hD hS => ?_)
      have hE := Option.some.inj hE
      exact ei hx hb hr hlocks hK hP hD hS hE rfl dX5_property_61
    · replace hE := it_f hE c_4_1
      by_cases c_4_2 : x2 = 2
      · replace hE := it_t hE c_4_2
        refine lv_tableIn (tgt := 62) hx hb dX5_property_13 (by rw [c_4_2]; decide) (by rw [c_4_2]; decide) (off := 49) (by rw [c_4_2]; decide) (by decide) ?_
        refine lv_aload_n hx hb dX5_property_62 rfl (lv_at hl 1 rfl) ?_
        refine va_get (D := D) (ci := 5) (v := .ref (aR 5)) (C := RX5) (T := TX5) (N := 7) hx hb hts iX5 hown hK hP 0 rfl rfl 4 (by decide) f16 (fun _ h9 => h9) rfl dX5_property_63 ?_
        refine lv_iload_n hx hb dX5_property_66 rfl (lv_at hl 0 rfl) ?_
        obtain ⟨r_7, hc_8, hE⟩ := bd1_el hE
        refine ki (X := (List.take 3 (W_R cy aR imR))) (Y := (List.drop 4 (W_R cy aR imR))) (ws1 := (W_R cy aR imR)) (rSN (X := (List.take 3 (W_R cy aR imR))) (Y := (List.drop 4 (W_R cy aR imR))) (As := [.ref (aR 5), .int x3_1]) (rest := []) hC (c_X8_valueAt l D cy (aR 5) x3_1 (16) (imR 4) r_7 hc_8) (va_cnB 2 hts gX5_property_X8_valueAt_n39 rfl rfl rfl (hN.1 9 _ rfl) in_X8 cd_X8_valueAt.2 ⟨Nat.le_of_ble_eq_true rfl, Nat.le_of_ble_eq_true rfl⟩) st_X8_valueAt hK hN hP hD hS hA rfl rfl hl.1 rfl (lv_room (Nat.le_of_ble_eq_true rfl)) dX5_property_67 ⟨Nat.le_of_ble_eq_true rfl, Nat.le_of_ble_eq_true rfl⟩) hP hD hS hA rfl rfl rfl (fun H locs hP hD hS => ?_)
        have hE := Option.some.inj hE
        exact ei hx hb hr hlocks hK hP hD hS hE rfl dX5_property_70
      · replace hE := it_f hE c_4_2
        by_cases c_4_3 : x2 = 3
        · replace hE := it_t hE c_4_3
          refine lv_tableIn (tgt := 71) hx hb dX5_property_13 (by rw [c_4_3]; decide) (by rw [c_4_3]; decide) (off := 58) (by rw [c_4_3]; decide) (by decide) ?_
          refine lv_aload_n hx hb dX5_property_71 rfl (lv_at hl 1 rfl) ?_
          refine va_get (D := D) (ci := 5) (v := .ref (aR 6)) (C := RX5) (T := TX5) (N := 7) hx hb hts iX5 hown hK hP 0 rfl rfl 5 (by decide) f19 (fun _ h9 => h9) rfl dX5_property_72 ?_
          refine lv_iload_n hx hb dX5_property_75 rfl (lv_at hl 0 rfl) ?_
          obtain ⟨r_5, hc_6, hE⟩ := bd1_el hE
          refine ki (X := (List.take 4 (W_R cy aR imR))) (Y := (List.drop 5 (W_R cy aR imR))) (ws1 := (W_R cy aR imR)) (rSN (X := (List.take 4 (W_R cy aR imR))) (Y := (List.drop 5 (W_R cy aR imR))) (As := [.ref (aR 6), .int x3_1]) (rest := []) hC (c_X8_valueAt l D cy (aR 6) x3_1 (16) (imR 5) r_5 hc_6) (va_cnB 2 hts gX5_property_X8_valueAt_n39 rfl rfl rfl (hN.1 9 _ rfl) in_X8 cd_X8_valueAt.2 ⟨Nat.le_of_ble_eq_true rfl, Nat.le_of_ble_eq_true rfl⟩) st_X8_valueAt hK hN hP hD hS hA rfl rfl hl.1 rfl (lv_room (Nat.le_of_ble_eq_true rfl)) dX5_property_76 ⟨Nat.le_of_ble_eq_true rfl, Nat.le_of_ble_eq_true rfl⟩) hP hD hS hA rfl rfl rfl (fun H locs hP hD hS => ?_)
          have hE := Option.some.inj hE
          exact ei hx hb hr hlocks hK hP hD hS hE rfl dX5_property_79
        · replace hE := it_f hE c_4_3
          refine lv_tableOut (tgt := 80) hx hb dX5_property_13 (sw_out (lo := 0) (hi := 3) (fun z h1 h2 => ?_)) (by decide) ?_
          · rcases (show z = 0 ∨ z = 1 ∨ z = 2 ∨ z = 3 by omega) with rfl | rfl | rfl | rfl
            · exact fun q9 => c_4_0 (q9.trans (by decide))
            · exact fun q9 => c_4_1 (q9.trans (by decide))
            · exact fun q9 => c_4_2 (q9.trans (by decide))
            · exact fun q9 => c_4_3 (q9.trans (by decide))
          · refine lv_aload_n hx hb dX5_property_80 rfl (lv_at hl 1 rfl) ?_
            refine va_get (D := D) (ci := 5) (v := .ref (aR 7)) (C := RX5) (T := TX5) (N := 7) hx hb hts iX5 hown hK hP 0 rfl rfl 6 (by decide) f22 (fun _ h9 => h9) rfl dX5_property_81 ?_
            refine lv_iload_n hx hb dX5_property_84 rfl (lv_at hl 0 rfl) ?_
            obtain ⟨r_2, hc_3, hE⟩ := bd1_el hE
            refine ki (X := (List.take 5 (W_R cy aR imR))) (Y := (List.drop 6 (W_R cy aR imR))) (ws1 := (W_R cy aR imR)) (rSN (X := (List.take 5 (W_R cy aR imR))) (Y := (List.drop 6 (W_R cy aR imR))) (As := [.ref (aR 7), .int x3_1]) (rest := []) hC (c_X8_valueAt l D cy (aR 7) x3_1 (16) (imR 6) r_2 hc_3) (va_cnB 2 hts gX5_property_X8_valueAt_n39 rfl rfl rfl (hN.1 9 _ rfl) in_X8 cd_X8_valueAt.2 ⟨Nat.le_of_ble_eq_true rfl, Nat.le_of_ble_eq_true rfl⟩) st_X8_valueAt hK hN hP hD hS hA rfl rfl hl.1 rfl (lv_room (Nat.le_of_ble_eq_true rfl)) dX5_property_85 ⟨Nat.le_of_ble_eq_true rfl, Nat.le_of_ble_eq_true rfl⟩) hP hD hS hA rfl rfl rfl (fun H locs hP hD hS => ?_)
            have hE := Option.some.inj hE
            exact ei hx hb hr hlocks hK hP hD hS hE rfl dX5_property_88
