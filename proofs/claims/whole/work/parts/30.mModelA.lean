abbrev rm_X9_thrown : Room := { frames := 0, cells := 0, slots := 0, locals := 0 }
set_option maxHeartbeats 40000000 in
set_option maxRecDepth 100000 in
theorem c_X9_thrown (l : Launch) (D : va_G) (cy : Nat → Nat) (aM : Nat → Nat) (imM : Mem) (inM : MemL) (r' : Int32) (hE : f_X9_thrown imM inM = some r') : CI l yX9_thrown wsX9_thrown rm_X9_thrown D cy [.ref (aM 0)] (W_M cy aM imM inM) 0 0 r' (W_M cy aM imM inM) := by
  refine CQ_of (cc := cX9_thrown) (maxL := 1) (ret := (some .int)) (by decide) rfl (Nat.le_of_ble_eq_true rfl) (fun p e s m args below meth c A ls hx hb hr hml hlocks hnm hown hts hA hK hN hP hD hS hl => ?_)
  have hown : s.vm.findClass RX9 = some m.cls := hown
  have hl : lv_has ls 1 [(0, .ref (aM 0))] := hl
  have f43 : (Cond.fieldLink RX9 43 "IcePlantModel" "thrown" "I").before args s = true := hts _ (mC qf_X9_43)
  have iX9 : ∀ w ∈ wsX90, w ∈ wsX9_thrown := fun w h => mC (iA_X9 w h)
  unfold f_X9_thrown at hE
  refine lv_aload_n hx hb dX9_thrown_0 rfl (lv_at hl 0 rfl) ?_
  refine va_get (D := D) (ci := 9) (v := .int (imM 8 0)) (C := RX9) (T := TX9) (N := 13) hx hb hts iX9 hown hK hP 0 rfl rfl 8 (by decide) f43 (fun _ h9 => h9) rfl dX9_thrown_1 ?_
  have hE := Option.some.inj hE
  exact ei hx hb hr hlocks hK hP hD hS hE rfl dX9_thrown_4
abbrev rm_X9_refuse : Room := { frames := 0, cells := 0, slots := 0, locals := 0 }
set_option maxHeartbeats 40000000 in
set_option maxRecDepth 100000 in
theorem c_X9_refuse (l : Launch) (D : va_G) (cy : Nat → Nat) (aM : Nat → Nat) (x1 : Int32) (imM : Mem) (inM : MemL) (r' : Int32) (mM' : Mem) (hE : f_X9_refuse x1 imM inM = some (r', mM')) : CI l yX9_refuse wsX9_refuse rm_X9_refuse D cy [.ref (aM 0), .int x1] (W_M cy aM imM inM) 0 0 r' (W_M cy aM mM' inM) := by
  refine CQ_of (cc := cX9_refuse) (maxL := 2) (ret := (some .int)) (by decide) rfl (Nat.le_of_ble_eq_true rfl) (fun p e s m args below meth c A ls hx hb hr hml hlocks hnm hown hts hA hK hN hP hD hS hl => ?_)
  have hown : s.vm.findClass RX9 = some m.cls := hown
  have hl : lv_has ls 2 [(0, .ref (aM 0)), (1, .int x1)] := hl
  have f43 : (Cond.fieldLink RX9 43 "IcePlantModel" "thrown" "I").before args s = true := hts _ (mC qf_X9_43)
  have iX9 : ∀ w ∈ wsX90, w ∈ wsX9_refuse := fun w h => mC (iA_X9 w h)
  unfold f_X9_refuse at hE
  refine lv_aload_n hx hb dX9_refuse_0 rfl (lv_at hl 0 rfl) ?_
  refine lv_iload_n hx hb dX9_refuse_1 rfl (lv_at hl 1 rfl) ?_
  obtain ⟨mM_1, e_mM_1, hE⟩ := lt_el hE
  refine s_pf (own := RX9) (C := RX9) (T := TX9) (N := 13) (ci := 9) (ws1 := (W_M cy aM mM_1 inM)) hx hb hts iX9 tyX9 tyX9_ok nmX9 hown hK hP hD hS 0 rfl rfl 8 (by decide) f43 rfl rfl rfl rfl (Nat.le_of_ble_eq_true rfl) (by rw [e_mM_1]; rfl) dX9_refuse_2 (fun H locs hP hD hS => ?_)
  refine lv_iconst (v := 0) hx hb dX9_refuse_5 (by decide) ?_
  have hE := Option.some.inj hE
  obtain ⟨q0, q1⟩ := Prod.mk.inj hE
  exact ei hx hb hr hlocks hK hP hD hS q0 (by rw [q1]) dX9_refuse_6
abbrev rm_X9_in : Room := { frames := 0, cells := 0, slots := 0, locals := 0 }
set_option maxHeartbeats 40000000 in
set_option maxRecDepth 100000 in
theorem c_X9_in (l : Launch) (D : va_G) (cy : Nat → Nat)  (x0 : Int64) (x2 : Int64) (x4 : Int64) (r' : Int32) (hE : f_X9_in x0 x2 x4 = some r') : CI l yX9_in wsX9_in rm_X9_in D cy [.long x0, .long x2, .long x4] ([] : va_W) 0 0 r' ([] : va_W) := by
  refine CQ_of (cc := cX9_in) (maxL := 6) (ret := (some .boolean)) (by decide) rfl (Nat.le_of_ble_eq_true rfl) (fun p e s m args below meth c A ls hx hb hr hml hlocks hnm hown hts hA hK hN hP hD hS hl => ?_)
  have hown : s.vm.findClass RX9 = some m.cls := hown
  have hl : lv_has ls 6 [(0, .long x0), (2, .long x2), (4, .long x4)] := hl
  unfold f_X9_in at hE
  refine lv_lload_n hx hb dX9_in_0 rfl (lv_at hl 0 rfl) ?_
  refine lv_lload_n hx hb dX9_in_1 rfl (lv_at hl 1 rfl) ?_
  refine W.lcmp hx hb dX9_in_2 ?_
  refine lv_if_lt (tgt := 17) hx hb dX9_in_3 (by decide) (fun c_1 => ?_) (fun c_1 => ?_)
  · replace hE := it_t hE c_1
    refine lv_iconst (v := 0) hx hb dX9_in_17 (by decide) ?_
    have hE := Option.some.inj hE
    exact ez hx hb hr (by decide) hlocks hK hP hD hS hE rfl dX9_in_18
  · replace hE := it_f hE c_1
    refine lv_lload_n hx hb dX9_in_6 rfl (lv_at hl 0 rfl) ?_
    refine lv_lload hx hb dX9_in_7 (lv_at hl 2 rfl) ?_
    refine W.lcmp hx hb dX9_in_9 ?_
    refine lv_if_gt (tgt := 17) hx hb dX9_in_10 (by decide) (fun c_2 => ?_) (fun c_2 => ?_)
    · replace hE := it_t hE c_2
      refine lv_iconst (v := 0) hx hb dX9_in_17 (by decide) ?_
      have hE := Option.some.inj hE
      exact ez hx hb hr (by decide) hlocks hK hP hD hS hE rfl dX9_in_18
    · replace hE := it_f hE c_2
      refine lv_iconst (v := 1) hx hb dX9_in_13 (by decide) ?_
      refine lv_goto (tgt := 18) hx hb dX9_in_14 (by decide) ?_
      have hE := Option.some.inj hE
      exact ez hx hb hr (by decide) hlocks hK hP hD hS hE rfl dX9_in_18
abbrev rm_X9_isSilo : Room := { frames := 1, cells := 0, slots := 0, locals := 25 }
set_option maxHeartbeats 40000000 in
set_option maxRecDepth 100000 in
theorem c_X9_isSilo (l : Launch) (D : va_G) (cy : Nat → Nat) (aM : Nat → Nat) (x1 : Int32) (imM : Mem) (inM : MemL) (r' : Int32) (hE : f_X9_isSilo x1 imM inM = some r') : CI l yX9_isSilo wsX9_isSilo rm_X9_isSilo D cy [.ref (aM 0), .int x1] (W_M cy aM imM inM) 0 0 r' (W_M cy aM imM inM) := by
  refine CQ_of (cc := cX9_isSilo) (maxL := 2) (ret := (some .boolean)) (by decide) rfl (Nat.le_of_ble_eq_true rfl) (fun p e s m args below meth c A ls hx hb hr hml hlocks hnm hown hts hA hK hN hP hD hS hl => ?_)
  have hown : s.vm.findClass RX9 = some m.cls := hown
  have hl : lv_has ls 2 [(0, .ref (aM 0)), (1, .int x1)] := hl
  have hC : CallFix p m c cX9_isSilo 2 s args wsX9_isSilo RX9 := ⟨hx, hb, hml, hown, hts⟩
  have f7 : (Cond.fieldLink RX9 7 "IcePlantModel" "w" "[J").before args s = true := hts _ (mC qf_X9_7)
  have iX9 : ∀ w ∈ wsX90, w ∈ wsX9_isSilo := fun w h => mC (iA_X9 w h)
  unfold f_X9_isSilo at hE
  refine lv_iload_n hx hb dX9_isSilo_0 rfl (lv_at hl 1 rfl) ?_
  refine lv_i2l hx hb dX9_isSilo_1 rfl ?_
  refine lv_lconst (v := 0) hx hb dX9_isSilo_2 (by decide) ?_
  refine lv_aload_n hx hb dX9_isSilo_3 rfl (lv_at hl 0 rfl) ?_
  refine va_get (D := D) (ci := 9) (v := .ref (aM 1)) (C := RX9) (T := TX9) (N := 13) hx hb hts iX9 hown hK hP 0 rfl rfl 0 (by decide) f7 (fun _ h9 => h9) rfl dX9_isSilo_4 ?_
  refine lv_sipush (v := 1880) hx hb dX9_isSilo_7 (by decide) ?_
  refine va_lald hx hb hK hP 1 1 rfl rfl (show ¬ ((1880 : Int32) < 0 ∨ 1888 ≤ (1880 : Int32).toNatClampNeg) by decide) dX9_isSilo_10 ?_
  refine lv_lconst (v := 1) hx hb dX9_isSilo_11 (by decide) ?_
  refine lv_lsub hx hb dX9_isSilo_12 ?_
  obtain ⟨r_1, hc_2, hE⟩ := bd1_el hE
  refine ki (X := []) (Y := (W_M cy aM imM inM)) (ws1 := (W_M cy aM imM inM)) (rS (X := []) (Y := (W_M cy aM imM inM)) (As := [.long (x1.toInt64), .long (0 : Int64), .long ((inM 0 (1880 : Int32).toNatClampNeg) - (1 : Int64))]) (rest := []) hC (c_X9_in l D cy (x1.toInt64) (0 : Int64) ((inM 0 (1880 : Int32).toNatClampNeg) - (1 : Int64)) r_1 hc_2) (cwS 3 hts gX9_isSilo_X9_in rfl rfl rfl cd_X9_in ⟨Nat.le_of_ble_eq_true rfl, Nat.le_of_ble_eq_true rfl⟩) hK hN hP hD hS hA rfl rfl hl.1 rfl (lv_room (Nat.le_of_ble_eq_true rfl)) dX9_isSilo_13 ⟨Nat.le_of_ble_eq_true rfl, Nat.le_of_ble_eq_true rfl⟩) hP hD hS hA rfl rfl rfl (fun H locs hP hD hS => ?_)
  obtain ⟨g_3, hE⟩ := gb_el hE
  have hE := Option.some.inj hE
  exact ez hx hb hr (gb_n g_3) hlocks hK hP hD hS hE rfl dX9_isSilo_16
abbrev rm_X9_isBoat : Room := { frames := 1, cells := 0, slots := 0, locals := 25 }
set_option maxHeartbeats 40000000 in
set_option maxRecDepth 100000 in
theorem c_X9_isBoat (l : Launch) (D : va_G) (cy : Nat → Nat) (aM : Nat → Nat) (x1 : Int32) (imM : Mem) (inM : MemL) (r' : Int32) (hE : f_X9_isBoat x1 imM inM = some r') : CI l yX9_isBoat wsX9_isBoat rm_X9_isBoat D cy [.ref (aM 0), .int x1] (W_M cy aM imM inM) 0 0 r' (W_M cy aM imM inM) := by
  refine CQ_of (cc := cX9_isBoat) (maxL := 2) (ret := (some .boolean)) (by decide) rfl (Nat.le_of_ble_eq_true rfl) (fun p e s m args below meth c A ls hx hb hr hml hlocks hnm hown hts hA hK hN hP hD hS hl => ?_)
  have hown : s.vm.findClass RX9 = some m.cls := hown
  have hl : lv_has ls 2 [(0, .ref (aM 0)), (1, .int x1)] := hl
  have hC : CallFix p m c cX9_isBoat 2 s args wsX9_isBoat RX9 := ⟨hx, hb, hml, hown, hts⟩
  have f7 : (Cond.fieldLink RX9 7 "IcePlantModel" "w" "[J").before args s = true := hts _ (mC qf_X9_7)
  have iX9 : ∀ w ∈ wsX90, w ∈ wsX9_isBoat := fun w h => mC (iA_X9 w h)
  unfold f_X9_isBoat at hE
  refine lv_iload_n hx hb dX9_isBoat_0 rfl (lv_at hl 1 rfl) ?_
  refine lv_i2l hx hb dX9_isBoat_1 rfl ?_
  refine lv_lconst (v := 0) hx hb dX9_isBoat_2 (by decide) ?_
  refine lv_aload_n hx hb dX9_isBoat_3 rfl (lv_at hl 0 rfl) ?_
  refine va_get (D := D) (ci := 9) (v := .ref (aM 1)) (C := RX9) (T := TX9) (N := 13) hx hb hts iX9 hown hK hP 0 rfl rfl 0 (by decide) f7 (fun _ h9 => h9) rfl dX9_isBoat_4 ?_
  refine lv_sipush (v := 1881) hx hb dX9_isBoat_7 (by decide) ?_
  refine va_lald hx hb hK hP 1 1 rfl rfl (show ¬ ((1881 : Int32) < 0 ∨ 1888 ≤ (1881 : Int32).toNatClampNeg) by decide) dX9_isBoat_10 ?_
  refine lv_lconst (v := 1) hx hb dX9_isBoat_11 (by decide) ?_
  refine lv_lsub hx hb dX9_isBoat_12 ?_
  obtain ⟨r_1, hc_2, hE⟩ := bd1_el hE
  refine ki (X := []) (Y := (W_M cy aM imM inM)) (ws1 := (W_M cy aM imM inM)) (rS (X := []) (Y := (W_M cy aM imM inM)) (As := [.long (x1.toInt64), .long (0 : Int64), .long ((inM 0 (1881 : Int32).toNatClampNeg) - (1 : Int64))]) (rest := []) hC (c_X9_in l D cy (x1.toInt64) (0 : Int64) ((inM 0 (1881 : Int32).toNatClampNeg) - (1 : Int64)) r_1 hc_2) (cwS 3 hts gX9_isBoat_X9_in rfl rfl rfl cd_X9_in ⟨Nat.le_of_ble_eq_true rfl, Nat.le_of_ble_eq_true rfl⟩) hK hN hP hD hS hA rfl rfl hl.1 rfl (lv_room (Nat.le_of_ble_eq_true rfl)) dX9_isBoat_13 ⟨Nat.le_of_ble_eq_true rfl, Nat.le_of_ble_eq_true rfl⟩) hP hD hS hA rfl rfl rfl (fun H locs hP hD hS => ?_)
  obtain ⟨g_3, hE⟩ := gb_el hE
  have hE := Option.some.inj hE
  exact ez hx hb hr (gb_n g_3) hlocks hK hP hD hS hE rfl dX9_isBoat_16
abbrev rm_X9_isOrder : Room := { frames := 1, cells := 0, slots := 0, locals := 25 }
set_option maxHeartbeats 40000000 in
set_option maxRecDepth 100000 in
theorem c_X9_isOrder (l : Launch) (D : va_G) (cy : Nat → Nat) (aM : Nat → Nat) (x1 : Int32) (imM : Mem) (inM : MemL) (r' : Int32) (hE : f_X9_isOrder x1 imM inM = some r') : CI l yX9_isOrder wsX9_isOrder rm_X9_isOrder D cy [.ref (aM 0), .int x1] (W_M cy aM imM inM) 0 0 r' (W_M cy aM imM inM) := by
  refine CQ_of (cc := cX9_isOrder) (maxL := 2) (ret := (some .boolean)) (by decide) rfl (Nat.le_of_ble_eq_true rfl) (fun p e s m args below meth c A ls hx hb hr hml hlocks hnm hown hts hA hK hN hP hD hS hl => ?_)
  have hown : s.vm.findClass RX9 = some m.cls := hown
  have hl : lv_has ls 2 [(0, .ref (aM 0)), (1, .int x1)] := hl
  have hC : CallFix p m c cX9_isOrder 2 s args wsX9_isOrder RX9 := ⟨hx, hb, hml, hown, hts⟩
  have f7 : (Cond.fieldLink RX9 7 "IcePlantModel" "w" "[J").before args s = true := hts _ (mC qf_X9_7)
  have iX9 : ∀ w ∈ wsX90, w ∈ wsX9_isOrder := fun w h => mC (iA_X9 w h)
  unfold f_X9_isOrder at hE
  refine lv_iload_n hx hb dX9_isOrder_0 rfl (lv_at hl 1 rfl) ?_
  refine lv_i2l hx hb dX9_isOrder_1 rfl ?_
  refine lv_lconst (v := 0) hx hb dX9_isOrder_2 (by decide) ?_
  refine lv_aload_n hx hb dX9_isOrder_3 rfl (lv_at hl 0 rfl) ?_
  refine va_get (D := D) (ci := 9) (v := .ref (aM 1)) (C := RX9) (T := TX9) (N := 13) hx hb hts iX9 hown hK hP 0 rfl rfl 0 (by decide) f7 (fun _ h9 => h9) rfl dX9_isOrder_4 ?_
  refine lv_sipush (v := 1882) hx hb dX9_isOrder_7 (by decide) ?_
  refine va_lald hx hb hK hP 1 1 rfl rfl (show ¬ ((1882 : Int32) < 0 ∨ 1888 ≤ (1882 : Int32).toNatClampNeg) by decide) dX9_isOrder_10 ?_
  refine lv_lconst (v := 1) hx hb dX9_isOrder_11 (by decide) ?_
  refine lv_lsub hx hb dX9_isOrder_12 ?_
  obtain ⟨r_1, hc_2, hE⟩ := bd1_el hE
  refine ki (X := []) (Y := (W_M cy aM imM inM)) (ws1 := (W_M cy aM imM inM)) (rS (X := []) (Y := (W_M cy aM imM inM)) (As := [.long (x1.toInt64), .long (0 : Int64), .long ((inM 0 (1882 : Int32).toNatClampNeg) - (1 : Int64))]) (rest := []) hC (c_X9_in l D cy (x1.toInt64) (0 : Int64) ((inM 0 (1882 : Int32).toNatClampNeg) - (1 : Int64)) r_1 hc_2) (cwS 3 hts gX9_isOrder_X9_in rfl rfl rfl cd_X9_in ⟨Nat.le_of_ble_eq_true rfl, Nat.le_of_ble_eq_true rfl⟩) hK hN hP hD hS hA rfl rfl hl.1 rfl (lv_room (Nat.le_of_ble_eq_true rfl)) dX9_isOrder_13 ⟨Nat.le_of_ble_eq_true rfl, Nat.le_of_ble_eq_true rfl⟩) hP hD hS hA rfl rfl rfl (fun H locs hP hD hS => ?_)
  obtain ⟨g_3, hE⟩ := gb_el hE
  have hE := Option.some.inj hE
  exact ez hx hb hr (gb_n g_3) hlocks hK hP hD hS hE rfl dX9_isOrder_16
abbrev rm_X9_save : Room := { frames := 0, cells := 0, slots := 0, locals := 0 }
set_option maxHeartbeats 40000000 in
set_option maxRecDepth 100000 in
theorem c_X9_save (l : Launch) (D : va_G) (cy : Nat → Nat) (aM : Nat → Nat) (imM : Mem) (inM : MemL) (mM' : Mem) (nM' : MemL) (hE : f_X9_save imM inM = some (mM', nM')) : CV l yX9_save wsX9_save rm_X9_save D cy [.ref (aM 0)] (W_M cy aM imM inM) 0 0 (W_M cy aM mM' nM') := by
  refine CQ_of (cc := cX9_save) (maxL := 2) (ret := none) (by decide) rfl (Nat.le_of_ble_eq_true rfl) (fun p e s m args below meth c A ls hx hb hr hml hlocks hnm hown hts hA hK hN hP hD hS hl => ?_)
  have hown : s.vm.findClass RX9 = some m.cls := hown
  have hl : lv_has ls 2 [(0, .ref (aM 0))] := hl
  have f7 : (Cond.fieldLink RX9 7 "IcePlantModel" "w" "[J").before args s = true := hts _ (mC qf_X9_7)
  have f13 : (Cond.fieldLink RX9 13 "IcePlantModel" "saved" "[J").before args s = true := hts _ (mC qf_X9_13)
  have f51 : (Cond.fieldLink RX9 51 "IcePlantModel" "savedMany" "I").before args s = true := hts _ (mC qf_X9_51)
  have iX9 : ∀ w ∈ wsX90, w ∈ wsX9_save := fun w h => mC (iA_X9 w h)
  have h52 : ∀ (mM : Mem), ∀ (n : Nat), ∀ (x1 : Int32) (nM : MemL) (H : Heap) (locs : List Loc) (ls : Array Slot), f_X9_save_L52 mM n x1 nM = some (mM', nM') → va_P D vwCl (W_M cy aM mM nM) H → va_D A (W_M cy aM mM nM) → va_S A s.heap H locs → lv_has ls 2 [(0, .ref (aM 0)), (1, .int x1)] → W p l e rm_X9_save s m args below meth c H locs 0 0 (MQ below (QV D cy (W_M cy aM mM' nM') A) args s 0 0 A) (F0 m 52 ls []) := by
    intro mM n
    induction n with
    | zero => intro x1 nM H locs ls hE; exact absurd hE (fun h9 => nomatch h9)
    | succ n ih =>
      intro x1 nM H locs ls hE hP hD hS hl
      replace hE : ((if (1888 : Int32) ≤ x1 then lt' (wrI mM 6 (fun _ => ((mM 6 0) + (1 : Int32)))) fun mM_2 => some (mM_2, nM) else gi x1 1888 (gi (((mM 6 0) * (1888 : Int32)) + x1) 15104 (lt' (wrL nM 1 (vp_updL (nM 1) (((mM 6 0) * (1888 : Int32)) + x1).toNatClampNeg (nM 0 x1.toNatClampNeg))) fun nM_4 => lt' (x1 + (1 : Int32)) fun x1_6 => (f_X9_save_L52 mM n) x1_6 nM_4)))) = some (mM', nM') := hE
      refine lv_iload_n hx hb dX9_save_52 rfl (lv_at hl 1 rfl) ?_
      refine lv_sipush (v := 1888) hx hb dX9_save_53 (by decide) ?_
      refine lv_icmp_ge (tgt := 86) hx hb dX9_save_56 (by decide) (fun c_1 => ?_) (fun c_1 => ?_)
      · replace hE := it_t hE c_1
        refine lv_aload_n hx hb dX9_save_86 rfl (lv_at hl 0 rfl) ?_
        refine lv_dup hx hb dX9_save_87 rfl ?_
        refine va_get (D := D) (ci := 9) (v := .int (mM 6 0)) (C := RX9) (T := TX9) (N := 13) hx hb hts iX9 hown hK hP 0 rfl rfl 6 (by decide) f51 (fun _ h9 => h9) rfl dX9_save_88 ?_
        refine lv_iconst (v := 1) hx hb dX9_save_91 (by decide) ?_
        refine lv_iadd hx hb dX9_save_92 ?_
        obtain ⟨mM_2, e_mM_2, hE⟩ := lt_el hE
        refine s_pf (own := RX9) (C := RX9) (T := TX9) (N := 13) (ci := 9) (ws1 := (W_M cy aM mM_2 nM)) hx hb hts iX9 tyX9 tyX9_ok nmX9 hown hK hP hD hS 0 rfl rfl 6 (by decide) f51 rfl rfl rfl rfl (Nat.le_of_ble_eq_true rfl) (by rw [e_mM_2]; rfl) dX9_save_93 (fun H locs hP hD hS => ?_)
        have hE := Option.some.inj hE
        obtain ⟨q0, q1⟩ := Prod.mk.inj hE
        exact ev hx hb hr hlocks hK hP hD hS (by rw [q0, q1]) dX9_save_96
      · replace hE := it_f hE c_1
        refine lv_aload_n hx hb dX9_save_59 rfl (lv_at hl 0 rfl) ?_
        refine va_get (D := D) (ci := 9) (v := .ref (aM 2)) (C := RX9) (T := TX9) (N := 13) hx hb hts iX9 hown hK hP 0 rfl rfl 1 (by decide) f13 (fun _ h9 => h9) rfl dX9_save_60 ?_
        refine lv_aload_n hx hb dX9_save_63 rfl (lv_at hl 0 rfl) ?_
        refine va_get (D := D) (ci := 9) (v := .int (mM 6 0)) (C := RX9) (T := TX9) (N := 13) hx hb hts iX9 hown hK hP 0 rfl rfl 6 (by decide) f51 (fun _ h9 => h9) rfl dX9_save_64 ?_
        refine lv_sipush (v := 1888) hx hb dX9_save_67 (by decide) ?_
        refine lv_imul hx hb dX9_save_70 ?_
        refine lv_iload_n hx hb dX9_save_71 rfl (lv_at hl 1 rfl) ?_
        refine lv_iadd hx hb dX9_save_72 ?_
        refine lv_aload_n hx hb dX9_save_73 rfl (lv_at hl 0 rfl) ?_
        refine va_get (D := D) (ci := 9) (v := .ref (aM 1)) (C := RX9) (T := TX9) (N := 13) hx hb hts iX9 hown hK hP 0 rfl rfl 0 (by decide) f7 (fun _ h9 => h9) rfl dX9_save_74 ?_
        refine lv_iload_n hx hb dX9_save_77 rfl (lv_at hl 1 rfl) ?_
        obtain ⟨g_3, hE⟩ := gi_el hE
        refine va_lald hx hb hK hP 1 1 rfl rfl g_3 dX9_save_78 ?_
        obtain ⟨g_5, hE⟩ := gi_el hE
        obtain ⟨nM_4, e_nM_4, hE⟩ := lt_el hE
        refine s_la (ws1 := (W_M cy aM mM nM_4)) hx hb hK hP hD hS 2 rfl g_5 (by rw [e_nM_4]; rfl) dX9_save_79 (fun H locs hP hD hS => ?_)
        obtain ⟨x1_6, e_x1_6, hE⟩ := lt_el hE
        refine lv_iinc (v := x1_6) (lv' := [(1, .int x1_6), (0, .ref (aM 0))]) hx hb dX9_save_80 hl (k := 1) rfl (by rw [e_x1_6]; rfl) (by decide) rfl (fun ls hl => ?_)
        refine lv_goto (tgt := 52) hx hb dX9_save_83 (by decide) ?_
        exact ih x1_6 nM_4 _ _ _ hE hP hD hS (lv_sub hl [1, 0] rfl)
  have h50 : ∀ (mM : Mem) (nM : MemL), ∀  (H : Heap) (locs : List Loc) (ls : Array Slot), f_X9_save_b50 mM nM = some (mM', nM') → va_P D vwCl (W_M cy aM mM nM) H → va_D A (W_M cy aM mM nM) → va_S A s.heap H locs → lv_has ls 2 [(0, .ref (aM 0))] → W p l e rm_X9_save s m args below meth c H locs 0 0 (MQ below (QV D cy (W_M cy aM mM' nM') A) args s 0 0 A) (F0 m 50 ls []) := by
    intro mM nM H locs ls hE hP hD hS hl
    replace hE : (f_X9_save_L52 mM fuel (0 : Int32) nM) = some (mM', nM') := hE
    refine lv_iconst (v := 0) hx hb dX9_save_50 (by decide) ?_
    refine lv_istore_n (lv' := [(1, .int (0 : Int32)), (0, .ref (aM 0))]) hx hb dX9_save_51 rfl hl (by decide) rfl (fun ls hl => ?_)
    exact h52 mM fuel (0 : Int32) nM _ _ _ hE hP hD hS (lv_sub hl [1, 0] rfl)
  have h11 : ∀ (mM : Mem), ∀ (n : Nat), ∀ (x1 : Int32) (nM : MemL) (H : Heap) (locs : List Loc) (ls : Array Slot), f_X9_save_L11 mM n x1 nM = some (mM', nM') → va_P D vwCl (W_M cy aM mM nM) H → va_D A (W_M cy aM mM nM) → va_S A s.heap H locs → lv_has ls 2 [(0, .ref (aM 0)), (1, .int x1)] → W p l e rm_X9_save s m args below meth c H locs 0 0 (MQ below (QV D cy (W_M cy aM mM' nM') A) args s 0 0 A) (F0 m 11 ls []) := by
    intro mM n
    induction n with
    | zero => intro x1 nM H locs ls hE; exact absurd hE (fun h9 => nomatch h9)
    | succ n ih =>
      intro x1 nM H locs ls hE hP hD hS hl
      replace hE : ((if (13216 : Int32) ≤ x1 then lt' (wrI mM 6 (fun _ => ((mM 6 0) - (1 : Int32)))) fun mM_8 => f_X9_save_b50 mM_8 nM else gi (x1 + (1888 : Int32)) 15104 (gi x1 15104 (lt' (wrL nM 1 (vp_updL (nM 1) x1.toNatClampNeg (nM 1 (x1 + (1888 : Int32)).toNatClampNeg))) fun nM_10 => lt' (x1 + (1 : Int32)) fun x1_12 => (f_X9_save_L11 mM n) x1_12 nM_10)))) = some (mM', nM') := hE
      refine lv_iload_n hx hb dX9_save_11 rfl (lv_at hl 1 rfl) ?_
      refine lv_sipush (v := 13216) hx hb dX9_save_12 (by decide) ?_
      refine lv_icmp_ge (tgt := 40) hx hb dX9_save_15 (by decide) (fun c_7 => ?_) (fun c_7 => ?_)
      · replace hE := it_t hE c_7
        refine lv_aload_n hx hb dX9_save_40 rfl (lv_at hl 0 rfl) ?_
        refine lv_dup hx hb dX9_save_41 rfl ?_
        refine va_get (D := D) (ci := 9) (v := .int (mM 6 0)) (C := RX9) (T := TX9) (N := 13) hx hb hts iX9 hown hK hP 0 rfl rfl 6 (by decide) f51 (fun _ h9 => h9) rfl dX9_save_42 ?_
        refine lv_iconst (v := 1) hx hb dX9_save_45 (by decide) ?_
        refine lv_isub hx hb dX9_save_46 ?_
        obtain ⟨mM_8, e_mM_8, hE⟩ := lt_el hE
        refine s_pf (own := RX9) (C := RX9) (T := TX9) (N := 13) (ci := 9) (ws1 := (W_M cy aM mM_8 nM)) hx hb hts iX9 tyX9 tyX9_ok nmX9 hown hK hP hD hS 0 rfl rfl 6 (by decide) f51 rfl rfl rfl rfl (Nat.le_of_ble_eq_true rfl) (by rw [e_mM_8]; rfl) dX9_save_47 (fun H locs hP hD hS => ?_)
        exact h50 mM_8 nM _ _ _ hE hP hD hS (lv_sub hl [0] rfl)
      · replace hE := it_f hE c_7
        refine lv_aload_n hx hb dX9_save_18 rfl (lv_at hl 0 rfl) ?_
        refine va_get (D := D) (ci := 9) (v := .ref (aM 2)) (C := RX9) (T := TX9) (N := 13) hx hb hts iX9 hown hK hP 0 rfl rfl 1 (by decide) f13 (fun _ h9 => h9) rfl dX9_save_19 ?_
        refine lv_iload_n hx hb dX9_save_22 rfl (lv_at hl 1 rfl) ?_
        refine lv_aload_n hx hb dX9_save_23 rfl (lv_at hl 0 rfl) ?_
        refine va_get (D := D) (ci := 9) (v := .ref (aM 2)) (C := RX9) (T := TX9) (N := 13) hx hb hts iX9 hown hK hP 0 rfl rfl 1 (by decide) f13 (fun _ h9 => h9) rfl dX9_save_24 ?_
        refine lv_iload_n hx hb dX9_save_27 rfl (lv_at hl 1 rfl) ?_
        refine lv_sipush (v := 1888) hx hb dX9_save_28 (by decide) ?_
        refine lv_iadd hx hb dX9_save_31 ?_
        obtain ⟨g_9, hE⟩ := gi_el hE
        refine va_lald hx hb hK hP 2 1 rfl rfl g_9 dX9_save_32 ?_
        obtain ⟨g_11, hE⟩ := gi_el hE
        obtain ⟨nM_10, e_nM_10, hE⟩ := lt_el hE
        refine s_la (ws1 := (W_M cy aM mM nM_10)) hx hb hK hP hD hS 2 rfl g_11 (by rw [e_nM_10]; rfl) dX9_save_33 (fun H locs hP hD hS => ?_)
        obtain ⟨x1_12, e_x1_12, hE⟩ := lt_el hE
        refine lv_iinc (v := x1_12) (lv' := [(1, .int x1_12), (0, .ref (aM 0))]) hx hb dX9_save_34 hl (k := 1) rfl (by rw [e_x1_12]; rfl) (by decide) rfl (fun ls hl => ?_)
        refine lv_goto (tgt := 11) hx hb dX9_save_37 (by decide) ?_
        exact ih x1_12 nM_10 _ _ _ hE hP hD hS (lv_sub hl [1, 0] rfl)
  unfold f_X9_save at hE
  refine lv_aload_n hx hb dX9_save_0 rfl (lv_at hl 0 rfl) ?_
  refine va_get (D := D) (ci := 9) (v := .int (imM 6 0)) (C := RX9) (T := TX9) (N := 13) hx hb hts iX9 hown hK hP 0 rfl rfl 6 (by decide) f51 (fun _ h9 => h9) rfl dX9_save_1 ?_
  refine lv_bipush (v := 8) hx hb dX9_save_4 (by decide) ?_
  refine lv_icmp_ne (tgt := 50) hx hb dX9_save_6 (by decide) (fun c_13 => ?_) (fun c_13 => ?_)
  · replace hE := it_f hE c_13
    exact h50 imM inM _ _ _ hE hP hD hS (lv_sub hl [0] rfl)
  · replace hE := it_t hE c_13
    refine lv_iconst (v := 0) hx hb dX9_save_9 (by decide) ?_
    refine lv_istore_n (lv' := [(1, .int (0 : Int32)), (0, .ref (aM 0))]) hx hb dX9_save_10 rfl hl (by decide) rfl (fun ls hl => ?_)
    exact h11 imM fuel (0 : Int32) inM _ _ _ hE hP hD hS (lv_sub hl [1, 0] rfl)
abbrev rm_X9_addSilo : Room := { frames := 1, cells := 0, slots := 0, locals := 25 }
set_option maxHeartbeats 40000000 in
set_option maxRecDepth 100000 in
theorem c_X9_addSilo (l : Launch) (D : va_G) (cy : Nat → Nat) (aM : Nat → Nat) (x1 : Int32) (x2 : Int32) (x3 : Int32) (imM : Mem) (inM : MemL) (r' : Int32) (mM' : Mem) (nM' : MemL) (hE : f_X9_addSilo x1 x2 x3 imM inM = some (r', mM', nM')) : CI l yX9_addSilo wsX9_addSilo rm_X9_addSilo D cy [.ref (aM 0), .int x1, .int x2, .int x3] (W_M cy aM imM inM) 0 0 r' (W_M cy aM mM' nM') := by
  refine CQ_of (cc := cX9_addSilo) (maxL := 5) (ret := (some .int)) (by decide) rfl (Nat.le_of_ble_eq_true rfl) (fun p e s m args below meth c A ls hx hb hr hml hlocks hnm hown hts hA hK hN hP hD hS hl => ?_)
  have hown : s.vm.findClass RX9 = some m.cls := hown
  have hl : lv_has ls 5 [(0, .ref (aM 0)), (1, .int x1), (2, .int x2), (3, .int x3)] := hl
  have hC : CallFix p m c cX9_addSilo 5 s args wsX9_addSilo RX9 := ⟨hx, hb, hml, hown, hts⟩
  have f7 : (Cond.fieldLink RX9 7 "IcePlantModel" "w" "[J").before args s = true := hts _ (mC qf_X9_7)
  have f43 : (Cond.fieldLink RX9 43 "IcePlantModel" "thrown" "I").before args s = true := hts _ (mC qf_X9_43)
  have iX9 : ∀ w ∈ wsX90, w ∈ wsX9_addSilo := fun w h => mC (iA_X9 w h)
  have k54 : (Cond.constantLong RX9 54 (30)).before args s = true := hts _ (mC qk_X9_54)
  have k56 : (Cond.constantLong RX9 56 (3)).before args s = true := hts _ (mC qk_X9_56)
  have k58 : (Cond.constantLong RX9 58 (100)).before args s = true := hts _ (mC qk_X9_58)
  have k64 : (Cond.constantLong RX9 64 (5)).before args s = true := hts _ (mC qk_X9_64)
  have h41 : ∀ (mM : Mem) (nM : MemL), ∀  (H : Heap) (locs : List Loc) (ls : Array Slot), f_X9_addSilo_b41 mM nM = some (r', mM', nM') → va_P D vwCl (W_M cy aM mM nM) H → va_D A (W_M cy aM mM nM) → va_S A s.heap H locs → lv_has ls 5 [(0, .ref (aM 0))] → W p l e rm_X9_addSilo s m args below meth c H locs 0 0 (MQ below (QI D cy r' (W_M cy aM mM' nM') A) args s 0 0 A) (F0 m 41 ls []) := by
    intro mM nM H locs ls hE hP hD hS hl
    replace hE : (bd2 (f_X9_refuse (1 : Int32) mM nM) fun r_1 mM_2 => some (r_1, mM_2, nM)) = some (r', mM', nM') := hE
    refine lv_aload_n hx hb dX9_addSilo_41 rfl (lv_at hl 0 rfl) ?_
    refine lv_iconst (v := 1) hx hb dX9_addSilo_42 (by decide) ?_
    obtain ⟨r_1, mM_2, hc_3, hE⟩ := bd2_el hE
    refine ki (X := []) (Y := []) (ws1 := (W_M cy aM mM_2 nM)) (rV (X := []) (Y := []) (As := [.int (1 : Int32)]) (rest := []) hC (c_X9_refuse l D cy aM (1 : Int32) mM nM r_1 mM_2 hc_3) (cwV 1 hts gX9_addSilo_X9_refuse rfl rfl rfl cd_X9_refuse ⟨Nat.le_of_ble_eq_true rfl, Nat.le_of_ble_eq_true rfl⟩) hK hN hP hD hS hA rfl 0 9 rfl rfl rfl hl.1 rfl (lv_room (Nat.le_of_ble_eq_true rfl)) dX9_addSilo_43 ⟨Nat.le_of_ble_eq_true rfl, Nat.le_of_ble_eq_true rfl⟩) hP hD hS hA rfl rfl rfl (fun H locs hP hD hS => ?_)
    have hE := Option.some.inj hE
    obtain ⟨q0, hE⟩ := Prod.mk.inj hE
    obtain ⟨q1, q2⟩ := Prod.mk.inj hE
    exact ei hx hb hr hlocks hK hP hD hS q0 (by rw [q1, q2]) dX9_addSilo_46
  unfold f_X9_addSilo at hE
  refine lv_aload_n hx hb dX9_addSilo_0 rfl (lv_at hl 0 rfl) ?_
  refine lv_iconst (v := 0) hx hb dX9_addSilo_1 (by decide) ?_
  obtain ⟨mM_4, e_mM_4, hE⟩ := lt_el hE
  refine s_pf (own := RX9) (C := RX9) (T := TX9) (N := 13) (ci := 9) (ws1 := (W_M cy aM mM_4 inM)) hx hb hts iX9 tyX9 tyX9_ok nmX9 hown hK hP hD hS 0 rfl rfl 8 (by decide) f43 rfl rfl rfl rfl (Nat.le_of_ble_eq_true rfl) (by rw [e_mM_4]; rfl) dX9_addSilo_2 (fun H locs hP hD hS => ?_)
  refine lv_iload_n hx hb dX9_addSilo_5 rfl (lv_at hl 1 rfl) ?_
  refine lv_i2l hx hb dX9_addSilo_6 rfl ?_
  refine lv_lconst (v := 1) hx hb dX9_addSilo_7 (by decide) ?_
  refine lv_ldc2 hx hb hown k54 dX9_addSilo_8 ?_
  obtain ⟨r_5, hc_6, hE⟩ := bd1_el hE
  refine ki (X := []) (Y := (W_M cy aM mM_4 inM)) (ws1 := (W_M cy aM mM_4 inM)) (rS (X := []) (Y := (W_M cy aM mM_4 inM)) (As := [.long (x1.toInt64), .long (1 : Int64), .long (30 : Int64)]) (rest := []) hC (c_X9_in l D cy (x1.toInt64) (1 : Int64) (30 : Int64) r_5 hc_6) (cwS 3 hts gX9_addSilo_X9_in rfl rfl rfl cd_X9_in ⟨Nat.le_of_ble_eq_true rfl, Nat.le_of_ble_eq_true rfl⟩) hK hN hP hD hS hA rfl rfl hl.1 rfl (lv_room (Nat.le_of_ble_eq_true rfl)) dX9_addSilo_11 ⟨Nat.le_of_ble_eq_true rfl, Nat.le_of_ble_eq_true rfl⟩) hP hD hS hA rfl rfl rfl (fun H locs hP hD hS => ?_)
  refine lv_if_eq (tgt := 41) hx hb dX9_addSilo_14 (by decide) (fun c_7 => ?_) (fun c_7 => ?_)
  · replace hE := it_t hE c_7
    exact h41 mM_4 inM _ _ _ hE hP hD hS (lv_sub hl [0] rfl)
  · replace hE := it_f hE c_7
    refine lv_iload_n hx hb dX9_addSilo_17 rfl (lv_at hl 2 rfl) ?_
    refine lv_i2l hx hb dX9_addSilo_18 rfl ?_
    refine lv_lconst (v := 0) hx hb dX9_addSilo_19 (by decide) ?_
    refine lv_ldc2 hx hb hown k56 dX9_addSilo_20 ?_
    obtain ⟨r_8, hc_9, hE⟩ := bd1_el hE
    refine ki (X := []) (Y := (W_M cy aM mM_4 inM)) (ws1 := (W_M cy aM mM_4 inM)) (rS (X := []) (Y := (W_M cy aM mM_4 inM)) (As := [.long (x2.toInt64), .long (0 : Int64), .long (3 : Int64)]) (rest := []) hC (c_X9_in l D cy (x2.toInt64) (0 : Int64) (3 : Int64) r_8 hc_9) (cwS 3 hts gX9_addSilo_X9_in rfl rfl rfl cd_X9_in ⟨Nat.le_of_ble_eq_true rfl, Nat.le_of_ble_eq_true rfl⟩) hK hN hP hD hS hA rfl rfl hl.1 rfl (lv_room (Nat.le_of_ble_eq_true rfl)) dX9_addSilo_23 ⟨Nat.le_of_ble_eq_true rfl, Nat.le_of_ble_eq_true rfl⟩) hP hD hS hA rfl rfl rfl (fun H locs hP hD hS => ?_)
    refine lv_if_eq (tgt := 41) hx hb dX9_addSilo_26 (by decide) (fun c_10 => ?_) (fun c_10 => ?_)
    · replace hE := it_t hE c_10
      exact h41 mM_4 inM _ _ _ hE hP hD hS (lv_sub hl [0] rfl)
    · replace hE := it_f hE c_10
      refine lv_iload_n hx hb dX9_addSilo_29 rfl (lv_at hl 3 rfl) ?_
      refine lv_i2l hx hb dX9_addSilo_30 rfl ?_
      refine lv_lconst (v := 0) hx hb dX9_addSilo_31 (by decide) ?_
      refine lv_ldc2 hx hb hown k58 dX9_addSilo_32 ?_
      obtain ⟨r_11, hc_12, hE⟩ := bd1_el hE
      refine ki (X := []) (Y := (W_M cy aM mM_4 inM)) (ws1 := (W_M cy aM mM_4 inM)) (rS (X := []) (Y := (W_M cy aM mM_4 inM)) (As := [.long (x3.toInt64), .long (0 : Int64), .long (100 : Int64)]) (rest := []) hC (c_X9_in l D cy (x3.toInt64) (0 : Int64) (100 : Int64) r_11 hc_12) (cwS 3 hts gX9_addSilo_X9_in rfl rfl rfl cd_X9_in ⟨Nat.le_of_ble_eq_true rfl, Nat.le_of_ble_eq_true rfl⟩) hK hN hP hD hS hA rfl rfl hl.1 rfl (lv_room (Nat.le_of_ble_eq_true rfl)) dX9_addSilo_35 ⟨Nat.le_of_ble_eq_true rfl, Nat.le_of_ble_eq_true rfl⟩) hP hD hS hA rfl rfl rfl (fun H locs hP hD hS => ?_)
      refine lv_if_ne (tgt := 47) hx hb dX9_addSilo_38 (by decide) (fun c_13 => ?_) (fun c_13 => ?_)
      · replace hE := it_f hE c_13
        refine lv_aload_n hx hb dX9_addSilo_47 rfl (lv_at hl 0 rfl) ?_
        refine va_get (D := D) (ci := 9) (v := .ref (aM 1)) (C := RX9) (T := TX9) (N := 13) hx hb hts iX9 hown hK hP 0 rfl rfl 0 (by decide) f7 (fun _ h9 => h9) rfl dX9_addSilo_48 ?_
        refine lv_sipush (v := 1880) hx hb dX9_addSilo_51 (by decide) ?_
        refine va_lald hx hb hK hP 1 1 rfl rfl (show ¬ ((1880 : Int32) < 0 ∨ 1888 ≤ (1880 : Int32).toNatClampNeg) by decide) dX9_addSilo_54 ?_
        refine lv_ldc2 hx hb hown k64 dX9_addSilo_55 ?_
        refine W.lcmp hx hb dX9_addSilo_58 ?_
        refine lv_if_ne (tgt := 68) hx hb dX9_addSilo_59 (by decide) (fun c_14 => ?_) (fun c_14 => ?_)
        · replace hE := it_f hE c_14
          refine lv_aload_n hx hb dX9_addSilo_68 rfl (lv_at hl 0 rfl) ?_
          obtain ⟨mM_15, nM_16, hc_17, hE⟩ := bd2_el hE
          refine kv (X := []) (Y := []) (ws1 := (W_M cy aM mM_15 nM_16)) (rV (X := []) (Y := []) (As := []) (rest := []) hC (c_X9_save l D cy aM mM_4 inM mM_15 nM_16 hc_17) (cwV 0 hts gX9_addSilo_X9_save rfl rfl rfl cd_X9_save ⟨Nat.le_of_ble_eq_true rfl, Nat.le_of_ble_eq_true rfl⟩) hK hN hP hD hS hA rfl 0 9 rfl rfl rfl hl.1 rfl (lv_room (Nat.le_of_ble_eq_true rfl)) dX9_addSilo_69 ⟨Nat.le_of_ble_eq_true rfl, Nat.le_of_ble_eq_true rfl⟩) hP hD hS hA rfl rfl rfl (fun H locs hP hD hS => ?_)
          refine lv_aload_n hx hb dX9_addSilo_72 rfl (lv_at hl 0 rfl) ?_
          refine va_get (D := D) (ci := 9) (v := .ref (aM 1)) (C := RX9) (T := TX9) (N := 13) hx hb hts iX9 hown hK hP 0 rfl rfl 0 (by decide) f7 (fun _ h9 => h9) rfl dX9_addSilo_73 ?_
          refine lv_sipush (v := 1880) hx hb dX9_addSilo_76 (by decide) ?_
          refine va_lald hx hb hK hP 1 1 rfl rfl (show ¬ ((1880 : Int32) < 0 ∨ 1888 ≤ (1880 : Int32).toNatClampNeg) by decide) dX9_addSilo_79 ?_
          refine lv_l2i hx hb dX9_addSilo_80 rfl ?_
          obtain ⟨x4_18, e_x4_18, hE⟩ := lt_el hE
          refine s_nm e_x4_18 ?_
          refine lv_istore (lv' := [(4, .int x4_18), (0, .ref (aM 0)), (1, .int x1), (2, .int x2), (3, .int x3)]) hx hb dX9_addSilo_81 hl (by decide) rfl (fun ls hl => ?_)
          refine lv_aload_n hx hb dX9_addSilo_83 rfl (lv_at hl 1 rfl) ?_
          refine va_get (D := D) (ci := 9) (v := .ref (aM 1)) (C := RX9) (T := TX9) (N := 13) hx hb hts iX9 hown hK hP 0 rfl rfl 0 (by decide) f7 (fun _ h9 => h9) rfl dX9_addSilo_84 ?_
          refine lv_bipush (v := 32) hx hb dX9_addSilo_87 (by decide) ?_
          refine lv_iload hx hb dX9_addSilo_89 (lv_at hl 0 rfl) ?_
          refine lv_iadd hx hb dX9_addSilo_91 ?_
          refine lv_iload_n hx hb dX9_addSilo_92 rfl (lv_at hl 2 rfl) ?_
          refine lv_i2l hx hb dX9_addSilo_93 rfl ?_
          obtain ⟨g_20, hE⟩ := gi_el hE
          obtain ⟨nM_19, e_nM_19, hE⟩ := lt_el hE
          refine s_la (ws1 := (W_M cy aM mM_15 nM_19)) hx hb hK hP hD hS 1 rfl g_20 (by rw [e_nM_19]; rfl) dX9_addSilo_94 (fun H locs hP hD hS => ?_)
          refine lv_aload_n hx hb dX9_addSilo_95 rfl (lv_at hl 1 rfl) ?_
          refine va_get (D := D) (ci := 9) (v := .ref (aM 1)) (C := RX9) (T := TX9) (N := 13) hx hb hts iX9 hown hK hP 0 rfl rfl 0 (by decide) f7 (fun _ h9 => h9) rfl dX9_addSilo_96 ?_
          refine lv_bipush (v := 37) hx hb dX9_addSilo_99 (by decide) ?_
          refine lv_iload hx hb dX9_addSilo_101 (lv_at hl 0 rfl) ?_
          refine lv_iadd hx hb dX9_addSilo_103 ?_
          refine lv_iload_n hx hb dX9_addSilo_104 rfl (lv_at hl 3 rfl) ?_
          refine lv_i2l hx hb dX9_addSilo_105 rfl ?_
          obtain ⟨g_22, hE⟩ := gi_el hE
          obtain ⟨nM_21, e_nM_21, hE⟩ := lt_el hE
          refine s_la (ws1 := (W_M cy aM mM_15 nM_21)) hx hb hK hP hD hS 1 rfl g_22 (by rw [e_nM_21]; rfl) dX9_addSilo_106 (fun H locs hP hD hS => ?_)
          refine lv_aload_n hx hb dX9_addSilo_107 rfl (lv_at hl 1 rfl) ?_
          refine va_get (D := D) (ci := 9) (v := .ref (aM 1)) (C := RX9) (T := TX9) (N := 13) hx hb hts iX9 hown hK hP 0 rfl rfl 0 (by decide) f7 (fun _ h9 => h9) rfl dX9_addSilo_108 ?_
          refine lv_bipush (v := 42) hx hb dX9_addSilo_111 (by decide) ?_
          refine lv_iload hx hb dX9_addSilo_113 (lv_at hl 0 rfl) ?_
          refine lv_iadd hx hb dX9_addSilo_115 ?_
          refine lv_iload_n hx hb dX9_addSilo_116 rfl (lv_at hl 4 rfl) ?_
          refine lv_i2l hx hb dX9_addSilo_117 rfl ?_
          obtain ⟨g_24, hE⟩ := gi_el hE
          obtain ⟨nM_23, e_nM_23, hE⟩ := lt_el hE
          refine s_la (ws1 := (W_M cy aM mM_15 nM_23)) hx hb hK hP hD hS 1 rfl g_24 (by rw [e_nM_23]; rfl) dX9_addSilo_118 (fun H locs hP hD hS => ?_)
          refine lv_aload_n hx hb dX9_addSilo_119 rfl (lv_at hl 1 rfl) ?_
          refine va_get (D := D) (ci := 9) (v := .ref (aM 1)) (C := RX9) (T := TX9) (N := 13) hx hb hts iX9 hown hK hP 0 rfl rfl 0 (by decide) f7 (fun _ h9 => h9) rfl dX9_addSilo_120 ?_
          refine lv_sipush (v := 1880) hx hb dX9_addSilo_123 (by decide) ?_
          refine lv_dup2_11 hx hb dX9_addSilo_126 rfl rfl ?_
          refine va_lald hx hb hK hP 1 1 rfl rfl (show ¬ ((1880 : Int32) < 0 ∨ 1888 ≤ (1880 : Int32).toNatClampNeg) by decide) dX9_addSilo_127 ?_
          refine lv_lconst (v := 1) hx hb dX9_addSilo_128 (by decide) ?_
          refine lv_ladd hx hb dX9_addSilo_129 ?_
          obtain ⟨nM_25, e_nM_25, hE⟩ := lt_el hE
          refine s_la (ws1 := (W_M cy aM mM_15 nM_25)) hx hb hK hP hD hS 1 rfl (show ¬ ((1880 : Int32) < 0 ∨ 1888 ≤ (1880 : Int32).toNatClampNeg) by decide) (by rw [e_nM_25]; rfl) dX9_addSilo_130 (fun H locs hP hD hS => ?_)
          refine lv_iload hx hb dX9_addSilo_131 (lv_at hl 0 rfl) ?_
          have hE := Option.some.inj hE
          obtain ⟨q0, hE⟩ := Prod.mk.inj hE
          obtain ⟨q1, q2⟩ := Prod.mk.inj hE
          exact ei hx hb hr hlocks hK hP hD hS q0 (by rw [q1, q2]) dX9_addSilo_133
        · replace hE := it_t hE c_14
          refine lv_aload_n hx hb dX9_addSilo_62 rfl (lv_at hl 0 rfl) ?_
          refine lv_iconst (v := 2) hx hb dX9_addSilo_63 (by decide) ?_
          obtain ⟨r_26, mM_27, hc_28, hE⟩ := bd2_el hE
          refine ki (X := []) (Y := []) (ws1 := (W_M cy aM mM_27 inM)) (rV (X := []) (Y := []) (As := [.int (2 : Int32)]) (rest := []) hC (c_X9_refuse l D cy aM (2 : Int32) mM_4 inM r_26 mM_27 hc_28) (cwV 1 hts gX9_addSilo_X9_refuse rfl rfl rfl cd_X9_refuse ⟨Nat.le_of_ble_eq_true rfl, Nat.le_of_ble_eq_true rfl⟩) hK hN hP hD hS hA rfl 0 9 rfl rfl rfl hl.1 rfl (lv_room (Nat.le_of_ble_eq_true rfl)) dX9_addSilo_64 ⟨Nat.le_of_ble_eq_true rfl, Nat.le_of_ble_eq_true rfl⟩) hP hD hS hA rfl rfl rfl (fun H locs hP hD hS => ?_)
          have hE := Option.some.inj hE
          obtain ⟨q0, hE⟩ := Prod.mk.inj hE
          obtain ⟨q1, q2⟩ := Prod.mk.inj hE
          exact ei hx hb hr hlocks hK hP hD hS q0 (by rw [q1, q2]) dX9_addSilo_67
      · replace hE := it_t hE c_13
        exact h41 mM_4 inM _ _ _ hE hP hD hS (lv_sub hl [0] rfl)
abbrev rm_X9_change : Room := { frames := 1, cells := 0, slots := 0, locals := 21 }
set_option maxHeartbeats 40000000 in
set_option maxRecDepth 100000 in
theorem c_X9_change (l : Launch) (D : va_G) (cy : Nat → Nat) (aM : Nat → Nat) (x1 : Int32) (x2 : Int32) (imM : Mem) (inM : MemL) (r' : Int32) (mM' : Mem) (nM' : MemL) (hE : f_X9_change x1 x2 imM inM = some (r', mM', nM')) : CI l yX9_change wsX9_change rm_X9_change D cy [.ref (aM 0), .int x1, .int x2] (W_M cy aM imM inM) 0 0 r' (W_M cy aM mM' nM') := by
  refine CQ_of (cc := cX9_change) (maxL := 4) (ret := (some .int)) (by decide) rfl (Nat.le_of_ble_eq_true rfl) (fun p e s m args below meth c A ls hx hb hr hml hlocks hnm hown hts hA hK hN hP hD hS hl => ?_)
  have hown : s.vm.findClass RX9 = some m.cls := hown
  have hl : lv_has ls 4 [(0, .ref (aM 0)), (1, .int x1), (2, .int x2)] := hl
  have hC : CallFix p m c cX9_change 4 s args wsX9_change RX9 := ⟨hx, hb, hml, hown, hts⟩
  have f7 : (Cond.fieldLink RX9 7 "IcePlantModel" "w" "[J").before args s = true := hts _ (mC qf_X9_7)
  have iX9 : ∀ w ∈ wsX90, w ∈ wsX9_change := fun w h => mC (iA_X9 w h)
  unfold f_X9_change at hE
  refine lv_aload_n hx hb dX9_change_0 rfl (lv_at hl 0 rfl) ?_
  obtain ⟨mM_1, nM_2, hc_3, hE⟩ := bd2_el hE
  refine kv (X := []) (Y := []) (ws1 := (W_M cy aM mM_1 nM_2)) (rV (X := []) (Y := []) (As := []) (rest := []) hC (c_X9_save l D cy aM imM inM mM_1 nM_2 hc_3) (cwV 0 hts gX9_change_X9_save rfl rfl rfl cd_X9_save ⟨Nat.le_of_ble_eq_true rfl, Nat.le_of_ble_eq_true rfl⟩) hK hN hP hD hS hA rfl 0 9 rfl rfl rfl hl.1 rfl (lv_room (Nat.le_of_ble_eq_true rfl)) dX9_change_1 ⟨Nat.le_of_ble_eq_true rfl, Nat.le_of_ble_eq_true rfl⟩) hP hD hS hA rfl rfl rfl (fun H locs hP hD hS => ?_)
  refine lv_aload_n hx hb dX9_change_4 rfl (lv_at hl 0 rfl) ?_
  refine va_get (D := D) (ci := 9) (v := .ref (aM 1)) (C := RX9) (T := TX9) (N := 13) hx hb hts iX9 hown hK hP 0 rfl rfl 0 (by decide) f7 (fun _ h9 => h9) rfl dX9_change_5 ?_
  refine lv_iload_n hx hb dX9_change_8 rfl (lv_at hl 1 rfl) ?_
  obtain ⟨g_4, hE⟩ := gi_el hE
  refine va_lald hx hb hK hP 1 1 rfl rfl g_4 dX9_change_9 ?_
  refine lv_l2i hx hb dX9_change_10 rfl ?_
  obtain ⟨x3_5, e_x3_5, hE⟩ := lt_el hE
  refine s_nm e_x3_5 ?_
  refine lv_istore_n (lv' := [(3, .int x3_5), (0, .ref (aM 0)), (1, .int x1), (2, .int x2)]) hx hb dX9_change_11 rfl hl (by decide) rfl (fun ls hl => ?_)
  refine lv_aload_n hx hb dX9_change_12 rfl (lv_at hl 1 rfl) ?_
  refine va_get (D := D) (ci := 9) (v := .ref (aM 1)) (C := RX9) (T := TX9) (N := 13) hx hb hts iX9 hown hK hP 0 rfl rfl 0 (by decide) f7 (fun _ h9 => h9) rfl dX9_change_13 ?_
  refine lv_iload_n hx hb dX9_change_16 rfl (lv_at hl 2 rfl) ?_
  refine lv_iload_n hx hb dX9_change_17 rfl (lv_at hl 3 rfl) ?_
  refine lv_i2l hx hb dX9_change_18 rfl ?_
  obtain ⟨g_7, hE⟩ := gi_el hE
  obtain ⟨nM_6, e_nM_6, hE⟩ := lt_el hE
  refine s_la (ws1 := (W_M cy aM mM_1 nM_6)) hx hb hK hP hD hS 1 rfl g_7 (by rw [e_nM_6]; rfl) dX9_change_19 (fun H locs hP hD hS => ?_)
  refine lv_iload_n hx hb dX9_change_20 rfl (lv_at hl 0 rfl) ?_
  have hE := Option.some.inj hE
  obtain ⟨q0, hE⟩ := Prod.mk.inj hE
  obtain ⟨q1, q2⟩ := Prod.mk.inj hE
  exact ei hx hb hr hlocks hK hP hD hS q0 (by rw [q1, q2]) dX9_change_21
abbrev rm_X9_setRule : Room := { frames := 2, cells := 0, slots := 0, locals := 46 }
set_option maxHeartbeats 40000000 in
set_option maxRecDepth 100000 in
theorem c_X9_setRule (l : Launch) (D : va_G) (cy : Nat → Nat) (aM : Nat → Nat) (x1 : Int32) (x2 : Int32) (imM : Mem) (inM : MemL) (r' : Int32) (mM' : Mem) (nM' : MemL) (hE : f_X9_setRule x1 x2 imM inM = some (r', mM', nM')) : CI l yX9_setRule wsX9_setRule rm_X9_setRule D cy [.ref (aM 0), .int x1, .int x2] (W_M cy aM imM inM) 0 0 r' (W_M cy aM mM' nM') := by
  refine CQ_of (cc := cX9_setRule) (maxL := 3) (ret := (some .int)) (by decide) rfl (Nat.le_of_ble_eq_true rfl) (fun p e s m args below meth c A ls hx hb hr hml hlocks hnm hown hts hA hK hN hP hD hS hl => ?_)
  have hown : s.vm.findClass RX9 = some m.cls := hown
  have hl : lv_has ls 3 [(0, .ref (aM 0)), (1, .int x1), (2, .int x2)] := hl
  have hC : CallFix p m c cX9_setRule 3 s args wsX9_setRule RX9 := ⟨hx, hb, hml, hown, hts⟩
  have f43 : (Cond.fieldLink RX9 43 "IcePlantModel" "thrown" "I").before args s = true := hts _ (mC qf_X9_43)
  have iX9 : ∀ w ∈ wsX90, w ∈ wsX9_setRule := fun w h => mC (iA_X9 w h)
  have k56 : (Cond.constantLong RX9 56 (3)).before args s = true := hts _ (mC qk_X9_56)
  unfold f_X9_setRule at hE
  refine lv_aload_n hx hb dX9_setRule_0 rfl (lv_at hl 0 rfl) ?_
  refine lv_iconst (v := 0) hx hb dX9_setRule_1 (by decide) ?_
  obtain ⟨mM_1, e_mM_1, hE⟩ := lt_el hE
  refine s_pf (own := RX9) (C := RX9) (T := TX9) (N := 13) (ci := 9) (ws1 := (W_M cy aM mM_1 inM)) hx hb hts iX9 tyX9 tyX9_ok nmX9 hown hK hP hD hS 0 rfl rfl 8 (by decide) f43 rfl rfl rfl rfl (Nat.le_of_ble_eq_true rfl) (by rw [e_mM_1]; rfl) dX9_setRule_2 (fun H locs hP hD hS => ?_)
  refine lv_aload_n hx hb dX9_setRule_5 rfl (lv_at hl 0 rfl) ?_
  refine lv_iload_n hx hb dX9_setRule_6 rfl (lv_at hl 1 rfl) ?_
  obtain ⟨r_2, hc_3, hE⟩ := bd1_el hE
  refine ki (X := []) (Y := []) (ws1 := (W_M cy aM mM_1 inM)) (rV (X := []) (Y := []) (As := [.int x1]) (rest := []) hC (c_X9_isSilo l D cy aM x1 mM_1 inM r_2 hc_3) (cwV 1 hts gX9_setRule_X9_isSilo rfl rfl rfl cd_X9_isSilo ⟨Nat.le_of_ble_eq_true rfl, Nat.le_of_ble_eq_true rfl⟩) hK hN hP hD hS hA rfl 0 9 rfl rfl rfl hl.1 rfl (lv_room (Nat.le_of_ble_eq_true rfl)) dX9_setRule_7 ⟨Nat.le_of_ble_eq_true rfl, Nat.le_of_ble_eq_true rfl⟩) hP hD hS hA rfl rfl rfl (fun H locs hP hD hS => ?_)
  refine lv_if_ne (tgt := 19) hx hb dX9_setRule_10 (by decide) (fun c_4 => ?_) (fun c_4 => ?_)
  · replace hE := it_f hE c_4
    refine lv_iload_n hx hb dX9_setRule_19 rfl (lv_at hl 2 rfl) ?_
    refine lv_i2l hx hb dX9_setRule_20 rfl ?_
    refine lv_lconst (v := 0) hx hb dX9_setRule_21 (by decide) ?_
    refine lv_ldc2 hx hb hown k56 dX9_setRule_22 ?_
    obtain ⟨r_5, hc_6, hE⟩ := bd1_el hE
    refine ki (X := []) (Y := (W_M cy aM mM_1 inM)) (ws1 := (W_M cy aM mM_1 inM)) (rS (X := []) (Y := (W_M cy aM mM_1 inM)) (As := [.long (x2.toInt64), .long (0 : Int64), .long (3 : Int64)]) (rest := []) hC (c_X9_in l D cy (x2.toInt64) (0 : Int64) (3 : Int64) r_5 hc_6) (cwS 3 hts gX9_setRule_X9_in rfl rfl rfl cd_X9_in ⟨Nat.le_of_ble_eq_true rfl, Nat.le_of_ble_eq_true rfl⟩) hK hN hP hD hS hA rfl rfl hl.1 rfl (lv_room (Nat.le_of_ble_eq_true rfl)) dX9_setRule_25 ⟨Nat.le_of_ble_eq_true rfl, Nat.le_of_ble_eq_true rfl⟩) hP hD hS hA rfl rfl rfl (fun H locs hP hD hS => ?_)
    refine lv_if_eq (tgt := 43) hx hb dX9_setRule_28 (by decide) (fun c_7 => ?_) (fun c_7 => ?_)
    · replace hE := it_t hE c_7
      refine lv_aload_n hx hb dX9_setRule_43 rfl (lv_at hl 0 rfl) ?_
      refine lv_iconst (v := 2) hx hb dX9_setRule_44 (by decide) ?_
      obtain ⟨r_8, mM_9, hc_10, hE⟩ := bd2_el hE
      refine ki (X := []) (Y := []) (ws1 := (W_M cy aM mM_9 inM)) (rV (X := []) (Y := []) (As := [.int (2 : Int32)]) (rest := []) hC (c_X9_refuse l D cy aM (2 : Int32) mM_1 inM r_8 mM_9 hc_10) (cwV 1 hts gX9_setRule_X9_refuse rfl rfl rfl cd_X9_refuse ⟨Nat.le_of_ble_eq_true rfl, Nat.le_of_ble_eq_true rfl⟩) hK hN hP hD hS hA rfl 0 9 rfl rfl rfl hl.1 rfl (lv_room (Nat.le_of_ble_eq_true rfl)) dX9_setRule_45 ⟨Nat.le_of_ble_eq_true rfl, Nat.le_of_ble_eq_true rfl⟩) hP hD hS hA rfl rfl rfl (fun H locs hP hD hS => ?_)
      have hE := Option.some.inj hE
      obtain ⟨q0, hE⟩ := Prod.mk.inj hE
      obtain ⟨q1, q2⟩ := Prod.mk.inj hE
      exact ei hx hb hr hlocks hK hP hD hS q0 (by rw [q1, q2]) dX9_setRule_48
    · replace hE := it_f hE c_7
      refine lv_aload_n hx hb dX9_setRule_31 rfl (lv_at hl 0 rfl) ?_
      refine lv_bipush (v := 37) hx hb dX9_setRule_32 (by decide) ?_
      refine lv_iload_n hx hb dX9_setRule_34 rfl (lv_at hl 1 rfl) ?_
      refine lv_iadd hx hb dX9_setRule_35 ?_
      refine lv_iload_n hx hb dX9_setRule_36 rfl (lv_at hl 2 rfl) ?_
      obtain ⟨r_11, mM_12, nM_13, hc_14, hE⟩ := bd3_el hE
      refine ki (X := []) (Y := []) (ws1 := (W_M cy aM mM_12 nM_13)) (rV (X := []) (Y := []) (As := [.int ((37 : Int32) + x1), .int x2]) (rest := []) hC (c_X9_change l D cy aM ((37 : Int32) + x1) x2 mM_1 inM r_11 mM_12 nM_13 hc_14) (cwV 2 hts gX9_setRule_X9_change rfl rfl rfl cd_X9_change ⟨Nat.le_of_ble_eq_true rfl, Nat.le_of_ble_eq_true rfl⟩) hK hN hP hD hS hA rfl 0 9 rfl rfl rfl hl.1 rfl (lv_room (Nat.le_of_ble_eq_true rfl)) dX9_setRule_37 ⟨Nat.le_of_ble_eq_true rfl, Nat.le_of_ble_eq_true rfl⟩) hP hD hS hA rfl rfl rfl (fun H locs hP hD hS => ?_)
      refine lv_goto (tgt := 48) hx hb dX9_setRule_40 (by decide) ?_
      have hE := Option.some.inj hE
      obtain ⟨q0, hE⟩ := Prod.mk.inj hE
      obtain ⟨q1, q2⟩ := Prod.mk.inj hE
      exact ei hx hb hr hlocks hK hP hD hS q0 (by rw [q1, q2]) dX9_setRule_48
  · replace hE := it_t hE c_4
    refine lv_aload_n hx hb dX9_setRule_13 rfl (lv_at hl 0 rfl) ?_
    refine lv_iconst (v := 1) hx hb dX9_setRule_14 (by decide) ?_
    obtain ⟨r_15, mM_16, hc_17, hE⟩ := bd2_el hE
    refine ki (X := []) (Y := []) (ws1 := (W_M cy aM mM_16 inM)) (rV (X := []) (Y := []) (As := [.int (1 : Int32)]) (rest := []) hC (c_X9_refuse l D cy aM (1 : Int32) mM_1 inM r_15 mM_16 hc_17) (cwV 1 hts gX9_setRule_X9_refuse rfl rfl rfl cd_X9_refuse ⟨Nat.le_of_ble_eq_true rfl, Nat.le_of_ble_eq_true rfl⟩) hK hN hP hD hS hA rfl 0 9 rfl rfl rfl hl.1 rfl (lv_room (Nat.le_of_ble_eq_true rfl)) dX9_setRule_15 ⟨Nat.le_of_ble_eq_true rfl, Nat.le_of_ble_eq_true rfl⟩) hP hD hS hA rfl rfl rfl (fun H locs hP hD hS => ?_)
    have hE := Option.some.inj hE
    obtain ⟨q0, hE⟩ := Prod.mk.inj hE
    obtain ⟨q1, q2⟩ := Prod.mk.inj hE
    exact ei hx hb hr hlocks hK hP hD hS q0 (by rw [q1, q2]) dX9_setRule_18
abbrev rm_X9_setStrength : Room := { frames := 2, cells := 0, slots := 0, locals := 46 }
set_option maxHeartbeats 40000000 in
set_option maxRecDepth 100000 in
theorem c_X9_setStrength (l : Launch) (D : va_G) (cy : Nat → Nat) (aM : Nat → Nat) (x1 : Int32) (x2 : Int32) (imM : Mem) (inM : MemL) (r' : Int32) (mM' : Mem) (nM' : MemL) (hE : f_X9_setStrength x1 x2 imM inM = some (r', mM', nM')) : CI l yX9_setStrength wsX9_setStrength rm_X9_setStrength D cy [.ref (aM 0), .int x1, .int x2] (W_M cy aM imM inM) 0 0 r' (W_M cy aM mM' nM') := by
  refine CQ_of (cc := cX9_setStrength) (maxL := 3) (ret := (some .int)) (by decide) rfl (Nat.le_of_ble_eq_true rfl) (fun p e s m args below meth c A ls hx hb hr hml hlocks hnm hown hts hA hK hN hP hD hS hl => ?_)
  have hown : s.vm.findClass RX9 = some m.cls := hown
  have hl : lv_has ls 3 [(0, .ref (aM 0)), (1, .int x1), (2, .int x2)] := hl
  have hC : CallFix p m c cX9_setStrength 3 s args wsX9_setStrength RX9 := ⟨hx, hb, hml, hown, hts⟩
  have f43 : (Cond.fieldLink RX9 43 "IcePlantModel" "thrown" "I").before args s = true := hts _ (mC qf_X9_43)
  have iX9 : ∀ w ∈ wsX90, w ∈ wsX9_setStrength := fun w h => mC (iA_X9 w h)
  have k58 : (Cond.constantLong RX9 58 (100)).before args s = true := hts _ (mC qk_X9_58)
  unfold f_X9_setStrength at hE
  refine lv_aload_n hx hb dX9_setStrength_0 rfl (lv_at hl 0 rfl) ?_
  refine lv_iconst (v := 0) hx hb dX9_setStrength_1 (by decide) ?_
  obtain ⟨mM_1, e_mM_1, hE⟩ := lt_el hE
  refine s_pf (own := RX9) (C := RX9) (T := TX9) (N := 13) (ci := 9) (ws1 := (W_M cy aM mM_1 inM)) hx hb hts iX9 tyX9 tyX9_ok nmX9 hown hK hP hD hS 0 rfl rfl 8 (by decide) f43 rfl rfl rfl rfl (Nat.le_of_ble_eq_true rfl) (by rw [e_mM_1]; rfl) dX9_setStrength_2 (fun H locs hP hD hS => ?_)
  refine lv_aload_n hx hb dX9_setStrength_5 rfl (lv_at hl 0 rfl) ?_
  refine lv_iload_n hx hb dX9_setStrength_6 rfl (lv_at hl 1 rfl) ?_
  obtain ⟨r_2, hc_3, hE⟩ := bd1_el hE
  refine ki (X := []) (Y := []) (ws1 := (W_M cy aM mM_1 inM)) (rV (X := []) (Y := []) (As := [.int x1]) (rest := []) hC (c_X9_isSilo l D cy aM x1 mM_1 inM r_2 hc_3) (cwV 1 hts gX9_setStrength_X9_isSilo rfl rfl rfl cd_X9_isSilo ⟨Nat.le_of_ble_eq_true rfl, Nat.le_of_ble_eq_true rfl⟩) hK hN hP hD hS hA rfl 0 9 rfl rfl rfl hl.1 rfl (lv_room (Nat.le_of_ble_eq_true rfl)) dX9_setStrength_7 ⟨Nat.le_of_ble_eq_true rfl, Nat.le_of_ble_eq_true rfl⟩) hP hD hS hA rfl rfl rfl (fun H locs hP hD hS => ?_)
  refine lv_if_ne (tgt := 19) hx hb dX9_setStrength_10 (by decide) (fun c_4 => ?_) (fun c_4 => ?_)
  · replace hE := it_f hE c_4
    refine lv_iload_n hx hb dX9_setStrength_19 rfl (lv_at hl 2 rfl) ?_
    refine lv_i2l hx hb dX9_setStrength_20 rfl ?_
    refine lv_lconst (v := 0) hx hb dX9_setStrength_21 (by decide) ?_
    refine lv_ldc2 hx hb hown k58 dX9_setStrength_22 ?_
    obtain ⟨r_5, hc_6, hE⟩ := bd1_el hE
    refine ki (X := []) (Y := (W_M cy aM mM_1 inM)) (ws1 := (W_M cy aM mM_1 inM)) (rS (X := []) (Y := (W_M cy aM mM_1 inM)) (As := [.long (x2.toInt64), .long (0 : Int64), .long (100 : Int64)]) (rest := []) hC (c_X9_in l D cy (x2.toInt64) (0 : Int64) (100 : Int64) r_5 hc_6) (cwS 3 hts gX9_setStrength_X9_in rfl rfl rfl cd_X9_in ⟨Nat.le_of_ble_eq_true rfl, Nat.le_of_ble_eq_true rfl⟩) hK hN hP hD hS hA rfl rfl hl.1 rfl (lv_room (Nat.le_of_ble_eq_true rfl)) dX9_setStrength_25 ⟨Nat.le_of_ble_eq_true rfl, Nat.le_of_ble_eq_true rfl⟩) hP hD hS hA rfl rfl rfl (fun H locs hP hD hS => ?_)
    refine lv_if_eq (tgt := 43) hx hb dX9_setStrength_28 (by decide) (fun c_7 => ?_) (fun c_7 => ?_)
    · replace hE := it_t hE c_7
      refine lv_aload_n hx hb dX9_setStrength_43 rfl (lv_at hl 0 rfl) ?_
      refine lv_iconst (v := 2) hx hb dX9_setStrength_44 (by decide) ?_
      obtain ⟨r_8, mM_9, hc_10, hE⟩ := bd2_el hE
      refine ki (X := []) (Y := []) (ws1 := (W_M cy aM mM_9 inM)) (rV (X := []) (Y := []) (As := [.int (2 : Int32)]) (rest := []) hC (c_X9_refuse l D cy aM (2 : Int32) mM_1 inM r_8 mM_9 hc_10) (cwV 1 hts gX9_setStrength_X9_refuse rfl rfl rfl cd_X9_refuse ⟨Nat.le_of_ble_eq_true rfl, Nat.le_of_ble_eq_true rfl⟩) hK hN hP hD hS hA rfl 0 9 rfl rfl rfl hl.1 rfl (lv_room (Nat.le_of_ble_eq_true rfl)) dX9_setStrength_45 ⟨Nat.le_of_ble_eq_true rfl, Nat.le_of_ble_eq_true rfl⟩) hP hD hS hA rfl rfl rfl (fun H locs hP hD hS => ?_)
      have hE := Option.some.inj hE
      obtain ⟨q0, hE⟩ := Prod.mk.inj hE
      obtain ⟨q1, q2⟩ := Prod.mk.inj hE
      exact ei hx hb hr hlocks hK hP hD hS q0 (by rw [q1, q2]) dX9_setStrength_48
    · replace hE := it_f hE c_7
      refine lv_aload_n hx hb dX9_setStrength_31 rfl (lv_at hl 0 rfl) ?_
      refine lv_bipush (v := 42) hx hb dX9_setStrength_32 (by decide) ?_
      refine lv_iload_n hx hb dX9_setStrength_34 rfl (lv_at hl 1 rfl) ?_
      refine lv_iadd hx hb dX9_setStrength_35 ?_
      refine lv_iload_n hx hb dX9_setStrength_36 rfl (lv_at hl 2 rfl) ?_
      obtain ⟨r_11, mM_12, nM_13, hc_14, hE⟩ := bd3_el hE
      refine ki (X := []) (Y := []) (ws1 := (W_M cy aM mM_12 nM_13)) (rV (X := []) (Y := []) (As := [.int ((42 : Int32) + x1), .int x2]) (rest := []) hC (c_X9_change l D cy aM ((42 : Int32) + x1) x2 mM_1 inM r_11 mM_12 nM_13 hc_14) (cwV 2 hts gX9_setStrength_X9_change rfl rfl rfl cd_X9_change ⟨Nat.le_of_ble_eq_true rfl, Nat.le_of_ble_eq_true rfl⟩) hK hN hP hD hS hA rfl 0 9 rfl rfl rfl hl.1 rfl (lv_room (Nat.le_of_ble_eq_true rfl)) dX9_setStrength_37 ⟨Nat.le_of_ble_eq_true rfl, Nat.le_of_ble_eq_true rfl⟩) hP hD hS hA rfl rfl rfl (fun H locs hP hD hS => ?_)
      refine lv_goto (tgt := 48) hx hb dX9_setStrength_40 (by decide) ?_
      have hE := Option.some.inj hE
      obtain ⟨q0, hE⟩ := Prod.mk.inj hE
      obtain ⟨q1, q2⟩ := Prod.mk.inj hE
      exact ei hx hb hr hlocks hK hP hD hS q0 (by rw [q1, q2]) dX9_setStrength_48
  · replace hE := it_t hE c_4
    refine lv_aload_n hx hb dX9_setStrength_13 rfl (lv_at hl 0 rfl) ?_
    refine lv_iconst (v := 1) hx hb dX9_setStrength_14 (by decide) ?_
    obtain ⟨r_15, mM_16, hc_17, hE⟩ := bd2_el hE
    refine ki (X := []) (Y := []) (ws1 := (W_M cy aM mM_16 inM)) (rV (X := []) (Y := []) (As := [.int (1 : Int32)]) (rest := []) hC (c_X9_refuse l D cy aM (1 : Int32) mM_1 inM r_15 mM_16 hc_17) (cwV 1 hts gX9_setStrength_X9_refuse rfl rfl rfl cd_X9_refuse ⟨Nat.le_of_ble_eq_true rfl, Nat.le_of_ble_eq_true rfl⟩) hK hN hP hD hS hA rfl 0 9 rfl rfl rfl hl.1 rfl (lv_room (Nat.le_of_ble_eq_true rfl)) dX9_setStrength_15 ⟨Nat.le_of_ble_eq_true rfl, Nat.le_of_ble_eq_true rfl⟩) hP hD hS hA rfl rfl rfl (fun H locs hP hD hS => ?_)
    have hE := Option.some.inj hE
    obtain ⟨q0, hE⟩ := Prod.mk.inj hE
    obtain ⟨q1, q2⟩ := Prod.mk.inj hE
    exact ei hx hb hr hlocks hK hP hD hS q0 (by rw [q1, q2]) dX9_setStrength_18
abbrev rm_X9_setTemperature : Room := { frames := 2, cells := 0, slots := 0, locals := 44 }
set_option maxHeartbeats 40000000 in
set_option maxRecDepth 100000 in
theorem c_X9_setTemperature (l : Launch) (D : va_G) (cy : Nat → Nat) (aM : Nat → Nat) (x1 : Int32) (x2 : Int32) (imM : Mem) (inM : MemL) (r' : Int32) (mM' : Mem) (nM' : MemL) (hE : f_X9_setTemperature x1 x2 imM inM = some (r', mM', nM')) : CI l yX9_setTemperature wsX9_setTemperature rm_X9_setTemperature D cy [.ref (aM 0), .int x1, .int x2] (W_M cy aM imM inM) 0 0 r' (W_M cy aM mM' nM') := by
  refine CQ_of (cc := cX9_setTemperature) (maxL := 3) (ret := (some .int)) (by decide) rfl (Nat.le_of_ble_eq_true rfl) (fun p e s m args below meth c A ls hx hb hr hml hlocks hnm hown hts hA hK hN hP hD hS hl => ?_)
  have hown : s.vm.findClass RX9 = some m.cls := hown
  have hl : lv_has ls 3 [(0, .ref (aM 0)), (1, .int x1), (2, .int x2)] := hl
  have hC : CallFix p m c cX9_setTemperature 3 s args wsX9_setTemperature RX9 := ⟨hx, hb, hml, hown, hts⟩
  have f43 : (Cond.fieldLink RX9 43 "IcePlantModel" "thrown" "I").before args s = true := hts _ (mC qf_X9_43)
  have iX9 : ∀ w ∈ wsX90, w ∈ wsX9_setTemperature := fun w h => mC (iA_X9 w h)
  have k77 : (Cond.constantLong RX9 77 (23)).before args s = true := hts _ (mC qk_X9_77)
  have k79 : (Cond.constantLong RX9 79 (-20)).before args s = true := hts _ (mC qk_X9_79)
  have k81 : (Cond.constantLong RX9 81 (45)).before args s = true := hts _ (mC qk_X9_81)
  unfold f_X9_setTemperature at hE
  refine lv_aload_n hx hb dX9_setTemperature_0 rfl (lv_at hl 0 rfl) ?_
  refine lv_iconst (v := 0) hx hb dX9_setTemperature_1 (by decide) ?_
  obtain ⟨mM_1, e_mM_1, hE⟩ := lt_el hE
  refine s_pf (own := RX9) (C := RX9) (T := TX9) (N := 13) (ci := 9) (ws1 := (W_M cy aM mM_1 inM)) hx hb hts iX9 tyX9 tyX9_ok nmX9 hown hK hP hD hS 0 rfl rfl 8 (by decide) f43 rfl rfl rfl rfl (Nat.le_of_ble_eq_true rfl) (by rw [e_mM_1]; rfl) dX9_setTemperature_2 (fun H locs hP hD hS => ?_)
  refine lv_iload_n hx hb dX9_setTemperature_5 rfl (lv_at hl 1 rfl) ?_
  refine lv_i2l hx hb dX9_setTemperature_6 rfl ?_
  refine lv_lconst (v := 0) hx hb dX9_setTemperature_7 (by decide) ?_
  refine lv_ldc2 hx hb hown k77 dX9_setTemperature_8 ?_
  obtain ⟨r_2, hc_3, hE⟩ := bd1_el hE
  refine ki (X := []) (Y := (W_M cy aM mM_1 inM)) (ws1 := (W_M cy aM mM_1 inM)) (rS (X := []) (Y := (W_M cy aM mM_1 inM)) (As := [.long (x1.toInt64), .long (0 : Int64), .long (23 : Int64)]) (rest := []) hC (c_X9_in l D cy (x1.toInt64) (0 : Int64) (23 : Int64) r_2 hc_3) (cwS 3 hts gX9_setTemperature_X9_in rfl rfl rfl cd_X9_in ⟨Nat.le_of_ble_eq_true rfl, Nat.le_of_ble_eq_true rfl⟩) hK hN hP hD hS hA rfl rfl hl.1 rfl (lv_room (Nat.le_of_ble_eq_true rfl)) dX9_setTemperature_11 ⟨Nat.le_of_ble_eq_true rfl, Nat.le_of_ble_eq_true rfl⟩) hP hD hS hA rfl rfl rfl (fun H locs hP hD hS => ?_)
  refine lv_if_ne (tgt := 23) hx hb dX9_setTemperature_14 (by decide) (fun c_4 => ?_) (fun c_4 => ?_)
  · replace hE := it_f hE c_4
    refine lv_iload_n hx hb dX9_setTemperature_23 rfl (lv_at hl 2 rfl) ?_
    refine lv_i2l hx hb dX9_setTemperature_24 rfl ?_
    refine lv_ldc2 hx hb hown k79 dX9_setTemperature_25 ?_
    refine lv_ldc2 hx hb hown k81 dX9_setTemperature_28 ?_
    obtain ⟨r_5, hc_6, hE⟩ := bd1_el hE
    refine ki (X := []) (Y := (W_M cy aM mM_1 inM)) (ws1 := (W_M cy aM mM_1 inM)) (rS (X := []) (Y := (W_M cy aM mM_1 inM)) (As := [.long (x2.toInt64), .long (-20 : Int64), .long (45 : Int64)]) (rest := []) hC (c_X9_in l D cy (x2.toInt64) (-20 : Int64) (45 : Int64) r_5 hc_6) (cwS 3 hts gX9_setTemperature_X9_in rfl rfl rfl cd_X9_in ⟨Nat.le_of_ble_eq_true rfl, Nat.le_of_ble_eq_true rfl⟩) hK hN hP hD hS hA rfl rfl hl.1 rfl (lv_room (Nat.le_of_ble_eq_true rfl)) dX9_setTemperature_31 ⟨Nat.le_of_ble_eq_true rfl, Nat.le_of_ble_eq_true rfl⟩) hP hD hS hA rfl rfl rfl (fun H locs hP hD hS => ?_)
    refine lv_if_eq (tgt := 49) hx hb dX9_setTemperature_34 (by decide) (fun c_7 => ?_) (fun c_7 => ?_)
    · replace hE := it_t hE c_7
      refine lv_aload_n hx hb dX9_setTemperature_49 rfl (lv_at hl 0 rfl) ?_
      refine lv_iconst (v := 2) hx hb dX9_setTemperature_50 (by decide) ?_
      obtain ⟨r_8, mM_9, hc_10, hE⟩ := bd2_el hE
      refine ki (X := []) (Y := []) (ws1 := (W_M cy aM mM_9 inM)) (rV (X := []) (Y := []) (As := [.int (2 : Int32)]) (rest := []) hC (c_X9_refuse l D cy aM (2 : Int32) mM_1 inM r_8 mM_9 hc_10) (cwV 1 hts gX9_setTemperature_X9_refuse rfl rfl rfl cd_X9_refuse ⟨Nat.le_of_ble_eq_true rfl, Nat.le_of_ble_eq_true rfl⟩) hK hN hP hD hS hA rfl 0 9 rfl rfl rfl hl.1 rfl (lv_room (Nat.le_of_ble_eq_true rfl)) dX9_setTemperature_51 ⟨Nat.le_of_ble_eq_true rfl, Nat.le_of_ble_eq_true rfl⟩) hP hD hS hA rfl rfl rfl (fun H locs hP hD hS => ?_)
      have hE := Option.some.inj hE
      obtain ⟨q0, hE⟩ := Prod.mk.inj hE
      obtain ⟨q1, q2⟩ := Prod.mk.inj hE
      exact ei hx hb hr hlocks hK hP hD hS q0 (by rw [q1, q2]) dX9_setTemperature_54
    · replace hE := it_f hE c_7
      refine lv_aload_n hx hb dX9_setTemperature_37 rfl (lv_at hl 0 rfl) ?_
      refine lv_bipush (v := 8) hx hb dX9_setTemperature_38 (by decide) ?_
      refine lv_iload_n hx hb dX9_setTemperature_40 rfl (lv_at hl 1 rfl) ?_
      refine lv_iadd hx hb dX9_setTemperature_41 ?_
      refine lv_iload_n hx hb dX9_setTemperature_42 rfl (lv_at hl 2 rfl) ?_
      obtain ⟨r_11, mM_12, nM_13, hc_14, hE⟩ := bd3_el hE
      refine ki (X := []) (Y := []) (ws1 := (W_M cy aM mM_12 nM_13)) (rV (X := []) (Y := []) (As := [.int ((8 : Int32) + x1), .int x2]) (rest := []) hC (c_X9_change l D cy aM ((8 : Int32) + x1) x2 mM_1 inM r_11 mM_12 nM_13 hc_14) (cwV 2 hts gX9_setTemperature_X9_change rfl rfl rfl cd_X9_change ⟨Nat.le_of_ble_eq_true rfl, Nat.le_of_ble_eq_true rfl⟩) hK hN hP hD hS hA rfl 0 9 rfl rfl rfl hl.1 rfl (lv_room (Nat.le_of_ble_eq_true rfl)) dX9_setTemperature_43 ⟨Nat.le_of_ble_eq_true rfl, Nat.le_of_ble_eq_true rfl⟩) hP hD hS hA rfl rfl rfl (fun H locs hP hD hS => ?_)
      refine lv_goto (tgt := 54) hx hb dX9_setTemperature_46 (by decide) ?_
      have hE := Option.some.inj hE
      obtain ⟨q0, hE⟩ := Prod.mk.inj hE
      obtain ⟨q1, q2⟩ := Prod.mk.inj hE
      exact ei hx hb hr hlocks hK hP hD hS q0 (by rw [q1, q2]) dX9_setTemperature_54
  · replace hE := it_t hE c_4
    refine lv_aload_n hx hb dX9_setTemperature_17 rfl (lv_at hl 0 rfl) ?_
    refine lv_iconst (v := 1) hx hb dX9_setTemperature_18 (by decide) ?_
    obtain ⟨r_15, mM_16, hc_17, hE⟩ := bd2_el hE
    refine ki (X := []) (Y := []) (ws1 := (W_M cy aM mM_16 inM)) (rV (X := []) (Y := []) (As := [.int (1 : Int32)]) (rest := []) hC (c_X9_refuse l D cy aM (1 : Int32) mM_1 inM r_15 mM_16 hc_17) (cwV 1 hts gX9_setTemperature_X9_refuse rfl rfl rfl cd_X9_refuse ⟨Nat.le_of_ble_eq_true rfl, Nat.le_of_ble_eq_true rfl⟩) hK hN hP hD hS hA rfl 0 9 rfl rfl rfl hl.1 rfl (lv_room (Nat.le_of_ble_eq_true rfl)) dX9_setTemperature_19 ⟨Nat.le_of_ble_eq_true rfl, Nat.le_of_ble_eq_true rfl⟩) hP hD hS hA rfl rfl rfl (fun H locs hP hD hS => ?_)
    have hE := Option.some.inj hE
    obtain ⟨q0, hE⟩ := Prod.mk.inj hE
    obtain ⟨q1, q2⟩ := Prod.mk.inj hE
    exact ei hx hb hr hlocks hK hP hD hS q0 (by rw [q1, q2]) dX9_setTemperature_22
abbrev rm_X9_least : Room := { frames := 0, cells := 0, slots := 0, locals := 0 }
set_option maxHeartbeats 40000000 in
set_option maxRecDepth 100000 in
theorem c_X9_least (l : Launch) (D : va_G) (cy : Nat → Nat)  (x0 : Int32) (r' : Int32) (hE : f_X9_least x0 = some r') : CI l yX9_least wsX9_least rm_X9_least D cy [.int x0] ([] : va_W) 0 0 r' ([] : va_W) := by
  refine CQ_of (cc := cX9_least) (maxL := 1) (ret := (some .int)) (by decide) rfl (Nat.le_of_ble_eq_true rfl) (fun p e s m args below meth c A ls hx hb hr hml hlocks hnm hown hts hA hK hN hP hD hS hl => ?_)
  have hown : s.vm.findClass RX9 = some m.cls := hown
  have hl : lv_has ls 1 [(0, .int x0)] := hl
  unfold f_X9_least at hE
  refine lv_iload_n hx hb dX9_least_0 rfl (lv_at hl 0 rfl) ?_
  refine lv_if_ne (tgt := 8) hx hb dX9_least_1 (by decide) (fun c_1 => ?_) (fun c_1 => ?_)
  · replace hE := it_f hE c_1
    refine lv_iconst (v := 0) hx hb dX9_least_8 (by decide) ?_
    have hE := Option.some.inj hE
    exact ei hx hb hr hlocks hK hP hD hS hE rfl dX9_least_9
  · replace hE := it_t hE c_1
    refine lv_iconst (v := 1) hx hb dX9_least_4 (by decide) ?_
    refine lv_goto (tgt := 9) hx hb dX9_least_5 (by decide) ?_
    have hE := Option.some.inj hE
    exact ei hx hb hr hlocks hK hP hD hS hE rfl dX9_least_9
abbrev rm_X9_most : Room := { frames := 0, cells := 0, slots := 0, locals := 0 }
set_option maxHeartbeats 40000000 in
set_option maxRecDepth 100000 in
theorem c_X9_most (l : Launch) (D : va_G) (cy : Nat → Nat)  (x0 : Int32) (r' : Int32) (hE : f_X9_most x0 = some r') : CI l yX9_most wsX9_most rm_X9_most D cy [.int x0] ([] : va_W) 0 0 r' ([] : va_W) := by
  refine CQ_of (cc := cX9_most) (maxL := 1) (ret := (some .int)) (by decide) rfl (Nat.le_of_ble_eq_true rfl) (fun p e s m args below meth c A ls hx hb hr hml hlocks hnm hown hts hA hK hN hP hD hS hl => ?_)
  have hown : s.vm.findClass RX9 = some m.cls := hown
  have hl : lv_has ls 1 [(0, .int x0)] := hl
  have k83 : (Cond.constant RX9 83 (1000000)).before args s = true := hts _ (mC qk_X9_83)
  unfold f_X9_most at hE
  refine lv_iload_n hx hb dX9_most_0 rfl (lv_at hl 0 rfl) ?_
  by_cases c_1_0 : x0 = 0
  · replace hE := it_t hE c_1_0
    refine lv_tableIn (tgt := 48) hx hb dX9_most_1 (by rw [c_1_0]; decide) (by rw [c_1_0]; decide) (off := 47) (by rw [c_1_0]; decide) (by decide) ?_
    refine lv_sipush (v := 200) hx hb dX9_most_48 (by decide) ?_
    have hE := Option.some.inj hE
    exact ei hx hb hr hlocks hK hP hD hS hE rfl dX9_most_51
  · replace hE := it_f hE c_1_0
    by_cases c_1_1 : x0 = 1
    · replace hE := it_t hE c_1_1
      refine lv_tableIn (tgt := 52) hx hb dX9_most_1 (by rw [c_1_1]; decide) (by rw [c_1_1]; decide) (off := 51) (by rw [c_1_1]; decide) (by decide) ?_
      refine lv_bipush (v := 12) hx hb dX9_most_52 (by decide) ?_
      have hE := Option.some.inj hE
      exact ei hx hb hr hlocks hK hP hD hS hE rfl dX9_most_54
    · replace hE := it_f hE c_1_1
      by_cases c_1_2 : x0 = 2
      · replace hE := it_t hE c_1_2
        refine lv_tableIn (tgt := 55) hx hb dX9_most_1 (by rw [c_1_2]; decide) (by rw [c_1_2]; decide) (off := 54) (by rw [c_1_2]; decide) (by decide) ?_
        refine lv_iconst (v := 3) hx hb dX9_most_55 (by decide) ?_
        have hE := Option.some.inj hE
        exact ei hx hb hr hlocks hK hP hD hS hE rfl dX9_most_56
      · replace hE := it_f hE c_1_2
        by_cases c_1_3 : x0 = 3
        · replace hE := it_t hE c_1_3
          refine lv_tableIn (tgt := 64) hx hb dX9_most_1 (by rw [c_1_3]; decide) (by rw [c_1_3]; decide) (off := 63) (by rw [c_1_3]; decide) (by decide) ?_
          refine lv_ldc hx hb hown k83 dX9_most_64 ?_
          have hE := Option.some.inj hE
          exact ei hx hb hr hlocks hK hP hD hS hE rfl dX9_most_66
        · replace hE := it_f hE c_1_3
          by_cases c_1_4 : x0 = 4
          · replace hE := it_t hE c_1_4
            refine lv_tableIn (tgt := 57) hx hb dX9_most_1 (by rw [c_1_4]; decide) (by rw [c_1_4]; decide) (off := 56) (by rw [c_1_4]; decide) (by decide) ?_
            refine lv_sipush (v := 999) hx hb dX9_most_57 (by decide) ?_
            have hE := Option.some.inj hE
            exact ei hx hb hr hlocks hK hP hD hS hE rfl dX9_most_60
          · replace hE := it_f hE c_1_4
            by_cases c_1_5 : x0 = 5
            · replace hE := it_t hE c_1_5
              refine lv_tableIn (tgt := 57) hx hb dX9_most_1 (by rw [c_1_5]; decide) (by rw [c_1_5]; decide) (off := 56) (by rw [c_1_5]; decide) (by decide) ?_
              refine lv_sipush (v := 999) hx hb dX9_most_57 (by decide) ?_
              have hE := Option.some.inj hE
              exact ei hx hb hr hlocks hK hP hD hS hE rfl dX9_most_60
            · replace hE := it_f hE c_1_5
              by_cases c_1_6 : x0 = 6
              · replace hE := it_t hE c_1_6
                refine lv_tableIn (tgt := 64) hx hb dX9_most_1 (by rw [c_1_6]; decide) (by rw [c_1_6]; decide) (off := 63) (by rw [c_1_6]; decide) (by decide) ?_
                refine lv_ldc hx hb hown k83 dX9_most_64 ?_
                have hE := Option.some.inj hE
                exact ei hx hb hr hlocks hK hP hD hS hE rfl dX9_most_66
              · replace hE := it_f hE c_1_6
                by_cases c_1_7 : x0 = 7
                · replace hE := it_t hE c_1_7
                  refine lv_tableIn (tgt := 61) hx hb dX9_most_1 (by rw [c_1_7]; decide) (by rw [c_1_7]; decide) (off := 60) (by rw [c_1_7]; decide) (by decide) ?_
                  refine lv_bipush (v := 100) hx hb dX9_most_61 (by decide) ?_
                  have hE := Option.some.inj hE
                  exact ei hx hb hr hlocks hK hP hD hS hE rfl dX9_most_63
                · replace hE := it_f hE c_1_7
                  refine lv_tableOut (tgt := 64) hx hb dX9_most_1 (sw_out (lo := 0) (hi := 7) (fun z h1 h2 => ?_)) (by decide) ?_
                  · rcases (show z = 0 ∨ z = 1 ∨ z = 2 ∨ z = 3 ∨ z = 4 ∨ z = 5 ∨ z = 6 ∨ z = 7 by omega) with rfl | rfl | rfl | rfl | rfl | rfl | rfl | rfl
                    · exact fun q9 => c_1_0 (q9.trans (by decide))
                    · exact fun q9 => c_1_1 (q9.trans (by decide))
                    · exact fun q9 => c_1_2 (q9.trans (by decide))
                    · exact fun q9 => c_1_3 (q9.trans (by decide))
                    · exact fun q9 => c_1_4 (q9.trans (by decide))
                    · exact fun q9 => c_1_5 (q9.trans (by decide))
                    · exact fun q9 => c_1_6 (q9.trans (by decide))
                    · exact fun q9 => c_1_7 (q9.trans (by decide))
                  · refine lv_ldc hx hb hown k83 dX9_most_64 ?_
                    have hE := Option.some.inj hE
                    exact ei hx hb hr hlocks hK hP hD hS hE rfl dX9_most_66
abbrev rm_X9_set : Room := { frames := 2, cells := 0, slots := 0, locals := 44 }
set_option maxHeartbeats 40000000 in
set_option maxRecDepth 100000 in
theorem c_X9_set (l : Launch) (D : va_G) (cy : Nat → Nat) (aM : Nat → Nat) (x1 : Int32) (x2 : Int32) (imM : Mem) (inM : MemL) (r' : Int32) (mM' : Mem) (nM' : MemL) (hE : f_X9_set x1 x2 imM inM = some (r', mM', nM')) : CI l yX9_set wsX9_set rm_X9_set D cy [.ref (aM 0), .int x1, .int x2] (W_M cy aM imM inM) 0 0 r' (W_M cy aM mM' nM') := by
  refine CQ_of (cc := cX9_set) (maxL := 3) (ret := (some .int)) (by decide) rfl (Nat.le_of_ble_eq_true rfl) (fun p e s m args below meth c A ls hx hb hr hml hlocks hnm hown hts hA hK hN hP hD hS hl => ?_)
  have hown : s.vm.findClass RX9 = some m.cls := hown
  have hl : lv_has ls 3 [(0, .ref (aM 0)), (1, .int x1), (2, .int x2)] := hl
  have hC : CallFix p m c cX9_set 3 s args wsX9_set RX9 := ⟨hx, hb, hml, hown, hts⟩
  have f43 : (Cond.fieldLink RX9 43 "IcePlantModel" "thrown" "I").before args s = true := hts _ (mC qf_X9_43)
  have iX9 : ∀ w ∈ wsX90, w ∈ wsX9_set := fun w h => mC (iA_X9 w h)
  have k84 : (Cond.constantLong RX9 84 (7)).before args s = true := hts _ (mC qk_X9_84)
  unfold f_X9_set at hE
  refine lv_aload_n hx hb dX9_set_0 rfl (lv_at hl 0 rfl) ?_
  refine lv_iconst (v := 0) hx hb dX9_set_1 (by decide) ?_
  obtain ⟨mM_1, e_mM_1, hE⟩ := lt_el hE
  refine s_pf (own := RX9) (C := RX9) (T := TX9) (N := 13) (ci := 9) (ws1 := (W_M cy aM mM_1 inM)) hx hb hts iX9 tyX9 tyX9_ok nmX9 hown hK hP hD hS 0 rfl rfl 8 (by decide) f43 rfl rfl rfl rfl (Nat.le_of_ble_eq_true rfl) (by rw [e_mM_1]; rfl) dX9_set_2 (fun H locs hP hD hS => ?_)
  refine lv_iload_n hx hb dX9_set_5 rfl (lv_at hl 1 rfl) ?_
  refine lv_i2l hx hb dX9_set_6 rfl ?_
  refine lv_lconst (v := 0) hx hb dX9_set_7 (by decide) ?_
  refine lv_ldc2 hx hb hown k84 dX9_set_8 ?_
  obtain ⟨r_2, hc_3, hE⟩ := bd1_el hE
  refine ki (X := []) (Y := (W_M cy aM mM_1 inM)) (ws1 := (W_M cy aM mM_1 inM)) (rS (X := []) (Y := (W_M cy aM mM_1 inM)) (As := [.long (x1.toInt64), .long (0 : Int64), .long (7 : Int64)]) (rest := []) hC (c_X9_in l D cy (x1.toInt64) (0 : Int64) (7 : Int64) r_2 hc_3) (cwS 3 hts gX9_set_X9_in rfl rfl rfl cd_X9_in ⟨Nat.le_of_ble_eq_true rfl, Nat.le_of_ble_eq_true rfl⟩) hK hN hP hD hS hA rfl rfl hl.1 rfl (lv_room (Nat.le_of_ble_eq_true rfl)) dX9_set_11 ⟨Nat.le_of_ble_eq_true rfl, Nat.le_of_ble_eq_true rfl⟩) hP hD hS hA rfl rfl rfl (fun H locs hP hD hS => ?_)
  refine lv_if_ne (tgt := 23) hx hb dX9_set_14 (by decide) (fun c_4 => ?_) (fun c_4 => ?_)
  · replace hE := it_f hE c_4
    refine lv_iload_n hx hb dX9_set_23 rfl (lv_at hl 2 rfl) ?_
    refine lv_i2l hx hb dX9_set_24 rfl ?_
    refine lv_iload_n hx hb dX9_set_25 rfl (lv_at hl 1 rfl) ?_
    obtain ⟨r_5, hc_6, hE⟩ := bd1_el hE
    refine ki (X := []) (Y := (W_M cy aM mM_1 inM)) (ws1 := (W_M cy aM mM_1 inM)) (rS (X := []) (Y := (W_M cy aM mM_1 inM)) (As := [.int x1]) (rest := [.long (x2.toInt64)]) hC (c_X9_least l D cy x1 r_5 hc_6) (cwS 1 hts gX9_set_X9_least rfl rfl rfl cd_X9_least ⟨Nat.le_of_ble_eq_true rfl, Nat.le_of_ble_eq_true rfl⟩) hK hN hP hD hS hA rfl rfl hl.1 rfl (lv_room (Nat.le_of_ble_eq_true rfl)) dX9_set_26 ⟨Nat.le_of_ble_eq_true rfl, Nat.le_of_ble_eq_true rfl⟩) hP hD hS hA rfl rfl rfl (fun H locs hP hD hS => ?_)
    refine lv_i2l hx hb dX9_set_29 rfl ?_
    refine lv_iload_n hx hb dX9_set_30 rfl (lv_at hl 1 rfl) ?_
    obtain ⟨r_7, hc_8, hE⟩ := bd1_el hE
    refine ki (X := []) (Y := (W_M cy aM mM_1 inM)) (ws1 := (W_M cy aM mM_1 inM)) (rS (X := []) (Y := (W_M cy aM mM_1 inM)) (As := [.int x1]) (rest := [.long (r_5.toInt64), .long (x2.toInt64)]) hC (c_X9_most l D cy x1 r_7 hc_8) (cwS 1 hts gX9_set_X9_most rfl rfl rfl cd_X9_most ⟨Nat.le_of_ble_eq_true rfl, Nat.le_of_ble_eq_true rfl⟩) hK hN hP hD hS hA rfl rfl hl.1 rfl (lv_room (Nat.le_of_ble_eq_true rfl)) dX9_set_31 ⟨Nat.le_of_ble_eq_true rfl, Nat.le_of_ble_eq_true rfl⟩) hP hD hS hA rfl rfl rfl (fun H locs hP hD hS => ?_)
    refine lv_i2l hx hb dX9_set_34 rfl ?_
    obtain ⟨r_9, hc_10, hE⟩ := bd1_el hE
    refine ki (X := []) (Y := (W_M cy aM mM_1 inM)) (ws1 := (W_M cy aM mM_1 inM)) (rS (X := []) (Y := (W_M cy aM mM_1 inM)) (As := [.long (x2.toInt64), .long (r_5.toInt64), .long (r_7.toInt64)]) (rest := []) hC (c_X9_in l D cy (x2.toInt64) (r_5.toInt64) (r_7.toInt64) r_9 hc_10) (cwS 3 hts gX9_set_X9_in rfl rfl rfl cd_X9_in ⟨Nat.le_of_ble_eq_true rfl, Nat.le_of_ble_eq_true rfl⟩) hK hN hP hD hS hA rfl rfl hl.1 rfl (lv_room (Nat.le_of_ble_eq_true rfl)) dX9_set_35 ⟨Nat.le_of_ble_eq_true rfl, Nat.le_of_ble_eq_true rfl⟩) hP hD hS hA rfl rfl rfl (fun H locs hP hD hS => ?_)
    refine lv_if_eq (tgt := 52) hx hb dX9_set_38 (by decide) (fun c_11 => ?_) (fun c_11 => ?_)
    · replace hE := it_t hE c_11
      refine lv_aload_n hx hb dX9_set_52 rfl (lv_at hl 0 rfl) ?_
      refine lv_iconst (v := 2) hx hb dX9_set_53 (by decide) ?_
      obtain ⟨r_12, mM_13, hc_14, hE⟩ := bd2_el hE
      refine ki (X := []) (Y := []) (ws1 := (W_M cy aM mM_13 inM)) (rV (X := []) (Y := []) (As := [.int (2 : Int32)]) (rest := []) hC (c_X9_refuse l D cy aM (2 : Int32) mM_1 inM r_12 mM_13 hc_14) (cwV 1 hts gX9_set_X9_refuse rfl rfl rfl cd_X9_refuse ⟨Nat.le_of_ble_eq_true rfl, Nat.le_of_ble_eq_true rfl⟩) hK hN hP hD hS hA rfl 0 9 rfl rfl rfl hl.1 rfl (lv_room (Nat.le_of_ble_eq_true rfl)) dX9_set_54 ⟨Nat.le_of_ble_eq_true rfl, Nat.le_of_ble_eq_true rfl⟩) hP hD hS hA rfl rfl rfl (fun H locs hP hD hS => ?_)
      have hE := Option.some.inj hE
      obtain ⟨q0, hE⟩ := Prod.mk.inj hE
      obtain ⟨q1, q2⟩ := Prod.mk.inj hE
      exact ei hx hb hr hlocks hK hP hD hS q0 (by rw [q1, q2]) dX9_set_57
    · replace hE := it_f hE c_11
      refine lv_aload_n hx hb dX9_set_41 rfl (lv_at hl 0 rfl) ?_
      refine lv_iconst (v := 0) hx hb dX9_set_42 (by decide) ?_
      refine lv_iload_n hx hb dX9_set_43 rfl (lv_at hl 1 rfl) ?_
      refine lv_iadd hx hb dX9_set_44 ?_
      refine lv_iload_n hx hb dX9_set_45 rfl (lv_at hl 2 rfl) ?_
      obtain ⟨r_15, mM_16, nM_17, hc_18, hE⟩ := bd3_el hE
      refine ki (X := []) (Y := []) (ws1 := (W_M cy aM mM_16 nM_17)) (rV (X := []) (Y := []) (As := [.int ((0 : Int32) + x1), .int x2]) (rest := []) hC (c_X9_change l D cy aM ((0 : Int32) + x1) x2 mM_1 inM r_15 mM_16 nM_17 hc_18) (cwV 2 hts gX9_set_X9_change rfl rfl rfl cd_X9_change ⟨Nat.le_of_ble_eq_true rfl, Nat.le_of_ble_eq_true rfl⟩) hK hN hP hD hS hA rfl 0 9 rfl rfl rfl hl.1 rfl (lv_room (Nat.le_of_ble_eq_true rfl)) dX9_set_46 ⟨Nat.le_of_ble_eq_true rfl, Nat.le_of_ble_eq_true rfl⟩) hP hD hS hA rfl rfl rfl (fun H locs hP hD hS => ?_)
      refine lv_goto (tgt := 57) hx hb dX9_set_49 (by decide) ?_
      have hE := Option.some.inj hE
      obtain ⟨q0, hE⟩ := Prod.mk.inj hE
      obtain ⟨q1, q2⟩ := Prod.mk.inj hE
      exact ei hx hb hr hlocks hK hP hD hS q0 (by rw [q1, q2]) dX9_set_57
  · replace hE := it_t hE c_4
    refine lv_aload_n hx hb dX9_set_17 rfl (lv_at hl 0 rfl) ?_
    refine lv_iconst (v := 1) hx hb dX9_set_18 (by decide) ?_
    obtain ⟨r_19, mM_20, hc_21, hE⟩ := bd2_el hE
    refine ki (X := []) (Y := []) (ws1 := (W_M cy aM mM_20 inM)) (rV (X := []) (Y := []) (As := [.int (1 : Int32)]) (rest := []) hC (c_X9_refuse l D cy aM (1 : Int32) mM_1 inM r_19 mM_20 hc_21) (cwV 1 hts gX9_set_X9_refuse rfl rfl rfl cd_X9_refuse ⟨Nat.le_of_ble_eq_true rfl, Nat.le_of_ble_eq_true rfl⟩) hK hN hP hD hS hA rfl 0 9 rfl rfl rfl hl.1 rfl (lv_room (Nat.le_of_ble_eq_true rfl)) dX9_set_19 ⟨Nat.le_of_ble_eq_true rfl, Nat.le_of_ble_eq_true rfl⟩) hP hD hS hA rfl rfl rfl (fun H locs hP hD hS => ?_)
    have hE := Option.some.inj hE
    obtain ⟨q0, hE⟩ := Prod.mk.inj hE
    obtain ⟨q1, q2⟩ := Prod.mk.inj hE
    exact ei hx hb hr hlocks hK hP hD hS q0 (by rw [q1, q2]) dX9_set_22
abbrev rm_X9_moveThrows : Room := { frames := 2, cells := 0, slots := 0, locals := 46 }
set_option maxHeartbeats 40000000 in
set_option maxRecDepth 100000 in
theorem c_X9_moveThrows (l : Launch) (D : va_G) (cy : Nat → Nat) (aM : Nat → Nat) (x1 : Int32) (x2 : Int32) (imM : Mem) (inM : MemL) (r' : Int32) (hE : f_X9_moveThrows x1 x2 imM inM = some r') : CI l yX9_moveThrows wsX9_moveThrows rm_X9_moveThrows D cy [.ref (aM 0), .int x1, .int x2] (W_M cy aM imM inM) 0 0 r' (W_M cy aM imM inM) := by
  refine CQ_of (cc := cX9_moveThrows) (maxL := 3) (ret := (some .int)) (by decide) rfl (Nat.le_of_ble_eq_true rfl) (fun p e s m args below meth c A ls hx hb hr hml hlocks hnm hown hts hA hK hN hP hD hS hl => ?_)
  have hown : s.vm.findClass RX9 = some m.cls := hown
  have hl : lv_has ls 3 [(0, .ref (aM 0)), (1, .int x1), (2, .int x2)] := hl
  have hC : CallFix p m c cX9_moveThrows 3 s args wsX9_moveThrows RX9 := ⟨hx, hb, hml, hown, hts⟩
  have f7 : (Cond.fieldLink RX9 7 "IcePlantModel" "w" "[J").before args s = true := hts _ (mC qf_X9_7)
  have iX9 : ∀ w ∈ wsX90, w ∈ wsX9_moveThrows := fun w h => mC (iA_X9 w h)
  have h61 : ∀  (H : Heap) (locs : List Loc) (ls : Array Slot), f_X9_moveThrows_b61 imM inM = some r' → va_P D vwCl (W_M cy aM imM inM) H → va_D A (W_M cy aM imM inM) → va_S A s.heap H locs → lv_has ls 3 [] → W p l e rm_X9_moveThrows s m args below meth c H locs 0 0 (MQ below (QI D cy r' (W_M cy aM imM inM) A) args s 0 0 A) (F0 m 61 ls []) := by
    intro  H locs ls hE hP hD hS hl
    replace hE : (some (3 : Int32)) = some r' := hE
    refine lv_iconst (v := 3) hx hb dX9_moveThrows_61 (by decide) ?_
    refine lv_goto (tgt := 66) hx hb dX9_moveThrows_62 (by decide) ?_
    have hE := Option.some.inj hE
    exact ei hx hb hr hlocks hK hP hD hS hE rfl dX9_moveThrows_66
  unfold f_X9_moveThrows at hE
  refine lv_aload_n hx hb dX9_moveThrows_0 rfl (lv_at hl 0 rfl) ?_
  refine lv_iload_n hx hb dX9_moveThrows_1 rfl (lv_at hl 1 rfl) ?_
  obtain ⟨r_1, hc_2, hE⟩ := bd1_el hE
  refine ki (X := []) (Y := []) (ws1 := (W_M cy aM imM inM)) (rV (X := []) (Y := []) (As := [.int x1]) (rest := []) hC (c_X9_isSilo l D cy aM x1 imM inM r_1 hc_2) (cwV 1 hts gX9_moveThrows_X9_isSilo rfl rfl rfl cd_X9_isSilo ⟨Nat.le_of_ble_eq_true rfl, Nat.le_of_ble_eq_true rfl⟩) hK hN hP hD hS hA rfl 0 9 rfl rfl rfl hl.1 rfl (lv_room (Nat.le_of_ble_eq_true rfl)) dX9_moveThrows_2 ⟨Nat.le_of_ble_eq_true rfl, Nat.le_of_ble_eq_true rfl⟩) hP hD hS hA rfl rfl rfl (fun H locs hP hD hS => ?_)
  refine lv_if_eq (tgt := 16) hx hb dX9_moveThrows_5 (by decide) (fun c_3 => ?_) (fun c_3 => ?_)
  · replace hE := it_t hE c_3
    refine lv_iconst (v := 1) hx hb dX9_moveThrows_16 (by decide) ?_
    have hE := Option.some.inj hE
    exact ei hx hb hr hlocks hK hP hD hS hE rfl dX9_moveThrows_17
  · replace hE := it_f hE c_3
    refine lv_aload_n hx hb dX9_moveThrows_8 rfl (lv_at hl 0 rfl) ?_
    refine lv_iload_n hx hb dX9_moveThrows_9 rfl (lv_at hl 2 rfl) ?_
    obtain ⟨r_4, hc_5, hE⟩ := bd1_el hE
    refine ki (X := []) (Y := []) (ws1 := (W_M cy aM imM inM)) (rV (X := []) (Y := []) (As := [.int x2]) (rest := []) hC (c_X9_isSilo l D cy aM x2 imM inM r_4 hc_5) (cwV 1 hts gX9_moveThrows_X9_isSilo rfl rfl rfl cd_X9_isSilo ⟨Nat.le_of_ble_eq_true rfl, Nat.le_of_ble_eq_true rfl⟩) hK hN hP hD hS hA rfl 0 9 rfl rfl rfl hl.1 rfl (lv_room (Nat.le_of_ble_eq_true rfl)) dX9_moveThrows_10 ⟨Nat.le_of_ble_eq_true rfl, Nat.le_of_ble_eq_true rfl⟩) hP hD hS hA rfl rfl rfl (fun H locs hP hD hS => ?_)
    refine lv_if_ne (tgt := 18) hx hb dX9_moveThrows_13 (by decide) (fun c_6 => ?_) (fun c_6 => ?_)
    · replace hE := it_f hE c_6
      refine lv_iload_n hx hb dX9_moveThrows_18 rfl (lv_at hl 1 rfl) ?_
      refine lv_iload_n hx hb dX9_moveThrows_19 rfl (lv_at hl 2 rfl) ?_
      refine lv_icmp_ne (tgt := 25) hx hb dX9_moveThrows_20 (by decide) (fun c_7 => ?_) (fun c_7 => ?_)
      · replace hE := it_f hE c_7
        refine lv_aload_n hx hb dX9_moveThrows_25 rfl (lv_at hl 0 rfl) ?_
        refine va_get (D := D) (ci := 9) (v := .ref (aM 1)) (C := RX9) (T := TX9) (N := 13) hx hb hts iX9 hown hK hP 0 rfl rfl 0 (by decide) f7 (fun _ h9 => h9) rfl dX9_moveThrows_26 ?_
        refine lv_bipush (v := 47) hx hb dX9_moveThrows_29 (by decide) ?_
        refine lv_iload_n hx hb dX9_moveThrows_31 rfl (lv_at hl 1 rfl) ?_
        refine lv_iadd hx hb dX9_moveThrows_32 ?_
        obtain ⟨g_8, hE⟩ := gi_el hE
        refine va_lald hx hb hK hP 1 1 rfl rfl g_8 dX9_moveThrows_33 ?_
        refine lv_lconst (v := 0) hx hb dX9_moveThrows_34 (by decide) ?_
        refine W.lcmp hx hb dX9_moveThrows_35 ?_
        refine lv_if_eq (tgt := 61) hx hb dX9_moveThrows_36 (by decide) (fun c_9 => ?_) (fun c_9 => ?_)
        · replace hE := it_t hE c_9
          exact h61  _ _ _ hE hP hD hS (lv_sub hl [] rfl)
        · replace hE := it_f hE c_9
          refine lv_aload_n hx hb dX9_moveThrows_39 rfl (lv_at hl 0 rfl) ?_
          refine va_get (D := D) (ci := 9) (v := .ref (aM 1)) (C := RX9) (T := TX9) (N := 13) hx hb hts iX9 hown hK hP 0 rfl rfl 0 (by decide) f7 (fun _ h9 => h9) rfl dX9_moveThrows_40 ?_
          refine lv_bipush (v := 47) hx hb dX9_moveThrows_43 (by decide) ?_
          refine lv_iload_n hx hb dX9_moveThrows_45 rfl (lv_at hl 2 rfl) ?_
          refine lv_iadd hx hb dX9_moveThrows_46 ?_
          obtain ⟨g_10, hE⟩ := gi_el hE
          refine va_lald hx hb hK hP 1 1 rfl rfl g_10 dX9_moveThrows_47 ?_
          refine lv_aload_n hx hb dX9_moveThrows_48 rfl (lv_at hl 0 rfl) ?_
          refine va_get (D := D) (ci := 9) (v := .ref (aM 1)) (C := RX9) (T := TX9) (N := 13) hx hb hts iX9 hown hK hP 0 rfl rfl 0 (by decide) f7 (fun _ h9 => h9) rfl dX9_moveThrows_49 ?_
          refine lv_bipush (v := 32) hx hb dX9_moveThrows_52 (by decide) ?_
          refine lv_iload_n hx hb dX9_moveThrows_54 rfl (lv_at hl 2 rfl) ?_
          refine lv_iadd hx hb dX9_moveThrows_55 ?_
          obtain ⟨g_11, hE⟩ := gi_el hE
          refine va_lald hx hb hK hP 1 1 rfl rfl g_11 dX9_moveThrows_56 ?_
          refine W.lcmp hx hb dX9_moveThrows_57 ?_
          refine lv_if_ne (tgt := 65) hx hb dX9_moveThrows_58 (by decide) (fun c_12 => ?_) (fun c_12 => ?_)
          · replace hE := it_f hE c_12
            refine lv_iconst (v := 0) hx hb dX9_moveThrows_65 (by decide) ?_
            have hE := Option.some.inj hE
            exact ei hx hb hr hlocks hK hP hD hS hE rfl dX9_moveThrows_66
          · replace hE := it_t hE c_12
            exact h61  _ _ _ hE hP hD hS (lv_sub hl [] rfl)
      · replace hE := it_t hE c_7
        refine lv_iconst (v := 2) hx hb dX9_moveThrows_23 (by decide) ?_
        have hE := Option.some.inj hE
        exact ei hx hb hr hlocks hK hP hD hS hE rfl dX9_moveThrows_24
    · replace hE := it_t hE c_6
      refine lv_iconst (v := 1) hx hb dX9_moveThrows_16 (by decide) ?_
      have hE := Option.some.inj hE
      exact ei hx hb hr hlocks hK hP hD hS hE rfl dX9_moveThrows_17
abbrev rm_X9_doMove : Room := { frames := 0, cells := 0, slots := 0, locals := 0 }
set_option maxHeartbeats 40000000 in
set_option maxRecDepth 100000 in
theorem c_X9_doMove (l : Launch) (D : va_G) (cy : Nat → Nat) (aM : Nat → Nat) (x1 : Int32) (x2 : Int32) (imM : Mem) (inM : MemL) (r' : Int32) (nM' : MemL) (hE : f_X9_doMove x1 x2 imM inM = some (r', nM')) : CI l yX9_doMove wsX9_doMove rm_X9_doMove D cy [.ref (aM 0), .int x1, .int x2] (W_M cy aM imM inM) 0 0 r' (W_M cy aM imM nM') := by
  refine CQ_of (cc := cX9_doMove) (maxL := 5) (ret := (some .int)) (by decide) rfl (Nat.le_of_ble_eq_true rfl) (fun p e s m args below meth c A ls hx hb hr hml hlocks hnm hown hts hA hK hN hP hD hS hl => ?_)
  have hown : s.vm.findClass RX9 = some m.cls := hown
  have hl : lv_has ls 5 [(0, .ref (aM 0)), (1, .int x1), (2, .int x2)] := hl
  have f7 : (Cond.fieldLink RX9 7 "IcePlantModel" "w" "[J").before args s = true := hts _ (mC qf_X9_7)
  have iX9 : ∀ w ∈ wsX90, w ∈ wsX9_doMove := fun w h => mC (iA_X9 w h)
  unfold f_X9_doMove at hE
  refine lv_aload_n hx hb dX9_doMove_0 rfl (lv_at hl 0 rfl) ?_
  refine va_get (D := D) (ci := 9) (v := .ref (aM 1)) (C := RX9) (T := TX9) (N := 13) hx hb hts iX9 hown hK hP 0 rfl rfl 0 (by decide) f7 (fun _ h9 => h9) rfl dX9_doMove_1 ?_
  refine lv_bipush (v := 47) hx hb dX9_doMove_4 (by decide) ?_
  refine lv_iload_n hx hb dX9_doMove_6 rfl (lv_at hl 1 rfl) ?_
  refine lv_iadd hx hb dX9_doMove_7 ?_
  refine lv_dup2_11 hx hb dX9_doMove_8 rfl rfl ?_
  obtain ⟨g_1, hE⟩ := gi_el hE
  refine va_lald hx hb hK hP 1 1 rfl rfl g_1 dX9_doMove_9 ?_
  refine lv_lconst (v := 1) hx hb dX9_doMove_10 (by decide) ?_
  refine lv_lsub hx hb dX9_doMove_11 ?_
  obtain ⟨g_3, hE⟩ := gi_el hE
  obtain ⟨nM_2, e_nM_2, hE⟩ := lt_el hE
  refine s_la (ws1 := (W_M cy aM imM nM_2)) hx hb hK hP hD hS 1 rfl g_3 (by rw [e_nM_2]; rfl) dX9_doMove_12 (fun H locs hP hD hS => ?_)
  refine lv_bipush (v := 30) hx hb dX9_doMove_13 (by decide) ?_
  refine lv_iload_n hx hb dX9_doMove_15 rfl (lv_at hl 1 rfl) ?_
  refine lv_imul hx hb dX9_doMove_16 ?_
  refine lv_aload_n hx hb dX9_doMove_17 rfl (lv_at hl 0 rfl) ?_
  refine va_get (D := D) (ci := 9) (v := .ref (aM 1)) (C := RX9) (T := TX9) (N := 13) hx hb hts iX9 hown hK hP 0 rfl rfl 0 (by decide) f7 (fun _ h9 => h9) rfl dX9_doMove_18 ?_
  refine lv_bipush (v := 47) hx hb dX9_doMove_21 (by decide) ?_
  refine lv_iload_n hx hb dX9_doMove_23 rfl (lv_at hl 1 rfl) ?_
  refine lv_iadd hx hb dX9_doMove_24 ?_
  obtain ⟨g_4, hE⟩ := gi_el hE
  refine va_lald hx hb hK hP 1 1 rfl rfl g_4 dX9_doMove_25 ?_
  refine lv_l2i hx hb dX9_doMove_26 rfl ?_
  refine lv_iadd hx hb dX9_doMove_27 ?_
  obtain ⟨x3_5, e_x3_5, hE⟩ := lt_el hE
  refine s_nm e_x3_5 ?_
  refine lv_istore_n (lv' := [(3, .int x3_5), (0, .ref (aM 0)), (1, .int x1), (2, .int x2)]) hx hb dX9_doMove_28 rfl hl (by decide) rfl (fun ls hl => ?_)
  refine lv_bipush (v := 30) hx hb dX9_doMove_29 (by decide) ?_
  refine lv_iload_n hx hb dX9_doMove_31 rfl (lv_at hl 3 rfl) ?_
  refine lv_imul hx hb dX9_doMove_32 ?_
  refine lv_aload_n hx hb dX9_doMove_33 rfl (lv_at hl 1 rfl) ?_
  refine va_get (D := D) (ci := 9) (v := .ref (aM 1)) (C := RX9) (T := TX9) (N := 13) hx hb hts iX9 hown hK hP 0 rfl rfl 0 (by decide) f7 (fun _ h9 => h9) rfl dX9_doMove_34 ?_
  refine lv_bipush (v := 47) hx hb dX9_doMove_37 (by decide) ?_
  refine lv_iload_n hx hb dX9_doMove_39 rfl (lv_at hl 3 rfl) ?_
  refine lv_iadd hx hb dX9_doMove_40 ?_
  obtain ⟨g_6, hE⟩ := gi_el hE
  refine va_lald hx hb hK hP 1 1 rfl rfl g_6 dX9_doMove_41 ?_
  refine lv_l2i hx hb dX9_doMove_42 rfl ?_
  refine lv_iadd hx hb dX9_doMove_43 ?_
  obtain ⟨x4_7, e_x4_7, hE⟩ := lt_el hE
  refine s_nm e_x4_7 ?_
  refine lv_istore (lv' := [(4, .int x4_7), (3, .int x3_5), (0, .ref (aM 0)), (1, .int x1), (2, .int x2)]) hx hb dX9_doMove_44 hl (by decide) rfl (fun ls hl => ?_)
  refine lv_aload_n hx hb dX9_doMove_46 rfl (lv_at hl 2 rfl) ?_
  refine va_get (D := D) (ci := 9) (v := .ref (aM 1)) (C := RX9) (T := TX9) (N := 13) hx hb hts iX9 hown hK hP 0 rfl rfl 0 (by decide) f7 (fun _ h9 => h9) rfl dX9_doMove_47 ?_
  refine lv_bipush (v := 47) hx hb dX9_doMove_50 (by decide) ?_
  refine lv_iload_n hx hb dX9_doMove_52 rfl (lv_at hl 4 rfl) ?_
  refine lv_iadd hx hb dX9_doMove_53 ?_
  refine lv_dup2_11 hx hb dX9_doMove_54 rfl rfl ?_
  obtain ⟨g_8, hE⟩ := gi_el hE
  refine va_lald hx hb hK hP 1 1 rfl rfl g_8 dX9_doMove_55 ?_
  refine lv_lconst (v := 1) hx hb dX9_doMove_56 (by decide) ?_
  refine lv_ladd hx hb dX9_doMove_57 ?_
  obtain ⟨g_10, hE⟩ := gi_el hE
  obtain ⟨nM_9, e_nM_9, hE⟩ := lt_el hE
  refine s_la (ws1 := (W_M cy aM imM nM_9)) hx hb hK hP hD hS 1 rfl g_10 (by rw [e_nM_9]; rfl) dX9_doMove_58 (fun H locs hP hD hS => ?_)
  refine lv_aload_n hx hb dX9_doMove_59 rfl (lv_at hl 2 rfl) ?_
  refine va_get (D := D) (ci := 9) (v := .ref (aM 1)) (C := RX9) (T := TX9) (N := 13) hx hb hts iX9 hown hK hP 0 rfl rfl 0 (by decide) f7 (fun _ h9 => h9) rfl dX9_doMove_60 ?_
  refine lv_bipush (v := 57) hx hb dX9_doMove_63 (by decide) ?_
  refine lv_iload hx hb dX9_doMove_65 (lv_at hl 0 rfl) ?_
  refine lv_iadd hx hb dX9_doMove_67 ?_
  refine lv_aload_n hx hb dX9_doMove_68 rfl (lv_at hl 2 rfl) ?_
  refine va_get (D := D) (ci := 9) (v := .ref (aM 1)) (C := RX9) (T := TX9) (N := 13) hx hb hts iX9 hown hK hP 0 rfl rfl 0 (by decide) f7 (fun _ h9 => h9) rfl dX9_doMove_69 ?_
  refine lv_bipush (v := 57) hx hb dX9_doMove_72 (by decide) ?_
  refine lv_iload_n hx hb dX9_doMove_74 rfl (lv_at hl 1 rfl) ?_
  refine lv_iadd hx hb dX9_doMove_75 ?_
  obtain ⟨g_11, hE⟩ := gi_el hE
  refine va_lald hx hb hK hP 1 1 rfl rfl g_11 dX9_doMove_76 ?_
  obtain ⟨g_13, hE⟩ := gi_el hE
  obtain ⟨nM_12, e_nM_12, hE⟩ := lt_el hE
  refine s_la (ws1 := (W_M cy aM imM nM_12)) hx hb hK hP hD hS 1 rfl g_13 (by rw [e_nM_12]; rfl) dX9_doMove_77 (fun H locs hP hD hS => ?_)
  refine lv_aload_n hx hb dX9_doMove_78 rfl (lv_at hl 2 rfl) ?_
  refine va_get (D := D) (ci := 9) (v := .ref (aM 1)) (C := RX9) (T := TX9) (N := 13) hx hb hts iX9 hown hK hP 0 rfl rfl 0 (by decide) f7 (fun _ h9 => h9) rfl dX9_doMove_79 ?_
  refine lv_sipush (v := 207) hx hb dX9_doMove_82 (by decide) ?_
  refine lv_iload hx hb dX9_doMove_85 (lv_at hl 0 rfl) ?_
  refine lv_iadd hx hb dX9_doMove_87 ?_
  refine lv_aload_n hx hb dX9_doMove_88 rfl (lv_at hl 2 rfl) ?_
  refine va_get (D := D) (ci := 9) (v := .ref (aM 1)) (C := RX9) (T := TX9) (N := 13) hx hb hts iX9 hown hK hP 0 rfl rfl 0 (by decide) f7 (fun _ h9 => h9) rfl dX9_doMove_89 ?_
  refine lv_sipush (v := 207) hx hb dX9_doMove_92 (by decide) ?_
  refine lv_iload_n hx hb dX9_doMove_95 rfl (lv_at hl 1 rfl) ?_
  refine lv_iadd hx hb dX9_doMove_96 ?_
  obtain ⟨g_14, hE⟩ := gi_el hE
  refine va_lald hx hb hK hP 1 1 rfl rfl g_14 dX9_doMove_97 ?_
  obtain ⟨g_16, hE⟩ := gi_el hE
  obtain ⟨nM_15, e_nM_15, hE⟩ := lt_el hE
  refine s_la (ws1 := (W_M cy aM imM nM_15)) hx hb hK hP hD hS 1 rfl g_16 (by rw [e_nM_15]; rfl) dX9_doMove_98 (fun H locs hP hD hS => ?_)
  refine lv_aload_n hx hb dX9_doMove_99 rfl (lv_at hl 2 rfl) ?_
  refine va_get (D := D) (ci := 9) (v := .ref (aM 1)) (C := RX9) (T := TX9) (N := 13) hx hb hts iX9 hown hK hP 0 rfl rfl 0 (by decide) f7 (fun _ h9 => h9) rfl dX9_doMove_100 ?_
  refine lv_sipush (v := 357) hx hb dX9_doMove_103 (by decide) ?_
  refine lv_iload hx hb dX9_doMove_106 (lv_at hl 0 rfl) ?_
  refine lv_iadd hx hb dX9_doMove_108 ?_
  refine lv_aload_n hx hb dX9_doMove_109 rfl (lv_at hl 2 rfl) ?_
  refine va_get (D := D) (ci := 9) (v := .ref (aM 1)) (C := RX9) (T := TX9) (N := 13) hx hb hts iX9 hown hK hP 0 rfl rfl 0 (by decide) f7 (fun _ h9 => h9) rfl dX9_doMove_110 ?_
  refine lv_sipush (v := 357) hx hb dX9_doMove_113 (by decide) ?_
  refine lv_iload_n hx hb dX9_doMove_116 rfl (lv_at hl 1 rfl) ?_
  refine lv_iadd hx hb dX9_doMove_117 ?_
  obtain ⟨g_17, hE⟩ := gi_el hE
  refine va_lald hx hb hK hP 1 1 rfl rfl g_17 dX9_doMove_118 ?_
  obtain ⟨g_19, hE⟩ := gi_el hE
  obtain ⟨nM_18, e_nM_18, hE⟩ := lt_el hE
  refine s_la (ws1 := (W_M cy aM imM nM_18)) hx hb hK hP hD hS 1 rfl g_19 (by rw [e_nM_18]; rfl) dX9_doMove_119 (fun H locs hP hD hS => ?_)
  refine lv_aload_n hx hb dX9_doMove_120 rfl (lv_at hl 2 rfl) ?_
  refine va_get (D := D) (ci := 9) (v := .ref (aM 1)) (C := RX9) (T := TX9) (N := 13) hx hb hts iX9 hown hK hP 0 rfl rfl 0 (by decide) f7 (fun _ h9 => h9) rfl dX9_doMove_121 ?_
  refine lv_bipush (v := 57) hx hb dX9_doMove_124 (by decide) ?_
  refine lv_iload hx hb dX9_doMove_126 (lv_at hl 0 rfl) ?_
  refine lv_iadd hx hb dX9_doMove_128 ?_
  obtain ⟨g_20, hE⟩ := gi_el hE
  refine va_lald hx hb hK hP 1 1 rfl rfl g_20 dX9_doMove_129 ?_
  refine lv_l2i hx hb dX9_doMove_130 rfl ?_
  have hE := Option.some.inj hE
  obtain ⟨q0, q1⟩ := Prod.mk.inj hE
  exact ei hx hb hr hlocks hK hP hD hS q0 (by rw [q1]) dX9_doMove_131
abbrev rm_X9_move : Room := { frames := 3, cells := 0, slots := 0, locals := 68 }
set_option maxHeartbeats 40000000 in
set_option maxRecDepth 100000 in
theorem c_X9_move (l : Launch) (D : va_G) (cy : Nat → Nat) (aM : Nat → Nat) (x1 : Int32) (x2 : Int32) (imM : Mem) (inM : MemL) (r' : Int32) (mM' : Mem) (nM' : MemL) (hE : f_X9_move x1 x2 imM inM = some (r', mM', nM')) : CI l yX9_move wsX9_move rm_X9_move D cy [.ref (aM 0), .int x1, .int x2] (W_M cy aM imM inM) 0 0 r' (W_M cy aM mM' nM') := by
  refine CQ_of (cc := cX9_move) (maxL := 4) (ret := (some .int)) (by decide) rfl (Nat.le_of_ble_eq_true rfl) (fun p e s m args below meth c A ls hx hb hr hml hlocks hnm hown hts hA hK hN hP hD hS hl => ?_)
  have hown : s.vm.findClass RX9 = some m.cls := hown
  have hl : lv_has ls 4 [(0, .ref (aM 0)), (1, .int x1), (2, .int x2)] := hl
  have hC : CallFix p m c cX9_move 4 s args wsX9_move RX9 := ⟨hx, hb, hml, hown, hts⟩
  have f43 : (Cond.fieldLink RX9 43 "IcePlantModel" "thrown" "I").before args s = true := hts _ (mC qf_X9_43)
  have iX9 : ∀ w ∈ wsX90, w ∈ wsX9_move := fun w h => mC (iA_X9 w h)
  unfold f_X9_move at hE
  refine lv_aload_n hx hb dX9_move_0 rfl (lv_at hl 0 rfl) ?_
  refine lv_iconst (v := 0) hx hb dX9_move_1 (by decide) ?_
  obtain ⟨mM_1, e_mM_1, hE⟩ := lt_el hE
  refine s_pf (own := RX9) (C := RX9) (T := TX9) (N := 13) (ci := 9) (ws1 := (W_M cy aM mM_1 inM)) hx hb hts iX9 tyX9 tyX9_ok nmX9 hown hK hP hD hS 0 rfl rfl 8 (by decide) f43 rfl rfl rfl rfl (Nat.le_of_ble_eq_true rfl) (by rw [e_mM_1]; rfl) dX9_move_2 (fun H locs hP hD hS => ?_)
  refine lv_aload_n hx hb dX9_move_5 rfl (lv_at hl 0 rfl) ?_
  refine lv_iload_n hx hb dX9_move_6 rfl (lv_at hl 1 rfl) ?_
  refine lv_iload_n hx hb dX9_move_7 rfl (lv_at hl 2 rfl) ?_
  obtain ⟨r_2, hc_3, hE⟩ := bd1_el hE
  refine ki (X := []) (Y := []) (ws1 := (W_M cy aM mM_1 inM)) (rV (X := []) (Y := []) (As := [.int x1, .int x2]) (rest := []) hC (c_X9_moveThrows l D cy aM x1 x2 mM_1 inM r_2 hc_3) (cwV 2 hts gX9_move_X9_moveThrows rfl rfl rfl cd_X9_moveThrows ⟨Nat.le_of_ble_eq_true rfl, Nat.le_of_ble_eq_true rfl⟩) hK hN hP hD hS hA rfl 0 9 rfl rfl rfl hl.1 rfl (lv_room (Nat.le_of_ble_eq_true rfl)) dX9_move_8 ⟨Nat.le_of_ble_eq_true rfl, Nat.le_of_ble_eq_true rfl⟩) hP hD hS hA rfl rfl rfl (fun H locs hP hD hS => ?_)
  refine lv_istore_n (lv' := [(3, .int r_2), (0, .ref (aM 0)), (1, .int x1), (2, .int x2)]) hx hb dX9_move_11 rfl hl (by decide) rfl (fun ls hl => ?_)
  refine lv_iload_n hx hb dX9_move_12 rfl (lv_at hl 0 rfl) ?_
  refine lv_if_le (tgt := 22) hx hb dX9_move_13 (by decide) (fun c_4 => ?_) (fun c_4 => ?_)
  · replace hE := it_t hE c_4
    refine lv_aload_n hx hb dX9_move_22 rfl (lv_at hl 1 rfl) ?_
    obtain ⟨mM_5, nM_6, hc_7, hE⟩ := bd2_el hE
    refine kv (X := []) (Y := []) (ws1 := (W_M cy aM mM_5 nM_6)) (rV (X := []) (Y := []) (As := []) (rest := []) hC (c_X9_save l D cy aM mM_1 inM mM_5 nM_6 hc_7) (cwV 0 hts gX9_move_X9_save rfl rfl rfl cd_X9_save ⟨Nat.le_of_ble_eq_true rfl, Nat.le_of_ble_eq_true rfl⟩) hK hN hP hD hS hA rfl 0 9 rfl rfl rfl hl.1 rfl (lv_room (Nat.le_of_ble_eq_true rfl)) dX9_move_23 ⟨Nat.le_of_ble_eq_true rfl, Nat.le_of_ble_eq_true rfl⟩) hP hD hS hA rfl rfl rfl (fun H locs hP hD hS => ?_)
    refine lv_aload_n hx hb dX9_move_26 rfl (lv_at hl 1 rfl) ?_
    refine lv_iload_n hx hb dX9_move_27 rfl (lv_at hl 2 rfl) ?_
    refine lv_iload_n hx hb dX9_move_28 rfl (lv_at hl 3 rfl) ?_
    obtain ⟨r_8, nM_9, hc_10, hE⟩ := bd2_el hE
    refine ki (X := []) (Y := []) (ws1 := (W_M cy aM mM_5 nM_9)) (rV (X := []) (Y := []) (As := [.int x1, .int x2]) (rest := []) hC (c_X9_doMove l D cy aM x1 x2 mM_5 nM_6 r_8 nM_9 hc_10) (cwV 2 hts gX9_move_X9_doMove rfl rfl rfl cd_X9_doMove ⟨Nat.le_of_ble_eq_true rfl, Nat.le_of_ble_eq_true rfl⟩) hK hN hP hD hS hA rfl 0 9 rfl rfl rfl hl.1 rfl (lv_room (Nat.le_of_ble_eq_true rfl)) dX9_move_29 ⟨Nat.le_of_ble_eq_true rfl, Nat.le_of_ble_eq_true rfl⟩) hP hD hS hA rfl rfl rfl (fun H locs hP hD hS => ?_)
    have hE := Option.some.inj hE
    obtain ⟨q0, hE⟩ := Prod.mk.inj hE
    obtain ⟨q1, q2⟩ := Prod.mk.inj hE
    exact ei hx hb hr hlocks hK hP hD hS q0 (by rw [q1, q2]) dX9_move_32
  · replace hE := it_f hE c_4
    refine lv_aload_n hx hb dX9_move_16 rfl (lv_at hl 1 rfl) ?_
    refine lv_iload_n hx hb dX9_move_17 rfl (lv_at hl 0 rfl) ?_
    obtain ⟨r_11, mM_12, hc_13, hE⟩ := bd2_el hE
    refine ki (X := []) (Y := []) (ws1 := (W_M cy aM mM_12 inM)) (rV (X := []) (Y := []) (As := [.int r_2]) (rest := []) hC (c_X9_refuse l D cy aM r_2 mM_1 inM r_11 mM_12 hc_13) (cwV 1 hts gX9_move_X9_refuse rfl rfl rfl cd_X9_refuse ⟨Nat.le_of_ble_eq_true rfl, Nat.le_of_ble_eq_true rfl⟩) hK hN hP hD hS hA rfl 0 9 rfl rfl rfl hl.1 rfl (lv_room (Nat.le_of_ble_eq_true rfl)) dX9_move_18 ⟨Nat.le_of_ble_eq_true rfl, Nat.le_of_ble_eq_true rfl⟩) hP hD hS hA rfl rfl rfl (fun H locs hP hD hS => ?_)
    have hE := Option.some.inj hE
    obtain ⟨q0, hE⟩ := Prod.mk.inj hE
    obtain ⟨q1, q2⟩ := Prod.mk.inj hE
    exact ei hx hb hr hlocks hK hP hD hS q0 (by rw [q1, q2]) dX9_move_21
abbrev rm_X9_heat : Room := { frames := 0, cells := 0, slots := 0, locals := 0 }
set_option maxHeartbeats 40000000 in
set_option maxRecDepth 100000 in
theorem c_X9_heat (l : Launch) (D : va_G) (cy : Nat → Nat) (aM : Nat → Nat) (imM : Mem) (inM : MemL) (r' : Int64) (hE : f_X9_heat imM inM = some r') : CL l yX9_heat wsX9_heat rm_X9_heat D cy [.ref (aM 0)] (W_M cy aM imM inM) 0 0 r' (W_M cy aM imM inM) := by
  refine CQ_of (cc := cX9_heat) (maxL := 3) (ret := (some .long)) (by decide) rfl (Nat.le_of_ble_eq_true rfl) (fun p e s m args below meth c A ls hx hb hr hml hlocks hnm hown hts hA hK hN hP hD hS hl => ?_)
  have hown : s.vm.findClass RX9 = some m.cls := hown
  have hl : lv_has ls 3 [(0, .ref (aM 0))] := hl
  have f7 : (Cond.fieldLink RX9 7 "IcePlantModel" "w" "[J").before args s = true := hts _ (mC qf_X9_7)
  have iX9 : ∀ w ∈ wsX90, w ∈ wsX9_heat := fun w h => mC (iA_X9 w h)
  have k98 : (Cond.constantLong RX9 98 (24)).before args s = true := hts _ (mC qk_X9_98)
  unfold f_X9_heat at hE
  refine lv_aload_n hx hb dX9_heat_0 rfl (lv_at hl 0 rfl) ?_
  refine va_get (D := D) (ci := 9) (v := .ref (aM 1)) (C := RX9) (T := TX9) (N := 13) hx hb hts iX9 hown hK hP 0 rfl rfl 0 (by decide) f7 (fun _ h9 => h9) rfl dX9_heat_1 ?_
  refine lv_bipush (v := 8) hx hb dX9_heat_4 (by decide) ?_
  refine lv_aload_n hx hb dX9_heat_6 rfl (lv_at hl 0 rfl) ?_
  refine va_get (D := D) (ci := 9) (v := .ref (aM 1)) (C := RX9) (T := TX9) (N := 13) hx hb hts iX9 hown hK hP 0 rfl rfl 0 (by decide) f7 (fun _ h9 => h9) rfl dX9_heat_7 ?_
  refine lv_sipush (v := 1875) hx hb dX9_heat_10 (by decide) ?_
  refine va_lald hx hb hK hP 1 1 rfl rfl (show ¬ ((1875 : Int32) < 0 ∨ 1888 ≤ (1875 : Int32).toNatClampNeg) by decide) dX9_heat_13 ?_
  refine lv_ldc2 hx hb hown k98 dX9_heat_14 ?_
  refine lv_lrem hx hb dX9_heat_17 (by decide) ?_
  refine lv_l2i hx hb dX9_heat_18 rfl ?_
  refine lv_iadd hx hb dX9_heat_19 ?_
  obtain ⟨g_1, hE⟩ := gi_el hE
  refine va_lald hx hb hK hP 1 1 rfl rfl g_1 dX9_heat_20 ?_
  obtain ⟨x1_2, e_x1_2, hE⟩ := lt_el hE
  refine s_nmL e_x1_2 ?_
  refine lv_lstore_n (lv' := [(1, .long x1_2), (0, .ref (aM 0))]) hx hb dX9_heat_21 rfl hl (by decide) rfl (fun ls hl => ?_)
  refine lv_lload_n hx hb dX9_heat_22 rfl (lv_at hl 0 rfl) ?_
  refine lv_lconst (v := 0) hx hb dX9_heat_23 (by decide) ?_
  refine W.lcmp hx hb dX9_heat_24 ?_
  refine lv_if_ge (tgt := 32) hx hb dX9_heat_25 (by decide) (fun c_3 => ?_) (fun c_3 => ?_)
  · replace hE := it_t hE c_3
    refine lv_lload_n hx hb dX9_heat_32 rfl (lv_at hl 0 rfl) ?_
    have hE := Option.some.inj hE
    exact el hx hb hr hlocks hK hP hD hS hE rfl dX9_heat_33
  · replace hE := it_f hE c_3
    refine lv_lconst (v := 0) hx hb dX9_heat_28 (by decide) ?_
    refine lv_goto (tgt := 33) hx hb dX9_heat_29 (by decide) ?_
    have hE := Option.some.inj hE
    exact el hx hb hr hlocks hK hP hD hS hE rfl dX9_heat_33
abbrev rm_X9_lossOf : Room := { frames := 1, cells := 0, slots := 0, locals := 22 }
set_option maxHeartbeats 40000000 in
set_option maxRecDepth 100000 in
theorem c_X9_lossOf (l : Launch) (D : va_G) (cy : Nat → Nat) (aM : Nat → Nat) (x1 : Int32) (x2 : Int32) (x3 : Int32) (imM : Mem) (inM : MemL) (r' : Int64) (hE : f_X9_lossOf x1 x2 x3 imM inM = some r') : CL l yX9_lossOf wsX9_lossOf rm_X9_lossOf D cy [.ref (aM 0), .int x1, .int x2, .int x3] (W_M cy aM imM inM) 0 0 r' (W_M cy aM imM inM) := by
  refine CQ_of (cc := cX9_lossOf) (maxL := 10) (ret := (some .long)) (by decide) rfl (Nat.le_of_ble_eq_true rfl) (fun p e s m args below meth c A ls hx hb hr hml hlocks hnm hown hts hA hK hN hP hD hS hl => ?_)
  have hown : s.vm.findClass RX9 = some m.cls := hown
  have hl : lv_has ls 10 [(0, .ref (aM 0)), (1, .int x1), (2, .int x2), (3, .int x3)] := hl
  have hC : CallFix p m c cX9_lossOf 10 s args wsX9_lossOf RX9 := ⟨hx, hb, hml, hown, hts⟩
  have f7 : (Cond.fieldLink RX9 7 "IcePlantModel" "w" "[J").before args s = true := hts _ (mC qf_X9_7)
  have iX9 : ∀ w ∈ wsX90, w ∈ wsX9_lossOf := fun w h => mC (iA_X9 w h)
  have k100 : (Cond.constantLong RX9 100 (99)).before args s = true := hts _ (mC qk_X9_100)
  have k31 : (Cond.constantLong RX9 31 (2)).before args s = true := hts _ (mC qk_X9_31)
  have k35 : (Cond.constantLong RX9 35 (20)).before args s = true := hts _ (mC qk_X9_35)
  have k58 : (Cond.constantLong RX9 58 (100)).before args s = true := hts _ (mC qk_X9_58)
  have h124 : ∀ (x4 : Int64) (x8 : Int64), ∀  (H : Heap) (locs : List Loc) (ls : Array Slot), f_X9_lossOf_b124 x4 x8 imM inM = some r' → va_P D vwCl (W_M cy aM imM inM) H → va_D A (W_M cy aM imM inM) → va_S A s.heap H locs → lv_has ls 10 [(4, .long x4), (8, .long x8)] → W p l e rm_X9_lossOf s m args below meth c H locs 0 0 (MQ below (QL D cy r' (W_M cy aM imM inM) A) args s 0 0 A) (F0 m 124 ls []) := by
    intro x4 x8 H locs ls hE hP hD hS hl
    replace hE : ((if 0 ≤ (lg_cmp x8 x4) then some x4 else some x8)) = some r' := hE
    refine lv_lload hx hb dX9_lossOf_124 (lv_at hl 1 rfl) ?_
    refine lv_lload hx hb dX9_lossOf_126 (lv_at hl 0 rfl) ?_
    refine W.lcmp hx hb dX9_lossOf_128 ?_
    refine lv_if_ge (tgt := 137) hx hb dX9_lossOf_129 (by decide) (fun c_1 => ?_) (fun c_1 => ?_)
    · replace hE := it_t hE c_1
      refine lv_lload hx hb dX9_lossOf_137 (lv_at hl 0 rfl) ?_
      have hE := Option.some.inj hE
      exact el hx hb hr hlocks hK hP hD hS hE rfl dX9_lossOf_139
    · replace hE := it_f hE c_1
      refine lv_lload hx hb dX9_lossOf_132 (lv_at hl 1 rfl) ?_
      refine lv_goto (tgt := 139) hx hb dX9_lossOf_134 (by decide) ?_
      have hE := Option.some.inj hE
      exact el hx hb hr hlocks hK hP hD hS hE rfl dX9_lossOf_139
  unfold f_X9_lossOf at hE
  refine lv_aload_n hx hb dX9_lossOf_0 rfl (lv_at hl 0 rfl) ?_
  refine va_get (D := D) (ci := 9) (v := .ref (aM 1)) (C := RX9) (T := TX9) (N := 13) hx hb hts iX9 hown hK hP 0 rfl rfl 0 (by decide) f7 (fun _ h9 => h9) rfl dX9_lossOf_1 ?_
  refine lv_sipush (v := 207) hx hb dX9_lossOf_4 (by decide) ?_
  refine lv_bipush (v := 30) hx hb dX9_lossOf_7 (by decide) ?_
  refine lv_iload_n hx hb dX9_lossOf_9 rfl (lv_at hl 1 rfl) ?_
  refine lv_imul hx hb dX9_lossOf_10 ?_
  refine lv_iadd hx hb dX9_lossOf_11 ?_
  refine lv_iload_n hx hb dX9_lossOf_12 rfl (lv_at hl 2 rfl) ?_
  refine lv_iadd hx hb dX9_lossOf_13 ?_
  obtain ⟨g_2, hE⟩ := gi_el hE
  refine va_lald hx hb hK hP 1 1 rfl rfl g_2 dX9_lossOf_14 ?_
  obtain ⟨x4_3, e_x4_3, hE⟩ := lt_el hE
  refine s_nmL e_x4_3 ?_
  refine lv_lstore (lv' := [(4, .long x4_3), (0, .ref (aM 0)), (1, .int x1), (2, .int x2), (3, .int x3)]) hx hb dX9_lossOf_15 hl (by decide) rfl (fun ls hl => ?_)
  refine lv_aload_n hx hb dX9_lossOf_17 rfl (lv_at hl 1 rfl) ?_
  refine va_get (D := D) (ci := 9) (v := .ref (aM 1)) (C := RX9) (T := TX9) (N := 13) hx hb hts iX9 hown hK hP 0 rfl rfl 0 (by decide) f7 (fun _ h9 => h9) rfl dX9_lossOf_18 ?_
  refine lv_bipush (v := 42) hx hb dX9_lossOf_21 (by decide) ?_
  refine lv_iload_n hx hb dX9_lossOf_23 rfl (lv_at hl 2 rfl) ?_
  refine lv_iadd hx hb dX9_lossOf_24 ?_
  obtain ⟨g_4, hE⟩ := gi_el hE
  refine va_lald hx hb hK hP 1 1 rfl rfl g_4 dX9_lossOf_25 ?_
  obtain ⟨x6_5, e_x6_5, hE⟩ := lt_el hE
  refine s_nmL e_x6_5 ?_
  refine lv_lstore (lv' := [(6, .long x6_5), (4, .long x4_3), (0, .ref (aM 0)), (1, .int x1), (2, .int x2), (3, .int x3)]) hx hb dX9_lossOf_26 hl (by decide) rfl (fun ls hl => ?_)
  refine lv_lconst (v := 0) hx hb dX9_lossOf_28 (by decide) ?_
  refine lv_lstore (lv' := [(8, .long (0 : Int64)), (6, .long x6_5), (4, .long x4_3), (0, .ref (aM 0)), (1, .int x1), (2, .int x2), (3, .int x3)]) hx hb dX9_lossOf_29 hl (by decide) rfl (fun ls hl => ?_)
  refine lv_aload_n hx hb dX9_lossOf_31 rfl (lv_at hl 3 rfl) ?_
  refine va_get (D := D) (ci := 9) (v := .ref (aM 1)) (C := RX9) (T := TX9) (N := 13) hx hb hts iX9 hown hK hP 0 rfl rfl 0 (by decide) f7 (fun _ h9 => h9) rfl dX9_lossOf_32 ?_
  refine lv_bipush (v := 37) hx hb dX9_lossOf_35 (by decide) ?_
  refine lv_iload_n hx hb dX9_lossOf_37 rfl (lv_at hl 4 rfl) ?_
  refine lv_iadd hx hb dX9_lossOf_38 ?_
  obtain ⟨g_6, hE⟩ := gi_el hE
  refine va_lald hx hb hK hP 1 1 rfl rfl g_6 dX9_lossOf_39 ?_
  refine lv_lconst (v := 0) hx hb dX9_lossOf_40 (by decide) ?_
  refine W.lcmp hx hb dX9_lossOf_41 ?_
  refine lv_if_ne (tgt := 52) hx hb dX9_lossOf_42 (by decide) (fun c_7 => ?_) (fun c_7 => ?_)
  · replace hE := it_f hE c_7
    refine lv_aload_n hx hb dX9_lossOf_52 rfl (lv_at hl 3 rfl) ?_
    refine va_get (D := D) (ci := 9) (v := .ref (aM 1)) (C := RX9) (T := TX9) (N := 13) hx hb hts iX9 hown hK hP 0 rfl rfl 0 (by decide) f7 (fun _ h9 => h9) rfl dX9_lossOf_53 ?_
    refine lv_bipush (v := 37) hx hb dX9_lossOf_56 (by decide) ?_
    refine lv_iload_n hx hb dX9_lossOf_58 rfl (lv_at hl 4 rfl) ?_
    refine lv_iadd hx hb dX9_lossOf_59 ?_
    obtain ⟨g_8, hE⟩ := gi_el hE
    refine va_lald hx hb hK hP 1 1 rfl rfl g_8 dX9_lossOf_60 ?_
    refine lv_lconst (v := 1) hx hb dX9_lossOf_61 (by decide) ?_
    refine W.lcmp hx hb dX9_lossOf_62 ?_
    refine lv_if_ne (tgt := 84) hx hb dX9_lossOf_63 (by decide) (fun c_9 => ?_) (fun c_9 => ?_)
    · replace hE := it_f hE c_9
      refine lv_aload_n hx hb dX9_lossOf_84 rfl (lv_at hl 3 rfl) ?_
      refine va_get (D := D) (ci := 9) (v := .ref (aM 1)) (C := RX9) (T := TX9) (N := 13) hx hb hts iX9 hown hK hP 0 rfl rfl 0 (by decide) f7 (fun _ h9 => h9) rfl dX9_lossOf_85 ?_
      refine lv_bipush (v := 37) hx hb dX9_lossOf_88 (by decide) ?_
      refine lv_iload_n hx hb dX9_lossOf_90 rfl (lv_at hl 4 rfl) ?_
      refine lv_iadd hx hb dX9_lossOf_91 ?_
      obtain ⟨g_10, hE⟩ := gi_el hE
      refine va_lald hx hb hK hP 1 1 rfl rfl g_10 dX9_lossOf_92 ?_
      refine lv_ldc2 hx hb hown k31 dX9_lossOf_93 ?_
      refine W.lcmp hx hb dX9_lossOf_96 ?_
      refine lv_if_ne (tgt := 116) hx hb dX9_lossOf_97 (by decide) (fun c_11 => ?_) (fun c_11 => ?_)
      · replace hE := it_f hE c_11
        refine lv_iload_n hx hb dX9_lossOf_116 rfl (lv_at hl 6 rfl) ?_
        refine lv_if_eq (tgt := 124) hx hb dX9_lossOf_117 (by decide) (fun c_12 => ?_) (fun c_12 => ?_)
        · replace hE := it_t hE c_12
          exact h124 x4_3 (0 : Int64) _ _ _ hE hP hD hS (lv_sub hl [2, 0] rfl)
        · replace hE := it_f hE c_12
          refine lv_lload hx hb dX9_lossOf_120 (lv_at hl 1 rfl) ?_
          refine lv_lstore (lv' := [(8, .long x6_5), (6, .long x6_5), (4, .long x4_3), (0, .ref (aM 0)), (1, .int x1), (2, .int x2), (3, .int x3)]) hx hb dX9_lossOf_122 hl (by decide) rfl (fun ls hl => ?_)
          exact h124 x4_3 x6_5 _ _ _ hE hP hD hS (lv_sub hl [2, 0] rfl)
      · replace hE := it_t hE c_11
        refine lv_aload_n hx hb dX9_lossOf_100 rfl (lv_at hl 3 rfl) ?_
        obtain ⟨r_13, hc_14, hE⟩ := bd1_el hE
        refine kl (X := []) (Y := []) (ws1 := (W_M cy aM imM inM)) (rV (X := []) (Y := []) (As := []) (rest := []) hC (c_X9_heat l D cy aM imM inM r_13 hc_14) (cwV 0 hts gX9_lossOf_X9_heat rfl rfl rfl cd_X9_heat ⟨Nat.le_of_ble_eq_true rfl, Nat.le_of_ble_eq_true rfl⟩) hK hN hP hD hS hA rfl 0 9 rfl rfl rfl hl.1 rfl (lv_room (Nat.le_of_ble_eq_true rfl)) dX9_lossOf_101 ⟨Nat.le_of_ble_eq_true rfl, Nat.le_of_ble_eq_true rfl⟩) hP hD hS hA rfl rfl rfl (fun H locs hP hD hS => ?_)
        refine lv_lload hx hb dX9_lossOf_104 (lv_at hl 1 rfl) ?_
        refine lv_lmul hx hb dX9_lossOf_106 ?_
        refine lv_ldc2 hx hb hown k35 dX9_lossOf_107 ?_
        refine lv_ldiv hx hb dX9_lossOf_110 (by decide) ?_
        obtain ⟨x8_15, e_x8_15, hE⟩ := lt_el hE
        refine s_nmL e_x8_15 ?_
        refine lv_lstore (lv' := [(8, .long x8_15), (6, .long x6_5), (4, .long x4_3), (0, .ref (aM 0)), (1, .int x1), (2, .int x2), (3, .int x3)]) hx hb dX9_lossOf_111 hl (by decide) rfl (fun ls hl => ?_)
        refine lv_goto (tgt := 124) hx hb dX9_lossOf_113 (by decide) ?_
        exact h124 x4_3 x8_15 _ _ _ hE hP hD hS (lv_sub hl [2, 0] rfl)
    · replace hE := it_t hE c_9
      refine lv_lload hx hb dX9_lossOf_66 (lv_at hl 2 rfl) ?_
      refine lv_lload hx hb dX9_lossOf_68 (lv_at hl 1 rfl) ?_
      refine lv_lmul hx hb dX9_lossOf_70 ?_
      refine lv_ldc2 hx hb hown k100 dX9_lossOf_71 ?_
      refine lv_ladd hx hb dX9_lossOf_74 ?_
      refine lv_ldc2 hx hb hown k58 dX9_lossOf_75 ?_
      refine lv_ldiv hx hb dX9_lossOf_78 (by decide) ?_
      obtain ⟨x8_16, e_x8_16, hE⟩ := lt_el hE
      refine s_nmL e_x8_16 ?_
      refine lv_lstore (lv' := [(8, .long x8_16), (6, .long x6_5), (4, .long x4_3), (0, .ref (aM 0)), (1, .int x1), (2, .int x2), (3, .int x3)]) hx hb dX9_lossOf_79 hl (by decide) rfl (fun ls hl => ?_)
      refine lv_goto (tgt := 124) hx hb dX9_lossOf_81 (by decide) ?_
      exact h124 x4_3 x8_16 _ _ _ hE hP hD hS (lv_sub hl [2, 0] rfl)
  · replace hE := it_t hE c_7
    refine lv_lload hx hb dX9_lossOf_45 (lv_at hl 1 rfl) ?_
    refine lv_lstore (lv' := [(8, .long x6_5), (6, .long x6_5), (4, .long x4_3), (0, .ref (aM 0)), (1, .int x1), (2, .int x2), (3, .int x3)]) hx hb dX9_lossOf_47 hl (by decide) rfl (fun ls hl => ?_)
    refine lv_goto (tgt := 124) hx hb dX9_lossOf_49 (by decide) ?_
    exact h124 x4_3 x6_5 _ _ _ hE hP hD hS (lv_sub hl [2, 0] rfl)
abbrev rm_X9_removeBlock : Room := { frames := 0, cells := 0, slots := 0, locals := 0 }
set_option maxHeartbeats 40000000 in
set_option maxRecDepth 100000 in
theorem c_X9_removeBlock (l : Launch) (D : va_G) (cy : Nat → Nat) (aM : Nat → Nat) (x1 : Int32) (x2 : Int32) (imM : Mem) (inM : MemL) (nM' : MemL) (hE : f_X9_removeBlock x1 x2 imM inM = some nM') : CV l yX9_removeBlock wsX9_removeBlock rm_X9_removeBlock D cy [.ref (aM 0), .int x1, .int x2] (W_M cy aM imM inM) 0 0 (W_M cy aM imM nM') := by
  refine CQ_of (cc := cX9_removeBlock) (maxL := 4) (ret := none) (by decide) rfl (Nat.le_of_ble_eq_true rfl) (fun p e s m args below meth c A ls hx hb hr hml hlocks hnm hown hts hA hK hN hP hD hS hl => ?_)
  have hown : s.vm.findClass RX9 = some m.cls := hown
  have hl : lv_has ls 4 [(0, .ref (aM 0)), (1, .int x1), (2, .int x2)] := hl
  have f7 : (Cond.fieldLink RX9 7 "IcePlantModel" "w" "[J").before args s = true := hts _ (mC qf_X9_7)
  have iX9 : ∀ w ∈ wsX90, w ∈ wsX9_removeBlock := fun w h => mC (iA_X9 w h)
  have h20 : ∀ (x1 : Int32), ∀ (n : Nat), ∀ (x3 : Int32) (nM : MemL) (H : Heap) (locs : List Loc) (ls : Array Slot), f_X9_removeBlock_L20 x1 imM n x3 nM = some nM' → va_P D vwCl (W_M cy aM imM nM) H → va_D A (W_M cy aM imM nM) → va_S A s.heap H locs → lv_has ls 4 [(0, .ref (aM 0)), (1, .int x1), (3, .int x3)] → W p l e rm_X9_removeBlock s m args below meth c H locs 0 0 (MQ below (QV D cy (W_M cy aM imM nM') A) args s 0 0 A) (F0 m 20 ls []) := by
    intro x1 n
    induction n with
    | zero => intro x3 nM H locs ls hE; exact absurd hE (fun h9 => nomatch h9)
    | succ n ih =>
      intro x3 nM H locs ls hE hP hD hS hl
      replace hE : (gi ((47 : Int32) + x1) 1888 ((if 0 ≤ (lg_cmp (x3.toInt64) ((((30 : Int32) * x1).toInt64) + (nM 0 ((47 : Int32) + x1).toNatClampNeg))) then some nM else gi (((57 : Int32) + x3) + (1 : Int32)) 1888 (gi ((57 : Int32) + x3) 1888 (lt' (wrL nM 0 (vp_updL (nM 0) ((57 : Int32) + x3).toNatClampNeg (nM 0 (((57 : Int32) + x3) + (1 : Int32)).toNatClampNeg))) fun nM_4 => gi (((207 : Int32) + x3) + (1 : Int32)) 1888 (gi ((207 : Int32) + x3) 1888 (lt' (wrL nM_4 0 (vp_updL (nM_4 0) ((207 : Int32) + x3).toNatClampNeg (nM_4 0 (((207 : Int32) + x3) + (1 : Int32)).toNatClampNeg))) fun nM_7 => gi (((357 : Int32) + x3) + (1 : Int32)) 1888 (gi ((357 : Int32) + x3) 1888 (lt' (wrL nM_7 0 (vp_updL (nM_7 0) ((357 : Int32) + x3).toNatClampNeg (nM_7 0 (((357 : Int32) + x3) + (1 : Int32)).toNatClampNeg))) fun nM_10 => lt' (x3 + (1 : Int32)) fun x3_12 => (f_X9_removeBlock_L20 x1 imM n) x3_12 nM_10))))))))) = some nM' := hE
      refine lv_iload_n hx hb dX9_removeBlock_20 rfl (lv_at hl 2 rfl) ?_
      refine lv_i2l hx hb dX9_removeBlock_21 rfl ?_
      refine lv_bipush (v := 30) hx hb dX9_removeBlock_22 (by decide) ?_
      refine lv_iload_n hx hb dX9_removeBlock_24 rfl (lv_at hl 1 rfl) ?_
      refine lv_imul hx hb dX9_removeBlock_25 ?_
      refine lv_i2l hx hb dX9_removeBlock_26 rfl ?_
      refine lv_aload_n hx hb dX9_removeBlock_27 rfl (lv_at hl 0 rfl) ?_
      refine va_get (D := D) (ci := 9) (v := .ref (aM 1)) (C := RX9) (T := TX9) (N := 13) hx hb hts iX9 hown hK hP 0 rfl rfl 0 (by decide) f7 (fun _ h9 => h9) rfl dX9_removeBlock_28 ?_
      refine lv_bipush (v := 47) hx hb dX9_removeBlock_31 (by decide) ?_
      refine lv_iload_n hx hb dX9_removeBlock_33 rfl (lv_at hl 1 rfl) ?_
      refine lv_iadd hx hb dX9_removeBlock_34 ?_
      obtain ⟨g_1, hE⟩ := gi_el hE
      refine va_lald hx hb hK hP 1 1 rfl rfl g_1 dX9_removeBlock_35 ?_
      refine lv_ladd hx hb dX9_removeBlock_36 ?_
      refine W.lcmp hx hb dX9_removeBlock_37 ?_
      refine lv_if_ge (tgt := 111) hx hb dX9_removeBlock_38 (by decide) (fun c_2 => ?_) (fun c_2 => ?_)
      · replace hE := it_t hE c_2
        have hE := Option.some.inj hE
        exact ev hx hb hr hlocks hK hP hD hS (by rw [hE]) dX9_removeBlock_111
      · replace hE := it_f hE c_2
        refine lv_aload_n hx hb dX9_removeBlock_41 rfl (lv_at hl 0 rfl) ?_
        refine va_get (D := D) (ci := 9) (v := .ref (aM 1)) (C := RX9) (T := TX9) (N := 13) hx hb hts iX9 hown hK hP 0 rfl rfl 0 (by decide) f7 (fun _ h9 => h9) rfl dX9_removeBlock_42 ?_
        refine lv_bipush (v := 57) hx hb dX9_removeBlock_45 (by decide) ?_
        refine lv_iload_n hx hb dX9_removeBlock_47 rfl (lv_at hl 2 rfl) ?_
        refine lv_iadd hx hb dX9_removeBlock_48 ?_
        refine lv_aload_n hx hb dX9_removeBlock_49 rfl (lv_at hl 0 rfl) ?_
        refine va_get (D := D) (ci := 9) (v := .ref (aM 1)) (C := RX9) (T := TX9) (N := 13) hx hb hts iX9 hown hK hP 0 rfl rfl 0 (by decide) f7 (fun _ h9 => h9) rfl dX9_removeBlock_50 ?_
        refine lv_bipush (v := 57) hx hb dX9_removeBlock_53 (by decide) ?_
        refine lv_iload_n hx hb dX9_removeBlock_55 rfl (lv_at hl 2 rfl) ?_
        refine lv_iadd hx hb dX9_removeBlock_56 ?_
        refine lv_iconst (v := 1) hx hb dX9_removeBlock_57 (by decide) ?_
        refine lv_iadd hx hb dX9_removeBlock_58 ?_
        obtain ⟨g_3, hE⟩ := gi_el hE
        refine va_lald hx hb hK hP 1 1 rfl rfl g_3 dX9_removeBlock_59 ?_
        obtain ⟨g_5, hE⟩ := gi_el hE
        obtain ⟨nM_4, e_nM_4, hE⟩ := lt_el hE
        refine s_la (ws1 := (W_M cy aM imM nM_4)) hx hb hK hP hD hS 1 rfl g_5 (by rw [e_nM_4]; rfl) dX9_removeBlock_60 (fun H locs hP hD hS => ?_)
        refine lv_aload_n hx hb dX9_removeBlock_61 rfl (lv_at hl 0 rfl) ?_
        refine va_get (D := D) (ci := 9) (v := .ref (aM 1)) (C := RX9) (T := TX9) (N := 13) hx hb hts iX9 hown hK hP 0 rfl rfl 0 (by decide) f7 (fun _ h9 => h9) rfl dX9_removeBlock_62 ?_
        refine lv_sipush (v := 207) hx hb dX9_removeBlock_65 (by decide) ?_
        refine lv_iload_n hx hb dX9_removeBlock_68 rfl (lv_at hl 2 rfl) ?_
        refine lv_iadd hx hb dX9_removeBlock_69 ?_
        refine lv_aload_n hx hb dX9_removeBlock_70 rfl (lv_at hl 0 rfl) ?_
        refine va_get (D := D) (ci := 9) (v := .ref (aM 1)) (C := RX9) (T := TX9) (N := 13) hx hb hts iX9 hown hK hP 0 rfl rfl 0 (by decide) f7 (fun _ h9 => h9) rfl dX9_removeBlock_71 ?_
        refine lv_sipush (v := 207) hx hb dX9_removeBlock_74 (by decide) ?_
        refine lv_iload_n hx hb dX9_removeBlock_77 rfl (lv_at hl 2 rfl) ?_
        refine lv_iadd hx hb dX9_removeBlock_78 ?_
        refine lv_iconst (v := 1) hx hb dX9_removeBlock_79 (by decide) ?_
        refine lv_iadd hx hb dX9_removeBlock_80 ?_
        obtain ⟨g_6, hE⟩ := gi_el hE
        refine va_lald hx hb hK hP 1 1 rfl rfl g_6 dX9_removeBlock_81 ?_
        obtain ⟨g_8, hE⟩ := gi_el hE
        obtain ⟨nM_7, e_nM_7, hE⟩ := lt_el hE
        refine s_la (ws1 := (W_M cy aM imM nM_7)) hx hb hK hP hD hS 1 rfl g_8 (by rw [e_nM_7]; rfl) dX9_removeBlock_82 (fun H locs hP hD hS => ?_)
        refine lv_aload_n hx hb dX9_removeBlock_83 rfl (lv_at hl 0 rfl) ?_
        refine va_get (D := D) (ci := 9) (v := .ref (aM 1)) (C := RX9) (T := TX9) (N := 13) hx hb hts iX9 hown hK hP 0 rfl rfl 0 (by decide) f7 (fun _ h9 => h9) rfl dX9_removeBlock_84 ?_
        refine lv_sipush (v := 357) hx hb dX9_removeBlock_87 (by decide) ?_
        refine lv_iload_n hx hb dX9_removeBlock_90 rfl (lv_at hl 2 rfl) ?_
        refine lv_iadd hx hb dX9_removeBlock_91 ?_
        refine lv_aload_n hx hb dX9_removeBlock_92 rfl (lv_at hl 0 rfl) ?_
        refine va_get (D := D) (ci := 9) (v := .ref (aM 1)) (C := RX9) (T := TX9) (N := 13) hx hb hts iX9 hown hK hP 0 rfl rfl 0 (by decide) f7 (fun _ h9 => h9) rfl dX9_removeBlock_93 ?_
        refine lv_sipush (v := 357) hx hb dX9_removeBlock_96 (by decide) ?_
        refine lv_iload_n hx hb dX9_removeBlock_99 rfl (lv_at hl 2 rfl) ?_
        refine lv_iadd hx hb dX9_removeBlock_100 ?_
        refine lv_iconst (v := 1) hx hb dX9_removeBlock_101 (by decide) ?_
        refine lv_iadd hx hb dX9_removeBlock_102 ?_
        obtain ⟨g_9, hE⟩ := gi_el hE
        refine va_lald hx hb hK hP 1 1 rfl rfl g_9 dX9_removeBlock_103 ?_
        obtain ⟨g_11, hE⟩ := gi_el hE
        obtain ⟨nM_10, e_nM_10, hE⟩ := lt_el hE
        refine s_la (ws1 := (W_M cy aM imM nM_10)) hx hb hK hP hD hS 1 rfl g_11 (by rw [e_nM_10]; rfl) dX9_removeBlock_104 (fun H locs hP hD hS => ?_)
        obtain ⟨x3_12, e_x3_12, hE⟩ := lt_el hE
        refine lv_iinc (v := x3_12) (lv' := [(3, .int x3_12), (0, .ref (aM 0)), (1, .int x1)]) hx hb dX9_removeBlock_105 hl (k := 2) rfl (by rw [e_x3_12]; rfl) (by decide) rfl (fun ls hl => ?_)
        refine lv_goto (tgt := 20) hx hb dX9_removeBlock_108 (by decide) ?_
        exact ih x3_12 nM_10 _ _ _ hE hP hD hS (lv_sub hl [1, 2, 0] rfl)
  unfold f_X9_removeBlock at hE
  refine lv_aload_n hx hb dX9_removeBlock_0 rfl (lv_at hl 0 rfl) ?_
  refine va_get (D := D) (ci := 9) (v := .ref (aM 1)) (C := RX9) (T := TX9) (N := 13) hx hb hts iX9 hown hK hP 0 rfl rfl 0 (by decide) f7 (fun _ h9 => h9) rfl dX9_removeBlock_1 ?_
  refine lv_bipush (v := 47) hx hb dX9_removeBlock_4 (by decide) ?_
  refine lv_iload_n hx hb dX9_removeBlock_6 rfl (lv_at hl 1 rfl) ?_
  refine lv_iadd hx hb dX9_removeBlock_7 ?_
  refine lv_dup2_11 hx hb dX9_removeBlock_8 rfl rfl ?_
  obtain ⟨g_13, hE⟩ := gi_el hE
  refine va_lald hx hb hK hP 1 1 rfl rfl g_13 dX9_removeBlock_9 ?_
  refine lv_lconst (v := 1) hx hb dX9_removeBlock_10 (by decide) ?_
  refine lv_lsub hx hb dX9_removeBlock_11 ?_
  obtain ⟨g_15, hE⟩ := gi_el hE
  obtain ⟨nM_14, e_nM_14, hE⟩ := lt_el hE
  refine s_la (ws1 := (W_M cy aM imM nM_14)) hx hb hK hP hD hS 1 rfl g_15 (by rw [e_nM_14]; rfl) dX9_removeBlock_12 (fun H locs hP hD hS => ?_)
  refine lv_bipush (v := 30) hx hb dX9_removeBlock_13 (by decide) ?_
  refine lv_iload_n hx hb dX9_removeBlock_15 rfl (lv_at hl 1 rfl) ?_
  refine lv_imul hx hb dX9_removeBlock_16 ?_
  refine lv_iload_n hx hb dX9_removeBlock_17 rfl (lv_at hl 2 rfl) ?_
  refine lv_iadd hx hb dX9_removeBlock_18 ?_
  obtain ⟨x3_16, e_x3_16, hE⟩ := lt_el hE
  refine s_nm e_x3_16 ?_
  refine lv_istore_n (lv' := [(3, .int x3_16), (0, .ref (aM 0)), (1, .int x1), (2, .int x2)]) hx hb dX9_removeBlock_19 rfl hl (by decide) rfl (fun ls hl => ?_)
  exact h20 x1 fuel x3_16 nM_14 _ _ _ hE hP hD hS (lv_sub hl [1, 2, 0] rfl)
abbrev rm_X9_melt : Room := { frames := 2, cells := 0, slots := 0, locals := 51 }
set_option maxHeartbeats 40000000 in
set_option maxRecDepth 100000 in
theorem c_X9_melt (l : Launch) (D : va_G) (cy : Nat → Nat) (aM : Nat → Nat) (imM : Mem) (inM : MemL) (nM' : MemL) (hE : f_X9_melt imM inM = some nM') : CV l yX9_melt wsX9_melt rm_X9_melt D cy [.ref (aM 0)] (W_M cy aM imM inM) 0 0 (W_M cy aM imM nM') := by
  refine CQ_of (cc := cX9_melt) (maxL := 5) (ret := none) (by decide) rfl (Nat.le_of_ble_eq_true rfl) (fun p e s m args below meth c A ls hx hb hr hml hlocks hnm hown hts hA hK hN hP hD hS hl => ?_)
  have hown : s.vm.findClass RX9 = some m.cls := hown
  have hl : lv_has ls 5 [(0, .ref (aM 0))] := hl
  have hC : CallFix p m c cX9_melt 5 s args wsX9_melt RX9 := ⟨hx, hb, hml, hown, hts⟩
  have f7 : (Cond.fieldLink RX9 7 "IcePlantModel" "w" "[J").before args s = true := hts _ (mC qf_X9_7)
  have iX9 : ∀ w ∈ wsX90, w ∈ wsX9_melt := fun w h => mC (iA_X9 w h)
  have h155 : ∀ (x1 : Int32) (x2 : Int32) (nM : MemL), ∀ (k2 : (Int32 → MemL → Option (MemL))), (∀ (x1 : Int32) (nM : MemL) (H : Heap) (locs : List Loc) (ls : Array Slot), k2 x1 nM = some nM' → va_P D vwCl (W_M cy aM imM nM) H → va_D A (W_M cy aM imM nM) → va_S A s.heap H locs → lv_has ls 5 [(0, .ref (aM 0)), (1, .int x1)] → W p l e rm_X9_melt s m args below meth c H locs 0 0 (MQ below (QV D cy (W_M cy aM imM nM') A) args s 0 0 A) (F0 m 2 ls [])) → ∀ (k125 : (Int32 → MemL → Option (MemL))), (∀ (x2 : Int32) (nM : MemL) (H : Heap) (locs : List Loc) (ls : Array Slot), k125 x2 nM = some nM' → va_P D vwCl (W_M cy aM imM nM) H → va_D A (W_M cy aM imM nM) → va_S A s.heap H locs → lv_has ls 5 [(0, .ref (aM 0)), (1, .int x1), (2, .int x2)] → W p l e rm_X9_melt s m args below meth c H locs 0 0 (MQ below (QV D cy (W_M cy aM imM nM') A) args s 0 0 A) (F0 m 125 ls [])) → ∀  (H : Heap) (locs : List Loc) (ls : Array Slot), f_X9_melt_b155 k2 k125 x1 x2 imM nM = some nM' → va_P D vwCl (W_M cy aM imM nM) H → va_D A (W_M cy aM imM nM) → va_S A s.heap H locs → lv_has ls 5 [(0, .ref (aM 0)), (1, .int x1), (2, .int x2)] → W p l e rm_X9_melt s m args below meth c H locs 0 0 (MQ below (QV D cy (W_M cy aM imM nM') A) args s 0 0 A) (F0 m 155 ls []) := by
    intro x1 x2 nM k2 hk2 k125 hk125 H locs ls hE hP hD hS hl
    replace hE : (lt' (x2 + (-1 : Int32)) fun x2_1 => k125 x2_1 nM) = some nM' := hE
    obtain ⟨x2_1, e_x2_1, hE⟩ := lt_el hE
    refine lv_iinc (v := x2_1) (lv' := [(2, .int x2_1), (0, .ref (aM 0)), (1, .int x1)]) hx hb dX9_melt_155 hl (k := 2) rfl (by rw [e_x2_1]; rfl) (by decide) rfl (fun ls hl => ?_)
    refine lv_goto (tgt := 125) hx hb dX9_melt_158 (by decide) ?_
    exact hk125 x2_1 nM _ _ _ hE hP hD hS (lv_sub hl [1, 2, 0] rfl)
  have h125 : ∀ (x1 : Int32), ∀ (k2 : (Int32 → MemL → Option (MemL))), (∀ (x1 : Int32) (nM : MemL) (H : Heap) (locs : List Loc) (ls : Array Slot), k2 x1 nM = some nM' → va_P D vwCl (W_M cy aM imM nM) H → va_D A (W_M cy aM imM nM) → va_S A s.heap H locs → lv_has ls 5 [(0, .ref (aM 0)), (1, .int x1)] → W p l e rm_X9_melt s m args below meth c H locs 0 0 (MQ below (QV D cy (W_M cy aM imM nM') A) args s 0 0 A) (F0 m 2 ls [])) → ∀ (n : Nat), ∀ (x2 : Int32) (nM : MemL) (H : Heap) (locs : List Loc) (ls : Array Slot), f_X9_melt_L125 k2 x1 imM n x2 nM = some nM' → va_P D vwCl (W_M cy aM imM nM) H → va_D A (W_M cy aM imM nM) → va_S A s.heap H locs → lv_has ls 5 [(0, .ref (aM 0)), (1, .int x1), (2, .int x2)] → W p l e rm_X9_melt s m args below meth c H locs 0 0 (MQ below (QV D cy (W_M cy aM imM nM') A) args s 0 0 A) (F0 m 125 ls []) := by
    intro x1 k2 hk2 n
    induction n with
    | zero => intro x2 nM H locs ls hE; exact absurd hE (fun h9 => nomatch h9)
    | succ n ih =>
      intro x2 nM H locs ls hE hP hD hS hl
      replace hE : ((if x2 < 0 then lt' (x1 + (1 : Int32)) fun x1_3 => k2 x1_3 nM else gi (((207 : Int32) + ((30 : Int32) * x1)) + x2) 1888 ((if (lg_cmp (nM 0 (((207 : Int32) + ((30 : Int32) * x1)) + x2).toNatClampNeg) (0 : Int64)) = 0 then bd1 (f_X9_removeBlock x1 x2 imM nM) fun nM_6 => f_X9_melt_b155 k2 (f_X9_melt_L125 k2 x1 imM n) x1 x2 imM nM_6 else f_X9_melt_b155 k2 (f_X9_melt_L125 k2 x1 imM n) x1 x2 imM nM)))) = some nM' := hE
      refine lv_iload_n hx hb dX9_melt_125 rfl (lv_at hl 2 rfl) ?_
      refine lv_if_lt (tgt := 161) hx hb dX9_melt_126 (by decide) (fun c_2 => ?_) (fun c_2 => ?_)
      · replace hE := it_t hE c_2
        obtain ⟨x1_3, e_x1_3, hE⟩ := lt_el hE
        refine lv_iinc (v := x1_3) (lv' := [(1, .int x1_3), (0, .ref (aM 0)), (2, .int x2)]) hx hb dX9_melt_161 hl (k := 1) rfl (by rw [e_x1_3]; rfl) (by decide) rfl (fun ls hl => ?_)
        refine lv_goto (tgt := 2) hx hb dX9_melt_164 (by decide) ?_
        exact hk2 x1_3 nM _ _ _ hE hP hD hS (lv_sub hl [1, 0] rfl)
      · replace hE := it_f hE c_2
        refine lv_aload_n hx hb dX9_melt_129 rfl (lv_at hl 0 rfl) ?_
        refine va_get (D := D) (ci := 9) (v := .ref (aM 1)) (C := RX9) (T := TX9) (N := 13) hx hb hts iX9 hown hK hP 0 rfl rfl 0 (by decide) f7 (fun _ h9 => h9) rfl dX9_melt_130 ?_
        refine lv_sipush (v := 207) hx hb dX9_melt_133 (by decide) ?_
        refine lv_bipush (v := 30) hx hb dX9_melt_136 (by decide) ?_
        refine lv_iload_n hx hb dX9_melt_138 rfl (lv_at hl 1 rfl) ?_
        refine lv_imul hx hb dX9_melt_139 ?_
        refine lv_iadd hx hb dX9_melt_140 ?_
        refine lv_iload_n hx hb dX9_melt_141 rfl (lv_at hl 2 rfl) ?_
        refine lv_iadd hx hb dX9_melt_142 ?_
        obtain ⟨g_4, hE⟩ := gi_el hE
        refine va_lald hx hb hK hP 1 1 rfl rfl g_4 dX9_melt_143 ?_
        refine lv_lconst (v := 0) hx hb dX9_melt_144 (by decide) ?_
        refine W.lcmp hx hb dX9_melt_145 ?_
        refine lv_if_ne (tgt := 155) hx hb dX9_melt_146 (by decide) (fun c_5 => ?_) (fun c_5 => ?_)
        · replace hE := it_f hE c_5
          exact h155 x1 x2 nM k2 hk2 (f_X9_melt_L125 k2 x1 imM n) ih _ _ _ hE hP hD hS (lv_sub hl [0, 1, 2] rfl)
        · replace hE := it_t hE c_5
          refine lv_aload_n hx hb dX9_melt_149 rfl (lv_at hl 0 rfl) ?_
          refine lv_iload_n hx hb dX9_melt_150 rfl (lv_at hl 1 rfl) ?_
          refine lv_iload_n hx hb dX9_melt_151 rfl (lv_at hl 2 rfl) ?_
          obtain ⟨nM_6, hc_7, hE⟩ := bd1_el hE
          refine kv (X := []) (Y := []) (ws1 := (W_M cy aM imM nM_6)) (rV (X := []) (Y := []) (As := [.int x1, .int x2]) (rest := []) hC (c_X9_removeBlock l D cy aM x1 x2 imM nM nM_6 hc_7) (cwV 2 hts gX9_melt_X9_removeBlock rfl rfl rfl cd_X9_removeBlock ⟨Nat.le_of_ble_eq_true rfl, Nat.le_of_ble_eq_true rfl⟩) hK hN hP hD hS hA rfl 0 9 rfl rfl rfl hl.1 rfl (lv_room (Nat.le_of_ble_eq_true rfl)) dX9_melt_152 ⟨Nat.le_of_ble_eq_true rfl, Nat.le_of_ble_eq_true rfl⟩) hP hD hS hA rfl rfl rfl (fun H locs hP hD hS => ?_)
          exact h155 x1 x2 nM_6 k2 hk2 (f_X9_melt_L125 k2 x1 imM n) ih _ _ _ hE hP hD hS (lv_sub hl [0, 1, 2] rfl)
  have h58 : ∀ (x1 : Int32) (x2 : Int32) (t0 : Int32) (t1 : Int32) (t2 : Int32) (nM : MemL), ∀ (k2 : (Int32 → MemL → Option (MemL))), (∀ (x1 : Int32) (nM : MemL) (H : Heap) (locs : List Loc) (ls : Array Slot), k2 x1 nM = some nM' → va_P D vwCl (W_M cy aM imM nM) H → va_D A (W_M cy aM imM nM) → va_S A s.heap H locs → lv_has ls 5 [(0, .ref (aM 0)), (1, .int x1)] → W p l e rm_X9_melt s m args below meth c H locs 0 0 (MQ below (QV D cy (W_M cy aM imM nM') A) args s 0 0 A) (F0 m 2 ls [])) → ∀ (k18 : (Int32 → MemL → Option (MemL))), (∀ (x2 : Int32) (nM : MemL) (H : Heap) (locs : List Loc) (ls : Array Slot), k18 x2 nM = some nM' → va_P D vwCl (W_M cy aM imM nM) H → va_D A (W_M cy aM imM nM) → va_S A s.heap H locs → lv_has ls 5 [(0, .ref (aM 0)), (1, .int x1), (2, .int x2)] → W p l e rm_X9_melt s m args below meth c H locs 0 0 (MQ below (QV D cy (W_M cy aM imM nM') A) args s 0 0 A) (F0 m 18 ls [])) → ∀  (H : Heap) (locs : List Loc) (ls : Array Slot), f_X9_melt_b58 k2 k18 x1 x2 t0 t1 t2 imM nM = some nM' → va_P D vwCl (W_M cy aM imM nM) H → va_D A (W_M cy aM imM nM) → va_S A s.heap H locs → lv_has ls 5 [(0, .ref (aM 0)), (1, .int x1), (2, .int x2)] → W p l e rm_X9_melt s m args below meth c H locs 0 0 (MQ below (QV D cy (W_M cy aM imM nM') A) args s 0 0 A) (F0 m 58 ls [.int t0, .int t1, .int t2, .ref (aM 0)]) := by
    intro x1 x2 t0 t1 t2 nM k2 hk2 k18 hk18 H locs ls hE hP hD hS hl
    replace hE : (bd1 (f_X9_lossOf t2 t1 t0 imM nM) fun r_8 => gi (((207 : Int32) + ((30 : Int32) * x1)) + x2) 1888 (gi (((207 : Int32) + ((30 : Int32) * x1)) + x2) 1888 (lt' (wrL nM 0 (vp_updL (nM 0) (((207 : Int32) + ((30 : Int32) * x1)) + x2).toNatClampNeg ((nM 0 (((207 : Int32) + ((30 : Int32) * x1)) + x2).toNatClampNeg) - r_8))) fun nM_11 => gi ((52 : Int32) + x1) 1888 (gi ((52 : Int32) + x1) 1888 (lt' (wrL nM_11 0 (vp_updL (nM_11 0) ((52 : Int32) + x1).toNatClampNeg ((nM_11 0 ((52 : Int32) + x1).toNatClampNeg) + r_8))) fun nM_14 => lt' (wrL nM_14 0 (vp_updL (nM_14 0) (1878 : Int32).toNatClampNeg ((nM_14 0 (1878 : Int32).toNatClampNeg) + r_8))) fun nM_16 => lt' (x2 + (1 : Int32)) fun x2_17 => k18 x2_17 nM_16))))) = some nM' := hE
    obtain ⟨r_8, hc_9, hE⟩ := bd1_el hE
    refine kl (X := []) (Y := []) (ws1 := (W_M cy aM imM nM)) (rV (X := []) (Y := []) (As := [.int t2, .int t1, .int t0]) (rest := []) hC (c_X9_lossOf l D cy aM t2 t1 t0 imM nM r_8 hc_9) (cwV 3 hts gX9_melt_X9_lossOf rfl rfl rfl cd_X9_lossOf ⟨Nat.le_of_ble_eq_true rfl, Nat.le_of_ble_eq_true rfl⟩) hK hN hP hD hS hA rfl 0 9 rfl rfl rfl hl.1 rfl (lv_room (Nat.le_of_ble_eq_true rfl)) dX9_melt_58 ⟨Nat.le_of_ble_eq_true rfl, Nat.le_of_ble_eq_true rfl⟩) hP hD hS hA rfl rfl rfl (fun H locs hP hD hS => ?_)
    refine lv_lstore_n (lv' := [(3, .long r_8), (0, .ref (aM 0)), (1, .int x1), (2, .int x2)]) hx hb dX9_melt_61 rfl hl (by decide) rfl (fun ls hl => ?_)
    refine lv_aload_n hx hb dX9_melt_62 rfl (lv_at hl 1 rfl) ?_
    refine va_get (D := D) (ci := 9) (v := .ref (aM 1)) (C := RX9) (T := TX9) (N := 13) hx hb hts iX9 hown hK hP 0 rfl rfl 0 (by decide) f7 (fun _ h9 => h9) rfl dX9_melt_63 ?_
    refine lv_sipush (v := 207) hx hb dX9_melt_66 (by decide) ?_
    refine lv_bipush (v := 30) hx hb dX9_melt_69 (by decide) ?_
    refine lv_iload_n hx hb dX9_melt_71 rfl (lv_at hl 2 rfl) ?_
    refine lv_imul hx hb dX9_melt_72 ?_
    refine lv_iadd hx hb dX9_melt_73 ?_
    refine lv_iload_n hx hb dX9_melt_74 rfl (lv_at hl 3 rfl) ?_
    refine lv_iadd hx hb dX9_melt_75 ?_
    refine lv_dup2_11 hx hb dX9_melt_76 rfl rfl ?_
    obtain ⟨g_10, hE⟩ := gi_el hE
    refine va_lald hx hb hK hP 1 1 rfl rfl g_10 dX9_melt_77 ?_
    refine lv_lload_n hx hb dX9_melt_78 rfl (lv_at hl 0 rfl) ?_
    refine lv_lsub hx hb dX9_melt_79 ?_
    obtain ⟨g_12, hE⟩ := gi_el hE
    obtain ⟨nM_11, e_nM_11, hE⟩ := lt_el hE
    refine s_la (ws1 := (W_M cy aM imM nM_11)) hx hb hK hP hD hS 1 rfl g_12 (by rw [e_nM_11]; rfl) dX9_melt_80 (fun H locs hP hD hS => ?_)
    refine lv_aload_n hx hb dX9_melt_81 rfl (lv_at hl 1 rfl) ?_
    refine va_get (D := D) (ci := 9) (v := .ref (aM 1)) (C := RX9) (T := TX9) (N := 13) hx hb hts iX9 hown hK hP 0 rfl rfl 0 (by decide) f7 (fun _ h9 => h9) rfl dX9_melt_82 ?_
    refine lv_bipush (v := 52) hx hb dX9_melt_85 (by decide) ?_
    refine lv_iload_n hx hb dX9_melt_87 rfl (lv_at hl 2 rfl) ?_
    refine lv_iadd hx hb dX9_melt_88 ?_
    refine lv_dup2_11 hx hb dX9_melt_89 rfl rfl ?_
    obtain ⟨g_13, hE⟩ := gi_el hE
    refine va_lald hx hb hK hP 1 1 rfl rfl g_13 dX9_melt_90 ?_
    refine lv_lload_n hx hb dX9_melt_91 rfl (lv_at hl 0 rfl) ?_
    refine lv_ladd hx hb dX9_melt_92 ?_
    obtain ⟨g_15, hE⟩ := gi_el hE
    obtain ⟨nM_14, e_nM_14, hE⟩ := lt_el hE
    refine s_la (ws1 := (W_M cy aM imM nM_14)) hx hb hK hP hD hS 1 rfl g_15 (by rw [e_nM_14]; rfl) dX9_melt_93 (fun H locs hP hD hS => ?_)
    refine lv_aload_n hx hb dX9_melt_94 rfl (lv_at hl 1 rfl) ?_
    refine va_get (D := D) (ci := 9) (v := .ref (aM 1)) (C := RX9) (T := TX9) (N := 13) hx hb hts iX9 hown hK hP 0 rfl rfl 0 (by decide) f7 (fun _ h9 => h9) rfl dX9_melt_95 ?_
    refine lv_sipush (v := 1878) hx hb dX9_melt_98 (by decide) ?_
    refine lv_dup2_11 hx hb dX9_melt_101 rfl rfl ?_
    refine va_lald hx hb hK hP 1 1 rfl rfl (show ¬ ((1878 : Int32) < 0 ∨ 1888 ≤ (1878 : Int32).toNatClampNeg) by decide) dX9_melt_102 ?_
    refine lv_lload_n hx hb dX9_melt_103 rfl (lv_at hl 0 rfl) ?_
    refine lv_ladd hx hb dX9_melt_104 ?_
    obtain ⟨nM_16, e_nM_16, hE⟩ := lt_el hE
    refine s_la (ws1 := (W_M cy aM imM nM_16)) hx hb hK hP hD hS 1 rfl (show ¬ ((1878 : Int32) < 0 ∨ 1888 ≤ (1878 : Int32).toNatClampNeg) by decide) (by rw [e_nM_16]; rfl) dX9_melt_105 (fun H locs hP hD hS => ?_)
    obtain ⟨x2_17, e_x2_17, hE⟩ := lt_el hE
    refine lv_iinc (v := x2_17) (lv' := [(2, .int x2_17), (3, .long r_8), (0, .ref (aM 0)), (1, .int x1)]) hx hb dX9_melt_106 hl (k := 3) rfl (by rw [e_x2_17]; rfl) (by decide) rfl (fun ls hl => ?_)
    refine lv_goto (tgt := 18) hx hb dX9_melt_109 (by decide) ?_
    exact hk18 x2_17 nM_16 _ _ _ hE hP hD hS (lv_sub hl [2, 3, 0] rfl)
  have h18 : ∀ (x1 : Int32), ∀ (k2 : (Int32 → MemL → Option (MemL))), (∀ (x1 : Int32) (nM : MemL) (H : Heap) (locs : List Loc) (ls : Array Slot), k2 x1 nM = some nM' → va_P D vwCl (W_M cy aM imM nM) H → va_D A (W_M cy aM imM nM) → va_S A s.heap H locs → lv_has ls 5 [(0, .ref (aM 0)), (1, .int x1)] → W p l e rm_X9_melt s m args below meth c H locs 0 0 (MQ below (QV D cy (W_M cy aM imM nM') A) args s 0 0 A) (F0 m 2 ls [])) → ∀ (n : Nat), ∀ (x2 : Int32) (nM : MemL) (H : Heap) (locs : List Loc) (ls : Array Slot), f_X9_melt_L18 k2 x1 imM n x2 nM = some nM' → va_P D vwCl (W_M cy aM imM nM) H → va_D A (W_M cy aM imM nM) → va_S A s.heap H locs → lv_has ls 5 [(0, .ref (aM 0)), (1, .int x1), (2, .int x2)] → W p l e rm_X9_melt s m args below meth c H locs 0 0 (MQ below (QV D cy (W_M cy aM imM nM') A) args s 0 0 A) (F0 m 18 ls []) := by
    intro x1 k2 hk2 n
    induction n with
    | zero => intro x2 nM H locs ls hE; exact absurd hE (fun h9 => nomatch h9)
    | succ n ih =>
      intro x2 nM H locs ls hE hP hD hS hl
      replace hE : (gi ((47 : Int32) + x1) 1888 ((if 0 ≤ (lg_cmp (x2.toInt64) (nM 0 ((47 : Int32) + x1).toNatClampNeg)) then gi ((47 : Int32) + x1) 1888 (lt' (((nM 0 ((47 : Int32) + x1).toNatClampNeg).toInt32) - (1 : Int32)) fun x2_21 => f_X9_melt_L125 k2 x1 imM fuel x2_21 nM) else gi ((47 : Int32) + x1) 1888 ((if (lg_cmp (x2.toInt64) ((nM 0 ((47 : Int32) + x1).toNatClampNeg) - (1 : Int64))) = 0 then f_X9_melt_b58 k2 (f_X9_melt_L18 k2 x1 imM n) x1 x2 (1 : Int32) x2 x1 imM nM else f_X9_melt_b58 k2 (f_X9_melt_L18 k2 x1 imM n) x1 x2 (0 : Int32) x2 x1 imM nM))))) = some nM' := hE
      refine lv_iload_n hx hb dX9_melt_18 rfl (lv_at hl 2 rfl) ?_
      refine lv_i2l hx hb dX9_melt_19 rfl ?_
      refine lv_aload_n hx hb dX9_melt_20 rfl (lv_at hl 0 rfl) ?_
      refine va_get (D := D) (ci := 9) (v := .ref (aM 1)) (C := RX9) (T := TX9) (N := 13) hx hb hts iX9 hown hK hP 0 rfl rfl 0 (by decide) f7 (fun _ h9 => h9) rfl dX9_melt_21 ?_
      refine lv_bipush (v := 47) hx hb dX9_melt_24 (by decide) ?_
      refine lv_iload_n hx hb dX9_melt_26 rfl (lv_at hl 1 rfl) ?_
      refine lv_iadd hx hb dX9_melt_27 ?_
      obtain ⟨g_18, hE⟩ := gi_el hE
      refine va_lald hx hb hK hP 1 1 rfl rfl g_18 dX9_melt_28 ?_
      refine W.lcmp hx hb dX9_melt_29 ?_
      refine lv_if_ge (tgt := 112) hx hb dX9_melt_30 (by decide) (fun c_19 => ?_) (fun c_19 => ?_)
      · replace hE := it_t hE c_19
        refine lv_aload_n hx hb dX9_melt_112 rfl (lv_at hl 0 rfl) ?_
        refine va_get (D := D) (ci := 9) (v := .ref (aM 1)) (C := RX9) (T := TX9) (N := 13) hx hb hts iX9 hown hK hP 0 rfl rfl 0 (by decide) f7 (fun _ h9 => h9) rfl dX9_melt_113 ?_
        refine lv_bipush (v := 47) hx hb dX9_melt_116 (by decide) ?_
        refine lv_iload_n hx hb dX9_melt_118 rfl (lv_at hl 1 rfl) ?_
        refine lv_iadd hx hb dX9_melt_119 ?_
        obtain ⟨g_20, hE⟩ := gi_el hE
        refine va_lald hx hb hK hP 1 1 rfl rfl g_20 dX9_melt_120 ?_
        refine lv_l2i hx hb dX9_melt_121 rfl ?_
        refine lv_iconst (v := 1) hx hb dX9_melt_122 (by decide) ?_
        refine lv_isub hx hb dX9_melt_123 ?_
        obtain ⟨x2_21, e_x2_21, hE⟩ := lt_el hE
        refine s_nm e_x2_21 ?_
        refine lv_istore_n (lv' := [(2, .int x2_21), (0, .ref (aM 0)), (1, .int x1)]) hx hb dX9_melt_124 rfl hl (by decide) rfl (fun ls hl => ?_)
        exact h125 x1 k2 hk2 fuel x2_21 nM _ _ _ hE hP hD hS (lv_sub hl [1, 2, 0] rfl)
      · replace hE := it_f hE c_19
        refine lv_aload_n hx hb dX9_melt_33 rfl (lv_at hl 0 rfl) ?_
        refine lv_iload_n hx hb dX9_melt_34 rfl (lv_at hl 1 rfl) ?_
        refine lv_iload_n hx hb dX9_melt_35 rfl (lv_at hl 2 rfl) ?_
        refine lv_iload_n hx hb dX9_melt_36 rfl (lv_at hl 2 rfl) ?_
        refine lv_i2l hx hb dX9_melt_37 rfl ?_
        refine lv_aload_n hx hb dX9_melt_38 rfl (lv_at hl 0 rfl) ?_
        refine va_get (D := D) (ci := 9) (v := .ref (aM 1)) (C := RX9) (T := TX9) (N := 13) hx hb hts iX9 hown hK hP 0 rfl rfl 0 (by decide) f7 (fun _ h9 => h9) rfl dX9_melt_39 ?_
        refine lv_bipush (v := 47) hx hb dX9_melt_42 (by decide) ?_
        refine lv_iload_n hx hb dX9_melt_44 rfl (lv_at hl 1 rfl) ?_
        refine lv_iadd hx hb dX9_melt_45 ?_
        obtain ⟨g_22, hE⟩ := gi_el hE
        refine va_lald hx hb hK hP 1 1 rfl rfl g_22 dX9_melt_46 ?_
        refine lv_lconst (v := 1) hx hb dX9_melt_47 (by decide) ?_
        refine lv_lsub hx hb dX9_melt_48 ?_
        refine W.lcmp hx hb dX9_melt_49 ?_
        refine lv_if_ne (tgt := 57) hx hb dX9_melt_50 (by decide) (fun c_23 => ?_) (fun c_23 => ?_)
        · replace hE := it_f hE c_23
          refine lv_iconst (v := 0) hx hb dX9_melt_57 (by decide) ?_
          exact h58 x1 x2 (0 : Int32) x2 x1 nM k2 hk2 (f_X9_melt_L18 k2 x1 imM n) ih _ _ _ hE hP hD hS (lv_sub hl [0, 1, 2] rfl)
        · replace hE := it_t hE c_23
          refine lv_iconst (v := 1) hx hb dX9_melt_53 (by decide) ?_
          refine lv_goto (tgt := 58) hx hb dX9_melt_54 (by decide) ?_
          exact h58 x1 x2 (1 : Int32) x2 x1 nM k2 hk2 (f_X9_melt_L18 k2 x1 imM n) ih _ _ _ hE hP hD hS (lv_sub hl [0, 1, 2] rfl)
  have h2 : ∀ (n : Nat), ∀ (x1 : Int32) (nM : MemL) (H : Heap) (locs : List Loc) (ls : Array Slot), f_X9_melt_L2 imM n x1 nM = some nM' → va_P D vwCl (W_M cy aM imM nM) H → va_D A (W_M cy aM imM nM) → va_S A s.heap H locs → lv_has ls 5 [(0, .ref (aM 0)), (1, .int x1)] → W p l e rm_X9_melt s m args below meth c H locs 0 0 (MQ below (QV D cy (W_M cy aM imM nM') A) args s 0 0 A) (F0 m 2 ls []) := by
    intro n
    induction n with
    | zero => intro x1 nM H locs ls hE; exact absurd hE (fun h9 => nomatch h9)
    | succ n ih =>
      intro x1 nM H locs ls hE hP hD hS hl
      replace hE : ((if 0 ≤ (lg_cmp (x1.toInt64) (nM 0 (1880 : Int32).toNatClampNeg)) then some nM else f_X9_melt_L18 (f_X9_melt_L2 imM n) x1 imM fuel (0 : Int32) nM)) = some nM' := hE
      refine lv_iload_n hx hb dX9_melt_2 rfl (lv_at hl 1 rfl) ?_
      refine lv_i2l hx hb dX9_melt_3 rfl ?_
      refine lv_aload_n hx hb dX9_melt_4 rfl (lv_at hl 0 rfl) ?_
      refine va_get (D := D) (ci := 9) (v := .ref (aM 1)) (C := RX9) (T := TX9) (N := 13) hx hb hts iX9 hown hK hP 0 rfl rfl 0 (by decide) f7 (fun _ h9 => h9) rfl dX9_melt_5 ?_
      refine lv_sipush (v := 1880) hx hb dX9_melt_8 (by decide) ?_
      refine va_lald hx hb hK hP 1 1 rfl rfl (show ¬ ((1880 : Int32) < 0 ∨ 1888 ≤ (1880 : Int32).toNatClampNeg) by decide) dX9_melt_11 ?_
      refine W.lcmp hx hb dX9_melt_12 ?_
      refine lv_if_ge (tgt := 167) hx hb dX9_melt_13 (by decide) (fun c_24 => ?_) (fun c_24 => ?_)
      · replace hE := it_t hE c_24
        have hE := Option.some.inj hE
        exact ev hx hb hr hlocks hK hP hD hS (by rw [hE]) dX9_melt_167
      · replace hE := it_f hE c_24
        refine lv_iconst (v := 0) hx hb dX9_melt_16 (by decide) ?_
        refine lv_istore_n (lv' := [(2, .int (0 : Int32)), (0, .ref (aM 0)), (1, .int x1)]) hx hb dX9_melt_17 rfl hl (by decide) rfl (fun ls hl => ?_)
        exact h18 x1 (f_X9_melt_L2 imM n) ih fuel (0 : Int32) nM _ _ _ hE hP hD hS (lv_sub hl [1, 2, 0] rfl)
  unfold f_X9_melt at hE
  refine lv_iconst (v := 0) hx hb dX9_melt_0 (by decide) ?_
  refine lv_istore_n (lv' := [(1, .int (0 : Int32)), (0, .ref (aM 0))]) hx hb dX9_melt_1 rfl hl (by decide) rfl (fun ls hl => ?_)
  exact h2 fuel (0 : Int32) inM _ _ _ hE hP hD hS (lv_sub hl [1, 0] rfl)
abbrev rm_X9_freeSilo : Room := { frames := 0, cells := 0, slots := 0, locals := 0 }
set_option maxHeartbeats 40000000 in
set_option maxRecDepth 100000 in
theorem c_X9_freeSilo (l : Launch) (D : va_G) (cy : Nat → Nat) (aM : Nat → Nat) (imM : Mem) (inM : MemL) (r' : Int32) (hE : f_X9_freeSilo imM inM = some r') : CI l yX9_freeSilo wsX9_freeSilo rm_X9_freeSilo D cy [.ref (aM 0)] (W_M cy aM imM inM) 0 0 r' (W_M cy aM imM inM) := by
  refine CQ_of (cc := cX9_freeSilo) (maxL := 2) (ret := (some .int)) (by decide) rfl (Nat.le_of_ble_eq_true rfl) (fun p e s m args below meth c A ls hx hb hr hml hlocks hnm hown hts hA hK hN hP hD hS hl => ?_)
  have hown : s.vm.findClass RX9 = some m.cls := hown
  have hl : lv_has ls 2 [(0, .ref (aM 0))] := hl
  have f7 : (Cond.fieldLink RX9 7 "IcePlantModel" "w" "[J").before args s = true := hts _ (mC qf_X9_7)
  have iX9 : ∀ w ∈ wsX90, w ∈ wsX9_freeSilo := fun w h => mC (iA_X9 w h)
  have h2 : ∀ (n : Nat), ∀ (x1 : Int32) (H : Heap) (locs : List Loc) (ls : Array Slot), f_X9_freeSilo_L2 imM inM n x1 = some r' → va_P D vwCl (W_M cy aM imM inM) H → va_D A (W_M cy aM imM inM) → va_S A s.heap H locs → lv_has ls 2 [(0, .ref (aM 0)), (1, .int x1)] → W p l e rm_X9_freeSilo s m args below meth c H locs 0 0 (MQ below (QI D cy r' (W_M cy aM imM inM) A) args s 0 0 A) (F0 m 2 ls []) := by
    intro n
    induction n with
    | zero => intro x1 H locs ls hE; exact absurd hE (fun h9 => nomatch h9)
    | succ n ih =>
      intro x1 H locs ls hE hP hD hS hl
      replace hE : ((if 0 ≤ (lg_cmp (x1.toInt64) (inM 0 (1880 : Int32).toNatClampNeg)) then some (-1 : Int32) else gi ((47 : Int32) + x1) 1888 (gi ((32 : Int32) + x1) 1888 ((if 0 ≤ (lg_cmp (inM 0 ((47 : Int32) + x1).toNatClampNeg) (inM 0 ((32 : Int32) + x1).toNatClampNeg)) then lt' (x1 + (1 : Int32)) fun x1_5 => (f_X9_freeSilo_L2 imM inM n) x1_5 else some x1))))) = some r' := hE
      refine lv_iload_n hx hb dX9_freeSilo_2 rfl (lv_at hl 1 rfl) ?_
      refine lv_i2l hx hb dX9_freeSilo_3 rfl ?_
      refine lv_aload_n hx hb dX9_freeSilo_4 rfl (lv_at hl 0 rfl) ?_
      refine va_get (D := D) (ci := 9) (v := .ref (aM 1)) (C := RX9) (T := TX9) (N := 13) hx hb hts iX9 hown hK hP 0 rfl rfl 0 (by decide) f7 (fun _ h9 => h9) rfl dX9_freeSilo_5 ?_
      refine lv_sipush (v := 1880) hx hb dX9_freeSilo_8 (by decide) ?_
      refine va_lald hx hb hK hP 1 1 rfl rfl (show ¬ ((1880 : Int32) < 0 ∨ 1888 ≤ (1880 : Int32).toNatClampNeg) by decide) dX9_freeSilo_11 ?_
      refine W.lcmp hx hb dX9_freeSilo_12 ?_
      refine lv_if_ge (tgt := 46) hx hb dX9_freeSilo_13 (by decide) (fun c_1 => ?_) (fun c_1 => ?_)
      · replace hE := it_t hE c_1
        refine lv_iconst (v := (-1)) hx hb dX9_freeSilo_46 (by decide) ?_
        have hE := Option.some.inj hE
        exact ei hx hb hr hlocks hK hP hD hS hE rfl dX9_freeSilo_47
      · replace hE := it_f hE c_1
        refine lv_aload_n hx hb dX9_freeSilo_16 rfl (lv_at hl 0 rfl) ?_
        refine va_get (D := D) (ci := 9) (v := .ref (aM 1)) (C := RX9) (T := TX9) (N := 13) hx hb hts iX9 hown hK hP 0 rfl rfl 0 (by decide) f7 (fun _ h9 => h9) rfl dX9_freeSilo_17 ?_
        refine lv_bipush (v := 47) hx hb dX9_freeSilo_20 (by decide) ?_
        refine lv_iload_n hx hb dX9_freeSilo_22 rfl (lv_at hl 1 rfl) ?_
        refine lv_iadd hx hb dX9_freeSilo_23 ?_
        obtain ⟨g_2, hE⟩ := gi_el hE
        refine va_lald hx hb hK hP 1 1 rfl rfl g_2 dX9_freeSilo_24 ?_
        refine lv_aload_n hx hb dX9_freeSilo_25 rfl (lv_at hl 0 rfl) ?_
        refine va_get (D := D) (ci := 9) (v := .ref (aM 1)) (C := RX9) (T := TX9) (N := 13) hx hb hts iX9 hown hK hP 0 rfl rfl 0 (by decide) f7 (fun _ h9 => h9) rfl dX9_freeSilo_26 ?_
        refine lv_bipush (v := 32) hx hb dX9_freeSilo_29 (by decide) ?_
        refine lv_iload_n hx hb dX9_freeSilo_31 rfl (lv_at hl 1 rfl) ?_
        refine lv_iadd hx hb dX9_freeSilo_32 ?_
        obtain ⟨g_3, hE⟩ := gi_el hE
        refine va_lald hx hb hK hP 1 1 rfl rfl g_3 dX9_freeSilo_33 ?_
        refine W.lcmp hx hb dX9_freeSilo_34 ?_
        refine lv_if_ge (tgt := 40) hx hb dX9_freeSilo_35 (by decide) (fun c_4 => ?_) (fun c_4 => ?_)
        · replace hE := it_t hE c_4
          obtain ⟨x1_5, e_x1_5, hE⟩ := lt_el hE
          refine lv_iinc (v := x1_5) (lv' := [(1, .int x1_5), (0, .ref (aM 0))]) hx hb dX9_freeSilo_40 hl (k := 1) rfl (by rw [e_x1_5]; rfl) (by decide) rfl (fun ls hl => ?_)
          refine lv_goto (tgt := 2) hx hb dX9_freeSilo_43 (by decide) ?_
          exact ih x1_5 _ _ _ hE hP hD hS (lv_sub hl [1, 0] rfl)
        · replace hE := it_f hE c_4
          refine lv_iload_n hx hb dX9_freeSilo_38 rfl (lv_at hl 1 rfl) ?_
          have hE := Option.some.inj hE
          exact ei hx hb hr hlocks hK hP hD hS hE rfl dX9_freeSilo_39
  unfold f_X9_freeSilo at hE
  refine lv_iconst (v := 0) hx hb dX9_freeSilo_0 (by decide) ?_
  refine lv_istore_n (lv' := [(1, .int (0 : Int32)), (0, .ref (aM 0))]) hx hb dX9_freeSilo_1 rfl hl (by decide) rfl (fun ls hl => ?_)
  exact h2 fuel (0 : Int32) _ _ _ hE hP hD hS (lv_sub hl [1, 0] rfl)
abbrev rm_X9_produce : Room := { frames := 1, cells := 0, slots := 0, locals := 21 }
set_option maxHeartbeats 40000000 in
set_option maxRecDepth 100000 in
theorem c_X9_produce (l : Launch) (D : va_G) (cy : Nat → Nat) (aM : Nat → Nat) (imM : Mem) (inM : MemL) (nM' : MemL) (hE : f_X9_produce imM inM = some nM') : CV l yX9_produce wsX9_produce rm_X9_produce D cy [.ref (aM 0)] (W_M cy aM imM inM) 0 0 (W_M cy aM imM nM') := by
  refine CQ_of (cc := cX9_produce) (maxL := 4) (ret := none) (by decide) rfl (Nat.le_of_ble_eq_true rfl) (fun p e s m args below meth c A ls hx hb hr hml hlocks hnm hown hts hA hK hN hP hD hS hl => ?_)
  have hown : s.vm.findClass RX9 = some m.cls := hown
  have hl : lv_has ls 4 [(0, .ref (aM 0))] := hl
  have hC : CallFix p m c cX9_produce 4 s args wsX9_produce RX9 := ⟨hx, hb, hml, hown, hts⟩
  have f7 : (Cond.fieldLink RX9 7 "IcePlantModel" "w" "[J").before args s = true := hts _ (mC qf_X9_7)
  have iX9 : ∀ w ∈ wsX90, w ∈ wsX9_produce := fun w h => mC (iA_X9 w h)
  have h141 : ∀ (x1 : Int32) (nM : MemL), ∀ (k2 : (Int32 → MemL → Option (MemL))), (∀ (x1 : Int32) (nM : MemL) (H : Heap) (locs : List Loc) (ls : Array Slot), k2 x1 nM = some nM' → va_P D vwCl (W_M cy aM imM nM) H → va_D A (W_M cy aM imM nM) → va_S A s.heap H locs → lv_has ls 4 [(0, .ref (aM 0)), (1, .int x1)] → W p l e rm_X9_produce s m args below meth c H locs 0 0 (MQ below (QV D cy (W_M cy aM imM nM') A) args s 0 0 A) (F0 m 2 ls [])) → ∀  (H : Heap) (locs : List Loc) (ls : Array Slot), f_X9_produce_b141 k2 x1 imM nM = some nM' → va_P D vwCl (W_M cy aM imM nM) H → va_D A (W_M cy aM imM nM) → va_S A s.heap H locs → lv_has ls 4 [(0, .ref (aM 0)), (1, .int x1)] → W p l e rm_X9_produce s m args below meth c H locs 0 0 (MQ below (QV D cy (W_M cy aM imM nM') A) args s 0 0 A) (F0 m 141 ls []) := by
    intro x1 nM k2 hk2 H locs ls hE hP hD hS hl
    replace hE : (lt' (x1 + (1 : Int32)) fun x1_1 => k2 x1_1 nM) = some nM' := hE
    obtain ⟨x1_1, e_x1_1, hE⟩ := lt_el hE
    refine lv_iinc (v := x1_1) (lv' := [(1, .int x1_1), (0, .ref (aM 0))]) hx hb dX9_produce_141 hl (k := 1) rfl (by rw [e_x1_1]; rfl) (by decide) rfl (fun ls hl => ?_)
    refine lv_goto (tgt := 2) hx hb dX9_produce_144 (by decide) ?_
    exact hk2 x1_1 nM _ _ _ hE hP hD hS (lv_sub hl [1, 0] rfl)
  have h2 : ∀ (n : Nat), ∀ (x1 : Int32) (nM : MemL) (H : Heap) (locs : List Loc) (ls : Array Slot), f_X9_produce_L2 imM n x1 nM = some nM' → va_P D vwCl (W_M cy aM imM nM) H → va_D A (W_M cy aM imM nM) → va_S A s.heap H locs → lv_has ls 4 [(0, .ref (aM 0)), (1, .int x1)] → W p l e rm_X9_produce s m args below meth c H locs 0 0 (MQ below (QV D cy (W_M cy aM imM nM') A) args s 0 0 A) (F0 m 2 ls []) := by
    intro n
    induction n with
    | zero => intro x1 nM H locs ls hE; exact absurd hE (fun h9 => nomatch h9)
    | succ n ih =>
      intro x1 nM H locs ls hE hP hD hS hl
      replace hE : ((if 0 ≤ (lg_cmp (x1.toInt64) (nM 0 (1 : Int32).toNatClampNeg)) then some nM else bd1 (f_X9_freeSilo imM nM) fun r_3 => (if r_3 = (-1 : Int32) then lt' (wrL nM 0 (vp_updL (nM 0) (1879 : Int32).toNatClampNeg ((nM 0 (1879 : Int32).toNatClampNeg) + (1 : Int64)))) fun nM_19 => f_X9_produce_b141 (f_X9_produce_L2 imM n) x1 imM nM_19 else gi ((47 : Int32) + r_3) 1888 (lt' (((30 : Int32) * r_3) + ((nM 0 ((47 : Int32) + r_3).toNatClampNeg).toInt32)) fun x3_7 => gi ((57 : Int32) + x3_7) 1888 (lt' (wrL nM 0 (vp_updL (nM 0) ((57 : Int32) + x3_7).toNatClampNeg (nM 0 (1887 : Int32).toNatClampNeg))) fun nM_8 => gi ((207 : Int32) + x3_7) 1888 (lt' (wrL nM_8 0 (vp_updL (nM_8 0) ((207 : Int32) + x3_7).toNatClampNeg (nM_8 0 (0 : Int32).toNatClampNeg))) fun nM_10 => gi ((357 : Int32) + x3_7) 1888 (lt' (wrL nM_10 0 (vp_updL (nM_10 0) ((357 : Int32) + x3_7).toNatClampNeg (0 : Int64))) fun nM_12 => lt' (wrL nM_12 0 (vp_updL (nM_12 0) (1887 : Int32).toNatClampNeg ((nM_12 0 (1887 : Int32).toNatClampNeg) + (1 : Int64)))) fun nM_14 => gi ((47 : Int32) + r_3) 1888 (gi ((47 : Int32) + r_3) 1888 (lt' (wrL nM_14 0 (vp_updL (nM_14 0) ((47 : Int32) + r_3).toNatClampNeg ((nM_14 0 ((47 : Int32) + r_3).toNatClampNeg) + (1 : Int64)))) fun nM_16 => lt' (wrL nM_16 0 (vp_updL (nM_16 0) (1876 : Int32).toNatClampNeg ((nM_16 0 (1876 : Int32).toNatClampNeg) + (nM_16 0 (0 : Int32).toNatClampNeg)))) fun nM_18 => f_X9_produce_b141 (f_X9_produce_L2 imM n) x1 imM nM_18))))))))) = some nM' := hE
      refine lv_iload_n hx hb dX9_produce_2 rfl (lv_at hl 1 rfl) ?_
      refine lv_i2l hx hb dX9_produce_3 rfl ?_
      refine lv_aload_n hx hb dX9_produce_4 rfl (lv_at hl 0 rfl) ?_
      refine va_get (D := D) (ci := 9) (v := .ref (aM 1)) (C := RX9) (T := TX9) (N := 13) hx hb hts iX9 hown hK hP 0 rfl rfl 0 (by decide) f7 (fun _ h9 => h9) rfl dX9_produce_5 ?_
      refine lv_iconst (v := 1) hx hb dX9_produce_8 (by decide) ?_
      refine va_lald hx hb hK hP 1 1 rfl rfl (show ¬ ((1 : Int32) < 0 ∨ 1888 ≤ (1 : Int32).toNatClampNeg) by decide) dX9_produce_9 ?_
      refine W.lcmp hx hb dX9_produce_10 ?_
      refine lv_if_ge (tgt := 147) hx hb dX9_produce_11 (by decide) (fun c_2 => ?_) (fun c_2 => ?_)
      · replace hE := it_t hE c_2
        have hE := Option.some.inj hE
        exact ev hx hb hr hlocks hK hP hD hS (by rw [hE]) dX9_produce_147
      · replace hE := it_f hE c_2
        refine lv_aload_n hx hb dX9_produce_14 rfl (lv_at hl 0 rfl) ?_
        obtain ⟨r_3, hc_4, hE⟩ := bd1_el hE
        refine ki (X := []) (Y := []) (ws1 := (W_M cy aM imM nM)) (rV (X := []) (Y := []) (As := []) (rest := []) hC (c_X9_freeSilo l D cy aM imM nM r_3 hc_4) (cwV 0 hts gX9_produce_X9_freeSilo rfl rfl rfl cd_X9_freeSilo ⟨Nat.le_of_ble_eq_true rfl, Nat.le_of_ble_eq_true rfl⟩) hK hN hP hD hS hA rfl 0 9 rfl rfl rfl hl.1 rfl (lv_room (Nat.le_of_ble_eq_true rfl)) dX9_produce_15 ⟨Nat.le_of_ble_eq_true rfl, Nat.le_of_ble_eq_true rfl⟩) hP hD hS hA rfl rfl rfl (fun H locs hP hD hS => ?_)
        refine lv_istore_n (lv' := [(2, .int r_3), (0, .ref (aM 0)), (1, .int x1)]) hx hb dX9_produce_18 rfl hl (by decide) rfl (fun ls hl => ?_)
        refine lv_iload_n hx hb dX9_produce_19 rfl (lv_at hl 0 rfl) ?_
        refine lv_iconst (v := (-1)) hx hb dX9_produce_20 (by decide) ?_
        refine lv_icmp_ne (tgt := 39) hx hb dX9_produce_21 (by decide) (fun c_5 => ?_) (fun c_5 => ?_)
        · replace hE := it_f hE c_5
          refine lv_bipush (v := 30) hx hb dX9_produce_39 (by decide) ?_
          refine lv_iload_n hx hb dX9_produce_41 rfl (lv_at hl 0 rfl) ?_
          refine lv_imul hx hb dX9_produce_42 ?_
          refine lv_aload_n hx hb dX9_produce_43 rfl (lv_at hl 1 rfl) ?_
          refine va_get (D := D) (ci := 9) (v := .ref (aM 1)) (C := RX9) (T := TX9) (N := 13) hx hb hts iX9 hown hK hP 0 rfl rfl 0 (by decide) f7 (fun _ h9 => h9) rfl dX9_produce_44 ?_
          refine lv_bipush (v := 47) hx hb dX9_produce_47 (by decide) ?_
          refine lv_iload_n hx hb dX9_produce_49 rfl (lv_at hl 0 rfl) ?_
          refine lv_iadd hx hb dX9_produce_50 ?_
          obtain ⟨g_6, hE⟩ := gi_el hE
          refine va_lald hx hb hK hP 1 1 rfl rfl g_6 dX9_produce_51 ?_
          refine lv_l2i hx hb dX9_produce_52 rfl ?_
          refine lv_iadd hx hb dX9_produce_53 ?_
          obtain ⟨x3_7, e_x3_7, hE⟩ := lt_el hE
          refine s_nm e_x3_7 ?_
          refine lv_istore_n (lv' := [(3, .int x3_7), (2, .int r_3), (0, .ref (aM 0)), (1, .int x1)]) hx hb dX9_produce_54 rfl hl (by decide) rfl (fun ls hl => ?_)
          refine lv_aload_n hx hb dX9_produce_55 rfl (lv_at hl 2 rfl) ?_
          refine va_get (D := D) (ci := 9) (v := .ref (aM 1)) (C := RX9) (T := TX9) (N := 13) hx hb hts iX9 hown hK hP 0 rfl rfl 0 (by decide) f7 (fun _ h9 => h9) rfl dX9_produce_56 ?_
          refine lv_bipush (v := 57) hx hb dX9_produce_59 (by decide) ?_
          refine lv_iload_n hx hb dX9_produce_61 rfl (lv_at hl 0 rfl) ?_
          refine lv_iadd hx hb dX9_produce_62 ?_
          refine lv_aload_n hx hb dX9_produce_63 rfl (lv_at hl 2 rfl) ?_
          refine va_get (D := D) (ci := 9) (v := .ref (aM 1)) (C := RX9) (T := TX9) (N := 13) hx hb hts iX9 hown hK hP 0 rfl rfl 0 (by decide) f7 (fun _ h9 => h9) rfl dX9_produce_64 ?_
          refine lv_sipush (v := 1887) hx hb dX9_produce_67 (by decide) ?_
          refine va_lald hx hb hK hP 1 1 rfl rfl (show ¬ ((1887 : Int32) < 0 ∨ 1888 ≤ (1887 : Int32).toNatClampNeg) by decide) dX9_produce_70 ?_
          obtain ⟨g_9, hE⟩ := gi_el hE
          obtain ⟨nM_8, e_nM_8, hE⟩ := lt_el hE
          refine s_la (ws1 := (W_M cy aM imM nM_8)) hx hb hK hP hD hS 1 rfl g_9 (by rw [e_nM_8]; rfl) dX9_produce_71 (fun H locs hP hD hS => ?_)
          refine lv_aload_n hx hb dX9_produce_72 rfl (lv_at hl 2 rfl) ?_
          refine va_get (D := D) (ci := 9) (v := .ref (aM 1)) (C := RX9) (T := TX9) (N := 13) hx hb hts iX9 hown hK hP 0 rfl rfl 0 (by decide) f7 (fun _ h9 => h9) rfl dX9_produce_73 ?_
          refine lv_sipush (v := 207) hx hb dX9_produce_76 (by decide) ?_
          refine lv_iload_n hx hb dX9_produce_79 rfl (lv_at hl 0 rfl) ?_
          refine lv_iadd hx hb dX9_produce_80 ?_
          refine lv_aload_n hx hb dX9_produce_81 rfl (lv_at hl 2 rfl) ?_
          refine va_get (D := D) (ci := 9) (v := .ref (aM 1)) (C := RX9) (T := TX9) (N := 13) hx hb hts iX9 hown hK hP 0 rfl rfl 0 (by decide) f7 (fun _ h9 => h9) rfl dX9_produce_82 ?_
          refine lv_iconst (v := 0) hx hb dX9_produce_85 (by decide) ?_
          refine va_lald hx hb hK hP 1 1 rfl rfl (show ¬ ((0 : Int32) < 0 ∨ 1888 ≤ (0 : Int32).toNatClampNeg) by decide) dX9_produce_86 ?_
          obtain ⟨g_11, hE⟩ := gi_el hE
          obtain ⟨nM_10, e_nM_10, hE⟩ := lt_el hE
          refine s_la (ws1 := (W_M cy aM imM nM_10)) hx hb hK hP hD hS 1 rfl g_11 (by rw [e_nM_10]; rfl) dX9_produce_87 (fun H locs hP hD hS => ?_)
          refine lv_aload_n hx hb dX9_produce_88 rfl (lv_at hl 2 rfl) ?_
          refine va_get (D := D) (ci := 9) (v := .ref (aM 1)) (C := RX9) (T := TX9) (N := 13) hx hb hts iX9 hown hK hP 0 rfl rfl 0 (by decide) f7 (fun _ h9 => h9) rfl dX9_produce_89 ?_
          refine lv_sipush (v := 357) hx hb dX9_produce_92 (by decide) ?_
          refine lv_iload_n hx hb dX9_produce_95 rfl (lv_at hl 0 rfl) ?_
          refine lv_iadd hx hb dX9_produce_96 ?_
          refine lv_lconst (v := 0) hx hb dX9_produce_97 (by decide) ?_
          obtain ⟨g_13, hE⟩ := gi_el hE
          obtain ⟨nM_12, e_nM_12, hE⟩ := lt_el hE
          refine s_la (ws1 := (W_M cy aM imM nM_12)) hx hb hK hP hD hS 1 rfl g_13 (by rw [e_nM_12]; rfl) dX9_produce_98 (fun H locs hP hD hS => ?_)
          refine lv_aload_n hx hb dX9_produce_99 rfl (lv_at hl 2 rfl) ?_
          refine va_get (D := D) (ci := 9) (v := .ref (aM 1)) (C := RX9) (T := TX9) (N := 13) hx hb hts iX9 hown hK hP 0 rfl rfl 0 (by decide) f7 (fun _ h9 => h9) rfl dX9_produce_100 ?_
          refine lv_sipush (v := 1887) hx hb dX9_produce_103 (by decide) ?_
          refine lv_dup2_11 hx hb dX9_produce_106 rfl rfl ?_
          refine va_lald hx hb hK hP 1 1 rfl rfl (show ¬ ((1887 : Int32) < 0 ∨ 1888 ≤ (1887 : Int32).toNatClampNeg) by decide) dX9_produce_107 ?_
          refine lv_lconst (v := 1) hx hb dX9_produce_108 (by decide) ?_
          refine lv_ladd hx hb dX9_produce_109 ?_
          obtain ⟨nM_14, e_nM_14, hE⟩ := lt_el hE
          refine s_la (ws1 := (W_M cy aM imM nM_14)) hx hb hK hP hD hS 1 rfl (show ¬ ((1887 : Int32) < 0 ∨ 1888 ≤ (1887 : Int32).toNatClampNeg) by decide) (by rw [e_nM_14]; rfl) dX9_produce_110 (fun H locs hP hD hS => ?_)
          refine lv_aload_n hx hb dX9_produce_111 rfl (lv_at hl 2 rfl) ?_
          refine va_get (D := D) (ci := 9) (v := .ref (aM 1)) (C := RX9) (T := TX9) (N := 13) hx hb hts iX9 hown hK hP 0 rfl rfl 0 (by decide) f7 (fun _ h9 => h9) rfl dX9_produce_112 ?_
          refine lv_bipush (v := 47) hx hb dX9_produce_115 (by decide) ?_
          refine lv_iload_n hx hb dX9_produce_117 rfl (lv_at hl 1 rfl) ?_
          refine lv_iadd hx hb dX9_produce_118 ?_
          refine lv_dup2_11 hx hb dX9_produce_119 rfl rfl ?_
          obtain ⟨g_15, hE⟩ := gi_el hE
          refine va_lald hx hb hK hP 1 1 rfl rfl g_15 dX9_produce_120 ?_
          refine lv_lconst (v := 1) hx hb dX9_produce_121 (by decide) ?_
          refine lv_ladd hx hb dX9_produce_122 ?_
          obtain ⟨g_17, hE⟩ := gi_el hE
          obtain ⟨nM_16, e_nM_16, hE⟩ := lt_el hE
          refine s_la (ws1 := (W_M cy aM imM nM_16)) hx hb hK hP hD hS 1 rfl g_17 (by rw [e_nM_16]; rfl) dX9_produce_123 (fun H locs hP hD hS => ?_)
          refine lv_aload_n hx hb dX9_produce_124 rfl (lv_at hl 2 rfl) ?_
          refine va_get (D := D) (ci := 9) (v := .ref (aM 1)) (C := RX9) (T := TX9) (N := 13) hx hb hts iX9 hown hK hP 0 rfl rfl 0 (by decide) f7 (fun _ h9 => h9) rfl dX9_produce_125 ?_
          refine lv_sipush (v := 1876) hx hb dX9_produce_128 (by decide) ?_
          refine lv_dup2_11 hx hb dX9_produce_131 rfl rfl ?_
          refine va_lald hx hb hK hP 1 1 rfl rfl (show ¬ ((1876 : Int32) < 0 ∨ 1888 ≤ (1876 : Int32).toNatClampNeg) by decide) dX9_produce_132 ?_
          refine lv_aload_n hx hb dX9_produce_133 rfl (lv_at hl 2 rfl) ?_
          refine va_get (D := D) (ci := 9) (v := .ref (aM 1)) (C := RX9) (T := TX9) (N := 13) hx hb hts iX9 hown hK hP 0 rfl rfl 0 (by decide) f7 (fun _ h9 => h9) rfl dX9_produce_134 ?_
          refine lv_iconst (v := 0) hx hb dX9_produce_137 (by decide) ?_
          refine va_lald hx hb hK hP 1 1 rfl rfl (show ¬ ((0 : Int32) < 0 ∨ 1888 ≤ (0 : Int32).toNatClampNeg) by decide) dX9_produce_138 ?_
          refine lv_ladd hx hb dX9_produce_139 ?_
          obtain ⟨nM_18, e_nM_18, hE⟩ := lt_el hE
          refine s_la (ws1 := (W_M cy aM imM nM_18)) hx hb hK hP hD hS 1 rfl (show ¬ ((1876 : Int32) < 0 ∨ 1888 ≤ (1876 : Int32).toNatClampNeg) by decide) (by rw [e_nM_18]; rfl) dX9_produce_140 (fun H locs hP hD hS => ?_)
          exact h141 x1 nM_18 (f_X9_produce_L2 imM n) ih _ _ _ hE hP hD hS (lv_sub hl [2, 3] rfl)
        · replace hE := it_t hE c_5
          refine lv_aload_n hx hb dX9_produce_24 rfl (lv_at hl 1 rfl) ?_
          refine va_get (D := D) (ci := 9) (v := .ref (aM 1)) (C := RX9) (T := TX9) (N := 13) hx hb hts iX9 hown hK hP 0 rfl rfl 0 (by decide) f7 (fun _ h9 => h9) rfl dX9_produce_25 ?_
          refine lv_sipush (v := 1879) hx hb dX9_produce_28 (by decide) ?_
          refine lv_dup2_11 hx hb dX9_produce_31 rfl rfl ?_
          refine va_lald hx hb hK hP 1 1 rfl rfl (show ¬ ((1879 : Int32) < 0 ∨ 1888 ≤ (1879 : Int32).toNatClampNeg) by decide) dX9_produce_32 ?_
          refine lv_lconst (v := 1) hx hb dX9_produce_33 (by decide) ?_
          refine lv_ladd hx hb dX9_produce_34 ?_
          obtain ⟨nM_19, e_nM_19, hE⟩ := lt_el hE
          refine s_la (ws1 := (W_M cy aM imM nM_19)) hx hb hK hP hD hS 1 rfl (show ¬ ((1879 : Int32) < 0 ∨ 1888 ≤ (1879 : Int32).toNatClampNeg) by decide) (by rw [e_nM_19]; rfl) dX9_produce_35 (fun H locs hP hD hS => ?_)
          refine lv_goto (tgt := 141) hx hb dX9_produce_36 (by decide) ?_
          exact h141 x1 nM_19 (f_X9_produce_L2 imM n) ih _ _ _ hE hP hD hS (lv_sub hl [1, 2] rfl)
  unfold f_X9_produce at hE
  refine lv_iconst (v := 0) hx hb dX9_produce_0 (by decide) ?_
  refine lv_istore_n (lv' := [(1, .int (0 : Int32)), (0, .ref (aM 0))]) hx hb dX9_produce_1 rfl hl (by decide) rfl (fun ls hl => ?_)
  exact h2 fuel (0 : Int32) inM _ _ _ hE hP hD hS (lv_sub hl [1, 0] rfl)
abbrev rm_X9_remaining : Room := { frames := 0, cells := 0, slots := 0, locals := 0 }
set_option maxHeartbeats 40000000 in
set_option maxRecDepth 100000 in
theorem c_X9_remaining (l : Launch) (D : va_G) (cy : Nat → Nat) (aM : Nat → Nat) (x1 : Int32) (imM : Mem) (inM : MemL) (r' : Int64) (hE : f_X9_remaining x1 imM inM = some r') : CL l yX9_remaining wsX9_remaining rm_X9_remaining D cy [.ref (aM 0), .int x1] (W_M cy aM imM inM) 0 0 r' (W_M cy aM imM inM) := by
  refine CQ_of (cc := cX9_remaining) (maxL := 4) (ret := (some .long)) (by decide) rfl (Nat.le_of_ble_eq_true rfl) (fun p e s m args below meth c A ls hx hb hr hml hlocks hnm hown hts hA hK hN hP hD hS hl => ?_)
  have hown : s.vm.findClass RX9 = some m.cls := hown
  have hl : lv_has ls 4 [(0, .ref (aM 0)), (1, .int x1)] := hl
  have f7 : (Cond.fieldLink RX9 7 "IcePlantModel" "w" "[J").before args s = true := hts _ (mC qf_X9_7)
  have iX9 : ∀ w ∈ wsX90, w ∈ wsX9_remaining := fun w h => mC (iA_X9 w h)
  unfold f_X9_remaining at hE
  refine lv_aload_n hx hb dX9_remaining_0 rfl (lv_at hl 0 rfl) ?_
  refine va_get (D := D) (ci := 9) (v := .ref (aM 1)) (C := RX9) (T := TX9) (N := 13) hx hb hts iX9 hown hK hP 0 rfl rfl 0 (by decide) f7 (fun _ h9 => h9) rfl dX9_remaining_1 ?_
  refine lv_sipush (v := 731) hx hb dX9_remaining_4 (by decide) ?_
  refine lv_iload_n hx hb dX9_remaining_7 rfl (lv_at hl 1 rfl) ?_
  refine lv_iadd hx hb dX9_remaining_8 ?_
  obtain ⟨g_1, hE⟩ := gi_el hE
  refine va_lald hx hb hK hP 1 1 rfl rfl g_1 dX9_remaining_9 ?_
  refine lv_aload_n hx hb dX9_remaining_10 rfl (lv_at hl 0 rfl) ?_
  refine va_get (D := D) (ci := 9) (v := .ref (aM 1)) (C := RX9) (T := TX9) (N := 13) hx hb hts iX9 hown hK hP 0 rfl rfl 0 (by decide) f7 (fun _ h9 => h9) rfl dX9_remaining_11 ?_
  refine lv_sipush (v := 931) hx hb dX9_remaining_14 (by decide) ?_
  refine lv_iload_n hx hb dX9_remaining_17 rfl (lv_at hl 1 rfl) ?_
  refine lv_iadd hx hb dX9_remaining_18 ?_
  obtain ⟨g_2, hE⟩ := gi_el hE
  refine va_lald hx hb hK hP 1 1 rfl rfl g_2 dX9_remaining_19 ?_
  refine lv_lsub hx hb dX9_remaining_20 ?_
  obtain ⟨x2_3, e_x2_3, hE⟩ := lt_el hE
  refine s_nmL e_x2_3 ?_
  refine lv_lstore_n (lv' := [(2, .long x2_3), (0, .ref (aM 0)), (1, .int x1)]) hx hb dX9_remaining_21 rfl hl (by decide) rfl (fun ls hl => ?_)
  refine lv_lload_n hx hb dX9_remaining_22 rfl (lv_at hl 0 rfl) ?_
  refine lv_lconst (v := 0) hx hb dX9_remaining_23 (by decide) ?_
  refine W.lcmp hx hb dX9_remaining_24 ?_
  refine lv_if_ge (tgt := 32) hx hb dX9_remaining_25 (by decide) (fun c_4 => ?_) (fun c_4 => ?_)
  · replace hE := it_t hE c_4
    refine lv_lload_n hx hb dX9_remaining_32 rfl (lv_at hl 0 rfl) ?_
    have hE := Option.some.inj hE
    exact el hx hb hr hlocks hK hP hD hS hE rfl dX9_remaining_33
  · replace hE := it_f hE c_4
    refine lv_lconst (v := 0) hx hb dX9_remaining_28 (by decide) ?_
    refine lv_goto (tgt := 33) hx hb dX9_remaining_29 (by decide) ?_
    have hE := Option.some.inj hE
    exact el hx hb hr hlocks hK hP hD hS hE rfl dX9_remaining_33
abbrev rm_X9_catchOf : Room := { frames := 0, cells := 0, slots := 0, locals := 0 }
set_option maxHeartbeats 40000000 in
set_option maxRecDepth 100000 in
theorem c_X9_catchOf (l : Launch) (D : va_G) (cy : Nat → Nat) (aM : Nat → Nat) (x1 : Int32) (imM : Mem) (inM : MemL) (r' : Int64) (hE : f_X9_catchOf x1 imM inM = some r') : CL l yX9_catchOf wsX9_catchOf rm_X9_catchOf D cy [.ref (aM 0), .int x1] (W_M cy aM imM inM) 0 0 r' (W_M cy aM imM inM) := by
  refine CQ_of (cc := cX9_catchOf) (maxL := 2) (ret := (some .long)) (by decide) rfl (Nat.le_of_ble_eq_true rfl) (fun p e s m args below meth c A ls hx hb hr hml hlocks hnm hown hts hA hK hN hP hD hS hl => ?_)
  have hown : s.vm.findClass RX9 = some m.cls := hown
  have hl : lv_has ls 2 [(0, .ref (aM 0)), (1, .int x1)] := hl
  have f7 : (Cond.fieldLink RX9 7 "IcePlantModel" "w" "[J").before args s = true := hts _ (mC qf_X9_7)
  have iX9 : ∀ w ∈ wsX90, w ∈ wsX9_catchOf := fun w h => mC (iA_X9 w h)
  unfold f_X9_catchOf at hE
  refine lv_aload_n hx hb dX9_catchOf_0 rfl (lv_at hl 0 rfl) ?_
  refine va_get (D := D) (ci := 9) (v := .ref (aM 1)) (C := RX9) (T := TX9) (N := 13) hx hb hts iX9 hown hK hP 0 rfl rfl 0 (by decide) f7 (fun _ h9 => h9) rfl dX9_catchOf_1 ?_
  refine lv_sipush (v := 507) hx hb dX9_catchOf_4 (by decide) ?_
  refine lv_aload_n hx hb dX9_catchOf_7 rfl (lv_at hl 0 rfl) ?_
  refine va_get (D := D) (ci := 9) (v := .ref (aM 1)) (C := RX9) (T := TX9) (N := 13) hx hb hts iX9 hown hK hP 0 rfl rfl 0 (by decide) f7 (fun _ h9 => h9) rfl dX9_catchOf_8 ?_
  refine lv_sipush (v := 531) hx hb dX9_catchOf_11 (by decide) ?_
  refine lv_iload_n hx hb dX9_catchOf_14 rfl (lv_at hl 1 rfl) ?_
  refine lv_iadd hx hb dX9_catchOf_15 ?_
  obtain ⟨g_1, hE⟩ := gi_el hE
  refine va_lald hx hb hK hP 1 1 rfl rfl g_1 dX9_catchOf_16 ?_
  refine lv_l2i hx hb dX9_catchOf_17 rfl ?_
  refine lv_iadd hx hb dX9_catchOf_18 ?_
  obtain ⟨g_2, hE⟩ := gi_el hE
  refine va_lald hx hb hK hP 1 1 rfl rfl g_2 dX9_catchOf_19 ?_
  have hE := Option.some.inj hE
  exact el hx hb hr hlocks hK hP hD hS hE rfl dX9_catchOf_20
