abbrev rm_X3_has : Room := { frames := 0, cells := 0, slots := 0, locals := 0 }
set_option maxHeartbeats 40000000 in
set_option maxRecDepth 100000 in
theorem c_X3_has (l : Launch) (D : va_G) (cy : Nat → Nat) (aO : Nat → Nat) (x1 : Int32) (imO : Mem) (r' : Int32) (hE : f_X3_has x1 imO = some r') : CI l yX3_has wsX3_has rm_X3_has D cy [.ref (aO 0), .int x1] (W_O cy aO imO) 0 0 r' (W_O cy aO imO) := by
  refine CQ_of (cc := cX3_has) (maxL := 2) (ret := (some .boolean)) (by decide) rfl (Nat.le_of_ble_eq_true rfl) (fun p e s m args below meth c A ls hx hb hr hml hlocks hnm hown hts hA hK hN hP hD hS hl => ?_)
  have hown : s.vm.findClass RX3 = some m.cls := hown
  have hl : lv_has ls 2 [(0, .ref (aO 0)), (1, .int x1)] := hl
  have f36 : (Cond.fieldLink RX3 36 "IcePlant$Orders" "count" "I").before args s = true := hts _ (mC qf_X3_36)
  have iX3 : ∀ w ∈ wsX30, w ∈ wsX3_has := fun w h => mC (iA_X3 w h)
  unfold f_X3_has at hE
  refine lv_iload_n hx hb dX3_has_0 rfl (lv_at hl 1 rfl) ?_
  refine lv_if_lt (tgt := 16) hx hb dX3_has_1 (by decide) (fun c_1 => ?_) (fun c_1 => ?_)
  · replace hE := it_t hE c_1
    refine lv_iconst (v := 0) hx hb dX3_has_16 (by decide) ?_
    have hE := Option.some.inj hE
    exact ez hx hb hr (by decide) hlocks hK hP hD hS hE rfl dX3_has_17
  · replace hE := it_f hE c_1
    refine lv_iload_n hx hb dX3_has_4 rfl (lv_at hl 1 rfl) ?_
    refine lv_aload_n hx hb dX3_has_5 rfl (lv_at hl 0 rfl) ?_
    refine va_get (D := D) (ci := 3) (v := .int (imO 0 0)) (C := RX3) (T := TX3) (N := 10) hx hb hts iX3 hown hK hP 0 rfl rfl 0 (by decide) f36 (fun _ h9 => h9) rfl dX3_has_6 ?_
    refine lv_icmp_ge (tgt := 16) hx hb dX3_has_9 (by decide) (fun c_2 => ?_) (fun c_2 => ?_)
    · replace hE := it_t hE c_2
      refine lv_iconst (v := 0) hx hb dX3_has_16 (by decide) ?_
      have hE := Option.some.inj hE
      exact ez hx hb hr (by decide) hlocks hK hP hD hS hE rfl dX3_has_17
    · replace hE := it_f hE c_2
      refine lv_iconst (v := 1) hx hb dX3_has_12 (by decide) ?_
      refine lv_goto (tgt := 17) hx hb dX3_has_13 (by decide) ?_
      have hE := Option.some.inj hE
      exact ez hx hb hr (by decide) hlocks hK hP hD hS hE rfl dX3_has_17
abbrev rm_X3_isOpen : Room := { frames := 1, cells := 0, slots := 0, locals := 21 }
set_option maxHeartbeats 40000000 in
set_option maxRecDepth 100000 in
theorem c_X3_isOpen (l : Launch) (D : va_G) (cy : Nat → Nat) (aO : Nat → Nat) (x1 : Int32) (imO : Mem) (r' : Int32) (hE : f_X3_isOpen x1 imO = some r') : CI l yX3_isOpen wsX3_isOpen rm_X3_isOpen D cy [.ref (aO 0), .int x1] (W_O cy aO imO) 0 0 r' (W_O cy aO imO) := by
  refine CQ_of (cc := cX3_isOpen) (maxL := 2) (ret := (some .boolean)) (by decide) rfl (Nat.le_of_ble_eq_true rfl) (fun p e s m args below meth c A ls hx hb hr hml hlocks hnm hown hts hA hK hN hP hD hS hl => ?_)
  have hown : s.vm.findClass RX3 = some m.cls := hown
  have hl : lv_has ls 2 [(0, .ref (aO 0)), (1, .int x1)] := hl
  have hC : CallFix p m c cX3_isOpen 2 s args wsX3_isOpen RX3 := ⟨hx, hb, hml, hown, hts⟩
  have f27 : (Cond.fieldLink RX3 27 "IcePlant$Orders" "states" "[I").before args s = true := hts _ (mC qf_X3_27)
  have iX3 : ∀ w ∈ wsX30, w ∈ wsX3_isOpen := fun w h => mC (iA_X3 w h)
  unfold f_X3_isOpen at hE
  refine lv_aload_n hx hb dX3_isOpen_0 rfl (lv_at hl 0 rfl) ?_
  refine lv_iload_n hx hb dX3_isOpen_1 rfl (lv_at hl 1 rfl) ?_
  obtain ⟨r_1, hc_2, hE⟩ := bd1_el hE
  refine ki (X := []) (Y := []) (ws1 := (W_O cy aO imO)) (rV (X := []) (Y := []) (As := [.int x1]) (rest := []) hC (c_X3_has l D cy aO x1 imO r_1 hc_2) (cwV 1 hts gX3_isOpen_X3_has rfl rfl rfl cd_X3_has ⟨Nat.le_of_ble_eq_true rfl, Nat.le_of_ble_eq_true rfl⟩) hK hN hP hD hS hA rfl 0 3 rfl rfl rfl hl.1 rfl (lv_room (Nat.le_of_ble_eq_true rfl)) dX3_isOpen_2 ⟨Nat.le_of_ble_eq_true rfl, Nat.le_of_ble_eq_true rfl⟩) hP hD hS hA rfl rfl rfl (fun H locs hP hD hS => ?_)
  refine lv_if_eq (tgt := 21) hx hb dX3_isOpen_5 (by decide) (fun c_3 => ?_) (fun c_3 => ?_)
  · replace hE := it_t hE c_3
    refine lv_iconst (v := 0) hx hb dX3_isOpen_21 (by decide) ?_
    have hE := Option.some.inj hE
    exact ez hx hb hr (by decide) hlocks hK hP hD hS hE rfl dX3_isOpen_22
  · replace hE := it_f hE c_3
    refine lv_aload_n hx hb dX3_isOpen_8 rfl (lv_at hl 0 rfl) ?_
    refine va_get (D := D) (ci := 3) (v := .ref (aO 8)) (C := RX3) (T := TX3) (N := 10) hx hb hts iX3 hown hK hP 0 rfl rfl 7 (by decide) f27 (fun _ h9 => h9) rfl dX3_isOpen_9 ?_
    refine lv_iload_n hx hb dX3_isOpen_12 rfl (lv_at hl 1 rfl) ?_
    obtain ⟨g_4, hE⟩ := gi_el hE
    refine va_iald hx hb hK hP 6 0 rfl rfl g_4 dX3_isOpen_13 ?_
    refine lv_if_ne (tgt := 21) hx hb dX3_isOpen_14 (by decide) (fun c_5 => ?_) (fun c_5 => ?_)
    · replace hE := it_f hE c_5
      refine lv_iconst (v := 0) hx hb dX3_isOpen_21 (by decide) ?_
      have hE := Option.some.inj hE
      exact ez hx hb hr (by decide) hlocks hK hP hD hS hE rfl dX3_isOpen_22
    · replace hE := it_t hE c_5
      refine lv_iconst (v := 1) hx hb dX3_isOpen_17 (by decide) ?_
      refine lv_goto (tgt := 22) hx hb dX3_isOpen_18 (by decide) ?_
      have hE := Option.some.inj hE
      exact ez hx hb hr (by decide) hlocks hK hP hD hS hE rfl dX3_isOpen_22
abbrev rm_X3_isComplete : Room := { frames := 1, cells := 0, slots := 0, locals := 21 }
set_option maxHeartbeats 40000000 in
set_option maxRecDepth 100000 in
theorem c_X3_isComplete (l : Launch) (D : va_G) (cy : Nat → Nat) (aO : Nat → Nat) (x1 : Int32) (imO : Mem) (r' : Int32) (hE : f_X3_isComplete x1 imO = some r') : CI l yX3_isComplete wsX3_isComplete rm_X3_isComplete D cy [.ref (aO 0), .int x1] (W_O cy aO imO) 0 0 r' (W_O cy aO imO) := by
  refine CQ_of (cc := cX3_isComplete) (maxL := 2) (ret := (some .boolean)) (by decide) rfl (Nat.le_of_ble_eq_true rfl) (fun p e s m args below meth c A ls hx hb hr hml hlocks hnm hown hts hA hK hN hP hD hS hl => ?_)
  have hown : s.vm.findClass RX3 = some m.cls := hown
  have hl : lv_has ls 2 [(0, .ref (aO 0)), (1, .int x1)] := hl
  have hC : CallFix p m c cX3_isComplete 2 s args wsX3_isComplete RX3 := ⟨hx, hb, hml, hown, hts⟩
  have f27 : (Cond.fieldLink RX3 27 "IcePlant$Orders" "states" "[I").before args s = true := hts _ (mC qf_X3_27)
  have iX3 : ∀ w ∈ wsX30, w ∈ wsX3_isComplete := fun w h => mC (iA_X3 w h)
  unfold f_X3_isComplete at hE
  refine lv_aload_n hx hb dX3_isComplete_0 rfl (lv_at hl 0 rfl) ?_
  refine lv_iload_n hx hb dX3_isComplete_1 rfl (lv_at hl 1 rfl) ?_
  obtain ⟨r_1, hc_2, hE⟩ := bd1_el hE
  refine ki (X := []) (Y := []) (ws1 := (W_O cy aO imO)) (rV (X := []) (Y := []) (As := [.int x1]) (rest := []) hC (c_X3_has l D cy aO x1 imO r_1 hc_2) (cwV 1 hts gX3_isComplete_X3_has rfl rfl rfl cd_X3_has ⟨Nat.le_of_ble_eq_true rfl, Nat.le_of_ble_eq_true rfl⟩) hK hN hP hD hS hA rfl 0 3 rfl rfl rfl hl.1 rfl (lv_room (Nat.le_of_ble_eq_true rfl)) dX3_isComplete_2 ⟨Nat.le_of_ble_eq_true rfl, Nat.le_of_ble_eq_true rfl⟩) hP hD hS hA rfl rfl rfl (fun H locs hP hD hS => ?_)
  refine lv_if_eq (tgt := 22) hx hb dX3_isComplete_5 (by decide) (fun c_3 => ?_) (fun c_3 => ?_)
  · replace hE := it_t hE c_3
    refine lv_iconst (v := 0) hx hb dX3_isComplete_22 (by decide) ?_
    have hE := Option.some.inj hE
    exact ez hx hb hr (by decide) hlocks hK hP hD hS hE rfl dX3_isComplete_23
  · replace hE := it_f hE c_3
    refine lv_aload_n hx hb dX3_isComplete_8 rfl (lv_at hl 0 rfl) ?_
    refine va_get (D := D) (ci := 3) (v := .ref (aO 8)) (C := RX3) (T := TX3) (N := 10) hx hb hts iX3 hown hK hP 0 rfl rfl 7 (by decide) f27 (fun _ h9 => h9) rfl dX3_isComplete_9 ?_
    refine lv_iload_n hx hb dX3_isComplete_12 rfl (lv_at hl 1 rfl) ?_
    obtain ⟨g_4, hE⟩ := gi_el hE
    refine va_iald hx hb hK hP 6 0 rfl rfl g_4 dX3_isComplete_13 ?_
    refine lv_iconst (v := 1) hx hb dX3_isComplete_14 (by decide) ?_
    refine lv_icmp_ne (tgt := 22) hx hb dX3_isComplete_15 (by decide) (fun c_5 => ?_) (fun c_5 => ?_)
    · replace hE := it_f hE c_5
      refine lv_iconst (v := 0) hx hb dX3_isComplete_22 (by decide) ?_
      have hE := Option.some.inj hE
      exact ez hx hb hr (by decide) hlocks hK hP hD hS hE rfl dX3_isComplete_23
    · replace hE := it_t hE c_5
      refine lv_iconst (v := 1) hx hb dX3_isComplete_18 (by decide) ?_
      refine lv_goto (tgt := 23) hx hb dX3_isComplete_19 (by decide) ?_
      have hE := Option.some.inj hE
      exact ez hx hb hr (by decide) hlocks hK hP hD hS hE rfl dX3_isComplete_23
abbrev rm_X3_isWhole : Room := { frames := 1, cells := 0, slots := 0, locals := 21 }
set_option maxHeartbeats 40000000 in
set_option maxRecDepth 100000 in
theorem c_X3_isWhole (l : Launch) (D : va_G) (cy : Nat → Nat) (aO : Nat → Nat) (x1 : Int32) (imO : Mem) (r' : Int32) (hE : f_X3_isWhole x1 imO = some r') : CI l yX3_isWhole wsX3_isWhole rm_X3_isWhole D cy [.ref (aO 0), .int x1] (W_O cy aO imO) 0 0 r' (W_O cy aO imO) := by
  refine CQ_of (cc := cX3_isWhole) (maxL := 2) (ret := (some .boolean)) (by decide) rfl (Nat.le_of_ble_eq_true rfl) (fun p e s m args below meth c A ls hx hb hr hml hlocks hnm hown hts hA hK hN hP hD hS hl => ?_)
  have hown : s.vm.findClass RX3 = some m.cls := hown
  have hl : lv_has ls 2 [(0, .ref (aO 0)), (1, .int x1)] := hl
  have hC : CallFix p m c cX3_isWhole 2 s args wsX3_isWhole RX3 := ⟨hx, hb, hml, hown, hts⟩
  have f24 : (Cond.fieldLink RX3 24 "IcePlant$Orders" "wholes" "[I").before args s = true := hts _ (mC qf_X3_24)
  have iX3 : ∀ w ∈ wsX30, w ∈ wsX3_isWhole := fun w h => mC (iA_X3 w h)
  have in_X8 : (Cond.initialized RX8).before args s = true := hts _ (mC qn_X8)
  have st_X8_valueAt : (Cond.static yX8_valueAt).before args s = true := hts _ (mC qs_X8_valueAt)
  unfold f_X3_isWhole at hE
  refine lv_aload_n hx hb dX3_isWhole_0 rfl (lv_at hl 0 rfl) ?_
  refine va_get (D := D) (ci := 3) (v := .ref (aO 7)) (C := RX3) (T := TX3) (N := 10) hx hb hts iX3 hown hK hP 0 rfl rfl 6 (by decide) f24 (fun _ h9 => h9) rfl dX3_isWhole_1 ?_
  refine lv_iload_n hx hb dX3_isWhole_4 rfl (lv_at hl 1 rfl) ?_
  obtain ⟨r_1, hc_2, hE⟩ := bd1_el hE
  refine ki (X := (List.take 5 (W_O cy aO imO))) (Y := (List.drop 6 (W_O cy aO imO))) (ws1 := (W_O cy aO imO)) (rSN (X := (List.take 5 (W_O cy aO imO))) (Y := (List.drop 6 (W_O cy aO imO))) (As := [.ref (aO 7), .int x1]) (rest := []) hC (c_X8_valueAt l D cy (aO 7) x1 (200) (imO 6) r_1 hc_2) (va_cnB 2 hts gX3_isWhole_X8_valueAt_n51 rfl rfl rfl (hN.1 5 _ rfl) in_X8 cd_X8_valueAt.2 ⟨Nat.le_of_ble_eq_true rfl, Nat.le_of_ble_eq_true rfl⟩) st_X8_valueAt hK hN hP hD hS hA rfl rfl hl.1 rfl (lv_room (Nat.le_of_ble_eq_true rfl)) dX3_isWhole_5 ⟨Nat.le_of_ble_eq_true rfl, Nat.le_of_ble_eq_true rfl⟩) hP hD hS hA rfl rfl rfl (fun H locs hP hD hS => ?_)
  refine lv_iconst (v := 1) hx hb dX3_isWhole_8 (by decide) ?_
  refine lv_icmp_ne (tgt := 16) hx hb dX3_isWhole_9 (by decide) (fun c_3 => ?_) (fun c_3 => ?_)
  · replace hE := it_f hE c_3
    refine lv_iconst (v := 0) hx hb dX3_isWhole_16 (by decide) ?_
    have hE := Option.some.inj hE
    exact ez hx hb hr (by decide) hlocks hK hP hD hS hE rfl dX3_isWhole_17
  · replace hE := it_t hE c_3
    refine lv_iconst (v := 1) hx hb dX3_isWhole_12 (by decide) ?_
    refine lv_goto (tgt := 17) hx hb dX3_isWhole_13 (by decide) ?_
    have hE := Option.some.inj hE
    exact ez hx hb hr (by decide) hlocks hK hP hD hS hE rfl dX3_isWhole_17
abbrev rm_X3_isFull : Room := { frames := 0, cells := 0, slots := 0, locals := 0 }
set_option maxHeartbeats 40000000 in
set_option maxRecDepth 100000 in
theorem c_X3_isFull (l : Launch) (D : va_G) (cy : Nat → Nat) (aO : Nat → Nat) (imO : Mem) (r' : Int32) (hE : f_X3_isFull imO = some r') : CI l yX3_isFull wsX3_isFull rm_X3_isFull D cy [.ref (aO 0)] (W_O cy aO imO) 0 0 r' (W_O cy aO imO) := by
  refine CQ_of (cc := cX3_isFull) (maxL := 1) (ret := (some .boolean)) (by decide) rfl (Nat.le_of_ble_eq_true rfl) (fun p e s m args below meth c A ls hx hb hr hml hlocks hnm hown hts hA hK hN hP hD hS hl => ?_)
  have hown : s.vm.findClass RX3 = some m.cls := hown
  have hl : lv_has ls 1 [(0, .ref (aO 0))] := hl
  have f36 : (Cond.fieldLink RX3 36 "IcePlant$Orders" "count" "I").before args s = true := hts _ (mC qf_X3_36)
  have f40 : (Cond.fieldLink RX3 40 "IcePlant$Orders" "openCount" "I").before args s = true := hts _ (mC qf_X3_40)
  have iX3 : ∀ w ∈ wsX30, w ∈ wsX3_isFull := fun w h => mC (iA_X3 w h)
  have h19 : ∀  (H : Heap) (locs : List Loc) (ls : Array Slot), f_X3_isFull_b19 imO = some r' → va_P D vwCl (W_O cy aO imO) H → va_D A (W_O cy aO imO) → va_S A s.heap H locs → lv_has ls 1 [] → W p l e rm_X3_isFull s m args below meth c H locs 0 0 (MQ below (QI D cy r' (W_O cy aO imO) A) args s 0 0 A) (F0 m 19 ls []) := by
    intro  H locs ls hE hP hD hS hl
    replace hE : (some (1 : Int32)) = some r' := hE
    refine lv_iconst (v := 1) hx hb dX3_isFull_19 (by decide) ?_
    refine lv_goto (tgt := 24) hx hb dX3_isFull_20 (by decide) ?_
    have hE := Option.some.inj hE
    exact ez hx hb hr (by decide) hlocks hK hP hD hS hE rfl dX3_isFull_24
  unfold f_X3_isFull at hE
  refine lv_aload_n hx hb dX3_isFull_0 rfl (lv_at hl 0 rfl) ?_
  refine va_get (D := D) (ci := 3) (v := .int (imO 0 0)) (C := RX3) (T := TX3) (N := 10) hx hb hts iX3 hown hK hP 0 rfl rfl 0 (by decide) f36 (fun _ h9 => h9) rfl dX3_isFull_1 ?_
  refine lv_sipush (v := 200) hx hb dX3_isFull_4 (by decide) ?_
  refine lv_icmp_ge (tgt := 19) hx hb dX3_isFull_7 (by decide) (fun c_1 => ?_) (fun c_1 => ?_)
  · replace hE := it_t hE c_1
    exact h19  _ _ _ hE hP hD hS (lv_sub hl [] rfl)
  · replace hE := it_f hE c_1
    refine lv_aload_n hx hb dX3_isFull_10 rfl (lv_at hl 0 rfl) ?_
    refine va_get (D := D) (ci := 3) (v := .int (imO 1 0)) (C := RX3) (T := TX3) (N := 10) hx hb hts iX3 hown hK hP 0 rfl rfl 1 (by decide) f40 (fun _ h9 => h9) rfl dX3_isFull_11 ?_
    refine lv_bipush (v := 20) hx hb dX3_isFull_14 (by decide) ?_
    refine lv_icmp_lt (tgt := 23) hx hb dX3_isFull_16 (by decide) (fun c_2 => ?_) (fun c_2 => ?_)
    · replace hE := it_t hE c_2
      refine lv_iconst (v := 0) hx hb dX3_isFull_23 (by decide) ?_
      have hE := Option.some.inj hE
      exact ez hx hb hr (by decide) hlocks hK hP hD hS hE rfl dX3_isFull_24
    · replace hE := it_f hE c_2
      exact h19  _ _ _ hE hP hD hS (lv_sub hl [] rfl)
abbrev rm_X3_place : Room := { frames := 1, cells := 0, slots := 0, locals := 20 }
set_option maxHeartbeats 40000000 in
set_option maxRecDepth 100000 in
theorem c_X3_place (l : Launch) (D : va_G) (cy : Nat → Nat) (aO : Nat → Nat) (x1 : Int32) (x2 : Int32) (x3 : Int32) (x4 : Int32) (imO : Mem) (r' : Int32) (mO' : Mem) (hE : f_X3_place x1 x2 x3 x4 imO = some (r', mO')) : CI l yX3_place wsX3_place rm_X3_place D cy [.ref (aO 0), .int x1, .int x2, .int x3, .int x4] (W_O cy aO imO) 0 0 r' (W_O cy aO mO') := by
  refine CQ_of (cc := cX3_place) (maxL := 5) (ret := (some .int)) (by decide) rfl (Nat.le_of_ble_eq_true rfl) (fun p e s m args below meth c A ls hx hb hr hml hlocks hnm hown hts hA hK hN hP hD hS hl => ?_)
  have hown : s.vm.findClass RX3 = some m.cls := hown
  have hl : lv_has ls 5 [(0, .ref (aO 0)), (1, .int x1), (2, .int x2), (3, .int x3), (4, .int x4)] := hl
  have hC : CallFix p m c cX3_place 5 s args wsX3_place RX3 := ⟨hx, hb, hml, hown, hts⟩
  have f11 : (Cond.fieldLink RX3 11 "IcePlant$Orders" "boats" "[I").before args s = true := hts _ (mC qf_X3_11)
  have f15 : (Cond.fieldLink RX3 15 "IcePlant$Orders" "wanted" "[I").before args s = true := hts _ (mC qf_X3_15)
  have f18 : (Cond.fieldLink RX3 18 "IcePlant$Orders" "delivered" "[I").before args s = true := hts _ (mC qf_X3_18)
  have f21 : (Cond.fieldLink RX3 21 "IcePlant$Orders" "hoursLeft" "[I").before args s = true := hts _ (mC qf_X3_21)
  have f24 : (Cond.fieldLink RX3 24 "IcePlant$Orders" "wholes" "[I").before args s = true := hts _ (mC qf_X3_24)
  have f27 : (Cond.fieldLink RX3 27 "IcePlant$Orders" "states" "[I").before args s = true := hts _ (mC qf_X3_27)
  have f30 : (Cond.fieldLink RX3 30 "IcePlant$Orders" "open" "[I").before args s = true := hts _ (mC qf_X3_30)
  have f36 : (Cond.fieldLink RX3 36 "IcePlant$Orders" "count" "I").before args s = true := hts _ (mC qf_X3_36)
  have f40 : (Cond.fieldLink RX3 40 "IcePlant$Orders" "openCount" "I").before args s = true := hts _ (mC qf_X3_40)
  have iX3 : ∀ w ∈ wsX30, w ∈ wsX3_place := fun w h => mC (iA_X3 w h)
  have h67 : ∀ (t0 : Int32) (t1 : Int32) (mO : Mem), ∀  (H : Heap) (locs : List Loc) (ls : Array Slot), f_X3_place_b67 t0 t1 mO = some (r', mO') → va_P D vwCl (W_O cy aO mO) H → va_D A (W_O cy aO mO) → va_S A s.heap H locs → lv_has ls 5 [(0, .ref (aO 0))] → W p l e rm_X3_place s m args below meth c H locs 0 0 (MQ below (QI D cy r' (W_O cy aO mO') A) args s 0 0 A) (F0 m 67 ls [.int t0, .int t1, .ref (aO 7)]) := by
    intro t0 t1 mO H locs ls hE hP hD hS hl
    replace hE : (gi t1 200 (lt' (wrI mO 6 (upd (mO 6) t1.toNatClampNeg t0)) fun mO_1 => gi (mO_1 0 0) 200 (lt' (wrI mO_1 7 (upd (mO_1 7) (mO_1 0 0).toNatClampNeg (0 : Int32))) fun mO_3 => gi (mO_3 1 0) 20 (lt' (wrI mO_3 8 (upd (mO_3 8) (mO_3 1 0).toNatClampNeg (mO_3 0 0))) fun mO_5 => lt' (wrI mO_5 1 (fun _ => ((mO_5 1 0) + (1 : Int32)))) fun mO_7 => lt' (wrI mO_7 0 (fun _ => ((mO_7 0 0) + (1 : Int32)))) fun mO_8 => some (((mO_8 0 0) - (1 : Int32)), mO_8))))) = some (r', mO') := hE
    obtain ⟨g_2, hE⟩ := gi_el hE
    obtain ⟨mO_1, e_mO_1, hE⟩ := lt_el hE
    refine s_ia (ws1 := (W_O cy aO mO_1)) hx hb hK hP hD hS 5 rfl g_2 (by rw [e_mO_1]; rfl) dX3_place_67 (fun H locs hP hD hS => ?_)
    refine lv_aload_n hx hb dX3_place_68 rfl (lv_at hl 0 rfl) ?_
    refine va_get (D := D) (ci := 3) (v := .ref (aO 8)) (C := RX3) (T := TX3) (N := 10) hx hb hts iX3 hown hK hP 0 rfl rfl 7 (by decide) f27 (fun _ h9 => h9) rfl dX3_place_69 ?_
    refine lv_aload_n hx hb dX3_place_72 rfl (lv_at hl 0 rfl) ?_
    refine va_get (D := D) (ci := 3) (v := .int (mO_1 0 0)) (C := RX3) (T := TX3) (N := 10) hx hb hts iX3 hown hK hP 0 rfl rfl 0 (by decide) f36 (fun _ h9 => h9) rfl dX3_place_73 ?_
    refine lv_iconst (v := 0) hx hb dX3_place_76 (by decide) ?_
    obtain ⟨g_4, hE⟩ := gi_el hE
    obtain ⟨mO_3, e_mO_3, hE⟩ := lt_el hE
    refine s_ia (ws1 := (W_O cy aO mO_3)) hx hb hK hP hD hS 6 rfl g_4 (by rw [e_mO_3]; rfl) dX3_place_77 (fun H locs hP hD hS => ?_)
    refine lv_aload_n hx hb dX3_place_78 rfl (lv_at hl 0 rfl) ?_
    refine va_get (D := D) (ci := 3) (v := .ref (aO 9)) (C := RX3) (T := TX3) (N := 10) hx hb hts iX3 hown hK hP 0 rfl rfl 8 (by decide) f30 (fun _ h9 => h9) rfl dX3_place_79 ?_
    refine lv_aload_n hx hb dX3_place_82 rfl (lv_at hl 0 rfl) ?_
    refine va_get (D := D) (ci := 3) (v := .int (mO_3 1 0)) (C := RX3) (T := TX3) (N := 10) hx hb hts iX3 hown hK hP 0 rfl rfl 1 (by decide) f40 (fun _ h9 => h9) rfl dX3_place_83 ?_
    refine lv_aload_n hx hb dX3_place_86 rfl (lv_at hl 0 rfl) ?_
    refine va_get (D := D) (ci := 3) (v := .int (mO_3 0 0)) (C := RX3) (T := TX3) (N := 10) hx hb hts iX3 hown hK hP 0 rfl rfl 0 (by decide) f36 (fun _ h9 => h9) rfl dX3_place_87 ?_
    obtain ⟨g_6, hE⟩ := gi_el hE
    obtain ⟨mO_5, e_mO_5, hE⟩ := lt_el hE
    refine s_ia (ws1 := (W_O cy aO mO_5)) hx hb hK hP hD hS 7 rfl g_6 (by rw [e_mO_5]; rfl) dX3_place_90 (fun H locs hP hD hS => ?_)
    refine lv_aload_n hx hb dX3_place_91 rfl (lv_at hl 0 rfl) ?_
    refine lv_dup hx hb dX3_place_92 rfl ?_
    refine va_get (D := D) (ci := 3) (v := .int (mO_5 1 0)) (C := RX3) (T := TX3) (N := 10) hx hb hts iX3 hown hK hP 0 rfl rfl 1 (by decide) f40 (fun _ h9 => h9) rfl dX3_place_93 ?_
    refine lv_iconst (v := 1) hx hb dX3_place_96 (by decide) ?_
    refine lv_iadd hx hb dX3_place_97 ?_
    obtain ⟨mO_7, e_mO_7, hE⟩ := lt_el hE
    refine s_pf (own := RX3) (C := RX3) (T := TX3) (N := 10) (ci := 3) (ws1 := (W_O cy aO mO_7)) hx hb hts iX3 tyX3 tyX3_ok nmX3 hown hK hP hD hS 0 rfl rfl 1 (by decide) f40 rfl rfl rfl rfl (Nat.le_of_ble_eq_true rfl) (by rw [e_mO_7]; rfl) dX3_place_98 (fun H locs hP hD hS => ?_)
    refine lv_aload_n hx hb dX3_place_101 rfl (lv_at hl 0 rfl) ?_
    refine lv_dup hx hb dX3_place_102 rfl ?_
    refine va_get (D := D) (ci := 3) (v := .int (mO_7 0 0)) (C := RX3) (T := TX3) (N := 10) hx hb hts iX3 hown hK hP 0 rfl rfl 0 (by decide) f36 (fun _ h9 => h9) rfl dX3_place_103 ?_
    refine lv_iconst (v := 1) hx hb dX3_place_106 (by decide) ?_
    refine lv_iadd hx hb dX3_place_107 ?_
    obtain ⟨mO_8, e_mO_8, hE⟩ := lt_el hE
    refine s_pf (own := RX3) (C := RX3) (T := TX3) (N := 10) (ci := 3) (ws1 := (W_O cy aO mO_8)) hx hb hts iX3 tyX3 tyX3_ok nmX3 hown hK hP hD hS 0 rfl rfl 0 (by decide) f36 rfl rfl rfl rfl (Nat.le_of_ble_eq_true rfl) (by rw [e_mO_8]; rfl) dX3_place_108 (fun H locs hP hD hS => ?_)
    refine lv_aload_n hx hb dX3_place_111 rfl (lv_at hl 0 rfl) ?_
    refine va_get (D := D) (ci := 3) (v := .int (mO_8 0 0)) (C := RX3) (T := TX3) (N := 10) hx hb hts iX3 hown hK hP 0 rfl rfl 0 (by decide) f36 (fun _ h9 => h9) rfl dX3_place_112 ?_
    refine lv_iconst (v := 1) hx hb dX3_place_115 (by decide) ?_
    refine lv_isub hx hb dX3_place_116 ?_
    have hE := Option.some.inj hE
    obtain ⟨q0, q1⟩ := Prod.mk.inj hE
    exact ei hx hb hr hlocks hK hP hD hS q0 (by rw [q1]) dX3_place_117
  unfold f_X3_place at hE
  refine lv_aload_n hx hb dX3_place_0 rfl (lv_at hl 0 rfl) ?_
  obtain ⟨r_9, hc_10, hE⟩ := bd1_el hE
  refine ki (X := []) (Y := []) (ws1 := (W_O cy aO imO)) (rV (X := []) (Y := []) (As := []) (rest := []) hC (c_X3_isFull l D cy aO imO r_9 hc_10) (cwV 0 hts gX3_place_X3_isFull rfl rfl rfl cd_X3_isFull ⟨Nat.le_of_ble_eq_true rfl, Nat.le_of_ble_eq_true rfl⟩) hK hN hP hD hS hA rfl 0 3 rfl rfl rfl hl.1 rfl (lv_room (Nat.le_of_ble_eq_true rfl)) dX3_place_1 ⟨Nat.le_of_ble_eq_true rfl, Nat.le_of_ble_eq_true rfl⟩) hP hD hS hA rfl rfl rfl (fun H locs hP hD hS => ?_)
  refine lv_if_eq (tgt := 9) hx hb dX3_place_4 (by decide) (fun c_11 => ?_) (fun c_11 => ?_)
  · replace hE := it_t hE c_11
    refine lv_aload_n hx hb dX3_place_9 rfl (lv_at hl 0 rfl) ?_
    refine va_get (D := D) (ci := 3) (v := .ref (aO 3)) (C := RX3) (T := TX3) (N := 10) hx hb hts iX3 hown hK hP 0 rfl rfl 2 (by decide) f11 (fun _ h9 => h9) rfl dX3_place_10 ?_
    refine lv_aload_n hx hb dX3_place_13 rfl (lv_at hl 0 rfl) ?_
    refine va_get (D := D) (ci := 3) (v := .int (imO 0 0)) (C := RX3) (T := TX3) (N := 10) hx hb hts iX3 hown hK hP 0 rfl rfl 0 (by decide) f36 (fun _ h9 => h9) rfl dX3_place_14 ?_
    refine lv_iload_n hx hb dX3_place_17 rfl (lv_at hl 1 rfl) ?_
    obtain ⟨g_13, hE⟩ := gi_el hE
    obtain ⟨mO_12, e_mO_12, hE⟩ := lt_el hE
    refine s_ia (ws1 := (W_O cy aO mO_12)) hx hb hK hP hD hS 1 rfl g_13 (by rw [e_mO_12]; rfl) dX3_place_18 (fun H locs hP hD hS => ?_)
    refine lv_aload_n hx hb dX3_place_19 rfl (lv_at hl 0 rfl) ?_
    refine va_get (D := D) (ci := 3) (v := .ref (aO 4)) (C := RX3) (T := TX3) (N := 10) hx hb hts iX3 hown hK hP 0 rfl rfl 3 (by decide) f15 (fun _ h9 => h9) rfl dX3_place_20 ?_
    refine lv_aload_n hx hb dX3_place_23 rfl (lv_at hl 0 rfl) ?_
    refine va_get (D := D) (ci := 3) (v := .int (mO_12 0 0)) (C := RX3) (T := TX3) (N := 10) hx hb hts iX3 hown hK hP 0 rfl rfl 0 (by decide) f36 (fun _ h9 => h9) rfl dX3_place_24 ?_
    refine lv_iload_n hx hb dX3_place_27 rfl (lv_at hl 2 rfl) ?_
    obtain ⟨g_15, hE⟩ := gi_el hE
    obtain ⟨mO_14, e_mO_14, hE⟩ := lt_el hE
    refine s_ia (ws1 := (W_O cy aO mO_14)) hx hb hK hP hD hS 2 rfl g_15 (by rw [e_mO_14]; rfl) dX3_place_28 (fun H locs hP hD hS => ?_)
    refine lv_aload_n hx hb dX3_place_29 rfl (lv_at hl 0 rfl) ?_
    refine va_get (D := D) (ci := 3) (v := .ref (aO 5)) (C := RX3) (T := TX3) (N := 10) hx hb hts iX3 hown hK hP 0 rfl rfl 4 (by decide) f18 (fun _ h9 => h9) rfl dX3_place_30 ?_
    refine lv_aload_n hx hb dX3_place_33 rfl (lv_at hl 0 rfl) ?_
    refine va_get (D := D) (ci := 3) (v := .int (mO_14 0 0)) (C := RX3) (T := TX3) (N := 10) hx hb hts iX3 hown hK hP 0 rfl rfl 0 (by decide) f36 (fun _ h9 => h9) rfl dX3_place_34 ?_
    refine lv_iconst (v := 0) hx hb dX3_place_37 (by decide) ?_
    obtain ⟨g_17, hE⟩ := gi_el hE
    obtain ⟨mO_16, e_mO_16, hE⟩ := lt_el hE
    refine s_ia (ws1 := (W_O cy aO mO_16)) hx hb hK hP hD hS 3 rfl g_17 (by rw [e_mO_16]; rfl) dX3_place_38 (fun H locs hP hD hS => ?_)
    refine lv_aload_n hx hb dX3_place_39 rfl (lv_at hl 0 rfl) ?_
    refine va_get (D := D) (ci := 3) (v := .ref (aO 6)) (C := RX3) (T := TX3) (N := 10) hx hb hts iX3 hown hK hP 0 rfl rfl 5 (by decide) f21 (fun _ h9 => h9) rfl dX3_place_40 ?_
    refine lv_aload_n hx hb dX3_place_43 rfl (lv_at hl 0 rfl) ?_
    refine va_get (D := D) (ci := 3) (v := .int (mO_16 0 0)) (C := RX3) (T := TX3) (N := 10) hx hb hts iX3 hown hK hP 0 rfl rfl 0 (by decide) f36 (fun _ h9 => h9) rfl dX3_place_44 ?_
    refine lv_iload_n hx hb dX3_place_47 rfl (lv_at hl 3 rfl) ?_
    obtain ⟨g_19, hE⟩ := gi_el hE
    obtain ⟨mO_18, e_mO_18, hE⟩ := lt_el hE
    refine s_ia (ws1 := (W_O cy aO mO_18)) hx hb hK hP hD hS 4 rfl g_19 (by rw [e_mO_18]; rfl) dX3_place_48 (fun H locs hP hD hS => ?_)
    refine lv_aload_n hx hb dX3_place_49 rfl (lv_at hl 0 rfl) ?_
    refine va_get (D := D) (ci := 3) (v := .ref (aO 7)) (C := RX3) (T := TX3) (N := 10) hx hb hts iX3 hown hK hP 0 rfl rfl 6 (by decide) f24 (fun _ h9 => h9) rfl dX3_place_50 ?_
    refine lv_aload_n hx hb dX3_place_53 rfl (lv_at hl 0 rfl) ?_
    refine va_get (D := D) (ci := 3) (v := .int (mO_18 0 0)) (C := RX3) (T := TX3) (N := 10) hx hb hts iX3 hown hK hP 0 rfl rfl 0 (by decide) f36 (fun _ h9 => h9) rfl dX3_place_54 ?_
    refine lv_iload hx hb dX3_place_57 (lv_at hl 4 rfl) ?_
    refine lv_if_eq (tgt := 66) hx hb dX3_place_59 (by decide) (fun c_20 => ?_) (fun c_20 => ?_)
    · replace hE := it_t hE c_20
      refine lv_iconst (v := 0) hx hb dX3_place_66 (by decide) ?_
      exact h67 (0 : Int32) (mO_18 0 0) mO_18 _ _ _ hE hP hD hS (lv_sub hl [0] rfl)
    · replace hE := it_f hE c_20
      refine lv_iconst (v := 1) hx hb dX3_place_62 (by decide) ?_
      refine lv_goto (tgt := 67) hx hb dX3_place_63 (by decide) ?_
      exact h67 (1 : Int32) (mO_18 0 0) mO_18 _ _ _ hE hP hD hS (lv_sub hl [0] rfl)
  · replace hE := it_f hE c_11
    refine lv_iconst (v := (-1)) hx hb dX3_place_7 (by decide) ?_
    have hE := Option.some.inj hE
    obtain ⟨q0, q1⟩ := Prod.mk.inj hE
    exact ei hx hb hr hlocks hK hP hD hS q0 (by rw [q1]) dX3_place_8
abbrev rm_X3_remaining : Room := { frames := 1, cells := 0, slots := 0, locals := 21 }
set_option maxHeartbeats 40000000 in
set_option maxRecDepth 100000 in
theorem c_X3_remaining (l : Launch) (D : va_G) (cy : Nat → Nat) (aO : Nat → Nat) (x1 : Int32) (imO : Mem) (r' : Int32) (hE : f_X3_remaining x1 imO = some r') : CI l yX3_remaining wsX3_remaining rm_X3_remaining D cy [.ref (aO 0), .int x1] (W_O cy aO imO) 0 0 r' (W_O cy aO imO) := by
  refine CQ_of (cc := cX3_remaining) (maxL := 3) (ret := (some .int)) (by decide) rfl (Nat.le_of_ble_eq_true rfl) (fun p e s m args below meth c A ls hx hb hr hml hlocks hnm hown hts hA hK hN hP hD hS hl => ?_)
  have hown : s.vm.findClass RX3 = some m.cls := hown
  have hl : lv_has ls 3 [(0, .ref (aO 0)), (1, .int x1)] := hl
  have hC : CallFix p m c cX3_remaining 3 s args wsX3_remaining RX3 := ⟨hx, hb, hml, hown, hts⟩
  have f15 : (Cond.fieldLink RX3 15 "IcePlant$Orders" "wanted" "[I").before args s = true := hts _ (mC qf_X3_15)
  have f18 : (Cond.fieldLink RX3 18 "IcePlant$Orders" "delivered" "[I").before args s = true := hts _ (mC qf_X3_18)
  have iX3 : ∀ w ∈ wsX30, w ∈ wsX3_remaining := fun w h => mC (iA_X3 w h)
  have in_X8 : (Cond.initialized RX8).before args s = true := hts _ (mC qn_X8)
  have st_X8_valueAt : (Cond.static yX8_valueAt).before args s = true := hts _ (mC qs_X8_valueAt)
  unfold f_X3_remaining at hE
  refine lv_aload_n hx hb dX3_remaining_0 rfl (lv_at hl 0 rfl) ?_
  refine va_get (D := D) (ci := 3) (v := .ref (aO 4)) (C := RX3) (T := TX3) (N := 10) hx hb hts iX3 hown hK hP 0 rfl rfl 3 (by decide) f15 (fun _ h9 => h9) rfl dX3_remaining_1 ?_
  refine lv_iload_n hx hb dX3_remaining_4 rfl (lv_at hl 1 rfl) ?_
  obtain ⟨r_1, hc_2, hE⟩ := bd1_el hE
  refine ki (X := (List.take 2 (W_O cy aO imO))) (Y := (List.drop 3 (W_O cy aO imO))) (ws1 := (W_O cy aO imO)) (rSN (X := (List.take 2 (W_O cy aO imO))) (Y := (List.drop 3 (W_O cy aO imO))) (As := [.ref (aO 4), .int x1]) (rest := []) hC (c_X8_valueAt l D cy (aO 4) x1 (200) (imO 3) r_1 hc_2) (va_cnB 2 hts gX3_remaining_X8_valueAt_n51 rfl rfl rfl (hN.1 5 _ rfl) in_X8 cd_X8_valueAt.2 ⟨Nat.le_of_ble_eq_true rfl, Nat.le_of_ble_eq_true rfl⟩) st_X8_valueAt hK hN hP hD hS hA rfl rfl hl.1 rfl (lv_room (Nat.le_of_ble_eq_true rfl)) dX3_remaining_5 ⟨Nat.le_of_ble_eq_true rfl, Nat.le_of_ble_eq_true rfl⟩) hP hD hS hA rfl rfl rfl (fun H locs hP hD hS => ?_)
  refine lv_aload_n hx hb dX3_remaining_8 rfl (lv_at hl 0 rfl) ?_
  refine va_get (D := D) (ci := 3) (v := .ref (aO 5)) (C := RX3) (T := TX3) (N := 10) hx hb hts iX3 hown hK hP 0 rfl rfl 4 (by decide) f18 (fun _ h9 => h9) rfl dX3_remaining_9 ?_
  refine lv_iload_n hx hb dX3_remaining_12 rfl (lv_at hl 1 rfl) ?_
  obtain ⟨r_3, hc_4, hE⟩ := bd1_el hE
  refine ki (X := (List.take 3 (W_O cy aO imO))) (Y := (List.drop 4 (W_O cy aO imO))) (ws1 := (W_O cy aO imO)) (rSN (X := (List.take 3 (W_O cy aO imO))) (Y := (List.drop 4 (W_O cy aO imO))) (As := [.ref (aO 5), .int x1]) (rest := [.int r_1]) hC (c_X8_valueAt l D cy (aO 5) x1 (200) (imO 4) r_3 hc_4) (va_cnB 2 hts gX3_remaining_X8_valueAt_n51 rfl rfl rfl (hN.1 5 _ rfl) in_X8 cd_X8_valueAt.2 ⟨Nat.le_of_ble_eq_true rfl, Nat.le_of_ble_eq_true rfl⟩) st_X8_valueAt hK hN hP hD hS hA rfl rfl hl.1 rfl (lv_room (Nat.le_of_ble_eq_true rfl)) dX3_remaining_13 ⟨Nat.le_of_ble_eq_true rfl, Nat.le_of_ble_eq_true rfl⟩) hP hD hS hA rfl rfl rfl (fun H locs hP hD hS => ?_)
  refine lv_isub hx hb dX3_remaining_16 ?_
  obtain ⟨x2_5, e_x2_5, hE⟩ := lt_el hE
  refine s_nm e_x2_5 ?_
  refine lv_istore_n (lv' := [(2, .int x2_5), (0, .ref (aO 0)), (1, .int x1)]) hx hb dX3_remaining_17 rfl hl (by decide) rfl (fun ls hl => ?_)
  refine lv_iload_n hx hb dX3_remaining_18 rfl (lv_at hl 0 rfl) ?_
  refine lv_if_le (tgt := 26) hx hb dX3_remaining_19 (by decide) (fun c_6 => ?_) (fun c_6 => ?_)
  · replace hE := it_t hE c_6
    refine lv_iconst (v := 0) hx hb dX3_remaining_26 (by decide) ?_
    have hE := Option.some.inj hE
    exact ei hx hb hr hlocks hK hP hD hS hE rfl dX3_remaining_27
  · replace hE := it_f hE c_6
    refine lv_iload_n hx hb dX3_remaining_22 rfl (lv_at hl 0 rfl) ?_
    refine lv_goto (tgt := 27) hx hb dX3_remaining_23 (by decide) ?_
    have hE := Option.some.inj hE
    exact ei hx hb hr hlocks hK hP hD hS hE rfl dX3_remaining_27
abbrev rm_X3_close : Room := { frames := 1, cells := 0, slots := 0, locals := 21 }
set_option maxHeartbeats 40000000 in
set_option maxRecDepth 100000 in
theorem c_X3_close (l : Launch) (D : va_G) (cy : Nat → Nat) (aO : Nat → Nat) (x1 : Int32) (x2 : Int32) (imO : Mem) (mO' : Mem) (hE : f_X3_close x1 x2 imO = some mO') : CV l yX3_close wsX3_close rm_X3_close D cy [.ref (aO 0), .int x1, .int x2] (W_O cy aO imO) 0 0 (W_O cy aO mO') := by
  refine CQ_of (cc := cX3_close) (maxL := 5) (ret := none) (by decide) rfl (Nat.le_of_ble_eq_true rfl) (fun p e s m args below meth c A ls hx hb hr hml hlocks hnm hown hts hA hK hN hP hD hS hl => ?_)
  have hown : s.vm.findClass RX3 = some m.cls := hown
  have hl : lv_has ls 5 [(0, .ref (aO 0)), (1, .int x1), (2, .int x2)] := hl
  have hC : CallFix p m c cX3_close 5 s args wsX3_close RX3 := ⟨hx, hb, hml, hown, hts⟩
  have f27 : (Cond.fieldLink RX3 27 "IcePlant$Orders" "states" "[I").before args s = true := hts _ (mC qf_X3_27)
  have f30 : (Cond.fieldLink RX3 30 "IcePlant$Orders" "open" "[I").before args s = true := hts _ (mC qf_X3_30)
  have f40 : (Cond.fieldLink RX3 40 "IcePlant$Orders" "openCount" "I").before args s = true := hts _ (mC qf_X3_40)
  have iX3 : ∀ w ∈ wsX30, w ∈ wsX3_close := fun w h => mC (iA_X3 w h)
  have h57 : ∀ (x1 : Int32) (x3 : Int32) (x4 : Int32) (mO : Mem), ∀ (k21 : (Int32 → Int32 → Mem → Option (Mem))), (∀ (x3 : Int32) (x4 : Int32) (mO : Mem) (H : Heap) (locs : List Loc) (ls : Array Slot), k21 x3 x4 mO = some mO' → va_P D vwCl (W_O cy aO mO) H → va_D A (W_O cy aO mO) → va_S A s.heap H locs → lv_has ls 5 [(0, .ref (aO 0)), (1, .int x1), (3, .int x3), (4, .int x4)] → W p l e rm_X3_close s m args below meth c H locs 0 0 (MQ below (QV D cy (W_O cy aO mO') A) args s 0 0 A) (F0 m 21 ls [])) → ∀  (H : Heap) (locs : List Loc) (ls : Array Slot), f_X3_close_b57 k21 x1 x3 x4 mO = some mO' → va_P D vwCl (W_O cy aO mO) H → va_D A (W_O cy aO mO) → va_S A s.heap H locs → lv_has ls 5 [(0, .ref (aO 0)), (1, .int x1), (3, .int x3), (4, .int x4)] → W p l e rm_X3_close s m args below meth c H locs 0 0 (MQ below (QV D cy (W_O cy aO mO') A) args s 0 0 A) (F0 m 57 ls []) := by
    intro x1 x3 x4 mO k21 hk21 H locs ls hE hP hD hS hl
    replace hE : (lt' (x4 + (1 : Int32)) fun x4_1 => k21 x3 x4_1 mO) = some mO' := hE
    obtain ⟨x4_1, e_x4_1, hE⟩ := lt_el hE
    refine lv_iinc (v := x4_1) (lv' := [(4, .int x4_1), (0, .ref (aO 0)), (1, .int x1), (3, .int x3)]) hx hb dX3_close_57 hl (k := 3) rfl (by rw [e_x4_1]; rfl) (by decide) rfl (fun ls hl => ?_)
    refine lv_goto (tgt := 21) hx hb dX3_close_60 (by decide) ?_
    exact hk21 x3 x4_1 mO _ _ _ hE hP hD hS (lv_sub hl [1, 2, 3, 0] rfl)
  have h21 : ∀ (x1 : Int32), ∀ (n : Nat), ∀ (x3 : Int32) (x4 : Int32) (mO : Mem) (H : Heap) (locs : List Loc) (ls : Array Slot), f_X3_close_L21 x1 n x3 x4 mO = some mO' → va_P D vwCl (W_O cy aO mO) H → va_D A (W_O cy aO mO) → va_S A s.heap H locs → lv_has ls 5 [(0, .ref (aO 0)), (1, .int x1), (3, .int x3), (4, .int x4)] → W p l e rm_X3_close s m args below meth c H locs 0 0 (MQ below (QV D cy (W_O cy aO mO') A) args s 0 0 A) (F0 m 21 ls []) := by
    intro x1 n
    induction n with
    | zero => intro x3 x4 mO H locs ls hE; exact absurd hE (fun h9 => nomatch h9)
    | succ n ih =>
      intro x3 x4 mO H locs ls hE hP hD hS hl
      replace hE : ((if (mO 1 0) ≤ x4 then lt' (wrI mO 1 (fun _ => x3)) fun mO_3 => some mO_3 else gi x4 20 ((if (mO 8 x4.toNatClampNeg) = x1 then f_X3_close_b57 (f_X3_close_L21 x1 n) x1 x3 x4 mO else gi x4 20 (gi x3 20 (lt' (wrI mO 8 (upd (mO 8) x3.toNatClampNeg (mO 8 x4.toNatClampNeg))) fun mO_7 => lt' (x3 + (1 : Int32)) fun x3_9 => f_X3_close_b57 (f_X3_close_L21 x1 n) x1 x3_9 x4 mO_7)))))) = some mO' := hE
      refine lv_iload hx hb dX3_close_21 (lv_at hl 3 rfl) ?_
      refine lv_aload_n hx hb dX3_close_23 rfl (lv_at hl 0 rfl) ?_
      refine va_get (D := D) (ci := 3) (v := .int (mO 1 0)) (C := RX3) (T := TX3) (N := 10) hx hb hts iX3 hown hK hP 0 rfl rfl 1 (by decide) f40 (fun _ h9 => h9) rfl dX3_close_24 ?_
      refine lv_icmp_ge (tgt := 63) hx hb dX3_close_27 (by decide) (fun c_2 => ?_) (fun c_2 => ?_)
      · replace hE := it_t hE c_2
        refine lv_aload_n hx hb dX3_close_63 rfl (lv_at hl 0 rfl) ?_
        refine lv_iload_n hx hb dX3_close_64 rfl (lv_at hl 2 rfl) ?_
        obtain ⟨mO_3, e_mO_3, hE⟩ := lt_el hE
        refine s_pf (own := RX3) (C := RX3) (T := TX3) (N := 10) (ci := 3) (ws1 := (W_O cy aO mO_3)) hx hb hts iX3 tyX3 tyX3_ok nmX3 hown hK hP hD hS 0 rfl rfl 1 (by decide) f40 rfl rfl rfl rfl (Nat.le_of_ble_eq_true rfl) (by rw [e_mO_3]; rfl) dX3_close_65 (fun H locs hP hD hS => ?_)
        have hE := Option.some.inj hE
        exact ev hx hb hr hlocks hK hP hD hS (by rw [hE]) dX3_close_68
      · replace hE := it_f hE c_2
        refine lv_aload_n hx hb dX3_close_30 rfl (lv_at hl 0 rfl) ?_
        refine va_get (D := D) (ci := 3) (v := .ref (aO 9)) (C := RX3) (T := TX3) (N := 10) hx hb hts iX3 hown hK hP 0 rfl rfl 8 (by decide) f30 (fun _ h9 => h9) rfl dX3_close_31 ?_
        refine lv_iload hx hb dX3_close_34 (lv_at hl 3 rfl) ?_
        obtain ⟨g_4, hE⟩ := gi_el hE
        refine va_iald hx hb hK hP 7 0 rfl rfl g_4 dX3_close_36 ?_
        refine lv_iload_n hx hb dX3_close_37 rfl (lv_at hl 1 rfl) ?_
        refine lv_icmp_eq (tgt := 57) hx hb dX3_close_38 (by decide) (fun c_5 => ?_) (fun c_5 => ?_)
        · replace hE := it_t hE c_5
          exact h57 x1 x3 x4 mO (f_X3_close_L21 x1 n) ih _ _ _ hE hP hD hS (lv_sub hl [0, 1, 2, 3] rfl)
        · replace hE := it_f hE c_5
          refine lv_aload_n hx hb dX3_close_41 rfl (lv_at hl 0 rfl) ?_
          refine va_get (D := D) (ci := 3) (v := .ref (aO 9)) (C := RX3) (T := TX3) (N := 10) hx hb hts iX3 hown hK hP 0 rfl rfl 8 (by decide) f30 (fun _ h9 => h9) rfl dX3_close_42 ?_
          refine lv_iload_n hx hb dX3_close_45 rfl (lv_at hl 2 rfl) ?_
          refine lv_aload_n hx hb dX3_close_46 rfl (lv_at hl 0 rfl) ?_
          refine va_get (D := D) (ci := 3) (v := .ref (aO 9)) (C := RX3) (T := TX3) (N := 10) hx hb hts iX3 hown hK hP 0 rfl rfl 8 (by decide) f30 (fun _ h9 => h9) rfl dX3_close_47 ?_
          refine lv_iload hx hb dX3_close_50 (lv_at hl 3 rfl) ?_
          obtain ⟨g_6, hE⟩ := gi_el hE
          refine va_iald hx hb hK hP 7 0 rfl rfl g_6 dX3_close_52 ?_
          obtain ⟨g_8, hE⟩ := gi_el hE
          obtain ⟨mO_7, e_mO_7, hE⟩ := lt_el hE
          refine s_ia (ws1 := (W_O cy aO mO_7)) hx hb hK hP hD hS 7 rfl g_8 (by rw [e_mO_7]; rfl) dX3_close_53 (fun H locs hP hD hS => ?_)
          obtain ⟨x3_9, e_x3_9, hE⟩ := lt_el hE
          refine lv_iinc (v := x3_9) (lv' := [(3, .int x3_9), (0, .ref (aO 0)), (1, .int x1), (4, .int x4)]) hx hb dX3_close_54 hl (k := 2) rfl (by rw [e_x3_9]; rfl) (by decide) rfl (fun ls hl => ?_)
          exact h57 x1 x3_9 x4 mO_7 (f_X3_close_L21 x1 n) ih _ _ _ hE hP hD hS (lv_sub hl [1, 2, 0, 3] rfl)
  unfold f_X3_close at hE
  refine lv_aload_n hx hb dX3_close_0 rfl (lv_at hl 0 rfl) ?_
  refine lv_iload_n hx hb dX3_close_1 rfl (lv_at hl 1 rfl) ?_
  obtain ⟨r_10, hc_11, hE⟩ := bd1_el hE
  refine ki (X := []) (Y := []) (ws1 := (W_O cy aO imO)) (rV (X := []) (Y := []) (As := [.int x1]) (rest := []) hC (c_X3_has l D cy aO x1 imO r_10 hc_11) (cwV 1 hts gX3_close_X3_has rfl rfl rfl cd_X3_has ⟨Nat.le_of_ble_eq_true rfl, Nat.le_of_ble_eq_true rfl⟩) hK hN hP hD hS hA rfl 0 3 rfl rfl rfl hl.1 rfl (lv_room (Nat.le_of_ble_eq_true rfl)) dX3_close_2 ⟨Nat.le_of_ble_eq_true rfl, Nat.le_of_ble_eq_true rfl⟩) hP hD hS hA rfl rfl rfl (fun H locs hP hD hS => ?_)
  refine lv_if_ne (tgt := 9) hx hb dX3_close_5 (by decide) (fun c_12 => ?_) (fun c_12 => ?_)
  · replace hE := it_f hE c_12
    refine lv_aload_n hx hb dX3_close_9 rfl (lv_at hl 0 rfl) ?_
    refine va_get (D := D) (ci := 3) (v := .ref (aO 8)) (C := RX3) (T := TX3) (N := 10) hx hb hts iX3 hown hK hP 0 rfl rfl 7 (by decide) f27 (fun _ h9 => h9) rfl dX3_close_10 ?_
    refine lv_iload_n hx hb dX3_close_13 rfl (lv_at hl 1 rfl) ?_
    refine lv_iload_n hx hb dX3_close_14 rfl (lv_at hl 2 rfl) ?_
    obtain ⟨g_14, hE⟩ := gi_el hE
    obtain ⟨mO_13, e_mO_13, hE⟩ := lt_el hE
    refine s_ia (ws1 := (W_O cy aO mO_13)) hx hb hK hP hD hS 6 rfl g_14 (by rw [e_mO_13]; rfl) dX3_close_15 (fun H locs hP hD hS => ?_)
    refine lv_iconst (v := 0) hx hb dX3_close_16 (by decide) ?_
    refine lv_istore_n (lv' := [(3, .int (0 : Int32)), (0, .ref (aO 0)), (1, .int x1), (2, .int x2)]) hx hb dX3_close_17 rfl hl (by decide) rfl (fun ls hl => ?_)
    refine lv_iconst (v := 0) hx hb dX3_close_18 (by decide) ?_
    refine lv_istore (lv' := [(4, .int (0 : Int32)), (3, .int (0 : Int32)), (0, .ref (aO 0)), (1, .int x1), (2, .int x2)]) hx hb dX3_close_19 hl (by decide) rfl (fun ls hl => ?_)
    exact h21 x1 fuel (0 : Int32) (0 : Int32) mO_13 _ _ _ hE hP hD hS (lv_sub hl [2, 3, 1, 0] rfl)
  · replace hE := it_t hE c_12
    have hE := Option.some.inj hE
    exact ev hx hb hr hlocks hK hP hD hS (by rw [hE]) dX3_close_8
abbrev rm_X3_deliver : Room := { frames := 2, cells := 0, slots := 0, locals := 45 }
set_option maxHeartbeats 40000000 in
set_option maxRecDepth 100000 in
theorem c_X3_deliver (l : Launch) (D : va_G) (cy : Nat → Nat) (aO : Nat → Nat) (x1 : Int32) (x2 : Int32) (imO : Mem) (mO' : Mem) (hE : f_X3_deliver x1 x2 imO = some mO') : CV l yX3_deliver wsX3_deliver rm_X3_deliver D cy [.ref (aO 0), .int x1, .int x2] (W_O cy aO imO) 0 0 (W_O cy aO mO') := by
  refine CQ_of (cc := cX3_deliver) (maxL := 3) (ret := none) (by decide) rfl (Nat.le_of_ble_eq_true rfl) (fun p e s m args below meth c A ls hx hb hr hml hlocks hnm hown hts hA hK hN hP hD hS hl => ?_)
  have hown : s.vm.findClass RX3 = some m.cls := hown
  have hl : lv_has ls 3 [(0, .ref (aO 0)), (1, .int x1), (2, .int x2)] := hl
  have hC : CallFix p m c cX3_deliver 3 s args wsX3_deliver RX3 := ⟨hx, hb, hml, hown, hts⟩
  have f15 : (Cond.fieldLink RX3 15 "IcePlant$Orders" "wanted" "[I").before args s = true := hts _ (mC qf_X3_15)
  have f18 : (Cond.fieldLink RX3 18 "IcePlant$Orders" "delivered" "[I").before args s = true := hts _ (mC qf_X3_18)
  have iX3 : ∀ w ∈ wsX30, w ∈ wsX3_deliver := fun w h => mC (iA_X3 w h)
  unfold f_X3_deliver at hE
  refine lv_aload_n hx hb dX3_deliver_0 rfl (lv_at hl 0 rfl) ?_
  refine lv_iload_n hx hb dX3_deliver_1 rfl (lv_at hl 1 rfl) ?_
  obtain ⟨r_1, hc_2, hE⟩ := bd1_el hE
  refine ki (X := []) (Y := []) (ws1 := (W_O cy aO imO)) (rV (X := []) (Y := []) (As := [.int x1]) (rest := []) hC (c_X3_has l D cy aO x1 imO r_1 hc_2) (cwV 1 hts gX3_deliver_X3_has rfl rfl rfl cd_X3_has ⟨Nat.le_of_ble_eq_true rfl, Nat.le_of_ble_eq_true rfl⟩) hK hN hP hD hS hA rfl 0 3 rfl rfl rfl hl.1 rfl (lv_room (Nat.le_of_ble_eq_true rfl)) dX3_deliver_2 ⟨Nat.le_of_ble_eq_true rfl, Nat.le_of_ble_eq_true rfl⟩) hP hD hS hA rfl rfl rfl (fun H locs hP hD hS => ?_)
  refine lv_if_eq (tgt := 39) hx hb dX3_deliver_5 (by decide) (fun c_3 => ?_) (fun c_3 => ?_)
  · replace hE := it_t hE c_3
    have hE := Option.some.inj hE
    exact ev hx hb hr hlocks hK hP hD hS (by rw [hE]) dX3_deliver_39
  · replace hE := it_f hE c_3
    refine lv_aload_n hx hb dX3_deliver_8 rfl (lv_at hl 0 rfl) ?_
    refine va_get (D := D) (ci := 3) (v := .ref (aO 5)) (C := RX3) (T := TX3) (N := 10) hx hb hts iX3 hown hK hP 0 rfl rfl 4 (by decide) f18 (fun _ h9 => h9) rfl dX3_deliver_9 ?_
    refine lv_iload_n hx hb dX3_deliver_12 rfl (lv_at hl 1 rfl) ?_
    refine lv_dup2_11 hx hb dX3_deliver_13 rfl rfl ?_
    obtain ⟨g_4, hE⟩ := gi_el hE
    refine va_iald hx hb hK hP 3 0 rfl rfl g_4 dX3_deliver_14 ?_
    refine lv_iload_n hx hb dX3_deliver_15 rfl (lv_at hl 2 rfl) ?_
    refine lv_iadd hx hb dX3_deliver_16 ?_
    obtain ⟨g_6, hE⟩ := gi_el hE
    obtain ⟨mO_5, e_mO_5, hE⟩ := lt_el hE
    refine s_ia (ws1 := (W_O cy aO mO_5)) hx hb hK hP hD hS 3 rfl g_6 (by rw [e_mO_5]; rfl) dX3_deliver_17 (fun H locs hP hD hS => ?_)
    refine lv_aload_n hx hb dX3_deliver_18 rfl (lv_at hl 0 rfl) ?_
    refine va_get (D := D) (ci := 3) (v := .ref (aO 5)) (C := RX3) (T := TX3) (N := 10) hx hb hts iX3 hown hK hP 0 rfl rfl 4 (by decide) f18 (fun _ h9 => h9) rfl dX3_deliver_19 ?_
    refine lv_iload_n hx hb dX3_deliver_22 rfl (lv_at hl 1 rfl) ?_
    obtain ⟨g_7, hE⟩ := gi_el hE
    refine va_iald hx hb hK hP 3 0 rfl rfl g_7 dX3_deliver_23 ?_
    refine lv_aload_n hx hb dX3_deliver_24 rfl (lv_at hl 0 rfl) ?_
    refine va_get (D := D) (ci := 3) (v := .ref (aO 4)) (C := RX3) (T := TX3) (N := 10) hx hb hts iX3 hown hK hP 0 rfl rfl 3 (by decide) f15 (fun _ h9 => h9) rfl dX3_deliver_25 ?_
    refine lv_iload_n hx hb dX3_deliver_28 rfl (lv_at hl 1 rfl) ?_
    obtain ⟨g_8, hE⟩ := gi_el hE
    refine va_iald hx hb hK hP 2 0 rfl rfl g_8 dX3_deliver_29 ?_
    refine lv_icmp_lt (tgt := 39) hx hb dX3_deliver_30 (by decide) (fun c_9 => ?_) (fun c_9 => ?_)
    · replace hE := it_t hE c_9
      have hE := Option.some.inj hE
      exact ev hx hb hr hlocks hK hP hD hS (by rw [hE]) dX3_deliver_39
    · replace hE := it_f hE c_9
      refine lv_aload_n hx hb dX3_deliver_33 rfl (lv_at hl 0 rfl) ?_
      refine lv_iload_n hx hb dX3_deliver_34 rfl (lv_at hl 1 rfl) ?_
      refine lv_iconst (v := 1) hx hb dX3_deliver_35 (by decide) ?_
      obtain ⟨mO_10, hc_11, hE⟩ := bd1_el hE
      refine kv (X := []) (Y := []) (ws1 := (W_O cy aO mO_10)) (rV (X := []) (Y := []) (As := [.int x1, .int (1 : Int32)]) (rest := []) hC (c_X3_close l D cy aO x1 (1 : Int32) mO_5 mO_10 hc_11) (cwV 2 hts gX3_deliver_X3_close rfl rfl rfl cd_X3_close ⟨Nat.le_of_ble_eq_true rfl, Nat.le_of_ble_eq_true rfl⟩) hK hN hP hD hS hA rfl 0 3 rfl rfl rfl hl.1 rfl (lv_room (Nat.le_of_ble_eq_true rfl)) dX3_deliver_36 ⟨Nat.le_of_ble_eq_true rfl, Nat.le_of_ble_eq_true rfl⟩) hP hD hS hA rfl rfl rfl (fun H locs hP hD hS => ?_)
      have hE := Option.some.inj hE
      exact ev hx hb hr hlocks hK hP hD hS (by rw [hE]) dX3_deliver_39
abbrev rm_X3_expire : Room := { frames := 2, cells := 0, slots := 0, locals := 45 }
set_option maxHeartbeats 40000000 in
set_option maxRecDepth 100000 in
theorem c_X3_expire (l : Launch) (D : va_G) (cy : Nat → Nat) (aO : Nat → Nat) (imO : Mem) (mO' : Mem) (hE : f_X3_expire imO = some mO') : CV l yX3_expire wsX3_expire rm_X3_expire D cy [.ref (aO 0)] (W_O cy aO imO) 0 0 (W_O cy aO mO') := by
  refine CQ_of (cc := cX3_expire) (maxL := 3) (ret := none) (by decide) rfl (Nat.le_of_ble_eq_true rfl) (fun p e s m args below meth c A ls hx hb hr hml hlocks hnm hown hts hA hK hN hP hD hS hl => ?_)
  have hown : s.vm.findClass RX3 = some m.cls := hown
  have hl : lv_has ls 3 [(0, .ref (aO 0))] := hl
  have hC : CallFix p m c cX3_expire 3 s args wsX3_expire RX3 := ⟨hx, hb, hml, hown, hts⟩
  have f21 : (Cond.fieldLink RX3 21 "IcePlant$Orders" "hoursLeft" "[I").before args s = true := hts _ (mC qf_X3_21)
  have f30 : (Cond.fieldLink RX3 30 "IcePlant$Orders" "open" "[I").before args s = true := hts _ (mC qf_X3_30)
  have f40 : (Cond.fieldLink RX3 40 "IcePlant$Orders" "openCount" "I").before args s = true := hts _ (mC qf_X3_40)
  have iX3 : ∀ w ∈ wsX30, w ∈ wsX3_expire := fun w h => mC (iA_X3 w h)
  have h51 : ∀ (x1 : Int32) (mO : Mem), ∀ (k7 : (Int32 → Mem → Option (Mem))), (∀ (x1 : Int32) (mO : Mem) (H : Heap) (locs : List Loc) (ls : Array Slot), k7 x1 mO = some mO' → va_P D vwCl (W_O cy aO mO) H → va_D A (W_O cy aO mO) → va_S A s.heap H locs → lv_has ls 3 [(0, .ref (aO 0)), (1, .int x1)] → W p l e rm_X3_expire s m args below meth c H locs 0 0 (MQ below (QV D cy (W_O cy aO mO') A) args s 0 0 A) (F0 m 7 ls [])) → ∀  (H : Heap) (locs : List Loc) (ls : Array Slot), f_X3_expire_b51 k7 x1 mO = some mO' → va_P D vwCl (W_O cy aO mO) H → va_D A (W_O cy aO mO) → va_S A s.heap H locs → lv_has ls 3 [(0, .ref (aO 0)), (1, .int x1)] → W p l e rm_X3_expire s m args below meth c H locs 0 0 (MQ below (QV D cy (W_O cy aO mO') A) args s 0 0 A) (F0 m 51 ls []) := by
    intro x1 mO k7 hk7 H locs ls hE hP hD hS hl
    replace hE : (lt' (x1 + (-1 : Int32)) fun x1_1 => k7 x1_1 mO) = some mO' := hE
    obtain ⟨x1_1, e_x1_1, hE⟩ := lt_el hE
    refine lv_iinc (v := x1_1) (lv' := [(1, .int x1_1), (0, .ref (aO 0))]) hx hb dX3_expire_51 hl (k := 1) rfl (by rw [e_x1_1]; rfl) (by decide) rfl (fun ls hl => ?_)
    refine lv_goto (tgt := 7) hx hb dX3_expire_54 (by decide) ?_
    exact hk7 x1_1 mO _ _ _ hE hP hD hS (lv_sub hl [1, 0] rfl)
  have h7 : ∀ (n : Nat), ∀ (x1 : Int32) (mO : Mem) (H : Heap) (locs : List Loc) (ls : Array Slot), f_X3_expire_L7 n x1 mO = some mO' → va_P D vwCl (W_O cy aO mO) H → va_D A (W_O cy aO mO) → va_S A s.heap H locs → lv_has ls 3 [(0, .ref (aO 0)), (1, .int x1)] → W p l e rm_X3_expire s m args below meth c H locs 0 0 (MQ below (QV D cy (W_O cy aO mO') A) args s 0 0 A) (F0 m 7 ls []) := by
    intro n
    induction n with
    | zero => intro x1 mO H locs ls hE; exact absurd hE (fun h9 => nomatch h9)
    | succ n ih =>
      intro x1 mO H locs ls hE hP hD hS hl
      replace hE : ((if x1 < 0 then some mO else gi x1 20 (lt' (mO 8 x1.toNatClampNeg) fun x2_4 => bd1 (f_X3_has x2_4 mO) fun r_5 => (if r_5 = 0 then f_X3_expire_b51 (f_X3_expire_L7 n) x1 mO else gi x2_4 200 (gi x2_4 200 (lt' (wrI mO 5 (upd (mO 5) x2_4.toNatClampNeg ((mO 5 x2_4.toNatClampNeg) - (1 : Int32)))) fun mO_9 => gi x2_4 200 ((if 0 < (mO_9 5 x2_4.toNatClampNeg) then f_X3_expire_b51 (f_X3_expire_L7 n) x1 mO_9 else bd1 (f_X3_close x2_4 (2 : Int32) mO_9) fun mO_13 => f_X3_expire_b51 (f_X3_expire_L7 n) x1 mO_13)))))))) = some mO' := hE
      refine lv_iload_n hx hb dX3_expire_7 rfl (lv_at hl 1 rfl) ?_
      refine lv_if_lt (tgt := 57) hx hb dX3_expire_8 (by decide) (fun c_2 => ?_) (fun c_2 => ?_)
      · replace hE := it_t hE c_2
        have hE := Option.some.inj hE
        exact ev hx hb hr hlocks hK hP hD hS (by rw [hE]) dX3_expire_57
      · replace hE := it_f hE c_2
        refine lv_aload_n hx hb dX3_expire_11 rfl (lv_at hl 0 rfl) ?_
        refine va_get (D := D) (ci := 3) (v := .ref (aO 9)) (C := RX3) (T := TX3) (N := 10) hx hb hts iX3 hown hK hP 0 rfl rfl 8 (by decide) f30 (fun _ h9 => h9) rfl dX3_expire_12 ?_
        refine lv_iload_n hx hb dX3_expire_15 rfl (lv_at hl 1 rfl) ?_
        obtain ⟨g_3, hE⟩ := gi_el hE
        refine va_iald hx hb hK hP 7 0 rfl rfl g_3 dX3_expire_16 ?_
        obtain ⟨x2_4, e_x2_4, hE⟩ := lt_el hE
        refine s_nm e_x2_4 ?_
        refine lv_istore_n (lv' := [(2, .int x2_4), (0, .ref (aO 0)), (1, .int x1)]) hx hb dX3_expire_17 rfl hl (by decide) rfl (fun ls hl => ?_)
        refine lv_aload_n hx hb dX3_expire_18 rfl (lv_at hl 1 rfl) ?_
        refine lv_iload_n hx hb dX3_expire_19 rfl (lv_at hl 0 rfl) ?_
        obtain ⟨r_5, hc_6, hE⟩ := bd1_el hE
        refine ki (X := []) (Y := []) (ws1 := (W_O cy aO mO)) (rV (X := []) (Y := []) (As := [.int x2_4]) (rest := []) hC (c_X3_has l D cy aO x2_4 mO r_5 hc_6) (cwV 1 hts gX3_expire_X3_has rfl rfl rfl cd_X3_has ⟨Nat.le_of_ble_eq_true rfl, Nat.le_of_ble_eq_true rfl⟩) hK hN hP hD hS hA rfl 0 3 rfl rfl rfl hl.1 rfl (lv_room (Nat.le_of_ble_eq_true rfl)) dX3_expire_20 ⟨Nat.le_of_ble_eq_true rfl, Nat.le_of_ble_eq_true rfl⟩) hP hD hS hA rfl rfl rfl (fun H locs hP hD hS => ?_)
        refine lv_if_eq (tgt := 51) hx hb dX3_expire_23 (by decide) (fun c_7 => ?_) (fun c_7 => ?_)
        · replace hE := it_t hE c_7
          exact h51 x1 mO (f_X3_expire_L7 n) ih _ _ _ hE hP hD hS (lv_sub hl [1, 2] rfl)
        · replace hE := it_f hE c_7
          refine lv_aload_n hx hb dX3_expire_26 rfl (lv_at hl 1 rfl) ?_
          refine va_get (D := D) (ci := 3) (v := .ref (aO 6)) (C := RX3) (T := TX3) (N := 10) hx hb hts iX3 hown hK hP 0 rfl rfl 5 (by decide) f21 (fun _ h9 => h9) rfl dX3_expire_27 ?_
          refine lv_iload_n hx hb dX3_expire_30 rfl (lv_at hl 0 rfl) ?_
          refine lv_dup2_11 hx hb dX3_expire_31 rfl rfl ?_
          obtain ⟨g_8, hE⟩ := gi_el hE
          refine va_iald hx hb hK hP 4 0 rfl rfl g_8 dX3_expire_32 ?_
          refine lv_iconst (v := 1) hx hb dX3_expire_33 (by decide) ?_
          refine lv_isub hx hb dX3_expire_34 ?_
          obtain ⟨g_10, hE⟩ := gi_el hE
          obtain ⟨mO_9, e_mO_9, hE⟩ := lt_el hE
          refine s_ia (ws1 := (W_O cy aO mO_9)) hx hb hK hP hD hS 4 rfl g_10 (by rw [e_mO_9]; rfl) dX3_expire_35 (fun H locs hP hD hS => ?_)
          refine lv_aload_n hx hb dX3_expire_36 rfl (lv_at hl 1 rfl) ?_
          refine va_get (D := D) (ci := 3) (v := .ref (aO 6)) (C := RX3) (T := TX3) (N := 10) hx hb hts iX3 hown hK hP 0 rfl rfl 5 (by decide) f21 (fun _ h9 => h9) rfl dX3_expire_37 ?_
          refine lv_iload_n hx hb dX3_expire_40 rfl (lv_at hl 0 rfl) ?_
          obtain ⟨g_11, hE⟩ := gi_el hE
          refine va_iald hx hb hK hP 4 0 rfl rfl g_11 dX3_expire_41 ?_
          refine lv_if_gt (tgt := 51) hx hb dX3_expire_42 (by decide) (fun c_12 => ?_) (fun c_12 => ?_)
          · replace hE := it_t hE c_12
            exact h51 x1 mO_9 (f_X3_expire_L7 n) ih _ _ _ hE hP hD hS (lv_sub hl [1, 2] rfl)
          · replace hE := it_f hE c_12
            refine lv_aload_n hx hb dX3_expire_45 rfl (lv_at hl 1 rfl) ?_
            refine lv_iload_n hx hb dX3_expire_46 rfl (lv_at hl 0 rfl) ?_
            refine lv_iconst (v := 2) hx hb dX3_expire_47 (by decide) ?_
            obtain ⟨mO_13, hc_14, hE⟩ := bd1_el hE
            refine kv (X := []) (Y := []) (ws1 := (W_O cy aO mO_13)) (rV (X := []) (Y := []) (As := [.int x2_4, .int (2 : Int32)]) (rest := []) hC (c_X3_close l D cy aO x2_4 (2 : Int32) mO_9 mO_13 hc_14) (cwV 2 hts gX3_expire_X3_close rfl rfl rfl cd_X3_close ⟨Nat.le_of_ble_eq_true rfl, Nat.le_of_ble_eq_true rfl⟩) hK hN hP hD hS hA rfl 0 3 rfl rfl rfl hl.1 rfl (lv_room (Nat.le_of_ble_eq_true rfl)) dX3_expire_48 ⟨Nat.le_of_ble_eq_true rfl, Nat.le_of_ble_eq_true rfl⟩) hP hD hS hA rfl rfl rfl (fun H locs hP hD hS => ?_)
            exact h51 x1 mO_13 (f_X3_expire_L7 n) ih _ _ _ hE hP hD hS (lv_sub hl [1, 2] rfl)
  unfold f_X3_expire at hE
  refine lv_aload_n hx hb dX3_expire_0 rfl (lv_at hl 0 rfl) ?_
  refine va_get (D := D) (ci := 3) (v := .int (imO 1 0)) (C := RX3) (T := TX3) (N := 10) hx hb hts iX3 hown hK hP 0 rfl rfl 1 (by decide) f40 (fun _ h9 => h9) rfl dX3_expire_1 ?_
  refine lv_iconst (v := 1) hx hb dX3_expire_4 (by decide) ?_
  refine lv_isub hx hb dX3_expire_5 ?_
  obtain ⟨x1_15, e_x1_15, hE⟩ := lt_el hE
  refine s_nm e_x1_15 ?_
  refine lv_istore_n (lv' := [(1, .int x1_15), (0, .ref (aO 0))]) hx hb dX3_expire_6 rfl hl (by decide) rfl (fun ls hl => ?_)
  exact h7 fuel x1_15 imO _ _ _ hE hP hD hS (lv_sub hl [1, 0] rfl)
abbrev rm_X3_openOf : Room := { frames := 1, cells := 0, slots := 0, locals := 21 }
set_option maxHeartbeats 40000000 in
set_option maxRecDepth 100000 in
theorem c_X3_openOf (l : Launch) (D : va_G) (cy : Nat → Nat) (aO : Nat → Nat) (x1 : Int32) (imO : Mem) (r' : Int32) (hE : f_X3_openOf x1 imO = some r') : CI l yX3_openOf wsX3_openOf rm_X3_openOf D cy [.ref (aO 0), .int x1] (W_O cy aO imO) 0 0 r' (W_O cy aO imO) := by
  refine CQ_of (cc := cX3_openOf) (maxL := 4) (ret := (some .int)) (by decide) rfl (Nat.le_of_ble_eq_true rfl) (fun p e s m args below meth c A ls hx hb hr hml hlocks hnm hown hts hA hK hN hP hD hS hl => ?_)
  have hown : s.vm.findClass RX3 = some m.cls := hown
  have hl : lv_has ls 4 [(0, .ref (aO 0)), (1, .int x1)] := hl
  have hC : CallFix p m c cX3_openOf 4 s args wsX3_openOf RX3 := ⟨hx, hb, hml, hown, hts⟩
  have f11 : (Cond.fieldLink RX3 11 "IcePlant$Orders" "boats" "[I").before args s = true := hts _ (mC qf_X3_11)
  have f30 : (Cond.fieldLink RX3 30 "IcePlant$Orders" "open" "[I").before args s = true := hts _ (mC qf_X3_30)
  have f40 : (Cond.fieldLink RX3 40 "IcePlant$Orders" "openCount" "I").before args s = true := hts _ (mC qf_X3_40)
  have iX3 : ∀ w ∈ wsX30, w ∈ wsX3_openOf := fun w h => mC (iA_X3 w h)
  have in_X8 : (Cond.initialized RX8).before args s = true := hts _ (mC qn_X8)
  have st_X8_valueAt : (Cond.static yX8_valueAt).before args s = true := hts _ (mC qs_X8_valueAt)
  have h32 : ∀ (x1 : Int32) (x2 : Int32) (x3 : Int32), ∀ (k4 : (Int32 → Int32 → Option (Int32))), (∀ (x2 : Int32) (x3 : Int32) (H : Heap) (locs : List Loc) (ls : Array Slot), k4 x2 x3 = some r' → va_P D vwCl (W_O cy aO imO) H → va_D A (W_O cy aO imO) → va_S A s.heap H locs → lv_has ls 4 [(0, .ref (aO 0)), (1, .int x1), (2, .int x2), (3, .int x3)] → W p l e rm_X3_openOf s m args below meth c H locs 0 0 (MQ below (QI D cy r' (W_O cy aO imO) A) args s 0 0 A) (F0 m 4 ls [])) → ∀  (H : Heap) (locs : List Loc) (ls : Array Slot), f_X3_openOf_b32 k4 x1 x2 x3 imO = some r' → va_P D vwCl (W_O cy aO imO) H → va_D A (W_O cy aO imO) → va_S A s.heap H locs → lv_has ls 4 [(0, .ref (aO 0)), (1, .int x1), (2, .int x2), (3, .int x3)] → W p l e rm_X3_openOf s m args below meth c H locs 0 0 (MQ below (QI D cy r' (W_O cy aO imO) A) args s 0 0 A) (F0 m 32 ls []) := by
    intro x1 x2 x3 k4 hk4 H locs ls hE hP hD hS hl
    replace hE : (lt' (x3 + (1 : Int32)) fun x3_1 => k4 x2 x3_1) = some r' := hE
    obtain ⟨x3_1, e_x3_1, hE⟩ := lt_el hE
    refine lv_iinc (v := x3_1) (lv' := [(3, .int x3_1), (0, .ref (aO 0)), (1, .int x1), (2, .int x2)]) hx hb dX3_openOf_32 hl (k := 3) rfl (by rw [e_x3_1]; rfl) (by decide) rfl (fun ls hl => ?_)
    refine lv_goto (tgt := 4) hx hb dX3_openOf_35 (by decide) ?_
    exact hk4 x2 x3_1 _ _ _ hE hP hD hS (lv_sub hl [1, 2, 3, 0] rfl)
  have h4 : ∀ (x1 : Int32), ∀ (n : Nat), ∀ (x2 : Int32) (x3 : Int32) (H : Heap) (locs : List Loc) (ls : Array Slot), f_X3_openOf_L4 x1 imO n x2 x3 = some r' → va_P D vwCl (W_O cy aO imO) H → va_D A (W_O cy aO imO) → va_S A s.heap H locs → lv_has ls 4 [(0, .ref (aO 0)), (1, .int x1), (2, .int x2), (3, .int x3)] → W p l e rm_X3_openOf s m args below meth c H locs 0 0 (MQ below (QI D cy r' (W_O cy aO imO) A) args s 0 0 A) (F0 m 4 ls []) := by
    intro x1 n
    induction n with
    | zero => intro x2 x3 H locs ls hE; exact absurd hE (fun h9 => nomatch h9)
    | succ n ih =>
      intro x2 x3 H locs ls hE hP hD hS hl
      replace hE : ((if (imO 1 0) ≤ x3 then some x2 else gi x3 20 (bd1 (f_X8_valueAt (imO 8 x3.toNatClampNeg) (200) (imO 2)) fun r_4 => (if r_4 = x1 then lt' (x2 + (1 : Int32)) fun x2_7 => f_X3_openOf_b32 (f_X3_openOf_L4 x1 imO n) x1 x2_7 x3 imO else f_X3_openOf_b32 (f_X3_openOf_L4 x1 imO n) x1 x2 x3 imO)))) = some r' := hE
      refine lv_iload_n hx hb dX3_openOf_4 rfl (lv_at hl 3 rfl) ?_
      refine lv_aload_n hx hb dX3_openOf_5 rfl (lv_at hl 0 rfl) ?_
      refine va_get (D := D) (ci := 3) (v := .int (imO 1 0)) (C := RX3) (T := TX3) (N := 10) hx hb hts iX3 hown hK hP 0 rfl rfl 1 (by decide) f40 (fun _ h9 => h9) rfl dX3_openOf_6 ?_
      refine lv_icmp_ge (tgt := 38) hx hb dX3_openOf_9 (by decide) (fun c_2 => ?_) (fun c_2 => ?_)
      · replace hE := it_t hE c_2
        refine lv_iload_n hx hb dX3_openOf_38 rfl (lv_at hl 2 rfl) ?_
        have hE := Option.some.inj hE
        exact ei hx hb hr hlocks hK hP hD hS hE rfl dX3_openOf_39
      · replace hE := it_f hE c_2
        refine lv_aload_n hx hb dX3_openOf_12 rfl (lv_at hl 0 rfl) ?_
        refine va_get (D := D) (ci := 3) (v := .ref (aO 3)) (C := RX3) (T := TX3) (N := 10) hx hb hts iX3 hown hK hP 0 rfl rfl 2 (by decide) f11 (fun _ h9 => h9) rfl dX3_openOf_13 ?_
        refine lv_aload_n hx hb dX3_openOf_16 rfl (lv_at hl 0 rfl) ?_
        refine va_get (D := D) (ci := 3) (v := .ref (aO 9)) (C := RX3) (T := TX3) (N := 10) hx hb hts iX3 hown hK hP 0 rfl rfl 8 (by decide) f30 (fun _ h9 => h9) rfl dX3_openOf_17 ?_
        refine lv_iload_n hx hb dX3_openOf_20 rfl (lv_at hl 3 rfl) ?_
        obtain ⟨g_3, hE⟩ := gi_el hE
        refine va_iald hx hb hK hP 7 0 rfl rfl g_3 dX3_openOf_21 ?_
        obtain ⟨r_4, hc_5, hE⟩ := bd1_el hE
        refine ki (X := (List.take 1 (W_O cy aO imO))) (Y := (List.drop 2 (W_O cy aO imO))) (ws1 := (W_O cy aO imO)) (rSN (X := (List.take 1 (W_O cy aO imO))) (Y := (List.drop 2 (W_O cy aO imO))) (As := [.ref (aO 3), .int (imO 8 x3.toNatClampNeg)]) (rest := []) hC (c_X8_valueAt l D cy (aO 3) (imO 8 x3.toNatClampNeg) (200) (imO 2) r_4 hc_5) (va_cnB 2 hts gX3_openOf_X8_valueAt_n51 rfl rfl rfl (hN.1 5 _ rfl) in_X8 cd_X8_valueAt.2 ⟨Nat.le_of_ble_eq_true rfl, Nat.le_of_ble_eq_true rfl⟩) st_X8_valueAt hK hN hP hD hS hA rfl rfl hl.1 rfl (lv_room (Nat.le_of_ble_eq_true rfl)) dX3_openOf_22 ⟨Nat.le_of_ble_eq_true rfl, Nat.le_of_ble_eq_true rfl⟩) hP hD hS hA rfl rfl rfl (fun H locs hP hD hS => ?_)
        refine lv_iload_n hx hb dX3_openOf_25 rfl (lv_at hl 1 rfl) ?_
        refine lv_icmp_ne (tgt := 32) hx hb dX3_openOf_26 (by decide) (fun c_6 => ?_) (fun c_6 => ?_)
        · replace hE := it_f hE c_6
          exact h32 x1 x2 x3 (f_X3_openOf_L4 x1 imO n) ih _ _ _ hE hP hD hS (lv_sub hl [0, 1, 2, 3] rfl)
        · replace hE := it_t hE c_6
          obtain ⟨x2_7, e_x2_7, hE⟩ := lt_el hE
          refine lv_iinc (v := x2_7) (lv' := [(2, .int x2_7), (0, .ref (aO 0)), (1, .int x1), (3, .int x3)]) hx hb dX3_openOf_29 hl (k := 2) rfl (by rw [e_x2_7]; rfl) (by decide) rfl (fun ls hl => ?_)
          exact h32 x1 x2_7 x3 (f_X3_openOf_L4 x1 imO n) ih _ _ _ hE hP hD hS (lv_sub hl [1, 2, 0, 3] rfl)
  unfold f_X3_openOf at hE
  refine lv_iconst (v := 0) hx hb dX3_openOf_0 (by decide) ?_
  refine lv_istore_n (lv' := [(2, .int (0 : Int32)), (0, .ref (aO 0)), (1, .int x1)]) hx hb dX3_openOf_1 rfl hl (by decide) rfl (fun ls hl => ?_)
  refine lv_iconst (v := 0) hx hb dX3_openOf_2 (by decide) ?_
  refine lv_istore_n (lv' := [(3, .int (0 : Int32)), (2, .int (0 : Int32)), (0, .ref (aO 0)), (1, .int x1)]) hx hb dX3_openOf_3 rfl hl (by decide) rfl (fun ls hl => ?_)
  exact h4 x1 fuel (0 : Int32) (0 : Int32) _ _ _ hE hP hD hS (lv_sub hl [2, 3, 1, 0] rfl)
abbrev rm_X3_comesBefore : Room := { frames := 2, cells := 0, slots := 0, locals := 43 }
set_option maxHeartbeats 40000000 in
set_option maxRecDepth 100000 in
theorem c_X3_comesBefore (l : Launch) (D : va_G) (cy : Nat → Nat) (aB aO : Nat → Nat) (x1 : Int32) (x2 : Int32) (x3 : Int32) (imB : Mem) (imO : Mem) (r' : Int32) (hE : f_X3_comesBefore x1 x2 x3 imB imO = some r') : CI l yX3_comesBefore wsX3_comesBefore rm_X3_comesBefore D cy [.ref (aO 0), .int x1, .int x2, .int x3, .ref (aB 0)] ((W_B cy aB imB) ++ (W_O cy aO imO)) 0 0 r' ((W_B cy aB imB) ++ (W_O cy aO imO)) := by
  refine CQ_of (cc := cX3_comesBefore) (maxL := 11) (ret := (some .boolean)) (by decide) rfl (Nat.le_of_ble_eq_true rfl) (fun p e s m args below meth c A ls hx hb hr hml hlocks hnm hown hts hA hK hN hP hD hS hl => ?_)
  have hown : s.vm.findClass RX3 = some m.cls := hown
  have hl : lv_has ls 11 [(0, .ref (aO 0)), (1, .int x1), (2, .int x2), (3, .int x3), (4, .ref (aB 0))] := hl
  have hC : CallFix p m c cX3_comesBefore 11 s args wsX3_comesBefore RX3 := ⟨hx, hb, hml, hown, hts⟩
  have f11 : (Cond.fieldLink RX3 11 "IcePlant$Orders" "boats" "[I").before args s = true := hts _ (mC qf_X3_11)
  have f21 : (Cond.fieldLink RX3 21 "IcePlant$Orders" "hoursLeft" "[I").before args s = true := hts _ (mC qf_X3_21)
  have f67 : (Cond.fieldLink RX3 67 "IcePlant$Boats" "catches" "[I").before args s = true := hts _ (mC qf_X3_67)
  have iX1 : ∀ w ∈ wsX10, w ∈ wsX3_comesBefore := fun w h => mC (iA_X1 w h)
  have iX3 : ∀ w ∈ wsX30, w ∈ wsX3_comesBefore := fun w h => mC (iA_X3 w h)
  have in_X8 : (Cond.initialized RX8).before args s = true := hts _ (mC qn_X8)
  have st_X8_valueAt : (Cond.static yX8_valueAt).before args s = true := hts _ (mC qs_X8_valueAt)
  have h110 : ∀ (x1 : Int32) (x2 : Int32) (x9 : Int64), ∀  (H : Heap) (locs : List Loc) (ls : Array Slot), f_X3_comesBefore_b110 x1 x2 x9 imB imO = some r' → va_P D vwCl ((W_B cy aB imB) ++ (W_O cy aO imO)) H → va_D A ((W_B cy aB imB) ++ (W_O cy aO imO)) → va_S A s.heap H locs → lv_has ls 11 [(1, .int x1), (2, .int x2), (9, .long x9)] → W p l e rm_X3_comesBefore s m args below meth c H locs 0 0 (MQ below (QI D cy r' ((W_B cy aB imB) ++ (W_O cy aO imO)) A) args s 0 0 A) (F0 m 110 ls []) := by
    intro x1 x2 x9 H locs ls hE hP hD hS hl
    replace hE : ((if (lg_cmp x9 (0 : Int64)) = 0 then (if x2 ≤ x1 then some (0 : Int32) else some (1 : Int32)) else (if (lg_cmp x9 (0 : Int64)) ≤ 0 then some (0 : Int32) else some (1 : Int32)))) = some r' := hE
    refine lv_lload hx hb dX3_comesBefore_110 (lv_at hl 2 rfl) ?_
    refine lv_lconst (v := 0) hx hb dX3_comesBefore_112 (by decide) ?_
    refine W.lcmp hx hb dX3_comesBefore_113 ?_
    refine lv_if_ne (tgt := 130) hx hb dX3_comesBefore_114 (by decide) (fun c_1 => ?_) (fun c_1 => ?_)
    · replace hE := it_f hE c_1
      refine lv_lload hx hb dX3_comesBefore_130 (lv_at hl 2 rfl) ?_
      refine lv_lconst (v := 0) hx hb dX3_comesBefore_132 (by decide) ?_
      refine W.lcmp hx hb dX3_comesBefore_133 ?_
      refine lv_if_le (tgt := 141) hx hb dX3_comesBefore_134 (by decide) (fun c_2 => ?_) (fun c_2 => ?_)
      · replace hE := it_t hE c_2
        refine lv_iconst (v := 0) hx hb dX3_comesBefore_141 (by decide) ?_
        have hE := Option.some.inj hE
        exact ez hx hb hr (by decide) hlocks hK hP hD hS hE rfl dX3_comesBefore_142
      · replace hE := it_f hE c_2
        refine lv_iconst (v := 1) hx hb dX3_comesBefore_137 (by decide) ?_
        refine lv_goto (tgt := 142) hx hb dX3_comesBefore_138 (by decide) ?_
        have hE := Option.some.inj hE
        exact ez hx hb hr (by decide) hlocks hK hP hD hS hE rfl dX3_comesBefore_142
    · replace hE := it_t hE c_1
      refine lv_iload_n hx hb dX3_comesBefore_117 rfl (lv_at hl 0 rfl) ?_
      refine lv_iload_n hx hb dX3_comesBefore_118 rfl (lv_at hl 1 rfl) ?_
      refine lv_icmp_ge (tgt := 126) hx hb dX3_comesBefore_119 (by decide) (fun c_3 => ?_) (fun c_3 => ?_)
      · replace hE := it_t hE c_3
        refine lv_iconst (v := 0) hx hb dX3_comesBefore_126 (by decide) ?_
        refine lv_goto (tgt := 142) hx hb dX3_comesBefore_127 (by decide) ?_
        have hE := Option.some.inj hE
        exact ez hx hb hr (by decide) hlocks hK hP hD hS hE rfl dX3_comesBefore_142
      · replace hE := it_f hE c_3
        refine lv_iconst (v := 1) hx hb dX3_comesBefore_122 (by decide) ?_
        refine lv_goto (tgt := 142) hx hb dX3_comesBefore_123 (by decide) ?_
        have hE := Option.some.inj hE
        exact ez hx hb hr (by decide) hlocks hK hP hD hS hE rfl dX3_comesBefore_142
  unfold f_X3_comesBefore at hE
  refine lv_aload hx hb dX3_comesBefore_0 (lv_at hl 4 rfl) ?_
  refine va_get (D := D) (ci := 1) (v := .ref (aB 2)) (C := RX1) (T := TX1) (N := 4) hx hb hts iX1 hown hK hP 0 rfl rfl 1 (by decide) f67 (fun _ h9 => h9) rfl dX3_comesBefore_2 ?_
  refine lv_aload_n hx hb dX3_comesBefore_5 rfl (lv_at hl 0 rfl) ?_
  refine va_get (D := D) (ci := 3) (v := .ref (aO 3)) (C := RX3) (T := TX3) (N := 10) hx hb hts iX3 hown hK hP 4 rfl rfl 2 (by decide) f11 (fun _ h9 => h9) rfl dX3_comesBefore_6 ?_
  refine lv_iload_n hx hb dX3_comesBefore_9 rfl (lv_at hl 1 rfl) ?_
  obtain ⟨r_4, hc_5, hE⟩ := bd1_el hE
  refine ki (X := (List.take 5 ((W_B cy aB imB) ++ (W_O cy aO imO)))) (Y := (List.drop 6 ((W_B cy aB imB) ++ (W_O cy aO imO)))) (ws1 := ((W_B cy aB imB) ++ (W_O cy aO imO))) (rSN (X := (List.take 5 ((W_B cy aB imB) ++ (W_O cy aO imO)))) (Y := (List.drop 6 ((W_B cy aB imB) ++ (W_O cy aO imO)))) (As := [.ref (aO 3), .int x1]) (rest := [.ref (aB 2)]) hC (c_X8_valueAt l D cy (aO 3) x1 (200) (imO 2) r_4 hc_5) (va_cnB 2 hts gX3_comesBefore_X8_valueAt_n51 rfl rfl rfl (hN.1 5 _ rfl) in_X8 cd_X8_valueAt.2 ⟨Nat.le_of_ble_eq_true rfl, Nat.le_of_ble_eq_true rfl⟩) st_X8_valueAt hK hN hP hD hS hA rfl rfl hl.1 rfl (lv_room (Nat.le_of_ble_eq_true rfl)) dX3_comesBefore_10 ⟨Nat.le_of_ble_eq_true rfl, Nat.le_of_ble_eq_true rfl⟩) hP hD hS hA rfl rfl rfl (fun H locs hP hD hS => ?_)
  obtain ⟨r_6, hc_7, hE⟩ := bd1_el hE
  refine ki (X := (List.take 1 ((W_B cy aB imB) ++ (W_O cy aO imO)))) (Y := (List.drop 2 ((W_B cy aB imB) ++ (W_O cy aO imO)))) (ws1 := ((W_B cy aB imB) ++ (W_O cy aO imO))) (rSN (X := (List.take 1 ((W_B cy aB imB) ++ (W_O cy aO imO)))) (Y := (List.drop 2 ((W_B cy aB imB) ++ (W_O cy aO imO)))) (As := [.ref (aB 2), .int r_4]) (rest := []) hC (c_X8_valueAt l D cy (aB 2) r_4 (8) (imB 1) r_6 hc_7) (va_cnB 2 hts gX3_comesBefore_X8_valueAt_n51 rfl rfl rfl (hN.1 5 _ rfl) in_X8 cd_X8_valueAt.2 ⟨Nat.le_of_ble_eq_true rfl, Nat.le_of_ble_eq_true rfl⟩) st_X8_valueAt hK hN hP hD hS hA rfl rfl hl.1 rfl (lv_room (Nat.le_of_ble_eq_true rfl)) dX3_comesBefore_13 ⟨Nat.le_of_ble_eq_true rfl, Nat.le_of_ble_eq_true rfl⟩) hP hD hS hA rfl rfl rfl (fun H locs hP hD hS => ?_)
  refine lv_i2l hx hb dX3_comesBefore_16 rfl ?_
  obtain ⟨x5_8, e_x5_8, hE⟩ := lt_el hE
  refine s_nmL e_x5_8 ?_
  refine lv_lstore (lv' := [(5, .long x5_8), (0, .ref (aO 0)), (1, .int x1), (2, .int x2), (3, .int x3), (4, .ref (aB 0))]) hx hb dX3_comesBefore_17 hl (by decide) rfl (fun ls hl => ?_)
  refine lv_aload hx hb dX3_comesBefore_19 (lv_at hl 5 rfl) ?_
  refine va_get (D := D) (ci := 1) (v := .ref (aB 2)) (C := RX1) (T := TX1) (N := 4) hx hb hts iX1 hown hK hP 0 rfl rfl 1 (by decide) f67 (fun _ h9 => h9) rfl dX3_comesBefore_21 ?_
  refine lv_aload_n hx hb dX3_comesBefore_24 rfl (lv_at hl 1 rfl) ?_
  refine va_get (D := D) (ci := 3) (v := .ref (aO 3)) (C := RX3) (T := TX3) (N := 10) hx hb hts iX3 hown hK hP 4 rfl rfl 2 (by decide) f11 (fun _ h9 => h9) rfl dX3_comesBefore_25 ?_
  refine lv_iload_n hx hb dX3_comesBefore_28 rfl (lv_at hl 3 rfl) ?_
  obtain ⟨r_9, hc_10, hE⟩ := bd1_el hE
  refine ki (X := (List.take 5 ((W_B cy aB imB) ++ (W_O cy aO imO)))) (Y := (List.drop 6 ((W_B cy aB imB) ++ (W_O cy aO imO)))) (ws1 := ((W_B cy aB imB) ++ (W_O cy aO imO))) (rSN (X := (List.take 5 ((W_B cy aB imB) ++ (W_O cy aO imO)))) (Y := (List.drop 6 ((W_B cy aB imB) ++ (W_O cy aO imO)))) (As := [.ref (aO 3), .int x2]) (rest := [.ref (aB 2)]) hC (c_X8_valueAt l D cy (aO 3) x2 (200) (imO 2) r_9 hc_10) (va_cnB 2 hts gX3_comesBefore_X8_valueAt_n51 rfl rfl rfl (hN.1 5 _ rfl) in_X8 cd_X8_valueAt.2 ⟨Nat.le_of_ble_eq_true rfl, Nat.le_of_ble_eq_true rfl⟩) st_X8_valueAt hK hN hP hD hS hA rfl rfl hl.1 rfl (lv_room (Nat.le_of_ble_eq_true rfl)) dX3_comesBefore_29 ⟨Nat.le_of_ble_eq_true rfl, Nat.le_of_ble_eq_true rfl⟩) hP hD hS hA rfl rfl rfl (fun H locs hP hD hS => ?_)
  obtain ⟨r_11, hc_12, hE⟩ := bd1_el hE
  refine ki (X := (List.take 1 ((W_B cy aB imB) ++ (W_O cy aO imO)))) (Y := (List.drop 2 ((W_B cy aB imB) ++ (W_O cy aO imO)))) (ws1 := ((W_B cy aB imB) ++ (W_O cy aO imO))) (rSN (X := (List.take 1 ((W_B cy aB imB) ++ (W_O cy aO imO)))) (Y := (List.drop 2 ((W_B cy aB imB) ++ (W_O cy aO imO)))) (As := [.ref (aB 2), .int r_9]) (rest := []) hC (c_X8_valueAt l D cy (aB 2) r_9 (8) (imB 1) r_11 hc_12) (va_cnB 2 hts gX3_comesBefore_X8_valueAt_n51 rfl rfl rfl (hN.1 5 _ rfl) in_X8 cd_X8_valueAt.2 ⟨Nat.le_of_ble_eq_true rfl, Nat.le_of_ble_eq_true rfl⟩) st_X8_valueAt hK hN hP hD hS hA rfl rfl hl.1 rfl (lv_room (Nat.le_of_ble_eq_true rfl)) dX3_comesBefore_32 ⟨Nat.le_of_ble_eq_true rfl, Nat.le_of_ble_eq_true rfl⟩) hP hD hS hA rfl rfl rfl (fun H locs hP hD hS => ?_)
  refine lv_i2l hx hb dX3_comesBefore_35 rfl ?_
  obtain ⟨x7_13, e_x7_13, hE⟩ := lt_el hE
  refine s_nmL e_x7_13 ?_
  refine lv_lstore (lv' := [(7, .long x7_13), (5, .long x5_8), (0, .ref (aO 0)), (1, .int x1), (2, .int x2), (3, .int x3), (4, .ref (aB 0))]) hx hb dX3_comesBefore_36 hl (by decide) rfl (fun ls hl => ?_)
  refine lv_lconst (v := 0) hx hb dX3_comesBefore_38 (by decide) ?_
  refine lv_lstore (lv' := [(9, .long (0 : Int64)), (7, .long x7_13), (5, .long x5_8), (0, .ref (aO 0)), (1, .int x1), (2, .int x2), (3, .int x3), (4, .ref (aB 0))]) hx hb dX3_comesBefore_39 hl (by decide) rfl (fun ls hl => ?_)
  refine lv_iload_n hx hb dX3_comesBefore_41 rfl (lv_at hl 6 rfl) ?_
  refine lv_iconst (v := 1) hx hb dX3_comesBefore_42 (by decide) ?_
  refine lv_icmp_ne (tgt := 56) hx hb dX3_comesBefore_43 (by decide) (fun c_14 => ?_) (fun c_14 => ?_)
  · replace hE := it_f hE c_14
    refine lv_iload_n hx hb dX3_comesBefore_56 rfl (lv_at hl 6 rfl) ?_
    refine lv_iconst (v := 2) hx hb dX3_comesBefore_57 (by decide) ?_
    refine lv_icmp_ne (tgt := 84) hx hb dX3_comesBefore_58 (by decide) (fun c_15 => ?_) (fun c_15 => ?_)
    · replace hE := it_f hE c_15
      refine lv_iload_n hx hb dX3_comesBefore_84 rfl (lv_at hl 6 rfl) ?_
      refine lv_iconst (v := 3) hx hb dX3_comesBefore_85 (by decide) ?_
      refine lv_icmp_ne (tgt := 110) hx hb dX3_comesBefore_86 (by decide) (fun c_16 => ?_) (fun c_16 => ?_)
      · replace hE := it_f hE c_16
        exact h110 x1 x2 (0 : Int64) _ _ _ hE hP hD hS (lv_sub hl [4, 5, 0] rfl)
      · replace hE := it_t hE c_16
        refine lv_lload hx hb dX3_comesBefore_89 (lv_at hl 2 rfl) ?_
        refine lv_aload_n hx hb dX3_comesBefore_91 rfl (lv_at hl 3 rfl) ?_
        refine lv_iload_n hx hb dX3_comesBefore_92 rfl (lv_at hl 5 rfl) ?_
        obtain ⟨r_17, hc_18, hE⟩ := bd1_el hE
        refine ki (X := (W_B cy aB imB)) (Y := []) (ws1 := ((W_B cy aB imB) ++ (W_O cy aO imO))) (rV (X := (W_B cy aB imB)) (Y := []) (As := [.int x2]) (rest := [.long x5_8]) hC (c_X3_remaining l D cy aO x2 imO r_17 hc_18) (cwV 1 hts gX3_comesBefore_X3_remaining rfl rfl rfl cd_X3_remaining ⟨Nat.le_of_ble_eq_true rfl, Nat.le_of_ble_eq_true rfl⟩) hK hN hP hD hS hA rfl 0 3 rfl rfl rfl hl.1 rfl (lv_room (Nat.le_of_ble_eq_true rfl)) dX3_comesBefore_93 ⟨Nat.le_of_ble_eq_true rfl, Nat.le_of_ble_eq_true rfl⟩) hP hD hS hA rfl rfl rfl (fun H locs hP hD hS => ?_)
        refine lv_i2l hx hb dX3_comesBefore_96 rfl ?_
        refine lv_lmul hx hb dX3_comesBefore_97 ?_
        refine lv_lload hx hb dX3_comesBefore_98 (lv_at hl 1 rfl) ?_
        refine lv_aload_n hx hb dX3_comesBefore_100 rfl (lv_at hl 3 rfl) ?_
        refine lv_iload_n hx hb dX3_comesBefore_101 rfl (lv_at hl 4 rfl) ?_
        obtain ⟨r_19, hc_20, hE⟩ := bd1_el hE
        refine ki (X := (W_B cy aB imB)) (Y := []) (ws1 := ((W_B cy aB imB) ++ (W_O cy aO imO))) (rV (X := (W_B cy aB imB)) (Y := []) (As := [.int x1]) (rest := [.long x7_13, .long (x5_8 * (r_17.toInt64))]) hC (c_X3_remaining l D cy aO x1 imO r_19 hc_20) (cwV 1 hts gX3_comesBefore_X3_remaining rfl rfl rfl cd_X3_remaining ⟨Nat.le_of_ble_eq_true rfl, Nat.le_of_ble_eq_true rfl⟩) hK hN hP hD hS hA rfl 0 3 rfl rfl rfl hl.1 rfl (lv_room (Nat.le_of_ble_eq_true rfl)) dX3_comesBefore_102 ⟨Nat.le_of_ble_eq_true rfl, Nat.le_of_ble_eq_true rfl⟩) hP hD hS hA rfl rfl rfl (fun H locs hP hD hS => ?_)
        refine lv_i2l hx hb dX3_comesBefore_105 rfl ?_
        refine lv_lmul hx hb dX3_comesBefore_106 ?_
        refine lv_lsub hx hb dX3_comesBefore_107 ?_
        obtain ⟨x9_21, e_x9_21, hE⟩ := lt_el hE
        refine s_nmL e_x9_21 ?_
        refine lv_lstore (lv' := [(9, .long x9_21), (7, .long x7_13), (5, .long x5_8), (0, .ref (aO 0)), (1, .int x1), (2, .int x2), (3, .int x3), (4, .ref (aB 0))]) hx hb dX3_comesBefore_108 hl (by decide) rfl (fun ls hl => ?_)
        exact h110 x1 x2 x9_21 _ _ _ hE hP hD hS (lv_sub hl [4, 5, 0] rfl)
    · replace hE := it_t hE c_15
      refine lv_aload_n hx hb dX3_comesBefore_61 rfl (lv_at hl 3 rfl) ?_
      refine va_get (D := D) (ci := 3) (v := .ref (aO 6)) (C := RX3) (T := TX3) (N := 10) hx hb hts iX3 hown hK hP 4 rfl rfl 5 (by decide) f21 (fun _ h9 => h9) rfl dX3_comesBefore_62 ?_
      refine lv_iload_n hx hb dX3_comesBefore_65 rfl (lv_at hl 5 rfl) ?_
      obtain ⟨r_22, hc_23, hE⟩ := bd1_el hE
      refine ki (X := (List.take 8 ((W_B cy aB imB) ++ (W_O cy aO imO)))) (Y := (List.drop 9 ((W_B cy aB imB) ++ (W_O cy aO imO)))) (ws1 := ((W_B cy aB imB) ++ (W_O cy aO imO))) (rSN (X := (List.take 8 ((W_B cy aB imB) ++ (W_O cy aO imO)))) (Y := (List.drop 9 ((W_B cy aB imB) ++ (W_O cy aO imO)))) (As := [.ref (aO 6), .int x2]) (rest := []) hC (c_X8_valueAt l D cy (aO 6) x2 (200) (imO 5) r_22 hc_23) (va_cnB 2 hts gX3_comesBefore_X8_valueAt_n51 rfl rfl rfl (hN.1 5 _ rfl) in_X8 cd_X8_valueAt.2 ⟨Nat.le_of_ble_eq_true rfl, Nat.le_of_ble_eq_true rfl⟩) st_X8_valueAt hK hN hP hD hS hA rfl rfl hl.1 rfl (lv_room (Nat.le_of_ble_eq_true rfl)) dX3_comesBefore_66 ⟨Nat.le_of_ble_eq_true rfl, Nat.le_of_ble_eq_true rfl⟩) hP hD hS hA rfl rfl rfl (fun H locs hP hD hS => ?_)
      refine lv_aload_n hx hb dX3_comesBefore_69 rfl (lv_at hl 3 rfl) ?_
      refine va_get (D := D) (ci := 3) (v := .ref (aO 6)) (C := RX3) (T := TX3) (N := 10) hx hb hts iX3 hown hK hP 4 rfl rfl 5 (by decide) f21 (fun _ h9 => h9) rfl dX3_comesBefore_70 ?_
      refine lv_iload_n hx hb dX3_comesBefore_73 rfl (lv_at hl 4 rfl) ?_
      obtain ⟨r_24, hc_25, hE⟩ := bd1_el hE
      refine ki (X := (List.take 8 ((W_B cy aB imB) ++ (W_O cy aO imO)))) (Y := (List.drop 9 ((W_B cy aB imB) ++ (W_O cy aO imO)))) (ws1 := ((W_B cy aB imB) ++ (W_O cy aO imO))) (rSN (X := (List.take 8 ((W_B cy aB imB) ++ (W_O cy aO imO)))) (Y := (List.drop 9 ((W_B cy aB imB) ++ (W_O cy aO imO)))) (As := [.ref (aO 6), .int x1]) (rest := [.int r_22]) hC (c_X8_valueAt l D cy (aO 6) x1 (200) (imO 5) r_24 hc_25) (va_cnB 2 hts gX3_comesBefore_X8_valueAt_n51 rfl rfl rfl (hN.1 5 _ rfl) in_X8 cd_X8_valueAt.2 ⟨Nat.le_of_ble_eq_true rfl, Nat.le_of_ble_eq_true rfl⟩) st_X8_valueAt hK hN hP hD hS hA rfl rfl hl.1 rfl (lv_room (Nat.le_of_ble_eq_true rfl)) dX3_comesBefore_74 ⟨Nat.le_of_ble_eq_true rfl, Nat.le_of_ble_eq_true rfl⟩) hP hD hS hA rfl rfl rfl (fun H locs hP hD hS => ?_)
      refine lv_isub hx hb dX3_comesBefore_77 ?_
      refine lv_i2l hx hb dX3_comesBefore_78 rfl ?_
      obtain ⟨x9_26, e_x9_26, hE⟩ := lt_el hE
      refine s_nmL e_x9_26 ?_
      refine lv_lstore (lv' := [(9, .long x9_26), (7, .long x7_13), (5, .long x5_8), (0, .ref (aO 0)), (1, .int x1), (2, .int x2), (3, .int x3), (4, .ref (aB 0))]) hx hb dX3_comesBefore_79 hl (by decide) rfl (fun ls hl => ?_)
      refine lv_goto (tgt := 110) hx hb dX3_comesBefore_81 (by decide) ?_
      exact h110 x1 x2 x9_26 _ _ _ hE hP hD hS (lv_sub hl [4, 5, 0] rfl)
  · replace hE := it_t hE c_14
    refine lv_lload hx hb dX3_comesBefore_46 (lv_at hl 2 rfl) ?_
    refine lv_lload hx hb dX3_comesBefore_48 (lv_at hl 1 rfl) ?_
    refine lv_lsub hx hb dX3_comesBefore_50 ?_
    obtain ⟨x9_27, e_x9_27, hE⟩ := lt_el hE
    refine s_nmL e_x9_27 ?_
    refine lv_lstore (lv' := [(9, .long x9_27), (7, .long x7_13), (5, .long x5_8), (0, .ref (aO 0)), (1, .int x1), (2, .int x2), (3, .int x3), (4, .ref (aB 0))]) hx hb dX3_comesBefore_51 hl (by decide) rfl (fun ls hl => ?_)
    refine lv_goto (tgt := 110) hx hb dX3_comesBefore_53 (by decide) ?_
    exact h110 x1 x2 x9_27 _ _ _ hE hP hD hS (lv_sub hl [4, 5, 0] rfl)
abbrev rm_X3_arrange : Room := { frames := 3, cells := 0, slots := 0, locals := 73 }
set_option maxHeartbeats 40000000 in
set_option maxRecDepth 100000 in
theorem c_X3_arrange (l : Launch) (D : va_G) (cy : Nat → Nat) (aB aO : Nat → Nat) (x1 : Int32) (imB : Mem) (imO : Mem) (r' : Int32) (mO' : Mem) (hE : f_X3_arrange x1 imB imO = some (r', mO')) : CI l yX3_arrange wsX3_arrange rm_X3_arrange D cy [.ref (aO 0), .int x1, .ref (aB 0)] ((W_B cy aB imB) ++ (W_O cy aO imO)) 0 0 r' ((W_B cy aB imB) ++ (W_O cy aO mO')) := by
  refine CQ_of (cc := cX3_arrange) (maxL := 5) (ret := (some .int)) (by decide) rfl (Nat.le_of_ble_eq_true rfl) (fun p e s m args below meth c A ls hx hb hr hml hlocks hnm hown hts hA hK hN hP hD hS hl => ?_)
  have hown : s.vm.findClass RX3 = some m.cls := hown
  have hl : lv_has ls 5 [(0, .ref (aO 0)), (1, .int x1), (2, .ref (aB 0))] := hl
  have hC : CallFix p m c cX3_arrange 5 s args wsX3_arrange RX3 := ⟨hx, hb, hml, hown, hts⟩
  have f30 : (Cond.fieldLink RX3 30 "IcePlant$Orders" "open" "[I").before args s = true := hts _ (mC qf_X3_30)
  have f33 : (Cond.fieldLink RX3 33 "IcePlant$Orders" "sequence" "[I").before args s = true := hts _ (mC qf_X3_33)
  have f40 : (Cond.fieldLink RX3 40 "IcePlant$Orders" "openCount" "I").before args s = true := hts _ (mC qf_X3_40)
  have iX3 : ∀ w ∈ wsX30, w ∈ wsX3_arrange := fun w h => mC (iA_X3 w h)
  have h64 : ∀ (x1 : Int32) (x3 : Int32) (x4 : Int32) (mO : Mem), ∀ (k2 : (Int32 → Mem → Option (Int32 × Mem))), (∀ (x3 : Int32) (mO : Mem) (H : Heap) (locs : List Loc) (ls : Array Slot), k2 x3 mO = some (r', mO') → va_P D vwCl ((W_B cy aB imB) ++ (W_O cy aO mO)) H → va_D A ((W_B cy aB imB) ++ (W_O cy aO mO)) → va_S A s.heap H locs → lv_has ls 5 [(0, .ref (aO 0)), (1, .int x1), (2, .ref (aB 0)), (3, .int x3)] → W p l e rm_X3_arrange s m args below meth c H locs 0 0 (MQ below (QI D cy r' ((W_B cy aB imB) ++ (W_O cy aO mO')) A) args s 0 0 A) (F0 m 2 ls [])) → ∀  (H : Heap) (locs : List Loc) (ls : Array Slot), f_X3_arrange_b64 k2 x1 x3 x4 imB mO = some (r', mO') → va_P D vwCl ((W_B cy aB imB) ++ (W_O cy aO mO)) H → va_D A ((W_B cy aB imB) ++ (W_O cy aO mO)) → va_S A s.heap H locs → lv_has ls 5 [(0, .ref (aO 0)), (1, .int x1), (2, .ref (aB 0)), (3, .int x3), (4, .int x4)] → W p l e rm_X3_arrange s m args below meth c H locs 0 0 (MQ below (QI D cy r' ((W_B cy aB imB) ++ (W_O cy aO mO')) A) args s 0 0 A) (F0 m 64 ls []) := by
    intro x1 x3 x4 mO k2 hk2 H locs ls hE hP hD hS hl
    replace hE : (gi x3 20 (gi x4 20 (lt' (wrI mO 9 (upd (mO 9) x4.toNatClampNeg (mO 8 x3.toNatClampNeg))) fun mO_2 => lt' (x3 + (1 : Int32)) fun x3_4 => k2 x3_4 mO_2))) = some (r', mO') := hE
    refine lv_aload_n hx hb dX3_arrange_64 rfl (lv_at hl 0 rfl) ?_
    refine va_get (D := D) (ci := 3) (v := .ref (aO 10)) (C := RX3) (T := TX3) (N := 10) hx hb hts iX3 hown hK hP 4 rfl rfl 9 (by decide) f33 (fun _ h9 => h9) rfl dX3_arrange_65 ?_
    refine lv_iload hx hb dX3_arrange_68 (lv_at hl 4 rfl) ?_
    refine lv_aload_n hx hb dX3_arrange_70 rfl (lv_at hl 0 rfl) ?_
    refine va_get (D := D) (ci := 3) (v := .ref (aO 9)) (C := RX3) (T := TX3) (N := 10) hx hb hts iX3 hown hK hP 4 rfl rfl 8 (by decide) f30 (fun _ h9 => h9) rfl dX3_arrange_71 ?_
    refine lv_iload_n hx hb dX3_arrange_74 rfl (lv_at hl 3 rfl) ?_
    obtain ⟨g_1, hE⟩ := gi_el hE
    refine va_iald hx hb hK hP 11 0 rfl rfl g_1 dX3_arrange_75 ?_
    obtain ⟨g_3, hE⟩ := gi_el hE
    obtain ⟨mO_2, e_mO_2, hE⟩ := lt_el hE
    refine s_ia (ws1 := ((W_B cy aB imB) ++ (W_O cy aO mO_2))) hx hb hK hP hD hS 12 rfl g_3 (by rw [e_mO_2]; rfl) dX3_arrange_76 (fun H locs hP hD hS => ?_)
    obtain ⟨x3_4, e_x3_4, hE⟩ := lt_el hE
    refine lv_iinc (v := x3_4) (lv' := [(3, .int x3_4), (0, .ref (aO 0)), (1, .int x1), (2, .ref (aB 0)), (4, .int x4)]) hx hb dX3_arrange_77 hl (k := 3) rfl (by rw [e_x3_4]; rfl) (by decide) rfl (fun ls hl => ?_)
    refine lv_goto (tgt := 2) hx hb dX3_arrange_80 (by decide) ?_
    exact hk2 x3_4 mO_2 _ _ _ hE hP hD hS (lv_sub hl [1, 2, 3, 0] rfl)
  have h13 : ∀ (x1 : Int32) (x3 : Int32), ∀ (k2 : (Int32 → Mem → Option (Int32 × Mem))), (∀ (x3 : Int32) (mO : Mem) (H : Heap) (locs : List Loc) (ls : Array Slot), k2 x3 mO = some (r', mO') → va_P D vwCl ((W_B cy aB imB) ++ (W_O cy aO mO)) H → va_D A ((W_B cy aB imB) ++ (W_O cy aO mO)) → va_S A s.heap H locs → lv_has ls 5 [(0, .ref (aO 0)), (1, .int x1), (2, .ref (aB 0)), (3, .int x3)] → W p l e rm_X3_arrange s m args below meth c H locs 0 0 (MQ below (QI D cy r' ((W_B cy aB imB) ++ (W_O cy aO mO')) A) args s 0 0 A) (F0 m 2 ls [])) → ∀ (n : Nat), ∀ (x4 : Int32) (mO : Mem) (H : Heap) (locs : List Loc) (ls : Array Slot), f_X3_arrange_L13 k2 x1 x3 imB n x4 mO = some (r', mO') → va_P D vwCl ((W_B cy aB imB) ++ (W_O cy aO mO)) H → va_D A ((W_B cy aB imB) ++ (W_O cy aO mO)) → va_S A s.heap H locs → lv_has ls 5 [(0, .ref (aO 0)), (1, .int x1), (2, .ref (aB 0)), (3, .int x3), (4, .int x4)] → W p l e rm_X3_arrange s m args below meth c H locs 0 0 (MQ below (QI D cy r' ((W_B cy aB imB) ++ (W_O cy aO mO')) A) args s 0 0 A) (F0 m 13 ls []) := by
    intro x1 x3 k2 hk2 n
    induction n with
    | zero => intro x4 mO H locs ls hE; exact absurd hE (fun h9 => nomatch h9)
    | succ n ih =>
      intro x4 mO H locs ls hE hP hD hS hl
      replace hE : ((if x4 ≤ 0 then f_X3_arrange_b64 k2 x1 x3 x4 imB mO else gi x3 20 (gi (x4 - (1 : Int32)) 20 (bd1 (f_X3_comesBefore (mO 8 x3.toNatClampNeg) (mO 9 (x4 - (1 : Int32)).toNatClampNeg) x1 imB mO) fun r_8 => (if r_8 = 0 then f_X3_arrange_b64 k2 x1 x3 x4 imB mO else gi (x4 - (1 : Int32)) 20 (gi x4 20 (lt' (wrI mO 9 (upd (mO 9) x4.toNatClampNeg (mO 9 (x4 - (1 : Int32)).toNatClampNeg))) fun mO_12 => lt' (x4 + (-1 : Int32)) fun x4_14 => (f_X3_arrange_L13 k2 x1 x3 imB n) x4_14 mO_12))))))) = some (r', mO') := hE
      refine lv_iload hx hb dX3_arrange_13 (lv_at hl 4 rfl) ?_
      refine lv_if_le (tgt := 64) hx hb dX3_arrange_15 (by decide) (fun c_5 => ?_) (fun c_5 => ?_)
      · replace hE := it_t hE c_5
        exact h64 x1 x3 x4 mO k2 hk2 _ _ _ hE hP hD hS (lv_sub hl [0, 1, 2, 3, 4] rfl)
      · replace hE := it_f hE c_5
        refine lv_aload_n hx hb dX3_arrange_18 rfl (lv_at hl 0 rfl) ?_
        refine lv_aload_n hx hb dX3_arrange_19 rfl (lv_at hl 0 rfl) ?_
        refine va_get (D := D) (ci := 3) (v := .ref (aO 9)) (C := RX3) (T := TX3) (N := 10) hx hb hts iX3 hown hK hP 4 rfl rfl 8 (by decide) f30 (fun _ h9 => h9) rfl dX3_arrange_20 ?_
        refine lv_iload_n hx hb dX3_arrange_23 rfl (lv_at hl 3 rfl) ?_
        obtain ⟨g_6, hE⟩ := gi_el hE
        refine va_iald hx hb hK hP 11 0 rfl rfl g_6 dX3_arrange_24 ?_
        refine lv_aload_n hx hb dX3_arrange_25 rfl (lv_at hl 0 rfl) ?_
        refine va_get (D := D) (ci := 3) (v := .ref (aO 10)) (C := RX3) (T := TX3) (N := 10) hx hb hts iX3 hown hK hP 4 rfl rfl 9 (by decide) f33 (fun _ h9 => h9) rfl dX3_arrange_26 ?_
        refine lv_iload hx hb dX3_arrange_29 (lv_at hl 4 rfl) ?_
        refine lv_iconst (v := 1) hx hb dX3_arrange_31 (by decide) ?_
        refine lv_isub hx hb dX3_arrange_32 ?_
        obtain ⟨g_7, hE⟩ := gi_el hE
        refine va_iald hx hb hK hP 12 0 rfl rfl g_7 dX3_arrange_33 ?_
        refine lv_iload_n hx hb dX3_arrange_34 rfl (lv_at hl 1 rfl) ?_
        refine lv_aload_n hx hb dX3_arrange_35 rfl (lv_at hl 2 rfl) ?_
        obtain ⟨r_8, hc_9, hE⟩ := bd1_el hE
        refine ki (X := []) (Y := []) (ws1 := ((W_B cy aB imB) ++ (W_O cy aO mO))) (rV (X := []) (Y := []) (As := [.int (mO 8 x3.toNatClampNeg), .int (mO 9 (x4 - (1 : Int32)).toNatClampNeg), .int x1, .ref (aB 0)]) (rest := []) hC (c_X3_comesBefore l D cy aB aO (mO 8 x3.toNatClampNeg) (mO 9 (x4 - (1 : Int32)).toNatClampNeg) x1 imB mO r_8 hc_9) (cwV 4 hts gX3_arrange_X3_comesBefore rfl rfl rfl cd_X3_comesBefore ⟨Nat.le_of_ble_eq_true rfl, Nat.le_of_ble_eq_true rfl⟩) hK hN hP hD hS hA rfl 4 3 rfl rfl rfl hl.1 rfl (lv_room (Nat.le_of_ble_eq_true rfl)) dX3_arrange_36 ⟨Nat.le_of_ble_eq_true rfl, Nat.le_of_ble_eq_true rfl⟩) hP hD hS hA rfl rfl rfl (fun H locs hP hD hS => ?_)
        refine lv_if_eq (tgt := 64) hx hb dX3_arrange_39 (by decide) (fun c_10 => ?_) (fun c_10 => ?_)
        · replace hE := it_t hE c_10
          exact h64 x1 x3 x4 mO k2 hk2 _ _ _ hE hP hD hS (lv_sub hl [0, 1, 2, 3, 4] rfl)
        · replace hE := it_f hE c_10
          refine lv_aload_n hx hb dX3_arrange_42 rfl (lv_at hl 0 rfl) ?_
          refine va_get (D := D) (ci := 3) (v := .ref (aO 10)) (C := RX3) (T := TX3) (N := 10) hx hb hts iX3 hown hK hP 4 rfl rfl 9 (by decide) f33 (fun _ h9 => h9) rfl dX3_arrange_43 ?_
          refine lv_iload hx hb dX3_arrange_46 (lv_at hl 4 rfl) ?_
          refine lv_aload_n hx hb dX3_arrange_48 rfl (lv_at hl 0 rfl) ?_
          refine va_get (D := D) (ci := 3) (v := .ref (aO 10)) (C := RX3) (T := TX3) (N := 10) hx hb hts iX3 hown hK hP 4 rfl rfl 9 (by decide) f33 (fun _ h9 => h9) rfl dX3_arrange_49 ?_
          refine lv_iload hx hb dX3_arrange_52 (lv_at hl 4 rfl) ?_
          refine lv_iconst (v := 1) hx hb dX3_arrange_54 (by decide) ?_
          refine lv_isub hx hb dX3_arrange_55 ?_
          obtain ⟨g_11, hE⟩ := gi_el hE
          refine va_iald hx hb hK hP 12 0 rfl rfl g_11 dX3_arrange_56 ?_
          obtain ⟨g_13, hE⟩ := gi_el hE
          obtain ⟨mO_12, e_mO_12, hE⟩ := lt_el hE
          refine s_ia (ws1 := ((W_B cy aB imB) ++ (W_O cy aO mO_12))) hx hb hK hP hD hS 12 rfl g_13 (by rw [e_mO_12]; rfl) dX3_arrange_57 (fun H locs hP hD hS => ?_)
          obtain ⟨x4_14, e_x4_14, hE⟩ := lt_el hE
          refine lv_iinc (v := x4_14) (lv' := [(4, .int x4_14), (0, .ref (aO 0)), (1, .int x1), (2, .ref (aB 0)), (3, .int x3)]) hx hb dX3_arrange_58 hl (k := 4) rfl (by rw [e_x4_14]; rfl) (by decide) rfl (fun ls hl => ?_)
          refine lv_goto (tgt := 13) hx hb dX3_arrange_61 (by decide) ?_
          exact ih x4_14 mO_12 _ _ _ hE hP hD hS (lv_sub hl [1, 2, 3, 4, 0] rfl)
  have h2 : ∀ (x1 : Int32), ∀ (n : Nat), ∀ (x3 : Int32) (mO : Mem) (H : Heap) (locs : List Loc) (ls : Array Slot), f_X3_arrange_L2 x1 imB n x3 mO = some (r', mO') → va_P D vwCl ((W_B cy aB imB) ++ (W_O cy aO mO)) H → va_D A ((W_B cy aB imB) ++ (W_O cy aO mO)) → va_S A s.heap H locs → lv_has ls 5 [(0, .ref (aO 0)), (1, .int x1), (2, .ref (aB 0)), (3, .int x3)] → W p l e rm_X3_arrange s m args below meth c H locs 0 0 (MQ below (QI D cy r' ((W_B cy aB imB) ++ (W_O cy aO mO')) A) args s 0 0 A) (F0 m 2 ls []) := by
    intro x1 n
    induction n with
    | zero => intro x3 mO H locs ls hE; exact absurd hE (fun h9 => nomatch h9)
    | succ n ih =>
      intro x3 mO H locs ls hE hP hD hS hl
      replace hE : ((if (mO 1 0) ≤ x3 then some ((mO 1 0), mO) else f_X3_arrange_L13 (f_X3_arrange_L2 x1 imB n) x1 x3 imB fuel x3 mO)) = some (r', mO') := hE
      refine lv_iload_n hx hb dX3_arrange_2 rfl (lv_at hl 3 rfl) ?_
      refine lv_aload_n hx hb dX3_arrange_3 rfl (lv_at hl 0 rfl) ?_
      refine va_get (D := D) (ci := 3) (v := .int (mO 1 0)) (C := RX3) (T := TX3) (N := 10) hx hb hts iX3 hown hK hP 4 rfl rfl 1 (by decide) f40 (fun _ h9 => h9) rfl dX3_arrange_4 ?_
      refine lv_icmp_ge (tgt := 83) hx hb dX3_arrange_7 (by decide) (fun c_15 => ?_) (fun c_15 => ?_)
      · replace hE := it_t hE c_15
        refine lv_aload_n hx hb dX3_arrange_83 rfl (lv_at hl 0 rfl) ?_
        refine va_get (D := D) (ci := 3) (v := .int (mO 1 0)) (C := RX3) (T := TX3) (N := 10) hx hb hts iX3 hown hK hP 4 rfl rfl 1 (by decide) f40 (fun _ h9 => h9) rfl dX3_arrange_84 ?_
        have hE := Option.some.inj hE
        obtain ⟨q0, q1⟩ := Prod.mk.inj hE
        exact ei hx hb hr hlocks hK hP hD hS q0 (by rw [q1]) dX3_arrange_87
      · replace hE := it_f hE c_15
        refine lv_iload_n hx hb dX3_arrange_10 rfl (lv_at hl 3 rfl) ?_
        refine lv_istore (lv' := [(4, .int x3), (0, .ref (aO 0)), (1, .int x1), (2, .ref (aB 0)), (3, .int x3)]) hx hb dX3_arrange_11 hl (by decide) rfl (fun ls hl => ?_)
        exact h13 x1 x3 (f_X3_arrange_L2 x1 imB n) ih fuel x3 mO _ _ _ hE hP hD hS (lv_sub hl [1, 2, 3, 4, 0] rfl)
  unfold f_X3_arrange at hE
  refine lv_iconst (v := 0) hx hb dX3_arrange_0 (by decide) ?_
  refine lv_istore_n (lv' := [(3, .int (0 : Int32)), (0, .ref (aO 0)), (1, .int x1), (2, .ref (aB 0))]) hx hb dX3_arrange_1 rfl hl (by decide) rfl (fun ls hl => ?_)
  exact h2 x1 fuel (0 : Int32) imO _ _ _ hE hP hD hS (lv_sub hl [1, 2, 3, 0] rfl)
abbrev rm_X3_openBefore : Room := { frames := 3, cells := 0, slots := 0, locals := 73 }
set_option maxHeartbeats 40000000 in
set_option maxRecDepth 100000 in
theorem c_X3_openBefore (l : Launch) (D : va_G) (cy : Nat → Nat) (aB aO : Nat → Nat) (x1 : Int32) (x2 : Int32) (imB : Mem) (imO : Mem) (r' : Int32) (hE : f_X3_openBefore x1 x2 imB imO = some r') : CI l yX3_openBefore wsX3_openBefore rm_X3_openBefore D cy [.ref (aO 0), .int x1, .int x2, .ref (aB 0)] ((W_B cy aB imB) ++ (W_O cy aO imO)) 0 0 r' ((W_B cy aB imB) ++ (W_O cy aO imO)) := by
  refine CQ_of (cc := cX3_openBefore) (maxL := 6) (ret := (some .int)) (by decide) rfl (Nat.le_of_ble_eq_true rfl) (fun p e s m args below meth c A ls hx hb hr hml hlocks hnm hown hts hA hK hN hP hD hS hl => ?_)
  have hown : s.vm.findClass RX3 = some m.cls := hown
  have hl : lv_has ls 6 [(0, .ref (aO 0)), (1, .int x1), (2, .int x2), (3, .ref (aB 0))] := hl
  have hC : CallFix p m c cX3_openBefore 6 s args wsX3_openBefore RX3 := ⟨hx, hb, hml, hown, hts⟩
  have f30 : (Cond.fieldLink RX3 30 "IcePlant$Orders" "open" "[I").before args s = true := hts _ (mC qf_X3_30)
  have f40 : (Cond.fieldLink RX3 40 "IcePlant$Orders" "openCount" "I").before args s = true := hts _ (mC qf_X3_40)
  have iX3 : ∀ w ∈ wsX30, w ∈ wsX3_openBefore := fun w h => mC (iA_X3 w h)
  have h35 : ∀ (x1 : Int32) (x2 : Int32) (x4 : Int32) (x5 : Int32), ∀ (k6 : (Int32 → Int32 → Option (Int32))), (∀ (x4 : Int32) (x5 : Int32) (H : Heap) (locs : List Loc) (ls : Array Slot), k6 x4 x5 = some r' → va_P D vwCl ((W_B cy aB imB) ++ (W_O cy aO imO)) H → va_D A ((W_B cy aB imB) ++ (W_O cy aO imO)) → va_S A s.heap H locs → lv_has ls 6 [(0, .ref (aO 0)), (1, .int x1), (2, .int x2), (3, .ref (aB 0)), (4, .int x4), (5, .int x5)] → W p l e rm_X3_openBefore s m args below meth c H locs 0 0 (MQ below (QI D cy r' ((W_B cy aB imB) ++ (W_O cy aO imO)) A) args s 0 0 A) (F0 m 6 ls [])) → ∀  (H : Heap) (locs : List Loc) (ls : Array Slot), f_X3_openBefore_b35 k6 x1 x2 x4 x5 imB imO = some r' → va_P D vwCl ((W_B cy aB imB) ++ (W_O cy aO imO)) H → va_D A ((W_B cy aB imB) ++ (W_O cy aO imO)) → va_S A s.heap H locs → lv_has ls 6 [(0, .ref (aO 0)), (1, .int x1), (2, .int x2), (3, .ref (aB 0)), (4, .int x4), (5, .int x5)] → W p l e rm_X3_openBefore s m args below meth c H locs 0 0 (MQ below (QI D cy r' ((W_B cy aB imB) ++ (W_O cy aO imO)) A) args s 0 0 A) (F0 m 35 ls []) := by
    intro x1 x2 x4 x5 k6 hk6 H locs ls hE hP hD hS hl
    replace hE : (lt' (x5 + (1 : Int32)) fun x5_1 => k6 x4 x5_1) = some r' := hE
    obtain ⟨x5_1, e_x5_1, hE⟩ := lt_el hE
    refine lv_iinc (v := x5_1) (lv' := [(5, .int x5_1), (0, .ref (aO 0)), (1, .int x1), (2, .int x2), (3, .ref (aB 0)), (4, .int x4)]) hx hb dX3_openBefore_35 hl (k := 5) rfl (by rw [e_x5_1]; rfl) (by decide) rfl (fun ls hl => ?_)
    refine lv_goto (tgt := 6) hx hb dX3_openBefore_38 (by decide) ?_
    exact hk6 x4 x5_1 _ _ _ hE hP hD hS (lv_sub hl [1, 2, 3, 4, 5, 0] rfl)
  have h6 : ∀ (x1 : Int32) (x2 : Int32), ∀ (n : Nat), ∀ (x4 : Int32) (x5 : Int32) (H : Heap) (locs : List Loc) (ls : Array Slot), f_X3_openBefore_L6 x1 x2 imB imO n x4 x5 = some r' → va_P D vwCl ((W_B cy aB imB) ++ (W_O cy aO imO)) H → va_D A ((W_B cy aB imB) ++ (W_O cy aO imO)) → va_S A s.heap H locs → lv_has ls 6 [(0, .ref (aO 0)), (1, .int x1), (2, .int x2), (3, .ref (aB 0)), (4, .int x4), (5, .int x5)] → W p l e rm_X3_openBefore s m args below meth c H locs 0 0 (MQ below (QI D cy r' ((W_B cy aB imB) ++ (W_O cy aO imO)) A) args s 0 0 A) (F0 m 6 ls []) := by
    intro x1 x2 n
    induction n with
    | zero => intro x4 x5 H locs ls hE; exact absurd hE (fun h9 => nomatch h9)
    | succ n ih =>
      intro x4 x5 H locs ls hE hP hD hS hl
      replace hE : ((if (imO 1 0) ≤ x5 then some x4 else gi x5 20 (bd1 (f_X3_comesBefore (imO 8 x5.toNatClampNeg) x1 x2 imB imO) fun r_4 => (if r_4 = 0 then f_X3_openBefore_b35 (f_X3_openBefore_L6 x1 x2 imB imO n) x1 x2 x4 x5 imB imO else lt' (x4 + (1 : Int32)) fun x4_7 => f_X3_openBefore_b35 (f_X3_openBefore_L6 x1 x2 imB imO n) x1 x2 x4_7 x5 imB imO)))) = some r' := hE
      refine lv_iload hx hb dX3_openBefore_6 (lv_at hl 5 rfl) ?_
      refine lv_aload_n hx hb dX3_openBefore_8 rfl (lv_at hl 0 rfl) ?_
      refine va_get (D := D) (ci := 3) (v := .int (imO 1 0)) (C := RX3) (T := TX3) (N := 10) hx hb hts iX3 hown hK hP 4 rfl rfl 1 (by decide) f40 (fun _ h9 => h9) rfl dX3_openBefore_9 ?_
      refine lv_icmp_ge (tgt := 41) hx hb dX3_openBefore_12 (by decide) (fun c_2 => ?_) (fun c_2 => ?_)
      · replace hE := it_t hE c_2
        refine lv_iload hx hb dX3_openBefore_41 (lv_at hl 4 rfl) ?_
        have hE := Option.some.inj hE
        exact ei hx hb hr hlocks hK hP hD hS hE rfl dX3_openBefore_43
      · replace hE := it_f hE c_2
        refine lv_aload_n hx hb dX3_openBefore_15 rfl (lv_at hl 0 rfl) ?_
        refine lv_aload_n hx hb dX3_openBefore_16 rfl (lv_at hl 0 rfl) ?_
        refine va_get (D := D) (ci := 3) (v := .ref (aO 9)) (C := RX3) (T := TX3) (N := 10) hx hb hts iX3 hown hK hP 4 rfl rfl 8 (by decide) f30 (fun _ h9 => h9) rfl dX3_openBefore_17 ?_
        refine lv_iload hx hb dX3_openBefore_20 (lv_at hl 5 rfl) ?_
        obtain ⟨g_3, hE⟩ := gi_el hE
        refine va_iald hx hb hK hP 11 0 rfl rfl g_3 dX3_openBefore_22 ?_
        refine lv_iload_n hx hb dX3_openBefore_23 rfl (lv_at hl 1 rfl) ?_
        refine lv_iload_n hx hb dX3_openBefore_24 rfl (lv_at hl 2 rfl) ?_
        refine lv_aload_n hx hb dX3_openBefore_25 rfl (lv_at hl 3 rfl) ?_
        obtain ⟨r_4, hc_5, hE⟩ := bd1_el hE
        refine ki (X := []) (Y := []) (ws1 := ((W_B cy aB imB) ++ (W_O cy aO imO))) (rV (X := []) (Y := []) (As := [.int (imO 8 x5.toNatClampNeg), .int x1, .int x2, .ref (aB 0)]) (rest := []) hC (c_X3_comesBefore l D cy aB aO (imO 8 x5.toNatClampNeg) x1 x2 imB imO r_4 hc_5) (cwV 4 hts gX3_openBefore_X3_comesBefore rfl rfl rfl cd_X3_comesBefore ⟨Nat.le_of_ble_eq_true rfl, Nat.le_of_ble_eq_true rfl⟩) hK hN hP hD hS hA rfl 4 3 rfl rfl rfl hl.1 rfl (lv_room (Nat.le_of_ble_eq_true rfl)) dX3_openBefore_26 ⟨Nat.le_of_ble_eq_true rfl, Nat.le_of_ble_eq_true rfl⟩) hP hD hS hA rfl rfl rfl (fun H locs hP hD hS => ?_)
        refine lv_if_eq (tgt := 35) hx hb dX3_openBefore_29 (by decide) (fun c_6 => ?_) (fun c_6 => ?_)
        · replace hE := it_t hE c_6
          exact h35 x1 x2 x4 x5 (f_X3_openBefore_L6 x1 x2 imB imO n) ih _ _ _ hE hP hD hS (lv_sub hl [0, 1, 2, 3, 4, 5] rfl)
        · replace hE := it_f hE c_6
          obtain ⟨x4_7, e_x4_7, hE⟩ := lt_el hE
          refine lv_iinc (v := x4_7) (lv' := [(4, .int x4_7), (0, .ref (aO 0)), (1, .int x1), (2, .int x2), (3, .ref (aB 0)), (5, .int x5)]) hx hb dX3_openBefore_32 hl (k := 4) rfl (by rw [e_x4_7]; rfl) (by decide) rfl (fun ls hl => ?_)
          exact h35 x1 x2 x4_7 x5 (f_X3_openBefore_L6 x1 x2 imB imO n) ih _ _ _ hE hP hD hS (lv_sub hl [1, 2, 3, 4, 0, 5] rfl)
  unfold f_X3_openBefore at hE
  refine lv_iconst (v := 0) hx hb dX3_openBefore_0 (by decide) ?_
  refine lv_istore (lv' := [(4, .int (0 : Int32)), (0, .ref (aO 0)), (1, .int x1), (2, .int x2), (3, .ref (aB 0))]) hx hb dX3_openBefore_1 hl (by decide) rfl (fun ls hl => ?_)
  refine lv_iconst (v := 0) hx hb dX3_openBefore_3 (by decide) ?_
  refine lv_istore (lv' := [(5, .int (0 : Int32)), (4, .int (0 : Int32)), (0, .ref (aO 0)), (1, .int x1), (2, .int x2), (3, .ref (aB 0))]) hx hb dX3_openBefore_4 hl (by decide) rfl (fun ls hl => ?_)
  exact h6 x1 x2 fuel (0 : Int32) (0 : Int32) _ _ _ hE hP hD hS (lv_sub hl [2, 3, 4, 5, 1, 0] rfl)
abbrev rm_X3_property : Room := { frames := 1, cells := 0, slots := 0, locals := 21 }
set_option maxHeartbeats 40000000 in
set_option maxRecDepth 100000 in
theorem c_X3_property (l : Launch) (D : va_G) (cy : Nat → Nat) (aO : Nat → Nat) (x1 : Int32) (x2 : Int32) (imO : Mem) (r' : Int32) (hE : f_X3_property x1 x2 imO = some r') : CI l yX3_property wsX3_property rm_X3_property D cy [.ref (aO 0), .int x1, .int x2] (W_O cy aO imO) 0 0 r' (W_O cy aO imO) := by
  refine CQ_of (cc := cX3_property) (maxL := 3) (ret := (some .int)) (by decide) rfl (Nat.le_of_ble_eq_true rfl) (fun p e s m args below meth c A ls hx hb hr hml hlocks hnm hown hts hA hK hN hP hD hS hl => ?_)
  have hown : s.vm.findClass RX3 = some m.cls := hown
  have hl : lv_has ls 3 [(0, .ref (aO 0)), (1, .int x1), (2, .int x2)] := hl
  have hC : CallFix p m c cX3_property 3 s args wsX3_property RX3 := ⟨hx, hb, hml, hown, hts⟩
  have f11 : (Cond.fieldLink RX3 11 "IcePlant$Orders" "boats" "[I").before args s = true := hts _ (mC qf_X3_11)
  have f15 : (Cond.fieldLink RX3 15 "IcePlant$Orders" "wanted" "[I").before args s = true := hts _ (mC qf_X3_15)
  have f18 : (Cond.fieldLink RX3 18 "IcePlant$Orders" "delivered" "[I").before args s = true := hts _ (mC qf_X3_18)
  have f21 : (Cond.fieldLink RX3 21 "IcePlant$Orders" "hoursLeft" "[I").before args s = true := hts _ (mC qf_X3_21)
  have f24 : (Cond.fieldLink RX3 24 "IcePlant$Orders" "wholes" "[I").before args s = true := hts _ (mC qf_X3_24)
  have f27 : (Cond.fieldLink RX3 27 "IcePlant$Orders" "states" "[I").before args s = true := hts _ (mC qf_X3_27)
  have iX3 : ∀ w ∈ wsX30, w ∈ wsX3_property := fun w h => mC (iA_X3 w h)
  have in_X8 : (Cond.initialized RX8).before args s = true := hts _ (mC qn_X8)
  have st_X8_valueAt : (Cond.static yX8_valueAt).before args s = true := hts _ (mC qs_X8_valueAt)
  unfold f_X3_property at hE
  refine lv_iload_n hx hb dX3_property_0 rfl (lv_at hl 2 rfl) ?_
  by_cases c_3_0 : x2 = 0
  · replace hE := it_t hE c_3_0
    refine lv_tableIn (tgt := 36) hx hb dX3_property_1 (by rw [c_3_0]; decide) (by rw [c_3_0]; decide) (off := 35) (by rw [c_3_0]; decide) (by decide) ?_
    refine lv_aload_n hx hb dX3_property_36 rfl (lv_at hl 0 rfl) ?_
    refine va_get (D := D) (ci := 3) (v := .ref (aO 3)) (C := RX3) (T := TX3) (N := 10) hx hb hts iX3 hown hK hP 0 rfl rfl 2 (by decide) f11 (fun _ h9 => h9) rfl dX3_property_37 ?_
    refine lv_iload_n hx hb dX3_property_40 rfl (lv_at hl 1 rfl) ?_
    obtain ⟨r_12, hc_13, hE⟩ := bd1_el hE
    refine ki (X := (List.take 1 (W_O cy aO imO))) (Y := (List.drop 2 (W_O cy aO imO))) (ws1 := (W_O cy aO imO)) (rSN (X := (List.take 1 (W_O cy aO imO))) (Y := (List.drop 2 (W_O cy aO imO))) (As := [.ref (aO 3), .int x1]) (rest := []) hC (c_X8_valueAt l D cy (aO 3) x1 (200) (imO 2) r_12 hc_13) (va_cnB 2 hts gX3_property_X8_valueAt_n51 rfl rfl rfl (hN.1 5 _ rfl) in_X8 cd_X8_valueAt.2 ⟨Nat.le_of_ble_eq_true rfl, Nat.le_of_ble_eq_true rfl⟩) st_X8_valueAt hK hN hP hD hS hA rfl rfl hl.1 rfl (lv_room (Nat.le_of_ble_eq_true rfl)) dX3_property_41 ⟨Nat.le_of_ble_eq_true rfl, Nat.le_of_ble_eq_true rfl⟩) hP hD hS hA rfl rfl rfl (fun H locs hP hD hS => ?_)
    have hE := Option.some.inj hE
    exact ei hx hb hr hlocks hK hP hD hS hE rfl dX3_property_44
  · replace hE := it_f hE c_3_0
    by_cases c_3_1 : x2 = 1
    · replace hE := it_t hE c_3_1
      refine lv_tableIn (tgt := 45) hx hb dX3_property_1 (by rw [c_3_1]; decide) (by rw [c_3_1]; decide) (off := 44) (by rw [c_3_1]; decide) (by decide) ?_
      refine lv_aload_n hx hb dX3_property_45 rfl (lv_at hl 0 rfl) ?_
      refine va_get (D := D) (ci := 3) (v := .ref (aO 4)) (C := RX3) (T := TX3) (N := 10) hx hb hts iX3 hown hK hP 0 rfl rfl 3 (by decide) f15 (fun _ h9 => h9) rfl dX3_property_46 ?_
      refine lv_iload_n hx hb dX3_property_49 rfl (lv_at hl 1 rfl) ?_
      obtain ⟨r_10, hc_11, hE⟩ := bd1_el hE
      refine ki (X := (List.take 2 (W_O cy aO imO))) (Y := (List.drop 3 (W_O cy aO imO))) (ws1 := (W_O cy aO imO)) (rSN (X := (List.take 2 (W_O cy aO imO))) (Y := (List.drop 3 (W_O cy aO imO))) (As := [.ref (aO 4), .int x1]) (rest := []) hC (c_X8_valueAt l D cy (aO 4) x1 (200) (imO 3) r_10 hc_11) (va_cnB 2 hts gX3_property_X8_valueAt_n51 rfl rfl rfl (hN.1 5 _ rfl) in_X8 cd_X8_valueAt.2 ⟨Nat.le_of_ble_eq_true rfl, Nat.le_of_ble_eq_true rfl⟩) st_X8_valueAt hK hN hP hD hS hA rfl rfl hl.1 rfl (lv_room (Nat.le_of_ble_eq_true rfl)) dX3_property_50 ⟨Nat.le_of_ble_eq_true rfl, Nat.le_of_ble_eq_true rfl⟩) hP hD hS hA rfl rfl rfl (fun H locs hP hD hS => ?_)
      have hE := Option.some.inj hE
      exact ei hx hb hr hlocks hK hP hD hS hE rfl dX3_property_53
    · replace hE := it_f hE c_3_1
      by_cases c_3_2 : x2 = 2
      · replace hE := it_t hE c_3_2
        refine lv_tableIn (tgt := 54) hx hb dX3_property_1 (by rw [c_3_2]; decide) (by rw [c_3_2]; decide) (off := 53) (by rw [c_3_2]; decide) (by decide) ?_
        refine lv_aload_n hx hb dX3_property_54 rfl (lv_at hl 0 rfl) ?_
        refine va_get (D := D) (ci := 3) (v := .ref (aO 5)) (C := RX3) (T := TX3) (N := 10) hx hb hts iX3 hown hK hP 0 rfl rfl 4 (by decide) f18 (fun _ h9 => h9) rfl dX3_property_55 ?_
        refine lv_iload_n hx hb dX3_property_58 rfl (lv_at hl 1 rfl) ?_
        obtain ⟨r_8, hc_9, hE⟩ := bd1_el hE
        refine ki (X := (List.take 3 (W_O cy aO imO))) (Y := (List.drop 4 (W_O cy aO imO))) (ws1 := (W_O cy aO imO)) (rSN (X := (List.take 3 (W_O cy aO imO))) (Y := (List.drop 4 (W_O cy aO imO))) (As := [.ref (aO 5), .int x1]) (rest := []) hC (c_X8_valueAt l D cy (aO 5) x1 (200) (imO 4) r_8 hc_9) (va_cnB 2 hts gX3_property_X8_valueAt_n51 rfl rfl rfl (hN.1 5 _ rfl) in_X8 cd_X8_valueAt.2 ⟨Nat.le_of_ble_eq_true rfl, Nat.le_of_ble_eq_true rfl⟩) st_X8_valueAt hK hN hP hD hS hA rfl rfl hl.1 rfl (lv_room (Nat.le_of_ble_eq_true rfl)) dX3_property_59 ⟨Nat.le_of_ble_eq_true rfl, Nat.le_of_ble_eq_true rfl⟩) hP hD hS hA rfl rfl rfl (fun H locs hP hD hS => ?_)
        have hE := Option.some.inj hE
        exact ei hx hb hr hlocks hK hP hD hS hE rfl dX3_property_62
      · replace hE := it_f hE c_3_2
        by_cases c_3_3 : x2 = 3
        · replace hE := it_t hE c_3_3
          refine lv_tableIn (tgt := 63) hx hb dX3_property_1 (by rw [c_3_3]; decide) (by rw [c_3_3]; decide) (off := 62) (by rw [c_3_3]; decide) (by decide) ?_
          refine lv_aload_n hx hb dX3_property_63 rfl (lv_at hl 0 rfl) ?_
          refine va_get (D := D) (ci := 3) (v := .ref (aO 6)) (C := RX3) (T := TX3) (N := 10) hx hb hts iX3 hown hK hP 0 rfl rfl 5 (by decide) f21 (fun _ h9 => h9) rfl dX3_property_64 ?_
          refine lv_iload_n hx hb dX3_property_67 rfl (lv_at hl 1 rfl) ?_
          obtain ⟨r_6, hc_7, hE⟩ := bd1_el hE
          refine ki (X := (List.take 4 (W_O cy aO imO))) (Y := (List.drop 5 (W_O cy aO imO))) (ws1 := (W_O cy aO imO)) (rSN (X := (List.take 4 (W_O cy aO imO))) (Y := (List.drop 5 (W_O cy aO imO))) (As := [.ref (aO 6), .int x1]) (rest := []) hC (c_X8_valueAt l D cy (aO 6) x1 (200) (imO 5) r_6 hc_7) (va_cnB 2 hts gX3_property_X8_valueAt_n51 rfl rfl rfl (hN.1 5 _ rfl) in_X8 cd_X8_valueAt.2 ⟨Nat.le_of_ble_eq_true rfl, Nat.le_of_ble_eq_true rfl⟩) st_X8_valueAt hK hN hP hD hS hA rfl rfl hl.1 rfl (lv_room (Nat.le_of_ble_eq_true rfl)) dX3_property_68 ⟨Nat.le_of_ble_eq_true rfl, Nat.le_of_ble_eq_true rfl⟩) hP hD hS hA rfl rfl rfl (fun H locs hP hD hS => ?_)
          have hE := Option.some.inj hE
          exact ei hx hb hr hlocks hK hP hD hS hE rfl dX3_property_71
        · replace hE := it_f hE c_3_3
          by_cases c_3_4 : x2 = 4
          · replace hE := it_t hE c_3_4
            refine lv_tableIn (tgt := 72) hx hb dX3_property_1 (by rw [c_3_4]; decide) (by rw [c_3_4]; decide) (off := 71) (by rw [c_3_4]; decide) (by decide) ?_
            refine lv_aload_n hx hb dX3_property_72 rfl (lv_at hl 0 rfl) ?_
            refine va_get (D := D) (ci := 3) (v := .ref (aO 7)) (C := RX3) (T := TX3) (N := 10) hx hb hts iX3 hown hK hP 0 rfl rfl 6 (by decide) f24 (fun _ h9 => h9) rfl dX3_property_73 ?_
            refine lv_iload_n hx hb dX3_property_76 rfl (lv_at hl 1 rfl) ?_
            obtain ⟨r_4, hc_5, hE⟩ := bd1_el hE
            refine ki (X := (List.take 5 (W_O cy aO imO))) (Y := (List.drop 6 (W_O cy aO imO))) (ws1 := (W_O cy aO imO)) (rSN (X := (List.take 5 (W_O cy aO imO))) (Y := (List.drop 6 (W_O cy aO imO))) (As := [.ref (aO 7), .int x1]) (rest := []) hC (c_X8_valueAt l D cy (aO 7) x1 (200) (imO 6) r_4 hc_5) (va_cnB 2 hts gX3_property_X8_valueAt_n51 rfl rfl rfl (hN.1 5 _ rfl) in_X8 cd_X8_valueAt.2 ⟨Nat.le_of_ble_eq_true rfl, Nat.le_of_ble_eq_true rfl⟩) st_X8_valueAt hK hN hP hD hS hA rfl rfl hl.1 rfl (lv_room (Nat.le_of_ble_eq_true rfl)) dX3_property_77 ⟨Nat.le_of_ble_eq_true rfl, Nat.le_of_ble_eq_true rfl⟩) hP hD hS hA rfl rfl rfl (fun H locs hP hD hS => ?_)
            have hE := Option.some.inj hE
            exact ei hx hb hr hlocks hK hP hD hS hE rfl dX3_property_80
          · replace hE := it_f hE c_3_4
            refine lv_tableOut (tgt := 81) hx hb dX3_property_1 (sw_out (lo := 0) (hi := 4) (fun z h1 h2 => ?_)) (by decide) ?_
            · rcases (show z = 0 ∨ z = 1 ∨ z = 2 ∨ z = 3 ∨ z = 4 by omega) with rfl | rfl | rfl | rfl | rfl
              · exact fun q9 => c_3_0 (q9.trans (by decide))
              · exact fun q9 => c_3_1 (q9.trans (by decide))
              · exact fun q9 => c_3_2 (q9.trans (by decide))
              · exact fun q9 => c_3_3 (q9.trans (by decide))
              · exact fun q9 => c_3_4 (q9.trans (by decide))
            · refine lv_aload_n hx hb dX3_property_81 rfl (lv_at hl 0 rfl) ?_
              refine va_get (D := D) (ci := 3) (v := .ref (aO 8)) (C := RX3) (T := TX3) (N := 10) hx hb hts iX3 hown hK hP 0 rfl rfl 7 (by decide) f27 (fun _ h9 => h9) rfl dX3_property_82 ?_
              refine lv_iload_n hx hb dX3_property_85 rfl (lv_at hl 1 rfl) ?_
              obtain ⟨r_1, hc_2, hE⟩ := bd1_el hE
              refine ki (X := (List.take 6 (W_O cy aO imO))) (Y := (List.drop 7 (W_O cy aO imO))) (ws1 := (W_O cy aO imO)) (rSN (X := (List.take 6 (W_O cy aO imO))) (Y := (List.drop 7 (W_O cy aO imO))) (As := [.ref (aO 8), .int x1]) (rest := []) hC (c_X8_valueAt l D cy (aO 8) x1 (200) (imO 7) r_1 hc_2) (va_cnB 2 hts gX3_property_X8_valueAt_n51 rfl rfl rfl (hN.1 5 _ rfl) in_X8 cd_X8_valueAt.2 ⟨Nat.le_of_ble_eq_true rfl, Nat.le_of_ble_eq_true rfl⟩) st_X8_valueAt hK hN hP hD hS hA rfl rfl hl.1 rfl (lv_room (Nat.le_of_ble_eq_true rfl)) dX3_property_86 ⟨Nat.le_of_ble_eq_true rfl, Nat.le_of_ble_eq_true rfl⟩) hP hD hS hA rfl rfl rfl (fun H locs hP hD hS => ?_)
              have hE := Option.some.inj hE
              exact ei hx hb hr hlocks hK hP hD hS hE rfl dX3_property_89
