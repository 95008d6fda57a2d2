abbrev rm_X9_doPass : Room := { frames := 6, cells := 0, slots := 0, locals := 146 }
set_option maxHeartbeats 40000000 in
set_option maxRecDepth 100000 in
theorem c_X9_doPass (l : Launch) (D : va_G) (cy : Nat → Nat) (aM : Nat → Nat) (x1 : Int32) (imM : Mem) (inM : MemL) (r' : Int32) (mM' : Mem) (nM' : MemL) (hE : f_X9_doPass x1 imM inM = some (r', mM', nM')) : CI l yX9_doPass wsX9_doPass rm_X9_doPass D cy [.ref (aM 0), .int x1] (W_M cy aM imM inM) 0 0 r' (W_M cy aM mM' nM') := by
  refine CQ_of (cc := cX9_doPass) (maxL := 5) (ret := (some .int)) (by decide) rfl (Nat.le_of_ble_eq_true rfl) (fun p e s m args below meth c A ls hx hb hr hml hlocks hnm hown hts hA hK hN hP hD hS hl => ?_)
  have hown : s.vm.findClass RX9 = some m.cls := hown
  have hl : lv_has ls 5 [(0, .ref (aM 0)), (1, .int x1)] := hl
  have hC : CallFix p m c cX9_doPass 5 s args wsX9_doPass RX9 := ⟨hx, hb, hml, hown, hts⟩
  have f7 : (Cond.fieldLink RX9 7 "IcePlantModel" "w" "[J").before args s = true := hts _ (mC qf_X9_7)
  have iX9 : ∀ w ∈ wsX90, w ∈ wsX9_doPass := fun w h => mC (iA_X9 w h)
  have h12 : ∀ (x1 : Int32) (x2 : Int64), ∀ (n : Nat), ∀ (x4 : Int32) (mM : Mem) (nM : MemL) (H : Heap) (locs : List Loc) (ls : Array Slot), f_X9_doPass_L12 x1 x2 n x4 mM nM = some (r', mM', nM') → va_P D vwCl (W_M cy aM mM nM) H → va_D A (W_M cy aM mM nM) → va_S A s.heap H locs → lv_has ls 5 [(0, .ref (aM 0)), (1, .int x1), (2, .long x2), (4, .int x4)] → W p l e rm_X9_doPass s m args below meth c H locs 0 0 (MQ below (QI D cy r' (W_M cy aM mM' nM') A) args s 0 0 A) (F0 m 12 ls []) := by
    intro x1 x2 n
    induction n with
    | zero => intro x4 mM nM H locs ls hE; exact absurd hE (fun h9 => nomatch h9)
    | succ n ih =>
      intro x4 mM nM H locs ls hE hP hD hS hl
      replace hE : ((if x1 ≤ x4 then some ((((nM 0 (1877 : Int32).toNatClampNeg) - x2).toInt32), mM, nM) else bd2 (f_X9_hour mM nM) fun mM_2 nM_3 => lt' (x4 + (1 : Int32)) fun x4_5 => (f_X9_doPass_L12 x1 x2 n) x4_5 mM_2 nM_3)) = some (r', mM', nM') := hE
      refine lv_iload hx hb dX9_doPass_12 (lv_at hl 3 rfl) ?_
      refine lv_iload_n hx hb dX9_doPass_14 rfl (lv_at hl 1 rfl) ?_
      refine lv_icmp_ge (tgt := 28) hx hb dX9_doPass_15 (by decide) (fun c_1 => ?_) (fun c_1 => ?_)
      · replace hE := it_t hE c_1
        refine lv_aload_n hx hb dX9_doPass_28 rfl (lv_at hl 0 rfl) ?_
        refine va_get (D := D) (ci := 9) (v := .ref (aM 1)) (C := RX9) (T := TX9) (N := 13) hx hb hts iX9 hown hK hP 0 rfl rfl 0 (by decide) f7 (fun _ h9 => h9) rfl dX9_doPass_29 ?_
        refine lv_sipush (v := 1877) hx hb dX9_doPass_32 (by decide) ?_
        refine va_lald hx hb hK hP 1 1 rfl rfl (show ¬ ((1877 : Int32) < 0 ∨ 1888 ≤ (1877 : Int32).toNatClampNeg) by decide) dX9_doPass_35 ?_
        refine lv_lload_n hx hb dX9_doPass_36 rfl (lv_at hl 2 rfl) ?_
        refine lv_lsub hx hb dX9_doPass_37 ?_
        refine lv_l2i hx hb dX9_doPass_38 rfl ?_
        have hE := Option.some.inj hE
        obtain ⟨q0, hE⟩ := Prod.mk.inj hE
        obtain ⟨q1, q2⟩ := Prod.mk.inj hE
        exact ei hx hb hr hlocks hK hP hD hS q0 (by rw [q1, q2]) dX9_doPass_39
      · replace hE := it_f hE c_1
        refine lv_aload_n hx hb dX9_doPass_18 rfl (lv_at hl 0 rfl) ?_
        obtain ⟨mM_2, nM_3, hc_4, hE⟩ := bd2_el hE
        refine kv (X := []) (Y := []) (ws1 := (W_M cy aM mM_2 nM_3)) (rV (X := []) (Y := []) (As := []) (rest := []) hC (c_X9_hour l D cy aM mM nM mM_2 nM_3 hc_4) (cwV 0 hts gX9_doPass_X9_hour rfl rfl rfl cd_X9_hour ⟨Nat.le_of_ble_eq_true rfl, Nat.le_of_ble_eq_true rfl⟩) hK hN hP hD hS hA rfl 0 9 rfl rfl rfl hl.1 rfl (lv_room (Nat.le_of_ble_eq_true rfl)) dX9_doPass_19 ⟨Nat.le_of_ble_eq_true rfl, Nat.le_of_ble_eq_true rfl⟩) hP hD hS hA rfl rfl rfl (fun H locs hP hD hS => ?_)
        obtain ⟨x4_5, e_x4_5, hE⟩ := lt_el hE
        refine lv_iinc (v := x4_5) (lv' := [(4, .int x4_5), (0, .ref (aM 0)), (1, .int x1), (2, .long x2)]) hx hb dX9_doPass_22 hl (k := 3) rfl (by rw [e_x4_5]; rfl) (by decide) rfl (fun ls hl => ?_)
        refine lv_goto (tgt := 12) hx hb dX9_doPass_25 (by decide) ?_
        exact ih x4_5 mM_2 nM_3 _ _ _ hE hP hD hS (lv_sub hl [1, 2, 3, 0] rfl)
  unfold f_X9_doPass at hE
  refine lv_aload_n hx hb dX9_doPass_0 rfl (lv_at hl 0 rfl) ?_
  refine va_get (D := D) (ci := 9) (v := .ref (aM 1)) (C := RX9) (T := TX9) (N := 13) hx hb hts iX9 hown hK hP 0 rfl rfl 0 (by decide) f7 (fun _ h9 => h9) rfl dX9_doPass_1 ?_
  refine lv_sipush (v := 1877) hx hb dX9_doPass_4 (by decide) ?_
  refine va_lald hx hb hK hP 1 1 rfl rfl (show ¬ ((1877 : Int32) < 0 ∨ 1888 ≤ (1877 : Int32).toNatClampNeg) by decide) dX9_doPass_7 ?_
  obtain ⟨x2_6, e_x2_6, hE⟩ := lt_el hE
  refine s_nmL e_x2_6 ?_
  refine lv_lstore_n (lv' := [(2, .long x2_6), (0, .ref (aM 0)), (1, .int x1)]) hx hb dX9_doPass_8 rfl hl (by decide) rfl (fun ls hl => ?_)
  refine lv_iconst (v := 0) hx hb dX9_doPass_9 (by decide) ?_
  refine lv_istore (lv' := [(4, .int (0 : Int32)), (2, .long x2_6), (0, .ref (aM 0)), (1, .int x1)]) hx hb dX9_doPass_10 hl (by decide) rfl (fun ls hl => ?_)
  exact h12 x1 x2_6 fuel (0 : Int32) imM inM _ _ _ hE hP hD hS (lv_sub hl [2, 3, 1, 0] rfl)
abbrev rm_X9_pass : Room := { frames := 7, cells := 0, slots := 0, locals := 170 }
set_option maxHeartbeats 40000000 in
set_option maxRecDepth 100000 in
theorem c_X9_pass (l : Launch) (D : va_G) (cy : Nat → Nat) (aM : Nat → Nat) (x1 : Int32) (imM : Mem) (inM : MemL) (r' : Int32) (mM' : Mem) (nM' : MemL) (hE : f_X9_pass x1 imM inM = some (r', mM', nM')) : CI l yX9_pass wsX9_pass rm_X9_pass D cy [.ref (aM 0), .int x1] (W_M cy aM imM inM) 0 0 r' (W_M cy aM mM' nM') := by
  refine CQ_of (cc := cX9_pass) (maxL := 3) (ret := (some .int)) (by decide) rfl (Nat.le_of_ble_eq_true rfl) (fun p e s m args below meth c A ls hx hb hr hml hlocks hnm hown hts hA hK hN hP hD hS hl => ?_)
  have hown : s.vm.findClass RX9 = some m.cls := hown
  have hl : lv_has ls 3 [(0, .ref (aM 0)), (1, .int x1)] := hl
  have hC : CallFix p m c cX9_pass 3 s args wsX9_pass RX9 := ⟨hx, hb, hml, hown, hts⟩
  have f43 : (Cond.fieldLink RX9 43 "IcePlantModel" "thrown" "I").before args s = true := hts _ (mC qf_X9_43)
  have iX9 : ∀ w ∈ wsX90, w ∈ wsX9_pass := fun w h => mC (iA_X9 w h)
  unfold f_X9_pass at hE
  refine lv_aload_n hx hb dX9_pass_0 rfl (lv_at hl 0 rfl) ?_
  refine lv_iconst (v := 0) hx hb dX9_pass_1 (by decide) ?_
  obtain ⟨mM_1, e_mM_1, hE⟩ := lt_el hE
  refine s_pf (own := RX9) (C := RX9) (T := TX9) (N := 13) (ci := 9) (ws1 := (W_M cy aM mM_1 inM)) hx hb hts iX9 tyX9 tyX9_ok nmX9 hown hK hP hD hS 0 rfl rfl 8 (by decide) f43 rfl rfl rfl rfl (Nat.le_of_ble_eq_true rfl) (by rw [e_mM_1]; rfl) dX9_pass_2 (fun H locs hP hD hS => ?_)
  refine lv_aload_n hx hb dX9_pass_5 rfl (lv_at hl 0 rfl) ?_
  refine lv_iload_n hx hb dX9_pass_6 rfl (lv_at hl 1 rfl) ?_
  obtain ⟨r_2, hc_3, hE⟩ := bd1_el hE
  refine ki (X := []) (Y := []) (ws1 := (W_M cy aM mM_1 inM)) (rV (X := []) (Y := []) (As := [.int x1]) (rest := []) hC (c_X9_passThrows l D cy aM x1 mM_1 inM r_2 hc_3) (cwV 1 hts gX9_pass_X9_passThrows rfl rfl rfl cd_X9_passThrows ⟨Nat.le_of_ble_eq_true rfl, Nat.le_of_ble_eq_true rfl⟩) hK hN hP hD hS hA rfl 0 9 rfl rfl rfl hl.1 rfl (lv_room (Nat.le_of_ble_eq_true rfl)) dX9_pass_7 ⟨Nat.le_of_ble_eq_true rfl, Nat.le_of_ble_eq_true rfl⟩) hP hD hS hA rfl rfl rfl (fun H locs hP hD hS => ?_)
  refine lv_istore_n (lv' := [(2, .int r_2), (0, .ref (aM 0)), (1, .int x1)]) hx hb dX9_pass_10 rfl hl (by decide) rfl (fun ls hl => ?_)
  refine lv_iload_n hx hb dX9_pass_11 rfl (lv_at hl 0 rfl) ?_
  refine lv_if_le (tgt := 21) hx hb dX9_pass_12 (by decide) (fun c_4 => ?_) (fun c_4 => ?_)
  · replace hE := it_t hE c_4
    refine lv_aload_n hx hb dX9_pass_21 rfl (lv_at hl 1 rfl) ?_
    obtain ⟨mM_5, nM_6, hc_7, hE⟩ := bd2_el hE
    refine kv (X := []) (Y := []) (ws1 := (W_M cy aM mM_5 nM_6)) (rV (X := []) (Y := []) (As := []) (rest := []) hC (c_X9_save l D cy aM mM_1 inM mM_5 nM_6 hc_7) (cwV 0 hts gX9_pass_X9_save rfl rfl rfl cd_X9_save ⟨Nat.le_of_ble_eq_true rfl, Nat.le_of_ble_eq_true rfl⟩) hK hN hP hD hS hA rfl 0 9 rfl rfl rfl hl.1 rfl (lv_room (Nat.le_of_ble_eq_true rfl)) dX9_pass_22 ⟨Nat.le_of_ble_eq_true rfl, Nat.le_of_ble_eq_true rfl⟩) hP hD hS hA rfl rfl rfl (fun H locs hP hD hS => ?_)
    refine lv_aload_n hx hb dX9_pass_25 rfl (lv_at hl 1 rfl) ?_
    refine lv_iload_n hx hb dX9_pass_26 rfl (lv_at hl 2 rfl) ?_
    obtain ⟨r_8, mM_9, nM_10, hc_11, hE⟩ := bd3_el hE
    refine ki (X := []) (Y := []) (ws1 := (W_M cy aM mM_9 nM_10)) (rV (X := []) (Y := []) (As := [.int x1]) (rest := []) hC (c_X9_doPass l D cy aM x1 mM_5 nM_6 r_8 mM_9 nM_10 hc_11) (cwV 1 hts gX9_pass_X9_doPass rfl rfl rfl cd_X9_doPass ⟨Nat.le_of_ble_eq_true rfl, Nat.le_of_ble_eq_true rfl⟩) hK hN hP hD hS hA rfl 0 9 rfl rfl rfl hl.1 rfl (lv_room (Nat.le_of_ble_eq_true rfl)) dX9_pass_27 ⟨Nat.le_of_ble_eq_true rfl, Nat.le_of_ble_eq_true rfl⟩) hP hD hS hA rfl rfl rfl (fun H locs hP hD hS => ?_)
    have hE := Option.some.inj hE
    obtain ⟨q0, hE⟩ := Prod.mk.inj hE
    obtain ⟨q1, q2⟩ := Prod.mk.inj hE
    exact ei hx hb hr hlocks hK hP hD hS q0 (by rw [q1, q2]) dX9_pass_30
  · replace hE := it_f hE c_4
    refine lv_aload_n hx hb dX9_pass_15 rfl (lv_at hl 1 rfl) ?_
    refine lv_iload_n hx hb dX9_pass_16 rfl (lv_at hl 0 rfl) ?_
    obtain ⟨r_12, mM_13, hc_14, hE⟩ := bd2_el hE
    refine ki (X := []) (Y := []) (ws1 := (W_M cy aM mM_13 inM)) (rV (X := []) (Y := []) (As := [.int r_2]) (rest := []) hC (c_X9_refuse l D cy aM r_2 mM_1 inM r_12 mM_13 hc_14) (cwV 1 hts gX9_pass_X9_refuse rfl rfl rfl cd_X9_refuse ⟨Nat.le_of_ble_eq_true rfl, Nat.le_of_ble_eq_true rfl⟩) hK hN hP hD hS hA rfl 0 9 rfl rfl rfl hl.1 rfl (lv_room (Nat.le_of_ble_eq_true rfl)) dX9_pass_17 ⟨Nat.le_of_ble_eq_true rfl, Nat.le_of_ble_eq_true rfl⟩) hP hD hS hA rfl rfl rfl (fun H locs hP hD hS => ?_)
    have hE := Option.some.inj hE
    obtain ⟨q0, hE⟩ := Prod.mk.inj hE
    obtain ⟨q1, q2⟩ := Prod.mk.inj hE
    exact ei hx hb hr hlocks hK hP hD hS q0 (by rw [q1, q2]) dX9_pass_20
abbrev rm_X9_addBoat : Room := { frames := 1, cells := 0, slots := 0, locals := 25 }
set_option maxHeartbeats 40000000 in
set_option maxRecDepth 100000 in
theorem c_X9_addBoat (l : Launch) (D : va_G) (cy : Nat → Nat) (aM : Nat → Nat) (x1 : Int32) (imM : Mem) (inM : MemL) (r' : Int32) (mM' : Mem) (nM' : MemL) (hE : f_X9_addBoat x1 imM inM = some (r', mM', nM')) : CI l yX9_addBoat wsX9_addBoat rm_X9_addBoat D cy [.ref (aM 0), .int x1] (W_M cy aM imM inM) 0 0 r' (W_M cy aM mM' nM') := by
  refine CQ_of (cc := cX9_addBoat) (maxL := 2) (ret := (some .int)) (by decide) rfl (Nat.le_of_ble_eq_true rfl) (fun p e s m args below meth c A ls hx hb hr hml hlocks hnm hown hts hA hK hN hP hD hS hl => ?_)
  have hown : s.vm.findClass RX9 = some m.cls := hown
  have hl : lv_has ls 2 [(0, .ref (aM 0)), (1, .int x1)] := hl
  have hC : CallFix p m c cX9_addBoat 2 s args wsX9_addBoat RX9 := ⟨hx, hb, hml, hown, hts⟩
  have f7 : (Cond.fieldLink RX9 7 "IcePlantModel" "w" "[J").before args s = true := hts _ (mC qf_X9_7)
  have f43 : (Cond.fieldLink RX9 43 "IcePlantModel" "thrown" "I").before args s = true := hts _ (mC qf_X9_43)
  have iX9 : ∀ w ∈ wsX90, w ∈ wsX9_addBoat := fun w h => mC (iA_X9 w h)
  have k194 : (Cond.constantLong RX9 194 (1000000)).before args s = true := hts _ (mC qk_X9_194)
  have k196 : (Cond.constantLong RX9 196 (8)).before args s = true := hts _ (mC qk_X9_196)
  unfold f_X9_addBoat at hE
  refine lv_aload_n hx hb dX9_addBoat_0 rfl (lv_at hl 0 rfl) ?_
  refine lv_iconst (v := 0) hx hb dX9_addBoat_1 (by decide) ?_
  obtain ⟨mM_1, e_mM_1, hE⟩ := lt_el hE
  refine s_pf (own := RX9) (C := RX9) (T := TX9) (N := 13) (ci := 9) (ws1 := (W_M cy aM mM_1 inM)) hx hb hts iX9 tyX9 tyX9_ok nmX9 hown hK hP hD hS 0 rfl rfl 8 (by decide) f43 rfl rfl rfl rfl (Nat.le_of_ble_eq_true rfl) (by rw [e_mM_1]; rfl) dX9_addBoat_2 (fun H locs hP hD hS => ?_)
  refine lv_iload_n hx hb dX9_addBoat_5 rfl (lv_at hl 1 rfl) ?_
  refine lv_i2l hx hb dX9_addBoat_6 rfl ?_
  refine lv_lconst (v := 0) hx hb dX9_addBoat_7 (by decide) ?_
  refine lv_ldc2 hx hb hown k194 dX9_addBoat_8 ?_
  obtain ⟨r_2, hc_3, hE⟩ := bd1_el hE
  refine ki (X := []) (Y := (W_M cy aM mM_1 inM)) (ws1 := (W_M cy aM mM_1 inM)) (rS (X := []) (Y := (W_M cy aM mM_1 inM)) (As := [.long (x1.toInt64), .long (0 : Int64), .long (1000000 : Int64)]) (rest := []) hC (c_X9_in l D cy (x1.toInt64) (0 : Int64) (1000000 : Int64) r_2 hc_3) (cwS 3 hts gX9_addBoat_X9_in rfl rfl rfl cd_X9_in ⟨Nat.le_of_ble_eq_true rfl, Nat.le_of_ble_eq_true rfl⟩) hK hN hP hD hS hA rfl rfl hl.1 rfl (lv_room (Nat.le_of_ble_eq_true rfl)) dX9_addBoat_11 ⟨Nat.le_of_ble_eq_true rfl, Nat.le_of_ble_eq_true rfl⟩) hP hD hS hA rfl rfl rfl (fun H locs hP hD hS => ?_)
  refine lv_if_ne (tgt := 23) hx hb dX9_addBoat_14 (by decide) (fun c_4 => ?_) (fun c_4 => ?_)
  · replace hE := it_f hE c_4
    refine lv_aload_n hx hb dX9_addBoat_23 rfl (lv_at hl 0 rfl) ?_
    refine va_get (D := D) (ci := 9) (v := .ref (aM 1)) (C := RX9) (T := TX9) (N := 13) hx hb hts iX9 hown hK hP 0 rfl rfl 0 (by decide) f7 (fun _ h9 => h9) rfl dX9_addBoat_24 ?_
    refine lv_sipush (v := 1881) hx hb dX9_addBoat_27 (by decide) ?_
    refine va_lald hx hb hK hP 1 1 rfl rfl (show ¬ ((1881 : Int32) < 0 ∨ 1888 ≤ (1881 : Int32).toNatClampNeg) by decide) dX9_addBoat_30 ?_
    refine lv_ldc2 hx hb hown k196 dX9_addBoat_31 ?_
    refine W.lcmp hx hb dX9_addBoat_34 ?_
    refine lv_if_ne (tgt := 44) hx hb dX9_addBoat_35 (by decide) (fun c_5 => ?_) (fun c_5 => ?_)
    · replace hE := it_f hE c_5
      refine lv_aload_n hx hb dX9_addBoat_44 rfl (lv_at hl 0 rfl) ?_
      obtain ⟨mM_6, nM_7, hc_8, hE⟩ := bd2_el hE
      refine kv (X := []) (Y := []) (ws1 := (W_M cy aM mM_6 nM_7)) (rV (X := []) (Y := []) (As := []) (rest := []) hC (c_X9_save l D cy aM mM_1 inM mM_6 nM_7 hc_8) (cwV 0 hts gX9_addBoat_X9_save rfl rfl rfl cd_X9_save ⟨Nat.le_of_ble_eq_true rfl, Nat.le_of_ble_eq_true rfl⟩) hK hN hP hD hS hA rfl 0 9 rfl rfl rfl hl.1 rfl (lv_room (Nat.le_of_ble_eq_true rfl)) dX9_addBoat_45 ⟨Nat.le_of_ble_eq_true rfl, Nat.le_of_ble_eq_true rfl⟩) hP hD hS hA rfl rfl rfl (fun H locs hP hD hS => ?_)
      refine lv_aload_n hx hb dX9_addBoat_48 rfl (lv_at hl 0 rfl) ?_
      refine va_get (D := D) (ci := 9) (v := .ref (aM 1)) (C := RX9) (T := TX9) (N := 13) hx hb hts iX9 hown hK hP 0 rfl rfl 0 (by decide) f7 (fun _ h9 => h9) rfl dX9_addBoat_49 ?_
      refine lv_sipush (v := 507) hx hb dX9_addBoat_52 (by decide) ?_
      refine lv_aload_n hx hb dX9_addBoat_55 rfl (lv_at hl 0 rfl) ?_
      refine va_get (D := D) (ci := 9) (v := .ref (aM 1)) (C := RX9) (T := TX9) (N := 13) hx hb hts iX9 hown hK hP 0 rfl rfl 0 (by decide) f7 (fun _ h9 => h9) rfl dX9_addBoat_56 ?_
      refine lv_sipush (v := 1881) hx hb dX9_addBoat_59 (by decide) ?_
      refine va_lald hx hb hK hP 1 1 rfl rfl (show ¬ ((1881 : Int32) < 0 ∨ 1888 ≤ (1881 : Int32).toNatClampNeg) by decide) dX9_addBoat_62 ?_
      refine lv_l2i hx hb dX9_addBoat_63 rfl ?_
      refine lv_iadd hx hb dX9_addBoat_64 ?_
      refine lv_iload_n hx hb dX9_addBoat_65 rfl (lv_at hl 1 rfl) ?_
      refine lv_i2l hx hb dX9_addBoat_66 rfl ?_
      obtain ⟨g_10, hE⟩ := gi_el hE
      obtain ⟨nM_9, e_nM_9, hE⟩ := lt_el hE
      refine s_la (ws1 := (W_M cy aM mM_6 nM_9)) hx hb hK hP hD hS 1 rfl g_10 (by rw [e_nM_9]; rfl) dX9_addBoat_67 (fun H locs hP hD hS => ?_)
      refine lv_aload_n hx hb dX9_addBoat_68 rfl (lv_at hl 0 rfl) ?_
      refine va_get (D := D) (ci := 9) (v := .ref (aM 1)) (C := RX9) (T := TX9) (N := 13) hx hb hts iX9 hown hK hP 0 rfl rfl 0 (by decide) f7 (fun _ h9 => h9) rfl dX9_addBoat_69 ?_
      refine lv_sipush (v := 1881) hx hb dX9_addBoat_72 (by decide) ?_
      refine lv_dup2_11 hx hb dX9_addBoat_75 rfl rfl ?_
      refine va_lald hx hb hK hP 1 1 rfl rfl (show ¬ ((1881 : Int32) < 0 ∨ 1888 ≤ (1881 : Int32).toNatClampNeg) by decide) dX9_addBoat_76 ?_
      refine lv_lconst (v := 1) hx hb dX9_addBoat_77 (by decide) ?_
      refine lv_ladd hx hb dX9_addBoat_78 ?_
      obtain ⟨nM_11, e_nM_11, hE⟩ := lt_el hE
      refine s_la (ws1 := (W_M cy aM mM_6 nM_11)) hx hb hK hP hD hS 1 rfl (show ¬ ((1881 : Int32) < 0 ∨ 1888 ≤ (1881 : Int32).toNatClampNeg) by decide) (by rw [e_nM_11]; rfl) dX9_addBoat_79 (fun H locs hP hD hS => ?_)
      refine lv_aload_n hx hb dX9_addBoat_80 rfl (lv_at hl 0 rfl) ?_
      refine va_get (D := D) (ci := 9) (v := .ref (aM 1)) (C := RX9) (T := TX9) (N := 13) hx hb hts iX9 hown hK hP 0 rfl rfl 0 (by decide) f7 (fun _ h9 => h9) rfl dX9_addBoat_81 ?_
      refine lv_sipush (v := 1881) hx hb dX9_addBoat_84 (by decide) ?_
      refine va_lald hx hb hK hP 1 1 rfl rfl (show ¬ ((1881 : Int32) < 0 ∨ 1888 ≤ (1881 : Int32).toNatClampNeg) by decide) dX9_addBoat_87 ?_
      refine lv_l2i hx hb dX9_addBoat_88 rfl ?_
      refine lv_iconst (v := 1) hx hb dX9_addBoat_89 (by decide) ?_
      refine lv_isub hx hb dX9_addBoat_90 ?_
      have hE := Option.some.inj hE
      obtain ⟨q0, hE⟩ := Prod.mk.inj hE
      obtain ⟨q1, q2⟩ := Prod.mk.inj hE
      exact ei hx hb hr hlocks hK hP hD hS q0 (by rw [q1, q2]) dX9_addBoat_91
    · replace hE := it_t hE c_5
      refine lv_aload_n hx hb dX9_addBoat_38 rfl (lv_at hl 0 rfl) ?_
      refine lv_iconst (v := 2) hx hb dX9_addBoat_39 (by decide) ?_
      obtain ⟨r_12, mM_13, hc_14, hE⟩ := bd2_el hE
      refine ki (X := []) (Y := []) (ws1 := (W_M cy aM mM_13 inM)) (rV (X := []) (Y := []) (As := [.int (2 : Int32)]) (rest := []) hC (c_X9_refuse l D cy aM (2 : Int32) mM_1 inM r_12 mM_13 hc_14) (cwV 1 hts gX9_addBoat_X9_refuse rfl rfl rfl cd_X9_refuse ⟨Nat.le_of_ble_eq_true rfl, Nat.le_of_ble_eq_true rfl⟩) hK hN hP hD hS hA rfl 0 9 rfl rfl rfl hl.1 rfl (lv_room (Nat.le_of_ble_eq_true rfl)) dX9_addBoat_40 ⟨Nat.le_of_ble_eq_true rfl, Nat.le_of_ble_eq_true rfl⟩) hP hD hS hA rfl rfl rfl (fun H locs hP hD hS => ?_)
      have hE := Option.some.inj hE
      obtain ⟨q0, hE⟩ := Prod.mk.inj hE
      obtain ⟨q1, q2⟩ := Prod.mk.inj hE
      exact ei hx hb hr hlocks hK hP hD hS q0 (by rw [q1, q2]) dX9_addBoat_43
  · replace hE := it_t hE c_4
    refine lv_aload_n hx hb dX9_addBoat_17 rfl (lv_at hl 0 rfl) ?_
    refine lv_iconst (v := 1) hx hb dX9_addBoat_18 (by decide) ?_
    obtain ⟨r_15, mM_16, hc_17, hE⟩ := bd2_el hE
    refine ki (X := []) (Y := []) (ws1 := (W_M cy aM mM_16 inM)) (rV (X := []) (Y := []) (As := [.int (1 : Int32)]) (rest := []) hC (c_X9_refuse l D cy aM (1 : Int32) mM_1 inM r_15 mM_16 hc_17) (cwV 1 hts gX9_addBoat_X9_refuse rfl rfl rfl cd_X9_refuse ⟨Nat.le_of_ble_eq_true rfl, Nat.le_of_ble_eq_true rfl⟩) hK hN hP hD hS hA rfl 0 9 rfl rfl rfl hl.1 rfl (lv_room (Nat.le_of_ble_eq_true rfl)) dX9_addBoat_19 ⟨Nat.le_of_ble_eq_true rfl, Nat.le_of_ble_eq_true rfl⟩) hP hD hS hA rfl rfl rfl (fun H locs hP hD hS => ?_)
    have hE := Option.some.inj hE
    obtain ⟨q0, hE⟩ := Prod.mk.inj hE
    obtain ⟨q1, q2⟩ := Prod.mk.inj hE
    exact ei hx hb hr hlocks hK hP hD hS q0 (by rw [q1, q2]) dX9_addBoat_22
abbrev rm_X9_catchThrows : Room := { frames := 2, cells := 0, slots := 0, locals := 46 }
set_option maxHeartbeats 40000000 in
set_option maxRecDepth 100000 in
theorem c_X9_catchThrows (l : Launch) (D : va_G) (cy : Nat → Nat) (aM : Nat → Nat) (x1 : Int32) (x2 : Int32) (imM : Mem) (inM : MemL) (r' : Int32) (hE : f_X9_catchThrows x1 x2 imM inM = some r') : CI l yX9_catchThrows wsX9_catchThrows rm_X9_catchThrows D cy [.ref (aM 0), .int x1, .int x2] (W_M cy aM imM inM) 0 0 r' (W_M cy aM imM inM) := by
  refine CQ_of (cc := cX9_catchThrows) (maxL := 3) (ret := (some .int)) (by decide) rfl (Nat.le_of_ble_eq_true rfl) (fun p e s m args below meth c A ls hx hb hr hml hlocks hnm hown hts hA hK hN hP hD hS hl => ?_)
  have hown : s.vm.findClass RX9 = some m.cls := hown
  have hl : lv_has ls 3 [(0, .ref (aM 0)), (1, .int x1), (2, .int x2)] := hl
  have hC : CallFix p m c cX9_catchThrows 3 s args wsX9_catchThrows RX9 := ⟨hx, hb, hml, hown, hts⟩
  have k194 : (Cond.constantLong RX9 194 (1000000)).before args s = true := hts _ (mC qk_X9_194)
  unfold f_X9_catchThrows at hE
  refine lv_aload_n hx hb dX9_catchThrows_0 rfl (lv_at hl 0 rfl) ?_
  refine lv_iload_n hx hb dX9_catchThrows_1 rfl (lv_at hl 1 rfl) ?_
  obtain ⟨r_1, hc_2, hE⟩ := bd1_el hE
  refine ki (X := []) (Y := []) (ws1 := (W_M cy aM imM inM)) (rV (X := []) (Y := []) (As := [.int x1]) (rest := []) hC (c_X9_isBoat l D cy aM x1 imM inM r_1 hc_2) (cwV 1 hts gX9_catchThrows_X9_isBoat rfl rfl rfl cd_X9_isBoat ⟨Nat.le_of_ble_eq_true rfl, Nat.le_of_ble_eq_true rfl⟩) hK hN hP hD hS hA rfl 0 9 rfl rfl rfl hl.1 rfl (lv_room (Nat.le_of_ble_eq_true rfl)) dX9_catchThrows_2 ⟨Nat.le_of_ble_eq_true rfl, Nat.le_of_ble_eq_true rfl⟩) hP hD hS hA rfl rfl rfl (fun H locs hP hD hS => ?_)
  refine lv_if_ne (tgt := 12) hx hb dX9_catchThrows_5 (by decide) (fun c_3 => ?_) (fun c_3 => ?_)
  · replace hE := it_f hE c_3
    refine lv_iload_n hx hb dX9_catchThrows_12 rfl (lv_at hl 2 rfl) ?_
    refine lv_i2l hx hb dX9_catchThrows_13 rfl ?_
    refine lv_lconst (v := 0) hx hb dX9_catchThrows_14 (by decide) ?_
    refine lv_ldc2 hx hb hown k194 dX9_catchThrows_15 ?_
    obtain ⟨r_4, hc_5, hE⟩ := bd1_el hE
    refine ki (X := []) (Y := (W_M cy aM imM inM)) (ws1 := (W_M cy aM imM inM)) (rS (X := []) (Y := (W_M cy aM imM inM)) (As := [.long (x2.toInt64), .long (0 : Int64), .long (1000000 : Int64)]) (rest := []) hC (c_X9_in l D cy (x2.toInt64) (0 : Int64) (1000000 : Int64) r_4 hc_5) (cwS 3 hts gX9_catchThrows_X9_in rfl rfl rfl cd_X9_in ⟨Nat.le_of_ble_eq_true rfl, Nat.le_of_ble_eq_true rfl⟩) hK hN hP hD hS hA rfl rfl hl.1 rfl (lv_room (Nat.le_of_ble_eq_true rfl)) dX9_catchThrows_18 ⟨Nat.le_of_ble_eq_true rfl, Nat.le_of_ble_eq_true rfl⟩) hP hD hS hA rfl rfl rfl (fun H locs hP hD hS => ?_)
    refine lv_if_ne (tgt := 28) hx hb dX9_catchThrows_21 (by decide) (fun c_6 => ?_) (fun c_6 => ?_)
    · replace hE := it_f hE c_6
      refine lv_iconst (v := 0) hx hb dX9_catchThrows_28 (by decide) ?_
      have hE := Option.some.inj hE
      exact ei hx hb hr hlocks hK hP hD hS hE rfl dX9_catchThrows_29
    · replace hE := it_t hE c_6
      refine lv_iconst (v := 2) hx hb dX9_catchThrows_24 (by decide) ?_
      refine lv_goto (tgt := 29) hx hb dX9_catchThrows_25 (by decide) ?_
      have hE := Option.some.inj hE
      exact ei hx hb hr hlocks hK hP hD hS hE rfl dX9_catchThrows_29
  · replace hE := it_t hE c_3
    refine lv_iconst (v := 1) hx hb dX9_catchThrows_8 (by decide) ?_
    refine lv_goto (tgt := 29) hx hb dX9_catchThrows_9 (by decide) ?_
    have hE := Option.some.inj hE
    exact ei hx hb hr hlocks hK hP hD hS hE rfl dX9_catchThrows_29
abbrev rm_X9_setCatch : Room := { frames := 3, cells := 0, slots := 0, locals := 68 }
set_option maxHeartbeats 40000000 in
set_option maxRecDepth 100000 in
theorem c_X9_setCatch (l : Launch) (D : va_G) (cy : Nat → Nat) (aM : Nat → Nat) (x1 : Int32) (x2 : Int32) (imM : Mem) (inM : MemL) (r' : Int32) (mM' : Mem) (nM' : MemL) (hE : f_X9_setCatch x1 x2 imM inM = some (r', mM', nM')) : CI l yX9_setCatch wsX9_setCatch rm_X9_setCatch D cy [.ref (aM 0), .int x1, .int x2] (W_M cy aM imM inM) 0 0 r' (W_M cy aM mM' nM') := by
  refine CQ_of (cc := cX9_setCatch) (maxL := 4) (ret := (some .int)) (by decide) rfl (Nat.le_of_ble_eq_true rfl) (fun p e s m args below meth c A ls hx hb hr hml hlocks hnm hown hts hA hK hN hP hD hS hl => ?_)
  have hown : s.vm.findClass RX9 = some m.cls := hown
  have hl : lv_has ls 4 [(0, .ref (aM 0)), (1, .int x1), (2, .int x2)] := hl
  have hC : CallFix p m c cX9_setCatch 4 s args wsX9_setCatch RX9 := ⟨hx, hb, hml, hown, hts⟩
  have f43 : (Cond.fieldLink RX9 43 "IcePlantModel" "thrown" "I").before args s = true := hts _ (mC qf_X9_43)
  have iX9 : ∀ w ∈ wsX90, w ∈ wsX9_setCatch := fun w h => mC (iA_X9 w h)
  unfold f_X9_setCatch at hE
  refine lv_aload_n hx hb dX9_setCatch_0 rfl (lv_at hl 0 rfl) ?_
  refine lv_iconst (v := 0) hx hb dX9_setCatch_1 (by decide) ?_
  obtain ⟨mM_1, e_mM_1, hE⟩ := lt_el hE
  refine s_pf (own := RX9) (C := RX9) (T := TX9) (N := 13) (ci := 9) (ws1 := (W_M cy aM mM_1 inM)) hx hb hts iX9 tyX9 tyX9_ok nmX9 hown hK hP hD hS 0 rfl rfl 8 (by decide) f43 rfl rfl rfl rfl (Nat.le_of_ble_eq_true rfl) (by rw [e_mM_1]; rfl) dX9_setCatch_2 (fun H locs hP hD hS => ?_)
  refine lv_aload_n hx hb dX9_setCatch_5 rfl (lv_at hl 0 rfl) ?_
  refine lv_iload_n hx hb dX9_setCatch_6 rfl (lv_at hl 1 rfl) ?_
  refine lv_iload_n hx hb dX9_setCatch_7 rfl (lv_at hl 2 rfl) ?_
  obtain ⟨r_2, hc_3, hE⟩ := bd1_el hE
  refine ki (X := []) (Y := []) (ws1 := (W_M cy aM mM_1 inM)) (rV (X := []) (Y := []) (As := [.int x1, .int x2]) (rest := []) hC (c_X9_catchThrows l D cy aM x1 x2 mM_1 inM r_2 hc_3) (cwV 2 hts gX9_setCatch_X9_catchThrows rfl rfl rfl cd_X9_catchThrows ⟨Nat.le_of_ble_eq_true rfl, Nat.le_of_ble_eq_true rfl⟩) hK hN hP hD hS hA rfl 0 9 rfl rfl rfl hl.1 rfl (lv_room (Nat.le_of_ble_eq_true rfl)) dX9_setCatch_8 ⟨Nat.le_of_ble_eq_true rfl, Nat.le_of_ble_eq_true rfl⟩) hP hD hS hA rfl rfl rfl (fun H locs hP hD hS => ?_)
  refine lv_istore_n (lv' := [(3, .int r_2), (0, .ref (aM 0)), (1, .int x1), (2, .int x2)]) hx hb dX9_setCatch_11 rfl hl (by decide) rfl (fun ls hl => ?_)
  refine lv_iload_n hx hb dX9_setCatch_12 rfl (lv_at hl 0 rfl) ?_
  refine lv_if_le (tgt := 24) hx hb dX9_setCatch_13 (by decide) (fun c_4 => ?_) (fun c_4 => ?_)
  · replace hE := it_t hE c_4
    refine lv_aload_n hx hb dX9_setCatch_24 rfl (lv_at hl 1 rfl) ?_
    refine lv_sipush (v := 507) hx hb dX9_setCatch_25 (by decide) ?_
    refine lv_iload_n hx hb dX9_setCatch_28 rfl (lv_at hl 2 rfl) ?_
    refine lv_iadd hx hb dX9_setCatch_29 ?_
    refine lv_iload_n hx hb dX9_setCatch_30 rfl (lv_at hl 3 rfl) ?_
    obtain ⟨r_5, mM_6, nM_7, hc_8, hE⟩ := bd3_el hE
    refine ki (X := []) (Y := []) (ws1 := (W_M cy aM mM_6 nM_7)) (rV (X := []) (Y := []) (As := [.int ((507 : Int32) + x1), .int x2]) (rest := []) hC (c_X9_change l D cy aM ((507 : Int32) + x1) x2 mM_1 inM r_5 mM_6 nM_7 hc_8) (cwV 2 hts gX9_setCatch_X9_change rfl rfl rfl cd_X9_change ⟨Nat.le_of_ble_eq_true rfl, Nat.le_of_ble_eq_true rfl⟩) hK hN hP hD hS hA rfl 0 9 rfl rfl rfl hl.1 rfl (lv_room (Nat.le_of_ble_eq_true rfl)) dX9_setCatch_31 ⟨Nat.le_of_ble_eq_true rfl, Nat.le_of_ble_eq_true rfl⟩) hP hD hS hA rfl rfl rfl (fun H locs hP hD hS => ?_)
    have hE := Option.some.inj hE
    obtain ⟨q0, hE⟩ := Prod.mk.inj hE
    obtain ⟨q1, q2⟩ := Prod.mk.inj hE
    exact ei hx hb hr hlocks hK hP hD hS q0 (by rw [q1, q2]) dX9_setCatch_34
  · replace hE := it_f hE c_4
    refine lv_aload_n hx hb dX9_setCatch_16 rfl (lv_at hl 1 rfl) ?_
    refine lv_iload_n hx hb dX9_setCatch_17 rfl (lv_at hl 0 rfl) ?_
    obtain ⟨r_9, mM_10, hc_11, hE⟩ := bd2_el hE
    refine ki (X := []) (Y := []) (ws1 := (W_M cy aM mM_10 inM)) (rV (X := []) (Y := []) (As := [.int r_2]) (rest := []) hC (c_X9_refuse l D cy aM r_2 mM_1 inM r_9 mM_10 hc_11) (cwV 1 hts gX9_setCatch_X9_refuse rfl rfl rfl cd_X9_refuse ⟨Nat.le_of_ble_eq_true rfl, Nat.le_of_ble_eq_true rfl⟩) hK hN hP hD hS hA rfl 0 9 rfl rfl rfl hl.1 rfl (lv_room (Nat.le_of_ble_eq_true rfl)) dX9_setCatch_18 ⟨Nat.le_of_ble_eq_true rfl, Nat.le_of_ble_eq_true rfl⟩) hP hD hS hA rfl rfl rfl (fun H locs hP hD hS => ?_)
    refine lv_goto (tgt := 34) hx hb dX9_setCatch_21 (by decide) ?_
    have hE := Option.some.inj hE
    obtain ⟨q0, hE⟩ := Prod.mk.inj hE
    obtain ⟨q1, q2⟩ := Prod.mk.inj hE
    exact ei hx hb hr hlocks hK hP hD hS q0 (by rw [q1, q2]) dX9_setCatch_34
abbrev rm_X9_orderThrows : Room := { frames := 2, cells := 0, slots := 0, locals := 46 }
set_option maxHeartbeats 40000000 in
set_option maxRecDepth 100000 in
theorem c_X9_orderThrows (l : Launch) (D : va_G) (cy : Nat → Nat) (aM : Nat → Nat) (x1 : Int32) (x2 : Int32) (x3 : Int32) (imM : Mem) (inM : MemL) (r' : Int32) (hE : f_X9_orderThrows x1 x2 x3 imM inM = some r') : CI l yX9_orderThrows wsX9_orderThrows rm_X9_orderThrows D cy [.ref (aM 0), .int x1, .int x2, .int x3] (W_M cy aM imM inM) 0 0 r' (W_M cy aM imM inM) := by
  refine CQ_of (cc := cX9_orderThrows) (maxL := 4) (ret := (some .int)) (by decide) rfl (Nat.le_of_ble_eq_true rfl) (fun p e s m args below meth c A ls hx hb hr hml hlocks hnm hown hts hA hK hN hP hD hS hl => ?_)
  have hown : s.vm.findClass RX9 = some m.cls := hown
  have hl : lv_has ls 4 [(0, .ref (aM 0)), (1, .int x1), (2, .int x2), (3, .int x3)] := hl
  have hC : CallFix p m c cX9_orderThrows 4 s args wsX9_orderThrows RX9 := ⟨hx, hb, hml, hown, hts⟩
  have f7 : (Cond.fieldLink RX9 7 "IcePlantModel" "w" "[J").before args s = true := hts _ (mC qf_X9_7)
  have iX9 : ∀ w ∈ wsX90, w ∈ wsX9_orderThrows := fun w h => mC (iA_X9 w h)
  have k204 : (Cond.constantLong RX9 204 (9999)).before args s = true := hts _ (mC qk_X9_204)
  have k206 : (Cond.constantLong RX9 206 (200)).before args s = true := hts _ (mC qk_X9_206)
  have h60 : ∀  (H : Heap) (locs : List Loc) (ls : Array Slot), f_X9_orderThrows_b60 imM inM = some r' → va_P D vwCl (W_M cy aM imM inM) H → va_D A (W_M cy aM imM inM) → va_S A s.heap H locs → lv_has ls 4 [] → W p l e rm_X9_orderThrows s m args below meth c H locs 0 0 (MQ below (QI D cy r' (W_M cy aM imM inM) A) args s 0 0 A) (F0 m 60 ls []) := by
    intro  H locs ls hE hP hD hS hl
    replace hE : (some (3 : Int32)) = some r' := hE
    refine lv_iconst (v := 3) hx hb dX9_orderThrows_60 (by decide) ?_
    refine lv_goto (tgt := 65) hx hb dX9_orderThrows_61 (by decide) ?_
    have hE := Option.some.inj hE
    exact ei hx hb hr hlocks hK hP hD hS hE rfl dX9_orderThrows_65
  unfold f_X9_orderThrows at hE
  refine lv_aload_n hx hb dX9_orderThrows_0 rfl (lv_at hl 0 rfl) ?_
  refine lv_iload_n hx hb dX9_orderThrows_1 rfl (lv_at hl 1 rfl) ?_
  obtain ⟨r_1, hc_2, hE⟩ := bd1_el hE
  refine ki (X := []) (Y := []) (ws1 := (W_M cy aM imM inM)) (rV (X := []) (Y := []) (As := [.int x1]) (rest := []) hC (c_X9_isBoat l D cy aM x1 imM inM r_1 hc_2) (cwV 1 hts gX9_orderThrows_X9_isBoat rfl rfl rfl cd_X9_isBoat ⟨Nat.le_of_ble_eq_true rfl, Nat.le_of_ble_eq_true rfl⟩) hK hN hP hD hS hA rfl 0 9 rfl rfl rfl hl.1 rfl (lv_room (Nat.le_of_ble_eq_true rfl)) dX9_orderThrows_2 ⟨Nat.le_of_ble_eq_true rfl, Nat.le_of_ble_eq_true rfl⟩) hP hD hS hA rfl rfl rfl (fun H locs hP hD hS => ?_)
  refine lv_if_ne (tgt := 10) hx hb dX9_orderThrows_5 (by decide) (fun c_3 => ?_) (fun c_3 => ?_)
  · replace hE := it_f hE c_3
    refine lv_iload_n hx hb dX9_orderThrows_10 rfl (lv_at hl 2 rfl) ?_
    refine lv_i2l hx hb dX9_orderThrows_11 rfl ?_
    refine lv_lconst (v := 1) hx hb dX9_orderThrows_12 (by decide) ?_
    refine lv_ldc2 hx hb hown k204 dX9_orderThrows_13 ?_
    obtain ⟨r_4, hc_5, hE⟩ := bd1_el hE
    refine ki (X := []) (Y := (W_M cy aM imM inM)) (ws1 := (W_M cy aM imM inM)) (rS (X := []) (Y := (W_M cy aM imM inM)) (As := [.long (x2.toInt64), .long (1 : Int64), .long (9999 : Int64)]) (rest := []) hC (c_X9_in l D cy (x2.toInt64) (1 : Int64) (9999 : Int64) r_4 hc_5) (cwS 3 hts gX9_orderThrows_X9_in rfl rfl rfl cd_X9_in ⟨Nat.le_of_ble_eq_true rfl, Nat.le_of_ble_eq_true rfl⟩) hK hN hP hD hS hA rfl rfl hl.1 rfl (lv_room (Nat.le_of_ble_eq_true rfl)) dX9_orderThrows_16 ⟨Nat.le_of_ble_eq_true rfl, Nat.le_of_ble_eq_true rfl⟩) hP hD hS hA rfl rfl rfl (fun H locs hP hD hS => ?_)
    refine lv_if_eq (tgt := 34) hx hb dX9_orderThrows_19 (by decide) (fun c_6 => ?_) (fun c_6 => ?_)
    · replace hE := it_t hE c_6
      refine lv_iconst (v := 2) hx hb dX9_orderThrows_34 (by decide) ?_
      have hE := Option.some.inj hE
      exact ei hx hb hr hlocks hK hP hD hS hE rfl dX9_orderThrows_35
    · replace hE := it_f hE c_6
      refine lv_iload_n hx hb dX9_orderThrows_22 rfl (lv_at hl 3 rfl) ?_
      refine lv_i2l hx hb dX9_orderThrows_23 rfl ?_
      refine lv_lconst (v := 1) hx hb dX9_orderThrows_24 (by decide) ?_
      refine lv_ldc2 hx hb hown k206 dX9_orderThrows_25 ?_
      obtain ⟨r_7, hc_8, hE⟩ := bd1_el hE
      refine ki (X := []) (Y := (W_M cy aM imM inM)) (ws1 := (W_M cy aM imM inM)) (rS (X := []) (Y := (W_M cy aM imM inM)) (As := [.long (x3.toInt64), .long (1 : Int64), .long (200 : Int64)]) (rest := []) hC (c_X9_in l D cy (x3.toInt64) (1 : Int64) (200 : Int64) r_7 hc_8) (cwS 3 hts gX9_orderThrows_X9_in rfl rfl rfl cd_X9_in ⟨Nat.le_of_ble_eq_true rfl, Nat.le_of_ble_eq_true rfl⟩) hK hN hP hD hS hA rfl rfl hl.1 rfl (lv_room (Nat.le_of_ble_eq_true rfl)) dX9_orderThrows_28 ⟨Nat.le_of_ble_eq_true rfl, Nat.le_of_ble_eq_true rfl⟩) hP hD hS hA rfl rfl rfl (fun H locs hP hD hS => ?_)
      refine lv_if_ne (tgt := 36) hx hb dX9_orderThrows_31 (by decide) (fun c_9 => ?_) (fun c_9 => ?_)
      · replace hE := it_f hE c_9
        refine lv_aload_n hx hb dX9_orderThrows_36 rfl (lv_at hl 0 rfl) ?_
        obtain ⟨r_10, hc_11, hE⟩ := bd1_el hE
        refine ki (X := []) (Y := []) (ws1 := (W_M cy aM imM inM)) (rV (X := []) (Y := []) (As := []) (rest := []) hC (c_X9_openMany l D cy aM imM inM r_10 hc_11) (cwV 0 hts gX9_orderThrows_X9_openMany rfl rfl rfl cd_X9_openMany ⟨Nat.le_of_ble_eq_true rfl, Nat.le_of_ble_eq_true rfl⟩) hK hN hP hD hS hA rfl 0 9 rfl rfl rfl hl.1 rfl (lv_room (Nat.le_of_ble_eq_true rfl)) dX9_orderThrows_37 ⟨Nat.le_of_ble_eq_true rfl, Nat.le_of_ble_eq_true rfl⟩) hP hD hS hA rfl rfl rfl (fun H locs hP hD hS => ?_)
        refine lv_bipush (v := 20) hx hb dX9_orderThrows_40 (by decide) ?_
        refine lv_icmp_eq (tgt := 60) hx hb dX9_orderThrows_42 (by decide) (fun c_12 => ?_) (fun c_12 => ?_)
        · replace hE := it_t hE c_12
          exact h60  _ _ _ hE hP hD hS (lv_sub hl [] rfl)
        · replace hE := it_f hE c_12
          refine lv_aload_n hx hb dX9_orderThrows_45 rfl (lv_at hl 0 rfl) ?_
          refine va_get (D := D) (ci := 9) (v := .ref (aM 1)) (C := RX9) (T := TX9) (N := 13) hx hb hts iX9 hown hK hP 0 rfl rfl 0 (by decide) f7 (fun _ h9 => h9) rfl dX9_orderThrows_46 ?_
          refine lv_sipush (v := 1882) hx hb dX9_orderThrows_49 (by decide) ?_
          refine va_lald hx hb hK hP 1 1 rfl rfl (show ¬ ((1882 : Int32) < 0 ∨ 1888 ≤ (1882 : Int32).toNatClampNeg) by decide) dX9_orderThrows_52 ?_
          refine lv_ldc2 hx hb hown k206 dX9_orderThrows_53 ?_
          refine W.lcmp hx hb dX9_orderThrows_56 ?_
          refine lv_if_ne (tgt := 64) hx hb dX9_orderThrows_57 (by decide) (fun c_13 => ?_) (fun c_13 => ?_)
          · replace hE := it_f hE c_13
            refine lv_iconst (v := 0) hx hb dX9_orderThrows_64 (by decide) ?_
            have hE := Option.some.inj hE
            exact ei hx hb hr hlocks hK hP hD hS hE rfl dX9_orderThrows_65
          · replace hE := it_t hE c_13
            exact h60  _ _ _ hE hP hD hS (lv_sub hl [] rfl)
      · replace hE := it_t hE c_9
        refine lv_iconst (v := 2) hx hb dX9_orderThrows_34 (by decide) ?_
        have hE := Option.some.inj hE
        exact ei hx hb hr hlocks hK hP hD hS hE rfl dX9_orderThrows_35
  · replace hE := it_t hE c_3
    refine lv_iconst (v := 1) hx hb dX9_orderThrows_8 (by decide) ?_
    have hE := Option.some.inj hE
    exact ei hx hb hr hlocks hK hP hD hS hE rfl dX9_orderThrows_9
abbrev rm_X9_doOrder : Room := { frames := 0, cells := 0, slots := 0, locals := 0 }
set_option maxHeartbeats 40000000 in
set_option maxRecDepth 100000 in
theorem c_X9_doOrder (l : Launch) (D : va_G) (cy : Nat → Nat) (aM : Nat → Nat) (x1 : Int32) (x2 : Int32) (x3 : Int32) (x4 : Int32) (imM : Mem) (inM : MemL) (r' : Int32) (nM' : MemL) (hE : f_X9_doOrder x1 x2 x3 x4 imM inM = some (r', nM')) : CI l yX9_doOrder wsX9_doOrder rm_X9_doOrder D cy [.ref (aM 0), .int x1, .int x2, .int x3, .int x4] (W_M cy aM imM inM) 0 0 r' (W_M cy aM imM nM') := by
  refine CQ_of (cc := cX9_doOrder) (maxL := 6) (ret := (some .int)) (by decide) rfl (Nat.le_of_ble_eq_true rfl) (fun p e s m args below meth c A ls hx hb hr hml hlocks hnm hown hts hA hK hN hP hD hS hl => ?_)
  have hown : s.vm.findClass RX9 = some m.cls := hown
  have hl : lv_has ls 6 [(0, .ref (aM 0)), (1, .int x1), (2, .int x2), (3, .int x3), (4, .int x4)] := hl
  have f7 : (Cond.fieldLink RX9 7 "IcePlantModel" "w" "[J").before args s = true := hts _ (mC qf_X9_7)
  have iX9 : ∀ w ∈ wsX90, w ∈ wsX9_doOrder := fun w h => mC (iA_X9 w h)
  unfold f_X9_doOrder at hE
  refine lv_aload_n hx hb dX9_doOrder_0 rfl (lv_at hl 0 rfl) ?_
  refine va_get (D := D) (ci := 9) (v := .ref (aM 1)) (C := RX9) (T := TX9) (N := 13) hx hb hts iX9 hown hK hP 0 rfl rfl 0 (by decide) f7 (fun _ h9 => h9) rfl dX9_doOrder_1 ?_
  refine lv_sipush (v := 1882) hx hb dX9_doOrder_4 (by decide) ?_
  refine va_lald hx hb hK hP 1 1 rfl rfl (show ¬ ((1882 : Int32) < 0 ∨ 1888 ≤ (1882 : Int32).toNatClampNeg) by decide) dX9_doOrder_7 ?_
  refine lv_l2i hx hb dX9_doOrder_8 rfl ?_
  obtain ⟨x5_1, e_x5_1, hE⟩ := lt_el hE
  refine s_nm e_x5_1 ?_
  refine lv_istore (lv' := [(5, .int x5_1), (0, .ref (aM 0)), (1, .int x1), (2, .int x2), (3, .int x3), (4, .int x4)]) hx hb dX9_doOrder_9 hl (by decide) rfl (fun ls hl => ?_)
  refine lv_aload_n hx hb dX9_doOrder_11 rfl (lv_at hl 1 rfl) ?_
  refine va_get (D := D) (ci := 9) (v := .ref (aM 1)) (C := RX9) (T := TX9) (N := 13) hx hb hts iX9 hown hK hP 0 rfl rfl 0 (by decide) f7 (fun _ h9 => h9) rfl dX9_doOrder_12 ?_
  refine lv_sipush (v := 1882) hx hb dX9_doOrder_15 (by decide) ?_
  refine lv_dup2_11 hx hb dX9_doOrder_18 rfl rfl ?_
  refine va_lald hx hb hK hP 1 1 rfl rfl (show ¬ ((1882 : Int32) < 0 ∨ 1888 ≤ (1882 : Int32).toNatClampNeg) by decide) dX9_doOrder_19 ?_
  refine lv_lconst (v := 1) hx hb dX9_doOrder_20 (by decide) ?_
  refine lv_ladd hx hb dX9_doOrder_21 ?_
  obtain ⟨nM_2, e_nM_2, hE⟩ := lt_el hE
  refine s_la (ws1 := (W_M cy aM imM nM_2)) hx hb hK hP hD hS 1 rfl (show ¬ ((1882 : Int32) < 0 ∨ 1888 ≤ (1882 : Int32).toNatClampNeg) by decide) (by rw [e_nM_2]; rfl) dX9_doOrder_22 (fun H locs hP hD hS => ?_)
  refine lv_aload_n hx hb dX9_doOrder_23 rfl (lv_at hl 1 rfl) ?_
  refine va_get (D := D) (ci := 9) (v := .ref (aM 1)) (C := RX9) (T := TX9) (N := 13) hx hb hts iX9 hown hK hP 0 rfl rfl 0 (by decide) f7 (fun _ h9 => h9) rfl dX9_doOrder_24 ?_
  refine lv_sipush (v := 531) hx hb dX9_doOrder_27 (by decide) ?_
  refine lv_iload hx hb dX9_doOrder_30 (lv_at hl 0 rfl) ?_
  refine lv_iadd hx hb dX9_doOrder_32 ?_
  refine lv_iload_n hx hb dX9_doOrder_33 rfl (lv_at hl 2 rfl) ?_
  refine lv_i2l hx hb dX9_doOrder_34 rfl ?_
  obtain ⟨g_4, hE⟩ := gi_el hE
  obtain ⟨nM_3, e_nM_3, hE⟩ := lt_el hE
  refine s_la (ws1 := (W_M cy aM imM nM_3)) hx hb hK hP hD hS 1 rfl g_4 (by rw [e_nM_3]; rfl) dX9_doOrder_35 (fun H locs hP hD hS => ?_)
  refine lv_aload_n hx hb dX9_doOrder_36 rfl (lv_at hl 1 rfl) ?_
  refine va_get (D := D) (ci := 9) (v := .ref (aM 1)) (C := RX9) (T := TX9) (N := 13) hx hb hts iX9 hown hK hP 0 rfl rfl 0 (by decide) f7 (fun _ h9 => h9) rfl dX9_doOrder_37 ?_
  refine lv_sipush (v := 731) hx hb dX9_doOrder_40 (by decide) ?_
  refine lv_iload hx hb dX9_doOrder_43 (lv_at hl 0 rfl) ?_
  refine lv_iadd hx hb dX9_doOrder_45 ?_
  refine lv_iload_n hx hb dX9_doOrder_46 rfl (lv_at hl 3 rfl) ?_
  refine lv_i2l hx hb dX9_doOrder_47 rfl ?_
  obtain ⟨g_6, hE⟩ := gi_el hE
  obtain ⟨nM_5, e_nM_5, hE⟩ := lt_el hE
  refine s_la (ws1 := (W_M cy aM imM nM_5)) hx hb hK hP hD hS 1 rfl g_6 (by rw [e_nM_5]; rfl) dX9_doOrder_48 (fun H locs hP hD hS => ?_)
  refine lv_aload_n hx hb dX9_doOrder_49 rfl (lv_at hl 1 rfl) ?_
  refine va_get (D := D) (ci := 9) (v := .ref (aM 1)) (C := RX9) (T := TX9) (N := 13) hx hb hts iX9 hown hK hP 0 rfl rfl 0 (by decide) f7 (fun _ h9 => h9) rfl dX9_doOrder_50 ?_
  refine lv_sipush (v := 1131) hx hb dX9_doOrder_53 (by decide) ?_
  refine lv_iload hx hb dX9_doOrder_56 (lv_at hl 0 rfl) ?_
  refine lv_iadd hx hb dX9_doOrder_58 ?_
  refine lv_iload_n hx hb dX9_doOrder_59 rfl (lv_at hl 4 rfl) ?_
  refine lv_i2l hx hb dX9_doOrder_60 rfl ?_
  obtain ⟨g_8, hE⟩ := gi_el hE
  obtain ⟨nM_7, e_nM_7, hE⟩ := lt_el hE
  refine s_la (ws1 := (W_M cy aM imM nM_7)) hx hb hK hP hD hS 1 rfl g_8 (by rw [e_nM_7]; rfl) dX9_doOrder_61 (fun H locs hP hD hS => ?_)
  refine lv_aload_n hx hb dX9_doOrder_62 rfl (lv_at hl 1 rfl) ?_
  refine va_get (D := D) (ci := 9) (v := .ref (aM 1)) (C := RX9) (T := TX9) (N := 13) hx hb hts iX9 hown hK hP 0 rfl rfl 0 (by decide) f7 (fun _ h9 => h9) rfl dX9_doOrder_63 ?_
  refine lv_sipush (v := 1331) hx hb dX9_doOrder_66 (by decide) ?_
  refine lv_iload hx hb dX9_doOrder_69 (lv_at hl 0 rfl) ?_
  refine lv_iadd hx hb dX9_doOrder_71 ?_
  refine lv_iload hx hb dX9_doOrder_72 (lv_at hl 5 rfl) ?_
  refine lv_if_eq (tgt := 81) hx hb dX9_doOrder_74 (by decide) (fun c_9 => ?_) (fun c_9 => ?_)
  · replace hE := it_t hE c_9
    refine lv_lconst (v := 0) hx hb dX9_doOrder_81 (by decide) ?_
    obtain ⟨g_11, hE⟩ := gi_el hE
    obtain ⟨nM_10, e_nM_10, hE⟩ := lt_el hE
    refine s_la (ws1 := (W_M cy aM imM nM_10)) hx hb hK hP hD hS 1 rfl g_11 (by rw [e_nM_10]; rfl) dX9_doOrder_82 (fun H locs hP hD hS => ?_)
    refine lv_iload hx hb dX9_doOrder_83 (lv_at hl 0 rfl) ?_
    have hE := Option.some.inj hE
    obtain ⟨q0, q1⟩ := Prod.mk.inj hE
    exact ei hx hb hr hlocks hK hP hD hS q0 (by rw [q1]) dX9_doOrder_85
  · replace hE := it_f hE c_9
    refine lv_lconst (v := 1) hx hb dX9_doOrder_77 (by decide) ?_
    refine lv_goto (tgt := 82) hx hb dX9_doOrder_78 (by decide) ?_
    obtain ⟨g_13, hE⟩ := gi_el hE
    obtain ⟨nM_12, e_nM_12, hE⟩ := lt_el hE
    refine s_la (ws1 := (W_M cy aM imM nM_12)) hx hb hK hP hD hS 1 rfl g_13 (by rw [e_nM_12]; rfl) dX9_doOrder_82 (fun H locs hP hD hS => ?_)
    refine lv_iload hx hb dX9_doOrder_83 (lv_at hl 0 rfl) ?_
    have hE := Option.some.inj hE
    obtain ⟨q0, q1⟩ := Prod.mk.inj hE
    exact ei hx hb hr hlocks hK hP hD hS q0 (by rw [q1]) dX9_doOrder_85
abbrev rm_X9_order : Room := { frames := 3, cells := 0, slots := 0, locals := 69 }
set_option maxHeartbeats 40000000 in
set_option maxRecDepth 100000 in
theorem c_X9_order (l : Launch) (D : va_G) (cy : Nat → Nat) (aM : Nat → Nat) (x1 : Int32) (x2 : Int32) (x3 : Int32) (x4 : Int32) (imM : Mem) (inM : MemL) (r' : Int32) (mM' : Mem) (nM' : MemL) (hE : f_X9_order x1 x2 x3 x4 imM inM = some (r', mM', nM')) : CI l yX9_order wsX9_order rm_X9_order D cy [.ref (aM 0), .int x1, .int x2, .int x3, .int x4] (W_M cy aM imM inM) 0 0 r' (W_M cy aM mM' nM') := by
  refine CQ_of (cc := cX9_order) (maxL := 6) (ret := (some .int)) (by decide) rfl (Nat.le_of_ble_eq_true rfl) (fun p e s m args below meth c A ls hx hb hr hml hlocks hnm hown hts hA hK hN hP hD hS hl => ?_)
  have hown : s.vm.findClass RX9 = some m.cls := hown
  have hl : lv_has ls 6 [(0, .ref (aM 0)), (1, .int x1), (2, .int x2), (3, .int x3), (4, .int x4)] := hl
  have hC : CallFix p m c cX9_order 6 s args wsX9_order RX9 := ⟨hx, hb, hml, hown, hts⟩
  have f43 : (Cond.fieldLink RX9 43 "IcePlantModel" "thrown" "I").before args s = true := hts _ (mC qf_X9_43)
  have iX9 : ∀ w ∈ wsX90, w ∈ wsX9_order := fun w h => mC (iA_X9 w h)
  unfold f_X9_order at hE
  refine lv_aload_n hx hb dX9_order_0 rfl (lv_at hl 0 rfl) ?_
  refine lv_iconst (v := 0) hx hb dX9_order_1 (by decide) ?_
  obtain ⟨mM_1, e_mM_1, hE⟩ := lt_el hE
  refine s_pf (own := RX9) (C := RX9) (T := TX9) (N := 13) (ci := 9) (ws1 := (W_M cy aM mM_1 inM)) hx hb hts iX9 tyX9 tyX9_ok nmX9 hown hK hP hD hS 0 rfl rfl 8 (by decide) f43 rfl rfl rfl rfl (Nat.le_of_ble_eq_true rfl) (by rw [e_mM_1]; rfl) dX9_order_2 (fun H locs hP hD hS => ?_)
  refine lv_aload_n hx hb dX9_order_5 rfl (lv_at hl 0 rfl) ?_
  refine lv_iload_n hx hb dX9_order_6 rfl (lv_at hl 1 rfl) ?_
  refine lv_iload_n hx hb dX9_order_7 rfl (lv_at hl 2 rfl) ?_
  refine lv_iload_n hx hb dX9_order_8 rfl (lv_at hl 3 rfl) ?_
  obtain ⟨r_2, hc_3, hE⟩ := bd1_el hE
  refine ki (X := []) (Y := []) (ws1 := (W_M cy aM mM_1 inM)) (rV (X := []) (Y := []) (As := [.int x1, .int x2, .int x3]) (rest := []) hC (c_X9_orderThrows l D cy aM x1 x2 x3 mM_1 inM r_2 hc_3) (cwV 3 hts gX9_order_X9_orderThrows rfl rfl rfl cd_X9_orderThrows ⟨Nat.le_of_ble_eq_true rfl, Nat.le_of_ble_eq_true rfl⟩) hK hN hP hD hS hA rfl 0 9 rfl rfl rfl hl.1 rfl (lv_room (Nat.le_of_ble_eq_true rfl)) dX9_order_9 ⟨Nat.le_of_ble_eq_true rfl, Nat.le_of_ble_eq_true rfl⟩) hP hD hS hA rfl rfl rfl (fun H locs hP hD hS => ?_)
  refine lv_istore (lv' := [(5, .int r_2), (0, .ref (aM 0)), (1, .int x1), (2, .int x2), (3, .int x3), (4, .int x4)]) hx hb dX9_order_12 hl (by decide) rfl (fun ls hl => ?_)
  refine lv_iload hx hb dX9_order_14 (lv_at hl 0 rfl) ?_
  refine lv_if_le (tgt := 26) hx hb dX9_order_16 (by decide) (fun c_4 => ?_) (fun c_4 => ?_)
  · replace hE := it_t hE c_4
    refine lv_aload_n hx hb dX9_order_26 rfl (lv_at hl 1 rfl) ?_
    obtain ⟨mM_5, nM_6, hc_7, hE⟩ := bd2_el hE
    refine kv (X := []) (Y := []) (ws1 := (W_M cy aM mM_5 nM_6)) (rV (X := []) (Y := []) (As := []) (rest := []) hC (c_X9_save l D cy aM mM_1 inM mM_5 nM_6 hc_7) (cwV 0 hts gX9_order_X9_save rfl rfl rfl cd_X9_save ⟨Nat.le_of_ble_eq_true rfl, Nat.le_of_ble_eq_true rfl⟩) hK hN hP hD hS hA rfl 0 9 rfl rfl rfl hl.1 rfl (lv_room (Nat.le_of_ble_eq_true rfl)) dX9_order_27 ⟨Nat.le_of_ble_eq_true rfl, Nat.le_of_ble_eq_true rfl⟩) hP hD hS hA rfl rfl rfl (fun H locs hP hD hS => ?_)
    refine lv_aload_n hx hb dX9_order_30 rfl (lv_at hl 1 rfl) ?_
    refine lv_iload_n hx hb dX9_order_31 rfl (lv_at hl 2 rfl) ?_
    refine lv_iload_n hx hb dX9_order_32 rfl (lv_at hl 3 rfl) ?_
    refine lv_iload_n hx hb dX9_order_33 rfl (lv_at hl 4 rfl) ?_
    refine lv_iload hx hb dX9_order_34 (lv_at hl 5 rfl) ?_
    obtain ⟨r_8, nM_9, hc_10, hE⟩ := bd2_el hE
    refine ki (X := []) (Y := []) (ws1 := (W_M cy aM mM_5 nM_9)) (rV (X := []) (Y := []) (As := [.int x1, .int x2, .int x3, .int x4]) (rest := []) hC (c_X9_doOrder l D cy aM x1 x2 x3 x4 mM_5 nM_6 r_8 nM_9 hc_10) (cwV 4 hts gX9_order_X9_doOrder rfl rfl rfl cd_X9_doOrder ⟨Nat.le_of_ble_eq_true rfl, Nat.le_of_ble_eq_true rfl⟩) hK hN hP hD hS hA rfl 0 9 rfl rfl rfl hl.1 rfl (lv_room (Nat.le_of_ble_eq_true rfl)) dX9_order_36 ⟨Nat.le_of_ble_eq_true rfl, Nat.le_of_ble_eq_true rfl⟩) hP hD hS hA rfl rfl rfl (fun H locs hP hD hS => ?_)
    have hE := Option.some.inj hE
    obtain ⟨q0, hE⟩ := Prod.mk.inj hE
    obtain ⟨q1, q2⟩ := Prod.mk.inj hE
    exact ei hx hb hr hlocks hK hP hD hS q0 (by rw [q1, q2]) dX9_order_39
  · replace hE := it_f hE c_4
    refine lv_aload_n hx hb dX9_order_19 rfl (lv_at hl 1 rfl) ?_
    refine lv_iload hx hb dX9_order_20 (lv_at hl 0 rfl) ?_
    obtain ⟨r_11, mM_12, hc_13, hE⟩ := bd2_el hE
    refine ki (X := []) (Y := []) (ws1 := (W_M cy aM mM_12 inM)) (rV (X := []) (Y := []) (As := [.int r_2]) (rest := []) hC (c_X9_refuse l D cy aM r_2 mM_1 inM r_11 mM_12 hc_13) (cwV 1 hts gX9_order_X9_refuse rfl rfl rfl cd_X9_refuse ⟨Nat.le_of_ble_eq_true rfl, Nat.le_of_ble_eq_true rfl⟩) hK hN hP hD hS hA rfl 0 9 rfl rfl rfl hl.1 rfl (lv_room (Nat.le_of_ble_eq_true rfl)) dX9_order_22 ⟨Nat.le_of_ble_eq_true rfl, Nat.le_of_ble_eq_true rfl⟩) hP hD hS hA rfl rfl rfl (fun H locs hP hD hS => ?_)
    have hE := Option.some.inj hE
    obtain ⟨q0, hE⟩ := Prod.mk.inj hE
    obtain ⟨q1, q2⟩ := Prod.mk.inj hE
    exact ei hx hb hr hlocks hK hP hD hS q0 (by rw [q1, q2]) dX9_order_25
abbrev rm_X9_cancel : Room := { frames := 2, cells := 0, slots := 0, locals := 46 }
set_option maxHeartbeats 40000000 in
set_option maxRecDepth 100000 in
theorem c_X9_cancel (l : Launch) (D : va_G) (cy : Nat → Nat) (aM : Nat → Nat) (x1 : Int32) (imM : Mem) (inM : MemL) (r' : Int32) (mM' : Mem) (nM' : MemL) (hE : f_X9_cancel x1 imM inM = some (r', mM', nM')) : CI l yX9_cancel wsX9_cancel rm_X9_cancel D cy [.ref (aM 0), .int x1] (W_M cy aM imM inM) 0 0 r' (W_M cy aM mM' nM') := by
  refine CQ_of (cc := cX9_cancel) (maxL := 2) (ret := (some .int)) (by decide) rfl (Nat.le_of_ble_eq_true rfl) (fun p e s m args below meth c A ls hx hb hr hml hlocks hnm hown hts hA hK hN hP hD hS hl => ?_)
  have hown : s.vm.findClass RX9 = some m.cls := hown
  have hl : lv_has ls 2 [(0, .ref (aM 0)), (1, .int x1)] := hl
  have hC : CallFix p m c cX9_cancel 2 s args wsX9_cancel RX9 := ⟨hx, hb, hml, hown, hts⟩
  have f7 : (Cond.fieldLink RX9 7 "IcePlantModel" "w" "[J").before args s = true := hts _ (mC qf_X9_7)
  have f43 : (Cond.fieldLink RX9 43 "IcePlantModel" "thrown" "I").before args s = true := hts _ (mC qf_X9_43)
  have iX9 : ∀ w ∈ wsX90, w ∈ wsX9_cancel := fun w h => mC (iA_X9 w h)
  have k56 : (Cond.constantLong RX9 56 (3)).before args s = true := hts _ (mC qk_X9_56)
  unfold f_X9_cancel at hE
  refine lv_aload_n hx hb dX9_cancel_0 rfl (lv_at hl 0 rfl) ?_
  refine lv_iconst (v := 0) hx hb dX9_cancel_1 (by decide) ?_
  obtain ⟨mM_1, e_mM_1, hE⟩ := lt_el hE
  refine s_pf (own := RX9) (C := RX9) (T := TX9) (N := 13) (ci := 9) (ws1 := (W_M cy aM mM_1 inM)) hx hb hts iX9 tyX9 tyX9_ok nmX9 hown hK hP hD hS 0 rfl rfl 8 (by decide) f43 rfl rfl rfl rfl (Nat.le_of_ble_eq_true rfl) (by rw [e_mM_1]; rfl) dX9_cancel_2 (fun H locs hP hD hS => ?_)
  refine lv_aload_n hx hb dX9_cancel_5 rfl (lv_at hl 0 rfl) ?_
  refine lv_iload_n hx hb dX9_cancel_6 rfl (lv_at hl 1 rfl) ?_
  obtain ⟨r_2, hc_3, hE⟩ := bd1_el hE
  refine ki (X := []) (Y := []) (ws1 := (W_M cy aM mM_1 inM)) (rV (X := []) (Y := []) (As := [.int x1]) (rest := []) hC (c_X9_isOrder l D cy aM x1 mM_1 inM r_2 hc_3) (cwV 1 hts gX9_cancel_X9_isOrder rfl rfl rfl cd_X9_isOrder ⟨Nat.le_of_ble_eq_true rfl, Nat.le_of_ble_eq_true rfl⟩) hK hN hP hD hS hA rfl 0 9 rfl rfl rfl hl.1 rfl (lv_room (Nat.le_of_ble_eq_true rfl)) dX9_cancel_7 ⟨Nat.le_of_ble_eq_true rfl, Nat.le_of_ble_eq_true rfl⟩) hP hD hS hA rfl rfl rfl (fun H locs hP hD hS => ?_)
  refine lv_if_ne (tgt := 19) hx hb dX9_cancel_10 (by decide) (fun c_4 => ?_) (fun c_4 => ?_)
  · replace hE := it_f hE c_4
    refine lv_aload_n hx hb dX9_cancel_19 rfl (lv_at hl 0 rfl) ?_
    refine va_get (D := D) (ci := 9) (v := .ref (aM 1)) (C := RX9) (T := TX9) (N := 13) hx hb hts iX9 hown hK hP 0 rfl rfl 0 (by decide) f7 (fun _ h9 => h9) rfl dX9_cancel_20 ?_
    refine lv_sipush (v := 1531) hx hb dX9_cancel_23 (by decide) ?_
    refine lv_iload_n hx hb dX9_cancel_26 rfl (lv_at hl 1 rfl) ?_
    refine lv_iadd hx hb dX9_cancel_27 ?_
    obtain ⟨g_5, hE⟩ := gi_el hE
    refine va_lald hx hb hK hP 1 1 rfl rfl g_5 dX9_cancel_28 ?_
    refine lv_lconst (v := 0) hx hb dX9_cancel_29 (by decide) ?_
    refine W.lcmp hx hb dX9_cancel_30 ?_
    refine lv_if_eq (tgt := 40) hx hb dX9_cancel_31 (by decide) (fun c_6 => ?_) (fun c_6 => ?_)
    · replace hE := it_t hE c_6
      refine lv_aload_n hx hb dX9_cancel_40 rfl (lv_at hl 0 rfl) ?_
      obtain ⟨mM_7, nM_8, hc_9, hE⟩ := bd2_el hE
      refine kv (X := []) (Y := []) (ws1 := (W_M cy aM mM_7 nM_8)) (rV (X := []) (Y := []) (As := []) (rest := []) hC (c_X9_save l D cy aM mM_1 inM mM_7 nM_8 hc_9) (cwV 0 hts gX9_cancel_X9_save rfl rfl rfl cd_X9_save ⟨Nat.le_of_ble_eq_true rfl, Nat.le_of_ble_eq_true rfl⟩) hK hN hP hD hS hA rfl 0 9 rfl rfl rfl hl.1 rfl (lv_room (Nat.le_of_ble_eq_true rfl)) dX9_cancel_41 ⟨Nat.le_of_ble_eq_true rfl, Nat.le_of_ble_eq_true rfl⟩) hP hD hS hA rfl rfl rfl (fun H locs hP hD hS => ?_)
      refine lv_aload_n hx hb dX9_cancel_44 rfl (lv_at hl 0 rfl) ?_
      refine va_get (D := D) (ci := 9) (v := .ref (aM 1)) (C := RX9) (T := TX9) (N := 13) hx hb hts iX9 hown hK hP 0 rfl rfl 0 (by decide) f7 (fun _ h9 => h9) rfl dX9_cancel_45 ?_
      refine lv_sipush (v := 1531) hx hb dX9_cancel_48 (by decide) ?_
      refine lv_iload_n hx hb dX9_cancel_51 rfl (lv_at hl 1 rfl) ?_
      refine lv_iadd hx hb dX9_cancel_52 ?_
      refine lv_ldc2 hx hb hown k56 dX9_cancel_53 ?_
      obtain ⟨g_11, hE⟩ := gi_el hE
      obtain ⟨nM_10, e_nM_10, hE⟩ := lt_el hE
      refine s_la (ws1 := (W_M cy aM mM_7 nM_10)) hx hb hK hP hD hS 1 rfl g_11 (by rw [e_nM_10]; rfl) dX9_cancel_56 (fun H locs hP hD hS => ?_)
      refine lv_aload_n hx hb dX9_cancel_57 rfl (lv_at hl 0 rfl) ?_
      refine lv_iload_n hx hb dX9_cancel_58 rfl (lv_at hl 1 rfl) ?_
      obtain ⟨r_12, hc_13, hE⟩ := bd1_el hE
      refine kl (X := []) (Y := []) (ws1 := (W_M cy aM mM_7 nM_10)) (rV (X := []) (Y := []) (As := [.int x1]) (rest := []) hC (c_X9_remaining l D cy aM x1 mM_7 nM_10 r_12 hc_13) (cwV 1 hts gX9_cancel_X9_remaining rfl rfl rfl cd_X9_remaining ⟨Nat.le_of_ble_eq_true rfl, Nat.le_of_ble_eq_true rfl⟩) hK hN hP hD hS hA rfl 0 9 rfl rfl rfl hl.1 rfl (lv_room (Nat.le_of_ble_eq_true rfl)) dX9_cancel_59 ⟨Nat.le_of_ble_eq_true rfl, Nat.le_of_ble_eq_true rfl⟩) hP hD hS hA rfl rfl rfl (fun H locs hP hD hS => ?_)
      refine lv_l2i hx hb dX9_cancel_62 rfl ?_
      have hE := Option.some.inj hE
      obtain ⟨q0, hE⟩ := Prod.mk.inj hE
      obtain ⟨q1, q2⟩ := Prod.mk.inj hE
      exact ei hx hb hr hlocks hK hP hD hS q0 (by rw [q1, q2]) dX9_cancel_63
    · replace hE := it_f hE c_6
      refine lv_aload_n hx hb dX9_cancel_34 rfl (lv_at hl 0 rfl) ?_
      refine lv_iconst (v := 2) hx hb dX9_cancel_35 (by decide) ?_
      obtain ⟨r_14, mM_15, hc_16, hE⟩ := bd2_el hE
      refine ki (X := []) (Y := []) (ws1 := (W_M cy aM mM_15 inM)) (rV (X := []) (Y := []) (As := [.int (2 : Int32)]) (rest := []) hC (c_X9_refuse l D cy aM (2 : Int32) mM_1 inM r_14 mM_15 hc_16) (cwV 1 hts gX9_cancel_X9_refuse rfl rfl rfl cd_X9_refuse ⟨Nat.le_of_ble_eq_true rfl, Nat.le_of_ble_eq_true rfl⟩) hK hN hP hD hS hA rfl 0 9 rfl rfl rfl hl.1 rfl (lv_room (Nat.le_of_ble_eq_true rfl)) dX9_cancel_36 ⟨Nat.le_of_ble_eq_true rfl, Nat.le_of_ble_eq_true rfl⟩) hP hD hS hA rfl rfl rfl (fun H locs hP hD hS => ?_)
      have hE := Option.some.inj hE
      obtain ⟨q0, hE⟩ := Prod.mk.inj hE
      obtain ⟨q1, q2⟩ := Prod.mk.inj hE
      exact ei hx hb hr hlocks hK hP hD hS q0 (by rw [q1, q2]) dX9_cancel_39
  · replace hE := it_t hE c_4
    refine lv_aload_n hx hb dX9_cancel_13 rfl (lv_at hl 0 rfl) ?_
    refine lv_iconst (v := 1) hx hb dX9_cancel_14 (by decide) ?_
    obtain ⟨r_17, mM_18, hc_19, hE⟩ := bd2_el hE
    refine ki (X := []) (Y := []) (ws1 := (W_M cy aM mM_18 inM)) (rV (X := []) (Y := []) (As := [.int (1 : Int32)]) (rest := []) hC (c_X9_refuse l D cy aM (1 : Int32) mM_1 inM r_17 mM_18 hc_19) (cwV 1 hts gX9_cancel_X9_refuse rfl rfl rfl cd_X9_refuse ⟨Nat.le_of_ble_eq_true rfl, Nat.le_of_ble_eq_true rfl⟩) hK hN hP hD hS hA rfl 0 9 rfl rfl rfl hl.1 rfl (lv_room (Nat.le_of_ble_eq_true rfl)) dX9_cancel_15 ⟨Nat.le_of_ble_eq_true rfl, Nat.le_of_ble_eq_true rfl⟩) hP hD hS hA rfl rfl rfl (fun H locs hP hD hS => ?_)
    have hE := Option.some.inj hE
    obtain ⟨q0, hE⟩ := Prod.mk.inj hE
    obtain ⟨q1, q2⟩ := Prod.mk.inj hE
    exact ei hx hb hr hlocks hK hP hD hS q0 (by rw [q1, q2]) dX9_cancel_18
abbrev rm_X9_payThrows : Room := { frames := 2, cells := 0, slots := 0, locals := 46 }
set_option maxHeartbeats 40000000 in
set_option maxRecDepth 100000 in
theorem c_X9_payThrows (l : Launch) (D : va_G) (cy : Nat → Nat) (aM : Nat → Nat) (x1 : Int32) (x2 : Int32) (imM : Mem) (inM : MemL) (r' : Int32) (hE : f_X9_payThrows x1 x2 imM inM = some r') : CI l yX9_payThrows wsX9_payThrows rm_X9_payThrows D cy [.ref (aM 0), .int x1, .int x2] (W_M cy aM imM inM) 0 0 r' (W_M cy aM imM inM) := by
  refine CQ_of (cc := cX9_payThrows) (maxL := 3) (ret := (some .int)) (by decide) rfl (Nat.le_of_ble_eq_true rfl) (fun p e s m args below meth c A ls hx hb hr hml hlocks hnm hown hts hA hK hN hP hD hS hl => ?_)
  have hown : s.vm.findClass RX9 = some m.cls := hown
  have hl : lv_has ls 3 [(0, .ref (aM 0)), (1, .int x1), (2, .int x2)] := hl
  have hC : CallFix p m c cX9_payThrows 3 s args wsX9_payThrows RX9 := ⟨hx, hb, hml, hown, hts⟩
  have f7 : (Cond.fieldLink RX9 7 "IcePlantModel" "w" "[J").before args s = true := hts _ (mC qf_X9_7)
  have iX9 : ∀ w ∈ wsX90, w ∈ wsX9_payThrows := fun w h => mC (iA_X9 w h)
  have k194 : (Cond.constantLong RX9 194 (1000000)).before args s = true := hts _ (mC qk_X9_194)
  have k219 : (Cond.constantLong RX9 219 (-1000000)).before args s = true := hts _ (mC qk_X9_219)
  unfold f_X9_payThrows at hE
  refine lv_aload_n hx hb dX9_payThrows_0 rfl (lv_at hl 0 rfl) ?_
  refine lv_iload_n hx hb dX9_payThrows_1 rfl (lv_at hl 1 rfl) ?_
  obtain ⟨r_1, hc_2, hE⟩ := bd1_el hE
  refine ki (X := []) (Y := []) (ws1 := (W_M cy aM imM inM)) (rV (X := []) (Y := []) (As := [.int x1]) (rest := []) hC (c_X9_isBoat l D cy aM x1 imM inM r_1 hc_2) (cwV 1 hts gX9_payThrows_X9_isBoat rfl rfl rfl cd_X9_isBoat ⟨Nat.le_of_ble_eq_true rfl, Nat.le_of_ble_eq_true rfl⟩) hK hN hP hD hS hA rfl 0 9 rfl rfl rfl hl.1 rfl (lv_room (Nat.le_of_ble_eq_true rfl)) dX9_payThrows_2 ⟨Nat.le_of_ble_eq_true rfl, Nat.le_of_ble_eq_true rfl⟩) hP hD hS hA rfl rfl rfl (fun H locs hP hD hS => ?_)
  refine lv_if_ne (tgt := 10) hx hb dX9_payThrows_5 (by decide) (fun c_3 => ?_) (fun c_3 => ?_)
  · replace hE := it_f hE c_3
    refine lv_iload_n hx hb dX9_payThrows_10 rfl (lv_at hl 2 rfl) ?_
    refine lv_i2l hx hb dX9_payThrows_11 rfl ?_
    refine lv_lconst (v := 1) hx hb dX9_payThrows_12 (by decide) ?_
    refine lv_ldc2 hx hb hown k194 dX9_payThrows_13 ?_
    obtain ⟨r_4, hc_5, hE⟩ := bd1_el hE
    refine ki (X := []) (Y := (W_M cy aM imM inM)) (ws1 := (W_M cy aM imM inM)) (rS (X := []) (Y := (W_M cy aM imM inM)) (As := [.long (x2.toInt64), .long (1 : Int64), .long (1000000 : Int64)]) (rest := []) hC (c_X9_in l D cy (x2.toInt64) (1 : Int64) (1000000 : Int64) r_4 hc_5) (cwS 3 hts gX9_payThrows_X9_in rfl rfl rfl cd_X9_in ⟨Nat.le_of_ble_eq_true rfl, Nat.le_of_ble_eq_true rfl⟩) hK hN hP hD hS hA rfl rfl hl.1 rfl (lv_room (Nat.le_of_ble_eq_true rfl)) dX9_payThrows_16 ⟨Nat.le_of_ble_eq_true rfl, Nat.le_of_ble_eq_true rfl⟩) hP hD hS hA rfl rfl rfl (fun H locs hP hD hS => ?_)
    refine lv_if_ne (tgt := 26) hx hb dX9_payThrows_19 (by decide) (fun c_6 => ?_) (fun c_6 => ?_)
    · replace hE := it_f hE c_6
      refine lv_aload_n hx hb dX9_payThrows_26 rfl (lv_at hl 0 rfl) ?_
      refine va_get (D := D) (ci := 9) (v := .ref (aM 1)) (C := RX9) (T := TX9) (N := 13) hx hb hts iX9 hown hK hP 0 rfl rfl 0 (by decide) f7 (fun _ h9 => h9) rfl dX9_payThrows_27 ?_
      refine lv_sipush (v := 515) hx hb dX9_payThrows_30 (by decide) ?_
      refine lv_iload_n hx hb dX9_payThrows_33 rfl (lv_at hl 1 rfl) ?_
      refine lv_iadd hx hb dX9_payThrows_34 ?_
      obtain ⟨g_7, hE⟩ := gi_el hE
      refine va_lald hx hb hK hP 1 1 rfl rfl g_7 dX9_payThrows_35 ?_
      refine lv_iload_n hx hb dX9_payThrows_36 rfl (lv_at hl 2 rfl) ?_
      refine lv_i2l hx hb dX9_payThrows_37 rfl ?_
      refine lv_lsub hx hb dX9_payThrows_38 ?_
      refine lv_ldc2 hx hb hown k219 dX9_payThrows_39 ?_
      refine W.lcmp hx hb dX9_payThrows_42 ?_
      refine lv_if_ge (tgt := 50) hx hb dX9_payThrows_43 (by decide) (fun c_8 => ?_) (fun c_8 => ?_)
      · replace hE := it_t hE c_8
        refine lv_iconst (v := 0) hx hb dX9_payThrows_50 (by decide) ?_
        have hE := Option.some.inj hE
        exact ei hx hb hr hlocks hK hP hD hS hE rfl dX9_payThrows_51
      · replace hE := it_f hE c_8
        refine lv_iconst (v := 3) hx hb dX9_payThrows_46 (by decide) ?_
        refine lv_goto (tgt := 51) hx hb dX9_payThrows_47 (by decide) ?_
        have hE := Option.some.inj hE
        exact ei hx hb hr hlocks hK hP hD hS hE rfl dX9_payThrows_51
    · replace hE := it_t hE c_6
      refine lv_iconst (v := 2) hx hb dX9_payThrows_22 (by decide) ?_
      refine lv_goto (tgt := 51) hx hb dX9_payThrows_23 (by decide) ?_
      have hE := Option.some.inj hE
      exact ei hx hb hr hlocks hK hP hD hS hE rfl dX9_payThrows_51
  · replace hE := it_t hE c_3
    refine lv_iconst (v := 1) hx hb dX9_payThrows_8 (by decide) ?_
    have hE := Option.some.inj hE
    exact ei hx hb hr hlocks hK hP hD hS hE rfl dX9_payThrows_9
abbrev rm_X9_doPay : Room := { frames := 0, cells := 0, slots := 0, locals := 0 }
set_option maxHeartbeats 40000000 in
set_option maxRecDepth 100000 in
theorem c_X9_doPay (l : Launch) (D : va_G) (cy : Nat → Nat) (aM : Nat → Nat) (x1 : Int32) (x2 : Int32) (imM : Mem) (inM : MemL) (r' : Int32) (nM' : MemL) (hE : f_X9_doPay x1 x2 imM inM = some (r', nM')) : CI l yX9_doPay wsX9_doPay rm_X9_doPay D cy [.ref (aM 0), .int x1, .int x2] (W_M cy aM imM inM) 0 0 r' (W_M cy aM imM nM') := by
  refine CQ_of (cc := cX9_doPay) (maxL := 3) (ret := (some .int)) (by decide) rfl (Nat.le_of_ble_eq_true rfl) (fun p e s m args below meth c A ls hx hb hr hml hlocks hnm hown hts hA hK hN hP hD hS hl => ?_)
  have hown : s.vm.findClass RX9 = some m.cls := hown
  have hl : lv_has ls 3 [(0, .ref (aM 0)), (1, .int x1), (2, .int x2)] := hl
  have f7 : (Cond.fieldLink RX9 7 "IcePlantModel" "w" "[J").before args s = true := hts _ (mC qf_X9_7)
  have iX9 : ∀ w ∈ wsX90, w ∈ wsX9_doPay := fun w h => mC (iA_X9 w h)
  unfold f_X9_doPay at hE
  refine lv_aload_n hx hb dX9_doPay_0 rfl (lv_at hl 0 rfl) ?_
  refine va_get (D := D) (ci := 9) (v := .ref (aM 1)) (C := RX9) (T := TX9) (N := 13) hx hb hts iX9 hown hK hP 0 rfl rfl 0 (by decide) f7 (fun _ h9 => h9) rfl dX9_doPay_1 ?_
  refine lv_sipush (v := 515) hx hb dX9_doPay_4 (by decide) ?_
  refine lv_iload_n hx hb dX9_doPay_7 rfl (lv_at hl 1 rfl) ?_
  refine lv_iadd hx hb dX9_doPay_8 ?_
  refine lv_dup2_11 hx hb dX9_doPay_9 rfl rfl ?_
  obtain ⟨g_1, hE⟩ := gi_el hE
  refine va_lald hx hb hK hP 1 1 rfl rfl g_1 dX9_doPay_10 ?_
  refine lv_iload_n hx hb dX9_doPay_11 rfl (lv_at hl 2 rfl) ?_
  refine lv_i2l hx hb dX9_doPay_12 rfl ?_
  refine lv_lsub hx hb dX9_doPay_13 ?_
  obtain ⟨g_3, hE⟩ := gi_el hE
  obtain ⟨nM_2, e_nM_2, hE⟩ := lt_el hE
  refine s_la (ws1 := (W_M cy aM imM nM_2)) hx hb hK hP hD hS 1 rfl g_3 (by rw [e_nM_2]; rfl) dX9_doPay_14 (fun H locs hP hD hS => ?_)
  refine lv_aload_n hx hb dX9_doPay_15 rfl (lv_at hl 0 rfl) ?_
  refine va_get (D := D) (ci := 9) (v := .ref (aM 1)) (C := RX9) (T := TX9) (N := 13) hx hb hts iX9 hown hK hP 0 rfl rfl 0 (by decide) f7 (fun _ h9 => h9) rfl dX9_doPay_16 ?_
  refine lv_sipush (v := 1884) hx hb dX9_doPay_19 (by decide) ?_
  refine lv_dup2_11 hx hb dX9_doPay_22 rfl rfl ?_
  refine va_lald hx hb hK hP 1 1 rfl rfl (show ¬ ((1884 : Int32) < 0 ∨ 1888 ≤ (1884 : Int32).toNatClampNeg) by decide) dX9_doPay_23 ?_
  refine lv_iload_n hx hb dX9_doPay_24 rfl (lv_at hl 2 rfl) ?_
  refine lv_i2l hx hb dX9_doPay_25 rfl ?_
  refine lv_ladd hx hb dX9_doPay_26 ?_
  obtain ⟨nM_4, e_nM_4, hE⟩ := lt_el hE
  refine s_la (ws1 := (W_M cy aM imM nM_4)) hx hb hK hP hD hS 1 rfl (show ¬ ((1884 : Int32) < 0 ∨ 1888 ≤ (1884 : Int32).toNatClampNeg) by decide) (by rw [e_nM_4]; rfl) dX9_doPay_27 (fun H locs hP hD hS => ?_)
  refine lv_aload_n hx hb dX9_doPay_28 rfl (lv_at hl 0 rfl) ?_
  refine va_get (D := D) (ci := 9) (v := .ref (aM 1)) (C := RX9) (T := TX9) (N := 13) hx hb hts iX9 hown hK hP 0 rfl rfl 0 (by decide) f7 (fun _ h9 => h9) rfl dX9_doPay_29 ?_
  refine lv_sipush (v := 515) hx hb dX9_doPay_32 (by decide) ?_
  refine lv_iload_n hx hb dX9_doPay_35 rfl (lv_at hl 1 rfl) ?_
  refine lv_iadd hx hb dX9_doPay_36 ?_
  obtain ⟨g_5, hE⟩ := gi_el hE
  refine va_lald hx hb hK hP 1 1 rfl rfl g_5 dX9_doPay_37 ?_
  refine lv_l2i hx hb dX9_doPay_38 rfl ?_
  have hE := Option.some.inj hE
  obtain ⟨q0, q1⟩ := Prod.mk.inj hE
  exact ei hx hb hr hlocks hK hP hD hS q0 (by rw [q1]) dX9_doPay_39
abbrev rm_X9_pay : Room := { frames := 3, cells := 0, slots := 0, locals := 68 }
set_option maxHeartbeats 40000000 in
set_option maxRecDepth 100000 in
theorem c_X9_pay (l : Launch) (D : va_G) (cy : Nat → Nat) (aM : Nat → Nat) (x1 : Int32) (x2 : Int32) (imM : Mem) (inM : MemL) (r' : Int32) (mM' : Mem) (nM' : MemL) (hE : f_X9_pay x1 x2 imM inM = some (r', mM', nM')) : CI l yX9_pay wsX9_pay rm_X9_pay D cy [.ref (aM 0), .int x1, .int x2] (W_M cy aM imM inM) 0 0 r' (W_M cy aM mM' nM') := by
  refine CQ_of (cc := cX9_pay) (maxL := 4) (ret := (some .int)) (by decide) rfl (Nat.le_of_ble_eq_true rfl) (fun p e s m args below meth c A ls hx hb hr hml hlocks hnm hown hts hA hK hN hP hD hS hl => ?_)
  have hown : s.vm.findClass RX9 = some m.cls := hown
  have hl : lv_has ls 4 [(0, .ref (aM 0)), (1, .int x1), (2, .int x2)] := hl
  have hC : CallFix p m c cX9_pay 4 s args wsX9_pay RX9 := ⟨hx, hb, hml, hown, hts⟩
  have f43 : (Cond.fieldLink RX9 43 "IcePlantModel" "thrown" "I").before args s = true := hts _ (mC qf_X9_43)
  have iX9 : ∀ w ∈ wsX90, w ∈ wsX9_pay := fun w h => mC (iA_X9 w h)
  unfold f_X9_pay at hE
  refine lv_aload_n hx hb dX9_pay_0 rfl (lv_at hl 0 rfl) ?_
  refine lv_iconst (v := 0) hx hb dX9_pay_1 (by decide) ?_
  obtain ⟨mM_1, e_mM_1, hE⟩ := lt_el hE
  refine s_pf (own := RX9) (C := RX9) (T := TX9) (N := 13) (ci := 9) (ws1 := (W_M cy aM mM_1 inM)) hx hb hts iX9 tyX9 tyX9_ok nmX9 hown hK hP hD hS 0 rfl rfl 8 (by decide) f43 rfl rfl rfl rfl (Nat.le_of_ble_eq_true rfl) (by rw [e_mM_1]; rfl) dX9_pay_2 (fun H locs hP hD hS => ?_)
  refine lv_aload_n hx hb dX9_pay_5 rfl (lv_at hl 0 rfl) ?_
  refine lv_iload_n hx hb dX9_pay_6 rfl (lv_at hl 1 rfl) ?_
  refine lv_iload_n hx hb dX9_pay_7 rfl (lv_at hl 2 rfl) ?_
  obtain ⟨r_2, hc_3, hE⟩ := bd1_el hE
  refine ki (X := []) (Y := []) (ws1 := (W_M cy aM mM_1 inM)) (rV (X := []) (Y := []) (As := [.int x1, .int x2]) (rest := []) hC (c_X9_payThrows l D cy aM x1 x2 mM_1 inM r_2 hc_3) (cwV 2 hts gX9_pay_X9_payThrows rfl rfl rfl cd_X9_payThrows ⟨Nat.le_of_ble_eq_true rfl, Nat.le_of_ble_eq_true rfl⟩) hK hN hP hD hS hA rfl 0 9 rfl rfl rfl hl.1 rfl (lv_room (Nat.le_of_ble_eq_true rfl)) dX9_pay_8 ⟨Nat.le_of_ble_eq_true rfl, Nat.le_of_ble_eq_true rfl⟩) hP hD hS hA rfl rfl rfl (fun H locs hP hD hS => ?_)
  refine lv_istore_n (lv' := [(3, .int r_2), (0, .ref (aM 0)), (1, .int x1), (2, .int x2)]) hx hb dX9_pay_11 rfl hl (by decide) rfl (fun ls hl => ?_)
  refine lv_iload_n hx hb dX9_pay_12 rfl (lv_at hl 0 rfl) ?_
  refine lv_if_le (tgt := 22) hx hb dX9_pay_13 (by decide) (fun c_4 => ?_) (fun c_4 => ?_)
  · replace hE := it_t hE c_4
    refine lv_aload_n hx hb dX9_pay_22 rfl (lv_at hl 1 rfl) ?_
    obtain ⟨mM_5, nM_6, hc_7, hE⟩ := bd2_el hE
    refine kv (X := []) (Y := []) (ws1 := (W_M cy aM mM_5 nM_6)) (rV (X := []) (Y := []) (As := []) (rest := []) hC (c_X9_save l D cy aM mM_1 inM mM_5 nM_6 hc_7) (cwV 0 hts gX9_pay_X9_save rfl rfl rfl cd_X9_save ⟨Nat.le_of_ble_eq_true rfl, Nat.le_of_ble_eq_true rfl⟩) hK hN hP hD hS hA rfl 0 9 rfl rfl rfl hl.1 rfl (lv_room (Nat.le_of_ble_eq_true rfl)) dX9_pay_23 ⟨Nat.le_of_ble_eq_true rfl, Nat.le_of_ble_eq_true rfl⟩) hP hD hS hA rfl rfl rfl (fun H locs hP hD hS => ?_)
    refine lv_aload_n hx hb dX9_pay_26 rfl (lv_at hl 1 rfl) ?_
    refine lv_iload_n hx hb dX9_pay_27 rfl (lv_at hl 2 rfl) ?_
    refine lv_iload_n hx hb dX9_pay_28 rfl (lv_at hl 3 rfl) ?_
    obtain ⟨r_8, nM_9, hc_10, hE⟩ := bd2_el hE
    refine ki (X := []) (Y := []) (ws1 := (W_M cy aM mM_5 nM_9)) (rV (X := []) (Y := []) (As := [.int x1, .int x2]) (rest := []) hC (c_X9_doPay l D cy aM x1 x2 mM_5 nM_6 r_8 nM_9 hc_10) (cwV 2 hts gX9_pay_X9_doPay rfl rfl rfl cd_X9_doPay ⟨Nat.le_of_ble_eq_true rfl, Nat.le_of_ble_eq_true rfl⟩) hK hN hP hD hS hA rfl 0 9 rfl rfl rfl hl.1 rfl (lv_room (Nat.le_of_ble_eq_true rfl)) dX9_pay_29 ⟨Nat.le_of_ble_eq_true rfl, Nat.le_of_ble_eq_true rfl⟩) hP hD hS hA rfl rfl rfl (fun H locs hP hD hS => ?_)
    have hE := Option.some.inj hE
    obtain ⟨q0, hE⟩ := Prod.mk.inj hE
    obtain ⟨q1, q2⟩ := Prod.mk.inj hE
    exact ei hx hb hr hlocks hK hP hD hS q0 (by rw [q1, q2]) dX9_pay_32
  · replace hE := it_f hE c_4
    refine lv_aload_n hx hb dX9_pay_16 rfl (lv_at hl 1 rfl) ?_
    refine lv_iload_n hx hb dX9_pay_17 rfl (lv_at hl 0 rfl) ?_
    obtain ⟨r_11, mM_12, hc_13, hE⟩ := bd2_el hE
    refine ki (X := []) (Y := []) (ws1 := (W_M cy aM mM_12 inM)) (rV (X := []) (Y := []) (As := [.int r_2]) (rest := []) hC (c_X9_refuse l D cy aM r_2 mM_1 inM r_11 mM_12 hc_13) (cwV 1 hts gX9_pay_X9_refuse rfl rfl rfl cd_X9_refuse ⟨Nat.le_of_ble_eq_true rfl, Nat.le_of_ble_eq_true rfl⟩) hK hN hP hD hS hA rfl 0 9 rfl rfl rfl hl.1 rfl (lv_room (Nat.le_of_ble_eq_true rfl)) dX9_pay_18 ⟨Nat.le_of_ble_eq_true rfl, Nat.le_of_ble_eq_true rfl⟩) hP hD hS hA rfl rfl rfl (fun H locs hP hD hS => ?_)
    have hE := Option.some.inj hE
    obtain ⟨q0, hE⟩ := Prod.mk.inj hE
    obtain ⟨q1, q2⟩ := Prod.mk.inj hE
    exact ei hx hb hr hlocks hK hP hD hS q0 (by rw [q1, q2]) dX9_pay_21
abbrev rm_X9_massIn : Room := { frames := 0, cells := 0, slots := 0, locals := 0 }
set_option maxHeartbeats 40000000 in
set_option maxRecDepth 100000 in
theorem c_X9_massIn (l : Launch) (D : va_G) (cy : Nat → Nat) (aM : Nat → Nat) (x1 : Int32) (imM : Mem) (inM : MemL) (r' : Int64) (hE : f_X9_massIn x1 imM inM = some r') : CL l yX9_massIn wsX9_massIn rm_X9_massIn D cy [.ref (aM 0), .int x1] (W_M cy aM imM inM) 0 0 r' (W_M cy aM imM inM) := by
  refine CQ_of (cc := cX9_massIn) (maxL := 5) (ret := (some .long)) (by decide) rfl (Nat.le_of_ble_eq_true rfl) (fun p e s m args below meth c A ls hx hb hr hml hlocks hnm hown hts hA hK hN hP hD hS hl => ?_)
  have hown : s.vm.findClass RX9 = some m.cls := hown
  have hl : lv_has ls 5 [(0, .ref (aM 0)), (1, .int x1)] := hl
  have f7 : (Cond.fieldLink RX9 7 "IcePlantModel" "w" "[J").before args s = true := hts _ (mC qf_X9_7)
  have iX9 : ∀ w ∈ wsX90, w ∈ wsX9_massIn := fun w h => mC (iA_X9 w h)
  have h5 : ∀ (x1 : Int32), ∀ (n : Nat), ∀ (x2 : Int64) (x4 : Int32) (H : Heap) (locs : List Loc) (ls : Array Slot), f_X9_massIn_L5 x1 imM inM n x2 x4 = some r' → va_P D vwCl (W_M cy aM imM inM) H → va_D A (W_M cy aM imM inM) → va_S A s.heap H locs → lv_has ls 5 [(0, .ref (aM 0)), (1, .int x1), (2, .long x2), (4, .int x4)] → W p l e rm_X9_massIn s m args below meth c H locs 0 0 (MQ below (QL D cy r' (W_M cy aM imM inM) A) args s 0 0 A) (F0 m 5 ls []) := by
    intro x1 n
    induction n with
    | zero => intro x2 x4 H locs ls hE; exact absurd hE (fun h9 => nomatch h9)
    | succ n ih =>
      intro x2 x4 H locs ls hE hP hD hS hl
      replace hE : (gi ((47 : Int32) + x1) 1888 ((if 0 ≤ (lg_cmp (x4.toInt64) (inM 0 ((47 : Int32) + x1).toNatClampNeg)) then some x2 else gi (((207 : Int32) + ((30 : Int32) * x1)) + x4) 1888 (lt' (x2 + (inM 0 (((207 : Int32) + ((30 : Int32) * x1)) + x4).toNatClampNeg)) fun x2_4 => lt' (x4 + (1 : Int32)) fun x4_5 => (f_X9_massIn_L5 x1 imM inM n) x2_4 x4_5)))) = some r' := hE
      refine lv_iload hx hb dX9_massIn_5 (lv_at hl 3 rfl) ?_
      refine lv_i2l hx hb dX9_massIn_7 rfl ?_
      refine lv_aload_n hx hb dX9_massIn_8 rfl (lv_at hl 0 rfl) ?_
      refine va_get (D := D) (ci := 9) (v := .ref (aM 1)) (C := RX9) (T := TX9) (N := 13) hx hb hts iX9 hown hK hP 0 rfl rfl 0 (by decide) f7 (fun _ h9 => h9) rfl dX9_massIn_9 ?_
      refine lv_bipush (v := 47) hx hb dX9_massIn_12 (by decide) ?_
      refine lv_iload_n hx hb dX9_massIn_14 rfl (lv_at hl 1 rfl) ?_
      refine lv_iadd hx hb dX9_massIn_15 ?_
      obtain ⟨g_1, hE⟩ := gi_el hE
      refine va_lald hx hb hK hP 1 1 rfl rfl g_1 dX9_massIn_16 ?_
      refine W.lcmp hx hb dX9_massIn_17 ?_
      refine lv_if_ge (tgt := 46) hx hb dX9_massIn_18 (by decide) (fun c_2 => ?_) (fun c_2 => ?_)
      · replace hE := it_t hE c_2
        refine lv_lload_n hx hb dX9_massIn_46 rfl (lv_at hl 2 rfl) ?_
        have hE := Option.some.inj hE
        exact el hx hb hr hlocks hK hP hD hS hE rfl dX9_massIn_47
      · replace hE := it_f hE c_2
        refine lv_lload_n hx hb dX9_massIn_21 rfl (lv_at hl 2 rfl) ?_
        refine lv_aload_n hx hb dX9_massIn_22 rfl (lv_at hl 0 rfl) ?_
        refine va_get (D := D) (ci := 9) (v := .ref (aM 1)) (C := RX9) (T := TX9) (N := 13) hx hb hts iX9 hown hK hP 0 rfl rfl 0 (by decide) f7 (fun _ h9 => h9) rfl dX9_massIn_23 ?_
        refine lv_sipush (v := 207) hx hb dX9_massIn_26 (by decide) ?_
        refine lv_bipush (v := 30) hx hb dX9_massIn_29 (by decide) ?_
        refine lv_iload_n hx hb dX9_massIn_31 rfl (lv_at hl 1 rfl) ?_
        refine lv_imul hx hb dX9_massIn_32 ?_
        refine lv_iadd hx hb dX9_massIn_33 ?_
        refine lv_iload hx hb dX9_massIn_34 (lv_at hl 3 rfl) ?_
        refine lv_iadd hx hb dX9_massIn_36 ?_
        obtain ⟨g_3, hE⟩ := gi_el hE
        refine va_lald hx hb hK hP 1 1 rfl rfl g_3 dX9_massIn_37 ?_
        refine lv_ladd hx hb dX9_massIn_38 ?_
        obtain ⟨x2_4, e_x2_4, hE⟩ := lt_el hE
        refine s_nmL e_x2_4 ?_
        refine lv_lstore_n (lv' := [(2, .long x2_4), (0, .ref (aM 0)), (1, .int x1), (4, .int x4)]) hx hb dX9_massIn_39 rfl hl (by decide) rfl (fun ls hl => ?_)
        obtain ⟨x4_5, e_x4_5, hE⟩ := lt_el hE
        refine lv_iinc (v := x4_5) (lv' := [(4, .int x4_5), (2, .long x2_4), (0, .ref (aM 0)), (1, .int x1)]) hx hb dX9_massIn_40 hl (k := 3) rfl (by rw [e_x4_5]; rfl) (by decide) rfl (fun ls hl => ?_)
        refine lv_goto (tgt := 5) hx hb dX9_massIn_43 (by decide) ?_
        exact ih x2_4 x4_5 _ _ _ hE hP hD hS (lv_sub hl [2, 3, 1, 0] rfl)
  unfold f_X9_massIn at hE
  refine lv_lconst (v := 0) hx hb dX9_massIn_0 (by decide) ?_
  refine lv_lstore_n (lv' := [(2, .long (0 : Int64)), (0, .ref (aM 0)), (1, .int x1)]) hx hb dX9_massIn_1 rfl hl (by decide) rfl (fun ls hl => ?_)
  refine lv_iconst (v := 0) hx hb dX9_massIn_2 (by decide) ?_
  refine lv_istore (lv' := [(4, .int (0 : Int32)), (2, .long (0 : Int64)), (0, .ref (aM 0)), (1, .int x1)]) hx hb dX9_massIn_3 hl (by decide) rfl (fun ls hl => ?_)
  exact h5 x1 fuel (0 : Int64) (0 : Int32) _ _ _ hE hP hD hS (lv_sub hl [2, 3, 1, 0] rfl)
abbrev rm_X9_silo : Room := { frames := 2, cells := 0, slots := 0, locals := 46 }
set_option maxHeartbeats 40000000 in
set_option maxRecDepth 100000 in
theorem c_X9_silo (l : Launch) (D : va_G) (cy : Nat → Nat) (aM : Nat → Nat) (x1 : Int32) (x2 : Int32) (imM : Mem) (inM : MemL) (r' : Int32) (mM' : Mem) (hE : f_X9_silo x1 x2 imM inM = some (r', mM')) : CI l yX9_silo wsX9_silo rm_X9_silo D cy [.ref (aM 0), .int x1, .int x2] (W_M cy aM imM inM) 0 0 r' (W_M cy aM mM' inM) := by
  refine CQ_of (cc := cX9_silo) (maxL := 3) (ret := (some .int)) (by decide) rfl (Nat.le_of_ble_eq_true rfl) (fun p e s m args below meth c A ls hx hb hr hml hlocks hnm hown hts hA hK hN hP hD hS hl => ?_)
  have hown : s.vm.findClass RX9 = some m.cls := hown
  have hl : lv_has ls 3 [(0, .ref (aM 0)), (1, .int x1), (2, .int x2)] := hl
  have hC : CallFix p m c cX9_silo 3 s args wsX9_silo RX9 := ⟨hx, hb, hml, hown, hts⟩
  have f7 : (Cond.fieldLink RX9 7 "IcePlantModel" "w" "[J").before args s = true := hts _ (mC qf_X9_7)
  have f43 : (Cond.fieldLink RX9 43 "IcePlantModel" "thrown" "I").before args s = true := hts _ (mC qf_X9_43)
  have iX9 : ∀ w ∈ wsX90, w ∈ wsX9_silo := fun w h => mC (iA_X9 w h)
  unfold f_X9_silo at hE
  refine lv_aload_n hx hb dX9_silo_0 rfl (lv_at hl 0 rfl) ?_
  refine lv_iconst (v := 0) hx hb dX9_silo_1 (by decide) ?_
  obtain ⟨mM_1, e_mM_1, hE⟩ := lt_el hE
  refine s_pf (own := RX9) (C := RX9) (T := TX9) (N := 13) (ci := 9) (ws1 := (W_M cy aM mM_1 inM)) hx hb hts iX9 tyX9 tyX9_ok nmX9 hown hK hP hD hS 0 rfl rfl 8 (by decide) f43 rfl rfl rfl rfl (Nat.le_of_ble_eq_true rfl) (by rw [e_mM_1]; rfl) dX9_silo_2 (fun H locs hP hD hS => ?_)
  refine lv_aload_n hx hb dX9_silo_5 rfl (lv_at hl 0 rfl) ?_
  refine lv_iload_n hx hb dX9_silo_6 rfl (lv_at hl 1 rfl) ?_
  obtain ⟨r_2, hc_3, hE⟩ := bd1_el hE
  refine ki (X := []) (Y := []) (ws1 := (W_M cy aM mM_1 inM)) (rV (X := []) (Y := []) (As := [.int x1]) (rest := []) hC (c_X9_isSilo l D cy aM x1 mM_1 inM r_2 hc_3) (cwV 1 hts gX9_silo_X9_isSilo rfl rfl rfl cd_X9_isSilo ⟨Nat.le_of_ble_eq_true rfl, Nat.le_of_ble_eq_true rfl⟩) hK hN hP hD hS hA rfl 0 9 rfl rfl rfl hl.1 rfl (lv_room (Nat.le_of_ble_eq_true rfl)) dX9_silo_7 ⟨Nat.le_of_ble_eq_true rfl, Nat.le_of_ble_eq_true rfl⟩) hP hD hS hA rfl rfl rfl (fun H locs hP hD hS => ?_)
  refine lv_if_ne (tgt := 19) hx hb dX9_silo_10 (by decide) (fun c_4 => ?_) (fun c_4 => ?_)
  · replace hE := it_f hE c_4
    refine lv_iload_n hx hb dX9_silo_19 rfl (lv_at hl 2 rfl) ?_
    by_cases c_8_0 : x2 = 0
    · replace hE := it_t hE c_8_0
      refine lv_tableIn (tgt := 60) hx hb dX9_silo_20 (by rw [c_8_0]; decide) (by rw [c_8_0]; decide) (off := 40) (by rw [c_8_0]; decide) (by decide) ?_
      refine lv_aload_n hx hb dX9_silo_60 rfl (lv_at hl 0 rfl) ?_
      refine va_get (D := D) (ci := 9) (v := .ref (aM 1)) (C := RX9) (T := TX9) (N := 13) hx hb hts iX9 hown hK hP 0 rfl rfl 0 (by decide) f7 (fun _ h9 => h9) rfl dX9_silo_61 ?_
      refine lv_bipush (v := 32) hx hb dX9_silo_64 (by decide) ?_
      refine lv_iload_n hx hb dX9_silo_66 rfl (lv_at hl 1 rfl) ?_
      refine lv_iadd hx hb dX9_silo_67 ?_
      obtain ⟨g_15, hE⟩ := gi_el hE
      refine va_lald hx hb hK hP 1 1 rfl rfl g_15 dX9_silo_68 ?_
      refine lv_l2i hx hb dX9_silo_69 rfl ?_
      have hE := Option.some.inj hE
      obtain ⟨q0, q1⟩ := Prod.mk.inj hE
      exact ei hx hb hr hlocks hK hP hD hS q0 (by rw [q1]) dX9_silo_70
    · replace hE := it_f hE c_8_0
      by_cases c_8_1 : x2 = 1
      · replace hE := it_t hE c_8_1
        refine lv_tableIn (tgt := 71) hx hb dX9_silo_20 (by rw [c_8_1]; decide) (by rw [c_8_1]; decide) (off := 51) (by rw [c_8_1]; decide) (by decide) ?_
        refine lv_aload_n hx hb dX9_silo_71 rfl (lv_at hl 0 rfl) ?_
        refine va_get (D := D) (ci := 9) (v := .ref (aM 1)) (C := RX9) (T := TX9) (N := 13) hx hb hts iX9 hown hK hP 0 rfl rfl 0 (by decide) f7 (fun _ h9 => h9) rfl dX9_silo_72 ?_
        refine lv_bipush (v := 37) hx hb dX9_silo_75 (by decide) ?_
        refine lv_iload_n hx hb dX9_silo_77 rfl (lv_at hl 1 rfl) ?_
        refine lv_iadd hx hb dX9_silo_78 ?_
        obtain ⟨g_14, hE⟩ := gi_el hE
        refine va_lald hx hb hK hP 1 1 rfl rfl g_14 dX9_silo_79 ?_
        refine lv_l2i hx hb dX9_silo_80 rfl ?_
        have hE := Option.some.inj hE
        obtain ⟨q0, q1⟩ := Prod.mk.inj hE
        exact ei hx hb hr hlocks hK hP hD hS q0 (by rw [q1]) dX9_silo_81
      · replace hE := it_f hE c_8_1
        by_cases c_8_2 : x2 = 2
        · replace hE := it_t hE c_8_2
          refine lv_tableIn (tgt := 82) hx hb dX9_silo_20 (by rw [c_8_2]; decide) (by rw [c_8_2]; decide) (off := 62) (by rw [c_8_2]; decide) (by decide) ?_
          refine lv_aload_n hx hb dX9_silo_82 rfl (lv_at hl 0 rfl) ?_
          refine va_get (D := D) (ci := 9) (v := .ref (aM 1)) (C := RX9) (T := TX9) (N := 13) hx hb hts iX9 hown hK hP 0 rfl rfl 0 (by decide) f7 (fun _ h9 => h9) rfl dX9_silo_83 ?_
          refine lv_bipush (v := 42) hx hb dX9_silo_86 (by decide) ?_
          refine lv_iload_n hx hb dX9_silo_88 rfl (lv_at hl 1 rfl) ?_
          refine lv_iadd hx hb dX9_silo_89 ?_
          obtain ⟨g_13, hE⟩ := gi_el hE
          refine va_lald hx hb hK hP 1 1 rfl rfl g_13 dX9_silo_90 ?_
          refine lv_l2i hx hb dX9_silo_91 rfl ?_
          have hE := Option.some.inj hE
          obtain ⟨q0, q1⟩ := Prod.mk.inj hE
          exact ei hx hb hr hlocks hK hP hD hS q0 (by rw [q1]) dX9_silo_92
        · replace hE := it_f hE c_8_2
          by_cases c_8_3 : x2 = 3
          · replace hE := it_t hE c_8_3
            refine lv_tableIn (tgt := 93) hx hb dX9_silo_20 (by rw [c_8_3]; decide) (by rw [c_8_3]; decide) (off := 73) (by rw [c_8_3]; decide) (by decide) ?_
            refine lv_aload_n hx hb dX9_silo_93 rfl (lv_at hl 0 rfl) ?_
            refine va_get (D := D) (ci := 9) (v := .ref (aM 1)) (C := RX9) (T := TX9) (N := 13) hx hb hts iX9 hown hK hP 0 rfl rfl 0 (by decide) f7 (fun _ h9 => h9) rfl dX9_silo_94 ?_
            refine lv_bipush (v := 47) hx hb dX9_silo_97 (by decide) ?_
            refine lv_iload_n hx hb dX9_silo_99 rfl (lv_at hl 1 rfl) ?_
            refine lv_iadd hx hb dX9_silo_100 ?_
            obtain ⟨g_12, hE⟩ := gi_el hE
            refine va_lald hx hb hK hP 1 1 rfl rfl g_12 dX9_silo_101 ?_
            refine lv_l2i hx hb dX9_silo_102 rfl ?_
            have hE := Option.some.inj hE
            obtain ⟨q0, q1⟩ := Prod.mk.inj hE
            exact ei hx hb hr hlocks hK hP hD hS q0 (by rw [q1]) dX9_silo_103
          · replace hE := it_f hE c_8_3
            by_cases c_8_4 : x2 = 4
            · replace hE := it_t hE c_8_4
              refine lv_tableIn (tgt := 104) hx hb dX9_silo_20 (by rw [c_8_4]; decide) (by rw [c_8_4]; decide) (off := 84) (by rw [c_8_4]; decide) (by decide) ?_
              refine lv_aload_n hx hb dX9_silo_104 rfl (lv_at hl 0 rfl) ?_
              refine lv_iload_n hx hb dX9_silo_105 rfl (lv_at hl 1 rfl) ?_
              obtain ⟨r_10, hc_11, hE⟩ := bd1_el hE
              refine kl (X := []) (Y := []) (ws1 := (W_M cy aM mM_1 inM)) (rV (X := []) (Y := []) (As := [.int x1]) (rest := []) hC (c_X9_massIn l D cy aM x1 mM_1 inM r_10 hc_11) (cwV 1 hts gX9_silo_X9_massIn rfl rfl rfl cd_X9_massIn ⟨Nat.le_of_ble_eq_true rfl, Nat.le_of_ble_eq_true rfl⟩) hK hN hP hD hS hA rfl 0 9 rfl rfl rfl hl.1 rfl (lv_room (Nat.le_of_ble_eq_true rfl)) dX9_silo_106 ⟨Nat.le_of_ble_eq_true rfl, Nat.le_of_ble_eq_true rfl⟩) hP hD hS hA rfl rfl rfl (fun H locs hP hD hS => ?_)
              refine lv_l2i hx hb dX9_silo_109 rfl ?_
              have hE := Option.some.inj hE
              obtain ⟨q0, q1⟩ := Prod.mk.inj hE
              exact ei hx hb hr hlocks hK hP hD hS q0 (by rw [q1]) dX9_silo_110
            · replace hE := it_f hE c_8_4
              by_cases c_8_5 : x2 = 5
              · replace hE := it_t hE c_8_5
                refine lv_tableIn (tgt := 111) hx hb dX9_silo_20 (by rw [c_8_5]; decide) (by rw [c_8_5]; decide) (off := 91) (by rw [c_8_5]; decide) (by decide) ?_
                refine lv_aload_n hx hb dX9_silo_111 rfl (lv_at hl 0 rfl) ?_
                refine va_get (D := D) (ci := 9) (v := .ref (aM 1)) (C := RX9) (T := TX9) (N := 13) hx hb hts iX9 hown hK hP 0 rfl rfl 0 (by decide) f7 (fun _ h9 => h9) rfl dX9_silo_112 ?_
                refine lv_bipush (v := 52) hx hb dX9_silo_115 (by decide) ?_
                refine lv_iload_n hx hb dX9_silo_117 rfl (lv_at hl 1 rfl) ?_
                refine lv_iadd hx hb dX9_silo_118 ?_
                obtain ⟨g_9, hE⟩ := gi_el hE
                refine va_lald hx hb hK hP 1 1 rfl rfl g_9 dX9_silo_119 ?_
                refine lv_l2i hx hb dX9_silo_120 rfl ?_
                have hE := Option.some.inj hE
                obtain ⟨q0, q1⟩ := Prod.mk.inj hE
                exact ei hx hb hr hlocks hK hP hD hS q0 (by rw [q1]) dX9_silo_121
              · replace hE := it_f hE c_8_5
                refine lv_tableOut (tgt := 122) hx hb dX9_silo_20 (sw_out (lo := 0) (hi := 5) (fun z h1 h2 => ?_)) (by decide) ?_
                · rcases (show z = 0 ∨ z = 1 ∨ z = 2 ∨ z = 3 ∨ z = 4 ∨ z = 5 by omega) with rfl | rfl | rfl | rfl | rfl | rfl
                  · exact fun q9 => c_8_0 (q9.trans (by decide))
                  · exact fun q9 => c_8_1 (q9.trans (by decide))
                  · exact fun q9 => c_8_2 (q9.trans (by decide))
                  · exact fun q9 => c_8_3 (q9.trans (by decide))
                  · exact fun q9 => c_8_4 (q9.trans (by decide))
                  · exact fun q9 => c_8_5 (q9.trans (by decide))
                · refine lv_aload_n hx hb dX9_silo_122 rfl (lv_at hl 0 rfl) ?_
                  refine lv_iconst (v := 2) hx hb dX9_silo_123 (by decide) ?_
                  obtain ⟨r_5, mM_6, hc_7, hE⟩ := bd2_el hE
                  refine ki (X := []) (Y := []) (ws1 := (W_M cy aM mM_6 inM)) (rV (X := []) (Y := []) (As := [.int (2 : Int32)]) (rest := []) hC (c_X9_refuse l D cy aM (2 : Int32) mM_1 inM r_5 mM_6 hc_7) (cwV 1 hts gX9_silo_X9_refuse rfl rfl rfl cd_X9_refuse ⟨Nat.le_of_ble_eq_true rfl, Nat.le_of_ble_eq_true rfl⟩) hK hN hP hD hS hA rfl 0 9 rfl rfl rfl hl.1 rfl (lv_room (Nat.le_of_ble_eq_true rfl)) dX9_silo_124 ⟨Nat.le_of_ble_eq_true rfl, Nat.le_of_ble_eq_true rfl⟩) hP hD hS hA rfl rfl rfl (fun H locs hP hD hS => ?_)
                  have hE := Option.some.inj hE
                  obtain ⟨q0, q1⟩ := Prod.mk.inj hE
                  exact ei hx hb hr hlocks hK hP hD hS q0 (by rw [q1]) dX9_silo_127
  · replace hE := it_t hE c_4
    refine lv_aload_n hx hb dX9_silo_13 rfl (lv_at hl 0 rfl) ?_
    refine lv_iconst (v := 1) hx hb dX9_silo_14 (by decide) ?_
    obtain ⟨r_16, mM_17, hc_18, hE⟩ := bd2_el hE
    refine ki (X := []) (Y := []) (ws1 := (W_M cy aM mM_17 inM)) (rV (X := []) (Y := []) (As := [.int (1 : Int32)]) (rest := []) hC (c_X9_refuse l D cy aM (1 : Int32) mM_1 inM r_16 mM_17 hc_18) (cwV 1 hts gX9_silo_X9_refuse rfl rfl rfl cd_X9_refuse ⟨Nat.le_of_ble_eq_true rfl, Nat.le_of_ble_eq_true rfl⟩) hK hN hP hD hS hA rfl 0 9 rfl rfl rfl hl.1 rfl (lv_room (Nat.le_of_ble_eq_true rfl)) dX9_silo_15 ⟨Nat.le_of_ble_eq_true rfl, Nat.le_of_ble_eq_true rfl⟩) hP hD hS hA rfl rfl rfl (fun H locs hP hD hS => ?_)
    have hE := Option.some.inj hE
    obtain ⟨q0, q1⟩ := Prod.mk.inj hE
    exact ei hx hb hr hlocks hK hP hD hS q0 (by rw [q1]) dX9_silo_18
abbrev rm_X9_block : Room := { frames := 2, cells := 0, slots := 0, locals := 46 }
set_option maxHeartbeats 40000000 in
set_option maxRecDepth 100000 in
theorem c_X9_block (l : Launch) (D : va_G) (cy : Nat → Nat) (aM : Nat → Nat) (x1 : Int32) (x2 : Int32) (x3 : Int32) (imM : Mem) (inM : MemL) (r' : Int32) (mM' : Mem) (hE : f_X9_block x1 x2 x3 imM inM = some (r', mM')) : CI l yX9_block wsX9_block rm_X9_block D cy [.ref (aM 0), .int x1, .int x2, .int x3] (W_M cy aM imM inM) 0 0 r' (W_M cy aM mM' inM) := by
  refine CQ_of (cc := cX9_block) (maxL := 5) (ret := (some .int)) (by decide) rfl (Nat.le_of_ble_eq_true rfl) (fun p e s m args below meth c A ls hx hb hr hml hlocks hnm hown hts hA hK hN hP hD hS hl => ?_)
  have hown : s.vm.findClass RX9 = some m.cls := hown
  have hl : lv_has ls 5 [(0, .ref (aM 0)), (1, .int x1), (2, .int x2), (3, .int x3)] := hl
  have hC : CallFix p m c cX9_block 5 s args wsX9_block RX9 := ⟨hx, hb, hml, hown, hts⟩
  have f7 : (Cond.fieldLink RX9 7 "IcePlantModel" "w" "[J").before args s = true := hts _ (mC qf_X9_7)
  have f43 : (Cond.fieldLink RX9 43 "IcePlantModel" "thrown" "I").before args s = true := hts _ (mC qf_X9_43)
  have iX9 : ∀ w ∈ wsX90, w ∈ wsX9_block := fun w h => mC (iA_X9 w h)
  have h33 : ∀ (mM : Mem), ∀  (H : Heap) (locs : List Loc) (ls : Array Slot), f_X9_block_b33 mM inM = some (r', mM') → va_P D vwCl (W_M cy aM mM inM) H → va_D A (W_M cy aM mM inM) → va_S A s.heap H locs → lv_has ls 5 [(0, .ref (aM 0))] → W p l e rm_X9_block s m args below meth c H locs 0 0 (MQ below (QI D cy r' (W_M cy aM mM' inM) A) args s 0 0 A) (F0 m 33 ls []) := by
    intro mM H locs ls hE hP hD hS hl
    replace hE : (bd2 (f_X9_refuse (1 : Int32) mM inM) fun r_1 mM_2 => some (r_1, mM_2)) = some (r', mM') := hE
    refine lv_aload_n hx hb dX9_block_33 rfl (lv_at hl 0 rfl) ?_
    refine lv_iconst (v := 1) hx hb dX9_block_34 (by decide) ?_
    obtain ⟨r_1, mM_2, hc_3, hE⟩ := bd2_el hE
    refine ki (X := []) (Y := []) (ws1 := (W_M cy aM mM_2 inM)) (rV (X := []) (Y := []) (As := [.int (1 : Int32)]) (rest := []) hC (c_X9_refuse l D cy aM (1 : Int32) mM inM r_1 mM_2 hc_3) (cwV 1 hts gX9_block_X9_refuse rfl rfl rfl cd_X9_refuse ⟨Nat.le_of_ble_eq_true rfl, Nat.le_of_ble_eq_true rfl⟩) hK hN hP hD hS hA rfl 0 9 rfl rfl rfl hl.1 rfl (lv_room (Nat.le_of_ble_eq_true rfl)) dX9_block_35 ⟨Nat.le_of_ble_eq_true rfl, Nat.le_of_ble_eq_true rfl⟩) hP hD hS hA rfl rfl rfl (fun H locs hP hD hS => ?_)
    have hE := Option.some.inj hE
    obtain ⟨q0, q1⟩ := Prod.mk.inj hE
    exact ei hx hb hr hlocks hK hP hD hS q0 (by rw [q1]) dX9_block_38
  unfold f_X9_block at hE
  refine lv_aload_n hx hb dX9_block_0 rfl (lv_at hl 0 rfl) ?_
  refine lv_iconst (v := 0) hx hb dX9_block_1 (by decide) ?_
  obtain ⟨mM_4, e_mM_4, hE⟩ := lt_el hE
  refine s_pf (own := RX9) (C := RX9) (T := TX9) (N := 13) (ci := 9) (ws1 := (W_M cy aM mM_4 inM)) hx hb hts iX9 tyX9 tyX9_ok nmX9 hown hK hP hD hS 0 rfl rfl 8 (by decide) f43 rfl rfl rfl rfl (Nat.le_of_ble_eq_true rfl) (by rw [e_mM_4]; rfl) dX9_block_2 (fun H locs hP hD hS => ?_)
  refine lv_aload_n hx hb dX9_block_5 rfl (lv_at hl 0 rfl) ?_
  refine lv_iload_n hx hb dX9_block_6 rfl (lv_at hl 1 rfl) ?_
  obtain ⟨r_5, hc_6, hE⟩ := bd1_el hE
  refine ki (X := []) (Y := []) (ws1 := (W_M cy aM mM_4 inM)) (rV (X := []) (Y := []) (As := [.int x1]) (rest := []) hC (c_X9_isSilo l D cy aM x1 mM_4 inM r_5 hc_6) (cwV 1 hts gX9_block_X9_isSilo rfl rfl rfl cd_X9_isSilo ⟨Nat.le_of_ble_eq_true rfl, Nat.le_of_ble_eq_true rfl⟩) hK hN hP hD hS hA rfl 0 9 rfl rfl rfl hl.1 rfl (lv_room (Nat.le_of_ble_eq_true rfl)) dX9_block_7 ⟨Nat.le_of_ble_eq_true rfl, Nat.le_of_ble_eq_true rfl⟩) hP hD hS hA rfl rfl rfl (fun H locs hP hD hS => ?_)
  refine lv_if_eq (tgt := 33) hx hb dX9_block_10 (by decide) (fun c_7 => ?_) (fun c_7 => ?_)
  · replace hE := it_t hE c_7
    exact h33 mM_4 _ _ _ hE hP hD hS (lv_sub hl [0] rfl)
  · replace hE := it_f hE c_7
    refine lv_iload_n hx hb dX9_block_13 rfl (lv_at hl 2 rfl) ?_
    refine lv_i2l hx hb dX9_block_14 rfl ?_
    refine lv_lconst (v := 0) hx hb dX9_block_15 (by decide) ?_
    refine lv_aload_n hx hb dX9_block_16 rfl (lv_at hl 0 rfl) ?_
    refine va_get (D := D) (ci := 9) (v := .ref (aM 1)) (C := RX9) (T := TX9) (N := 13) hx hb hts iX9 hown hK hP 0 rfl rfl 0 (by decide) f7 (fun _ h9 => h9) rfl dX9_block_17 ?_
    refine lv_bipush (v := 47) hx hb dX9_block_20 (by decide) ?_
    refine lv_iload_n hx hb dX9_block_22 rfl (lv_at hl 1 rfl) ?_
    refine lv_iadd hx hb dX9_block_23 ?_
    obtain ⟨g_8, hE⟩ := gi_el hE
    refine va_lald hx hb hK hP 1 1 rfl rfl g_8 dX9_block_24 ?_
    refine lv_lconst (v := 1) hx hb dX9_block_25 (by decide) ?_
    refine lv_lsub hx hb dX9_block_26 ?_
    obtain ⟨r_9, hc_10, hE⟩ := bd1_el hE
    refine ki (X := []) (Y := (W_M cy aM mM_4 inM)) (ws1 := (W_M cy aM mM_4 inM)) (rS (X := []) (Y := (W_M cy aM mM_4 inM)) (As := [.long (x2.toInt64), .long (0 : Int64), .long ((inM 0 ((47 : Int32) + x1).toNatClampNeg) - (1 : Int64))]) (rest := []) hC (c_X9_in l D cy (x2.toInt64) (0 : Int64) ((inM 0 ((47 : Int32) + x1).toNatClampNeg) - (1 : Int64)) r_9 hc_10) (cwS 3 hts gX9_block_X9_in rfl rfl rfl cd_X9_in ⟨Nat.le_of_ble_eq_true rfl, Nat.le_of_ble_eq_true rfl⟩) hK hN hP hD hS hA rfl rfl hl.1 rfl (lv_room (Nat.le_of_ble_eq_true rfl)) dX9_block_27 ⟨Nat.le_of_ble_eq_true rfl, Nat.le_of_ble_eq_true rfl⟩) hP hD hS hA rfl rfl rfl (fun H locs hP hD hS => ?_)
    refine lv_if_ne (tgt := 39) hx hb dX9_block_30 (by decide) (fun c_11 => ?_) (fun c_11 => ?_)
    · replace hE := it_f hE c_11
      refine lv_bipush (v := 30) hx hb dX9_block_39 (by decide) ?_
      refine lv_iload_n hx hb dX9_block_41 rfl (lv_at hl 1 rfl) ?_
      refine lv_imul hx hb dX9_block_42 ?_
      refine lv_iload_n hx hb dX9_block_43 rfl (lv_at hl 2 rfl) ?_
      refine lv_iadd hx hb dX9_block_44 ?_
      obtain ⟨x4_12, e_x4_12, hE⟩ := lt_el hE
      refine s_nm e_x4_12 ?_
      refine lv_istore (lv' := [(4, .int x4_12), (0, .ref (aM 0)), (1, .int x1), (2, .int x2), (3, .int x3)]) hx hb dX9_block_45 hl (by decide) rfl (fun ls hl => ?_)
      refine lv_iload_n hx hb dX9_block_47 rfl (lv_at hl 4 rfl) ?_
      by_cases c_16_0 : x3 = 0
      · replace hE := it_t hE c_16_0
        refine lv_tableIn (tgt := 76) hx hb dX9_block_48 (by rw [c_16_0]; decide) (by rw [c_16_0]; decide) (off := 28) (by rw [c_16_0]; decide) (by decide) ?_
        refine lv_aload_n hx hb dX9_block_76 rfl (lv_at hl 1 rfl) ?_
        refine va_get (D := D) (ci := 9) (v := .ref (aM 1)) (C := RX9) (T := TX9) (N := 13) hx hb hts iX9 hown hK hP 0 rfl rfl 0 (by decide) f7 (fun _ h9 => h9) rfl dX9_block_77 ?_
        refine lv_bipush (v := 57) hx hb dX9_block_80 (by decide) ?_
        refine lv_iload hx hb dX9_block_82 (lv_at hl 0 rfl) ?_
        refine lv_iadd hx hb dX9_block_84 ?_
        obtain ⟨g_19, hE⟩ := gi_el hE
        refine va_lald hx hb hK hP 1 1 rfl rfl g_19 dX9_block_85 ?_
        refine lv_l2i hx hb dX9_block_86 rfl ?_
        have hE := Option.some.inj hE
        obtain ⟨q0, q1⟩ := Prod.mk.inj hE
        exact ei hx hb hr hlocks hK hP hD hS q0 (by rw [q1]) dX9_block_87
      · replace hE := it_f hE c_16_0
        by_cases c_16_1 : x3 = 1
        · replace hE := it_t hE c_16_1
          refine lv_tableIn (tgt := 88) hx hb dX9_block_48 (by rw [c_16_1]; decide) (by rw [c_16_1]; decide) (off := 40) (by rw [c_16_1]; decide) (by decide) ?_
          refine lv_aload_n hx hb dX9_block_88 rfl (lv_at hl 1 rfl) ?_
          refine va_get (D := D) (ci := 9) (v := .ref (aM 1)) (C := RX9) (T := TX9) (N := 13) hx hb hts iX9 hown hK hP 0 rfl rfl 0 (by decide) f7 (fun _ h9 => h9) rfl dX9_block_89 ?_
          refine lv_sipush (v := 207) hx hb dX9_block_92 (by decide) ?_
          refine lv_iload hx hb dX9_block_95 (lv_at hl 0 rfl) ?_
          refine lv_iadd hx hb dX9_block_97 ?_
          obtain ⟨g_18, hE⟩ := gi_el hE
          refine va_lald hx hb hK hP 1 1 rfl rfl g_18 dX9_block_98 ?_
          refine lv_l2i hx hb dX9_block_99 rfl ?_
          have hE := Option.some.inj hE
          obtain ⟨q0, q1⟩ := Prod.mk.inj hE
          exact ei hx hb hr hlocks hK hP hD hS q0 (by rw [q1]) dX9_block_100
        · replace hE := it_f hE c_16_1
          by_cases c_16_2 : x3 = 2
          · replace hE := it_t hE c_16_2
            refine lv_tableIn (tgt := 101) hx hb dX9_block_48 (by rw [c_16_2]; decide) (by rw [c_16_2]; decide) (off := 53) (by rw [c_16_2]; decide) (by decide) ?_
            refine lv_aload_n hx hb dX9_block_101 rfl (lv_at hl 1 rfl) ?_
            refine va_get (D := D) (ci := 9) (v := .ref (aM 1)) (C := RX9) (T := TX9) (N := 13) hx hb hts iX9 hown hK hP 0 rfl rfl 0 (by decide) f7 (fun _ h9 => h9) rfl dX9_block_102 ?_
            refine lv_sipush (v := 357) hx hb dX9_block_105 (by decide) ?_
            refine lv_iload hx hb dX9_block_108 (lv_at hl 0 rfl) ?_
            refine lv_iadd hx hb dX9_block_110 ?_
            obtain ⟨g_17, hE⟩ := gi_el hE
            refine va_lald hx hb hK hP 1 1 rfl rfl g_17 dX9_block_111 ?_
            refine lv_l2i hx hb dX9_block_112 rfl ?_
            have hE := Option.some.inj hE
            obtain ⟨q0, q1⟩ := Prod.mk.inj hE
            exact ei hx hb hr hlocks hK hP hD hS q0 (by rw [q1]) dX9_block_113
          · replace hE := it_f hE c_16_2
            refine lv_tableOut (tgt := 114) hx hb dX9_block_48 (sw_out (lo := 0) (hi := 2) (fun z h1 h2 => ?_)) (by decide) ?_
            · rcases (show z = 0 ∨ z = 1 ∨ z = 2 by omega) with rfl | rfl | rfl
              · exact fun q9 => c_16_0 (q9.trans (by decide))
              · exact fun q9 => c_16_1 (q9.trans (by decide))
              · exact fun q9 => c_16_2 (q9.trans (by decide))
            · refine lv_aload_n hx hb dX9_block_114 rfl (lv_at hl 1 rfl) ?_
              refine lv_iconst (v := 2) hx hb dX9_block_115 (by decide) ?_
              obtain ⟨r_13, mM_14, hc_15, hE⟩ := bd2_el hE
              refine ki (X := []) (Y := []) (ws1 := (W_M cy aM mM_14 inM)) (rV (X := []) (Y := []) (As := [.int (2 : Int32)]) (rest := []) hC (c_X9_refuse l D cy aM (2 : Int32) mM_4 inM r_13 mM_14 hc_15) (cwV 1 hts gX9_block_X9_refuse rfl rfl rfl cd_X9_refuse ⟨Nat.le_of_ble_eq_true rfl, Nat.le_of_ble_eq_true rfl⟩) hK hN hP hD hS hA rfl 0 9 rfl rfl rfl hl.1 rfl (lv_room (Nat.le_of_ble_eq_true rfl)) dX9_block_116 ⟨Nat.le_of_ble_eq_true rfl, Nat.le_of_ble_eq_true rfl⟩) hP hD hS hA rfl rfl rfl (fun H locs hP hD hS => ?_)
              have hE := Option.some.inj hE
              obtain ⟨q0, q1⟩ := Prod.mk.inj hE
              exact ei hx hb hr hlocks hK hP hD hS q0 (by rw [q1]) dX9_block_119
    · replace hE := it_t hE c_11
      exact h33 mM_4 _ _ _ hE hP hD hS (lv_sub hl [0] rfl)
abbrev rm_X9_openOf : Room := { frames := 0, cells := 0, slots := 0, locals := 0 }
set_option maxHeartbeats 40000000 in
set_option maxRecDepth 100000 in
theorem c_X9_openOf (l : Launch) (D : va_G) (cy : Nat → Nat) (aM : Nat → Nat) (x1 : Int32) (imM : Mem) (inM : MemL) (r' : Int32) (hE : f_X9_openOf x1 imM inM = some r') : CI l yX9_openOf wsX9_openOf rm_X9_openOf D cy [.ref (aM 0), .int x1] (W_M cy aM imM inM) 0 0 r' (W_M cy aM imM inM) := by
  refine CQ_of (cc := cX9_openOf) (maxL := 4) (ret := (some .int)) (by decide) rfl (Nat.le_of_ble_eq_true rfl) (fun p e s m args below meth c A ls hx hb hr hml hlocks hnm hown hts hA hK hN hP hD hS hl => ?_)
  have hown : s.vm.findClass RX9 = some m.cls := hown
  have hl : lv_has ls 4 [(0, .ref (aM 0)), (1, .int x1)] := hl
  have f7 : (Cond.fieldLink RX9 7 "IcePlantModel" "w" "[J").before args s = true := hts _ (mC qf_X9_7)
  have iX9 : ∀ w ∈ wsX90, w ∈ wsX9_openOf := fun w h => mC (iA_X9 w h)
  have h55 : ∀ (x1 : Int32) (x3 : Int32) (t0 : Int32) (t1 : Int32), ∀ (k4 : (Int32 → Int32 → Option (Int32))), (∀ (x2 : Int32) (x3 : Int32) (H : Heap) (locs : List Loc) (ls : Array Slot), k4 x2 x3 = some r' → va_P D vwCl (W_M cy aM imM inM) H → va_D A (W_M cy aM imM inM) → va_S A s.heap H locs → lv_has ls 4 [(0, .ref (aM 0)), (1, .int x1), (2, .int x2), (3, .int x3)] → W p l e rm_X9_openOf s m args below meth c H locs 0 0 (MQ below (QI D cy r' (W_M cy aM imM inM) A) args s 0 0 A) (F0 m 4 ls [])) → ∀  (H : Heap) (locs : List Loc) (ls : Array Slot), f_X9_openOf_b55 k4 x1 x3 t0 t1 imM inM = some r' → va_P D vwCl (W_M cy aM imM inM) H → va_D A (W_M cy aM imM inM) → va_S A s.heap H locs → lv_has ls 4 [(0, .ref (aM 0)), (1, .int x1), (3, .int x3)] → W p l e rm_X9_openOf s m args below meth c H locs 0 0 (MQ below (QI D cy r' (W_M cy aM imM inM) A) args s 0 0 A) (F0 m 55 ls [.int t0, .int t1]) := by
    intro x1 x3 t0 t1 k4 hk4 H locs ls hE hP hD hS hl
    replace hE : (lt' (t1 + t0) fun x2_1 => lt' (x3 + (1 : Int32)) fun x3_2 => k4 x2_1 x3_2) = some r' := hE
    refine lv_iadd hx hb dX9_openOf_55 ?_
    obtain ⟨x2_1, e_x2_1, hE⟩ := lt_el hE
    refine s_nm e_x2_1 ?_
    refine lv_istore_n (lv' := [(2, .int x2_1), (0, .ref (aM 0)), (1, .int x1), (3, .int x3)]) hx hb dX9_openOf_56 rfl hl (by decide) rfl (fun ls hl => ?_)
    obtain ⟨x3_2, e_x3_2, hE⟩ := lt_el hE
    refine lv_iinc (v := x3_2) (lv' := [(3, .int x3_2), (2, .int x2_1), (0, .ref (aM 0)), (1, .int x1)]) hx hb dX9_openOf_57 hl (k := 3) rfl (by rw [e_x3_2]; rfl) (by decide) rfl (fun ls hl => ?_)
    refine lv_goto (tgt := 4) hx hb dX9_openOf_60 (by decide) ?_
    exact hk4 x2_1 x3_2 _ _ _ hE hP hD hS (lv_sub hl [2, 3, 1, 0] rfl)
  have h54 : ∀ (x1 : Int32) (x3 : Int32) (t0 : Int32), ∀ (k4 : (Int32 → Int32 → Option (Int32))), (∀ (x2 : Int32) (x3 : Int32) (H : Heap) (locs : List Loc) (ls : Array Slot), k4 x2 x3 = some r' → va_P D vwCl (W_M cy aM imM inM) H → va_D A (W_M cy aM imM inM) → va_S A s.heap H locs → lv_has ls 4 [(0, .ref (aM 0)), (1, .int x1), (2, .int x2), (3, .int x3)] → W p l e rm_X9_openOf s m args below meth c H locs 0 0 (MQ below (QI D cy r' (W_M cy aM imM inM) A) args s 0 0 A) (F0 m 4 ls [])) → ∀  (H : Heap) (locs : List Loc) (ls : Array Slot), f_X9_openOf_b54 k4 x1 x3 t0 imM inM = some r' → va_P D vwCl (W_M cy aM imM inM) H → va_D A (W_M cy aM imM inM) → va_S A s.heap H locs → lv_has ls 4 [(0, .ref (aM 0)), (1, .int x1), (3, .int x3)] → W p l e rm_X9_openOf s m args below meth c H locs 0 0 (MQ below (QI D cy r' (W_M cy aM imM inM) A) args s 0 0 A) (F0 m 54 ls [.int t0]) := by
    intro x1 x3 t0 k4 hk4 H locs ls hE hP hD hS hl
    replace hE : (f_X9_openOf_b55 k4 x1 x3 (0 : Int32) t0 imM inM) = some r' := hE
    refine lv_iconst (v := 0) hx hb dX9_openOf_54 (by decide) ?_
    exact h55 x1 x3 (0 : Int32) t0 k4 hk4 _ _ _ hE hP hD hS (lv_sub hl [0, 1, 2] rfl)
  have h4 : ∀ (x1 : Int32), ∀ (n : Nat), ∀ (x2 : Int32) (x3 : Int32) (H : Heap) (locs : List Loc) (ls : Array Slot), f_X9_openOf_L4 x1 imM inM n x2 x3 = some r' → va_P D vwCl (W_M cy aM imM inM) H → va_D A (W_M cy aM imM inM) → va_S A s.heap H locs → lv_has ls 4 [(0, .ref (aM 0)), (1, .int x1), (2, .int x2), (3, .int x3)] → W p l e rm_X9_openOf s m args below meth c H locs 0 0 (MQ below (QI D cy r' (W_M cy aM imM inM) A) args s 0 0 A) (F0 m 4 ls []) := by
    intro x1 n
    induction n with
    | zero => intro x2 x3 H locs ls hE; exact absurd hE (fun h9 => nomatch h9)
    | succ n ih =>
      intro x2 x3 H locs ls hE hP hD hS hl
      replace hE : ((if 0 ≤ (lg_cmp (x3.toInt64) (inM 0 (1882 : Int32).toNatClampNeg)) then some x2 else gi ((1531 : Int32) + x3) 1888 ((if (lg_cmp (inM 0 ((1531 : Int32) + x3).toNatClampNeg) (0 : Int64)) = 0 then gi ((531 : Int32) + x3) 1888 ((if (lg_cmp (inM 0 ((531 : Int32) + x3).toNatClampNeg) (x1.toInt64)) = 0 then f_X9_openOf_b55 (f_X9_openOf_L4 x1 imM inM n) x1 x3 (1 : Int32) x2 imM inM else f_X9_openOf_b54 (f_X9_openOf_L4 x1 imM inM n) x1 x3 x2 imM inM)) else f_X9_openOf_b54 (f_X9_openOf_L4 x1 imM inM n) x1 x3 x2 imM inM)))) = some r' := hE
      refine lv_iload_n hx hb dX9_openOf_4 rfl (lv_at hl 3 rfl) ?_
      refine lv_i2l hx hb dX9_openOf_5 rfl ?_
      refine lv_aload_n hx hb dX9_openOf_6 rfl (lv_at hl 0 rfl) ?_
      refine va_get (D := D) (ci := 9) (v := .ref (aM 1)) (C := RX9) (T := TX9) (N := 13) hx hb hts iX9 hown hK hP 0 rfl rfl 0 (by decide) f7 (fun _ h9 => h9) rfl dX9_openOf_7 ?_
      refine lv_sipush (v := 1882) hx hb dX9_openOf_10 (by decide) ?_
      refine va_lald hx hb hK hP 1 1 rfl rfl (show ¬ ((1882 : Int32) < 0 ∨ 1888 ≤ (1882 : Int32).toNatClampNeg) by decide) dX9_openOf_13 ?_
      refine W.lcmp hx hb dX9_openOf_14 ?_
      refine lv_if_ge (tgt := 63) hx hb dX9_openOf_15 (by decide) (fun c_3 => ?_) (fun c_3 => ?_)
      · replace hE := it_t hE c_3
        refine lv_iload_n hx hb dX9_openOf_63 rfl (lv_at hl 2 rfl) ?_
        have hE := Option.some.inj hE
        exact ei hx hb hr hlocks hK hP hD hS hE rfl dX9_openOf_64
      · replace hE := it_f hE c_3
        refine lv_iload_n hx hb dX9_openOf_18 rfl (lv_at hl 2 rfl) ?_
        refine lv_aload_n hx hb dX9_openOf_19 rfl (lv_at hl 0 rfl) ?_
        refine va_get (D := D) (ci := 9) (v := .ref (aM 1)) (C := RX9) (T := TX9) (N := 13) hx hb hts iX9 hown hK hP 0 rfl rfl 0 (by decide) f7 (fun _ h9 => h9) rfl dX9_openOf_20 ?_
        refine lv_sipush (v := 1531) hx hb dX9_openOf_23 (by decide) ?_
        refine lv_iload_n hx hb dX9_openOf_26 rfl (lv_at hl 3 rfl) ?_
        refine lv_iadd hx hb dX9_openOf_27 ?_
        obtain ⟨g_4, hE⟩ := gi_el hE
        refine va_lald hx hb hK hP 1 1 rfl rfl g_4 dX9_openOf_28 ?_
        refine lv_lconst (v := 0) hx hb dX9_openOf_29 (by decide) ?_
        refine W.lcmp hx hb dX9_openOf_30 ?_
        refine lv_if_ne (tgt := 54) hx hb dX9_openOf_31 (by decide) (fun c_5 => ?_) (fun c_5 => ?_)
        · replace hE := it_f hE c_5
          exact h54 x1 x3 x2 (f_X9_openOf_L4 x1 imM inM n) ih _ _ _ hE hP hD hS (lv_sub hl [0, 1, 3] rfl)
        · replace hE := it_t hE c_5
          refine lv_aload_n hx hb dX9_openOf_34 rfl (lv_at hl 0 rfl) ?_
          refine va_get (D := D) (ci := 9) (v := .ref (aM 1)) (C := RX9) (T := TX9) (N := 13) hx hb hts iX9 hown hK hP 0 rfl rfl 0 (by decide) f7 (fun _ h9 => h9) rfl dX9_openOf_35 ?_
          refine lv_sipush (v := 531) hx hb dX9_openOf_38 (by decide) ?_
          refine lv_iload_n hx hb dX9_openOf_41 rfl (lv_at hl 3 rfl) ?_
          refine lv_iadd hx hb dX9_openOf_42 ?_
          obtain ⟨g_6, hE⟩ := gi_el hE
          refine va_lald hx hb hK hP 1 1 rfl rfl g_6 dX9_openOf_43 ?_
          refine lv_iload_n hx hb dX9_openOf_44 rfl (lv_at hl 1 rfl) ?_
          refine lv_i2l hx hb dX9_openOf_45 rfl ?_
          refine W.lcmp hx hb dX9_openOf_46 ?_
          refine lv_if_ne (tgt := 54) hx hb dX9_openOf_47 (by decide) (fun c_7 => ?_) (fun c_7 => ?_)
          · replace hE := it_f hE c_7
            exact h54 x1 x3 x2 (f_X9_openOf_L4 x1 imM inM n) ih _ _ _ hE hP hD hS (lv_sub hl [0, 1, 3] rfl)
          · replace hE := it_t hE c_7
            refine lv_iconst (v := 1) hx hb dX9_openOf_50 (by decide) ?_
            refine lv_goto (tgt := 55) hx hb dX9_openOf_51 (by decide) ?_
            exact h55 x1 x3 (1 : Int32) x2 (f_X9_openOf_L4 x1 imM inM n) ih _ _ _ hE hP hD hS (lv_sub hl [0, 1, 3] rfl)
  unfold f_X9_openOf at hE
  refine lv_iconst (v := 0) hx hb dX9_openOf_0 (by decide) ?_
  refine lv_istore_n (lv' := [(2, .int (0 : Int32)), (0, .ref (aM 0)), (1, .int x1)]) hx hb dX9_openOf_1 rfl hl (by decide) rfl (fun ls hl => ?_)
  refine lv_iconst (v := 0) hx hb dX9_openOf_2 (by decide) ?_
  refine lv_istore_n (lv' := [(3, .int (0 : Int32)), (2, .int (0 : Int32)), (0, .ref (aM 0)), (1, .int x1)]) hx hb dX9_openOf_3 rfl hl (by decide) rfl (fun ls hl => ?_)
  exact h4 x1 fuel (0 : Int32) (0 : Int32) _ _ _ hE hP hD hS (lv_sub hl [2, 3, 1, 0] rfl)
abbrev rm_X9_boat : Room := { frames := 2, cells := 0, slots := 0, locals := 46 }
set_option maxHeartbeats 40000000 in
set_option maxRecDepth 100000 in
theorem c_X9_boat (l : Launch) (D : va_G) (cy : Nat → Nat) (aM : Nat → Nat) (x1 : Int32) (x2 : Int32) (imM : Mem) (inM : MemL) (r' : Int32) (mM' : Mem) (hE : f_X9_boat x1 x2 imM inM = some (r', mM')) : CI l yX9_boat wsX9_boat rm_X9_boat D cy [.ref (aM 0), .int x1, .int x2] (W_M cy aM imM inM) 0 0 r' (W_M cy aM mM' inM) := by
  refine CQ_of (cc := cX9_boat) (maxL := 3) (ret := (some .int)) (by decide) rfl (Nat.le_of_ble_eq_true rfl) (fun p e s m args below meth c A ls hx hb hr hml hlocks hnm hown hts hA hK hN hP hD hS hl => ?_)
  have hown : s.vm.findClass RX9 = some m.cls := hown
  have hl : lv_has ls 3 [(0, .ref (aM 0)), (1, .int x1), (2, .int x2)] := hl
  have hC : CallFix p m c cX9_boat 3 s args wsX9_boat RX9 := ⟨hx, hb, hml, hown, hts⟩
  have f7 : (Cond.fieldLink RX9 7 "IcePlantModel" "w" "[J").before args s = true := hts _ (mC qf_X9_7)
  have f43 : (Cond.fieldLink RX9 43 "IcePlantModel" "thrown" "I").before args s = true := hts _ (mC qf_X9_43)
  have iX9 : ∀ w ∈ wsX90, w ∈ wsX9_boat := fun w h => mC (iA_X9 w h)
  unfold f_X9_boat at hE
  refine lv_aload_n hx hb dX9_boat_0 rfl (lv_at hl 0 rfl) ?_
  refine lv_iconst (v := 0) hx hb dX9_boat_1 (by decide) ?_
  obtain ⟨mM_1, e_mM_1, hE⟩ := lt_el hE
  refine s_pf (own := RX9) (C := RX9) (T := TX9) (N := 13) (ci := 9) (ws1 := (W_M cy aM mM_1 inM)) hx hb hts iX9 tyX9 tyX9_ok nmX9 hown hK hP hD hS 0 rfl rfl 8 (by decide) f43 rfl rfl rfl rfl (Nat.le_of_ble_eq_true rfl) (by rw [e_mM_1]; rfl) dX9_boat_2 (fun H locs hP hD hS => ?_)
  refine lv_aload_n hx hb dX9_boat_5 rfl (lv_at hl 0 rfl) ?_
  refine lv_iload_n hx hb dX9_boat_6 rfl (lv_at hl 1 rfl) ?_
  obtain ⟨r_2, hc_3, hE⟩ := bd1_el hE
  refine ki (X := []) (Y := []) (ws1 := (W_M cy aM mM_1 inM)) (rV (X := []) (Y := []) (As := [.int x1]) (rest := []) hC (c_X9_isBoat l D cy aM x1 mM_1 inM r_2 hc_3) (cwV 1 hts gX9_boat_X9_isBoat rfl rfl rfl cd_X9_isBoat ⟨Nat.le_of_ble_eq_true rfl, Nat.le_of_ble_eq_true rfl⟩) hK hN hP hD hS hA rfl 0 9 rfl rfl rfl hl.1 rfl (lv_room (Nat.le_of_ble_eq_true rfl)) dX9_boat_7 ⟨Nat.le_of_ble_eq_true rfl, Nat.le_of_ble_eq_true rfl⟩) hP hD hS hA rfl rfl rfl (fun H locs hP hD hS => ?_)
  refine lv_if_ne (tgt := 19) hx hb dX9_boat_10 (by decide) (fun c_4 => ?_) (fun c_4 => ?_)
  · replace hE := it_f hE c_4
    refine lv_iload_n hx hb dX9_boat_19 rfl (lv_at hl 2 rfl) ?_
    by_cases c_8_0 : x2 = 0
    · replace hE := it_t hE c_8_0
      refine lv_tableIn (tgt := 52) hx hb dX9_boat_20 (by rw [c_8_0]; decide) (by rw [c_8_0]; decide) (off := 32) (by rw [c_8_0]; decide) (by decide) ?_
      refine lv_aload_n hx hb dX9_boat_52 rfl (lv_at hl 0 rfl) ?_
      refine va_get (D := D) (ci := 9) (v := .ref (aM 1)) (C := RX9) (T := TX9) (N := 13) hx hb hts iX9 hown hK hP 0 rfl rfl 0 (by decide) f7 (fun _ h9 => h9) rfl dX9_boat_53 ?_
      refine lv_sipush (v := 507) hx hb dX9_boat_56 (by decide) ?_
      refine lv_iload_n hx hb dX9_boat_59 rfl (lv_at hl 1 rfl) ?_
      refine lv_iadd hx hb dX9_boat_60 ?_
      obtain ⟨g_13, hE⟩ := gi_el hE
      refine va_lald hx hb hK hP 1 1 rfl rfl g_13 dX9_boat_61 ?_
      refine lv_l2i hx hb dX9_boat_62 rfl ?_
      have hE := Option.some.inj hE
      obtain ⟨q0, q1⟩ := Prod.mk.inj hE
      exact ei hx hb hr hlocks hK hP hD hS q0 (by rw [q1]) dX9_boat_63
    · replace hE := it_f hE c_8_0
      by_cases c_8_1 : x2 = 1
      · replace hE := it_t hE c_8_1
        refine lv_tableIn (tgt := 64) hx hb dX9_boat_20 (by rw [c_8_1]; decide) (by rw [c_8_1]; decide) (off := 44) (by rw [c_8_1]; decide) (by decide) ?_
        refine lv_aload_n hx hb dX9_boat_64 rfl (lv_at hl 0 rfl) ?_
        refine va_get (D := D) (ci := 9) (v := .ref (aM 1)) (C := RX9) (T := TX9) (N := 13) hx hb hts iX9 hown hK hP 0 rfl rfl 0 (by decide) f7 (fun _ h9 => h9) rfl dX9_boat_65 ?_
        refine lv_sipush (v := 515) hx hb dX9_boat_68 (by decide) ?_
        refine lv_iload_n hx hb dX9_boat_71 rfl (lv_at hl 1 rfl) ?_
        refine lv_iadd hx hb dX9_boat_72 ?_
        obtain ⟨g_12, hE⟩ := gi_el hE
        refine va_lald hx hb hK hP 1 1 rfl rfl g_12 dX9_boat_73 ?_
        refine lv_l2i hx hb dX9_boat_74 rfl ?_
        have hE := Option.some.inj hE
        obtain ⟨q0, q1⟩ := Prod.mk.inj hE
        exact ei hx hb hr hlocks hK hP hD hS q0 (by rw [q1]) dX9_boat_75
      · replace hE := it_f hE c_8_1
        by_cases c_8_2 : x2 = 2
        · replace hE := it_t hE c_8_2
          refine lv_tableIn (tgt := 76) hx hb dX9_boat_20 (by rw [c_8_2]; decide) (by rw [c_8_2]; decide) (off := 56) (by rw [c_8_2]; decide) (by decide) ?_
          refine lv_aload_n hx hb dX9_boat_76 rfl (lv_at hl 0 rfl) ?_
          refine va_get (D := D) (ci := 9) (v := .ref (aM 1)) (C := RX9) (T := TX9) (N := 13) hx hb hts iX9 hown hK hP 0 rfl rfl 0 (by decide) f7 (fun _ h9 => h9) rfl dX9_boat_77 ?_
          refine lv_sipush (v := 523) hx hb dX9_boat_80 (by decide) ?_
          refine lv_iload_n hx hb dX9_boat_83 rfl (lv_at hl 1 rfl) ?_
          refine lv_iadd hx hb dX9_boat_84 ?_
          obtain ⟨g_11, hE⟩ := gi_el hE
          refine va_lald hx hb hK hP 1 1 rfl rfl g_11 dX9_boat_85 ?_
          refine lv_l2i hx hb dX9_boat_86 rfl ?_
          have hE := Option.some.inj hE
          obtain ⟨q0, q1⟩ := Prod.mk.inj hE
          exact ei hx hb hr hlocks hK hP hD hS q0 (by rw [q1]) dX9_boat_87
        · replace hE := it_f hE c_8_2
          by_cases c_8_3 : x2 = 3
          · replace hE := it_t hE c_8_3
            refine lv_tableIn (tgt := 88) hx hb dX9_boat_20 (by rw [c_8_3]; decide) (by rw [c_8_3]; decide) (off := 68) (by rw [c_8_3]; decide) (by decide) ?_
            refine lv_aload_n hx hb dX9_boat_88 rfl (lv_at hl 0 rfl) ?_
            refine lv_iload_n hx hb dX9_boat_89 rfl (lv_at hl 1 rfl) ?_
            obtain ⟨r_9, hc_10, hE⟩ := bd1_el hE
            refine ki (X := []) (Y := []) (ws1 := (W_M cy aM mM_1 inM)) (rV (X := []) (Y := []) (As := [.int x1]) (rest := []) hC (c_X9_openOf l D cy aM x1 mM_1 inM r_9 hc_10) (cwV 1 hts gX9_boat_X9_openOf rfl rfl rfl cd_X9_openOf ⟨Nat.le_of_ble_eq_true rfl, Nat.le_of_ble_eq_true rfl⟩) hK hN hP hD hS hA rfl 0 9 rfl rfl rfl hl.1 rfl (lv_room (Nat.le_of_ble_eq_true rfl)) dX9_boat_90 ⟨Nat.le_of_ble_eq_true rfl, Nat.le_of_ble_eq_true rfl⟩) hP hD hS hA rfl rfl rfl (fun H locs hP hD hS => ?_)
            have hE := Option.some.inj hE
            obtain ⟨q0, q1⟩ := Prod.mk.inj hE
            exact ei hx hb hr hlocks hK hP hD hS q0 (by rw [q1]) dX9_boat_93
          · replace hE := it_f hE c_8_3
            refine lv_tableOut (tgt := 94) hx hb dX9_boat_20 (sw_out (lo := 0) (hi := 3) (fun z h1 h2 => ?_)) (by decide) ?_
            · rcases (show z = 0 ∨ z = 1 ∨ z = 2 ∨ z = 3 by omega) with rfl | rfl | rfl | rfl
              · exact fun q9 => c_8_0 (q9.trans (by decide))
              · exact fun q9 => c_8_1 (q9.trans (by decide))
              · exact fun q9 => c_8_2 (q9.trans (by decide))
              · exact fun q9 => c_8_3 (q9.trans (by decide))
            · refine lv_aload_n hx hb dX9_boat_94 rfl (lv_at hl 0 rfl) ?_
              refine lv_iconst (v := 2) hx hb dX9_boat_95 (by decide) ?_
              obtain ⟨r_5, mM_6, hc_7, hE⟩ := bd2_el hE
              refine ki (X := []) (Y := []) (ws1 := (W_M cy aM mM_6 inM)) (rV (X := []) (Y := []) (As := [.int (2 : Int32)]) (rest := []) hC (c_X9_refuse l D cy aM (2 : Int32) mM_1 inM r_5 mM_6 hc_7) (cwV 1 hts gX9_boat_X9_refuse rfl rfl rfl cd_X9_refuse ⟨Nat.le_of_ble_eq_true rfl, Nat.le_of_ble_eq_true rfl⟩) hK hN hP hD hS hA rfl 0 9 rfl rfl rfl hl.1 rfl (lv_room (Nat.le_of_ble_eq_true rfl)) dX9_boat_96 ⟨Nat.le_of_ble_eq_true rfl, Nat.le_of_ble_eq_true rfl⟩) hP hD hS hA rfl rfl rfl (fun H locs hP hD hS => ?_)
              have hE := Option.some.inj hE
              obtain ⟨q0, q1⟩ := Prod.mk.inj hE
              exact ei hx hb hr hlocks hK hP hD hS q0 (by rw [q1]) dX9_boat_99
  · replace hE := it_t hE c_4
    refine lv_aload_n hx hb dX9_boat_13 rfl (lv_at hl 0 rfl) ?_
    refine lv_iconst (v := 1) hx hb dX9_boat_14 (by decide) ?_
    obtain ⟨r_14, mM_15, hc_16, hE⟩ := bd2_el hE
    refine ki (X := []) (Y := []) (ws1 := (W_M cy aM mM_15 inM)) (rV (X := []) (Y := []) (As := [.int (1 : Int32)]) (rest := []) hC (c_X9_refuse l D cy aM (1 : Int32) mM_1 inM r_14 mM_15 hc_16) (cwV 1 hts gX9_boat_X9_refuse rfl rfl rfl cd_X9_refuse ⟨Nat.le_of_ble_eq_true rfl, Nat.le_of_ble_eq_true rfl⟩) hK hN hP hD hS hA rfl 0 9 rfl rfl rfl hl.1 rfl (lv_room (Nat.le_of_ble_eq_true rfl)) dX9_boat_15 ⟨Nat.le_of_ble_eq_true rfl, Nat.le_of_ble_eq_true rfl⟩) hP hD hS hA rfl rfl rfl (fun H locs hP hD hS => ?_)
    have hE := Option.some.inj hE
    obtain ⟨q0, q1⟩ := Prod.mk.inj hE
    exact ei hx hb hr hlocks hK hP hD hS q0 (by rw [q1]) dX9_boat_18
abbrev rm_X9_orderProperty : Room := { frames := 3, cells := 0, slots := 0, locals := 72 }
set_option maxHeartbeats 40000000 in
set_option maxRecDepth 100000 in
theorem c_X9_orderProperty (l : Launch) (D : va_G) (cy : Nat → Nat) (aM : Nat → Nat) (x1 : Int32) (x2 : Int32) (imM : Mem) (inM : MemL) (r' : Int32) (mM' : Mem) (hE : f_X9_orderProperty x1 x2 imM inM = some (r', mM')) : CI l yX9_orderProperty wsX9_orderProperty rm_X9_orderProperty D cy [.ref (aM 0), .int x1, .int x2] (W_M cy aM imM inM) 0 0 r' (W_M cy aM mM' inM) := by
  refine CQ_of (cc := cX9_orderProperty) (maxL := 3) (ret := (some .int)) (by decide) rfl (Nat.le_of_ble_eq_true rfl) (fun p e s m args below meth c A ls hx hb hr hml hlocks hnm hown hts hA hK hN hP hD hS hl => ?_)
  have hown : s.vm.findClass RX9 = some m.cls := hown
  have hl : lv_has ls 3 [(0, .ref (aM 0)), (1, .int x1), (2, .int x2)] := hl
  have hC : CallFix p m c cX9_orderProperty 3 s args wsX9_orderProperty RX9 := ⟨hx, hb, hml, hown, hts⟩
  have f7 : (Cond.fieldLink RX9 7 "IcePlantModel" "w" "[J").before args s = true := hts _ (mC qf_X9_7)
  have f43 : (Cond.fieldLink RX9 43 "IcePlantModel" "thrown" "I").before args s = true := hts _ (mC qf_X9_43)
  have iX9 : ∀ w ∈ wsX90, w ∈ wsX9_orderProperty := fun w h => mC (iA_X9 w h)
  unfold f_X9_orderProperty at hE
  refine lv_aload_n hx hb dX9_orderProperty_0 rfl (lv_at hl 0 rfl) ?_
  refine lv_iconst (v := 0) hx hb dX9_orderProperty_1 (by decide) ?_
  obtain ⟨mM_1, e_mM_1, hE⟩ := lt_el hE
  refine s_pf (own := RX9) (C := RX9) (T := TX9) (N := 13) (ci := 9) (ws1 := (W_M cy aM mM_1 inM)) hx hb hts iX9 tyX9 tyX9_ok nmX9 hown hK hP hD hS 0 rfl rfl 8 (by decide) f43 rfl rfl rfl rfl (Nat.le_of_ble_eq_true rfl) (by rw [e_mM_1]; rfl) dX9_orderProperty_2 (fun H locs hP hD hS => ?_)
  refine lv_aload_n hx hb dX9_orderProperty_5 rfl (lv_at hl 0 rfl) ?_
  refine lv_iload_n hx hb dX9_orderProperty_6 rfl (lv_at hl 1 rfl) ?_
  obtain ⟨r_2, hc_3, hE⟩ := bd1_el hE
  refine ki (X := []) (Y := []) (ws1 := (W_M cy aM mM_1 inM)) (rV (X := []) (Y := []) (As := [.int x1]) (rest := []) hC (c_X9_isOrder l D cy aM x1 mM_1 inM r_2 hc_3) (cwV 1 hts gX9_orderProperty_X9_isOrder rfl rfl rfl cd_X9_isOrder ⟨Nat.le_of_ble_eq_true rfl, Nat.le_of_ble_eq_true rfl⟩) hK hN hP hD hS hA rfl 0 9 rfl rfl rfl hl.1 rfl (lv_room (Nat.le_of_ble_eq_true rfl)) dX9_orderProperty_7 ⟨Nat.le_of_ble_eq_true rfl, Nat.le_of_ble_eq_true rfl⟩) hP hD hS hA rfl rfl rfl (fun H locs hP hD hS => ?_)
  refine lv_if_ne (tgt := 19) hx hb dX9_orderProperty_10 (by decide) (fun c_4 => ?_) (fun c_4 => ?_)
  · replace hE := it_f hE c_4
    refine lv_iload_n hx hb dX9_orderProperty_19 rfl (lv_at hl 2 rfl) ?_
    by_cases c_8_0 : x2 = 0
    · replace hE := it_t hE c_8_0
      refine lv_tableIn (tgt := 64) hx hb dX9_orderProperty_20 (by rw [c_8_0]; decide) (by rw [c_8_0]; decide) (off := 44) (by rw [c_8_0]; decide) (by decide) ?_
      refine lv_aload_n hx hb dX9_orderProperty_64 rfl (lv_at hl 0 rfl) ?_
      refine va_get (D := D) (ci := 9) (v := .ref (aM 1)) (C := RX9) (T := TX9) (N := 13) hx hb hts iX9 hown hK hP 0 rfl rfl 0 (by decide) f7 (fun _ h9 => h9) rfl dX9_orderProperty_65 ?_
      refine lv_sipush (v := 531) hx hb dX9_orderProperty_68 (by decide) ?_
      refine lv_iload_n hx hb dX9_orderProperty_71 rfl (lv_at hl 1 rfl) ?_
      refine lv_iadd hx hb dX9_orderProperty_72 ?_
      obtain ⟨g_18, hE⟩ := gi_el hE
      refine va_lald hx hb hK hP 1 1 rfl rfl g_18 dX9_orderProperty_73 ?_
      refine lv_l2i hx hb dX9_orderProperty_74 rfl ?_
      have hE := Option.some.inj hE
      obtain ⟨q0, q1⟩ := Prod.mk.inj hE
      exact ei hx hb hr hlocks hK hP hD hS q0 (by rw [q1]) dX9_orderProperty_75
    · replace hE := it_f hE c_8_0
      by_cases c_8_1 : x2 = 1
      · replace hE := it_t hE c_8_1
        refine lv_tableIn (tgt := 76) hx hb dX9_orderProperty_20 (by rw [c_8_1]; decide) (by rw [c_8_1]; decide) (off := 56) (by rw [c_8_1]; decide) (by decide) ?_
        refine lv_aload_n hx hb dX9_orderProperty_76 rfl (lv_at hl 0 rfl) ?_
        refine va_get (D := D) (ci := 9) (v := .ref (aM 1)) (C := RX9) (T := TX9) (N := 13) hx hb hts iX9 hown hK hP 0 rfl rfl 0 (by decide) f7 (fun _ h9 => h9) rfl dX9_orderProperty_77 ?_
        refine lv_sipush (v := 731) hx hb dX9_orderProperty_80 (by decide) ?_
        refine lv_iload_n hx hb dX9_orderProperty_83 rfl (lv_at hl 1 rfl) ?_
        refine lv_iadd hx hb dX9_orderProperty_84 ?_
        obtain ⟨g_17, hE⟩ := gi_el hE
        refine va_lald hx hb hK hP 1 1 rfl rfl g_17 dX9_orderProperty_85 ?_
        refine lv_l2i hx hb dX9_orderProperty_86 rfl ?_
        have hE := Option.some.inj hE
        obtain ⟨q0, q1⟩ := Prod.mk.inj hE
        exact ei hx hb hr hlocks hK hP hD hS q0 (by rw [q1]) dX9_orderProperty_87
      · replace hE := it_f hE c_8_1
        by_cases c_8_2 : x2 = 2
        · replace hE := it_t hE c_8_2
          refine lv_tableIn (tgt := 88) hx hb dX9_orderProperty_20 (by rw [c_8_2]; decide) (by rw [c_8_2]; decide) (off := 68) (by rw [c_8_2]; decide) (by decide) ?_
          refine lv_aload_n hx hb dX9_orderProperty_88 rfl (lv_at hl 0 rfl) ?_
          refine va_get (D := D) (ci := 9) (v := .ref (aM 1)) (C := RX9) (T := TX9) (N := 13) hx hb hts iX9 hown hK hP 0 rfl rfl 0 (by decide) f7 (fun _ h9 => h9) rfl dX9_orderProperty_89 ?_
          refine lv_sipush (v := 931) hx hb dX9_orderProperty_92 (by decide) ?_
          refine lv_iload_n hx hb dX9_orderProperty_95 rfl (lv_at hl 1 rfl) ?_
          refine lv_iadd hx hb dX9_orderProperty_96 ?_
          obtain ⟨g_16, hE⟩ := gi_el hE
          refine va_lald hx hb hK hP 1 1 rfl rfl g_16 dX9_orderProperty_97 ?_
          refine lv_l2i hx hb dX9_orderProperty_98 rfl ?_
          have hE := Option.some.inj hE
          obtain ⟨q0, q1⟩ := Prod.mk.inj hE
          exact ei hx hb hr hlocks hK hP hD hS q0 (by rw [q1]) dX9_orderProperty_99
        · replace hE := it_f hE c_8_2
          by_cases c_8_3 : x2 = 3
          · replace hE := it_t hE c_8_3
            refine lv_tableIn (tgt := 100) hx hb dX9_orderProperty_20 (by rw [c_8_3]; decide) (by rw [c_8_3]; decide) (off := 80) (by rw [c_8_3]; decide) (by decide) ?_
            refine lv_aload_n hx hb dX9_orderProperty_100 rfl (lv_at hl 0 rfl) ?_
            refine va_get (D := D) (ci := 9) (v := .ref (aM 1)) (C := RX9) (T := TX9) (N := 13) hx hb hts iX9 hown hK hP 0 rfl rfl 0 (by decide) f7 (fun _ h9 => h9) rfl dX9_orderProperty_101 ?_
            refine lv_sipush (v := 1131) hx hb dX9_orderProperty_104 (by decide) ?_
            refine lv_iload_n hx hb dX9_orderProperty_107 rfl (lv_at hl 1 rfl) ?_
            refine lv_iadd hx hb dX9_orderProperty_108 ?_
            obtain ⟨g_15, hE⟩ := gi_el hE
            refine va_lald hx hb hK hP 1 1 rfl rfl g_15 dX9_orderProperty_109 ?_
            refine lv_l2i hx hb dX9_orderProperty_110 rfl ?_
            have hE := Option.some.inj hE
            obtain ⟨q0, q1⟩ := Prod.mk.inj hE
            exact ei hx hb hr hlocks hK hP hD hS q0 (by rw [q1]) dX9_orderProperty_111
          · replace hE := it_f hE c_8_3
            by_cases c_8_4 : x2 = 4
            · replace hE := it_t hE c_8_4
              refine lv_tableIn (tgt := 112) hx hb dX9_orderProperty_20 (by rw [c_8_4]; decide) (by rw [c_8_4]; decide) (off := 92) (by rw [c_8_4]; decide) (by decide) ?_
              refine lv_aload_n hx hb dX9_orderProperty_112 rfl (lv_at hl 0 rfl) ?_
              refine va_get (D := D) (ci := 9) (v := .ref (aM 1)) (C := RX9) (T := TX9) (N := 13) hx hb hts iX9 hown hK hP 0 rfl rfl 0 (by decide) f7 (fun _ h9 => h9) rfl dX9_orderProperty_113 ?_
              refine lv_sipush (v := 1331) hx hb dX9_orderProperty_116 (by decide) ?_
              refine lv_iload_n hx hb dX9_orderProperty_119 rfl (lv_at hl 1 rfl) ?_
              refine lv_iadd hx hb dX9_orderProperty_120 ?_
              obtain ⟨g_14, hE⟩ := gi_el hE
              refine va_lald hx hb hK hP 1 1 rfl rfl g_14 dX9_orderProperty_121 ?_
              refine lv_l2i hx hb dX9_orderProperty_122 rfl ?_
              have hE := Option.some.inj hE
              obtain ⟨q0, q1⟩ := Prod.mk.inj hE
              exact ei hx hb hr hlocks hK hP hD hS q0 (by rw [q1]) dX9_orderProperty_123
            · replace hE := it_f hE c_8_4
              by_cases c_8_5 : x2 = 5
              · replace hE := it_t hE c_8_5
                refine lv_tableIn (tgt := 124) hx hb dX9_orderProperty_20 (by rw [c_8_5]; decide) (by rw [c_8_5]; decide) (off := 104) (by rw [c_8_5]; decide) (by decide) ?_
                refine lv_aload_n hx hb dX9_orderProperty_124 rfl (lv_at hl 0 rfl) ?_
                refine va_get (D := D) (ci := 9) (v := .ref (aM 1)) (C := RX9) (T := TX9) (N := 13) hx hb hts iX9 hown hK hP 0 rfl rfl 0 (by decide) f7 (fun _ h9 => h9) rfl dX9_orderProperty_125 ?_
                refine lv_sipush (v := 1531) hx hb dX9_orderProperty_128 (by decide) ?_
                refine lv_iload_n hx hb dX9_orderProperty_131 rfl (lv_at hl 1 rfl) ?_
                refine lv_iadd hx hb dX9_orderProperty_132 ?_
                obtain ⟨g_13, hE⟩ := gi_el hE
                refine va_lald hx hb hK hP 1 1 rfl rfl g_13 dX9_orderProperty_133 ?_
                refine lv_l2i hx hb dX9_orderProperty_134 rfl ?_
                have hE := Option.some.inj hE
                obtain ⟨q0, q1⟩ := Prod.mk.inj hE
                exact ei hx hb hr hlocks hK hP hD hS q0 (by rw [q1]) dX9_orderProperty_135
              · replace hE := it_f hE c_8_5
                by_cases c_8_6 : x2 = 6
                · replace hE := it_t hE c_8_6
                  refine lv_tableIn (tgt := 136) hx hb dX9_orderProperty_20 (by rw [c_8_6]; decide) (by rw [c_8_6]; decide) (off := 116) (by rw [c_8_6]; decide) (by decide) ?_
                  refine lv_aload_n hx hb dX9_orderProperty_136 rfl (lv_at hl 0 rfl) ?_
                  refine va_get (D := D) (ci := 9) (v := .ref (aM 1)) (C := RX9) (T := TX9) (N := 13) hx hb hts iX9 hown hK hP 0 rfl rfl 0 (by decide) f7 (fun _ h9 => h9) rfl dX9_orderProperty_137 ?_
                  refine lv_sipush (v := 1531) hx hb dX9_orderProperty_140 (by decide) ?_
                  refine lv_iload_n hx hb dX9_orderProperty_143 rfl (lv_at hl 1 rfl) ?_
                  refine lv_iadd hx hb dX9_orderProperty_144 ?_
                  obtain ⟨g_9, hE⟩ := gi_el hE
                  refine va_lald hx hb hK hP 1 1 rfl rfl g_9 dX9_orderProperty_145 ?_
                  refine lv_lconst (v := 0) hx hb dX9_orderProperty_146 (by decide) ?_
                  refine W.lcmp hx hb dX9_orderProperty_147 ?_
                  refine lv_if_ne (tgt := 159) hx hb dX9_orderProperty_148 (by decide) (fun c_10 => ?_) (fun c_10 => ?_)
                  · replace hE := it_f hE c_10
                    refine lv_iconst (v := (-1)) hx hb dX9_orderProperty_159 (by decide) ?_
                    have hE := Option.some.inj hE
                    obtain ⟨q0, q1⟩ := Prod.mk.inj hE
                    exact ei hx hb hr hlocks hK hP hD hS q0 (by rw [q1]) dX9_orderProperty_160
                  · replace hE := it_t hE c_10
                    refine lv_aload_n hx hb dX9_orderProperty_151 rfl (lv_at hl 0 rfl) ?_
                    refine lv_iload_n hx hb dX9_orderProperty_152 rfl (lv_at hl 1 rfl) ?_
                    obtain ⟨r_11, hc_12, hE⟩ := bd1_el hE
                    refine ki (X := []) (Y := []) (ws1 := (W_M cy aM mM_1 inM)) (rV (X := []) (Y := []) (As := [.int x1]) (rest := []) hC (c_X9_aheadOf l D cy aM x1 mM_1 inM r_11 hc_12) (cwV 1 hts gX9_orderProperty_X9_aheadOf rfl rfl rfl cd_X9_aheadOf ⟨Nat.le_of_ble_eq_true rfl, Nat.le_of_ble_eq_true rfl⟩) hK hN hP hD hS hA rfl 0 9 rfl rfl rfl hl.1 rfl (lv_room (Nat.le_of_ble_eq_true rfl)) dX9_orderProperty_153 ⟨Nat.le_of_ble_eq_true rfl, Nat.le_of_ble_eq_true rfl⟩) hP hD hS hA rfl rfl rfl (fun H locs hP hD hS => ?_)
                    refine lv_goto (tgt := 160) hx hb dX9_orderProperty_156 (by decide) ?_
                    have hE := Option.some.inj hE
                    obtain ⟨q0, q1⟩ := Prod.mk.inj hE
                    exact ei hx hb hr hlocks hK hP hD hS q0 (by rw [q1]) dX9_orderProperty_160
                · replace hE := it_f hE c_8_6
                  refine lv_tableOut (tgt := 161) hx hb dX9_orderProperty_20 (sw_out (lo := 0) (hi := 6) (fun z h1 h2 => ?_)) (by decide) ?_
                  · rcases (show z = 0 ∨ z = 1 ∨ z = 2 ∨ z = 3 ∨ z = 4 ∨ z = 5 ∨ z = 6 by omega) with rfl | rfl | rfl | rfl | rfl | rfl | rfl
                    · exact fun q9 => c_8_0 (q9.trans (by decide))
                    · exact fun q9 => c_8_1 (q9.trans (by decide))
                    · exact fun q9 => c_8_2 (q9.trans (by decide))
                    · exact fun q9 => c_8_3 (q9.trans (by decide))
                    · exact fun q9 => c_8_4 (q9.trans (by decide))
                    · exact fun q9 => c_8_5 (q9.trans (by decide))
                    · exact fun q9 => c_8_6 (q9.trans (by decide))
                  · refine lv_aload_n hx hb dX9_orderProperty_161 rfl (lv_at hl 0 rfl) ?_
                    refine lv_iconst (v := 2) hx hb dX9_orderProperty_162 (by decide) ?_
                    obtain ⟨r_5, mM_6, hc_7, hE⟩ := bd2_el hE
                    refine ki (X := []) (Y := []) (ws1 := (W_M cy aM mM_6 inM)) (rV (X := []) (Y := []) (As := [.int (2 : Int32)]) (rest := []) hC (c_X9_refuse l D cy aM (2 : Int32) mM_1 inM r_5 mM_6 hc_7) (cwV 1 hts gX9_orderProperty_X9_refuse rfl rfl rfl cd_X9_refuse ⟨Nat.le_of_ble_eq_true rfl, Nat.le_of_ble_eq_true rfl⟩) hK hN hP hD hS hA rfl 0 9 rfl rfl rfl hl.1 rfl (lv_room (Nat.le_of_ble_eq_true rfl)) dX9_orderProperty_163 ⟨Nat.le_of_ble_eq_true rfl, Nat.le_of_ble_eq_true rfl⟩) hP hD hS hA rfl rfl rfl (fun H locs hP hD hS => ?_)
                    have hE := Option.some.inj hE
                    obtain ⟨q0, q1⟩ := Prod.mk.inj hE
                    exact ei hx hb hr hlocks hK hP hD hS q0 (by rw [q1]) dX9_orderProperty_166
  · replace hE := it_t hE c_4
    refine lv_aload_n hx hb dX9_orderProperty_13 rfl (lv_at hl 0 rfl) ?_
    refine lv_iconst (v := 1) hx hb dX9_orderProperty_14 (by decide) ?_
    obtain ⟨r_19, mM_20, hc_21, hE⟩ := bd2_el hE
    refine ki (X := []) (Y := []) (ws1 := (W_M cy aM mM_20 inM)) (rV (X := []) (Y := []) (As := [.int (1 : Int32)]) (rest := []) hC (c_X9_refuse l D cy aM (1 : Int32) mM_1 inM r_19 mM_20 hc_21) (cwV 1 hts gX9_orderProperty_X9_refuse rfl rfl rfl cd_X9_refuse ⟨Nat.le_of_ble_eq_true rfl, Nat.le_of_ble_eq_true rfl⟩) hK hN hP hD hS hA rfl 0 9 rfl rfl rfl hl.1 rfl (lv_room (Nat.le_of_ble_eq_true rfl)) dX9_orderProperty_15 ⟨Nat.le_of_ble_eq_true rfl, Nat.le_of_ble_eq_true rfl⟩) hP hD hS hA rfl rfl rfl (fun H locs hP hD hS => ?_)
    have hE := Option.some.inj hE
    obtain ⟨q0, q1⟩ := Prod.mk.inj hE
    exact ei hx hb hr hlocks hK hP hD hS q0 (by rw [q1]) dX9_orderProperty_18
abbrev rm_X9_receipt : Room := { frames := 1, cells := 0, slots := 0, locals := 25 }
set_option maxHeartbeats 40000000 in
set_option maxRecDepth 100000 in
theorem c_X9_receipt (l : Launch) (D : va_G) (cy : Nat → Nat) (aM : Nat → Nat) (x1 : Int32) (x2 : Int32) (imM : Mem) (inM : MemL) (r' : Int32) (mM' : Mem) (hE : f_X9_receipt x1 x2 imM inM = some (r', mM')) : CI l yX9_receipt wsX9_receipt rm_X9_receipt D cy [.ref (aM 0), .int x1, .int x2] (W_M cy aM imM inM) 0 0 r' (W_M cy aM mM' inM) := by
  refine CQ_of (cc := cX9_receipt) (maxL := 4) (ret := (some .int)) (by decide) rfl (Nat.le_of_ble_eq_true rfl) (fun p e s m args below meth c A ls hx hb hr hml hlocks hnm hown hts hA hK hN hP hD hS hl => ?_)
  have hown : s.vm.findClass RX9 = some m.cls := hown
  have hl : lv_has ls 4 [(0, .ref (aM 0)), (1, .int x1), (2, .int x2)] := hl
  have hC : CallFix p m c cX9_receipt 4 s args wsX9_receipt RX9 := ⟨hx, hb, hml, hown, hts⟩
  have f7 : (Cond.fieldLink RX9 7 "IcePlantModel" "w" "[J").before args s = true := hts _ (mC qf_X9_7)
  have f43 : (Cond.fieldLink RX9 43 "IcePlantModel" "thrown" "I").before args s = true := hts _ (mC qf_X9_43)
  have iX9 : ∀ w ∈ wsX90, w ∈ wsX9_receipt := fun w h => mC (iA_X9 w h)
  unfold f_X9_receipt at hE
  refine lv_aload_n hx hb dX9_receipt_0 rfl (lv_at hl 0 rfl) ?_
  refine lv_iconst (v := 0) hx hb dX9_receipt_1 (by decide) ?_
  obtain ⟨mM_1, e_mM_1, hE⟩ := lt_el hE
  refine s_pf (own := RX9) (C := RX9) (T := TX9) (N := 13) (ci := 9) (ws1 := (W_M cy aM mM_1 inM)) hx hb hts iX9 tyX9 tyX9_ok nmX9 hown hK hP hD hS 0 rfl rfl 8 (by decide) f43 rfl rfl rfl rfl (Nat.le_of_ble_eq_true rfl) (by rw [e_mM_1]; rfl) dX9_receipt_2 (fun H locs hP hD hS => ?_)
  refine lv_iload_n hx hb dX9_receipt_5 rfl (lv_at hl 1 rfl) ?_
  refine lv_i2l hx hb dX9_receipt_6 rfl ?_
  refine lv_lconst (v := 0) hx hb dX9_receipt_7 (by decide) ?_
  refine lv_aload_n hx hb dX9_receipt_8 rfl (lv_at hl 0 rfl) ?_
  refine va_get (D := D) (ci := 9) (v := .ref (aM 1)) (C := RX9) (T := TX9) (N := 13) hx hb hts iX9 hown hK hP 0 rfl rfl 0 (by decide) f7 (fun _ h9 => h9) rfl dX9_receipt_9 ?_
  refine lv_sipush (v := 1885) hx hb dX9_receipt_12 (by decide) ?_
  refine va_lald hx hb hK hP 1 1 rfl rfl (show ¬ ((1885 : Int32) < 0 ∨ 1888 ≤ (1885 : Int32).toNatClampNeg) by decide) dX9_receipt_15 ?_
  refine lv_lconst (v := 1) hx hb dX9_receipt_16 (by decide) ?_
  refine lv_lsub hx hb dX9_receipt_17 ?_
  obtain ⟨r_2, hc_3, hE⟩ := bd1_el hE
  refine ki (X := []) (Y := (W_M cy aM mM_1 inM)) (ws1 := (W_M cy aM mM_1 inM)) (rS (X := []) (Y := (W_M cy aM mM_1 inM)) (As := [.long (x1.toInt64), .long (0 : Int64), .long ((inM 0 (1885 : Int32).toNatClampNeg) - (1 : Int64))]) (rest := []) hC (c_X9_in l D cy (x1.toInt64) (0 : Int64) ((inM 0 (1885 : Int32).toNatClampNeg) - (1 : Int64)) r_2 hc_3) (cwS 3 hts gX9_receipt_X9_in rfl rfl rfl cd_X9_in ⟨Nat.le_of_ble_eq_true rfl, Nat.le_of_ble_eq_true rfl⟩) hK hN hP hD hS hA rfl rfl hl.1 rfl (lv_room (Nat.le_of_ble_eq_true rfl)) dX9_receipt_18 ⟨Nat.le_of_ble_eq_true rfl, Nat.le_of_ble_eq_true rfl⟩) hP hD hS hA rfl rfl rfl (fun H locs hP hD hS => ?_)
  refine lv_if_ne (tgt := 30) hx hb dX9_receipt_21 (by decide) (fun c_4 => ?_) (fun c_4 => ?_)
  · replace hE := it_f hE c_4
    refine lv_aload_n hx hb dX9_receipt_30 rfl (lv_at hl 0 rfl) ?_
    refine va_get (D := D) (ci := 9) (v := .ref (aM 1)) (C := RX9) (T := TX9) (N := 13) hx hb hts iX9 hown hK hP 0 rfl rfl 0 (by decide) f7 (fun _ h9 => h9) rfl dX9_receipt_31 ?_
    refine lv_sipush (v := 1885) hx hb dX9_receipt_34 (by decide) ?_
    refine va_lald hx hb hK hP 1 1 rfl rfl (show ¬ ((1885 : Int32) < 0 ∨ 1888 ≤ (1885 : Int32).toNatClampNeg) by decide) dX9_receipt_37 ?_
    refine lv_l2i hx hb dX9_receipt_38 rfl ?_
    refine lv_iconst (v := 1) hx hb dX9_receipt_39 (by decide) ?_
    refine lv_isub hx hb dX9_receipt_40 ?_
    refine lv_iload_n hx hb dX9_receipt_41 rfl (lv_at hl 1 rfl) ?_
    refine lv_isub hx hb dX9_receipt_42 ?_
    obtain ⟨x3_5, e_x3_5, hE⟩ := lt_el hE
    refine s_nm e_x3_5 ?_
    refine lv_istore_n (lv' := [(3, .int x3_5), (0, .ref (aM 0)), (1, .int x1), (2, .int x2)]) hx hb dX9_receipt_43 rfl hl (by decide) rfl (fun ls hl => ?_)
    refine lv_iload_n hx hb dX9_receipt_44 rfl (lv_at hl 3 rfl) ?_
    by_cases c_9_0 : x2 = 0
    · replace hE := it_t hE c_9_0
      refine lv_tableIn (tgt := 80) hx hb dX9_receipt_45 (by rw [c_9_0]; decide) (by rw [c_9_0]; decide) (off := 35) (by rw [c_9_0]; decide) (by decide) ?_
      refine lv_aload_n hx hb dX9_receipt_80 rfl (lv_at hl 1 rfl) ?_
      refine va_get (D := D) (ci := 9) (v := .ref (aM 1)) (C := RX9) (T := TX9) (N := 13) hx hb hts iX9 hown hK hP 0 rfl rfl 0 (by decide) f7 (fun _ h9 => h9) rfl dX9_receipt_81 ?_
      refine lv_sipush (v := 1731) hx hb dX9_receipt_84 (by decide) ?_
      refine lv_iload_n hx hb dX9_receipt_87 rfl (lv_at hl 0 rfl) ?_
      refine lv_iadd hx hb dX9_receipt_88 ?_
      obtain ⟨g_14, hE⟩ := gi_el hE
      refine va_lald hx hb hK hP 1 1 rfl rfl g_14 dX9_receipt_89 ?_
      refine lv_l2i hx hb dX9_receipt_90 rfl ?_
      have hE := Option.some.inj hE
      obtain ⟨q0, q1⟩ := Prod.mk.inj hE
      exact ei hx hb hr hlocks hK hP hD hS q0 (by rw [q1]) dX9_receipt_91
    · replace hE := it_f hE c_9_0
      by_cases c_9_1 : x2 = 1
      · replace hE := it_t hE c_9_1
        refine lv_tableIn (tgt := 92) hx hb dX9_receipt_45 (by rw [c_9_1]; decide) (by rw [c_9_1]; decide) (off := 47) (by rw [c_9_1]; decide) (by decide) ?_
        refine lv_aload_n hx hb dX9_receipt_92 rfl (lv_at hl 1 rfl) ?_
        refine va_get (D := D) (ci := 9) (v := .ref (aM 1)) (C := RX9) (T := TX9) (N := 13) hx hb hts iX9 hown hK hP 0 rfl rfl 0 (by decide) f7 (fun _ h9 => h9) rfl dX9_receipt_93 ?_
        refine lv_sipush (v := 1747) hx hb dX9_receipt_96 (by decide) ?_
        refine lv_iload_n hx hb dX9_receipt_99 rfl (lv_at hl 0 rfl) ?_
        refine lv_iadd hx hb dX9_receipt_100 ?_
        obtain ⟨g_13, hE⟩ := gi_el hE
        refine va_lald hx hb hK hP 1 1 rfl rfl g_13 dX9_receipt_101 ?_
        refine lv_l2i hx hb dX9_receipt_102 rfl ?_
        have hE := Option.some.inj hE
        obtain ⟨q0, q1⟩ := Prod.mk.inj hE
        exact ei hx hb hr hlocks hK hP hD hS q0 (by rw [q1]) dX9_receipt_103
      · replace hE := it_f hE c_9_1
        by_cases c_9_2 : x2 = 2
        · replace hE := it_t hE c_9_2
          refine lv_tableIn (tgt := 104) hx hb dX9_receipt_45 (by rw [c_9_2]; decide) (by rw [c_9_2]; decide) (off := 59) (by rw [c_9_2]; decide) (by decide) ?_
          refine lv_aload_n hx hb dX9_receipt_104 rfl (lv_at hl 1 rfl) ?_
          refine va_get (D := D) (ci := 9) (v := .ref (aM 1)) (C := RX9) (T := TX9) (N := 13) hx hb hts iX9 hown hK hP 0 rfl rfl 0 (by decide) f7 (fun _ h9 => h9) rfl dX9_receipt_105 ?_
          refine lv_sipush (v := 1763) hx hb dX9_receipt_108 (by decide) ?_
          refine lv_iload_n hx hb dX9_receipt_111 rfl (lv_at hl 0 rfl) ?_
          refine lv_iadd hx hb dX9_receipt_112 ?_
          obtain ⟨g_12, hE⟩ := gi_el hE
          refine va_lald hx hb hK hP 1 1 rfl rfl g_12 dX9_receipt_113 ?_
          refine lv_l2i hx hb dX9_receipt_114 rfl ?_
          have hE := Option.some.inj hE
          obtain ⟨q0, q1⟩ := Prod.mk.inj hE
          exact ei hx hb hr hlocks hK hP hD hS q0 (by rw [q1]) dX9_receipt_115
        · replace hE := it_f hE c_9_2
          by_cases c_9_3 : x2 = 3
          · replace hE := it_t hE c_9_3
            refine lv_tableIn (tgt := 116) hx hb dX9_receipt_45 (by rw [c_9_3]; decide) (by rw [c_9_3]; decide) (off := 71) (by rw [c_9_3]; decide) (by decide) ?_
            refine lv_aload_n hx hb dX9_receipt_116 rfl (lv_at hl 1 rfl) ?_
            refine va_get (D := D) (ci := 9) (v := .ref (aM 1)) (C := RX9) (T := TX9) (N := 13) hx hb hts iX9 hown hK hP 0 rfl rfl 0 (by decide) f7 (fun _ h9 => h9) rfl dX9_receipt_117 ?_
            refine lv_sipush (v := 1779) hx hb dX9_receipt_120 (by decide) ?_
            refine lv_iload_n hx hb dX9_receipt_123 rfl (lv_at hl 0 rfl) ?_
            refine lv_iadd hx hb dX9_receipt_124 ?_
            obtain ⟨g_11, hE⟩ := gi_el hE
            refine va_lald hx hb hK hP 1 1 rfl rfl g_11 dX9_receipt_125 ?_
            refine lv_l2i hx hb dX9_receipt_126 rfl ?_
            have hE := Option.some.inj hE
            obtain ⟨q0, q1⟩ := Prod.mk.inj hE
            exact ei hx hb hr hlocks hK hP hD hS q0 (by rw [q1]) dX9_receipt_127
          · replace hE := it_f hE c_9_3
            by_cases c_9_4 : x2 = 4
            · replace hE := it_t hE c_9_4
              refine lv_tableIn (tgt := 128) hx hb dX9_receipt_45 (by rw [c_9_4]; decide) (by rw [c_9_4]; decide) (off := 83) (by rw [c_9_4]; decide) (by decide) ?_
              refine lv_aload_n hx hb dX9_receipt_128 rfl (lv_at hl 1 rfl) ?_
              refine va_get (D := D) (ci := 9) (v := .ref (aM 1)) (C := RX9) (T := TX9) (N := 13) hx hb hts iX9 hown hK hP 0 rfl rfl 0 (by decide) f7 (fun _ h9 => h9) rfl dX9_receipt_129 ?_
              refine lv_sipush (v := 1795) hx hb dX9_receipt_132 (by decide) ?_
              refine lv_iload_n hx hb dX9_receipt_135 rfl (lv_at hl 0 rfl) ?_
              refine lv_iadd hx hb dX9_receipt_136 ?_
              obtain ⟨g_10, hE⟩ := gi_el hE
              refine va_lald hx hb hK hP 1 1 rfl rfl g_10 dX9_receipt_137 ?_
              refine lv_l2i hx hb dX9_receipt_138 rfl ?_
              have hE := Option.some.inj hE
              obtain ⟨q0, q1⟩ := Prod.mk.inj hE
              exact ei hx hb hr hlocks hK hP hD hS q0 (by rw [q1]) dX9_receipt_139
            · replace hE := it_f hE c_9_4
              refine lv_tableOut (tgt := 140) hx hb dX9_receipt_45 (sw_out (lo := 0) (hi := 4) (fun z h1 h2 => ?_)) (by decide) ?_
              · rcases (show z = 0 ∨ z = 1 ∨ z = 2 ∨ z = 3 ∨ z = 4 by omega) with rfl | rfl | rfl | rfl | rfl
                · exact fun q9 => c_9_0 (q9.trans (by decide))
                · exact fun q9 => c_9_1 (q9.trans (by decide))
                · exact fun q9 => c_9_2 (q9.trans (by decide))
                · exact fun q9 => c_9_3 (q9.trans (by decide))
                · exact fun q9 => c_9_4 (q9.trans (by decide))
              · refine lv_aload_n hx hb dX9_receipt_140 rfl (lv_at hl 1 rfl) ?_
                refine lv_iconst (v := 2) hx hb dX9_receipt_141 (by decide) ?_
                obtain ⟨r_6, mM_7, hc_8, hE⟩ := bd2_el hE
                refine ki (X := []) (Y := []) (ws1 := (W_M cy aM mM_7 inM)) (rV (X := []) (Y := []) (As := [.int (2 : Int32)]) (rest := []) hC (c_X9_refuse l D cy aM (2 : Int32) mM_1 inM r_6 mM_7 hc_8) (cwV 1 hts gX9_receipt_X9_refuse rfl rfl rfl cd_X9_refuse ⟨Nat.le_of_ble_eq_true rfl, Nat.le_of_ble_eq_true rfl⟩) hK hN hP hD hS hA rfl 0 9 rfl rfl rfl hl.1 rfl (lv_room (Nat.le_of_ble_eq_true rfl)) dX9_receipt_142 ⟨Nat.le_of_ble_eq_true rfl, Nat.le_of_ble_eq_true rfl⟩) hP hD hS hA rfl rfl rfl (fun H locs hP hD hS => ?_)
                have hE := Option.some.inj hE
                obtain ⟨q0, q1⟩ := Prod.mk.inj hE
                exact ei hx hb hr hlocks hK hP hD hS q0 (by rw [q1]) dX9_receipt_145
  · replace hE := it_t hE c_4
    refine lv_aload_n hx hb dX9_receipt_24 rfl (lv_at hl 0 rfl) ?_
    refine lv_iconst (v := 1) hx hb dX9_receipt_25 (by decide) ?_
    obtain ⟨r_15, mM_16, hc_17, hE⟩ := bd2_el hE
    refine ki (X := []) (Y := []) (ws1 := (W_M cy aM mM_16 inM)) (rV (X := []) (Y := []) (As := [.int (1 : Int32)]) (rest := []) hC (c_X9_refuse l D cy aM (1 : Int32) mM_1 inM r_15 mM_16 hc_17) (cwV 1 hts gX9_receipt_X9_refuse rfl rfl rfl cd_X9_refuse ⟨Nat.le_of_ble_eq_true rfl, Nat.le_of_ble_eq_true rfl⟩) hK hN hP hD hS hA rfl 0 9 rfl rfl rfl hl.1 rfl (lv_room (Nat.le_of_ble_eq_true rfl)) dX9_receipt_26 ⟨Nat.le_of_ble_eq_true rfl, Nat.le_of_ble_eq_true rfl⟩) hP hD hS hA rfl rfl rfl (fun H locs hP hD hS => ?_)
    have hE := Option.some.inj hE
    obtain ⟨q0, q1⟩ := Prod.mk.inj hE
    exact ei hx hb hr hlocks hK hP hD hS q0 (by rw [q1]) dX9_receipt_29
abbrev rm_X9_account : Room := { frames := 1, cells := 0, slots := 0, locals := 25 }
set_option maxHeartbeats 40000000 in
set_option maxRecDepth 100000 in
theorem c_X9_account (l : Launch) (D : va_G) (cy : Nat → Nat) (aM : Nat → Nat) (x1 : Int32) (x2 : Int32) (imM : Mem) (inM : MemL) (r' : Int64) (mM' : Mem) (hE : f_X9_account x1 x2 imM inM = some (r', mM')) : CL l yX9_account wsX9_account rm_X9_account D cy [.ref (aM 0), .int x1, .int x2] (W_M cy aM imM inM) 0 0 r' (W_M cy aM mM' inM) := by
  refine CQ_of (cc := cX9_account) (maxL := 3) (ret := (some .long)) (by decide) rfl (Nat.le_of_ble_eq_true rfl) (fun p e s m args below meth c A ls hx hb hr hml hlocks hnm hown hts hA hK hN hP hD hS hl => ?_)
  have hown : s.vm.findClass RX9 = some m.cls := hown
  have hl : lv_has ls 3 [(0, .ref (aM 0)), (1, .int x1), (2, .int x2)] := hl
  have hC : CallFix p m c cX9_account 3 s args wsX9_account RX9 := ⟨hx, hb, hml, hown, hts⟩
  have f7 : (Cond.fieldLink RX9 7 "IcePlantModel" "w" "[J").before args s = true := hts _ (mC qf_X9_7)
  have f43 : (Cond.fieldLink RX9 43 "IcePlantModel" "thrown" "I").before args s = true := hts _ (mC qf_X9_43)
  have iX9 : ∀ w ∈ wsX90, w ∈ wsX9_account := fun w h => mC (iA_X9 w h)
  unfold f_X9_account at hE
  refine lv_aload_n hx hb dX9_account_0 rfl (lv_at hl 0 rfl) ?_
  refine lv_iconst (v := 0) hx hb dX9_account_1 (by decide) ?_
  obtain ⟨mM_1, e_mM_1, hE⟩ := lt_el hE
  refine s_pf (own := RX9) (C := RX9) (T := TX9) (N := 13) (ci := 9) (ws1 := (W_M cy aM mM_1 inM)) hx hb hts iX9 tyX9 tyX9_ok nmX9 hown hK hP hD hS 0 rfl rfl 8 (by decide) f43 rfl rfl rfl rfl (Nat.le_of_ble_eq_true rfl) (by rw [e_mM_1]; rfl) dX9_account_2 (fun H locs hP hD hS => ?_)
  refine lv_iload_n hx hb dX9_account_5 rfl (lv_at hl 1 rfl) ?_
  refine lv_i2l hx hb dX9_account_6 rfl ?_
  refine lv_lconst (v := 0) hx hb dX9_account_7 (by decide) ?_
  refine lv_aload_n hx hb dX9_account_8 rfl (lv_at hl 0 rfl) ?_
  refine va_get (D := D) (ci := 9) (v := .ref (aM 1)) (C := RX9) (T := TX9) (N := 13) hx hb hts iX9 hown hK hP 0 rfl rfl 0 (by decide) f7 (fun _ h9 => h9) rfl dX9_account_9 ?_
  refine lv_sipush (v := 1886) hx hb dX9_account_12 (by decide) ?_
  refine va_lald hx hb hK hP 1 1 rfl rfl (show ¬ ((1886 : Int32) < 0 ∨ 1888 ≤ (1886 : Int32).toNatClampNeg) by decide) dX9_account_15 ?_
  refine lv_lconst (v := 1) hx hb dX9_account_16 (by decide) ?_
  refine lv_lsub hx hb dX9_account_17 ?_
  obtain ⟨r_2, hc_3, hE⟩ := bd1_el hE
  refine ki (X := []) (Y := (W_M cy aM mM_1 inM)) (ws1 := (W_M cy aM mM_1 inM)) (rS (X := []) (Y := (W_M cy aM mM_1 inM)) (As := [.long (x1.toInt64), .long (0 : Int64), .long ((inM 0 (1886 : Int32).toNatClampNeg) - (1 : Int64))]) (rest := []) hC (c_X9_in l D cy (x1.toInt64) (0 : Int64) ((inM 0 (1886 : Int32).toNatClampNeg) - (1 : Int64)) r_2 hc_3) (cwS 3 hts gX9_account_X9_in rfl rfl rfl cd_X9_in ⟨Nat.le_of_ble_eq_true rfl, Nat.le_of_ble_eq_true rfl⟩) hK hN hP hD hS hA rfl rfl hl.1 rfl (lv_room (Nat.le_of_ble_eq_true rfl)) dX9_account_18 ⟨Nat.le_of_ble_eq_true rfl, Nat.le_of_ble_eq_true rfl⟩) hP hD hS hA rfl rfl rfl (fun H locs hP hD hS => ?_)
  refine lv_if_ne (tgt := 31) hx hb dX9_account_21 (by decide) (fun c_4 => ?_) (fun c_4 => ?_)
  · replace hE := it_f hE c_4
    refine lv_iload_n hx hb dX9_account_31 rfl (lv_at hl 2 rfl) ?_
    by_cases c_8_0 : x2 = 0
    · replace hE := it_t hE c_8_0
      refine lv_tableIn (tgt := 64) hx hb dX9_account_32 (by rw [c_8_0]; decide) (by rw [c_8_0]; decide) (off := 32) (by rw [c_8_0]; decide) (by decide) ?_
      refine lv_aload_n hx hb dX9_account_64 rfl (lv_at hl 0 rfl) ?_
      refine va_get (D := D) (ci := 9) (v := .ref (aM 1)) (C := RX9) (T := TX9) (N := 13) hx hb hts iX9 hown hK hP 0 rfl rfl 0 (by decide) f7 (fun _ h9 => h9) rfl dX9_account_65 ?_
      refine lv_sipush (v := 1811) hx hb dX9_account_68 (by decide) ?_
      refine lv_iload_n hx hb dX9_account_71 rfl (lv_at hl 1 rfl) ?_
      refine lv_iadd hx hb dX9_account_72 ?_
      obtain ⟨g_12, hE⟩ := gi_el hE
      refine va_lald hx hb hK hP 1 1 rfl rfl g_12 dX9_account_73 ?_
      have hE := Option.some.inj hE
      obtain ⟨q0, q1⟩ := Prod.mk.inj hE
      exact el hx hb hr hlocks hK hP hD hS q0 (by rw [q1]) dX9_account_74
    · replace hE := it_f hE c_8_0
      by_cases c_8_1 : x2 = 1
      · replace hE := it_t hE c_8_1
        refine lv_tableIn (tgt := 75) hx hb dX9_account_32 (by rw [c_8_1]; decide) (by rw [c_8_1]; decide) (off := 43) (by rw [c_8_1]; decide) (by decide) ?_
        refine lv_aload_n hx hb dX9_account_75 rfl (lv_at hl 0 rfl) ?_
        refine va_get (D := D) (ci := 9) (v := .ref (aM 1)) (C := RX9) (T := TX9) (N := 13) hx hb hts iX9 hown hK hP 0 rfl rfl 0 (by decide) f7 (fun _ h9 => h9) rfl dX9_account_76 ?_
        refine lv_sipush (v := 1827) hx hb dX9_account_79 (by decide) ?_
        refine lv_iload_n hx hb dX9_account_82 rfl (lv_at hl 1 rfl) ?_
        refine lv_iadd hx hb dX9_account_83 ?_
        obtain ⟨g_11, hE⟩ := gi_el hE
        refine va_lald hx hb hK hP 1 1 rfl rfl g_11 dX9_account_84 ?_
        have hE := Option.some.inj hE
        obtain ⟨q0, q1⟩ := Prod.mk.inj hE
        exact el hx hb hr hlocks hK hP hD hS q0 (by rw [q1]) dX9_account_85
      · replace hE := it_f hE c_8_1
        by_cases c_8_2 : x2 = 2
        · replace hE := it_t hE c_8_2
          refine lv_tableIn (tgt := 86) hx hb dX9_account_32 (by rw [c_8_2]; decide) (by rw [c_8_2]; decide) (off := 54) (by rw [c_8_2]; decide) (by decide) ?_
          refine lv_aload_n hx hb dX9_account_86 rfl (lv_at hl 0 rfl) ?_
          refine va_get (D := D) (ci := 9) (v := .ref (aM 1)) (C := RX9) (T := TX9) (N := 13) hx hb hts iX9 hown hK hP 0 rfl rfl 0 (by decide) f7 (fun _ h9 => h9) rfl dX9_account_87 ?_
          refine lv_sipush (v := 1843) hx hb dX9_account_90 (by decide) ?_
          refine lv_iload_n hx hb dX9_account_93 rfl (lv_at hl 1 rfl) ?_
          refine lv_iadd hx hb dX9_account_94 ?_
          obtain ⟨g_10, hE⟩ := gi_el hE
          refine va_lald hx hb hK hP 1 1 rfl rfl g_10 dX9_account_95 ?_
          have hE := Option.some.inj hE
          obtain ⟨q0, q1⟩ := Prod.mk.inj hE
          exact el hx hb hr hlocks hK hP hD hS q0 (by rw [q1]) dX9_account_96
        · replace hE := it_f hE c_8_2
          by_cases c_8_3 : x2 = 3
          · replace hE := it_t hE c_8_3
            refine lv_tableIn (tgt := 97) hx hb dX9_account_32 (by rw [c_8_3]; decide) (by rw [c_8_3]; decide) (off := 65) (by rw [c_8_3]; decide) (by decide) ?_
            refine lv_aload_n hx hb dX9_account_97 rfl (lv_at hl 0 rfl) ?_
            refine va_get (D := D) (ci := 9) (v := .ref (aM 1)) (C := RX9) (T := TX9) (N := 13) hx hb hts iX9 hown hK hP 0 rfl rfl 0 (by decide) f7 (fun _ h9 => h9) rfl dX9_account_98 ?_
            refine lv_sipush (v := 1859) hx hb dX9_account_101 (by decide) ?_
            refine lv_iload_n hx hb dX9_account_104 rfl (lv_at hl 1 rfl) ?_
            refine lv_iadd hx hb dX9_account_105 ?_
            obtain ⟨g_9, hE⟩ := gi_el hE
            refine va_lald hx hb hK hP 1 1 rfl rfl g_9 dX9_account_106 ?_
            have hE := Option.some.inj hE
            obtain ⟨q0, q1⟩ := Prod.mk.inj hE
            exact el hx hb hr hlocks hK hP hD hS q0 (by rw [q1]) dX9_account_107
          · replace hE := it_f hE c_8_3
            refine lv_tableOut (tgt := 108) hx hb dX9_account_32 (sw_out (lo := 0) (hi := 3) (fun z h1 h2 => ?_)) (by decide) ?_
            · rcases (show z = 0 ∨ z = 1 ∨ z = 2 ∨ z = 3 by omega) with rfl | rfl | rfl | rfl
              · exact fun q9 => c_8_0 (q9.trans (by decide))
              · exact fun q9 => c_8_1 (q9.trans (by decide))
              · exact fun q9 => c_8_2 (q9.trans (by decide))
              · exact fun q9 => c_8_3 (q9.trans (by decide))
            · refine lv_aload_n hx hb dX9_account_108 rfl (lv_at hl 0 rfl) ?_
              refine lv_iconst (v := 2) hx hb dX9_account_109 (by decide) ?_
              obtain ⟨r_5, mM_6, hc_7, hE⟩ := bd2_el hE
              refine ki (X := []) (Y := []) (ws1 := (W_M cy aM mM_6 inM)) (rV (X := []) (Y := []) (As := [.int (2 : Int32)]) (rest := []) hC (c_X9_refuse l D cy aM (2 : Int32) mM_1 inM r_5 mM_6 hc_7) (cwV 1 hts gX9_account_X9_refuse rfl rfl rfl cd_X9_refuse ⟨Nat.le_of_ble_eq_true rfl, Nat.le_of_ble_eq_true rfl⟩) hK hN hP hD hS hA rfl 0 9 rfl rfl rfl hl.1 rfl (lv_room (Nat.le_of_ble_eq_true rfl)) dX9_account_110 ⟨Nat.le_of_ble_eq_true rfl, Nat.le_of_ble_eq_true rfl⟩) hP hD hS hA rfl rfl rfl (fun H locs hP hD hS => ?_)
              refine lv_i2l hx hb dX9_account_113 rfl ?_
              have hE := Option.some.inj hE
              obtain ⟨q0, q1⟩ := Prod.mk.inj hE
              exact el hx hb hr hlocks hK hP hD hS q0 (by rw [q1]) dX9_account_114
  · replace hE := it_t hE c_4
    refine lv_aload_n hx hb dX9_account_24 rfl (lv_at hl 0 rfl) ?_
    refine lv_iconst (v := 1) hx hb dX9_account_25 (by decide) ?_
    obtain ⟨r_13, mM_14, hc_15, hE⟩ := bd2_el hE
    refine ki (X := []) (Y := []) (ws1 := (W_M cy aM mM_14 inM)) (rV (X := []) (Y := []) (As := [.int (1 : Int32)]) (rest := []) hC (c_X9_refuse l D cy aM (1 : Int32) mM_1 inM r_13 mM_14 hc_15) (cwV 1 hts gX9_account_X9_refuse rfl rfl rfl cd_X9_refuse ⟨Nat.le_of_ble_eq_true rfl, Nat.le_of_ble_eq_true rfl⟩) hK hN hP hD hS hA rfl 0 9 rfl rfl rfl hl.1 rfl (lv_room (Nat.le_of_ble_eq_true rfl)) dX9_account_26 ⟨Nat.le_of_ble_eq_true rfl, Nat.le_of_ble_eq_true rfl⟩) hP hD hS hA rfl rfl rfl (fun H locs hP hD hS => ?_)
    refine lv_i2l hx hb dX9_account_29 rfl ?_
    have hE := Option.some.inj hE
    obtain ⟨q0, q1⟩ := Prod.mk.inj hE
    exact el hx hb hr hlocks hK hP hD hS q0 (by rw [q1]) dX9_account_30
abbrev rm_X9_findAccount : Room := { frames := 2, cells := 0, slots := 0, locals := 46 }
set_option maxHeartbeats 40000000 in
set_option maxRecDepth 100000 in
theorem c_X9_findAccount (l : Launch) (D : va_G) (cy : Nat → Nat) (aM : Nat → Nat) (x1 : Int32) (x2 : Int32) (imM : Mem) (inM : MemL) (r' : Int32) (mM' : Mem) (hE : f_X9_findAccount x1 x2 imM inM = some (r', mM')) : CI l yX9_findAccount wsX9_findAccount rm_X9_findAccount D cy [.ref (aM 0), .int x1, .int x2] (W_M cy aM imM inM) 0 0 r' (W_M cy aM mM' inM) := by
  refine CQ_of (cc := cX9_findAccount) (maxL := 3) (ret := (some .int)) (by decide) rfl (Nat.le_of_ble_eq_true rfl) (fun p e s m args below meth c A ls hx hb hr hml hlocks hnm hown hts hA hK hN hP hD hS hl => ?_)
  have hown : s.vm.findClass RX9 = some m.cls := hown
  have hl : lv_has ls 3 [(0, .ref (aM 0)), (1, .int x1), (2, .int x2)] := hl
  have hC : CallFix p m c cX9_findAccount 3 s args wsX9_findAccount RX9 := ⟨hx, hb, hml, hown, hts⟩
  have f43 : (Cond.fieldLink RX9 43 "IcePlantModel" "thrown" "I").before args s = true := hts _ (mC qf_X9_43)
  have iX9 : ∀ w ∈ wsX90, w ∈ wsX9_findAccount := fun w h => mC (iA_X9 w h)
  unfold f_X9_findAccount at hE
  refine lv_aload_n hx hb dX9_findAccount_0 rfl (lv_at hl 0 rfl) ?_
  refine lv_iconst (v := 0) hx hb dX9_findAccount_1 (by decide) ?_
  obtain ⟨mM_1, e_mM_1, hE⟩ := lt_el hE
  refine s_pf (own := RX9) (C := RX9) (T := TX9) (N := 13) (ci := 9) (ws1 := (W_M cy aM mM_1 inM)) hx hb hts iX9 tyX9 tyX9_ok nmX9 hown hK hP hD hS 0 rfl rfl 8 (by decide) f43 rfl rfl rfl rfl (Nat.le_of_ble_eq_true rfl) (by rw [e_mM_1]; rfl) dX9_findAccount_2 (fun H locs hP hD hS => ?_)
  refine lv_aload_n hx hb dX9_findAccount_5 rfl (lv_at hl 0 rfl) ?_
  refine lv_iload_n hx hb dX9_findAccount_6 rfl (lv_at hl 1 rfl) ?_
  obtain ⟨r_2, hc_3, hE⟩ := bd1_el hE
  refine ki (X := []) (Y := []) (ws1 := (W_M cy aM mM_1 inM)) (rV (X := []) (Y := []) (As := [.int x1]) (rest := []) hC (c_X9_isBoat l D cy aM x1 mM_1 inM r_2 hc_3) (cwV 1 hts gX9_findAccount_X9_isBoat rfl rfl rfl cd_X9_isBoat ⟨Nat.le_of_ble_eq_true rfl, Nat.le_of_ble_eq_true rfl⟩) hK hN hP hD hS hA rfl 0 9 rfl rfl rfl hl.1 rfl (lv_room (Nat.le_of_ble_eq_true rfl)) dX9_findAccount_7 ⟨Nat.le_of_ble_eq_true rfl, Nat.le_of_ble_eq_true rfl⟩) hP hD hS hA rfl rfl rfl (fun H locs hP hD hS => ?_)
  refine lv_if_ne (tgt := 19) hx hb dX9_findAccount_10 (by decide) (fun c_4 => ?_) (fun c_4 => ?_)
  · replace hE := it_f hE c_4
    refine lv_iload_n hx hb dX9_findAccount_19 rfl (lv_at hl 2 rfl) ?_
    refine lv_i2l hx hb dX9_findAccount_20 rfl ?_
    refine lv_lconst (v := 0) hx hb dX9_findAccount_21 (by decide) ?_
    refine lv_lconst (v := 1) hx hb dX9_findAccount_22 (by decide) ?_
    obtain ⟨r_5, hc_6, hE⟩ := bd1_el hE
    refine ki (X := []) (Y := (W_M cy aM mM_1 inM)) (ws1 := (W_M cy aM mM_1 inM)) (rS (X := []) (Y := (W_M cy aM mM_1 inM)) (As := [.long (x2.toInt64), .long (0 : Int64), .long (1 : Int64)]) (rest := []) hC (c_X9_in l D cy (x2.toInt64) (0 : Int64) (1 : Int64) r_5 hc_6) (cwS 3 hts gX9_findAccount_X9_in rfl rfl rfl cd_X9_in ⟨Nat.le_of_ble_eq_true rfl, Nat.le_of_ble_eq_true rfl⟩) hK hN hP hD hS hA rfl rfl hl.1 rfl (lv_room (Nat.le_of_ble_eq_true rfl)) dX9_findAccount_23 ⟨Nat.le_of_ble_eq_true rfl, Nat.le_of_ble_eq_true rfl⟩) hP hD hS hA rfl rfl rfl (fun H locs hP hD hS => ?_)
    refine lv_if_eq (tgt := 38) hx hb dX9_findAccount_26 (by decide) (fun c_7 => ?_) (fun c_7 => ?_)
    · replace hE := it_t hE c_7
      refine lv_aload_n hx hb dX9_findAccount_38 rfl (lv_at hl 0 rfl) ?_
      refine lv_iconst (v := 2) hx hb dX9_findAccount_39 (by decide) ?_
      obtain ⟨r_8, mM_9, hc_10, hE⟩ := bd2_el hE
      refine ki (X := []) (Y := []) (ws1 := (W_M cy aM mM_9 inM)) (rV (X := []) (Y := []) (As := [.int (2 : Int32)]) (rest := []) hC (c_X9_refuse l D cy aM (2 : Int32) mM_1 inM r_8 mM_9 hc_10) (cwV 1 hts gX9_findAccount_X9_refuse rfl rfl rfl cd_X9_refuse ⟨Nat.le_of_ble_eq_true rfl, Nat.le_of_ble_eq_true rfl⟩) hK hN hP hD hS hA rfl 0 9 rfl rfl rfl hl.1 rfl (lv_room (Nat.le_of_ble_eq_true rfl)) dX9_findAccount_40 ⟨Nat.le_of_ble_eq_true rfl, Nat.le_of_ble_eq_true rfl⟩) hP hD hS hA rfl rfl rfl (fun H locs hP hD hS => ?_)
      have hE := Option.some.inj hE
      obtain ⟨q0, q1⟩ := Prod.mk.inj hE
      exact ei hx hb hr hlocks hK hP hD hS q0 (by rw [q1]) dX9_findAccount_43
    · replace hE := it_f hE c_7
      refine lv_aload_n hx hb dX9_findAccount_29 rfl (lv_at hl 0 rfl) ?_
      refine lv_iload_n hx hb dX9_findAccount_30 rfl (lv_at hl 1 rfl) ?_
      refine lv_iload_n hx hb dX9_findAccount_31 rfl (lv_at hl 2 rfl) ?_
      obtain ⟨r_11, hc_12, hE⟩ := bd1_el hE
      refine ki (X := []) (Y := []) (ws1 := (W_M cy aM mM_1 inM)) (rV (X := []) (Y := []) (As := [.int x1, .int x2]) (rest := []) hC (c_X9_accountOf l D cy aM x1 x2 mM_1 inM r_11 hc_12) (cwV 2 hts gX9_findAccount_X9_accountOf rfl rfl rfl cd_X9_accountOf ⟨Nat.le_of_ble_eq_true rfl, Nat.le_of_ble_eq_true rfl⟩) hK hN hP hD hS hA rfl 0 9 rfl rfl rfl hl.1 rfl (lv_room (Nat.le_of_ble_eq_true rfl)) dX9_findAccount_32 ⟨Nat.le_of_ble_eq_true rfl, Nat.le_of_ble_eq_true rfl⟩) hP hD hS hA rfl rfl rfl (fun H locs hP hD hS => ?_)
      refine lv_goto (tgt := 43) hx hb dX9_findAccount_35 (by decide) ?_
      have hE := Option.some.inj hE
      obtain ⟨q0, q1⟩ := Prod.mk.inj hE
      exact ei hx hb hr hlocks hK hP hD hS q0 (by rw [q1]) dX9_findAccount_43
  · replace hE := it_t hE c_4
    refine lv_aload_n hx hb dX9_findAccount_13 rfl (lv_at hl 0 rfl) ?_
    refine lv_iconst (v := 1) hx hb dX9_findAccount_14 (by decide) ?_
    obtain ⟨r_13, mM_14, hc_15, hE⟩ := bd2_el hE
    refine ki (X := []) (Y := []) (ws1 := (W_M cy aM mM_14 inM)) (rV (X := []) (Y := []) (As := [.int (1 : Int32)]) (rest := []) hC (c_X9_refuse l D cy aM (1 : Int32) mM_1 inM r_13 mM_14 hc_15) (cwV 1 hts gX9_findAccount_X9_refuse rfl rfl rfl cd_X9_refuse ⟨Nat.le_of_ble_eq_true rfl, Nat.le_of_ble_eq_true rfl⟩) hK hN hP hD hS hA rfl 0 9 rfl rfl rfl hl.1 rfl (lv_room (Nat.le_of_ble_eq_true rfl)) dX9_findAccount_15 ⟨Nat.le_of_ble_eq_true rfl, Nat.le_of_ble_eq_true rfl⟩) hP hD hS hA rfl rfl rfl (fun H locs hP hD hS => ?_)
    have hE := Option.some.inj hE
    obtain ⟨q0, q1⟩ := Prod.mk.inj hE
    exact ei hx hb hr hlocks hK hP hD hS q0 (by rw [q1]) dX9_findAccount_18
abbrev rm_X9_setting : Room := { frames := 1, cells := 0, slots := 0, locals := 25 }
set_option maxHeartbeats 40000000 in
set_option maxRecDepth 100000 in
theorem c_X9_setting (l : Launch) (D : va_G) (cy : Nat → Nat) (aM : Nat → Nat) (x1 : Int32) (imM : Mem) (inM : MemL) (r' : Int32) (mM' : Mem) (hE : f_X9_setting x1 imM inM = some (r', mM')) : CI l yX9_setting wsX9_setting rm_X9_setting D cy [.ref (aM 0), .int x1] (W_M cy aM imM inM) 0 0 r' (W_M cy aM mM' inM) := by
  refine CQ_of (cc := cX9_setting) (maxL := 2) (ret := (some .int)) (by decide) rfl (Nat.le_of_ble_eq_true rfl) (fun p e s m args below meth c A ls hx hb hr hml hlocks hnm hown hts hA hK hN hP hD hS hl => ?_)
  have hown : s.vm.findClass RX9 = some m.cls := hown
  have hl : lv_has ls 2 [(0, .ref (aM 0)), (1, .int x1)] := hl
  have hC : CallFix p m c cX9_setting 2 s args wsX9_setting RX9 := ⟨hx, hb, hml, hown, hts⟩
  have f7 : (Cond.fieldLink RX9 7 "IcePlantModel" "w" "[J").before args s = true := hts _ (mC qf_X9_7)
  have f43 : (Cond.fieldLink RX9 43 "IcePlantModel" "thrown" "I").before args s = true := hts _ (mC qf_X9_43)
  have iX9 : ∀ w ∈ wsX90, w ∈ wsX9_setting := fun w h => mC (iA_X9 w h)
  have k84 : (Cond.constantLong RX9 84 (7)).before args s = true := hts _ (mC qk_X9_84)
  unfold f_X9_setting at hE
  refine lv_aload_n hx hb dX9_setting_0 rfl (lv_at hl 0 rfl) ?_
  refine lv_iconst (v := 0) hx hb dX9_setting_1 (by decide) ?_
  obtain ⟨mM_1, e_mM_1, hE⟩ := lt_el hE
  refine s_pf (own := RX9) (C := RX9) (T := TX9) (N := 13) (ci := 9) (ws1 := (W_M cy aM mM_1 inM)) hx hb hts iX9 tyX9 tyX9_ok nmX9 hown hK hP hD hS 0 rfl rfl 8 (by decide) f43 rfl rfl rfl rfl (Nat.le_of_ble_eq_true rfl) (by rw [e_mM_1]; rfl) dX9_setting_2 (fun H locs hP hD hS => ?_)
  refine lv_iload_n hx hb dX9_setting_5 rfl (lv_at hl 1 rfl) ?_
  refine lv_i2l hx hb dX9_setting_6 rfl ?_
  refine lv_lconst (v := 0) hx hb dX9_setting_7 (by decide) ?_
  refine lv_ldc2 hx hb hown k84 dX9_setting_8 ?_
  obtain ⟨r_2, hc_3, hE⟩ := bd1_el hE
  refine ki (X := []) (Y := (W_M cy aM mM_1 inM)) (ws1 := (W_M cy aM mM_1 inM)) (rS (X := []) (Y := (W_M cy aM mM_1 inM)) (As := [.long (x1.toInt64), .long (0 : Int64), .long (7 : Int64)]) (rest := []) hC (c_X9_in l D cy (x1.toInt64) (0 : Int64) (7 : Int64) r_2 hc_3) (cwS 3 hts gX9_setting_X9_in rfl rfl rfl cd_X9_in ⟨Nat.le_of_ble_eq_true rfl, Nat.le_of_ble_eq_true rfl⟩) hK hN hP hD hS hA rfl rfl hl.1 rfl (lv_room (Nat.le_of_ble_eq_true rfl)) dX9_setting_11 ⟨Nat.le_of_ble_eq_true rfl, Nat.le_of_ble_eq_true rfl⟩) hP hD hS hA rfl rfl rfl (fun H locs hP hD hS => ?_)
  refine lv_if_eq (tgt := 29) hx hb dX9_setting_14 (by decide) (fun c_4 => ?_) (fun c_4 => ?_)
  · replace hE := it_t hE c_4
    refine lv_aload_n hx hb dX9_setting_29 rfl (lv_at hl 0 rfl) ?_
    refine lv_iconst (v := 1) hx hb dX9_setting_30 (by decide) ?_
    obtain ⟨r_5, mM_6, hc_7, hE⟩ := bd2_el hE
    refine ki (X := []) (Y := []) (ws1 := (W_M cy aM mM_6 inM)) (rV (X := []) (Y := []) (As := [.int (1 : Int32)]) (rest := []) hC (c_X9_refuse l D cy aM (1 : Int32) mM_1 inM r_5 mM_6 hc_7) (cwV 1 hts gX9_setting_X9_refuse rfl rfl rfl cd_X9_refuse ⟨Nat.le_of_ble_eq_true rfl, Nat.le_of_ble_eq_true rfl⟩) hK hN hP hD hS hA rfl 0 9 rfl rfl rfl hl.1 rfl (lv_room (Nat.le_of_ble_eq_true rfl)) dX9_setting_31 ⟨Nat.le_of_ble_eq_true rfl, Nat.le_of_ble_eq_true rfl⟩) hP hD hS hA rfl rfl rfl (fun H locs hP hD hS => ?_)
    have hE := Option.some.inj hE
    obtain ⟨q0, q1⟩ := Prod.mk.inj hE
    exact ei hx hb hr hlocks hK hP hD hS q0 (by rw [q1]) dX9_setting_34
  · replace hE := it_f hE c_4
    refine lv_aload_n hx hb dX9_setting_17 rfl (lv_at hl 0 rfl) ?_
    refine va_get (D := D) (ci := 9) (v := .ref (aM 1)) (C := RX9) (T := TX9) (N := 13) hx hb hts iX9 hown hK hP 0 rfl rfl 0 (by decide) f7 (fun _ h9 => h9) rfl dX9_setting_18 ?_
    refine lv_iconst (v := 0) hx hb dX9_setting_21 (by decide) ?_
    refine lv_iload_n hx hb dX9_setting_22 rfl (lv_at hl 1 rfl) ?_
    refine lv_iadd hx hb dX9_setting_23 ?_
    obtain ⟨g_8, hE⟩ := gi_el hE
    refine va_lald hx hb hK hP 1 1 rfl rfl g_8 dX9_setting_24 ?_
    refine lv_l2i hx hb dX9_setting_25 rfl ?_
    refine lv_goto (tgt := 34) hx hb dX9_setting_26 (by decide) ?_
    have hE := Option.some.inj hE
    obtain ⟨q0, q1⟩ := Prod.mk.inj hE
    exact ei hx hb hr hlocks hK hP hD hS q0 (by rw [q1]) dX9_setting_34
abbrev rm_X9_total : Room := { frames := 1, cells := 0, slots := 0, locals := 24 }
set_option maxHeartbeats 40000000 in
set_option maxRecDepth 100000 in
theorem c_X9_total (l : Launch) (D : va_G) (cy : Nat → Nat) (aM : Nat → Nat) (x1 : Int32) (imM : Mem) (inM : MemL) (r' : Int64) (mM' : Mem) (hE : f_X9_total x1 imM inM = some (r', mM')) : CL l yX9_total wsX9_total rm_X9_total D cy [.ref (aM 0), .int x1] (W_M cy aM imM inM) 0 0 r' (W_M cy aM mM' inM) := by
  refine CQ_of (cc := cX9_total) (maxL := 2) (ret := (some .long)) (by decide) rfl (Nat.le_of_ble_eq_true rfl) (fun p e s m args below meth c A ls hx hb hr hml hlocks hnm hown hts hA hK hN hP hD hS hl => ?_)
  have hown : s.vm.findClass RX9 = some m.cls := hown
  have hl : lv_has ls 2 [(0, .ref (aM 0)), (1, .int x1)] := hl
  have hC : CallFix p m c cX9_total 2 s args wsX9_total RX9 := ⟨hx, hb, hml, hown, hts⟩
  have f7 : (Cond.fieldLink RX9 7 "IcePlantModel" "w" "[J").before args s = true := hts _ (mC qf_X9_7)
  have f43 : (Cond.fieldLink RX9 43 "IcePlantModel" "thrown" "I").before args s = true := hts _ (mC qf_X9_43)
  have f51 : (Cond.fieldLink RX9 51 "IcePlantModel" "savedMany" "I").before args s = true := hts _ (mC qf_X9_51)
  have iX9 : ∀ w ∈ wsX90, w ∈ wsX9_total := fun w h => mC (iA_X9 w h)
  unfold f_X9_total at hE
  refine lv_aload_n hx hb dX9_total_0 rfl (lv_at hl 0 rfl) ?_
  refine lv_iconst (v := 0) hx hb dX9_total_1 (by decide) ?_
  obtain ⟨mM_1, e_mM_1, hE⟩ := lt_el hE
  refine s_pf (own := RX9) (C := RX9) (T := TX9) (N := 13) (ci := 9) (ws1 := (W_M cy aM mM_1 inM)) hx hb hts iX9 tyX9 tyX9_ok nmX9 hown hK hP hD hS 0 rfl rfl 8 (by decide) f43 rfl rfl rfl rfl (Nat.le_of_ble_eq_true rfl) (by rw [e_mM_1]; rfl) dX9_total_2 (fun H locs hP hD hS => ?_)
  refine lv_iload_n hx hb dX9_total_5 rfl (lv_at hl 1 rfl) ?_
  by_cases c_5_0 : x1 = 0
  · replace hE := it_t hE c_5_0
    refine lv_tableIn (tgt := 84) hx hb dX9_total_6 (by rw [c_5_0]; decide) (by rw [c_5_0]; decide) (off := 78) (by rw [c_5_0]; decide) (by decide) ?_
    refine lv_aload_n hx hb dX9_total_84 rfl (lv_at hl 0 rfl) ?_
    refine va_get (D := D) (ci := 9) (v := .ref (aM 1)) (C := RX9) (T := TX9) (N := 13) hx hb hts iX9 hown hK hP 0 rfl rfl 0 (by decide) f7 (fun _ h9 => h9) rfl dX9_total_85 ?_
    refine lv_sipush (v := 1875) hx hb dX9_total_88 (by decide) ?_
    refine va_lald hx hb hK hP 1 1 rfl rfl (show ¬ ((1875 : Int32) < 0 ∨ 1888 ≤ (1875 : Int32).toNatClampNeg) by decide) dX9_total_91 ?_
    have hE := Option.some.inj hE
    obtain ⟨q0, q1⟩ := Prod.mk.inj hE
    exact el hx hb hr hlocks hK hP hD hS q0 (by rw [q1]) dX9_total_92
  · replace hE := it_f hE c_5_0
    by_cases c_5_1 : x1 = 1
    · replace hE := it_t hE c_5_1
      refine lv_tableIn (tgt := 93) hx hb dX9_total_6 (by rw [c_5_1]; decide) (by rw [c_5_1]; decide) (off := 87) (by rw [c_5_1]; decide) (by decide) ?_
      refine lv_aload_n hx hb dX9_total_93 rfl (lv_at hl 0 rfl) ?_
      refine va_get (D := D) (ci := 9) (v := .ref (aM 1)) (C := RX9) (T := TX9) (N := 13) hx hb hts iX9 hown hK hP 0 rfl rfl 0 (by decide) f7 (fun _ h9 => h9) rfl dX9_total_94 ?_
      refine lv_sipush (v := 1876) hx hb dX9_total_97 (by decide) ?_
      refine va_lald hx hb hK hP 1 1 rfl rfl (show ¬ ((1876 : Int32) < 0 ∨ 1888 ≤ (1876 : Int32).toNatClampNeg) by decide) dX9_total_100 ?_
      have hE := Option.some.inj hE
      obtain ⟨q0, q1⟩ := Prod.mk.inj hE
      exact el hx hb hr hlocks hK hP hD hS q0 (by rw [q1]) dX9_total_101
    · replace hE := it_f hE c_5_1
      by_cases c_5_2 : x1 = 2
      · replace hE := it_t hE c_5_2
        refine lv_tableIn (tgt := 102) hx hb dX9_total_6 (by rw [c_5_2]; decide) (by rw [c_5_2]; decide) (off := 96) (by rw [c_5_2]; decide) (by decide) ?_
        refine lv_aload_n hx hb dX9_total_102 rfl (lv_at hl 0 rfl) ?_
        refine va_get (D := D) (ci := 9) (v := .ref (aM 1)) (C := RX9) (T := TX9) (N := 13) hx hb hts iX9 hown hK hP 0 rfl rfl 0 (by decide) f7 (fun _ h9 => h9) rfl dX9_total_103 ?_
        refine lv_sipush (v := 1877) hx hb dX9_total_106 (by decide) ?_
        refine va_lald hx hb hK hP 1 1 rfl rfl (show ¬ ((1877 : Int32) < 0 ∨ 1888 ≤ (1877 : Int32).toNatClampNeg) by decide) dX9_total_109 ?_
        have hE := Option.some.inj hE
        obtain ⟨q0, q1⟩ := Prod.mk.inj hE
        exact el hx hb hr hlocks hK hP hD hS q0 (by rw [q1]) dX9_total_110
      · replace hE := it_f hE c_5_2
        by_cases c_5_3 : x1 = 3
        · replace hE := it_t hE c_5_3
          refine lv_tableIn (tgt := 111) hx hb dX9_total_6 (by rw [c_5_3]; decide) (by rw [c_5_3]; decide) (off := 105) (by rw [c_5_3]; decide) (by decide) ?_
          refine lv_aload_n hx hb dX9_total_111 rfl (lv_at hl 0 rfl) ?_
          refine va_get (D := D) (ci := 9) (v := .ref (aM 1)) (C := RX9) (T := TX9) (N := 13) hx hb hts iX9 hown hK hP 0 rfl rfl 0 (by decide) f7 (fun _ h9 => h9) rfl dX9_total_112 ?_
          refine lv_sipush (v := 1878) hx hb dX9_total_115 (by decide) ?_
          refine va_lald hx hb hK hP 1 1 rfl rfl (show ¬ ((1878 : Int32) < 0 ∨ 1888 ≤ (1878 : Int32).toNatClampNeg) by decide) dX9_total_118 ?_
          have hE := Option.some.inj hE
          obtain ⟨q0, q1⟩ := Prod.mk.inj hE
          exact el hx hb hr hlocks hK hP hD hS q0 (by rw [q1]) dX9_total_119
        · replace hE := it_f hE c_5_3
          by_cases c_5_4 : x1 = 4
          · replace hE := it_t hE c_5_4
            refine lv_tableIn (tgt := 120) hx hb dX9_total_6 (by rw [c_5_4]; decide) (by rw [c_5_4]; decide) (off := 114) (by rw [c_5_4]; decide) (by decide) ?_
            refine lv_aload_n hx hb dX9_total_120 rfl (lv_at hl 0 rfl) ?_
            obtain ⟨r_10, hc_11, hE⟩ := bd1_el hE
            refine kl (X := []) (Y := []) (ws1 := (W_M cy aM mM_1 inM)) (rV (X := []) (Y := []) (As := []) (rest := []) hC (c_X9_stored l D cy aM mM_1 inM r_10 hc_11) (cwV 0 hts gX9_total_X9_stored rfl rfl rfl cd_X9_stored ⟨Nat.le_of_ble_eq_true rfl, Nat.le_of_ble_eq_true rfl⟩) hK hN hP hD hS hA rfl 0 9 rfl rfl rfl hl.1 rfl (lv_room (Nat.le_of_ble_eq_true rfl)) dX9_total_121 ⟨Nat.le_of_ble_eq_true rfl, Nat.le_of_ble_eq_true rfl⟩) hP hD hS hA rfl rfl rfl (fun H locs hP hD hS => ?_)
            have hE := Option.some.inj hE
            obtain ⟨q0, q1⟩ := Prod.mk.inj hE
            exact el hx hb hr hlocks hK hP hD hS q0 (by rw [q1]) dX9_total_124
          · replace hE := it_f hE c_5_4
            by_cases c_5_5 : x1 = 5
            · replace hE := it_t hE c_5_5
              refine lv_tableIn (tgt := 125) hx hb dX9_total_6 (by rw [c_5_5]; decide) (by rw [c_5_5]; decide) (off := 119) (by rw [c_5_5]; decide) (by decide) ?_
              refine lv_aload_n hx hb dX9_total_125 rfl (lv_at hl 0 rfl) ?_
              refine va_get (D := D) (ci := 9) (v := .ref (aM 1)) (C := RX9) (T := TX9) (N := 13) hx hb hts iX9 hown hK hP 0 rfl rfl 0 (by decide) f7 (fun _ h9 => h9) rfl dX9_total_126 ?_
              refine lv_sipush (v := 1879) hx hb dX9_total_129 (by decide) ?_
              refine va_lald hx hb hK hP 1 1 rfl rfl (show ¬ ((1879 : Int32) < 0 ∨ 1888 ≤ (1879 : Int32).toNatClampNeg) by decide) dX9_total_132 ?_
              have hE := Option.some.inj hE
              obtain ⟨q0, q1⟩ := Prod.mk.inj hE
              exact el hx hb hr hlocks hK hP hD hS q0 (by rw [q1]) dX9_total_133
            · replace hE := it_f hE c_5_5
              by_cases c_5_6 : x1 = 6
              · replace hE := it_t hE c_5_6
                refine lv_tableIn (tgt := 134) hx hb dX9_total_6 (by rw [c_5_6]; decide) (by rw [c_5_6]; decide) (off := 128) (by rw [c_5_6]; decide) (by decide) ?_
                refine lv_aload_n hx hb dX9_total_134 rfl (lv_at hl 0 rfl) ?_
                obtain ⟨r_8, hc_9, hE⟩ := bd1_el hE
                refine ki (X := []) (Y := []) (ws1 := (W_M cy aM mM_1 inM)) (rV (X := []) (Y := []) (As := []) (rest := []) hC (c_X9_blocks l D cy aM mM_1 inM r_8 hc_9) (cwV 0 hts gX9_total_X9_blocks rfl rfl rfl cd_X9_blocks ⟨Nat.le_of_ble_eq_true rfl, Nat.le_of_ble_eq_true rfl⟩) hK hN hP hD hS hA rfl 0 9 rfl rfl rfl hl.1 rfl (lv_room (Nat.le_of_ble_eq_true rfl)) dX9_total_135 ⟨Nat.le_of_ble_eq_true rfl, Nat.le_of_ble_eq_true rfl⟩) hP hD hS hA rfl rfl rfl (fun H locs hP hD hS => ?_)
                refine lv_i2l hx hb dX9_total_138 rfl ?_
                have hE := Option.some.inj hE
                obtain ⟨q0, q1⟩ := Prod.mk.inj hE
                exact el hx hb hr hlocks hK hP hD hS q0 (by rw [q1]) dX9_total_139
              · replace hE := it_f hE c_5_6
                by_cases c_5_7 : x1 = 7
                · replace hE := it_t hE c_5_7
                  refine lv_tableIn (tgt := 140) hx hb dX9_total_6 (by rw [c_5_7]; decide) (by rw [c_5_7]; decide) (off := 134) (by rw [c_5_7]; decide) (by decide) ?_
                  refine lv_aload_n hx hb dX9_total_140 rfl (lv_at hl 0 rfl) ?_
                  refine va_get (D := D) (ci := 9) (v := .ref (aM 1)) (C := RX9) (T := TX9) (N := 13) hx hb hts iX9 hown hK hP 0 rfl rfl 0 (by decide) f7 (fun _ h9 => h9) rfl dX9_total_141 ?_
                  refine lv_sipush (v := 1880) hx hb dX9_total_144 (by decide) ?_
                  refine va_lald hx hb hK hP 1 1 rfl rfl (show ¬ ((1880 : Int32) < 0 ∨ 1888 ≤ (1880 : Int32).toNatClampNeg) by decide) dX9_total_147 ?_
                  have hE := Option.some.inj hE
                  obtain ⟨q0, q1⟩ := Prod.mk.inj hE
                  exact el hx hb hr hlocks hK hP hD hS q0 (by rw [q1]) dX9_total_148
                · replace hE := it_f hE c_5_7
                  by_cases c_5_8 : x1 = 8
                  · replace hE := it_t hE c_5_8
                    refine lv_tableIn (tgt := 149) hx hb dX9_total_6 (by rw [c_5_8]; decide) (by rw [c_5_8]; decide) (off := 143) (by rw [c_5_8]; decide) (by decide) ?_
                    refine lv_aload_n hx hb dX9_total_149 rfl (lv_at hl 0 rfl) ?_
                    refine va_get (D := D) (ci := 9) (v := .ref (aM 1)) (C := RX9) (T := TX9) (N := 13) hx hb hts iX9 hown hK hP 0 rfl rfl 0 (by decide) f7 (fun _ h9 => h9) rfl dX9_total_150 ?_
                    refine lv_sipush (v := 1881) hx hb dX9_total_153 (by decide) ?_
                    refine va_lald hx hb hK hP 1 1 rfl rfl (show ¬ ((1881 : Int32) < 0 ∨ 1888 ≤ (1881 : Int32).toNatClampNeg) by decide) dX9_total_156 ?_
                    have hE := Option.some.inj hE
                    obtain ⟨q0, q1⟩ := Prod.mk.inj hE
                    exact el hx hb hr hlocks hK hP hD hS q0 (by rw [q1]) dX9_total_157
                  · replace hE := it_f hE c_5_8
                    by_cases c_5_9 : x1 = 9
                    · replace hE := it_t hE c_5_9
                      refine lv_tableIn (tgt := 158) hx hb dX9_total_6 (by rw [c_5_9]; decide) (by rw [c_5_9]; decide) (off := 152) (by rw [c_5_9]; decide) (by decide) ?_
                      refine lv_aload_n hx hb dX9_total_158 rfl (lv_at hl 0 rfl) ?_
                      refine va_get (D := D) (ci := 9) (v := .ref (aM 1)) (C := RX9) (T := TX9) (N := 13) hx hb hts iX9 hown hK hP 0 rfl rfl 0 (by decide) f7 (fun _ h9 => h9) rfl dX9_total_159 ?_
                      refine lv_sipush (v := 1882) hx hb dX9_total_162 (by decide) ?_
                      refine va_lald hx hb hK hP 1 1 rfl rfl (show ¬ ((1882 : Int32) < 0 ∨ 1888 ≤ (1882 : Int32).toNatClampNeg) by decide) dX9_total_165 ?_
                      have hE := Option.some.inj hE
                      obtain ⟨q0, q1⟩ := Prod.mk.inj hE
                      exact el hx hb hr hlocks hK hP hD hS q0 (by rw [q1]) dX9_total_166
                    · replace hE := it_f hE c_5_9
                      by_cases c_5_10 : x1 = 10
                      · replace hE := it_t hE c_5_10
                        refine lv_tableIn (tgt := 167) hx hb dX9_total_6 (by rw [c_5_10]; decide) (by rw [c_5_10]; decide) (off := 161) (by rw [c_5_10]; decide) (by decide) ?_
                        refine lv_aload_n hx hb dX9_total_167 rfl (lv_at hl 0 rfl) ?_
                        obtain ⟨r_6, hc_7, hE⟩ := bd1_el hE
                        refine ki (X := []) (Y := []) (ws1 := (W_M cy aM mM_1 inM)) (rV (X := []) (Y := []) (As := []) (rest := []) hC (c_X9_openMany l D cy aM mM_1 inM r_6 hc_7) (cwV 0 hts gX9_total_X9_openMany rfl rfl rfl cd_X9_openMany ⟨Nat.le_of_ble_eq_true rfl, Nat.le_of_ble_eq_true rfl⟩) hK hN hP hD hS hA rfl 0 9 rfl rfl rfl hl.1 rfl (lv_room (Nat.le_of_ble_eq_true rfl)) dX9_total_168 ⟨Nat.le_of_ble_eq_true rfl, Nat.le_of_ble_eq_true rfl⟩) hP hD hS hA rfl rfl rfl (fun H locs hP hD hS => ?_)
                        refine lv_i2l hx hb dX9_total_171 rfl ?_
                        have hE := Option.some.inj hE
                        obtain ⟨q0, q1⟩ := Prod.mk.inj hE
                        exact el hx hb hr hlocks hK hP hD hS q0 (by rw [q1]) dX9_total_172
                      · replace hE := it_f hE c_5_10
                        by_cases c_5_11 : x1 = 11
                        · replace hE := it_t hE c_5_11
                          refine lv_tableIn (tgt := 173) hx hb dX9_total_6 (by rw [c_5_11]; decide) (by rw [c_5_11]; decide) (off := 167) (by rw [c_5_11]; decide) (by decide) ?_
                          refine lv_aload_n hx hb dX9_total_173 rfl (lv_at hl 0 rfl) ?_
                          refine va_get (D := D) (ci := 9) (v := .ref (aM 1)) (C := RX9) (T := TX9) (N := 13) hx hb hts iX9 hown hK hP 0 rfl rfl 0 (by decide) f7 (fun _ h9 => h9) rfl dX9_total_174 ?_
                          refine lv_sipush (v := 1883) hx hb dX9_total_177 (by decide) ?_
                          refine va_lald hx hb hK hP 1 1 rfl rfl (show ¬ ((1883 : Int32) < 0 ∨ 1888 ≤ (1883 : Int32).toNatClampNeg) by decide) dX9_total_180 ?_
                          have hE := Option.some.inj hE
                          obtain ⟨q0, q1⟩ := Prod.mk.inj hE
                          exact el hx hb hr hlocks hK hP hD hS q0 (by rw [q1]) dX9_total_181
                        · replace hE := it_f hE c_5_11
                          by_cases c_5_12 : x1 = 12
                          · replace hE := it_t hE c_5_12
                            refine lv_tableIn (tgt := 182) hx hb dX9_total_6 (by rw [c_5_12]; decide) (by rw [c_5_12]; decide) (off := 176) (by rw [c_5_12]; decide) (by decide) ?_
                            refine lv_aload_n hx hb dX9_total_182 rfl (lv_at hl 0 rfl) ?_
                            refine va_get (D := D) (ci := 9) (v := .ref (aM 1)) (C := RX9) (T := TX9) (N := 13) hx hb hts iX9 hown hK hP 0 rfl rfl 0 (by decide) f7 (fun _ h9 => h9) rfl dX9_total_183 ?_
                            refine lv_sipush (v := 1884) hx hb dX9_total_186 (by decide) ?_
                            refine va_lald hx hb hK hP 1 1 rfl rfl (show ¬ ((1884 : Int32) < 0 ∨ 1888 ≤ (1884 : Int32).toNatClampNeg) by decide) dX9_total_189 ?_
                            have hE := Option.some.inj hE
                            obtain ⟨q0, q1⟩ := Prod.mk.inj hE
                            exact el hx hb hr hlocks hK hP hD hS q0 (by rw [q1]) dX9_total_190
                          · replace hE := it_f hE c_5_12
                            by_cases c_5_13 : x1 = 13
                            · replace hE := it_t hE c_5_13
                              refine lv_tableIn (tgt := 191) hx hb dX9_total_6 (by rw [c_5_13]; decide) (by rw [c_5_13]; decide) (off := 185) (by rw [c_5_13]; decide) (by decide) ?_
                              refine lv_aload_n hx hb dX9_total_191 rfl (lv_at hl 0 rfl) ?_
                              refine va_get (D := D) (ci := 9) (v := .ref (aM 1)) (C := RX9) (T := TX9) (N := 13) hx hb hts iX9 hown hK hP 0 rfl rfl 0 (by decide) f7 (fun _ h9 => h9) rfl dX9_total_192 ?_
                              refine lv_sipush (v := 1885) hx hb dX9_total_195 (by decide) ?_
                              refine va_lald hx hb hK hP 1 1 rfl rfl (show ¬ ((1885 : Int32) < 0 ∨ 1888 ≤ (1885 : Int32).toNatClampNeg) by decide) dX9_total_198 ?_
                              have hE := Option.some.inj hE
                              obtain ⟨q0, q1⟩ := Prod.mk.inj hE
                              exact el hx hb hr hlocks hK hP hD hS q0 (by rw [q1]) dX9_total_199
                            · replace hE := it_f hE c_5_13
                              by_cases c_5_14 : x1 = 14
                              · replace hE := it_t hE c_5_14
                                refine lv_tableIn (tgt := 200) hx hb dX9_total_6 (by rw [c_5_14]; decide) (by rw [c_5_14]; decide) (off := 194) (by rw [c_5_14]; decide) (by decide) ?_
                                refine lv_aload_n hx hb dX9_total_200 rfl (lv_at hl 0 rfl) ?_
                                refine va_get (D := D) (ci := 9) (v := .ref (aM 1)) (C := RX9) (T := TX9) (N := 13) hx hb hts iX9 hown hK hP 0 rfl rfl 0 (by decide) f7 (fun _ h9 => h9) rfl dX9_total_201 ?_
                                refine lv_sipush (v := 1886) hx hb dX9_total_204 (by decide) ?_
                                refine va_lald hx hb hK hP 1 1 rfl rfl (show ¬ ((1886 : Int32) < 0 ∨ 1888 ≤ (1886 : Int32).toNatClampNeg) by decide) dX9_total_207 ?_
                                have hE := Option.some.inj hE
                                obtain ⟨q0, q1⟩ := Prod.mk.inj hE
                                exact el hx hb hr hlocks hK hP hD hS q0 (by rw [q1]) dX9_total_208
                              · replace hE := it_f hE c_5_14
                                by_cases c_5_15 : x1 = 15
                                · replace hE := it_t hE c_5_15
                                  refine lv_tableIn (tgt := 209) hx hb dX9_total_6 (by rw [c_5_15]; decide) (by rw [c_5_15]; decide) (off := 203) (by rw [c_5_15]; decide) (by decide) ?_
                                  refine lv_aload_n hx hb dX9_total_209 rfl (lv_at hl 0 rfl) ?_
                                  refine va_get (D := D) (ci := 9) (v := .int (mM_1 6 0)) (C := RX9) (T := TX9) (N := 13) hx hb hts iX9 hown hK hP 0 rfl rfl 6 (by decide) f51 (fun _ h9 => h9) rfl dX9_total_210 ?_
                                  refine lv_i2l hx hb dX9_total_213 rfl ?_
                                  have hE := Option.some.inj hE
                                  obtain ⟨q0, q1⟩ := Prod.mk.inj hE
                                  exact el hx hb hr hlocks hK hP hD hS q0 (by rw [q1]) dX9_total_214
                                · replace hE := it_f hE c_5_15
                                  refine lv_tableOut (tgt := 215) hx hb dX9_total_6 (sw_out (lo := 0) (hi := 15) (fun z h1 h2 => ?_)) (by decide) ?_
                                  · rcases (show z = 0 ∨ z = 1 ∨ z = 2 ∨ z = 3 ∨ z = 4 ∨ z = 5 ∨ z = 6 ∨ z = 7 ∨ z = 8 ∨ z = 9 ∨ z = 10 ∨ z = 11 ∨ z = 12 ∨ z = 13 ∨ z = 14 ∨ z = 15 by omega) with rfl | rfl | rfl | rfl | rfl | rfl | rfl | rfl | rfl | rfl | rfl | rfl | rfl | rfl | rfl | rfl
                                    · exact fun q9 => c_5_0 (q9.trans (by decide))
                                    · exact fun q9 => c_5_1 (q9.trans (by decide))
                                    · exact fun q9 => c_5_2 (q9.trans (by decide))
                                    · exact fun q9 => c_5_3 (q9.trans (by decide))
                                    · exact fun q9 => c_5_4 (q9.trans (by decide))
                                    · exact fun q9 => c_5_5 (q9.trans (by decide))
                                    · exact fun q9 => c_5_6 (q9.trans (by decide))
                                    · exact fun q9 => c_5_7 (q9.trans (by decide))
                                    · exact fun q9 => c_5_8 (q9.trans (by decide))
                                    · exact fun q9 => c_5_9 (q9.trans (by decide))
                                    · exact fun q9 => c_5_10 (q9.trans (by decide))
                                    · exact fun q9 => c_5_11 (q9.trans (by decide))
                                    · exact fun q9 => c_5_12 (q9.trans (by decide))
                                    · exact fun q9 => c_5_13 (q9.trans (by decide))
                                    · exact fun q9 => c_5_14 (q9.trans (by decide))
                                    · exact fun q9 => c_5_15 (q9.trans (by decide))
                                  · refine lv_aload_n hx hb dX9_total_215 rfl (lv_at hl 0 rfl) ?_
                                    refine lv_iconst (v := 1) hx hb dX9_total_216 (by decide) ?_
                                    obtain ⟨r_2, mM_3, hc_4, hE⟩ := bd2_el hE
                                    refine ki (X := []) (Y := []) (ws1 := (W_M cy aM mM_3 inM)) (rV (X := []) (Y := []) (As := [.int (1 : Int32)]) (rest := []) hC (c_X9_refuse l D cy aM (1 : Int32) mM_1 inM r_2 mM_3 hc_4) (cwV 1 hts gX9_total_X9_refuse rfl rfl rfl cd_X9_refuse ⟨Nat.le_of_ble_eq_true rfl, Nat.le_of_ble_eq_true rfl⟩) hK hN hP hD hS hA rfl 0 9 rfl rfl rfl hl.1 rfl (lv_room (Nat.le_of_ble_eq_true rfl)) dX9_total_217 ⟨Nat.le_of_ble_eq_true rfl, Nat.le_of_ble_eq_true rfl⟩) hP hD hS hA rfl rfl rfl (fun H locs hP hD hS => ?_)
                                    refine lv_i2l hx hb dX9_total_220 rfl ?_
                                    have hE := Option.some.inj hE
                                    obtain ⟨q0, q1⟩ := Prod.mk.inj hE
                                    exact el hx hb hr hlocks hK hP hD hS q0 (by rw [q1]) dX9_total_221
